theorem e3_uu {K : e3_H} {a k v w : Int} : e3_up (e3_up K a k v) a k w = e3_up K a k w := by
  funext b x
  by_cases h : b = a ∧ x = k
  · rw [h.1, h.2, e3_up_self, e3_up_self]
  · rw [e3_up_ne h, e3_up_ne h, e3_up_ne h]
theorem e3_u0 {K : e3_H} {a k v : Int} (h : K a k = v) : e3_up K a k v = K := by
  funext b x
  by_cases hb : b = a ∧ x = k
  · rw [hb.1, hb.2, e3_up_self, h]
  · rw [e3_up_ne hb]
section CSP
variable {σ g : e3_H} {m : Nat} {pn cx : Int → Int} {cnt : Nat} {R : a_RW} {fu way t : Int} {H : e3_H} {G : e3_G} {π : a_PT} {fr P b : Nat}
/-- a label is known at a place -/
theorem GS_know {x lo hi p : Int} {fr2 : Nat} (hS : GS σ g m pn cx cnt R fu way t G π fr2 P b H) (hp : 0 ≤ p ∧ p < cnt) (hx : cx p = x) (hn : kn π x = none) : GS σ g m pn cx cnt R fu way t G ((x, lo, hi) :: π) fr2 P b (e3_up H (H 16 4) p hi) := by
  obtain ⟨hD, ⟨a2, a3, a4, a5⟩, a6, a7, a8, a9, a10⟩ := hS
  obtain ⟨kl, ⟨k1, k2⟩, k3, k4, k5⟩ := a6
  have hcp := hD.2.2.2.2.1.2.2
  have h7 := hD.2.2.2.2.1.1
  obtain ⟨_, _, L, y3, y4, y5, y6, y7, y8, y9⟩ := id hcp
  obtain ⟨t0, t1, _⟩ := id a7
  have n16 : H 16 4 ≠ 16 := by omega
  have nt' : H 16 4 ≠ t := ga_ne k2 t1 (by decide)
  have e16 : ∀ y : Int, e3_up H (H 16 4) p hi 16 y = H 16 y := fun y => e3_up_ne (ne_1 (by omega))
  have hDF : DF G H (e3_up H (H 16 4) p hi) := by
    refine ⟨fun c y hc => e3_up_ne (fun z => ?_), fun c y d n hb h4 h5 h6 h7 => e3_up_ne (fun z => ?_)⟩
    · have := z.1; omega
    · rw [z.1] at hb
      have e := ga_eq hb k2
      cases e
      exact h7 ⟨rfl, k3.2.1⟩
  refine ⟨DX_0 hD hDF, ⟨by rw [e16]; exact a2, by rw [e16]; exact a3, by rw [e16]; exact a4, by rw [e16]; exact a5⟩, ⟨kl, by rw [e16]; exact ⟨k1, k2⟩, k3, by rw [e16]; exact k4, fun p' p0 p1 => ?_⟩, TRE_eq a7 (fun y _ => e3_up_ne (ne_1 (fun z => nt' z.symm))), by rw [e16]; exact a8, by rw [e16]; exact a9, by rw [e3_up_ne (ne_1 (fun z => nt' z.symm))]; exact a10⟩
  rw [e16]
  by_cases hpp : p' = p
  · subst hpp
    rw [e3_up_self, hx]
    show hi = kv ((x, lo, hi) :: π) x
    unfold kv kn
    rw [if_pos rfl]
  · rw [e3_up_ne (fun z => hpp z.2), k5 p' p0 p1]
    have hne : x ≠ cx p' := fun z => hpp (by
      have := y9 p.toNat p'.toNat (by omega) (by omega) (by rw [Int.toNat_of_nonneg hp.1, Int.toNat_of_nonneg p0, hx]; exact z)
      omega)
    unfold kv
    have : kn ((x, lo, hi) :: π) (cx p') = kn π (cx p') := by
      show (if x = cx p' then some (lo, hi) else kn π (cx p')) = _
      rw [if_neg hne]
    rw [this]
/-- the children of a node that asks -/
theorem cD_75 {n k M : Nat} {l p x s : Int} {Q : Int → e3_H → e3_G → Prop} {f : Int} (hG : GB G) (rec : GRO σ g m pn cx cnt R fu way t G n) (hRT : RT σ f R) (hSP : SP σ m R π) (hM : MK R (fun w => lv σ w π) M) (hp : 0 ≤ p ∧ p < cnt) (hx : cx p = x) (hx1 : 1 ≤ x) (hask : ask π x = true) (hs0 : 0 ≤ s) (hsh : ∀ w, w ∈ R → lv σ w π = true → ∀ q, (q, x) ∈ w.2 → σ 47 q = s) (hw0 : ∃ w0 q0, w0 ∈ R ∧ lv σ w0 π = true ∧ (q0, x) ∈ w0.2) (LBL : List (Int × Int)) (hLB : LBL = lbs σ m R π x s) (to : Nat) (hto : to = fr + LBL.length) (ka : Int)
    (hl : 1 ≤ l ∧ l + 1 ≤ 121) (hn : 124 ≤ n + (l + 1)) (Pn : Nat) : ∀ (L2 L1 : List (Int × Int)) (A B : List a_ND) (K : e3_H) (v : Int) (Pj : Nat), LBL = L1 ++ L2 → grs (gr σ m R way k) π x L2 B → GS σ g m pn cx cnt R fu way t G π to Pj (b + 1 + A.length) K → K 16 4 = ka → K ka p = -9223372036854775808 → GF t (b + 1) fr H K → (∀ (i : Nat) (e : Int × Int), LBL[i]? = some e → K 25 ((fr : Int) + i) = e.2) → TC t cx cnt ((b : Int) + 1) A K → (b + 1 + A.length + L2.length ≤ Pj ∧ to + 1 ≤ Pj ∧ Pj ≤ 120 ∧ l + 1 ≤ Pj) → Pj + L1.length + B.length = Pn + A.length + B.length →
      (Pn + A.length + B.length ≤ 120 + LBL.length → ∀ K2, GF t (b + 1) fr H K2 → K2 16 6 = (fr : Int) → K2 16 7 = (Pn : Int) + A.length + B.length - LBL.length → K2 t 0 = (b : Int) + 1 + A.length + B.length → TC t cx cnt ((b : Int) + 1) (A ++ B) K2 → Q 1 K2 G) → (Pn + A.length + B.length ≤ 120 + LBL.length ∨ 120 + LBL.length < Pn + A.length + B.length) → (120 + LBL.length < Pn + A.length + B.length → ∀ K2, GF t (b + 1) fr H K2 → K2 16 6 = (fr : Int) → Q 0 K2 G) →
      wD_split_75 (wD_grow n) Q (L2.length + 1) (M : Int) p l fr to 1 ((fr : Int) + L1.length) (e3_up K ka p v) G := by
  have hkn : kn π x = none := by
    unfold ask at hask
    rw [Bool.and_eq_true] at hask
    cases hk : kn π x with
    | none => rfl
    | some v => rw [hk] at hask; exact absurd hask.1 (fun z => by cases z)
  -- the end: what was known is forgotten
  have exit : ∀ (K : e3_H) (v l9 : Int) (to2 Pj b2 : Nat), GS σ g m pn cx cnt R fu way t G π to2 Pj b2 K → K 16 4 = ka → K ka p = -9223372036854775808 → (l9 = 0 ∨ l9 = 1) → Q l9 (e3_up K 16 6 (fr : Int)) G → wD_split_125 (wD_grow n) Q p fr l9 (e3_up K ka p v) G := by
    intro K v l9 to2 Pj b2 hS hka hun h9 hq
    obtain ⟨kl, ⟨k1, k2⟩, k3, k4, k5⟩ := hS.2.2.1
    have e4 : e3_up K ka p v 16 4 = ka := by rw [e3_up_ne (ne_1 (by omega))]; exact hka
    rw [hka] at k2
    unfold wD_split_125
    rw [e4, i64_min]
    refine ⟨ga_oa k2 (by omega) ⟨by omega, by omega⟩, ?_⟩
    intro H1 e1
    intro H3 e3
    rw [e3_uu, e3_u0 hun] at e1
    rw [e3, e1]
    exact ⟨h9, hq⟩
  intro L2
  induction L2 with
  | nil =>
    intro L1 A B K v Pj hL hB hS hka hun hF h25 hTC hP hPn hok _ hbad
    have hB : B = [] := hB
    subst hB
    rw [List.append_nil] at hL
    have hlen : LBL.length = L1.length := by rw [hL]
    refine brF (by omega) (exit K v 1 to Pj _ hS hka hun (Or.inr rfl) ?_)
    obtain ⟨t0, _⟩ := id hS.2.2.2.1
    have eq6 : ∀ a y : Int, ¬ (a = 16 ∧ y = 6) → e3_up K 16 6 (fr : Int) a y = K a y := fun a y h => e3_up_ne h
    have hB0 : ([] : List a_ND).length = 0 := rfl
    have hPj : Pj ≤ 120 := hP.2.2.1
    refine hok (by omega) _ ?_ (e3_up_self _ _ _ _) ?_ ?_ ?_
    · exact ⟨fun a y h1 h2 h3 h4 => by rw [eq6 a y (fun z => h1 z.1)]; exact hF.1 a y h1 h2 h3 h4, fun y h1 h2 => by rw [eq6 16 y (fun z => h1 z.2)]; exact hF.2.1 y h1 h2, fun y h1 => by rw [eq6 25 y (by omega)]; exact hF.2.2.1 y h1, fun y h1 => by rw [eq6 t y (by omega)]; exact hF.2.2.2.1 y h1, fun a y h1 h2 h3 => by rw [eq6 a y (by omega)]; exact hF.2.2.2.2 a y h1 h2 h3⟩
    · rw [eq6 16 7 (by decide), hS.2.2.2.2.2.1]; omega
    · rw [eq6 t 0 (by omega), hS.2.2.2.2.2.2]; omega
    · rw [List.append_nil]
      exact TC_eq hTC (fun a y h1 h2 _ => eq6 a y (by omega))
  | cons e L2 ih =>
    intro L1 A B K v Pj hL hB hS hka hun hF h25 hTC hP hPn hok hdec hbad
    obtain ⟨A2, B2, eB, g1, g2⟩ := hB
    have hlen : LBL.length = L1.length + (L2.length + 1) := by rw [hL, List.length_append]; rfl
    obtain ⟨kl, ⟨k1, k2⟩, k3, k4, k5⟩ := id hS.2.2.1
    obtain ⟨t0, t1, tr⟩ := id hS.2.2.2.1
    rw [hka] at k2
    have e4 : e3_up K ka p v 16 4 = ka := by rw [e3_up_ne (ne_1 (by omega))]; exact hka
    have n25 : ka ≠ 25 := by omega
    have h25j : K 25 ((fr : Int) + L1.length) = e.2 := h25 L1.length e (by rw [hL, List.getElem?_append_right (Nat.le_refl _), Nat.sub_self]; rfl)
    have e25 : e3_up K ka p v 25 ((fr : Int) + L1.length) = e.2 := by rw [e3_up_ne (ne_1 (fun z => n25 z.symm))]; exact h25j
    rw [List.length_cons] at hP
    refine brT (by omega) (brF (by decide) ⟨by omega, by rw [e4]; exact ga_oa k2 (by omega) ⟨by omega, by omega⟩, ?_⟩)
    intro H1 e1
    rw [e4, e25, e3_uu] at e1
    refine ⟨by omega, ?_⟩
    have e125 : H1 25 ((fr : Int) + L1.length) = e.2 := by rw [e1, e3_up_ne (ne_1 (fun z => n25 z.symm))]; exact h25j
    rw [e125, e3_w32_id (x := l + 1) (by omega) (by omega), e1]
    have hS1 : GS σ g m pn cx cnt R fu way t G ((x, e.1, e.2) :: π) to Pj (b + 1 + A.length) (e3_up K ka p e.2) := by
      have := GS_know (lo := e.1) (hi := e.2) hS hp hx hkn
      rw [hka] at this
      exact this
    have hmem : (e.1, e.2) ∈ lbs σ m R π x s := by rw [← hLB, hL]; exact List.mem_append_right _ (List.mem_cons_self ..)
    have hSPn : SP σ m R ((x, e.1, e.2) :: π) := ⟨hSP, Or.inr ⟨hx1, hask, s, hs0, hmem, hsh, hw0⟩⟩
    have hgl := gr_len _ _ _ g1
    have hbl := grs_len _ _ g2
    have hBl : B.length = A2.length + B2.length := by rw [eB, List.length_append]
    have hlab : lab ((x, e.1, e.2) :: π) = e.2 := by show (if x = 0 then 0 else e.2) = e.2; rw [if_neg (by omega)]
    have key := rec k ((x, e.1, e.2) :: π) A2 M (fun w => lv σ w π) (l + 1) Pj (b + 1 + A.length) to (e3_up K ka p e.2) (fun x7 H5 G6 => (wD_split_75 (wD_grow n) Q (L2.length + 1) (M : Int) p l fr to x7 (e3_w32 ((fr : Int) + L1.length + 1)) H5 G6)) g1 hSPn hM (fun w hw => ?_) (fun w hw hb0 => hb0) hS1 ⟨by omega, by omega, by omega⟩ ⟨by omega, by omega⟩ (by omega) (fun hle K5 hok5 => ?_) (fun hgt K5 hgf => ?_)
    · rw [hlab] at key
      exact key
    · -- live rows
      show (lv σ w π && posb σ ((x, e.1, e.2) :: π) w.2) = lv σ w ((x, e.1, e.2) :: π)
      obtain ⟨pw, _, nw⟩ := hRT w hw
      cases hlv : lv σ w π with
      | false => rw [Bool.false_and]; show false = (lv σ w π && ok1 σ w (x, e.1, e.2)); rw [hlv, Bool.false_and]
      | true =>
        rw [Bool.true_and]
        cases hpb : posb σ ((x, e.1, e.2) :: π) w.2 with
        | true => exact (lv_step (by omega) hlv ((posb_iff w.2).mp hpb)).symm
        | false =>
          cases hl2 : lv σ w ((x, e.1, e.2) :: π) with
          | false => rfl
          | true =>
            have := (posb_iff w.2).mpr (lv_hld pw (fun p hp => by have := (nw p hp).2.2; omega) _ hl2)
            rw [hpb] at this
            cases this
    · -- a child was drawn
      obtain ⟨o1, o2, o3, o4, o5⟩ := hok5
      have nka : ∀ a : Int, t + 1 ≤ a → a ≤ t + 6 → a ≠ ka := fun a z1 z2 z3 => by
        obtain ⟨u2, v2, w2, x2, y2, z2'⟩ := tr
        have hne6 : ka ≠ t + 6 := by rw [← hka]; exact hS.2.1.2.2.2
        have m1 := ga_ne k2 u2.2 (by decide)
        have m2 := ga_ne k2 v2.2 (by decide)
        have m3 := ga_ne k2 w2.2 (by decide)
        have m4 := ga_ne k2 x2.2 (by decide)
        have m5 := ga_ne k2 y2.2 (by decide)
        omega
      have nkt : ka ≠ t := ga_ne k2 t1 (by decide)
      have k5ka : ∀ y : Int, K5 ka y = e3_up K ka p e.2 ka y := fun y => o1.1 ka y (by omega) n25 nkt (fun z => nka ka z.1 z.2 rfl)
      have hv5 : K5 ka p = e.2 := by rw [k5ka, e3_up_self]
      have hat : ∀ a y : Int, ¬ (a = ka ∧ y = p) → e3_up K5 ka p (-9223372036854775808) a y = K5 a y := fun a y h => e3_up_ne h
      have hGF : GF t (b + 1 + A.length) to K (e3_up K5 ka p (-9223372036854775808)) := by
        refine ⟨fun a y h1 h2 h3 h4 => ?_, fun y h1 h2 => ?_, fun y h1 => ?_, fun y h1 => ?_, fun a y h1 h2 h3 => ?_⟩
        · by_cases hz : a = ka ∧ y = p
          · rw [hz.1, hz.2, e3_up_self]; exact hun.symm
          · rw [hat a y hz, o1.1 a y h1 h2 h3 h4, e3_up_ne hz]
        · rw [hat 16 y (by omega), o1.2.1 y h1 h2, e3_up_ne (by omega)]
        · rw [hat 25 y (by omega), o1.2.2.1 y h1, e3_up_ne (by omega)]
        · rw [hat t y (fun z => nkt z.1.symm), o1.2.2.2.1 y h1, e3_up_ne (fun z => nkt z.1.symm)]
        · rw [hat a y (fun z => nka a h1 h2 z.1), o1.2.2.2.2 a y h1 h2 h3, e3_up_ne (fun z => nka a h1 h2 z.1)]
      have c6 : e3_up K5 ka p (-9223372036854775808) 16 6 = (to : Int) := by rw [hat 16 6 (by omega)]; exact o2
      have c7 : e3_up K5 ka p (-9223372036854775808) 16 7 = ((Pj + A2.length - 1 : Nat) : Int) := by rw [hat 16 7 (by omega), o3]; omega
      have c0 : e3_up K5 ka p (-9223372036854775808) t 0 = ((b + 1 + (A ++ A2).length : Nat) : Int) := by rw [hat t 0 (fun z => nkt z.1.symm), o4, List.length_append]; omega
      have S5 := GS_go hG hS hGF c6 c7 c0
      have hAl : (A ++ A2).length = A.length + A2.length := List.length_append
      rw [e3_w32_id (x := (fr : Int) + L1.length + 1) (by omega) (by omega)]
      have := ih (L1 ++ [e]) (A ++ A2) B2 (e3_up K5 ka p (-9223372036854775808)) e.2 (Pj + A2.length - 1) (by rw [List.append_assoc]; exact hL) g2 S5 (by rw [hat 16 4 (by omega), o1.2.1 4 (by decide) (by decide), e3_up_ne (by omega)]; exact hka) (e3_up_self _ _ _ _) (GF_tr hF hGF (by omega) (by omega)) (fun i y hy => ?_) ?_ ⟨by omega, by omega, by omega, by omega⟩ (by rw [List.length_append, hAl]; show Pj + A2.length - 1 + (L1.length + 1) + B2.length = _; omega) (fun hz K2 z1 z2 z3 z4 z5 => hok (by omega) K2 z1 z2 (by rw [z3, hAl]; omega) (by rw [z4, hAl]; omega) (by rw [eB, ← List.append_assoc]; exact z5)) (by omega) (fun hz => hbad (by omega))
      · rw [e3_uu, e3_u0 hv5, List.length_append] at this
        rw [show (fr : Int) + L1.length + 1 = (fr : Int) + ((L1.length + 1 : Nat) : Int) by omega]
        exact this
      · have hil : i < LBL.length := (List.getElem?_eq_some_iff.mp hy).1
        rw [hat 25 _ (by omega), o1.2.2.1 _ (by omega), e3_up_ne (by omega)]
        exact h25 i y hy
      · refine TC_app (TC_eq hTC (fun a y h1 h2 h3 => hGF.2.2.2.2 a y h1 h2 (by omega))) (TC_eq (b := (b : Int) + 1 + A.length) ?_ (fun a y h1 h2 _ => hat a y (fun z => nka a h1 h2 z.1)))
        have := o5
        rw [show ((b + 1 + A.length : Nat) : Int) = (b : Int) + 1 + A.length by omega] at this
        exact this
    · -- it grew too large
      have n25' := n25
      have nkt : ka ≠ t := ga_ne k2 t1 (by decide)
      have nka : ∀ a : Int, t + 1 ≤ a → a ≤ t + 6 → a ≠ ka := fun a z1 z2 z3 => by
        obtain ⟨u2, v2, w2, x2, y2, z2'⟩ := tr
        have hne6 : ka ≠ t + 6 := by rw [← hka]; exact hS.2.1.2.2.2
        have m1 := ga_ne k2 u2.2 (by decide)
        have m2 := ga_ne k2 v2.2 (by decide)
        have m3 := ga_ne k2 w2.2 (by decide)
        have m4 := ga_ne k2 x2.2 (by decide)
        have m5 := ga_ne k2 y2.2 (by decide)
        omega
      have hat : ∀ a y : Int, ¬ (a = ka ∧ y = p) → e3_up K5 ka p (-9223372036854775808) a y = K5 a y := fun a y h => e3_up_ne h
      have hGF : GF t (b + 1 + A.length) to K (e3_up K5 ka p (-9223372036854775808)) := by
        refine ⟨fun a y h1 h2 h3 h4 => ?_, fun y h1 h2 => ?_, fun y h1 => ?_, fun y h1 => ?_, fun a y h1 h2 h3 => ?_⟩
        · by_cases hz : a = ka ∧ y = p
          · rw [hz.1, hz.2, e3_up_self]; exact hun.symm
          · rw [hat a y hz, hgf.1 a y h1 h2 h3 h4, e3_up_ne hz]
        · rw [hat 16 y (by omega), hgf.2.1 y h1 h2, e3_up_ne (by omega)]
        · rw [hat 25 y (by omega), hgf.2.2.1 y h1, e3_up_ne (by omega)]
        · rw [hat t y (fun z => nkt z.1.symm), hgf.2.2.2.1 y h1, e3_up_ne (fun z => nkt z.1.symm)]
        · rw [hat a y (fun z => nka a h1 h2 z.1), hgf.2.2.2.2 a y h1 h2 h3, e3_up_ne (fun z => nka a h1 h2 z.1)]
      have hv5 : K5 ka p = e.2 := by
        rw [hgf.1 ka p (by omega) n25 nkt (fun z => nka ka z.1 z.2 rfl), e3_up_self]
      have e4' : K5 16 4 = ka := by rw [hgf.2.1 4 (by decide) (by decide), e3_up_ne (by omega)]; exact hka
      have end0 : wD_split_125 (wD_grow n) Q p fr 0 K5 G := by
        unfold wD_split_125
        rw [e4', i64_min]
        refine ⟨ga_oa k2 (by omega) ⟨by omega, by omega⟩, ?_⟩
        intro H3 e3
        intro H4 e4
        refine ⟨Or.inl rfl, ?_⟩
        rw [e4, e3]
        have hF2 := GF_tr hF hGF (by omega) (by omega)
        have eq6 : ∀ a y : Int, ¬ (a = 16 ∧ y = 6) → e3_up (e3_up K5 ka p (-9223372036854775808)) 16 6 (fr : Int) a y = e3_up K5 ka p (-9223372036854775808) a y := fun a y h => e3_up_ne h
        exact hbad (by omega) _ ⟨fun a y h1 h2 h3 h4 => by rw [eq6 a y (fun z => h1 z.1)]; exact hF2.1 a y h1 h2 h3 h4, fun y h1 h2 => by rw [eq6 16 y (fun z => h1 z.2)]; exact hF2.2.1 y h1 h2, fun y h1 => by rw [eq6 25 y (by omega)]; exact hF2.2.2.1 y h1, fun y h1 => by rw [eq6 t y (by omega)]; exact hF2.2.2.2.1 y h1, fun a y h1 h2 h3 => by rw [eq6 a y (by omega)]; exact hF2.2.2.2.2 a y h1 h2 h3⟩ (e3_up_self _ _ _ _)
      rw [e3_w32_id (x := (fr : Int) + L1.length + 1) (by omega) (by omega)]
      exact ⟨fun _ => brT rfl end0, fun _ => end0⟩
end CSP
