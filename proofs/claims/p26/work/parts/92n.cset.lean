/-- while a tree is drawn -/
def GS (σ g : e3_H) (m : Nat) (pn cx : Int → Int) (cnt : Nat) (R : a_RW) (fu way t : Int) (G : e3_G) (π : a_PT) (fr P b : Nat) (H : e3_H) : Prop := DX σ g m pn cx cnt R fu H G ∧ (H 16 2 = fu ∧ H 16 3 = way ∧ H 16 1 = t ∧ H 16 4 ≠ t + 6) ∧ DK π cx cnt H G ∧ TRE t H G ∧ H 16 6 = (fr : Int) ∧ H 16 7 = (P : Int) ∧ H t 0 = (b : Int)
/-- a tree was drawn -/
def GOK (cx : Int → Int) (cnt : Nat) (t : Int) (N : List a_ND) (fr P b : Nat) (H K : e3_H) : Prop := GF t b fr H K ∧ K 16 6 = (fr : Int) ∧ K 16 7 = (P : Int) + N.length - 1 ∧ K t 0 = (b : Int) + N.length ∧ TC t cx cnt b N K
/-- what growing does -/
def GRO (σ g : e3_H) (m : Nat) (pn cx : Int → Int) (cnt : Nat) (R : a_RW) (fu way t : Int) (G : e3_G) (n : Nat) : Prop := ∀ (k : Nat) (π : a_PT) (N : List a_ND) (M : Nat) (b0 : Int × List (Int × Int) → Bool) (l : Int) (P b fr : Nat) (H : e3_H) (Q : Int → e3_H → e3_G → Prop), gr σ m R way k π N → SP σ m R π → MK R b0 M → (∀ w, w ∈ R → (b0 w && posb σ π w.2) = lv σ w π) → (∀ w, w ∈ R → b0 w = true → lvp σ w π) → GS σ g m pn cx cnt R fu way t G π fr P b H → (b + 1 ≤ P ∧ fr + 1 ≤ P ∧ P ≤ 120) → (1 ≤ l ∧ l ≤ P) → 124 ≤ n + l → (P + N.length ≤ 121 → ∀ K, GOK cx cnt t N fr P b H K → Q 1 K G) → (121 < P + N.length → ∀ K, GF t b fr H K → Q 0 K G) → wD_grow n (M : Int) (lab π) l H G Q
section CSE
variable {σ g : e3_H} {m : Nat} {pn cx : Int → Int} {cnt : Nat} {R : a_RW} {fu way t : Int} {H : e3_H} {G : e3_G} {π : a_PT} {fr P b : Nat}
theorem DK_GF {b2 fr2 : Nat} {K : e3_H} (hT : TRE t H G) (hka : H 16 4 ≠ t + 6) (h : DK π cx cnt H G) (hF : GF t b2 fr2 H K) : DK π cx cnt K G := by
  obtain ⟨kl, ⟨k1, k2⟩, k3, k4, k5⟩ := h
  obtain ⟨h0, h1, ⟨a1, a2⟩, ⟨b1, b2⟩, ⟨c1, c2⟩, ⟨d1, d2⟩, ⟨e1, e2⟩, ⟨f1, f2⟩⟩ := hT
  have e4 : K 16 4 = H 16 4 := hF.2.1 4 (by decide) (by decide)
  refine ⟨kl, by rw [e4]; exact ⟨k1, k2⟩, k3, by rw [e4]; exact k4, fun p p0 p1 => ?_⟩
  have n0 : H 16 4 ≠ t := ga_ne k2 h1 (by decide)
  have n1 := ga_ne k2 a2 (by decide)
  have n2 := ga_ne k2 b2 (by decide)
  have n3 := ga_ne k2 c2 (by decide)
  have n4 := ga_ne k2 d2 (by decide)
  have n5 := ga_ne k2 e2 (by decide)
  rw [e4, hF.1 _ p (by omega) (by omega) n0 (by omega)]
  exact k5 p p0 p1
/-- the state goes on -/
theorem GS_go {b2 fr2 fr3 P3 b3 : Nat} {K : e3_H} (hG : GB G) (h : GS σ g m pn cx cnt R fu way t G π fr P b H) (hF : GF t b2 fr2 H K) (h6 : K 16 6 = (fr3 : Int)) (h7 : K 16 7 = (P3 : Int)) (h0 : K t 0 = (b3 : Int)) : GS σ g m pn cx cnt R fu way t G π fr3 P3 b3 K := by
  obtain ⟨a1, ⟨a2, a3, a4, a5⟩, a6, a7, _⟩ := h
  have e : ∀ x : Int, x ≠ 6 → x ≠ 7 → K 16 x = H 16 x := hF.2.1
  exact ⟨DX_0 a1 (GF_DF hG a7 hF), ⟨by rw [e _ (by decide) (by decide)]; exact a2, by rw [e _ (by decide) (by decide)]; exact a3, by rw [e _ (by decide) (by decide)]; exact a4, by rw [e _ (by decide) (by decide)]; exact a5⟩, DK_GF a7 a5 a6 hF, TRE_eq a7 hF.2.2.2.1, h6, h7, h0⟩
theorem cF_rowsOf {Q : Int → e3_H → e3_G → Prop} {i : Nat} {w0 : Int × List (Int × Int)} (hD : DX σ g m pn cx cnt R fu H G) (hi : R[i]? = some w0) (hQ : ∀ X : Nat, MK R (fun w => decide (w.1 = w0.1)) X → Q (X : Int) H G) : wF_rowsOf Q fu (H (H (fu + 3) i) 0) H G := by
  obtain ⟨hkd, ⟨f1, f2⟩, ⟨f3, f4⟩, ⟨f5, f6⟩, ⟨f7, f8, f9⟩, hrow, hru⟩ := hD
  have ob := ga_ob (c := 8) f2
  have key : ∀ (d j : Nat) (M : Nat), j + d = R.length → M < 2 ^ 40 → (∀ i : Nat, M.testBit i = (decide (i < j) && (match R[i]? with
    | none => false
    | some w => decide (w.1 = w0.1)))) → wF_rowsOf_5 Q (d + 1) fu (H (H (fu + 3) i) 0) (M : Int) j H G := by
    intro d
    induction d with
    | zero =>
      intro j M hj h40 ht
      refine ⟨ob, brF (by rw [f3]; omega) (hQ M ⟨h40, fun i => ?_⟩)⟩
      have hh := ht i
      by_cases hi : i < j
      · have e0 : decide (i < j) = true := decide_eq_true hi
        rw [e0, Bool.true_and] at hh
        exact hh
      · have e0 : decide (i < j) = false := decide_eq_false hi
        rw [e0, Bool.false_and] at hh
        rw [hh, List.getElem?_eq_none (by omega)]
    | succ d ih =>
      intro j M hj h40 ht
      have hjR : j < R.length := by omega
      have hw : R[j]? = some R[j] := List.getElem?_eq_getElem hjR
      have next : ∀ M2 : Nat, M2 < 2 ^ 40 → (∀ i : Nat, M2.testBit i = (decide (i < j + 1) && (match R[i]? with
        | none => false
        | some w => decide (w.1 = w0.1)))) → wF_rowsOf_35 Q (fun l0 l1 l2 l4 H G => wF_rowsOf_5 Q (d + 1) l0 l1 l2 l4 H G) fu (H (H (fu + 3) i) 0) (M2 : Int) j H G := fun M2 h2 t2 => by
        show wF_rowsOf_5 Q (d + 1) fu (H (H (fu + 3) i) 0) (M2 : Int) (e3_w32 ((j : Int) + 1)) H G
        rw [e3_w32_id (x := (j : Int) + 1) (by omega) (by omega)]
        exact ih (j + 1) M2 (by omega) h2 t2
      have hlt : ∀ i : Nat, i ≠ j → decide (i < j + 1) = decide (i < j) := fun i hi => by
        by_cases hlt : i < j
        · rw [decide_eq_true hlt, decide_eq_true (by omega)]
        · rw [decide_eq_false hlt, decide_eq_false (by omega)]
      have hiff := hru j i R[j] w0 hw hi
      refine ⟨ob, brT (by rw [f3]; omega) ⟨ob, by rw [f5]; exact ga_oa f6 (by omega) ⟨by omega, by omega⟩, by rw [f5]; exact ga_ob (c := 11) (hrow j _ hw).1.2, ?_⟩⟩
      rw [f5]
      refine ⟨fun hz => ?_, fun hz => next M h40 (fun k => ?_)⟩
      · rw [m_shl (by omega), m_or (Nat.lt_of_lt_of_le h40 (Nat.pow_le_pow_right (by omega) (by omega))) (Nat.pow_lt_pow_right (by omega) (by omega))]
        refine next (M ||| 2 ^ j) (Nat.or_lt_two_pow h40 (Nat.pow_lt_pow_right (by omega) (by omega))) (fun k => ?_)
        rw [Nat.testBit_or, Nat.testBit_two_pow, ht k]
        by_cases hk : k = j
        · subst hk
          rw [hw]
          simp [hiff.mp hz]
        · have e1 : decide (j = k) = false := decide_eq_false (fun y => hk y.symm)
          rw [e1, hlt k hk, Bool.or_false]
      · rw [ht k]
        by_cases hk : k = j
        · subst hk
          rw [hw]
          have : ¬ (R[k].1 = w0.1) := fun y => hz (hiff.mpr y)
          simp [this]
        · rw [hlt k hk]
  exact ⟨R.length + 1, key R.length 0 0 (by omega) (by decide) (fun i => by rw [Nat.zero_testBit, decide_eq_false (by omega), Bool.false_and])⟩
/-- a node that answers, or guards -/
theorem cD_settle {n i M : Nat} {k : Nat} {l r : Int} {T : List (Int × Int)} {N : List a_ND} {Q : Int → e3_H → e3_G → Prop} (hG : GB G) (rec : GRO σ g m pn cx cnt R fu way t G n) (hS : GS σ g m pn cx cnt R fu way t G π fr P (b + 1) H) (hSP : SP σ m R π) (hR : ∀ w, w ∈ R → w.2.Pairwise (fun a b => a.2 ≠ b.2) ∧ ∀ p, p ∈ w.2 → 1 ≤ p.2) (hM : MK R (fun w => lv σ w π) M) (hi : R[i]? = some (r, T)) (hP : b + 1 ≤ P ∧ fr + 1 ≤ P ∧ P ≤ 120) (hl : 1 ≤ l ∧ l ≤ P) (hn : 124 ≤ n + (l + 1)) (hr : 0 ≤ r)
    (hgr : σ 78 r ≠ 0 → gr σ m R way k ((0, r, r) :: π) N)
    (h0 : σ 78 r = 0 → Q 1 (e3_up (e3_up H (t + 2) b i) (t + 1) b 1) G)
    (h1 : σ 78 r ≠ 0 → P + 1 + N.length ≤ 121 → ∀ K, GF t b fr H K → K 16 6 = (fr : Int) → K 16 7 = (P : Int) + N.length → K t 0 = (b : Int) + 1 + N.length → TC t cx cnt ((b : Int) + 1) N K → K (t + 1) b = 2 → K (t + 2) b = i → K (t + 3) b = H (t + 3) b → K (t + 4) b = 1 → K (t + 6) b = H (t + 6) b → Q 1 K G)
    (hf : σ 78 r ≠ 0 → 121 < P + 1 + N.length → ∀ K, GF t b fr H K → Q 0 K G) : wD_settle (wD_grow n) Q b (M : Int) i l H G := by
  have hS2 := hS
  obtain ⟨hD, ⟨a2, a3, a4, a5⟩, a6, a7, a8, a9, a10⟩ := hS2
  obtain ⟨hkd, ⟨f1, f2⟩, ⟨f3, f4⟩, ⟨f5, f6⟩, ⟨f7, f8, f9⟩, hrow, hru⟩ := id hD
  obtain ⟨t0, t1, ⟨u1, u2⟩, ⟨v1, v2⟩, ⟨w1, w2⟩, ⟨x1, x2⟩, ⟨y1, y2⟩, ⟨z1, z2⟩⟩ := id a7
  have hil : i < R.length := (List.getElem?_eq_some_iff.mp hi).1
  have hrw := hrow i _ hi
  have ob8 : e3_ob G 8 fu := ga_ob (c := 8) f2
  have ob5 : e3_ob G 5 t := ga_ob (c := 5) t1
  have hra := hrw.2.2.2.2.2.2.2.2.2
  unfold wD_settle
  rw [a2, f5, a4, v1]
  refine ⟨ob8, ga_oa f6 (by omega) ⟨by omega, by omega⟩, ga_ob (c := 11) hrw.1.2, ob5, ga_oa v2 (by omega) ⟨by omega, by omega⟩, ?_⟩
  intro H1 e1
  have at1 : ∀ a x : Int, a ≠ t + 2 → H1 a x = H a x := fun a x ha => by rw [e1, e3_up_ne (ne_1 ha)]
  have nra : H (H (fu + 3) i) 0 ≠ t + 2 := ga_ne hra.1.2 v2 (by decide)
  have nra1 : H (H (fu + 3) i) 0 ≠ t + 1 := ga_ne hra.1.2 u2 (by decide)
  refine ⟨ga_ob (c := 9) hra.1.2, ga_ob (c := 9) hra.1.2, ?_⟩
  rw [at1 _ 7 nra, hra.2]
  refine ⟨fun hz => ⟨Or.inl rfl, brT rfl ?_⟩, fun hz => ⟨Or.inr rfl, brF (by decide) ?_⟩⟩
  · rw [at1 16 1 (by omega), a4, at1 t 4 (by omega), u1]
    refine ⟨ob5, ga_oa u2 (by omega) ⟨by omega, by omega⟩, ?_⟩
    intro H10 e10
    rw [e10, e1]
    exact h0 hz
  · rw [at1 16 1 (by omega), a4, at1 t 4 (by omega), u1]
    refine ⟨ob5, ga_oa u2 (by omega) ⟨by omega, by omega⟩, ?_⟩
    intro H13 e13
    have at13 : ∀ a x : Int, a ≠ t + 1 → a ≠ t + 2 → H13 a x = H a x := fun a x h2 h3 => by rw [e13, e3_up_ne (ne_1 h2)]; exact at1 a x h3
    rw [at13 16 1 (by omega) (by omega), a4, at13 t 7 (by omega) (by omega), x1]
    refine ⟨ob5, ga_oa x2 (by omega) ⟨by omega, by omega⟩, ?_⟩
    intro H16 e16
    have at16 : ∀ a x : Int, a ≠ t + 1 → a ≠ t + 2 → a ≠ t + 4 → H16 a x = H a x := fun a x h2 h3 h4 => by rw [e16, e3_up_ne (ne_1 h4)]; exact at13 a x h2 h3
    intro H19 e19
    rw [at16 16 7 (by omega) (by omega) (by omega), a9, e3_w32_id (x := (P : Int) + 1) (by omega) (by omega)] at e19
    have e7 : H19 16 7 = ((P + 1 : Nat) : Int) := by rw [e19, e3_up_self]; omega
    have at19 : ∀ a x : Int, ¬ (a = 16 ∧ x = 7) → H19 a x = H16 a x := fun a x h2 => by rw [e19, e3_up_ne h2]
    have hF : GF t b fr H H19 := by
      refine ⟨fun a x h2 h3 h4 h5 => by rw [at19 a x (fun z => h2 z.1)]; exact at16 a x (by omega) (by omega) (by omega), fun x h2 h3 => by rw [at19 16 x (fun z => h3 z.2)]; exact at16 16 x (by omega) (by omega) (by omega), fun x _ => by rw [at19 25 x (by omega)]; exact at16 25 x (by omega) (by omega) (by omega), fun x _ => by rw [at19 t x (by omega)]; exact at16 t x (by omega) (by omega) (by omega), fun a x h2 h3 h4 => ?_⟩
      rw [at19 a x (by omega), e16, e3_up_ne (fun z => by have := z.2; omega), e13, e3_up_ne (fun z => by have := z.2; omega), e1, e3_up_ne (fun z => by have := z.2; omega)]
    have g1 : H19 (t + 1) b = 2 := by rw [at19 _ _ (by omega), e16, e3_up_ne (ne_1 (by omega)), e13, e3_up_self]
    have g2 : H19 (t + 2) b = i := by rw [at19 _ _ (by omega), e16, e3_up_ne (ne_1 (by omega)), e13, e3_up_ne (ne_1 (by omega)), e1, e3_up_self]
    have g3 : H19 (t + 3) b = H (t + 3) b := by rw [at19 _ _ (by omega)]; exact at16 _ _ (by omega) (by omega) (by omega)
    have g4 : H19 (t + 4) b = 1 := by rw [at19 _ _ (by omega), e16, e3_up_self]
    have g6 : H19 (t + 6) b = H (t + 6) b := by rw [at19 _ _ (by omega)]; exact at16 _ _ (by omega) (by omega) (by omega)
    have h6 : H19 16 6 = (fr : Int) := by rw [at19 16 6 (by omega), at16 16 6 (by omega) (by omega) (by omega)]; exact a8
    have h0' : H19 t 0 = ((b + 1 : Nat) : Int) := by rw [at19 t 0 (by omega), at16 t 0 (by omega) (by omega) (by omega)]; exact a10
    have S19 := GS_go hG hS hF h6 e7 h0'
    have hlen := gr_len _ _ _ (hgr hz)
    refine ⟨fun hb => ⟨Or.inl rfl, brT rfl ⟨Or.inl rfl, hf hz (by omega) H19 hF⟩⟩, fun hb => ⟨Or.inr rfl, brF (by decide) ⟨by rw [S19.2.1.1]; exact ob8, ?_⟩⟩⟩
    rw [S19.2.1.1]
    have er : H (H (fu + 3) i) 0 = H19 (H19 (fu + 3) i) 0 := by
      have k1 : ∀ x : Int, H19 (fu + 3) x = H (fu + 3) x := fun x => (GF_DF hG a7 hF).2 _ x _ _ f6 (by decide) (by decide) (by decide) (by decide)
      have k2 : ∀ x : Int, H19 (H (fu + 3) i) x = H (H (fu + 3) i) x := fun x => (GF_DF hG a7 hF).2 _ x _ _ hrw.1.2 (by decide) (by decide) (by decide) (by decide)
      rw [k1, k2]
    rw [er]
    refine cF_rowsOf S19.1 hi (fun X hX => ?_)
    rw [i64_m1]
    obtain ⟨M2, m1, m2, m3, m4⟩ := m_andn (MK_62 hM) (MK_62 hX)
    rw [m1, e3_w32_id (x := l + 1) (by omega) (by omega)]
    have hMK : MK R (fun w => lv σ w ((0, r, r) :: π)) M2 := by
      refine ⟨Nat.lt_of_le_of_lt m3 hM.1, fun j => ?_⟩
      rw [m4 j, hM.2 j, hX.2 j]
      cases hj : R[j]? with
      | none => rfl
      | some w =>
        show (lv σ w π && !decide (w.1 = r)) = (lv σ w π && ok1 σ w (0, r, r))
        have : ok1 σ w (0, r, r) = !decide (w.1 = r) := by
          unfold ok1
          rw [if_pos rfl]
          by_cases hwr : w.1 = r
          · rw [decide_eq_true hwr, decide_eq_false (fun z => z hwr)]; rfl
          · rw [decide_eq_false hwr, decide_eq_true hwr]; rfl
        rw [this]
    have hkn : ∀ x : Int, 1 ≤ x → kn ((0, r, r) :: π) x = kn π x := fun x hx => by
      show (if (0 : Int) = x then some (r, r) else kn π x) = kn π x
      rw [if_neg (by omega)]
    have hDK : DK ((0, r, r) :: π) cx cnt H19 G := by
      obtain ⟨kl, q1, q2, q3, q4⟩ := S19.2.2.1
      refine ⟨kl, q1, q2, q3, fun p p0 p1 => ?_⟩
      rw [q4 p p0 p1]
      have hpos := cx_pos f9 p.toNat (by omega)
      rw [Int.toNat_of_nonneg p0] at hpos
      unfold kv
      rw [hkn _ hpos]
    have hSg : GS σ g m pn cx cnt R fu way t G ((0, r, r) :: π) fr (P + 1) (b + 1) H19 := ⟨S19.1, S19.2.1, hDK, S19.2.2.2⟩
    have := rec k ((0, r, r) :: π) N M2 (fun w => lv σ w ((0, r, r) :: π)) (l + 1) (P + 1) (b + 1) fr H19 (fun x27 H25 G26 => (((x27 : Int) = 0 → (wD_settle_105 (wD_grow n) Q H25 G26)) ∧ (¬ ((x27 : Int) = 0) → (wD_settle_106 (wD_grow n) Q 1 H25 G26)))) (hgr hz) ⟨hSP, Or.inl ⟨rfl, hr⟩⟩ hMK (fun w hw => ?_) (fun w hw hb0 => ?_) hSg ⟨by omega, by omega, by omega⟩ ⟨by omega, by omega⟩ (by omega) (fun hle K hok => brF (by decide) ⟨Or.inr rfl, ?_⟩) (fun hgt K hgf => brT rfl ⟨Or.inl rfl, hf hz (by omega) K (GF_tr hF hgf (by omega) (Nat.le_refl _))⟩)
    · exact this
    · show (lv σ w ((0, r, r) :: π) && posb σ ((0, r, r) :: π) w.2) = lv σ w ((0, r, r) :: π)
      cases hlv : lv σ w ((0, r, r) :: π) with
      | false => rfl
      | true =>
        rw [Bool.true_and]
        exact (posb_iff w.2).mpr (lv_hld (hR w hw).1 (fun p hp => by have := (hR w hw).2 p hp; omega) _ hlv)
    · exact lvp_of _ hb0
    · obtain ⟨o1, o2, o3, o4, o5⟩ := hok
      have keep : ∀ a : Int, t + 1 ≤ a → a ≤ t + 6 → K a b = H19 a b := fun a h2 h3 => o1.2.2.2.2 a b h2 h3 (by omega)
      refine h1 hz (by omega) K (GF_tr hF o1 (by omega) (Nat.le_refl _)) o2 (by rw [o3]; omega) (by rw [o4]; omega) ?_ (by rw [keep _ (by omega) (by omega)]; exact g1) (by rw [keep _ (by omega) (by omega)]; exact g2) (by rw [keep _ (by omega) (by omega)]; exact g3) (by rw [keep _ (by omega) (by omega)]; exact g4) (by rw [keep _ (by omega) (by omega)]; exact g6)
      rw [show (b : Int) + 1 = ((b + 1 : Nat) : Int) by omega]
      exact o5
end CSE
