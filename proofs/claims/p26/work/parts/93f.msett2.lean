def st (n : Int) (H K : e3_H) : Prop := mz n H K ∧ (∀ a k : Int, 115 ≤ a → a ≤ 119 → K a k = H a k) ∧ K 40 93 = H 40 93
theorem st_tr {n : Int} {H K K2 : e3_H} (h : st n H K) (h2 : st n K K2) : st n H K2 := ⟨mz_tr h.1 h2.1, fun a k a1 a2 => (h2.2.1 a k a1 a2).trans (h.2.1 a k a1 a2), h2.2.2.trans h.2.2⟩
theorem st_mk {n : Int} {K K2 : e3_H} (h : mk K K2) : st n K K2 := ⟨mz_mk h, fun a k _ _ => h.1 a k (by omega) (by omega), h.2 93 (by decide)⟩
theorem st_ms {n : Int} {K K2 : e3_H} (h : ms K K2) : st n K K2 := ⟨mz_ms h, fun a k _ _ => h a k (by omega) (by omega), h 40 93 (by decide) (by decide)⟩
theorem st_mb {n : Int} {K K2 : e3_H} (h : mb K K2) : st n K K2 := ⟨mz_mb h, fun a k _ _ => h.1 a k (by omega) (by omega), h.2 93 (by decide)⟩
theorem st_up {n : Int} {K K2 : e3_H} {a v : Int} (h : st n K K2) (ha : 102 ≤ a ∧ a ≤ 106) : st n K (e3_up K2 a n v) := ⟨mz_up h.1 ha, fun b k h1 h2 => by rw [e3_up_ne (fun z => by omega)]; exact h.2.1 b k h1 h2, by rw [e3_up_ne (fun z => by omega)]; exact h.2.2⟩
theorem M_rows_mz {σ H K : e3_H} {RL : List (Int × Int × List (Int × Int))} {n : Int} (h : M_rows σ H RL) (hm : mz n H K) : M_rows σ K RL := M_rows_eq h (fun a y ha => by
  rcases ha with z | z
  · exact hm.1 a y (by omega) (by omega)
  · rw [z.1]; exact hm.2 y (by omega) (by omega) (by omega))
theorem tb_mz {σ H K : e3_H} {n : Int} (h : tb σ H) (hm : mz n H K) : tb σ K := fun a k h3 h4 h5 => (hm.1 a k (by omega) (by omega)).trans (h a k h3 h4 h5)
theorem FLD_up {σ K : e3_H} {RL : List (Int × Int × List (Int × Int))} {π : a_PT} {a k v : Int} (h : FLD σ RL π K) (ha : 102 ≤ a) : FLD σ RL π (e3_up K a k v) := fun i e he => by
  obtain ⟨h1, h2⟩ := h i e he
  refine ⟨by rw [e3_up_ne (fun z => by omega)]; exact h1, fun hl j p hp => ?_⟩
  rw [e3_up_ne (fun z => by omega), e3_up_ne (fun z => by omega)]
  exact h2 hl j p hp
theorem KL_len {σ K : e3_H} {R : a_RW} : ∀ (π : a_PT) (L : List (Int × Int)), KL σ R K π L → L.length ≤ π.length := by
  intro π
  induction π with
  | nil => intro L h; have h : L = [] := h; rw [h]; exact Nat.le_refl _
  | cons e π ih =>
    intro L h
    rw [List.length_cons]
    rcases h with ⟨h1, h2⟩ | ⟨h1, n, L', h2, h3, h4, h5⟩
    · have := ih L h2; omega
    · have := ih L' h5; rw [h2, List.length_cons]; omega
theorem LNK_len {σ K : e3_H} {m : Nat} {R : a_RW} {way b : Int} {D : List (a_PT × Int)} (h : LNK σ m R way b D K) : ∀ (n j : Nat) (π : a_PT) (par : Int), j < n → D[j]? = some (π, par) → π.length ≤ j := by
  intro n
  induction n with
  | zero => intro j π par hj; omega
  | succ n ih =>
    intro j π par hj hD
    rcases (h j π par hD).2 with ⟨y1, y2⟩ | ⟨e, π', i, pp, y1, y2, y3, y4, y5, y6⟩
    · rw [y1]; exact Nat.zero_le _
    · have := ih i π' pp (by omega) y4
      rw [y1, List.length_cons]
      omega
theorem enc_01 (s : Int) (v : Int × Int) : (enc s v).2.2.2 = 0 ∨ (enc s v).2.2.2 = 1 := by
  unfold enc
  split
  · exact Or.inl rfl
  · split
    · exact Or.inl rfl
    · split
      · split
        · exact Or.inr rfl
        · exact Or.inl rfl
      · split <;> exact Or.inl rfl
section MSE
variable {Q : e3_H → e3_G → Prop} {σ H : e3_H} {G : e3_G} {m : Nat} {f way b : Int} {RL : List (Int × Int × List (Int × Int))} {D : List (a_PT × Int)}
theorem SFT_hr (hF : SFT σ m f RL) : ∀ w, w ∈ rwl σ RL → (0 ≤ w.1 ∧ w.1 < 192) ∧ ∀ p, p ∈ w.2 → 1 ≤ p.2 := fun w hw => by
  obtain ⟨hR, hRo, hk, hKP, h40, hE⟩ := hF
  refine ⟨?_, fun p hp => ((hR w hw).2.2 p hp).2.2⟩
  obtain ⟨e, e1, e2⟩ := List.mem_map.mp hw
  rw [← e2]
  exact (hE e e1).1
/-- a node is settled -/
theorem cM_settle {j : Nat} {π : a_PT} {par : Int} {S : List (Int × Int × Int × Int × Int)} (hF : SFT σ m f RL) (hW4 : ∀ e, e ∈ RL → 0 ≤ e.2.1 ∧ e.2.1 < σ 74 e.1) (htb : tb σ H) (h10 : H 40 10 = (m : Int)) (hM : M_rows σ H RL) (hway : 0 ≤ way ∧ way ≤ 3) (hb : 0 ≤ b) (hb2 : b + D.length ≤ 3900) (hj : j ≤ 299) (hN : LNK σ m (rwl σ RL) way b D H) (hC : CTS σ m (rwl σ RL) way b D j H) (hD : D[j]? = some (π, par)) (hS : SP σ m (rwl σ RL) π) (h93 : H 40 93 = (S.length : Int)) (hSK : SK H S) (hSl : S.length ≤ 300)
    (hQ : ∀ K, mz (b + j) H K → ctt σ m (rwl σ RL) way π K (b + j) → K 40 93 = (((kds σ m (rwl σ RL) way π).map (fun v => (b + (j : Int), v.2)) ++ S).length : Int) → SK K ((kds σ m (rwl σ RL) way π).map (fun v => (b + (j : Int), v.2)) ++ S) → Q K G) : wM_settle Q (b + j) way H G := by
  obtain ⟨hR, hRo, hk, hKP, h40, hE⟩ := id hF
  have hjD : j < D.length := (List.getElem?_eq_some_iff.mp hD).1
  have n0 : 0 ≤ b + (j : Int) ∧ b + (j : Int) < 3900 := by omega
  have hπ := LNK_len hN (j + 1) j π par (by omega) hD
  have hrl : (rwl σ RL).length = RL.length := by unfold rwl; rw [List.length_map]
  refine cM_layKnown hb hb2 (SFT_hr hF) hN hC hD hj (fun K1 L q1 q2 q3 q4 => ?_)
  have s1 : st (b + j) H K1 := st_mk q2
  refine cM_sift hF (tb_mz htb s1.1) (M_rows_mz hM s1.1) q3 (by have := KL_len π L q1; omega) (KL_eq (fun a k _ _ => q2.1 a k (by omega) (by omega)) π L q1) q4 hS (fun K2 y1 y2 => ?_)
  have s2 : st (b + j) H K2 := st_tr s1 (st_ms y1)
  refine ⟨n0, ?_⟩
  intro H7 e7
  refine ⟨n0, ?_⟩
  intro H9 e9
  refine ⟨n0, ?_⟩
  intro H11 e11
  have s11 : st (b + j) H H11 := by rw [e11, e9, e7]; exact st_up (st_up (st_up s2 (by decide)) (by decide)) (by decide)
  have f11 : FLD σ RL π H11 := by rw [e11, e9, e7]; exact FLD_up (FLD_up (FLD_up y2 (by decide)) (by decide)) (by decide)
  have v106 : H11 106 (b + j) = 0 := by rw [e11, e3_up_self]
  have v103 : H11 103 (b + j) = -4 := by rw [e11, e3_up_ne (ne_1 (by decide)), e9, e3_up_self]
  have v105 : H11 105 (b + j) = -4 := by rw [e11, e3_up_ne (ne_1 (by decide)), e9, e3_up_ne (ne_1 (by decide)), e7, e3_up_self]
  cases hf : fst σ π (rwl σ RL) 0 with
  | none =>
    have hfi : fi σ π (rwl σ RL) = -4 := by unfold fi; rw [hf]
    have hkd : kds σ m (rwl σ RL) way π = [] := by unfold kds; rw [hf]
    rw [hfi]
    refine brT rfl ⟨n0, ?_⟩
    intro H13 e13
    have s13 : st (b + j) H H13 := by rw [e13]; exact st_up s11 (by decide)
    rw [hkd] at hQ
    refine hQ H13 s13.1 ?_ (by rw [s13.2.2]; exact h93) (SK_eq S hSK (fun a k a1 a2 _ => s13.2.1 a k a1 a2))
    unfold ctt
    rw [hf]
    exact ⟨by rw [e13, e3_up_self], by rw [e13, e3_up_ne (ne_1 (by decide))]; exact v103, by rw [e13, e3_up_ne (ne_1 (by decide))]; exact v105, by rw [e13, e3_up_ne (ne_1 (by decide))]; exact v106⟩
  | some v =>
    obtain ⟨i, r, T⟩ := v
    have hfi : fi σ π (rwl σ RL) = i := by unfold fi; rw [hf]
    obtain ⟨j0, hj0, hgi, hlv, _⟩ := fst_some (rwl σ RL) 0 i (r, T) hf
    have hj0 : i = j0 := by omega
    subst hj0
    obtain ⟨e0, hge, he0⟩ : ∃ e0, RL[i]? = some e0 ∧ (e0.1, tl σ e0.2.2) = (r, T) := by
      unfold rwl at hgi
      rw [List.getElem?_map] at hgi
      cases hz : RL[i]? with
      | none => rw [hz] at hgi; cases hgi
      | some e0 =>
        rw [hz] at hgi
        exact ⟨e0, rfl, by have := Option.some.inj hgi; exact this⟩
    have hr0 : e0.1 = r := congrArg (·.1) he0
    have hT0 : tl σ e0.2.2 = T := congrArg (·.2) he0
    have hi : i < RL.length := (List.getElem?_eq_some_iff.mp hge).1
    have hem := List.mem_of_getElem? hge
    have hlv0 : lv σ (e0.1, tl σ e0.2.2) π = true := by rw [he0]; exact hlv
    have hM11 := M_rows_mz hM s11.1
    rw [hfi]
    refine brF (by omega) (cM_asksAt hF (tb_mz htb s11.1) (by rw [s11.1.2 10 (by decide) (by decide) (by decide)]; exact h10) hM11 hS f11 hway hge hlv0 (fun K6 l3 m6 hl3 => ?_))
    rw [hT0] at hl3
    have s6 : st (b + j) H K6 := st_tr s11 (st_mb m6)
    have w6 : ∀ a : Int, 102 ≤ a → a ≤ 106 → K6 a (b + j) = H11 a (b + j) := fun a h1 h2 => m6.1 a _ (by omega) (by omega)
    have hM6 := M_rows_mz hM s6.1
    obtain ⟨r1, r2, ⟨r3, r4⟩, r5, r6⟩ := hM6.2.2.2.2 i e0 hge
    have h806 := hM6.2.2.2.1
    cases hc : cho σ m (rwl σ RL) π way T 0 none 0 with
    | none =>
      rw [hc] at hl3
      have hl3 : l3 = -4 := hl3
      refine brT hl3 ⟨by omega, n0, ?_⟩
      intro H18 e18
      rw [r1, hr0] at e18
      refine ⟨by omega, n0, ?_⟩
      intro H21 e21
      have s21 : st (b + j) H H21 := by rw [e21, e18]; exact st_up (st_up s6 (by decide)) (by decide)
      have w86 : H21 86 i = r := by rw [e21, e3_up_ne (ne_1 (by decide)), e18, e3_up_ne (ne_1 (by decide)), r1]; exact hr0
      have u103 : H21 103 (b + j) = r := by rw [e21, e3_up_ne (ne_1 (by decide)), e18, e3_up_self]
      have u105 : H21 105 (b + j) = -4 := by rw [e21, e3_up_ne (ne_1 (by decide)), e18, e3_up_ne (ne_1 (by decide)), w6 105 (by decide) (by decide)]; exact v105
      have hrr := (hE e0 hem).1
      have u104 : 0 ≤ H21 104 (b + j) ∧ H21 104 (b + j) < σ 74 r := by
        have q1 : H21 104 (b + j) = e0.2.1 := by rw [e21, e3_up_self, e18, e3_up_ne (ne_1 (by decide))]; exact r2
        rw [q1, ← hr0]
        exact hW4 e0 hem
      rw [w86]
      refine ⟨by omega, by omega, ?_⟩
      rw [show H21 78 r = σ 78 r by rw [s21.1.1 78 _ (by decide) (by omega)]; exact htb 78 _ (by decide) (by decide) (by decide)]
      refine ⟨fun h78 => ?_, fun h78 => ?_⟩
      · have hkd : kds σ m (rwl σ RL) way π = [] := by unfold kds; rw [hf]; simp only; rw [hc]; simp only; rw [if_pos h78]
        rw [hkd] at hQ
        refine brT rfl ⟨n0, ?_⟩
        intro H1 e1
        refine brT rfl ⟨n0, ?_⟩
        intro H2 e2
        have s2' : st (b + j) H H2 := by rw [e2, e1]; exact st_up (st_up s21 (by decide)) (by decide)
        refine brT rfl (hQ H2 s2'.1 ?_ (by rw [s2'.2.2]; exact h93) (SK_eq S hSK (fun a k a1 a2 _ => s2'.2.1 a k a1 a2)))
        unfold ctt
        rw [hf]
        simp only
        rw [hc]
        refine ⟨by rw [e2, e3_up_ne (ne_1 (by decide)), e1, e3_up_ne (ne_1 (by decide))]; exact u103, by rw [e2, e3_up_ne (ne_1 (by decide)), e1, e3_up_ne (ne_1 (by decide))]; exact u105, fun _ => ⟨by rw [e2, e3_up_ne (ne_1 (by decide)), e1, e3_up_self], by rw [e2, e3_up_self]⟩, fun h => absurd h78 h, by rw [e2, e3_up_ne (ne_1 (by decide)), e1, e3_up_ne (ne_1 (by decide))]; exact u104⟩
      · have hkd : kds σ m (rwl σ RL) way π = [((0, r, r), (0, 0, 0, 0))] := by unfold kds; rw [hf]; simp only; rw [hc]; simp only; rw [if_neg h78]
        rw [hkd] at hQ
        refine brF (by decide) ⟨n0, ?_⟩
        intro H1 e1
        refine brF (by decide) ⟨n0, ?_⟩
        intro H2 e2
        have s2' : st (b + j) H H2 := by rw [e2, e1]; exact st_up (st_up s21 (by decide)) (by decide)
        refine brF (by decide) ?_
        intro H3 e3
        have m3 : mb H2 H3 := by rw [e3]; exact mb_up (mb_rf H2) (Or.inr (by decide))
        refine cM_one (l := []) ⟨by rw [e3, e3_up_self]; rfl, fun i e he => by cases he⟩ (by decide) (Or.inl rfl) (fun K4 k1 k2 _ => ?_)
        have s4 : st (b + j) H K4 := st_tr s2' (st_mb (mb_tr m3 k2))
        have g4 : ∀ a : Int, 102 ≤ a → a ≤ 106 → K4 a (b + j) = H2 a (b + j) := fun a h1 h2 => (mb_tr m3 k2).1 a _ (by omega) (by omega)
        refine cM_layAhead (n := b + j) (S := S) k1 (by rw [s4.2.2]; exact h93) (SK_eq S hSK (fun a k a1 a2 _ => s4.2.1 a k a1 a2)) (by decide) (by show 1 + S.length ≤ 400; omega) (fun e he => Or.inl (by rw [List.mem_singleton.mp he])) (fun K5 c1 c2 c3 => ?_)
        refine hQ K5 (mz_tr s4.1 (mz_mh c1)) ?_ c2 c3
        have g5 : ∀ a : Int, 102 ≤ a → a ≤ 106 → K5 a (b + j) = H2 a (b + j) := fun a h1 h2 => (c1.1 a _ (by omega) (by omega)).trans (g4 a h1 h2)
        unfold ctt
        rw [hf]
        simp only
        rw [hc]
        refine ⟨by rw [g5 103 (by decide) (by decide), e2, e3_up_ne (ne_1 (by decide)), e1, e3_up_ne (ne_1 (by decide))]; exact u103, by rw [g5 105 (by decide) (by decide), e2, e3_up_ne (ne_1 (by decide)), e1, e3_up_ne (ne_1 (by decide))]; exact u105, fun h => absurd h h78, fun _ => ⟨by rw [g5 102 (by decide) (by decide), e2, e3_up_ne (ne_1 (by decide)), e1, e3_up_self], by rw [g5 106 (by decide) (by decide), e2, e3_up_self]⟩, by rw [g5 104 (by decide) (by decide), e2, e3_up_ne (ne_1 (by decide)), e1, e3_up_ne (ne_1 (by decide))]; exact u104⟩
    | some p =>
      obtain ⟨q, x⟩ := p
      rw [hc] at hl3
      obtain ⟨t, ht1, ht2⟩ := hl3
      have hqx : (q, x) ∈ T ∧ ask π x = true := by
        rcases cho_some T 0 none 0 (q, x) hc with z | z
        · cases z
        · exact z
      have htl : t < T.length := (List.getElem?_eq_some_iff.mp ht1).1
      rw [← hT0] at ht1 htl
      obtain ⟨t1, t2, t3⟩ := r6 t (q, x) ht1
      have t1 : K6 89 (K6 88 i + t) = σ 46 q := t1
      have t2 : K6 90 (K6 88 i + t) = x := t2
      have t3 : K6 91 (K6 88 i + t) = q := t3
      have hqm : (q, x) ∈ tl σ e0.2.2 := by rw [hT0]; exact hqx.1
      have e88 : H11 88 i = K6 88 i := (m6.1 88 _ (by decide) (by decide)).symm
      rw [e88] at ht2
      rw [← ht2] at t1 t2 t3
      have hl3 : 0 ≤ l3 ∧ l3 < 33000 := by omega
      obtain ⟨x1, x2, x3, x4⟩ := (hE e0 hem).2 (q, x) hqm
      have x1 : 0 ≤ q ∧ q < 1700 := x1
      have hwm : (e0.1, tl σ e0.2.2) ∈ rwl σ RL := List.mem_map.mpr ⟨e0, hem, rfl⟩
      have h470 : 0 ≤ σ 47 q := ((hR _ hwm).2.2 (q, x) hqm).1.1
      have hkd : kds σ m (rwl σ RL) way π = (lbs σ m (rwl σ RL) π x (σ 47 q)).map (fun v => ((x, v.1, v.2), enc (σ 47 q) v)) := by unfold kds; rw [hf]; simp only; rw [hc]
      rw [hkd] at hQ
      have s214 : ∀ s0, s0 = ndo (σ 47 q) → wM_settle_214 Q (b + j) l3 (σ 47 q) s0 (b + j) K6 G := fun s0 hs0 => by
        refine ⟨n0, ?_⟩
        intro H1 e1
        refine ⟨hl3, n0, ?_⟩
        intro H3 e3
        rw [show H1 90 l3 = x by rw [e1, e3_up_ne (ne_1 (by decide))]; exact t2] at e3
        have s3 : st (b + j) H H3 := by rw [e3, e1]; exact st_up (st_up s6 (by decide)) (by decide)
        refine ⟨hl3, ?_⟩
        rw [show H3 90 l3 = x by rw [e3, e3_up_ne (ne_1 (by decide)), e1, e3_up_ne (ne_1 (by decide))]; exact t2]
        have f3 : FLD σ RL π H3 := by rw [e3, e1]; exact FLD_up (FLD_up (FLD_mb f11 m6) (by decide)) (by decide)
        have hlb := lbs_len (σ := σ) (m := m) (R := rwl σ RL) (π := π) (x := x) (s := σ 47 q) (by omega) hk.2.1
        refine cM_lay (p := (q, x)) hF (tb_mz htb s3.1) (by rw [s3.1.2 10 (by decide) (by decide) (by decide)]; exact h10) (M_rows_mz hM s3.1) hS f3 hem hlv0 hqm hqx.2 (fun K7 k1 k2 => ⟨n0, ?_⟩)
        have k1 : BRL ((lbs σ m (rwl σ RL) π x (σ 47 q)).map (enc (σ 47 q))) K7 := k1
        intro H10 e10
        rw [k1.1, List.length_map] at e10
        have s10 : st (b + j) H H10 := by rw [e10]; exact st_up (st_tr s3 (st_mb k2)) (by decide)
        have k10 : BRL ((lbs σ m (rwl σ RL) π x (σ 47 q)).map (enc (σ 47 q))) H10 := ⟨by rw [e10, e3_up_ne (ne_1 (by decide))]; exact k1.1, fun i e he => by rw [e10, e3_up_ne (ne_1 (by decide)), e3_up_ne (ne_1 (by decide)), e3_up_ne (ne_1 (by decide)), e3_up_ne (ne_1 (by decide))]; exact k1.2 i e he⟩
        refine cM_layAhead (n := b + j) (S := S) k10 (by rw [s10.2.2]; exact h93) (SK_eq S hSK (fun a k a1 a2 _ => s10.2.1 a k a1 a2)) (by rw [List.length_map]; omega) (by rw [List.length_map]; omega) (fun e he => by
          obtain ⟨v, _, v2⟩ := List.mem_map.mp he
          rw [← v2]
          exact enc_01 _ _) (fun K5 c1 c2 c3 => ?_)
        have emap : ((lbs σ m (rwl σ RL) π x (σ 47 q)).map (fun v => (((x, v.1, v.2), enc (σ 47 q) v) : (Int × Int × Int) × (Int × Int × Int × Int)))).map (fun v => (b + (j : Int), v.2)) = ((lbs σ m (rwl σ RL) π x (σ 47 q)).map (enc (σ 47 q))).map (fun e => (b + (j : Int), e)) := by
          rw [List.map_map, List.map_map]
          rfl
        rw [emap] at hQ
        refine hQ K5 (mz_tr s10.1 (mz_mh c1)) ?_ c2 c3
        have g5 : ∀ a : Int, 102 ≤ a → a ≤ 106 → K5 a (b + j) = H10 a (b + j) := fun a h1 h2 => c1.1 a _ (by omega) (by omega)
        have g7 : ∀ a : Int, 102 ≤ a → a ≤ 106 → K7 a (b + j) = H3 a (b + j) := fun a h1 h2 => k2.1 a _ (by omega) (by omega)
        unfold ctt
        rw [hf]
        simp only
        rw [hc]
        refine ⟨?_, ?_, ?_, ?_⟩
        · rw [g5 102 (by decide) (by decide), e10, e3_up_ne (ne_1 (by decide)), g7 102 (by decide) (by decide), e3, e3_up_ne (ne_1 (by decide)), e1, e3_up_self]; exact hs0
        · rw [g5 103 (by decide) (by decide), e10, e3_up_ne (ne_1 (by decide)), g7 103 (by decide) (by decide), e3, e3_up_ne (ne_1 (by decide)), e1, e3_up_ne (ne_1 (by decide)), w6 103 (by decide) (by decide)]; exact v103
        · rw [g5 105 (by decide) (by decide), e10, e3_up_ne (ne_1 (by decide)), g7 105 (by decide) (by decide), e3, e3_up_self]
        · rw [g5 106 (by decide) (by decide), e10, e3_up_self]
      refine brF (by omega) ⟨hl3, ?_⟩
      rw [t3]
      refine ⟨x1, ?_⟩
      rw [show K6 47 q = σ 47 q by rw [s6.1.1 47 _ (by decide) (by omega)]; exact htb 47 _ (by decide) (by decide) (by decide)]
      refine ⟨fun h3 => ⟨fun h1 => s214 4 ?_, fun h1 => ⟨fun h2 => s214 5 ?_, fun h2 => s214 6 ?_⟩⟩, fun h3 => s214 3 ?_⟩
      · unfold ndo; rw [if_neg (by omega), if_pos h1]
      · unfold ndo; rw [if_neg (by omega), if_neg h1, if_pos h2]
      · unfold ndo; rw [if_pos (by omega)]
      · unfold ndo; rw [if_neg (by omega), if_neg (by omega), if_neg (by omega)]
end MSE
