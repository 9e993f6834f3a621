section CM2
variable {H : e3_H} {G : e3_G} {n : Nat} {t : Int → Int}
theorem cM_numl {Q : e3_H → e3_G → Prop} {p : Nat} (hn : H 40 1 = (n : Int)) (hn2 : n ≤ 1600) (ht : H 41 = t) (hp : p < n) (hc : ¬ (x_sm (t p) = true ∨ x_up (t p) = true)) (hc2 : x_fg (t p) = true) (hQ : ∀ K, x_np t n p H K → Q K G) : ∀ (f k : Nat) (K : e3_H), n - (p + k) ≤ f → p + k ≤ n → (∀ i : Nat, i < k → x_fg (t ((p + i : Nat) : Int)) = true) → x_sc x_fg t n n p = x_sc x_fg t n f (p + k) → x_N H K → K 40 2 = p → K 40 5 = p → K 40 6 = ((p + k : Nat) : Int) → K 40 4 = x_nm t p (min k 9) → wM_next_149 Q (f + 1) K G := by
  have exit : ∀ (k : Nat) (K : e3_H), p + k ≤ n → x_sc x_fg t n n p = p + k → x_N H K → K 40 2 = p → K 40 5 = p → K 40 6 = ((p + k : Nat) : Int) → K 40 4 = x_nm t p (min k 9) → (((9 : Int) < (e3_w32 ((K 40 6) - (K 40 2))) → (wM_next_244 Q 7 K G)) ∧ (¬ ((9 : Int) < (e3_w32 ((K 40 6) - (K 40 2)))) → (wM_next_244 Q 3 K G))) := by
    intro k K hk hsc hN h2 h5 h6 h4
    have htk : x_tk t n p = (if 9 < k then (257, p + k, x_nm t p 9) else (260, p + k, x_nm t p k)) := by
      unfold x_tk
      rw [if_neg (by omega), if_neg hc, if_pos hc2, hsc, show p + k - p = k by omega]
    rw [h6, h2, w_sb (by omega) (by omega), show p + k - p = k by omega]
    by_cases h9 : 9 < k
    · rw [if_pos h9] at htk
      refine brT (by omega) ?_
      unfold wM_next_244 wM_next_549
      intro H1 e1
      refine hQ H1 ⟨?_, ?_, ?_, ?_⟩
      · rw [e1, e3_up_ne (by omega), h5]
      · rw [htk, e1, e3_up_self]; rfl
      · rw [htk]; exact fun z => absurd rfl z
      · rw [e1]; exact x_N_up _ _ hN (by omega) (by omega)
    · rw [if_neg h9] at htk
      refine brF (by omega) ?_
      unfold wM_next_244 wM_next_549
      intro H1 e1
      refine hQ H1 ⟨?_, ?_, ?_, ?_⟩
      · rw [e1, e3_up_ne (by omega), h5]
      · rw [htk, e1, e3_up_self]; rfl
      · intro _
        rw [htk]
        refine ⟨?_, ?_⟩
        · rw [e1, e3_up_ne (by omega), h4, show min k 9 = k by omega]; rfl
        · rw [e1, e3_up_ne (by omega), h6]
      · rw [e1]; exact x_N_up _ _ hN (by omega) (by omega)
  intro f
  induction f with
  | zero =>
    intro k K hf hk hall hsc hN h2 h5 h6 h4
    show wM_next_149 Q (0 + 1) K G
    unfold wM_next_149
    rw [h6]
    refine cM_byteAt (by rw [x_N_n hN, hn]) hn2 ?_
    rw [x_N_41 hN, ht]
    have hb : x_by t n (p + k) = -1 := by unfold x_by; rw [if_neg (by omega)]
    rw [hb]
    refine cM_isFigure (fun z => by cases z) (fun _ => brT rfl ?_)
    exact exit k K hk hsc hN h2 h5 h6 h4
  | succ f ih =>
    intro k K hf hk hall hsc hN h2 h5 h6 h4
    show wM_next_149 Q (f + 1 + 1) K G
    unfold wM_next_149
    rw [h6]
    refine cM_byteAt (by rw [x_N_n hN, hn]) hn2 ?_
    rw [x_N_41 hN, ht]
    refine cM_isFigure (fun hg => brF (by decide) ?_) (fun hg => brT rfl ?_)
    · obtain ⟨hlt, hfg⟩ := (x_by_sc (P := x_fg) rfl).mp hg
      rw [x_sc_yes hlt hfg] at hsc
      have hall2 : ∀ i : Nat, i < k + 1 → x_fg (t ((p + i : Nat) : Int)) = true := by
        intro i hi
        by_cases hik : i = k
        · subst hik; exact hfg
        · exact hall i (by omega)
      have go : ∀ v, v = x_nm t p (min (k + 1) 9) → wM_next_207 Q (fun H G => wM_next_149 Q (f + 1) H G) v K G := by
        intro v hv
        unfold wM_next_207
        intro H1 e1 H2 e2
        have a6 : H1 40 6 = ((p + k : Nat) : Int) := by rw [e1, e3_up_ne (by omega), h6]
        rw [a6, w_p1 (by omega)] at e2
        refine ih (k + 1) H2 (by omega) (by omega) hall2 hsc ?_ ?_ ?_ ?_ ?_
        · rw [e2, e1]; exact x_N_up _ _ (x_N_up _ _ hN (by omega) (by omega)) (by omega) (by omega)
        · rw [e2, e3_up_ne (by omega), e1, e3_up_ne (by omega), h2]
        · rw [e2, e3_up_ne (by omega), e1, e3_up_ne (by omega), h5]
        · rw [e2, e3_up_self]; rfl
        · rw [e2, e3_up_ne (by omega), e1, e3_up_self, hv]
      rw [h6, h2, w_sb (by omega) (by omega), show p + k - p = k by omega]
      by_cases h9 : k < 9
      · refine brT (by omega) ?_
        refine cM_byteAt (by rw [x_N_n hN, hn]) hn2 ?_
        rw [x_N_41 hN, ht]
        refine go _ ?_
        have hf2 := hfg
        unfold x_fg at hf2
        simp only [Bool.and_eq_true, decide_eq_true_eq] at hf2
        have hb := x_nm_9 (b := t) (p := p) (k := k) (by omega) hall
        have hb2 := x_nm_9 (b := t) (p := p) (k := k + 1) (by omega) hall2
        have e : x_nm t p (k + 1) = x_nm t p k * 10 + (t ((p + k : Nat) : Int) - 48) := rfl
        unfold x_by
        rw [if_pos hlt, h4, show min k 9 = k by omega, show min (k + 1) 9 = k + 1 by omega, e3_w64_id (x := 10 * x_nm t p k) (by omega) (by omega), e3_w64_id (x := 10 * x_nm t p k + t ((p + k : Nat) : Int)) (by omega) (by omega), e3_w64_id (by omega) (by omega), e]
        omega
      · refine brF (by omega) (go _ ?_)
        rw [h4, show min k 9 = min (k + 1) 9 by omega]
    · have hno : ¬ (p + k < n ∧ x_fg (t ((p + k : Nat) : Int)) = true) := fun z => by
        rw [(x_by_sc (P := x_fg) rfl).mpr z] at hg
        cases hg
      rw [x_sc_no hno] at hsc
      exact exit k K hk hsc hN h2 h5 h6 h4
theorem cM_textl {Q : e3_H → e3_G → Prop} {p : Nat} (hn : H 40 1 = (n : Int)) (hn2 : n ≤ 1600) (ht : H 41 = t) (hp : p < n) (hc : ¬ (x_sm (t p) = true ∨ x_up (t p) = true)) (hc2 : ¬ x_fg (t p) = true) (hc3 : t p = 39) (hQ : ∀ K, x_np t n p H K → Q K G) : ∀ (f k : Nat) (K : e3_H), n - (p + 1 + k) ≤ f → p + 1 + k ≤ n → x_sc x_sm t n n (p + 1) = x_sc x_sm t n f (p + 1 + k) → x_N H K → K 40 2 = p → K 40 5 = p → K 40 6 = ((p + 1 + k : Nat) : Int) → K 40 4 = x_pk t (p + 1) (min k 8) → wM_next_256 Q (f + 1) K G := by
  have exit : ∀ (k : Nat) (K : e3_H), p + 1 + k ≤ n → x_sc x_sm t n n (p + 1) = p + 1 + k → x_N H K → K 40 2 = p → K 40 5 = p → K 40 6 = ((p + 1 + k : Nat) : Int) → K 40 4 = x_pk t (p + 1) (min k 8) → (wM_byteAt (fun x9 H7 G8 => (((x9 : Int) = 39 → (((9 : Int) < (e3_w32 ((H7 40 6) - (H7 40 2))) → (wM_next_357 Q H7 G8)) ∧ (¬ ((9 : Int) < (e3_w32 ((H7 40 6) - (H7 40 2)))) → (wM_next_359 Q 4 H7 G8)))) ∧ (¬ ((x9 : Int) = 39) → (wM_next_357 Q H7 G8)))) (K 40 6) K G) := by
    intro k K hk hsc hN h2 h5 h6 h4
    have htk : x_tk t n p = (if (p + 1 + k < n ∧ t ((p + 1 + k : Nat) : Int) = 39) ∧ k ≤ 8 then (261, p + 1 + k + 1, x_pk t (p + 1) k) else (257, p + 1 + k, 0)) := by
      unfold x_tk
      rw [if_neg (by omega), if_neg hc, if_neg hc2, if_pos hc3, hsc, show p + 1 + k - p - 1 = k by omega]
    rw [h6]
    refine cM_byteAt (by rw [x_N_n hN, hn]) hn2 ?_
    rw [x_N_41 hN, ht]
    have wrong : (x_tk t n p).1 = 257 → wM_next_357 Q K G := by
      intro hw
      unfold wM_next_357 wM_next_359 wM_next_549
      intro H1 e1 H2 e2
      refine hQ H2 ⟨?_, ?_, ?_, ?_⟩
      · rw [e2, e3_up_ne (by omega), e1, e3_up_ne (by omega), h5]
      · rw [hw, e2, e3_up_ne (by omega), e1, e3_up_self]; rfl
      · exact fun z => absurd hw z
      · rw [e2, e1]; exact x_N_up _ _ (x_N_up _ _ hN (by omega) (by omega)) (by omega) (by omega)
    by_cases hlt : p + 1 + k < n
    · unfold x_by
      rw [if_pos hlt]
      by_cases hq : t ((p + 1 + k : Nat) : Int) = 39
      · refine brT hq ?_
        rw [h6, h2, w_sb (by omega) (by omega), show p + 1 + k - p = k + 1 by omega]
        by_cases h8 : k ≤ 8
        · rw [if_pos ⟨⟨hlt, hq⟩, h8⟩] at htk
          refine brF (by omega) ?_
          unfold wM_next_359 wM_next_549
          intro H1 e1 H2 e2
          have a6 : H1 40 6 = ((p + 1 + k : Nat) : Int) := by rw [e1, e3_up_ne (by omega), h6]
          rw [a6, w_p1 (by omega)] at e2
          refine hQ H2 ⟨?_, ?_, ?_, ?_⟩
          · rw [e2, e3_up_ne (by omega), e1, e3_up_ne (by omega), h5]
          · rw [htk, e2, e3_up_ne (by omega), e1, e3_up_self]; rfl
          · intro _
            rw [htk]
            refine ⟨?_, ?_⟩
            · rw [e2, e3_up_ne (by omega), e1, e3_up_ne (by omega), h4, show min k 8 = k by omega]; rfl
            · rw [e2, e3_up_self]
          · rw [e2, e1]; exact x_N_up _ _ (x_N_up _ _ hN (by omega) (by omega)) (by omega) (by omega)
        · rw [if_neg (fun z => h8 z.2)] at htk
          exact brT (by omega) (wrong (by rw [htk]))
      · rw [if_neg (fun z => hq z.1.2)] at htk
        exact brF hq (wrong (by rw [htk]))
    · unfold x_by
      rw [if_neg hlt]
      rw [if_neg (fun z => hlt z.1.1)] at htk
      exact brF (by decide) (wrong (by rw [htk]))
  intro f
  induction f with
  | zero =>
    intro k K hf hk hsc hN h2 h5 h6 h4
    show wM_next_256 Q (0 + 1) K G
    unfold wM_next_256
    rw [h6]
    refine cM_byteAt (by rw [x_N_n hN, hn]) hn2 ?_
    rw [x_N_41 hN, ht]
    have hb : x_by t n (p + 1 + k) = -1 := by unfold x_by; rw [if_neg (by omega)]
    rw [hb]
    refine cM_isSmall (fun z => by cases z) (fun _ => brT rfl ?_)
    exact exit k K hk hsc hN h2 h5 h6 h4
  | succ f ih =>
    intro k K hf hk hsc hN h2 h5 h6 h4
    show wM_next_256 Q (f + 1 + 1) K G
    unfold wM_next_256
    rw [h6]
    refine cM_byteAt (by rw [x_N_n hN, hn]) hn2 ?_
    rw [x_N_41 hN, ht]
    refine cM_isSmall (fun hg => brF (by decide) ?_) (fun hg => brT rfl ?_)
    · obtain ⟨hlt, hfg⟩ := (x_by_sc (P := x_sm) rfl).mp hg
      rw [x_sc_yes hlt hfg] at hsc
      have go : ∀ v, v = x_pk t (p + 1) (min (k + 1) 8) → wM_next_309 Q (fun H G => wM_next_256 Q (f + 1) H G) v K G := by
        intro v hv
        unfold wM_next_309
        intro H1 e1 H2 e2
        have a6 : H1 40 6 = ((p + 1 + k : Nat) : Int) := by rw [e1, e3_up_ne (by omega), h6]
        rw [a6, w_p1 (by omega)] at e2
        refine ih (k + 1) H2 (by omega) (by omega) hsc ?_ ?_ ?_ ?_ ?_
        · rw [e2, e1]; exact x_N_up _ _ (x_N_up _ _ hN (by omega) (by omega)) (by omega) (by omega)
        · rw [e2, e3_up_ne (by omega), e1, e3_up_ne (by omega), h2]
        · rw [e2, e3_up_ne (by omega), e1, e3_up_ne (by omega), h5]
        · rw [e2, e3_up_self]; rfl
        · rw [e2, e3_up_ne (by omega), e1, e3_up_self, hv]
      rw [h6, h2, w_sb (by omega) (by omega), show p + 1 + k - p = k + 1 by omega]
      by_cases h8 : k < 8
      · refine brT (by omega) ?_
        refine cM_byteAt (by rw [x_N_n hN, hn]) hn2 ?_
        rw [x_N_41 hN, ht]
        refine go _ ?_
        unfold x_by
        rw [if_pos hlt, h4, show min k 8 = k by omega, show min (k + 1) 8 = k + 1 by omega]
        rfl
      · refine brF (by omega) (go _ ?_)
        rw [h4, show min k 8 = min (k + 1) 8 by omega]
    · have hno : ¬ (p + 1 + k < n ∧ x_sm (t ((p + 1 + k : Nat) : Int)) = true) := fun z => by
        rw [(x_by_sc (P := x_sm) rfl).mpr z] at hg
        cases hg
      rw [x_sc_no hno] at hsc
      exact exit k K hk hsc hN h2 h5 h6 h4
/-- signs -/
theorem cM_sign {Q : e3_H → e3_G → Prop} {x : Int} (h1 : x_sg x = true → wM_next_540 Q x 5 H G) (h0 : x_sg x = false → wM_next_540 Q x 7 H G) : wM_next_421 Q x H G := by
  have y1 : x_sg x = true → wM_next_523 Q x H G := by
    intro h
    unfold wM_next_523 wM_next_528
    exact brF (by decide) (h1 h)
  have y0 : x_sg x = false → wM_next_528 Q x 0 H G := by
    intro h
    unfold wM_next_528
    exact brT rfl (h0 h)
  unfold x_sg at y1 y0
  unfold wM_next_421
  refine ⟨fun h0 => y1 (by simp [h0]), fun h0 => ?_⟩
  refine ⟨fun h1 => y1 (by simp [h1]), fun h1 => ?_⟩
  refine ⟨fun h2 => y1 (by simp [h2]), fun h2 => ?_⟩
  refine ⟨fun h3 => y1 (by simp [h3]), fun h3 => ?_⟩
  refine ⟨fun h4 => y1 (by simp [h4]), fun h4 => ?_⟩
  refine ⟨fun h5 => y1 (by simp [h5]), fun h5 => ?_⟩
  refine ⟨fun h6 => y1 (by simp [h6]), fun h6 => ?_⟩
  refine ⟨fun h7 => y1 (by simp [h7]), fun h7 => ?_⟩
  refine ⟨fun h8 => y1 (by simp [h8]), fun h8 => ?_⟩
  refine ⟨fun h9 => y1 (by simp [h9]), fun h9 => ?_⟩
  refine ⟨fun h10 => y1 (by simp [h10]), fun h10 => ?_⟩
  refine ⟨fun h11 => y1 (by simp [h11]), fun h11 => ?_⟩
  refine ⟨fun h12 => y1 (by simp [h12]), fun h12 => ?_⟩
  refine ⟨fun h13 => y1 (by simp [h13]), fun h13 => ?_⟩
  refine ⟨fun h14 => y1 (by simp [h14]), fun h14 => ?_⟩
  refine ⟨fun h15 => y1 (by simp [h15]), fun h15 => ?_⟩
  refine ⟨fun h16 => y1 (by simp [h16]), fun h16 => ?_⟩
  exact y0 (by simp [h0, h1, h2, h3, h4, h5, h6, h7, h8, h9, h10, h11, h12, h13, h14, h15, h16])
theorem cM_next {Q : e3_H → e3_G → Prop} {p : Nat} (hn : H 40 1 = (n : Int)) (hn2 : n ≤ 1600) (ht : H 41 = t) (hb : ∀ k : Nat, k < n → 0 ≤ t k) (hp0 : H 40 6 = (p : Int)) (hp : p ≤ n) (hQ : ∀ K, x_np t n (x_sk t n p) H K → Q K G) : wM_next Q H G := by
  have nb : ∀ (f q : Nat) (K : e3_H), q ≤ n → ¬ (q < n ∧ x_bl (t q) = true) → q = x_sk t n p → x_N H K → K 40 2 = q → wM_next_8 Q (f + 1) K G := by
    intro f q K hq hbl hqe hN h2
    have kn : K 40 1 = n := by rw [x_N_n hN, hn]
    have k41 : K 41 = t := by rw [x_N_41 hN, ht]
    unfold wM_next_8
    rw [h2]
    refine cM_byteAt kn hn2 ?_
    rw [k41]
    have hbl2 : x_bl (x_by t n q) = false := by
      cases hz : x_bl (x_by t n q) with
      | false => rfl
      | true => exact absurd ((x_by_sc (P := x_bl) rfl).mp hz) hbl
    have n32 : ¬ x_by t n q = 32 := fun z => by rw [z] at hbl2; cases hbl2
    have n10 : ¬ x_by t n q = 10 := fun z => by rw [z] at hbl2; cases hbl2
    refine brF n32 ?_
    rw [h2]
    refine cM_byteAt kn hn2 ?_
    rw [k41]
    refine brF n10 ?_
    rw [h2]
    intro H7 e7
    have N7 : x_N H H7 := by rw [e7]; exact x_N_up _ _ hN (by omega) (by omega)
    have s2 : H7 40 2 = q := by rw [e7, e3_up_ne (by omega), h2]
    rw [s2]
    refine cM_byteAt (by rw [x_N_n N7, hn]) hn2 ?_
    rw [x_N_41 N7, ht]
    intro H11 e11 H12 e12
    have t2 : H11 40 2 = q := by rw [e11, e3_up_ne (by omega), s2]
    rw [t2, w_p1 (by omega)] at e12
    have N12 : x_N H H12 := by rw [e12, e11]; exact x_N_up _ _ (x_N_up _ _ N7 (by omega) (by omega)) (by omega) (by omega)
    have u2 : H12 40 2 = q := by rw [e12, e3_up_ne (by omega), t2]
    have u5 : H12 40 5 = q := by rw [e12, e3_up_ne (by omega), e11, e3_up_ne (by omega), e7, e3_up_self]
    have u4 : H12 40 4 = 0 := by rw [e12, e3_up_ne (by omega), e11, e3_up_self]
    have u6 : H12 40 6 = ((q + 1 : Nat) : Int) := by rw [e12, e3_up_self]
    have un : H12 40 1 = n := by rw [x_N_n N12, hn]
    have ut : H12 41 = t := by rw [x_N_41 N12, ht]
    have hQ2 : ∀ K, x_np t n q H K → Q K G := by rw [hqe]; exact hQ
    by_cases hlt : q < n
    · have hby : x_by t n q = t q := by unfold x_by; rw [if_pos hlt]
      rw [hby]
      have h0 := hb q hlt
      refine brF (by omega) ?_
      have namec : (x_sm (t q) = true ∨ x_up (t q) = true) → wM_next_121 Q (t q) H12 G := by
        intro hc
        unfold wM_next_121 wM_next_549 wM_name
        intro H1 e1
        rw [u2] at e1
        obtain ⟨f2, hf2⟩ : ∃ f2, n = f2 + 1 := ⟨n - 1, by omega⟩
        refine ⟨n + 1, cM_namel hn hn2 ht hlt hc (fun K hK => hQ2 K hK) n 0 H1 (by omega) (by omega) rfl ?_ ?_ ?_ ?_ ?_⟩
        · rw [e1]; exact x_N_up _ _ N12 (by omega) (by omega)
        · rw [e1, e3_up_ne (by omega), u2]
        · rw [e1, e3_up_ne (by omega), u5]
        · rw [e1, e3_up_self]; rfl
        · rw [e1, e3_up_ne (by omega), u4]; rfl
      refine cM_isSmall (fun hs => brF (by decide) (namec (Or.inl hs))) (fun hs => brT rfl ?_)
      refine cM_in (fun h65 h90 => brF (by decide) (namec (Or.inr (by unfold x_up; simp; omega)))) (fun hup => brT rfl ?_)
      have hc : ¬ (x_sm (t q) = true ∨ x_up (t q) = true) := by
        rintro (z | z)
        · rw [hs] at z; cases z
        · unfold x_up at z
          simp only [Bool.and_eq_true, decide_eq_true_eq] at z
          exact hup z
      refine cM_isFigure (fun hfg => brF (by decide) ?_) (fun hfg => brT rfl ?_)
      · intro H30 e30 H31 e31
        have v2 : H30 40 2 = q := by rw [e30, e3_up_ne (by omega), u2]
        rw [v2] at e31
        refine ⟨n + 1, cM_numl hn hn2 ht hlt hc hfg (fun K hK => hQ2 K hK) n 0 H31 (by omega) (by omega) (fun i hi => by omega) rfl ?_ ?_ ?_ ?_ ?_⟩
        · rw [e31, e30]; exact x_N_up _ _ (x_N_up _ _ N12 (by omega) (by omega)) (by omega) (by omega)
        · rw [e31, e3_up_ne (by omega), v2]
        · rw [e31, e3_up_ne (by omega), e30, e3_up_ne (by omega), u5]
        · rw [e31, e3_up_self]; rfl
        · rw [e31, e3_up_ne (by omega), e30, e3_up_ne (by omega), u4]; rfl
      · have hc2 : ¬ x_fg (t q) = true := by rw [hfg]; simp
        by_cases h39 : t q = 39
        · refine brT h39 ?_
          exact ⟨n + 1, cM_textl hn hn2 ht hlt hc hc2 h39 (fun K hK => hQ2 K hK) n 0 H12 (by omega) (by omega) rfl N12 u2 u5 u6 (by rw [u4]; rfl)⟩
        · refine brF h39 ?_
          have sign : ¬ (t q = 46 ∧ q + 1 < n ∧ t ((q + 1 : Nat) : Int) = 46) → wM_next_421 Q (t q) H12 G := by
            intro h46
            have htk : x_tk t n q = (if x_sg (t q) = true then (t q, q + 1, 0) else (257, q + 1, 0)) := by
              unfold x_tk
              rw [if_neg (by omega), if_neg hc, if_neg hc2, if_neg h39, if_neg h46]
            refine cM_sign (fun hsg => ?_) (fun hsg => ?_)
            · rw [if_pos hsg] at htk
              have hr := x_sg_pos hsg
              unfold wM_next_540 wM_next_549
              intro H1 e1 H2 e2
              refine hQ2 H2 ⟨?_, ?_, ?_, ?_⟩
              · rw [e2, e3_up_ne (by omega), e1, e3_up_ne (by omega), u5]
              · rw [htk, e2, e3_up_ne (by omega), e1, e3_up_self]
                show (5 : Int) = x_so (t q)
                unfold x_so
                rw [if_neg (by omega), if_neg (by omega), if_neg (by omega), if_neg (by omega), if_neg (by omega), if_neg (by omega), if_neg (by omega)]
              · intro _
                rw [htk]
                refine ⟨?_, ?_⟩
                · rw [e2, e3_up_self]
                  show t q = x_va (t q) 0
                  unfold x_va
                  rw [if_neg (by omega), if_neg (by omega), if_neg (by omega)]
                · rw [e2, e3_up_ne (by omega), e1, e3_up_ne (by omega), u6]
              · rw [e2, e1]; exact x_N_up _ _ (x_N_up _ _ N12 (by omega) (by omega)) (by omega) (by omega)
            · rw [if_neg (by rw [hsg]; simp)] at htk
              unfold wM_next_540 wM_next_549
              intro H1 e1 H2 e2
              refine hQ2 H2 ⟨?_, ?_, ?_, ?_⟩
              · rw [e2, e3_up_ne (by omega), e1, e3_up_ne (by omega), u5]
              · rw [htk, e2, e3_up_ne (by omega), e1, e3_up_self]; rfl
              · rw [htk]; exact fun z => absurd rfl z
              · rw [e2, e1]; exact x_N_up _ _ (x_N_up _ _ N12 (by omega) (by omega)) (by omega) (by omega)
          by_cases h46 : t q = 46
          · refine brT h46 ?_
            rw [u2, w_p1 (by omega)]
            refine cM_byteAt un hn2 ?_
            rw [ut]
            by_cases h462 : q + 1 < n ∧ t ((q + 1 : Nat) : Int) = 46
            · have hby2 : x_by t n (q + 1) = 46 := by unfold x_by; rw [if_pos h462.1, h462.2]
              refine brT hby2 ?_
              have htk : x_tk t n q = (262, q + 2, 0) := by
                unfold x_tk
                rw [if_neg (by omega), if_neg hc, if_neg hc2, if_neg h39, if_pos ⟨h46, h462.1, h462.2⟩]
              unfold wM_next_549
              intro H27 e27 H28 e28 H29 e29
              have v2 : H28 40 2 = q := by rw [e28, e3_up_ne (by omega), e27, e3_up_ne (by omega), u2]
              rw [v2, w_p2 (by omega)] at e29
              refine hQ2 H29 ⟨?_, ?_, ?_, ?_⟩
              · rw [e29, e3_up_ne (by omega), e28, e3_up_ne (by omega), e27, e3_up_ne (by omega), u5]
              · rw [htk, e29, e3_up_ne (by omega), e28, e3_up_ne (by omega), e27, e3_up_self]; rfl
              · intro _
                rw [htk]
                refine ⟨?_, ?_⟩
                · rw [e29, e3_up_ne (by omega), e28, e3_up_self]; rfl
                · rw [e29, e3_up_self]
              · rw [e29, e28, e27]; exact x_N_up _ _ (x_N_up _ _ (x_N_up _ _ N12 (by omega) (by omega)) (by omega) (by omega)) (by omega) (by omega)
            · refine brF ?_ (sign (fun z => h462 z.2))
              unfold x_by
              by_cases hq1 : q + 1 < n
              · rw [if_pos hq1]; exact fun z => h462 ⟨hq1, z⟩
              · rw [if_neg hq1]; omega
          · exact brF h46 (sign (fun z => h46 z.1))
    · have hby : x_by t n q = -1 := by unfold x_by; rw [if_neg hlt]
      rw [hby]
      refine brT rfl ?_
      have htk : x_tk t n q = (256, q, 0) := by unfold x_tk; rw [if_pos (by omega)]
      unfold wM_next_549
      intro H13 e13 H14 e14
      have v2 : H13 40 2 = q := by rw [e13, e3_up_ne (by omega), u2]
      rw [v2] at e14
      refine hQ2 H14 ⟨?_, ?_, ?_, ?_⟩
      · rw [e14, e3_up_ne (by omega), e13, e3_up_ne (by omega), u5]
      · rw [htk, e14, e3_up_ne (by omega), e13, e3_up_self]; rfl
      · intro _
        rw [htk]
        refine ⟨?_, ?_⟩
        · rw [e14, e3_up_ne (by omega), e13, e3_up_ne (by omega), u4]; rfl
        · rw [e14, e3_up_self]
      · rw [e14, e13]; exact x_N_up _ _ (x_N_up _ _ N12 (by omega) (by omega)) (by omega) (by omega)
  have skip : ∀ (f q : Nat) (K : e3_H), n - q ≤ f → q ≤ n → x_sk t n p = x_sc x_bl t n f q → x_N H K → K 40 2 = q → wM_next_8 Q (f + 1) K G := by
    intro f
    induction f with
    | zero =>
      intro q K hf hq hsk hN h2
      exact nb 0 q K hq (fun z => by omega) hsk.symm hN h2
    | succ f ih =>
      intro q K hf hq hsk hN h2
      by_cases hbl : q < n ∧ x_bl (t q) = true
      · have hsk2 := hsk
        rw [x_sc_yes hbl.1 hbl.2] at hsk2
        have kn : K 40 1 = n := by rw [x_N_n hN, hn]
        have k41 : K 41 = t := by rw [x_N_41 hN, ht]
        have go : wM_next_34 Q (fun H G => wM_next_8 Q (f + 1) H G) K G := by
          unfold wM_next_34
          intro H1 e1
          rw [h2, w_p1 (by omega)] at e1
          exact ih (q + 1) H1 (by omega) (by omega) hsk2 (by rw [e1]; exact x_N_up _ _ hN (by omega) (by omega)) (by rw [e1, e3_up_self])
        show wM_next_8 Q (f + 1 + 1) K G
        unfold wM_next_8
        rw [h2]
        refine cM_byteAt kn hn2 ?_
        rw [k41]
        have hby : x_by t n q = t q := by unfold x_by; rw [if_pos hbl.1]
        rw [hby]
        by_cases h32 : t q = 32
        · exact brT h32 go
        · refine brF h32 ?_
          rw [h2]
          refine cM_byteAt kn hn2 ?_
          rw [k41, hby]
          have h10 : t q = 10 := by
            have := hbl.2
            unfold x_bl at this
            simp only [Bool.or_eq_true, decide_eq_true_eq] at this
            omega
          exact brT h10 go
      · exact nb (f + 1) q K hq hbl (by rw [hsk, x_sc_no hbl]) hN h2
  unfold wM_next
  intro H1 e1
  rw [hp0] at e1
  exact ⟨n + 1, skip n p H1 (by omega) hp rfl (by rw [e1]; exact x_N_up _ _ (x_N_rf H) (by omega) (by omega)) (by rw [e1, e3_up_self])⟩
end CM2
