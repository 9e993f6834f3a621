theorem x_and01 : e3_and 0 1 = 0 := by decide
theorem x_and11 : e3_and 1 1 = 1 := by decide
/-- the class keeps the KINDS that stand in the tables -/
def c_kd (σ : e3_H) (m : Nat) (H : e3_H) : Prop := H 8 0 = m ∧ ∀ k : Nat, k < m → H 9 k = σ 42 k ∧ H 10 k = (if σ 43 k < 0 then -1 else σ 43 k) ∧ H 12 k = σ 44 k ∧ (∀ i : Nat, (i : Int) < σ 44 k → H 13 (4 * (k : Int) + i) = σ 45 (4 * (k : Int) + i)) ∧ H 11 k = (if a_sl (σ 43) k m = true then 1 else 0)
def ck_fr (m : Nat) (added : Bool) (H K : e3_H) : Prop := (∀ a k : Int, a ∉ [3, 8, 9, 10, 11, 12, 13, 14] → K a k = H a k) ∧ (∀ k : Int, k < 5 → K 3 k = H 3 k) ∧ (∀ k : Int, k ≠ m → K 9 k = H 9 k ∧ K 10 k = H 10 k ∧ K 12 k = H 12 k) ∧ (∀ k : Int, k < 4 * (m : Int) → K 13 k = H 13 k) ∧ (∀ k : Int, k ≠ 4 → k ≠ 5 → K 14 k = H 14 k) ∧ (added = true → ∀ k : Int, k ≠ m → K 11 k = H 11 k)
def c_out (t : Int → Int) (n s m : Nat) (added : Bool) (H0 : e3_H) (res : a_P) (Q : Int → e3_H → e3_G → Prop) (G : e3_G) : Prop := match res with
  | .inl pl => ∀ K, K 14 4 ≠ 0 → K 14 5 = pl → ck_fr m added H0 K → Q 0 K G
  | .inr (j, σ) => ∀ K, c_tk t n s j K → c_kd σ (m + 1) K → k_inv σ (m + 1) → ck_fr m added H0 K → Q 1 K G
section CKD
variable {H0 H K σ : e3_H} {G : e3_G} {n s i m : Nat} {t : Int → Int} {added : Bool}
theorem ck_rf : ck_fr m added H H := ⟨fun _ _ _ => rfl, fun _ _ => rfl, fun _ _ => ⟨rfl, rfl, rfl⟩, fun _ _ => rfl, fun _ _ _ => rfl, fun _ _ _ => rfl⟩
theorem ck_C {K2 : e3_H} (h : ck_fr m added H K) (h2 : x_C K K2) : ck_fr m added H K2 := by
  obtain ⟨a, b, c, d, e, f⟩ := h
  have g : ∀ x k : Int, x ≠ 3 → K2 x k = K x k := fun x k hx => h2.1 x k (by simp only [List.mem_cons, List.not_mem_nil, or_false]; exact hx)
  refine ⟨fun x k hx => ?_, fun k hk => ?_, fun k hk => ?_, fun k hk => ?_, fun k h4 h5 => ?_, fun ha k hk => ?_⟩
  · rw [g x k (fun z => hx (by rw [z]; decide))]; exact a x k hx
  · rw [h2.2 k (by omega)]; exact b k hk
  · rw [g 9 k (by decide), g 10 k (by decide), g 12 k (by decide)]; exact c k hk
  · rw [g 13 k (by decide)]; exact d k hk
  · rw [g 14 k (by decide)]; exact e k h4 h5
  · rw [g 11 k (by decide)]; exact f ha k hk
theorem ck_f {K2 : e3_H} {pl : Int} (h : ck_fr m added H K) (h2 : c_flt pl K K2) : ck_fr m added H K2 := by
  obtain ⟨a, b, c, d, e, f⟩ := h
  obtain ⟨_, _, q1, q2⟩ := h2
  have g : ∀ x k : Int, x ≠ 14 → K2 x k = K x k := fun x k hx => q2 x k (by simp only [List.mem_cons, List.not_mem_nil, or_false]; exact hx)
  refine ⟨fun x k hx => ?_, fun k hk => ?_, fun k hk => ?_, fun k hk => ?_, fun k h4 h5 => ?_, fun ha k hk => ?_⟩
  · rw [g x k (fun z => hx (by rw [z]; decide))]; exact a x k hx
  · rw [g 3 k (by decide)]; exact b k hk
  · rw [g 9 k (by decide), g 10 k (by decide), g 12 k (by decide)]; exact c k hk
  · rw [g 13 k (by decide)]; exact d k hk
  · rw [q1 k h4 h5]; exact e k h4 h5
  · rw [g 11 k (by decide)]; exact f ha k hk
theorem ck_up {a j v : Int} (h : ck_fr m added H K) (hc : (a = 8) ∨ ((a = 9 ∨ a = 10 ∨ a = 12 ∨ a = 11) ∧ j = m) ∨ (a = 13 ∧ 4 * (m : Int) ≤ j) ∨ (a = 11 ∧ (added = true → K 11 j = v))) : ck_fr m added H (e3_up K a j v) := by
  obtain ⟨p, b, c, d, e, f⟩ := h
  refine ⟨fun x k hx => ?_, fun k hk => ?_, fun k hk => ?_, fun k hk => ?_, fun k h4 h5 => ?_, fun ha k hk => ?_⟩
  · simp only [List.mem_cons, List.not_mem_nil, or_false, not_or] at hx
    rw [e3_up_ne (by omega)]
    exact p x k (by simp only [List.mem_cons, List.not_mem_nil, or_false, not_or]; exact hx)
  · rw [e3_up_ne (by omega)]; exact b k hk
  · rw [e3_up_ne (by omega), e3_up_ne (by omega), e3_up_ne (by omega)]; exact c k hk
  · rw [e3_up_ne (by omega)]; exact d k hk
  · rw [e3_up_ne (by omega)]; exact e k h4 h5
  · by_cases hz : (11 : Int) = a ∧ k = j
    · rcases hc with z | ⟨_, z⟩ | ⟨z, _⟩ | ⟨_, z⟩
      · omega
      · omega
      · omega
      · have := z ha
        rw [hz.2, ← hz.1, e3_up_self, ← this, ← hz.2]
        exact f ha k hk
    · rw [e3_up_ne hz]; exact f ha k hk
theorem ckd_fd (h : c_kd σ m H) (v : Int) : a_fd (H 9) v m = a_fd (σ 42) v m := a_fd_congr m (fun j hj => (h.2 j hj).1)
theorem ckd_ds (h : c_kd σ m H) (hk : k_inv σ m) : a_ds (H 9) m := by
  intro j l hj hl he
  rw [(h.2 j hj).1, (h.2 l hl).1] at he
  exact hk.2.2.1 j l hj hl he
theorem ckd_eq {K2 : e3_H} (h : c_kd σ m H) (he : ∀ a k : Int, a = 8 ∨ a = 9 ∨ a = 10 ∨ a = 11 ∨ a = 12 ∨ a = 13 → K2 a k = H a k) : c_kd σ m K2 := by
  refine ⟨by rw [he 8 0 (by omega)]; exact h.1, fun k hk => ?_⟩
  rw [he 9 k (by omega), he 10 k (by omega), he 12 k (by omega), he 11 k (by omega)]
  obtain ⟨a, b, c, d, e⟩ := h.2 k hk
  exact ⟨a, b, c, fun i hi => by rw [he 13 _ (by omega)]; exact d i hi, e⟩
theorem ckd_C {K2 : e3_H} (h : c_kd σ m H) (h2 : x_C H K2) : c_kd σ m K2 := ckd_eq h (fun a k ha => h2.1 a k (by simp only [List.mem_cons, List.not_mem_nil, or_false]; omega))
theorem cK_fnd {Q : Int → e3_H → e3_G → Prop} {v : Int} (h : c_kd σ m H) (hk : k_inv σ m) (hQ : Q (if a_fd (σ 42) v m < 0 then -1 else a_fd (σ 42) v m) H G) : wK_find Q v H G := by
  refine cK_find h.1 hk.2.1 (ckd_ds h hk) ?_
  rw [ckd_fd h]
  exact hQ
theorem cR_sortHere {Q : Int → e3_H → e3_G → Prop} (h : c_tk t n s i H) (hkd : c_kd σ m H) (hk : k_inv σ m) (hok : ∀ x, a_sort t n i σ false = some x → Q x H G) (hfl : a_sort t n i σ false = none → ∀ K, c_flt (x_sp t n i) H K → Q (-1) K G) : wR_sortHere Q H G := by
  have hn := c_now h
  unfold a_sort at hok hfl
  rw [k_nk hk, if_neg (by simp)] at hok hfl
  unfold wR_sortHere
  rw [hn.1, hn.2.2]
  refine ⟨fun h9 => ?_, fun h5 => hok 0 ?_, fun h6 => hok 1 ?_, fun h7 => hok 2 ?_, fun hno => ?_⟩
  · refine cK_fnd hkd hk ?_
    rw [if_neg (by omega)] at hok hfl
    rcases a_fd_rg (σ 42) (x_wo t n i) m with h1 | ⟨h1, h2, h3⟩
    · rw [h1]
      refine brT (by decide) (cR_failHere h (by decide) (fun K hK => ?_))
      exact hfl (by rw [if_neg (fun z => z.2 h1)]) K hK
    · rw [if_neg (by omega)]
      refine brF (by omega) ?_
      have hm24 := hk.2.1
      rw [e3_w32_id (by omega) (by omega), Int.add_comm]
      exact hok _ (by rw [if_pos ⟨h9, by omega⟩])
  · rw [if_pos (by omega), h5]; rfl
  · rw [if_pos (by omega), h6]; rfl
  · rw [if_pos (by omega), h7]; rfl
  · refine cR_failHere h (by decide) (fun K hK => ?_)
    have hd := x_dom2 t n i
    exact hfl (by rw [if_neg (by omega), if_neg (fun z => hno.1 z.1)]) K hK
theorem cK_has {Q : Int → e3_H → e3_G → Prop} {k : Nat} (hm : H 8 0 = (m : Int)) (hk : k < m) (hQ : Q 1 H G) : wK_has Q k H G := by
  unfold wK_has wK_has_16 wK_has_17
  exact brF (by omega) (brT (by rw [hm]; omega) ⟨Or.inr rfl, hQ⟩)
theorem cK_addPart {Q : e3_H → e3_G → Prop} {k : Nat} {x : Int} (h : c_kd σ m H) (hk : k_inv σ m) (hkm : k < m) (h4 : σ 44 k < 4) (hQ : ∀ K, c_kd (a_pt1 σ k x) m K → K = e3_up (e3_up H 13 (4 * (k : Int) + σ 44 k) x) 12 k (σ 44 k + 1) → Q K G) : wK_addPart Q k x H G := by
  obtain ⟨a, b, c, d, e⟩ := h.2 k hkm
  have hk5 := hk.2.2.2.2 k hkm
  have hm24 := hk.2.1
  unfold wK_addPart wK_addPart_44
  refine cK_has h.1 hkm (brF (by decide) ⟨⟨by omega, by omega⟩, ?_⟩)
  rw [c]
  refine brT h4 ⟨⟨by omega, by omega⟩, ?_⟩
  rw [e3_w32_id (x := (k : Int) * 4) (by omega) (by omega), e3_w32_id (x := (k : Int) * 4 + σ 44 k) (by omega) (by omega)]
  refine ⟨⟨by omega, by omega⟩, ?_⟩
  intro H5 e5
  refine ⟨⟨by omega, by omega⟩, ⟨by omega, by omega⟩, ?_⟩
  intro H8 e8
  have c5 : H5 12 k = σ 44 k := by rw [e5, e3_up_ne (by omega), c]
  rw [c5, e3_w32_id (by omega) (by omega)] at e8
  have eH : H8 = e3_up (e3_up H 13 (4 * (k : Int) + σ 44 k) x) 12 k (σ 44 k + 1) := by
    rw [e8, e5, show (k : Int) * 4 + σ 44 k = 4 * (k : Int) + σ 44 k by omega]
  refine hQ H8 ?_ eH
  rw [eH]
  refine ⟨by rw [e3_up_ne (by omega), e3_up_ne (by omega)]; exact h.1, fun j hj => ?_⟩
  obtain ⟨a2, b2, c2, d2, e2⟩ := h.2 j hj
  have hj5 := hk.2.2.2.2 j hj
  unfold a_pt1
  have s43 : e3_up (e3_up σ 45 (4 * (k : Int) + σ 44 k) x) 44 k (σ 44 k + 1) 43 = σ 43 := funext fun q => by rw [e3_up_ne (by omega), e3_up_ne (by omega)]
  rw [s43]
  refine ⟨?_, ?_, ?_, ?_, ?_⟩
  · rw [e3_up_ne (by omega), e3_up_ne (by omega), e3_up_ne (by omega), e3_up_ne (by omega)]; exact a2
  · rw [e3_up_ne (by omega), e3_up_ne (by omega)]; exact b2
  · by_cases hjk : j = k
    · subst hjk; rw [e3_up_self, e3_up_self]
    · rw [e3_up_ne (by omega), e3_up_ne (by omega), e3_up_ne (by omega), e3_up_ne (by omega)]; exact c2
  · intro x2 hx2
    by_cases hjk : j = k
    · subst hjk
      rw [e3_up_self] at hx2
      rw [e3_up_ne (by omega), e3_up_ne (a := 44) (by omega)]
      by_cases hz : (x2 : Int) = σ 44 j
      · rw [hz, e3_up_self, e3_up_self]
      · rw [e3_up_ne (by omega), e3_up_ne (by omega)]
        exact d2 x2 (by omega)
    · rw [e3_up_ne (by omega), e3_up_ne (by omega)] at hx2
      rw [e3_up_ne (by omega), e3_up_ne (by omega), e3_up_ne (by omega), e3_up_ne (by omega)]
      exact d2 x2 hx2
  · rw [e3_up_ne (by omega), e3_up_ne (by omega)]; exact e2
theorem ctk_up {a j v : Int} (h : c_tk t n s i H) (ha : a ≠ 3 ∧ a ≠ 5 ∧ a ≠ 6 ∧ a ≠ 7) : c_tk t n s i (e3_up H a j v) := c_tk_A (l := [a]) h (x_A_up j v (by simp)) (by simp only [List.mem_cons, List.not_mem_nil, or_false]; omega)
theorem c_k136 {Q : Int → e3_H → e3_G → Prop} (h : c_tk t n s i H) (hkd : c_kd σ (m + 1) H) (hk : k_inv σ (m + 1)) (hfr : ck_fr m added H0 H) (ho : c_out t n s m added H0 (a_knd3 t n (.inr (i, σ))) Q G) : wR_readKind_136 Q H G := by
  unfold wR_readKind_136 wR_readKind_149 wR_readKind_150
  unfold a_knd3 at ho
  simp only at ho
  refine cR_expect h (by decide) (fun he K a b => brF (by decide) ⟨Or.inr rfl, ?_⟩) (fun he K hf => brT rfl ⟨Or.inl rfl, ?_⟩)
  · rw [if_pos he] at ho
    exact ho K a (ckd_C hkd b) hk (ck_C hfr b)
  · rw [if_neg he] at ho
    exact ho K hf.1 hf.2.1 (ck_f hfr hf)
/-- the PARTS, from the sign ahead of one on -/
theorem c_parts {Q : Int → e3_H → e3_G → Prop} : ∀ (f i c : Nat) (σ H : e3_H), c_tk t n s i H → x_nf t n i → c_kd σ (m + 1) H → k_inv σ (m + 1) → ck_fr m added H0 H → σ 44 m = c → 4 - c < f → c ≤ 4 → (match a_pts t n m f (i + 1) σ with | .inl pl => ∀ K, K 14 4 ≠ 0 → K 14 5 = pl → ck_fr m added H0 K → Q 0 K G | .inr (j, σ') => ∀ K, c_tk t n s j K → c_kd σ' (m + 1) K → k_inv σ' (m + 1) → ck_fr m added H0 K → Q 1 K G) → wR_readParts_23 Q (fun l1 l2 H G => wR_readParts_2 Q f l1 l2 H G) m c H G := by
  intro f
  induction f with
  | zero => intro i c σ H _ _ _ _ _ _ hf; omega
  | succ f ih =>
    intro i c σ H h hnf hkd hk hfr hc hf hc4 ho
    have hm24 := hk.2.1
    unfold wR_readParts_23
    refine cT_stp h hnf (fun K a b => ?_)
    have kd1 := ckd_C hkd b
    have fr1 := ck_C hfr b
    have hu : a_pts t n m (f + 1) (i + 1) σ = (match a_sort t n (i + 1) σ (decide (σ 44 m = 4)) with
        | none => .inl (x_sp t n (i + 1))
        | some s => if x_ty t n (i + 1 + 1) = 44 then a_pts t n m f (i + 1 + 2) (a_pt1 σ m s)
          else if x_ty t n (i + 1 + 1) = 41 then .inr (i + 1 + 2, a_pt1 σ m s) else .inl (x_sp t n (i + 1 + 1))) := rfl
    refine cR_sortHere a kd1 hk (fun x hx => ?_) (fun hx K2 hfl => ?_)
    · have hr := a_sort_rg hk hx
      refine brF (by omega) ?_
      by_cases h4 : c = 4
      · have hn : a_sort t n (i + 1) σ (decide (σ 44 m = 4)) = none := by
          unfold a_sort
          rw [if_pos (by rw [hc, h4]; rfl)]
        rw [hn] at hu
        simp only at hu
        rw [hu] at ho
        refine brT (by omega) (cR_failHere a (by decide) (fun K2 hfl => ⟨Or.inl rfl, ?_⟩))
        exact ho K2 hfl.1 hfl.2.1 (ck_f fr1 hfl)
      · refine brF (by omega) ?_
        have hd : decide (σ 44 m = 4) = false := by rw [hc]; simp; omega
        rw [hd, hx] at hu
        simp only at hu
        refine cK_addPart kd1 hk (by omega) (by omega) (fun K2 kd2 e2 => ?_)
        obtain ⟨k2, k3⟩ := k_part hk (show m < m + 1 by omega) (by omega) ⟨hr.1, hr.2.1⟩
        have a2 : c_tk t n s (i + 1) K2 := by rw [e2]; exact ctk_up (ctk_up a (by omega)) (by omega)
        have fr2 : ck_fr m added H0 K2 := by rw [e2]; exact ck_up (ck_up fr1 (by omega)) (by omega)
        refine cT_stp a2 hr.2.2.1 (fun K3 a3 b3 => ?_)
        have kd3 := ckd_C kd2 b3
        have fr3 := ck_C fr2 b3
        rw [w_p1 (by omega)]
        have n3 := (c_now a3).1
        have ex : (x_ty t n (i + 1 + 1) ≠ 44) → wR_readParts_75 Q K3 G := by
          intro hz
          rw [if_neg hz] at hu
          unfold wR_readParts_75
          refine cR_expect a3 (by decide) (fun he K4 a4 b4 => ⟨Or.inr rfl, ?_⟩) (fun he K4 hfl => ⟨Or.inl rfl, ?_⟩)
          · rw [if_pos he] at hu
            rw [hu] at ho
            exact ho K4 a4 (ckd_C kd3 b4) k2 (ck_C fr3 b4)
          · rw [if_neg he] at hu
            rw [hu] at ho
            exact ho K4 hfl.1 hfl.2.1 (ck_f fr3 hfl)
        show wR_readParts_2 Q (f + 1) m ((c + 1 : Nat) : Int) K3 G
        refine brF (by omega) (brF (by omega) ?_)
        rw [n3]
        refine ⟨fun hz => ?_, ex⟩
        rw [if_pos hz] at hu
        rw [hu] at ho
        exact ih (i + 1 + 1) (c + 1) (a_pt1 σ m x) K3 a3 ⟨by omega, by omega⟩ kd3 k2 fr3 (by rw [k3]; omega) (by omega) (by omega) ho
    · have hn : a_sort t n (i + 1) σ (decide (σ 44 m = 4)) = none := by
        unfold a_sort at hx ⊢
        split
        · rfl
        · rw [if_neg (by simp)] at hx; exact hx
      rw [hn] at hu
      simp only at hu
      rw [hu] at ho
      exact brT (by decide) (ho K2 hfl.1 hfl.2.1 (ck_f fr1 hfl))
theorem c_k116 {Q : Int → e3_H → e3_G → Prop} (h : c_tk t n s i H) (hkd : c_kd σ (m + 1) H) (hk : k_inv σ (m + 1)) (h44 : σ 44 m = 0) (hfr : ck_fr m added H0 H) (ho : c_out t n s m added H0 (a_knd2 t n m (.inr (i, σ))) Q G) : wR_readKind_116 Q m H G := by
  unfold wR_readKind_116
  rw [(c_now h).1]
  unfold a_knd2 at ho
  simp only at ho
  refine ⟨fun he => ?_, fun he => ?_⟩
  · rw [if_pos he] at ho
    refine ⟨6, brF (by decide) (brT rfl ?_)⟩
    refine c_parts (H0 := H0) (added := added) 5 i 0 σ H h ⟨by omega, by omega⟩ hkd hk hfr (by rw [h44]; rfl) (by omega) (by omega) ?_
    cases hp : a_pts t n m 5 (i + 1) σ with
    | inl pl =>
      rw [hp] at ho
      exact fun K a b c => brT rfl ⟨Or.inl rfl, ho K a b c⟩
    | inr q =>
      obtain ⟨j, σ'⟩ := q
      rw [hp] at ho
      exact fun K a b c d => brF (by decide) (c_k136 a b c d ho)
  · rw [if_neg he] at ho
    exact c_k136 h hkd hk hfr ho
end CKD
