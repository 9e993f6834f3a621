/-- the reference's tables hold what was read -/
def tb (σ K : e3_H) : Prop := ∀ a k : Int, 42 ≤ a → a ≤ 85 → ¬ (59 ≤ a ∧ a ≤ 66) → K a k = σ a k
/-- rows of the reference while they are laid: what may change -/
def mr (K K2 : e3_H) : Prop := (∀ a k : Int, a ≠ 40 → a < 86 ∨ 98 < a → K2 a k = K a k) ∧ ∀ k : Int, k ≠ 61 → k ≠ 65 → k ≠ 71 → K2 40 k = K 40 k
theorem mr_rf (K : e3_H) : mr K K := ⟨fun _ _ _ _ => rfl, fun _ _ _ _ => rfl⟩
theorem mr_tr {K K2 K3 : e3_H} (h : mr K K2) (h2 : mr K2 K3) : mr K K3 := ⟨fun a k h3 h4 => (h2.1 a k h3 h4).trans (h.1 a k h3 h4), fun k h3 h4 h5 => (h2.2 k h3 h4 h5).trans (h.2 k h3 h4 h5)⟩
theorem tb_mr {σ K K2 : e3_H} (h : tb σ K) (h2 : mr K K2) : tb σ K2 := fun a k h3 h4 h5 => (h2.1 a k (by omega) (by omega)).trans (h a k h3 h4 h5)
theorem mr_up {K K2 : e3_H} {a k v : Int} (h : mr K K2) (ha : (86 ≤ a ∧ a ≤ 98) ∨ (a = 40 ∧ (k = 61 ∨ k = 65 ∨ k = 71))) : mr K (e3_up K2 a k v) := ⟨fun b j h3 h4 => by rw [e3_up_ne (fun z => by omega)]; exact h.1 b j h3 h4, fun j h3 h4 h5 => by rw [e3_up_ne (fun z => by omega)]; exact h.2 j h3 h4 h5⟩
/-- the stack of patterns that wait: the top first -/
def M_st (K : e3_H) : List (Int × Int × Int) → Prop
  | [] => True
  | e :: T => K 94 T.length = e.1 ∧ K 95 T.length = e.2.1 ∧ K 96 T.length = e.2.2 ∧ K 97 T.length = -4 ∧ M_st K T
theorem M_st_eq {K K2 : e3_H} : ∀ T : List (Int × Int × Int), M_st K T → (∀ a k : Int, 94 ≤ a → a ≤ 97 → k < T.length → K2 a k = K a k) → M_st K2 T := by
  intro T
  induction T with
  | nil => intro _ _; exact trivial
  | cons e T ih =>
    intro h he
    obtain ⟨h1, h2, h3, h4, h5⟩ := h
    rw [List.length_cons] at he
    exact ⟨by rw [he _ _ (by decide) (by decide) (by omega)]; exact h1, by rw [he _ _ (by decide) (by decide) (by omega)]; exact h2, by rw [he _ _ (by decide) (by decide) (by omega)]; exact h3, by rw [he _ _ (by decide) (by decide) (by omega)]; exact h4, ih h5 (fun a k h1 h2 h3 => he a k h1 h2 (by omega))⟩
/-- the children that wait, each with its figure and its place -/
def kl (σ : e3_H) : List Int → Int → Int → List (Int × Int × Int)
  | [], _, _ => []
  | c :: l, w, x => (c, w / wp σ l, x) :: kl σ l (w % wp σ l) (x + 1)
theorem kl_len {σ : e3_H} : ∀ (L : List Int) (w x : Int), (kl σ L w x).length = L.length := by
  intro L
  induction L with
  | nil => intro w x; rfl
  | cons c l ih => intro w x; show (kl σ l _ _).length + 1 = l.length + 1; rw [ih]
theorem dv3 {w p c : Int} (hp : 1 ≤ p) (hc : 1 ≤ c) : w / (p * c) = w / c / p ∧ w % (p * c) % c = w % c ∧ w % (p * c) / c = w / c % p := by
  have e1 : w / (p * c) = w / c / p := by rw [Int.mul_comm, Int.ediv_ediv_of_nonneg (by omega)]
  refine ⟨e1, Int.emod_emod_of_dvd w ⟨p, by rw [Int.mul_comm]⟩, ?_⟩
  rw [Int.emod_def w (p * c), Int.emod_def (w / c) p, e1]
  rw [show w - p * c * (w / c / p) = w + -(p * (w / c / p)) * c by rw [Int.neg_mul, Int.mul_right_comm, ← Int.sub_eq_add_neg]]
  rw [Int.add_mul_ediv_right _ _ (by omega), ← Int.sub_eq_add_neg]
theorem kl_snoc {σ : e3_H} {c : Int} (hc : 1 ≤ σ 55 c) : ∀ (L : List Int) (w x : Int), (∀ y, y ∈ L → 1 ≤ σ 55 y) → 0 ≤ w → w < wp σ (L ++ [c]) → kl σ (L ++ [c]) w x = kl σ L (w / σ 55 c) x ++ [(c, w % σ 55 c, x + L.length)] := by
  intro L
  induction L with
  | nil =>
    intro w x _ h0 h1
    have h1 : w < σ 55 c * 1 := h1
    rw [Int.mul_one] at h1
    show [(c, w / 1, x)] = [(c, w % σ 55 c, x + 0)]
    rw [Int.ediv_one, Int.emod_eq_of_lt h0 h1, Int.add_zero]
  | cons d l ih =>
    intro w x h h0 h1
    have hr : ∀ y, y ∈ l → 1 ≤ σ 55 y := fun y hy => h y (List.mem_cons_of_mem _ hy)
    have hp := wp_1 l hr
    have hpc : wp σ (l ++ [c]) = wp σ l * σ 55 c := wp_snoc l
    have hpp := mul_1 hp hc
    obtain ⟨e1, e2, e3⟩ := dv3 (w := w) hp hc
    show (d, w / wp σ (l ++ [c]), x) :: kl σ (l ++ [c]) (w % wp σ (l ++ [c])) (x + 1) = (d, w / σ 55 c / wp σ l, x) :: (kl σ l (w / σ 55 c % wp σ l) (x + 1) ++ [(c, w % σ 55 c, x + ((l.length + 1 : Nat) : Int))])
    rw [ih _ _ hr (Int.emod_nonneg _ (by rw [hpc]; omega)) (Int.emod_lt_of_pos _ (by rw [hpc]; omega)), hpc, e1, e2, e3]
    rw [show x + 1 + (l.length : Int) = x + ((l.length + 1 : Nat) : Int) by omega]
section MW
variable {Q : e3_H → e3_G → Prop} {σ : e3_H} {G : e3_G}
theorem cM_wait0 {q w x : Int} {T : List (Int × Int × Int)} {H : e3_H} (h71 : H 40 71 = T.length) (hl : T.length < 2000) (hT : M_st H T) (hQ : ∀ K, mr H K → K 40 71 = (T.length : Int) + 1 → K 40 61 = H 40 61 → K 40 65 = H 40 65 → (∀ a k : Int, 86 ≤ a → a ≤ 98 → (a < 94 ∨ 97 < a) → K a k = H a k) → M_st K ((q, w, x) :: T) → Q K G) : wM_wait0 Q q w x (-4) H G := by
  refine ⟨by omega, ?_⟩
  intro H1 e1
  have f1 : H1 40 71 = T.length := by rw [e1, e3_up_ne (ne_1 (by decide))]; exact h71
  refine ⟨by omega, ?_⟩
  intro H3 e3
  have f3 : H3 40 71 = T.length := by rw [e3, e3_up_ne (ne_1 (by decide))]; exact f1
  refine ⟨by omega, ?_⟩
  intro H5 e5
  have f5 : H5 40 71 = T.length := by rw [e5, e3_up_ne (ne_1 (by decide))]; exact f3
  refine ⟨by omega, ?_⟩
  intro H7 e7
  have f7 : H7 40 71 = T.length := by rw [e7, e3_up_ne (ne_1 (by decide))]; exact f5
  intro H9 e9
  rw [f7, e3_w32_id (by omega) (by omega)] at e9
  rw [h71] at e1
  rw [f1] at e3
  rw [f3] at e5
  rw [f5] at e7
  have at9 : ∀ a k : Int, ¬ (a = 40 ∧ k = 71) → (a < 94 ∨ 97 < a) → H9 a k = H a k := fun a k h1 h2 => by
    rw [e9, e3_up_ne h1, e7, e3_up_ne (ne_1 (by omega)), e5, e3_up_ne (ne_1 (by omega)), e3, e3_up_ne (ne_1 (by omega)), e1, e3_up_ne (ne_1 (by omega))]
  refine hQ H9 ⟨fun a k h1 h2 => at9 a k (fun z => h1 z.1) (by omega), fun k h1 h2 h3 => at9 40 k (fun z => h3 z.2) (by omega)⟩ (by rw [e9, e3_up_self]) (at9 40 61 (by decide) (by decide)) (at9 40 65 (by decide) (by decide)) (fun a k h1 h2 h3 => at9 a k (by omega) h3) ⟨?_, ?_, ?_, ?_, M_st_eq T hT (fun a k h1 h2 h3 => ?_)⟩
  · rw [e9, e3_up_ne (by omega), e7, e3_up_ne (by omega), e5, e3_up_ne (by omega), e3, e3_up_ne (by omega), e1, e3_up_self]
  · rw [e9, e3_up_ne (by omega), e7, e3_up_ne (by omega), e5, e3_up_ne (by omega), e3, e3_up_self]
  · rw [e9, e3_up_ne (by omega), e7, e3_up_ne (by omega), e5, e3_up_self]
  · rw [e9, e3_up_ne (by omega), e7, e3_up_self]
  · rw [e9, e3_up_ne (by omega), e7, e3_up_ne (by omega), e5, e3_up_ne (by omega), e3, e3_up_ne (by omega), e1, e3_up_ne (by omega)]
/-- the children are pushed, the last one first -/
theorem cM_46 {l3 : Int} (h3 : 0 ≤ l3 ∧ l3 ≤ 100000000) : ∀ (n : Nat) (L : List Int) (w : Int) (T : List (Int × Int × Int)) (H : e3_H), L.length = n → n ≤ 1700 → (∀ (i : Nat) (c : Int), L[i]? = some c → H 98 i = c) → (∀ c, c ∈ L → (0 ≤ c ∧ c < 1700) ∧ 1 ≤ σ 55 c ∧ σ 55 c ≤ 1000) → 0 ≤ w → w < wp σ L → w ≤ 2147483647 → tb σ H → H 40 71 = T.length → T.length + n ≤ 2000 → M_st H T →
    (∀ K, mr H K → K 40 71 = (T.length : Int) + n → K 40 61 = H 40 61 → K 40 65 = H 40 65 → (∀ a k : Int, 86 ≤ a → a ≤ 93 → K a k = H a k) → M_st K (kl σ L w (8 * l3 + 1) ++ T) → Q K G) → wM_waitAll_46 Q (n + 1) l3 (-4) w ((n : Int) - 1) H G := by
  intro n
  induction n with
  | zero =>
    intro L w T H hn _ _ _ _ _ _ _ h71 _ hT hQ
    have hL : L = [] := List.eq_nil_of_length_eq_zero hn
    subst hL
    exact brT (by decide) (hQ H (mr_rf H) (by rw [h71]; omega) rfl rfl (fun _ _ _ _ => rfl) hT)
  | succ n ih =>
    intro L w T H hn hn17 h98 hr w0 w1 w2 htb h71 hlen hT hQ
    have hne : L ≠ [] := fun z => by rw [z] at hn; cases hn
    obtain ⟨L1, c, rfl⟩ : ∃ L1 c, L = L1 ++ [c] := ⟨L.dropLast, L.getLast hne, (List.dropLast_concat_getLast hne).symm⟩
    have hn1 : L1.length = n := by rw [List.length_append] at hn; have : L1.length + 1 = n + 1 := hn; omega
    have hc := hr c (List.mem_append_right _ (List.mem_singleton.mpr rfl))
    have hr1 : ∀ y, y ∈ L1 → (0 ≤ y ∧ y < 1700) ∧ 1 ≤ σ 55 y ∧ σ 55 y ≤ 1000 := fun y hy => hr y (List.mem_append_left _ hy)
    have e98 : H 98 n = c := h98 n c (by rw [List.getElem?_append_right (by omega), hn1, Nat.sub_self]; rfl)
    have e55 : H 55 c = σ 55 c := htb 55 c (by decide) (by decide) (by decide)
    have hwp : wp σ (L1 ++ [c]) = wp σ L1 * σ 55 c := wp_snoc L1
    rw [show ((n + 1 : Nat) : Int) - 1 = n by omega]
    refine brF (by omega) ⟨⟨by omega, by omega⟩, brT (by decide) ?_⟩
    rw [e98]
    refine ⟨hc.1, by rw [e55]; omega, ?_⟩
    have d1 := Int.ediv_nonneg w0 (show 0 ≤ σ 55 c by omega)
    have d2 := Int.ediv_le_self (σ 55 c) w0
    have d3 := Int.emod_nonneg w (show σ 55 c ≠ 0 by omega)
    have d4 : w / σ 55 c < wp σ L1 := Int.ediv_lt_of_lt_mul (by omega) (by rw [← hwp]; exact w1)
    rw [e55, e3_rem_id ⟨w0, w2⟩ (by omega), e3_w32_id (x := 8 * l3) (by omega) (by omega), e3_w32_id (x := 8 * l3 + n) (by omega) (by omega), e3_w32_id (x := 8 * l3 + n + 1) (by omega) (by omega)]
    refine cM_wait0 h71 (by omega) hT (fun K m1 m2 m3 m4 m5 m6 => ?_)
    have k55 : K 55 c = σ 55 c := by rw [m1.1 55 c (by decide) (by decide)]; exact e55
    refine ⟨hc.1, by rw [k55]; omega, ?_⟩
    rw [k55, e3_div_id ⟨w0, w2⟩ (by omega), e3_w32_id (x := (n : Int) + -1) (by omega) (by omega)]
    refine ih L1 (w / σ 55 c) ((c, w % σ 55 c, 8 * l3 + n + 1) :: T) K hn1 (by omega) (fun i y hy => ?_) hr1 d1 d4 (by omega) (tb_mr htb m1) (by rw [m2, List.length_cons]; omega) (by rw [List.length_cons]; omega) m6 (fun K2 z1 z2 z3 z4 z5 z6 => ?_)
    · rw [m5 98 i (by decide) (by decide) (by decide)]
      have hlt : i < L1.length := (List.getElem?_eq_some_iff.mp hy).1
      exact h98 i y (by rw [List.getElem?_append_left hlt]; exact hy)
    · refine hQ K2 (mr_tr m1 z1) (by rw [z2, List.length_cons]; omega) (z3.trans m3) (z4.trans m4) (fun a k h1 h2 => (z5 a k h1 h2).trans (m5 a k h1 (by omega) (by omega))) ?_
      rw [kl_snoc hc.2.1 L1 w _ (fun y hy => (hr1 y hy).2.1) w0 w1, List.append_assoc, hn1, show 8 * l3 + 1 + (n : Int) = 8 * l3 + n + 1 by omega]
      exact z6
/-- children are gathered, then pushed -/
theorem cM_6 {l3 w : Int} {L : List Int} {T : List (Int × Int × Int)} (h3 : 0 ≤ l3 ∧ l3 ≤ 100000000) (hL : L.length ≤ 1700) (hr : ∀ c, c ∈ L → (0 ≤ c ∧ c < 1700) ∧ 1 ≤ σ 55 c ∧ σ 55 c ≤ 1000) (w0 : 0 ≤ w) (w1 : w < wp σ L) (w2 : w ≤ 2147483647) (hlen : T.length + L.length ≤ 2000) : ∀ (l A : List Int) (a : Int) (H : e3_H), A ++ l = L → ach σ a l → (∀ (i : Nat) (c : Int), A[i]? = some c → H 98 i = c) → tb σ H → H 40 71 = T.length → M_st H T →
    (∀ K, mr H K → K 40 71 = (T.length : Int) + L.length → K 40 61 = H 40 61 → K 40 65 = H 40 65 → (∀ a k : Int, 86 ≤ a → a ≤ 93 → K a k = H a k) → M_st K (kl σ L w (8 * l3 + 1) ++ T) → Q K G) → wM_waitAll_6 Q (l.length + 1) w l3 (-4) A.length a H G := by
  intro l
  induction l with
  | nil =>
    intro A a H hA ha h98 htb h71 hT hQ
    rw [List.append_nil] at hA
    subst hA
    have ha : a = -4 := ha
    refine brT ha ⟨A.length + 1, ?_⟩
    rw [e3_w32_id (x := (A.length : Int) - 1) (by omega) (by omega)]
    exact cM_46 h3 A.length A w T H rfl (by omega) h98 hr w0 w1 w2 htb h71 hlen hT hQ
  | cons c l ih =>
    intro A a H hA ha h98 htb h71 hT hQ
    have hz : a = c := ha.1
    subst hz
    have hm : a ∈ L := by rw [← hA]; exact List.mem_append_right _ (List.mem_cons_self ..)
    have hc := hr a hm
    have hAl : A.length + (l.length + 1) = L.length := by rw [← hA, List.length_append]; rfl
    refine brF (by omega) ⟨⟨by omega, by omega⟩, ?_⟩
    intro H1 e1
    refine ⟨hc.1, ?_⟩
    have m1 : mr H H1 := by rw [e1]; exact mr_up (mr_rf H) (Or.inl (by decide))
    have e52 : H1 52 a = σ 52 a := (tb_mr htb m1) 52 a (by decide) (by decide) (by decide)
    rw [e52, e3_w32_id (x := (A.length : Int) + 1) (by omega) (by omega)]
    have hal : ((A ++ [a]).length : Int) = (A.length : Int) + 1 := by rw [List.length_append]; rfl
    rw [← hal]
    refine ih (A ++ [a]) _ H1 (by rw [List.append_assoc]; exact hA) ha.2 (fun i y hy => ?_) (tb_mr htb m1) (by rw [e1, e3_up_ne (ne_1 (by decide))]; exact h71) (M_st_eq T hT (fun b k h1 h2 _ => by rw [e1, e3_up_ne (ne_1 (by omega))])) (fun K z1 z2 z3 z4 z5 z6 => hQ K (mr_tr m1 z1) z2 (by rw [z3, e1, e3_up_ne (ne_1 (by decide))]) (by rw [z4, e1, e3_up_ne (ne_1 (by decide))]) (fun b k h1 h2 => by rw [z5 b k h1 h2, e1, e3_up_ne (ne_1 (by omega))]) z6)
    by_cases hi : i < A.length
    · rw [List.getElem?_append_left hi] at hy
      rw [e1, e3_up_ne (fun z => by have := z.2; omega)]
      exact h98 i y hy
    · rw [List.getElem?_append_right (by omega)] at hy
      by_cases hi2 : i = A.length
      · rw [hi2, Nat.sub_self] at hy
        have hy : some a = some y := hy
        cases hy
        rw [e1, hi2, e3_up_self]
      · rw [List.getElem?_eq_none (by show 1 ≤ _; omega)] at hy
        cases hy
end MW
