/-- what binding may change -/
def zB (H K : e3_H) : Prop := (∀ a k : Int, a ≠ 40 → a ≠ 136 → a < 94 ∨ 98 < a → K a k = H a k) ∧ ∀ k : Int, k ≠ 71 → K 40 k = H 40 k
theorem zB_rf (H : e3_H) : zB H H := ⟨fun _ _ _ _ _ => rfl, fun _ _ => rfl⟩
theorem zB_tr {H K K2 : e3_H} (h : zB H K) (h2 : zB K K2) : zB H K2 := ⟨fun a k h3 h4 h5 => (h2.1 a k h3 h4 h5).trans (h.1 a k h3 h4 h5), fun k h3 => (h2.2 k h3).trans (h.2 k h3)⟩
theorem zB_up {H K : e3_H} {a k v : Int} (h : zB H K) (ha : (94 ≤ a ∧ a ≤ 98) ∨ a = 136 ∨ (a = 40 ∧ k = 71)) : zB H (e3_up K a k v) := ⟨fun b j h3 h4 h5 => by rw [e3_up_ne (fun z => by omega)]; exact h.1 b j h3 h4 h5, fun j h3 => by rw [e3_up_ne (fun z => by omega)]; exact h.2 j h3⟩
theorem tb_zB {σ H K : e3_H} (h : tb σ H) (h2 : zB H K) : tb σ K := fun a k h3 h4 h5 => (h2.1 a k (by omega) (by omega) (by omega)).trans (h a k h3 h4 h5)
/-- NAMES that hold VALUES -/
def z6 (c : Int) (K : e3_H) : Prop := ∀ i : Int, 0 ≤ i → i < 8 → 0 ≤ K 136 i ∧ K 136 i < c
theorem z6_up {c : Int} {K : e3_H} {a k v : Int} (h : z6 c K) (ha : a ≠ 136 ∨ (0 ≤ v ∧ v < c)) : z6 c (e3_up K a k v) := fun i i0 i1 => by
  by_cases z : a = 136 ∧ k = i
  · obtain ⟨z1, z2⟩ := z
    subst z1; subst z2
    rw [e3_up_self]
    rcases ha with y | y
    · exact absurd rfl y
    · exact y
  · rw [e3_up_ne (fun y => z ⟨y.1.symm, y.2.symm⟩)]; exact h i i0 i1
/-- the stack, with VALUES -/
def zSt (c : Int) (K : e3_H) : List (Int × Int × Int) → Prop
  | [] => True
  | e :: T => K 94 T.length = e.1 ∧ K 95 T.length = e.2.1 ∧ K 96 T.length = e.2.2 ∧ (0 ≤ K 97 T.length ∧ K 97 T.length < c) ∧ zSt c K T
theorem zSt_eq {c : Int} {K K2 : e3_H} : ∀ T : List (Int × Int × Int), zSt c K T → (∀ a k : Int, 94 ≤ a → a ≤ 97 → k < T.length → K2 a k = K a k) → zSt c K2 T := by
  intro T
  induction T with
  | nil => intro _ _; exact trivial
  | cons e T ih =>
    intro h he
    obtain ⟨h1, h2, h3, h4, h5⟩ := h
    rw [List.length_cons] at he
    exact ⟨by rw [he _ _ (by decide) (by decide) (by omega)]; exact h1, by rw [he _ _ (by decide) (by decide) (by omega)]; exact h2, by rw [he _ _ (by decide) (by decide) (by omega)]; exact h3, by rw [he _ _ (by decide) (by decide) (by omega)]; exact h4, ih h5 (fun a k h1 h2 h3 => he a k h1 h2 (by omega))⟩
/-- the NAMES of a pattern have numbers -/
def zNX (σ : e3_H) (q : Int) : Prop := (σ 53 q = -4 ∨ (0 ≤ σ 53 q ∧ σ 53 q < 8)) ∧ (σ 54 q = -4 ∨ (0 ≤ σ 54 q ∧ σ 54 q < 8))
section ZBD
variable {σ : e3_H} {G : e3_G} {c : Int}
theorem zM_wait0 {Q : e3_H → e3_G → Prop} {q w x v : Int} {T : List (Int × Int × Int)} {H : e3_H} (h71 : H 40 71 = T.length) (hl : T.length < 2000) (hT : zSt c H T) (hv : 0 ≤ v ∧ v < c) (h6 : z6 c H) (hQ : ∀ K, zB H K → K 40 71 = (T.length : Int) + 1 → (∀ k : Int, K 98 k = H 98 k) → z6 c K → zSt c K ((q, w, x) :: T) → Q K G) : wM_wait0 Q q w x v H G := by
  refine ⟨by omega, ?_⟩
  intro H1 e1
  have f1 : H1 40 71 = T.length := by rw [e1, e3_up_ne (ne_1 (by decide))]; exact h71
  refine ⟨by omega, ?_⟩
  intro H3 e3
  have f3 : H3 40 71 = T.length := by rw [e3, e3_up_ne (ne_1 (by decide))]; exact f1
  refine ⟨by omega, ?_⟩
  intro H5 e5
  have f5 : H5 40 71 = T.length := by rw [e5, e3_up_ne (ne_1 (by decide))]; exact f3
  refine ⟨by omega, ?_⟩
  intro H7 e7
  have f7 : H7 40 71 = T.length := by rw [e7, e3_up_ne (ne_1 (by decide))]; exact f5
  intro H9 e9
  rw [f7, e3_w32_id (by omega) (by omega)] at e9
  rw [h71] at e1
  rw [f1] at e3
  rw [f3] at e5
  rw [f5] at e7
  have b9 : zB H H9 := by rw [e9, e7, e5, e3, e1]; exact zB_up (zB_up (zB_up (zB_up (zB_up (zB_rf H) (by omega)) (by omega)) (by omega)) (by omega)) (by omega)
  have s9 : z6 c H9 := by rw [e9, e7, e5, e3, e1]; exact z6_up (z6_up (z6_up (z6_up (z6_up h6 (Or.inl (by decide))) (Or.inl (by decide))) (Or.inl (by decide))) (Or.inl (by decide))) (Or.inl (by decide))
  refine hQ H9 b9 (by rw [e9, e3_up_self]) (fun k => ?_) s9 ⟨?_, ?_, ?_, ?_, zSt_eq T hT (fun a k h1 h2 h3 => ?_)⟩
  · rw [e9, e3_up_ne (by omega), e7, e3_up_ne (by omega), e5, e3_up_ne (by omega), e3, e3_up_ne (by omega), e1, e3_up_ne (by omega)]
  · rw [e9, e3_up_ne (by omega), e7, e3_up_ne (by omega), e5, e3_up_ne (by omega), e3, e3_up_ne (by omega), e1, e3_up_self]
  · rw [e9, e3_up_ne (by omega), e7, e3_up_ne (by omega), e5, e3_up_ne (by omega), e3, e3_up_self]
  · rw [e9, e3_up_ne (by omega), e7, e3_up_ne (by omega), e5, e3_up_self]
  · rw [e9, e3_up_ne (by omega), e7, e3_up_self]; exact hv
  · rw [e9, e3_up_ne (by omega), e7, e3_up_ne (by omega), e5, e3_up_ne (by omega), e3, e3_up_ne (by omega), e1, e3_up_ne (by omega)]
/-- VALUES of children -/
def zVL (c l3 l4 : Int) (n : Nat) (H : e3_H) : Prop := (l3 = 0 → n ≤ 3 ∧ ∀ i : Nat, i < n → 0 ≤ H 135 i ∧ H 135 i < c) ∧ (l3 ≠ 0 → n ≤ 4 ∧ ∀ i : Nat, i < n → 0 ≤ H 132 (4 * l4 + i) ∧ H 132 (4 * l4 + i) < c)
theorem zM_46 {Q : e3_H → e3_G → Prop} {l3 l4 : Int} (h3 : 0 ≤ l3 ∧ l3 ≤ 100000000) (h4 : 0 ≤ l4 ∧ l4 < 160) : ∀ (n : Nat) (L : List Int) (w : Int) (T : List (Int × Int × Int)) (H : e3_H), L.length = n → n ≤ 1700 → (∀ (i : Nat) (c : Int), L[i]? = some c → H 98 i = c) → (∀ c, c ∈ L → (0 ≤ c ∧ c < 1700) ∧ 1 ≤ σ 55 c ∧ σ 55 c ≤ 1000) → 0 ≤ w → w < wp σ L → w ≤ 2147483647 → tb σ H → H 40 71 = T.length → T.length + n ≤ 2000 → zSt c H T → z6 c H → zVL c l3 l4 n H →
    (∀ K, zB H K → K 40 71 = (T.length : Int) + n → z6 c K → zSt c K (kl σ L w (8 * l3 + 1) ++ T) → Q K G) → wM_waitAll_46 Q (n + 1) l3 l4 w ((n : Int) - 1) H G := by
  intro n
  induction n with
  | zero =>
    intro L w T H hn _ _ _ _ _ _ _ h71 _ hT h6 _ hQ
    have hL : L = [] := List.eq_nil_of_length_eq_zero hn
    subst hL
    exact brT (by decide) (hQ H (zB_rf H) (by rw [h71]; omega) h6 hT)
  | succ n ih =>
    intro L w T H hn hn17 h98 hr w0 w1 w2 htb h71 hlen hT h6 hV hQ
    have hne : L ≠ [] := fun z => by rw [z] at hn; cases hn
    obtain ⟨L1, d, rfl⟩ : ∃ L1 c, L = L1 ++ [c] := ⟨L.dropLast, L.getLast hne, (List.dropLast_concat_getLast hne).symm⟩
    have hn1 : L1.length = n := by rw [List.length_append] at hn; have : L1.length + 1 = n + 1 := hn; omega
    have hc := hr d (List.mem_append_right _ (List.mem_singleton.mpr rfl))
    have hr1 : ∀ y, y ∈ L1 → (0 ≤ y ∧ y < 1700) ∧ 1 ≤ σ 55 y ∧ σ 55 y ≤ 1000 := fun y hy => hr y (List.mem_append_left _ hy)
    have e98 : H 98 n = d := h98 n d (by rw [List.getElem?_append_right (by omega), hn1, Nat.sub_self]; rfl)
    have e55 : H 55 d = σ 55 d := htb 55 d (by decide) (by decide) (by decide)
    have hwp : wp σ (L1 ++ [d]) = wp σ L1 * σ 55 d := wp_snoc L1
    have go : ∀ v : Int, 0 ≤ v ∧ v < c → wM_waitAll_96 Q (fun l3 l4 l6 l7 H G => wM_waitAll_46 Q (n + 1) l3 l4 l6 l7 H G) l3 l4 w n (H 98 n) v H G := fun v hv => by
      rw [e98]
      refine ⟨hc.1, by rw [e55]; omega, ?_⟩
      have d1 := Int.ediv_nonneg w0 (show 0 ≤ σ 55 d by omega)
      have d2 := Int.ediv_le_self (σ 55 d) w0
      have d4 : w / σ 55 d < wp σ L1 := Int.ediv_lt_of_lt_mul (by omega) (by rw [← hwp]; exact w1)
      rw [e55, e3_rem_id ⟨w0, w2⟩ (by omega), e3_w32_id (x := 8 * l3) (by omega) (by omega), e3_w32_id (x := 8 * l3 + n) (by omega) (by omega), e3_w32_id (x := 8 * l3 + n + 1) (by omega) (by omega)]
      refine zM_wait0 h71 (by omega) hT hv h6 (fun K m1 m2 m3 m4 m5 => ?_)
      have k55 : K 55 d = σ 55 d := by rw [m1.1 55 d (by decide) (by decide) (by decide)]; exact e55
      refine ⟨hc.1, by rw [k55]; omega, ?_⟩
      rw [k55, e3_div_id ⟨w0, w2⟩ (by omega), e3_w32_id (x := (n : Int) + -1) (by omega) (by omega)]
      refine ih L1 (w / σ 55 d) ((d, w % σ 55 d, 8 * l3 + n + 1) :: T) K hn1 (by omega) (fun i y hy => ?_) hr1 d1 d4 (by omega) (tb_zB htb m1) (by rw [m2, List.length_cons]; omega) (by rw [List.length_cons]; omega) m5 m4 ⟨fun z => ?_, fun z => ?_⟩ (fun K2 z1 z2 z3 z6 => ?_)
      · rw [m3]
        have hlt : i < L1.length := (List.getElem?_eq_some_iff.mp hy).1
        exact h98 i y (by rw [List.getElem?_append_left hlt]; exact hy)
      · refine ⟨by have := (hV.1 z).1; omega, fun i hi => ?_⟩
        rw [m1.1 135 _ (by decide) (by decide) (by decide)]
        exact (hV.1 z).2 i (by omega)
      · refine ⟨by have := (hV.2 z).1; omega, fun i hi => ?_⟩
        rw [m1.1 132 _ (by decide) (by decide) (by decide)]
        exact (hV.2 z).2 i (by omega)
      · refine hQ K2 (zB_tr m1 z1) (by rw [z2, List.length_cons]; omega) z3 ?_
        rw [kl_snoc hc.2.1 L1 w _ (fun y hy => (hr1 y hy).2.1) w0 w1, List.append_assoc, hn1, show 8 * l3 + 1 + (n : Int) = 8 * l3 + n + 1 by omega]
        exact z6
    rw [show ((n + 1 : Nat) : Int) - 1 = n by omega]
    refine brF (by omega) ⟨⟨by omega, by omega⟩, brF (by omega) ⟨fun z => ?_, fun z => ?_⟩⟩
    · obtain ⟨v1, v2⟩ := hV.1 z
      exact ⟨by omega, go _ (v2 n (by omega))⟩
    · obtain ⟨v1, v2⟩ := hV.2 z
      rw [e3_w32_id (x := 4 * l4) (by omega) (by omega), e3_w32_id (x := 4 * l4 + (n : Int)) (by omega) (by omega)]
      exact ⟨by omega, go _ (v2 n (by omega))⟩
theorem zM_6 {Q : e3_H → e3_G → Prop} {l3 l4 w : Int} {L : List Int} {T : List (Int × Int × Int)} (h3 : 0 ≤ l3 ∧ l3 ≤ 100000000) (h4 : 0 ≤ l4 ∧ l4 < 160) (hL : L.length ≤ 1700) (hr : ∀ c, c ∈ L → (0 ≤ c ∧ c < 1700) ∧ 1 ≤ σ 55 c ∧ σ 55 c ≤ 1000) (w0 : 0 ≤ w) (w1 : w < wp σ L) (w2 : w ≤ 2147483647) (hlen : T.length + L.length ≤ 2000) : ∀ (l A : List Int) (a : Int) (H : e3_H), A ++ l = L → ach σ a l → (∀ (i : Nat) (c : Int), A[i]? = some c → H 98 i = c) → tb σ H → H 40 71 = T.length → zSt c H T → z6 c H → zVL c l3 l4 L.length H →
    (∀ K, zB H K → K 40 71 = (T.length : Int) + L.length → z6 c K → zSt c K (kl σ L w (8 * l3 + 1) ++ T) → Q K G) → wM_waitAll_6 Q (l.length + 1) w l3 l4 A.length a H G := by
  intro l
  induction l with
  | nil =>
    intro A a H hA ha h98 htb h71 hT h6 hV hQ
    rw [List.append_nil] at hA
    subst hA
    have ha : a = -4 := ha
    refine brT ha ⟨A.length + 1, ?_⟩
    rw [e3_w32_id (x := (A.length : Int) - 1) (by omega) (by omega)]
    exact zM_46 h3 h4 A.length A w T H rfl (by omega) h98 hr w0 w1 w2 htb h71 hlen hT h6 hV hQ
  | cons d l ih =>
    intro A a H hA ha h98 htb h71 hT h6 hV hQ
    have hz : a = d := ha.1
    subst hz
    have hm : a ∈ L := by rw [← hA]; exact List.mem_append_right _ (List.mem_cons_self ..)
    have hc := hr a hm
    have hAl : A.length + (l.length + 1) = L.length := by rw [← hA, List.length_append]; rfl
    refine brF (by omega) ⟨⟨by omega, by omega⟩, ?_⟩
    intro H1 e1
    refine ⟨hc.1, ?_⟩
    have m1 : zB H H1 := by rw [e1]; exact zB_up (zB_rf H) (by omega)
    have e52 : H1 52 a = σ 52 a := (tb_zB htb m1) 52 a (by decide) (by decide) (by decide)
    rw [e52, e3_w32_id (x := (A.length : Int) + 1) (by omega) (by omega)]
    have hal : ((A ++ [a]).length : Int) = (A.length : Int) + 1 := by rw [List.length_append]; rfl
    rw [← hal]
    refine ih (A ++ [a]) _ H1 (by rw [List.append_assoc]; exact hA) ha.2 (fun i y hy => ?_) (tb_zB htb m1) (by rw [e1, e3_up_ne (ne_1 (by decide))]; exact h71) (zSt_eq T hT (fun b k h1 h2 _ => by rw [e1, e3_up_ne (ne_1 (by omega))])) (by rw [e1]; exact z6_up h6 (Or.inl (by decide))) ⟨fun z => ⟨(hV.1 z).1, fun i hi => by rw [e1, e3_up_ne (ne_1 (by decide))]; exact (hV.1 z).2 i hi⟩, fun z => ⟨(hV.2 z).1, fun i hi => by rw [e1, e3_up_ne (ne_1 (by decide))]; exact (hV.2 z).2 i hi⟩⟩ (fun K z1 z2 z3 z4 => hQ K (zB_tr m1 z1) z2 z3 z4)
    by_cases hi : i < A.length
    · rw [List.getElem?_append_left hi] at hy
      rw [e1, e3_up_ne (fun z => by have := z.2; omega)]
      exact h98 i y hy
    · rw [List.getElem?_append_right (by omega)] at hy
      by_cases hi2 : i = A.length
      · rw [hi2, Nat.sub_self] at hy
        have hy : some a = some y := hy
        cases hy
        rw [e1, hi2, e3_up_self]
      · rw [List.getElem?_eq_none (by show 1 ≤ _; omega)] at hy
        cases hy
/-- NAMES are noted -/
theorem zM_notes {Q : e3_H → e3_G → Prop} {q v : Int} {H : e3_H} (htb : tb σ H) (hq : 0 ≤ q ∧ q < 1700) (hn : zNX σ q) (hv : 0 ≤ v ∧ v < c) (h6 : z6 c H) (hQ : ∀ K, (∀ a k : Int, a ≠ 136 → K a k = H a k) → z6 c K → Q K G) : wM_notes Q q v H G := by
  have e53 := htb 53 q (by decide) (by decide) (by decide)
  have e54 := htb 54 q (by decide) (by decide) (by decide)
  have n27 : ∀ K, (∀ a k : Int, a ≠ 136 → K a k = H a k) → z6 c K → wM_notes_27 Q q v K G := fun K f s => by
    have k54 : K 54 q = σ 54 q := (f 54 q (by decide)).trans e54
    refine brF (by omega) ⟨hq, ?_⟩
    rw [k54]
    refine ⟨fun _ => hQ K f s, fun z => ⟨hq, by rcases hn.2 with y | y; exact absurd y z; exact y, fun H2 e2 => ?_⟩⟩
    rw [e2]
    exact hQ _ (fun a k ha => by rw [e3_up_ne (ne_1 ha)]; exact f a k ha) (z6_up s (Or.inr hv))
  refine brF (by omega) ⟨hq, ?_⟩
  rw [e53]
  refine ⟨fun _ => n27 H (fun _ _ _ => rfl) h6, fun z => ⟨hq, by rcases hn.1 with y | y; exact absurd y z; exact y, fun H2 e2 => ?_⟩⟩
  rw [e2]
  exact n27 _ (fun a k ha => by rw [e3_up_ne (ne_1 ha)]) (z6_up h6 (Or.inr hv))
end ZBD
