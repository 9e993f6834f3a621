/-- branches of the reference while they are laid: what may change -/
def mb (K K2 : e3_H) : Prop := (∀ a k : Int, a ≠ 40 → a < 120 ∨ 124 < a → K2 a k = K a k) ∧ ∀ k : Int, k ≠ 99 → K2 40 k = K 40 k
theorem mb_rf (K : e3_H) : mb K K := ⟨fun _ _ _ _ => rfl, fun _ _ => rfl⟩
theorem mb_tr {K K2 K3 : e3_H} (h : mb K K2) (h2 : mb K2 K3) : mb K K3 := ⟨fun a k h3 h4 => (h2.1 a k h3 h4).trans (h.1 a k h3 h4), fun k h3 => (h2.2 k h3).trans (h.2 k h3)⟩
theorem mb_up {K K2 : e3_H} {a k v : Int} (h : mb K K2) (ha : (120 ≤ a ∧ a ≤ 124) ∨ (a = 40 ∧ k = 99)) : mb K (e3_up K2 a k v) := ⟨fun b j h3 h4 => by rw [e3_up_ne (fun z => by omega)]; exact h.1 b j h3 h4, fun j h3 => by rw [e3_up_ne (fun z => by omega)]; exact h.2 j h3⟩
theorem tb_mb {σ K K2 : e3_H} (h : tb σ K) (h2 : mb K K2) : tb σ K2 := fun a k h3 h4 h5 => (h2.1 a k (by omega) (by omega)).trans (h a k h3 h4 h5)
/-- a label, in the reference -/
def enc (s : Int) (v : Int × Int) : Int × Int × Int × Int := if s = 0 then (v.1, v.2, 0, 0) else if s = 1 then (v.2, 0, 0, 0) else if s = 2 then (if v.2 = -1 then (0, 0, 0, 1) else (0, 0, v.2, 0)) else (if v.2 = -1 then (-4, 0, 0, 0) else (v.2, 0, 0, 0))
/-- the branches that were laid -/
def BRL (l : List (Int × Int × Int × Int)) (H : e3_H) : Prop := H 40 99 = (l.length : Int) ∧ ∀ (i : Nat) (e : Int × Int × Int × Int), l[i]? = some e → H 120 i = e.1 ∧ H 121 i = e.2.1 ∧ H 122 i = e.2.2.1 ∧ H 123 i = e.2.2.2
theorem and_1 : e3_and 0 1 = 0 ∧ e3_and 1 1 = 1 := by decide
section MBR
variable {Q : e3_H → e3_G → Prop} {H : e3_H} {G : e3_G}
theorem cM_one {l : List (Int × Int × Int × Int)} {a b c d : Int} (h : BRL l H) (hl : l.length < 100) (hd : d = 0 ∨ d = 1) (hQ : ∀ K, BRL (l ++ [(a, b, c, d)]) K → mb H K → (∀ x : Int, K 124 x = H 124 x) → Q K G) : wM_oneBranch Q a b c d H G := by
  obtain ⟨h1, h2⟩ := h
  have had : e3_and d 1 = d := by
    rcases hd with z | z
    · rw [z]; exact and_1.1
    · rw [z]; exact and_1.2
  refine ⟨by omega, ?_⟩
  intro H1 e1
  have f1 : H1 40 99 = l.length := by rw [e1, e3_up_ne (ne_1 (by decide))]; exact h1
  refine ⟨by omega, ?_⟩
  intro H3 e3
  have f3 : H3 40 99 = l.length := by rw [e3, e3_up_ne (ne_1 (by decide))]; exact f1
  refine ⟨by omega, ?_⟩
  intro H5 e5
  have f5 : H5 40 99 = l.length := by rw [e5, e3_up_ne (ne_1 (by decide))]; exact f3
  refine ⟨by omega, ?_⟩
  intro H7 e7
  have f7 : H7 40 99 = l.length := by rw [e7, e3_up_ne (ne_1 (by decide))]; exact f5
  intro H9 e9
  rw [f7, e3_w32_id (by omega) (by omega)] at e9
  rw [h1] at e1
  rw [f1] at e3
  rw [f3] at e5
  rw [f5, had] at e7
  have hm : mb H H9 := by rw [e9, e7, e5, e3, e1]; exact mb_up (mb_up (mb_up (mb_up (mb_up (mb_rf H) (Or.inl (by decide))) (Or.inl (by decide))) (Or.inl (by decide))) (Or.inl (by decide))) (Or.inr (by decide))
  refine hQ H9 ⟨by rw [e9, e3_up_self, List.length_append]; show _ = ((l.length + 1 : Nat) : Int); omega, fun i e he => ?_⟩ hm (fun x => by rw [e9, e3_up_ne (by omega), e7, e3_up_ne (by omega), e5, e3_up_ne (by omega), e3, e3_up_ne (by omega), e1, e3_up_ne (by omega)])
  by_cases hi : i < l.length
  · rw [List.getElem?_append_left hi] at he
    have := h2 i e he
    rw [e9, e3_up_ne (by omega), e7, e3_up_ne (by omega), e5, e3_up_ne (by omega), e3, e3_up_ne (by omega), e1, e3_up_ne (by omega), e3_up_ne (by omega), e3_up_ne (by omega), e3_up_ne (by omega), e3_up_ne (by omega), e3_up_ne (by omega), e3_up_ne (by omega), e3_up_ne (by omega), e3_up_ne (by omega), e3_up_ne (by omega), e3_up_ne (by omega), e3_up_ne (by omega), e3_up_ne (by omega), e3_up_ne (by omega), e3_up_ne (by omega), e3_up_ne (by omega)]
    exact this
  · rw [List.getElem?_append_right (by omega)] at he
    have h0 : i - l.length < 1 := (List.getElem?_eq_some_iff.mp he).1
    have hi2 : i = l.length := by omega
    rw [hi2, Nat.sub_self] at he
    have he : some (a, b, c, d) = some e := he
    cases he
    rw [hi2]
    refine ⟨?_, ?_, ?_, ?_⟩
    · rw [e9, e3_up_ne (by omega), e7, e3_up_ne (by omega), e5, e3_up_ne (by omega), e3, e3_up_ne (by omega), e1, e3_up_self]
    · rw [e9, e3_up_ne (by omega), e7, e3_up_ne (by omega), e5, e3_up_ne (by omega), e3, e3_up_self]
    · rw [e9, e3_up_ne (by omega), e7, e3_up_ne (by omega), e5, e3_up_self]
    · rw [e9, e3_up_ne (by omega), e7, e3_up_self]
/-- numbers where parts begin -/
def CUL (l : List Int) (H : e3_H) : Prop := H 40 99 = (l.length : Int) ∧ ∀ (i : Nat) (c : Int), l[i]? = some c → H 124 i = c
theorem i64_mn : (-2147483648 : Int64).toInt = -2147483648 := by decide
theorem cM_cut {l : List Int} {c : Int} (h : CUL l H) (hs : l.Pairwise (· < ·)) (hl : l.length < 100) (hc : -2147483648 < c) (hQ : ∀ K, CUL (cin c l) K → mb H K → Q K G) : wM_cut Q c H G := by
  obtain ⟨h1, h2⟩ := h
  -- the shifting
  have fin : ∀ (A B : List Int) (K : e3_H), l = A ++ B → (∀ d, d ∈ A → d < c) → (∀ d, d ∈ B → c < d) → K 40 99 = (l.length : Int) → mb H K → (∀ (i : Nat) (d : Int), A[i]? = some d → K 124 i = d) → (∀ (i : Nat) (d : Int), B[i]? = some d → K 124 ((A.length : Int) + 1 + i) = d) → wM_cut_102 Q c A.length K G := by
    intro A B K e hA hB h6 hm hKA hKB
    have hlen : l.length = A.length + B.length := by rw [e, List.length_append]
    refine ⟨by omega, ?_⟩
    intro H1 e1
    intro H3 e3
    have f1 : H1 40 99 = (l.length : Int) := by rw [e1, e3_up_ne (ne_1 (by decide))]; exact h6
    rw [f1, e3_w32_id (by omega) (by omega)] at e3
    have hcl : cin c l = A ++ c :: B := by rw [e]; exact cin_split A B hA hB
    refine hQ H3 ⟨by rw [e3, e3_up_self, hcl, List.length_append, List.length_cons]; omega, fun i d hd => ?_⟩ (by rw [e3, e1]; exact mb_up (mb_up hm (Or.inl (by decide))) (Or.inr (by decide)))
    rw [e3, e3_up_ne (ne_1 (by decide)), e1]
    rw [hcl] at hd
    by_cases hi : i < A.length
    · rw [List.getElem?_append_left hi] at hd
      rw [e3_up_ne (fun z => by have := z.2; omega)]
      exact hKA i d hd
    · rw [List.getElem?_append_right (by omega)] at hd
      by_cases hi2 : i = A.length
      · rw [hi2, Nat.sub_self] at hd
        have hd : some c = some d := hd
        cases hd
        rw [hi2, e3_up_self]
      · obtain ⟨j, hj⟩ : ∃ j, i - A.length = j + 1 := ⟨i - A.length - 1, by omega⟩
        rw [hj] at hd
        have hd : B[j]? = some d := hd
        rw [e3_up_ne (fun z => by have := z.2; omega)]
        have := hKB j d hd
        rw [show (A.length : Int) + 1 + j = (i : Int) by omega] at this
        exact this
  have shift : c ∉ l → ∀ (n : Nat) (A B : List Int) (K : e3_H), A.length = n → l = A ++ B → (∀ d, d ∈ B → c < d) → K 40 99 = (l.length : Int) → mb H K → (∀ (i : Nat) (d : Int), A[i]? = some d → K 124 i = d) → (∀ (i : Nat) (d : Int), B[i]? = some d → K 124 ((A.length : Int) + 1 + i) = d) → wM_cut_65 Q (n + 1) c A.length K G := by
    intro hcl n
    induction n with
    | zero =>
      intro A B K hn e hB h6 hm hKA hKB
      have hA : A = [] := List.eq_nil_of_length_eq_zero hn
      subst hA
      exact brF (by show ¬ ((0 : Int) < 0); omega) (fin [] B K e (fun d hd => absurd hd (List.not_mem_nil)) hB h6 hm hKA hKB)
    | succ n ih =>
      intro A B K hn e hB h6 hm hKA hKB
      have hne : A ≠ [] := fun z => by rw [z] at hn; cases hn
      obtain ⟨A1, d, rfl⟩ : ∃ A1 d, A = A1 ++ [d] := ⟨A.dropLast, A.getLast hne, (List.dropLast_concat_getLast hne).symm⟩
      have hn1 : A1.length = n := by rw [List.length_append] at hn; have : A1.length + 1 = n + 1 := hn; omega
      have hA1 : ((A1 ++ [d]).length : Int) = (A1.length : Int) + 1 := by rw [List.length_append]; rfl
      have hlen : l.length = A1.length + 1 + B.length := by rw [e, List.length_append, List.length_append]; rfl
      have hd25 : K 124 (A1.length : Int) = d := hKA A1.length d (by rw [List.getElem?_append_right (Nat.le_refl _), Nat.sub_self]; rfl)
      rw [hA1]
      refine brT (by omega) ?_
      rw [e3_w32_id (x := (A1.length : Int) + 1 - 1) (by omega) (by omega), show (A1.length : Int) + 1 - 1 = (A1.length : Int) by omega, hd25]
      refine ⟨by omega, fun hcd => ⟨by omega, by omega, ?_⟩, fun hcd => ?_⟩
      · intro H2 e2
        rw [e3_w32_id (x := (A1.length : Int) + 1 + -1) (by omega) (by omega), show (A1.length : Int) + 1 + -1 = (A1.length : Int) by omega]
        refine ih A1 (d :: B) H2 hn1 (by rw [e, List.append_assoc]; rfl) (fun y hy => ?_) (by rw [e2, e3_up_ne (ne_1 (by decide))]; exact h6) (by rw [e2]; exact mb_up hm (Or.inl (by decide))) (fun i y hy => ?_) (fun i y hy => ?_)
        · rcases List.mem_cons.mp hy with z | z
          · rw [z]; exact hcd
          · exact hB y z
        · have hi : i < A1.length := (List.getElem?_eq_some_iff.mp hy).1
          rw [e2, e3_up_ne (fun z => by have := z.2; omega)]
          exact hKA i y (by rw [List.getElem?_append_left hi]; exact hy)
        · cases i with
          | zero =>
            have hy : some d = some y := hy
            cases hy
            rw [e2, show (A1.length : Int) + 1 + ((0 : Nat) : Int) = (A1.length : Int) + 1 by omega, e3_up_self]
          | succ i =>
            have hy : B[i]? = some y := hy
            rw [e2, e3_up_ne (fun z => by have := z.2; omega)]
            have := hKB i y hy
            rw [hA1, show (A1.length : Int) + 1 + 1 + i = (A1.length : Int) + 1 + ((i + 1 : Nat) : Int) by omega] at this
            exact this
      · have hs2 := hs
        rw [e] at hs2
        have hsA := (List.pairwise_append.mp hs2).1
        have hdc : d < c := by
          have : d ≠ c := fun z => hcl (by rw [e, z]; exact List.mem_append_left _ (List.mem_append_right _ (List.mem_singleton.mpr rfl)))
          omega
        have := fin (A1 ++ [d]) B K e (fun y hy => by
          rcases List.mem_append.mp hy with z | z
          · have := (List.pairwise_append.mp hsA).2.2 y z d (List.mem_singleton.mpr rfl)
            omega
          · rw [List.mem_singleton.mp z]; exact hdc) hB h6 hm hKA hKB
        rw [hA1] at this
        exact this
  -- is it there
  have look : ∀ (l2 l1 : List Int) (f : Int), l = l1 ++ l2 → (f = 0 ∨ f = 1) → (f = 0 → c ∈ l1) → (f = 1 → c ∉ l1) → wM_cut_23 Q (l2.length + 1) c l.length f l1.length H G := by
    intro l2
    induction l2 with
    | nil =>
      intro l1 f e hf f0 f1
      rw [List.append_nil] at e
      refine brF (by rw [e]; omega) ⟨fun hz => hQ H ?_ (mb_rf H), fun hz => ⟨l.length + 1, ?_⟩⟩
      · rw [cin_same l hs (by rw [e]; exact f0 hz)]
        exact ⟨h1, h2⟩
      · exact shift (by rw [e]; exact f1 (by omega)) l.length l [] H rfl (List.append_nil _).symm (fun d hd => absurd hd (List.not_mem_nil)) h1 (mb_rf H) h2 (fun i d hd => by cases hd)
    | cons d l2 ih =>
      intro l1 f e hf f0 f1
      have hlen : l.length = l1.length + (l2.length + 1) := by rw [e, List.length_append]; rfl
      have hat := h2 l1.length d (by rw [e, List.getElem?_append_right (Nat.le_refl _), Nat.sub_self]; rfl)
      have next : ∀ f2 : Int, (f2 = 0 ∨ f2 = 1) → (f2 = 0 → c ∈ l1 ++ [d]) → (f2 = 1 → c ∉ l1 ++ [d]) → wM_cut_51 Q (fun l1 l3 l4 l5 H G => wM_cut_23 Q (l2.length + 1) l1 l3 l4 l5 H G) c l.length l1.length f2 H G := fun f2 g0 g1 g2 => by
        show wM_cut_23 Q (l2.length + 1) c l.length f2 (e3_w32 ((l1.length : Int) + 1)) H G
        rw [e3_w32_id (by omega) (by omega)]
        have := ih (l1 ++ [d]) f2 (by rw [List.append_assoc]; exact e) g0 g1 g2
        rw [List.length_append] at this
        exact this
      refine brT (by omega) ⟨fun hz => next 0 (Or.inl rfl) (fun _ => List.mem_append_left _ (f0 hz)) (fun z => absurd z (by decide)), fun hz => ⟨by omega, ?_⟩⟩
      rw [hat]
      refine ⟨fun hy => next 0 (Or.inl rfl) (fun _ => List.mem_append_right _ (List.mem_singleton.mpr hy.symm)) (fun z => absurd z (by decide)), fun hy => next 1 (Or.inr rfl) (fun z => absurd z (by decide)) (fun _ z => ?_)⟩
      rcases List.mem_append.mp z with y | y
      · exact f1 (by omega) y
      · exact hy (List.mem_singleton.mp y).symm
  unfold wM_cut
  rw [i64_mn, h1]
  exact brT hc ⟨l.length + 1, look l [] 1 rfl (Or.inr rfl) (fun z => absurd z (by decide)) (fun _ => List.not_mem_nil)⟩
end MBR
