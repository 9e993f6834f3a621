/-- labels of the maker from a place on -/
def LB (fr : Nat) (l : List Int) (H : e3_H) : Prop := H 16 6 = (fr : Int) + l.length ∧ ∀ (i : Nat) (c : Int), l[i]? = some c → H 25 ((fr : Int) + i) = c
def LF (fr : Nat) (H K : e3_H) : Prop := (∀ a x : Int, a ≠ 25 → ¬ (a = 16 ∧ x = 6) → K a x = H a x) ∧ ∀ x : Int, x < fr → K 25 x = H 25 x
theorem LF_rf (fr : Nat) (H : e3_H) : LF fr H H := ⟨fun _ _ _ _ => rfl, fun _ _ => rfl⟩
theorem LF_tr {fr : Nat} {H K K2 : e3_H} (h : LF fr H K) (h2 : LF fr K K2) : LF fr H K2 := ⟨fun a x h3 h4 => (h2.1 a x h3 h4).trans (h.1 a x h3 h4), fun x hx => (h2.2 x hx).trans (h.2 x hx)⟩
theorem cin_same {c : Int} : ∀ l : List Int, l.Pairwise (· < ·) → c ∈ l → cin c l = l := by
  intro l
  induction l with
  | nil => intro _ h; exact absurd h (List.not_mem_nil)
  | cons d l ih =>
    intro hp hc
    obtain ⟨h1, h2⟩ := List.pairwise_cons.mp hp
    unfold cin
    rcases List.mem_cons.mp hc with z | z
    · rw [if_neg (by omega), if_pos z]
    · have := h1 c z
      rw [if_neg (by omega), if_neg (by omega), ih h2 z]
theorem cin_split {c : Int} : ∀ (A B : List Int), (∀ d, d ∈ A → d < c) → (∀ d, d ∈ B → c < d) → cin c (A ++ B) = A ++ c :: B := by
  intro A
  induction A with
  | nil =>
    intro B _ hB
    cases B with
    | nil => rfl
    | cons d B => show cin c (d :: B) = c :: d :: B; unfold cin; rw [if_pos (hB d (List.mem_cons_self ..))]
  | cons a A ih =>
    intro B hA hB
    have := hA a (List.mem_cons_self ..)
    show cin c (a :: (A ++ B)) = a :: (A ++ c :: B)
    unfold cin
    rw [if_neg (by omega), if_neg (by omega), ih B (fun d hd => hA d (List.mem_cons_of_mem _ hd)) hB]
theorem cin_srt {c : Int} : ∀ l : List Int, l.Pairwise (· < ·) → (cin c l).Pairwise (· < ·) := by
  intro l
  induction l with
  | nil => intro _; exact List.pairwise_singleton _ _
  | cons d l ih =>
    intro hp
    obtain ⟨h1, h2⟩ := List.pairwise_cons.mp hp
    unfold cin
    split
    · rename_i h
      refine List.pairwise_cons.mpr ⟨fun x hx => ?_, hp⟩
      rcases List.mem_cons.mp hx with z | z
      · omega
      · have := h1 x z; omega
    · split
      · exact hp
      · rename_i n1 n2
        refine List.pairwise_cons.mpr ⟨fun x hx => ?_, ih h2⟩
        rcases (cin_mem l x).mp hx with z | z
        · omega
        · exact h1 x z
theorem cin_len {c : Int} : ∀ l : List Int, (cin c l).length ≤ l.length + 1 := by
  intro l
  induction l with
  | nil => exact Nat.le_refl _
  | cons d l ih =>
    unfold cin
    split
    · exact Nat.le_refl _
    · split
      · show (d :: l).length ≤ _; omega
      · show (cin c l).length + 1 ≤ l.length + 1 + 1; omega
section CLB
variable {H : e3_H} {G : e3_G} {fr : Nat}
theorem cD_push {Q : e3_H → e3_G → Prop} {l : List Int} {c : Int} (h : LB fr l H) (hl : fr + l.length < 201) (hQ : ∀ K, LB fr (l ++ [c]) K → LF fr H K → Q K G) : wD_push Q c H G := by
  obtain ⟨h1, h2⟩ := h
  refine brT (by omega) ⟨by omega, ?_⟩
  intro H1 e1
  intro H3 e3
  have f1 : H1 16 6 = (fr : Int) + l.length := by rw [e1, e3_up_ne (ne_1 (by decide))]; exact h1
  rw [f1, e3_w32_id (by omega) (by omega)] at e3
  rw [h1] at e1
  refine hQ H3 ⟨by rw [e3, e3_up_self, List.length_append]; show _ = (fr : Int) + ((l.length + 1 : Nat) : Int); omega, fun i d hd => ?_⟩ ⟨fun a x ha hx => by rw [e3, e3_up_ne hx, e1, e3_up_ne (ne_1 ha)], fun x hx => by rw [e3, e3_up_ne (ne_1 (by decide)), e1, e3_up_ne (fun z => by have := z.2; omega)]⟩
  rw [e3, e3_up_ne (ne_1 (by decide)), e1]
  by_cases hi : i < l.length
  · rw [List.getElem?_append_left hi] at hd
    rw [e3_up_ne (fun z => by have := z.2; omega)]
    exact h2 i d hd
  · rw [List.getElem?_append_right (by omega)] at hd
    have h0 : i - l.length < 1 := (List.getElem?_eq_some_iff.mp hd).1
    have hi2 : i = l.length := by omega
    rw [hi2, Nat.sub_self] at hd
    have hd : some c = some d := hd
    cases hd
    rw [hi2, e3_up_self]
theorem cD_isPushed {Q : Int → e3_H → e3_G → Prop} {l : List Int} {c : Int} (h : LB fr l H) (hl : fr + l.length ≤ 201) (h1 : c ∈ l → Q 1 H G) (h0 : c ∉ l → Q 0 H G) : wD_isPushed Q c fr H G := by
  obtain ⟨g1, g2⟩ := h
  have key : ∀ (l2 l1 : List Int), l = l1 ++ l2 → (c ∈ l2 → Q 1 H G) → (c ∉ l2 → Q 0 H G) → wD_isPushed_3 Q (l2.length + 1) c ((fr : Int) + l1.length) H G := by
    intro l2
    induction l2 with
    | nil =>
      intro l1 e _ k0
      rw [List.append_nil] at e
      exact brF (by rw [g1, e]; omega) (k0 (List.not_mem_nil))
    | cons d l2 ih =>
      intro l1 e k1 k0
      have hlen : l.length = l1.length + (l2.length + 1) := by rw [e, List.length_append]; rfl
      have hat := g2 l1.length d (by rw [e, List.getElem?_append_right (Nat.le_refl _), Nat.sub_self]; rfl)
      refine brT (by rw [g1]; omega) ⟨by omega, ?_⟩
      rw [hat]
      refine ⟨fun hz => k1 (by rw [hz]; exact List.mem_cons_self ..), fun hz => ?_⟩
      rw [e3_w32_id (by omega) (by omega)]
      have := ih (l1 ++ [d]) (by rw [List.append_assoc]; exact e) (fun z => k1 (List.mem_cons_of_mem _ z)) (fun z => k0 (fun y => by
        rcases List.mem_cons.mp y with x | x
        · exact hz x.symm
        · exact z x))
      rw [List.length_append] at this
      rw [show (fr : Int) + l1.length + 1 = (fr : Int) + ((l1.length + 1 : Nat) : Int) by omega]
      exact this
  have := key l [] rfl h1 h0
  rw [show ((fr : Int) + (([] : List Int).length : Int)) = fr by show (fr : Int) + 0 = fr; omega] at this
  exact ⟨l.length + 1, this⟩
/-- a label upward among the others -/
theorem cD_pushUp {Q : e3_H → e3_G → Prop} {l : List Int} {c : Int} (h : LB fr l H) (hs : l.Pairwise (· < ·)) (hl : fr + l.length < 201) (hQ : ∀ K, LB fr (cin c l) K → LF fr H K → Q K G) : wD_pushUpward Q c fr H G := by
  refine cD_isPushed h (by omega) (fun hc => brF (by decide) (hQ H (by rw [cin_same l hs hc]; exact h) (LF_rf fr H))) (fun hc => brT rfl ?_)
  refine brT (by rw [h.1]; omega) ⟨l.length + 1, ?_⟩
  rw [h.1]
  have key : ∀ (n : Nat) (A B : List Int) (K : e3_H), A.length = n → l = A ++ B → (∀ d, d ∈ B → c < d) → K 16 6 = (fr : Int) + l.length → LF fr H K → (∀ (i : Nat) (d : Int), A[i]? = some d → K 25 ((fr : Int) + i) = d) → (∀ (i : Nat) (d : Int), B[i]? = some d → K 25 ((fr : Int) + A.length + 1 + i) = d) → wD_pushUpward_26 Q (n + 1) c fr ((fr : Int) + A.length) K G := by
    intro n
    have fin : ∀ (A B : List Int) (K : e3_H), l = A ++ B → (∀ d, d ∈ A → d < c) → (∀ d, d ∈ B → c < d) → K 16 6 = (fr : Int) + l.length → LF fr H K → (∀ (i : Nat) (d : Int), A[i]? = some d → K 25 ((fr : Int) + i) = d) → (∀ (i : Nat) (d : Int), B[i]? = some d → K 25 ((fr : Int) + A.length + 1 + i) = d) → wD_pushUpward_68 Q c ((fr : Int) + A.length) K G := by
      intro A B K e hA hB h6 hLF hKA hKB
      have hlen : l.length = A.length + B.length := by rw [e, List.length_append]
      refine ⟨by omega, ?_⟩
      intro H1 e1
      intro H3 e3
      have f1 : H1 16 6 = (fr : Int) + l.length := by rw [e1, e3_up_ne (ne_1 (by decide))]; exact h6
      rw [f1, e3_w32_id (by omega) (by omega)] at e3
      have hcl : cin c l = A ++ c :: B := by rw [e]; exact cin_split A B hA hB
      refine hQ H3 ⟨by rw [e3, e3_up_self, hcl, List.length_append, List.length_cons]; omega, fun i d hd => ?_⟩ (LF_tr hLF ⟨fun a x ha hx => by rw [e3, e3_up_ne hx, e1, e3_up_ne (ne_1 ha)], fun x hx => by rw [e3, e3_up_ne (ne_1 (by decide)), e1, e3_up_ne (fun z => by have := z.2; omega)]⟩)
      rw [e3, e3_up_ne (ne_1 (by decide)), e1]
      rw [hcl] at hd
      by_cases hi : i < A.length
      · rw [List.getElem?_append_left hi] at hd
        rw [e3_up_ne (fun z => by have := z.2; omega)]
        exact hKA i d hd
      · rw [List.getElem?_append_right (by omega)] at hd
        by_cases hi2 : i = A.length
        · rw [hi2, Nat.sub_self] at hd
          have hd : some c = some d := hd
          cases hd
          rw [hi2, e3_up_self]
        · obtain ⟨j, hj⟩ : ∃ j, i - A.length = j + 1 := ⟨i - A.length - 1, by omega⟩
          rw [hj] at hd
          have hd : B[j]? = some d := hd
          rw [e3_up_ne (fun z => by have := z.2; omega)]
          have := hKB j d hd
          rw [show (fr : Int) + A.length + 1 + j = (fr : Int) + i by omega] at this
          exact this
    induction n with
    | zero =>
      intro A B K hn e hB h6 hLF hKA hKB
      have hA : A = [] := List.eq_nil_of_length_eq_zero hn
      subst hA
      exact brF (by show ¬ ((fr : Int) < (fr : Int) + 0); omega) (fin [] B K e (fun d hd => absurd hd (List.not_mem_nil)) hB h6 hLF hKA hKB)
    | succ n ih =>
      intro A B K hn e hB h6 hLF hKA hKB
      have hne : A ≠ [] := fun z => by rw [z] at hn; cases hn
      obtain ⟨A1, d, rfl⟩ : ∃ A1 d, A = A1 ++ [d] := ⟨A.dropLast, A.getLast hne, (List.dropLast_concat_getLast hne).symm⟩
      have hn1 : A1.length = n := by rw [List.length_append] at hn; have : A1.length + 1 = n + 1 := hn; omega
      have hA1 : ((A1 ++ [d]).length : Int) = (A1.length : Int) + 1 := by rw [List.length_append]; rfl
      have hlen : l.length = A1.length + 1 + B.length := by rw [e, List.length_append, List.length_append]; rfl
      have hd25 : K 25 ((fr : Int) + A1.length) = d := hKA A1.length d (by rw [List.getElem?_append_right (Nat.le_refl _), Nat.sub_self]; rfl)
      rw [hA1]
      refine brT (by omega) ?_
      rw [e3_w32_id (x := (fr : Int) + ((A1.length : Int) + 1) - 1) (by omega) (by omega), show (fr : Int) + ((A1.length : Int) + 1) - 1 = (fr : Int) + A1.length by omega, hd25]
      refine ⟨by omega, fun hcd => ⟨by omega, by omega, ?_⟩, fun hcd => ?_⟩
      · intro H2 e2
        rw [e3_w32_id (x := (fr : Int) + ((A1.length : Int) + 1) + -1) (by omega) (by omega), show (fr : Int) + ((A1.length : Int) + 1) + -1 = (fr : Int) + A1.length by omega]
        refine ih A1 (d :: B) H2 hn1 (by rw [e, List.append_assoc]; rfl) (fun y hy => ?_) (by rw [e2, e3_up_ne (ne_1 (by decide))]; exact h6) (LF_tr hLF ⟨fun a x ha _ => by rw [e2, e3_up_ne (ne_1 ha)], fun x hx => by rw [e2, e3_up_ne (fun z => by have := z.2; omega)]⟩) (fun i y hy => ?_) (fun i y hy => ?_)
        · rcases List.mem_cons.mp hy with z | z
          · rw [z]; exact hcd
          · exact hB y z
        · have hi : i < A1.length := (List.getElem?_eq_some_iff.mp hy).1
          rw [e2, e3_up_ne (fun z => by have := z.2; omega)]
          exact hKA i y (by rw [List.getElem?_append_left hi]; exact hy)
        · cases i with
          | zero =>
            have hy : some d = some y := hy
            cases hy
            rw [e2, show (fr : Int) + A1.length + 1 + ((0 : Nat) : Int) = (fr : Int) + ((A1.length : Int) + 1) by omega, e3_up_self]
          | succ i =>
            have hy : B[i]? = some y := hy
            rw [e2, e3_up_ne (fun z => by have := z.2; omega)]
            have := hKB i y hy
            rw [hA1, show (fr : Int) + ((A1.length : Int) + 1) + 1 + i = (fr : Int) + A1.length + 1 + ((i + 1 : Nat) : Int) by omega] at this
            exact this
      · have hs2 := hs
        rw [e] at hs2
        have hsA := (List.pairwise_append.mp hs2).1
        have hdc : d < c := by
          have : d ≠ c := fun z => hc (by rw [e, z]; exact List.mem_append_left _ (List.mem_append_right _ (List.mem_singleton.mpr rfl)))
          omega
        have := fin (A1 ++ [d]) B K e (fun y hy => by
          rcases List.mem_append.mp hy with z | z
          · have := (List.pairwise_append.mp hsA).2.2 y z d (List.mem_singleton.mpr rfl)
            omega
          · rw [List.mem_singleton.mp z]; exact hdc) hB h6 hLF hKA hKB
        rw [hA1] at this
        exact this
  exact key l.length l [] H rfl (List.append_nil _).symm (fun d hd => absurd hd (List.not_mem_nil)) h.1 (LF_rf fr H) h.2 (fun i d hd => by cases hd)
end CLB
