/-- what waits to be made: parents and labels, the next one first -/
def SK (K : e3_H) : List (Int × Int × Int × Int × Int) → Prop
  | [] => True
  | e :: S => K 115 S.length = e.1 ∧ K 116 S.length = e.2.1 ∧ K 117 S.length = e.2.2.1 ∧ K 118 S.length = e.2.2.2.1 ∧ K 119 S.length = e.2.2.2.2 ∧ SK K S
theorem SK_eq {K K2 : e3_H} : ∀ S : List (Int × Int × Int × Int × Int), SK K S → (∀ a k : Int, 115 ≤ a → a ≤ 119 → k < S.length → K2 a k = K a k) → SK K2 S := by
  intro S
  induction S with
  | nil => intro h _; exact h
  | cons e S ih =>
    intro h he
    obtain ⟨h1, h2, h3, h4, h5, h6⟩ := h
    have hl : (e :: S).length = S.length + 1 := rfl
    refine ⟨by rw [he _ _ (by decide) (by decide) (by omega)]; exact h1, by rw [he _ _ (by decide) (by decide) (by omega)]; exact h2, by rw [he _ _ (by decide) (by decide) (by omega)]; exact h3, by rw [he _ _ (by decide) (by decide) (by omega)]; exact h4, by rw [he _ _ (by decide) (by decide) (by omega)]; exact h5, ih h6 (fun a k a1 a2 a3 => he a k a1 a2 (by omega))⟩
/-- what settling a node may change -/
def mz (n : Int) (K K2 : e3_H) : Prop := (∀ a k : Int, a ≠ 40 → a < 92 ∨ (93 < a ∧ a < 102) ∨ (102 ≤ a ∧ a ≤ 106 ∧ k ≠ n) ∨ (107 ≤ a ∧ a ≤ 114) ∨ 127 < a → K2 a k = K a k) ∧ ∀ k : Int, k ≠ 93 → k ≠ 99 → k ≠ 105 → K2 40 k = K 40 k
theorem mz_rf (n : Int) (K : e3_H) : mz n K K := ⟨fun _ _ _ _ => rfl, fun _ _ _ _ => rfl⟩
theorem mz_tr {n : Int} {K K2 K3 : e3_H} (h : mz n K K2) (h2 : mz n K2 K3) : mz n K K3 := ⟨fun a k h3 h4 => (h2.1 a k h3 h4).trans (h.1 a k h3 h4), fun k h3 h4 h5 => (h2.2 k h3 h4 h5).trans (h.2 k h3 h4 h5)⟩
theorem mz_up {n : Int} {K K2 : e3_H} {a v : Int} (h : mz n K K2) (ha : 102 ≤ a ∧ a ≤ 106) : mz n K (e3_up K2 a n v) := ⟨fun b j h3 h4 => by rw [e3_up_ne (fun z => by omega)]; exact h.1 b j h3 h4, fun j h3 h4 h5 => by rw [e3_up_ne (fun z => by omega)]; exact h.2 j h3 h4 h5⟩
theorem mz_mk {n : Int} {K K2 : e3_H} (h : mk K K2) : mz n K K2 := ⟨fun a k h3 h4 => h.1 a k h3 (by omega), fun k _ _ h5 => h.2 k h5⟩
theorem mz_ms {n : Int} {K K2 : e3_H} (h : ms K K2) : mz n K K2 := ⟨fun a k h3 h4 => h a k (by omega) (by omega), fun k _ _ _ => h 40 k (by decide) (by decide)⟩
theorem mz_mb {n : Int} {K K2 : e3_H} (h : mb K K2) : mz n K K2 := ⟨fun a k h3 h4 => h.1 a k h3 (by omega), fun k _ h4 _ => h.2 k h4⟩
def mh (K K2 : e3_H) : Prop := (∀ a k : Int, a ≠ 40 → a < 115 ∨ 119 < a → K2 a k = K a k) ∧ ∀ k : Int, k ≠ 93 → K2 40 k = K 40 k
theorem mh_rf (K : e3_H) : mh K K := ⟨fun _ _ _ _ => rfl, fun _ _ => rfl⟩
theorem mh_up {K K2 : e3_H} {a k v : Int} (h : mh K K2) (ha : (115 ≤ a ∧ a ≤ 119) ∨ (a = 40 ∧ k = 93)) : mh K (e3_up K2 a k v) := ⟨fun b j h3 h4 => by rw [e3_up_ne (fun z => by omega)]; exact h.1 b j h3 h4, fun j h3 => by rw [e3_up_ne (fun z => by omega)]; exact h.2 j h3⟩
theorem mz_mh {n : Int} {K K2 : e3_H} (h : mh K K2) : mz n K K2 := ⟨fun a k h3 h4 => h.1 a k h3 (by omega), fun k h3 _ _ => h.2 k h3⟩
section MAH
variable {Q : e3_H → e3_G → Prop} {H : e3_H} {G : e3_G}
/-- branches are laid ahead -/
theorem cM_layAhead {n : Int} {l : List (Int × Int × Int × Int)} {S : List (Int × Int × Int × Int × Int)} (hB : BRL l H) (h93 : H 40 93 = (S.length : Int)) (hSK : SK H S) (hl : l.length ≤ 100) (hlen : l.length + S.length ≤ 400) (hf : ∀ e, e ∈ l → e.2.2.2 = 0 ∨ e.2.2.2 = 1) (hQ : ∀ K, mh H K → K 40 93 = ((l.map (fun e => (n, e)) ++ S).length : Int) → SK K (l.map (fun e => (n, e)) ++ S) → Q K G) : wM_layAhead Q n H G := by
  have key : ∀ (d : Nat) (A B : List (Int × Int × Int × Int)) (K : e3_H), A.length = d → l = A ++ B → mh H K → K 40 93 = ((B.map (fun e => (n, e)) ++ S).length : Int) → SK K (B.map (fun e => (n, e)) ++ S) → wM_layAhead_7 Q (d + 1) n ((d : Int) - 1) K G := by
    intro d
    induction d with
    | zero =>
      intro A B K hA e hm h1 h2
      have hA0 : A = [] := List.length_eq_zero_iff.mp hA
      rw [hA0] at e
      have e : l = B := e
      subst e
      exact brT (by decide) (hQ K hm h1 h2)
    | succ d ih =>
      intro A B K hA e hm h1 h2
      have hne : A ≠ [] := fun z => by rw [z] at hA; cases hA
      obtain ⟨A', a, eA⟩ : ∃ A' a, A = A' ++ [a] := ⟨A.dropLast, A.getLast hne, (List.dropLast_concat_getLast hne).symm⟩
      have hA' : A'.length = d := by rw [eA, List.length_append] at hA; have hA : A'.length + 1 = d + 1 := hA; omega
      have eB : l = A' ++ (a :: B) := by rw [e, eA, List.append_assoc]; rfl
      have hll : l.length = d + (B.length + 1) := by rw [eB, List.length_append, hA']; rfl
      have hget : l[d]? = some a := by rw [eB, List.getElem?_append_right (by omega), hA', Nat.sub_self]; rfl
      have ham : a ∈ l := List.mem_of_getElem? hget
      obtain ⟨b0, b1, b2, b3⟩ := hB.2 d a hget
      have hX : (B.map (fun e => (n, e)) ++ S).length = B.length + S.length := by rw [List.length_append, List.length_map]
      rw [hX] at h1
      have hdi : ((d + 1 : Nat) : Int) - 1 = (d : Int) := by omega
      rw [hdi]
      have k12 : ∀ a : Int, 120 ≤ a → a ≤ 123 → K a d = H a d := fun a h3 h4 => hm.1 a d (by omega) (by omega)
      refine brF (by omega) (brT (by omega) ⟨by omega, ?_⟩)
      intro H1 e1
      rw [h1] at e1
      have f1 : H1 40 93 = ((B.length + S.length : Nat) : Int) := by rw [e1, e3_up_ne (ne_1 (by decide))]; exact h1
      refine ⟨by omega, by omega, ?_⟩
      intro H3 e3
      rw [f1] at e3
      have f3 : H3 40 93 = ((B.length + S.length : Nat) : Int) := by rw [e3, e3_up_ne (ne_1 (by decide))]; exact f1
      refine ⟨by omega, by omega, ?_⟩
      intro H6 e6
      rw [f3] at e6
      have f6 : H6 40 93 = ((B.length + S.length : Nat) : Int) := by rw [e6, e3_up_ne (ne_1 (by decide))]; exact f3
      refine ⟨by omega, by omega, ?_⟩
      intro H9 e9
      rw [f6] at e9
      have f9 : H9 40 93 = ((B.length + S.length : Nat) : Int) := by rw [e9, e3_up_ne (ne_1 (by decide))]; exact f6
      refine ⟨by omega, by omega, ?_⟩
      intro H12 e12
      rw [f9] at e12
      have f12 : H12 40 93 = ((B.length + S.length : Nat) : Int) := by rw [e12, e3_up_ne (ne_1 (by decide))]; exact f9
      intro H15 e15
      rw [f12, e3_w32_id (by omega) (by omega)] at e15
      have v116 : H1 120 d = a.1 := by rw [e1, e3_up_ne (ne_1 (by decide)), k12 120 (by decide) (by decide)]; exact b0
      have v117 : H3 121 d = a.2.1 := by rw [e3, e3_up_ne (ne_1 (by decide)), e1, e3_up_ne (ne_1 (by decide)), k12 121 (by decide) (by decide)]; exact b1
      have v118 : H6 122 d = a.2.2.1 := by rw [e6, e3_up_ne (ne_1 (by decide)), e3, e3_up_ne (ne_1 (by decide)), e1, e3_up_ne (ne_1 (by decide)), k12 122 (by decide) (by decide)]; exact b2
      have v119 : e3_and (H9 123 d) 1 = a.2.2.2 := by
        rw [e9, e3_up_ne (ne_1 (by decide)), e6, e3_up_ne (ne_1 (by decide)), e3, e3_up_ne (ne_1 (by decide)), e1, e3_up_ne (ne_1 (by decide)), k12 123 (by decide) (by decide), b3]
        rcases hf a ham with z | z
        · rw [z]; exact and_1.1
        · rw [z]; exact and_1.2
      rw [v116] at e3
      rw [v117] at e6
      rw [v118] at e9
      rw [v119] at e12
      have m15 : mh H H15 := by rw [e15, e12, e9, e6, e3, e1]; exact mh_up (mh_up (mh_up (mh_up (mh_up (mh_up hm (Or.inl (by decide))) (Or.inl (by decide))) (Or.inl (by decide))) (Or.inl (by decide))) (Or.inl (by decide))) (Or.inr (by decide))
      rw [e3_w32_id (by omega) (by omega)]
      have hS15 : SK H15 (((a :: B).map (fun e => (n, e))) ++ S) := by
        show SK H15 ((n, a) :: (B.map (fun e => (n, e)) ++ S))
        refine ⟨?_, ?_, ?_, ?_, ?_, SK_eq _ h2 (fun a k a1 a2 a3 => ?_)⟩
        · rw [hX, e15, e3_up_ne (ne_1 (by decide)), e12, e3_up_ne (ne_1 (by decide)), e9, e3_up_ne (ne_1 (by decide)), e6, e3_up_ne (ne_1 (by decide)), e3, e3_up_ne (ne_1 (by decide)), e1, e3_up_self]
        · rw [hX, e15, e3_up_ne (ne_1 (by decide)), e12, e3_up_ne (ne_1 (by decide)), e9, e3_up_ne (ne_1 (by decide)), e6, e3_up_ne (ne_1 (by decide)), e3, e3_up_self]
        · rw [hX, e15, e3_up_ne (ne_1 (by decide)), e12, e3_up_ne (ne_1 (by decide)), e9, e3_up_ne (ne_1 (by decide)), e6, e3_up_self]
        · rw [hX, e15, e3_up_ne (ne_1 (by decide)), e12, e3_up_ne (ne_1 (by decide)), e9, e3_up_self]
        · rw [hX, e15, e3_up_ne (ne_1 (by decide)), e12, e3_up_self]
        · rw [hX] at a3
          rw [e15, e3_up_ne (fun z => by omega), e12, e3_up_ne (fun z => by omega), e9, e3_up_ne (fun z => by omega), e6, e3_up_ne (fun z => by omega), e3, e3_up_ne (fun z => by omega), e1, e3_up_ne (fun z => by omega)]
      have := ih A' (a :: B) H15 hA' eB m15 (by rw [List.length_append, List.length_map, e15, e3_up_self, List.length_cons]; omega) hS15
      rw [show (d : Int) + -1 = (d : Int) - 1 by omega]
      exact this
  refine ⟨l.length + 1, ?_⟩
  rw [hB.1, e3_w32_id (by omega) (by omega)]
  exact key l.length l [] H rfl (by rw [List.append_nil]) (mh_rf H) h93 hSK
end MAH
/-- the steps behind a node, each with its label -/
def kds (σ : e3_H) (m : Nat) (R : a_RW) (way : Int) (π : a_PT) : List ((Int × Int × Int) × (Int × Int × Int × Int)) := match fst σ π R 0 with
  | none => []
  | some (_, r, T) => match cho σ m R π way T 0 none 0 with
    | none => if σ 78 r = 0 then [] else [((0, r, r), (0, 0, 0, 0))]
    | some (q, x) => (lbs σ m R π x (σ 47 q)).map (fun v => ((x, v.1, v.2), enc (σ 47 q) v))
/-- trees of paths, one behind the other -/
def grL (σ : e3_H) (m : Nat) (R : a_RW) (way : Int) : List a_PT → List a_ND → Prop
  | [], N => N = []
  | π :: P, N => ∃ k A B, N = A ++ B ∧ gr σ m R way k π A ∧ grL σ m R way P B
section GRK
variable {σ : e3_H} {m : Nat} {R : a_RW} {way : Int}
theorem grL_len : ∀ (P : List a_PT) (N : List a_ND), grL σ m R way P N → P.length ≤ N.length := by
  intro P
  induction P with
  | nil => intro N _; exact Nat.zero_le _
  | cons π P ih =>
    intro N h
    obtain ⟨k, A, B, e, a, b⟩ := h
    have := gr_len k π A a
    have := ih B b
    rw [e, List.length_append, List.length_cons]
    omega
theorem grL_app : ∀ (P1 P2 : List a_PT) (N1 N2 : List a_ND), grL σ m R way P1 N1 → grL σ m R way P2 N2 → grL σ m R way (P1 ++ P2) (N1 ++ N2) := by
  intro P1
  induction P1 with
  | nil => intro P2 N1 N2 h h2; have h : N1 = [] := h; rw [h]; exact h2
  | cons π P ih =>
    intro P2 N1 N2 h h2
    obtain ⟨k, A, B, e, a, b⟩ := h
    exact ⟨k, A, B ++ N2, by rw [e, List.append_assoc], a, ih P2 B N2 b h2⟩
theorem grs_L {k : Nat} {π : a_PT} {x s : Int} : ∀ (l : List (Int × Int)) (N : List a_ND), grs (gr σ m R way k) π x l N → grL σ m R way ((l.map (fun v => (((x, v.1, v.2), enc s v) : (Int × Int × Int) × (Int × Int × Int × Int)))).map (fun v => v.1 :: π)) N := by
  intro l
  induction l with
  | nil => intro N h; exact h
  | cons e l ih =>
    intro N h
    obtain ⟨A, B, e1, a, b⟩ := h
    exact ⟨k, A, B, e1, a, ih B b⟩
theorem gr_kds {k : Nat} {π : a_PT} {N : List a_ND} (h : gr σ m R way k π N) : ∃ nd N1, N = nd :: N1 ∧ grL σ m R way ((kds σ m R way π).map (fun v => v.1 :: π)) N1 := by
  cases k with
  | zero => exact h.elim
  | succ k =>
    unfold gr at h
    unfold kds
    split at h
    · rename_i hf
      refine ⟨_, [], h, ?_⟩
      rw [hf]
      rfl
    · rename_i i r T hf
      rw [hf]
      simp only
      split at h
      · rename_i hc
        rw [hc]
        simp only
        rcases h with ⟨h1, h⟩ | ⟨h1, N1, h2, h⟩
        · refine ⟨_, [], h, ?_⟩
          rw [if_pos h1]
          rfl
        · refine ⟨_, N1, h, ?_⟩
          rw [if_neg h1]
          exact ⟨k, N1, [], by rw [List.append_nil], h2, rfl⟩
      · rename_i q x hc
        rw [hc]
        obtain ⟨N1, h1, h⟩ := h
        refine ⟨_, N1, h, ?_⟩
        exact grs_L _ N1 h1
end GRK
