/-- the class's letter stands where the reference's will -/
def h35 (H : e3_H) : e3_H := fun a k => if a = 135 then H 35 k else H a k
theorem h35_ne {H : e3_H} {a k : Int} (h : a ≠ 135) : h35 H a k = H a k := if_neg h
theorem h35_135 (H : e3_H) (k : Int) : h35 H 135 k = H 35 k := if_pos rfl
/-- the way down to a place is there -/
def vok (H : e3_H) : Nat → Int → Prop
  | 0, _ => False
  | k + 1, x => ((x - 1) / 8 = 0 ∧ 0 ≤ x - 1 ∧ x - 1 < 3) ∨ ((x - 1) / 8 ≠ 0 ∧ vok H k ((x - 1) / 8) ∧ okv H (vt H ((x - 1) / 8)) ∧ H 27 (vt H ((x - 1) / 8)) = 4 ∧ (x - 1) % 8 < H 30 (vt H ((x - 1) / 8)))
theorem vis_vok {σ H : e3_H} {m : Nat} {f : Int} {V : List (Int × Int)} (hT : TV σ m H) (hA : ∀ i : Int, 0 ≤ i → i < σ 68 f → oks H (H 135 i) (σ 69 (3 * f + i))) (hq : VQ σ f V) : ∀ (n : Nat) (A : List (Int × Int)) (p : Int × Int) (B : List (Int × Int)), A.length < n → V = A ++ p :: B → (∀ a, a ∈ A → fitv σ H a.1 (vt H a.2)) → ∀ k : Nat, p.2 < 8 ^ k → vok H k p.2 := by
  intro n
  induction n with
  | zero => intro A p B h; omega
  | succ n ih =>
    intro A p B hl e hf k hk
    have hm : ∀ y, y ∈ A → y ∈ V := fun y hy => by rw [e]; exact List.mem_append_left _ hy
    have p1 := hq.2 p (by rw [e]; exact List.mem_append_right _ (List.mem_cons_self ..))
    cases k with
    | zero => rw [Int.pow_zero] at hk; omega
    | succ k =>
      rw [Int.pow_succ] at hk
      rcases (hq.1 A p B e).2 with ⟨⟨c0, c1, c3⟩, c2⟩ | ⟨p', i, h1, h2, h3, ⟨i0, i1, i3⟩, h5⟩
      · exact Or.inl ⟨by omega, c0, by omega⟩
      · obtain ⟨A1, A2, eA⟩ := List.append_of_mem h1
        have hla : A.length = A1.length + (A2.length + 1) := by rw [eA, List.length_append, List.length_cons]
        have e' : V = A1 ++ p' :: (A2 ++ p :: B) := by rw [e, eA, List.append_assoc]; rfl
        have hf' : ∀ a, a ∈ A1 → fitv σ H a.1 (vt H a.2) := fun a ha => hf a (by rw [eA]; exact List.mem_append_left _ ha)
        have ok' := vis_ok hT hA hq (A1.length + 1) A1 p' (A2 ++ p :: B) (by omega) e' hf'
        have pl := hq.2 p' (hm p' h1)
        have ey : (p.2 - 1) / 8 = p'.2 := by omega
        have ei : (p.2 - 1) % 8 = i := by omega
        have vk := ih A1 p' (A2 ++ p :: B) (by omega) e' hf' k (by omega)
        have nd := (hq.1 A1 p' _ e').1
        have s3 : 3 ≤ σ 47 p'.1 := (nd.2.2.2.2.2.1 h2).1
        have fp : 0 ≤ H 28 (vt H p'.2) ∧ a_of (σ 43) (σ 48 p'.1) 24 (H 28 (vt H p'.2)) = true := by
          rcases hf p' h1 with z | z | z
          · omega
          · omega
          · unfold hld at z
            rw [if_pos h2] at z
            have z := Bool.and_eq_true _ _ ▸ z
            exact ⟨of_decide_eq_true z.1, z.2⟩
        obtain ⟨hV, hk2, hKP, e43, e45, e12, h8⟩ := id hT
        rcases (oks_wh hT ok').2 s3 with ⟨_, z⟩ | ⟨z1, z2, z3⟩
        · omega
        · have el := of_part hk2.2.2.2.1 hKP (by omega) 24 _ z2.1 z2.2 fp.2
          refine Or.inr ⟨by omega, by rw [ey]; exact vk, ?_⟩
          rw [ey, ei]
          exact ⟨ok'.1, z1, by rw [z3, el]; exact i1⟩
section CVA
variable {Q : Int → e3_H → e3_G → Prop} {H : e3_H} {G : e3_G} {fu : Int} {cx : Int → Int}
theorem vL_part (h : zLX H) {v i : Int} (hv : okv H v) (hi : 0 ≤ i ∧ i < H 30 v) (hQ : Q (H 31 (4 * v + i)) H G) : wL_part Q v i H G := by
  have h1 := hv.1
  have h2 := hv.2
  have h3 := h.1
  have h4 := h.2.2 v h1 (by omega)
  refine brF (by omega) (brT h2 (brF (by omega) ⟨by omega, brT hi.2 (brF (by decide) ?_)⟩))
  rw [e3_w32_id (x := v * 4) (by omega) (by omega), e3_w32_id (x := v * 4 + i) (by omega) (by omega), show v * 4 + i = 4 * v + i by omega]
  exact ⟨by omega, hQ⟩
/-- the VALUE at a place, in the class -/
theorem vS_valueAt (hpl : c_pl H G fu cx) (hV : VR H) (hl : zLX H) : ∀ (k n : Nat) (p l3 : Int) (Q : Int → e3_H → e3_G → Prop), 0 ≤ p ∧ p < H fu 7 → vok (h35 H) k (cx p) → cx p < 2147483647 → k ≤ n → 0 ≤ l3 → l3 + k ≤ 7 → Q (vt (h35 H) (cx p)) H G → wS_valueAt n fu p l3 H G Q := by
  intro k
  induction k with
  | zero => intro n p l3 Q _ h; exact h.elim
  | succ k ih =>
    intro n p l3 Q hp hok hb hn h0 h7 hQ
    obtain ⟨n', rfl⟩ : ∃ n', n = n' + 1 := ⟨n - 1, by omega⟩
    obtain ⟨c1, c2, c3, c4, c5⟩ := cx_up hpl hp
    obtain ⟨g0, g1, L, a1, a2, _, _, a5, _⟩ := id hpl
    have o := ga_ob (c := 8) g1
    refine ⟨o, brF (by omega) ⟨o, brT hp.2 ⟨o, ga_oa a2.2 (by omega) (by omega), o, vF_placeUp hpl hp (brF (by omega) (brF (by omega) ?_))⟩⟩⟩
    by_cases z : H (H fu 8) p < 0
    · refine brT z ?_
      have e0 : cd cx (H (H fu 8) p) = 0 := by unfold cd; rw [if_pos z]
      rcases hok with ⟨w1, w2, w3⟩ | ⟨w1, _⟩
      · refine brT (by omega) ⟨by omega, ?_⟩
        rw [vt_col _ (by omega), h35_135, show cx p - 1 = H (H fu 9) p by omega] at hQ
        exact hQ
      · omega
    · refine brF z ?_
      have ec : cd cx (H (H fu 8) p) = cx (H (H fu 8) p) := by unfold cd; rw [if_neg z]
      have hpu := c5 (by omega)
      rw [ec] at c3 hpu
      have ey : (cx p - 1) / 8 = cx (H (H fu 8) p) := by omega
      have ei : (cx p - 1) % 8 = H (H fu 9) p := by omega
      rcases hok with ⟨w1, _⟩ | ⟨w1, w2, w3, w4, w5⟩
      · omega
      · rw [ey] at w2 w3 w4 w5
        rw [ei] at w5
        rw [e3_w32_id (x := l3 + 1) (by omega) (by omega)]
        refine ih n' (H (H fu 8) p) (l3 + 1) _ (by omega) w2 (by omega) (by omega) (by omega) (by omega) ?_
        have w3' : okv H (vt (h35 H) (cx (H (H fu 8) p))) := w3
        have w4' : H 27 (vt (h35 H) (cx (H (H fu 8) p))) = 4 := w4
        have w5' : H (H fu 9) p < H 30 (vt (h35 H) (cx (H (H fu 8) p))) := w5
        refine vL_part hl w3' ⟨c2.1, w5'⟩ ?_
        rw [(oks_part hV w3' w4' ⟨c2.1, w5'⟩).2]
        rw [show cx p = 8 * cx (H (H fu 8) p) + 1 + H (H fu 9) p by omega, vt_ch _ (by omega) (by omega)] at hQ
        exact hQ
end CVA
/-- the last pattern that notes a NAME -/
theorem nm_last (σ M : e3_H) (pn : Int → Int) (k : Int) (hk : 0 ≤ k) : ∀ (V : List (Int × Int)) (a : Int) (B : Int → Int), (∃ p, p ∈ V ∧ (σ 53 p.1 = k ∨ σ 54 p.1 = k)) → ∃ p, p ∈ V ∧ V.foldl (fun acc p => if σ 53 p.1 = k ∨ σ 54 p.1 = k then pn p.1 else acc) a = pn p.1 ∧ nmf σ M V B k = vt M p.2 ∧ (σ 53 p.1 = k ∨ σ 54 p.1 = k) := by
  intro V
  induction V with
  | nil => intro a B h; obtain ⟨p, hp, _⟩ := h; exact absurd hp (List.not_mem_nil)
  | cons q V ih =>
    intro a B h
    by_cases z : ∃ p, p ∈ V ∧ (σ 53 p.1 = k ∨ σ 54 p.1 = k)
    · obtain ⟨p, p1, p2, p3⟩ := ih (if σ 53 q.1 = k ∨ σ 54 q.1 = k then pn q.1 else a) (nm1 σ M q B) z
      exact ⟨p, List.mem_cons_of_mem _ p1, p2, p3⟩
    · have hq : σ 53 q.1 = k ∨ σ 54 q.1 = k := by
        obtain ⟨p, p1, p2⟩ := h
        rcases List.mem_cons.mp p1 with y | y
        · rw [← y]; exact p2
        · exact absurd ⟨p, y, p2⟩ z
      have no : ∀ p, p ∈ V → ¬ (σ 53 p.1 = k ∨ σ 54 p.1 = k) := fun p hp y => z ⟨p, hp, y⟩
      have f1 : ∀ (W : List (Int × Int)) (c : Int), (∀ p, p ∈ W → ¬ (σ 53 p.1 = k ∨ σ 54 p.1 = k)) → W.foldl (fun acc p => if σ 53 p.1 = k ∨ σ 54 p.1 = k then pn p.1 else acc) c = c := by
        intro W
        induction W with
        | nil => intro c _; rfl
        | cons r W ihw =>
          intro c hn
          show W.foldl _ (if σ 53 r.1 = k ∨ σ 54 r.1 = k then pn r.1 else c) = c
          rw [if_neg (hn r (List.mem_cons_self ..))]
          exact ihw c (fun p hp => hn p (List.mem_cons_of_mem _ hp))
      have f2 : ∀ (W : List (Int × Int)) (C : Int → Int), (∀ p, p ∈ W → ¬ (σ 53 p.1 = k ∨ σ 54 p.1 = k)) → nmf σ M W C k = C k := by
        intro W
        induction W with
        | nil => intro C _; rfl
        | cons r W ihw =>
          intro C hn
          show nmf σ M W (nm1 σ M r C) k = C k
          rw [ihw _ (fun p hp => hn p (List.mem_cons_of_mem _ hp))]
          have := hn r (List.mem_cons_self ..)
          show (if σ 54 r.1 = k then vt M r.2 else if σ 53 r.1 = k then vt M r.2 else C k) = C k
          rw [if_neg (fun y => this (Or.inr y)), if_neg (fun y => this (Or.inl y))]
      refine ⟨q, List.mem_cons_self .., ?_, ?_, hq⟩
      · show V.foldl _ (if σ 53 q.1 = k ∨ σ 54 q.1 = k then pn q.1 else a) = pn q.1
        rw [if_pos hq, f1 V _ no]
      · show nmf σ M V (nm1 σ M q B) k = vt M q.2
        rw [f2 V _ no]
        show (if σ 54 q.1 = k then vt M q.2 else if σ 53 q.1 = k then vt M q.2 else B k) = vt M q.2
        by_cases y : σ 54 q.1 = k
        · rw [if_pos y]
        · rw [if_neg y, if_pos (hq.resolve_right y)]
