theorem vok_eq {H K : e3_H} (e : ∀ a k : Int, a = 26 ∨ a = 27 ∨ a = 30 ∨ a = 132 ∨ a = 135 → K a k = H a k) : ∀ (n : Nat) (x : Int), vok H n x → vok K n x := by
  intro n
  induction n with
  | zero => intro x h; exact h.elim
  | succ n ih =>
    intro x h
    have ev := vt_eq (H := H) (K := K) (fun a k ha => e a k (by omega)) ((x - 1) / 8)
    rcases h with h | ⟨h1, h2, h3, h4, h5⟩
    · exact Or.inl h
    · refine Or.inr ⟨h1, ih _ h2, ?_, ?_, ?_⟩
      · rw [ev]; exact ⟨h3.1, by rw [e 26 1 (by decide)]; exact h3.2⟩
      · rw [ev, e 27 _ (by decide)]; exact h4
      · rw [ev, e 30 _ (by decide)]; exact h5
/-- NAMES that are noted do not depend on what was held before -/
theorem nmf_in {σ M : e3_H} {V : List (Int × Int)} {n : Nat} (h : ∃ p, p ∈ V ∧ (σ 53 p.1 = (n : Int) ∨ σ 54 p.1 = (n : Int))) (B B2 : Int → Int) : nmf σ M V B n = nmf σ M V B2 n := by
  have key : ∀ (V : List (Int × Int)) (B B2 : Int → Int), (∃ p, p ∈ V ∧ (σ 53 p.1 = (n : Int) ∨ σ 54 p.1 = (n : Int))) ∨ B n = B2 n → nmf σ M V B n = nmf σ M V B2 n := by
    intro V
    induction V with
    | nil =>
      intro B B2 h
      rcases h with ⟨p, hp, _⟩ | h
      · exact absurd hp (List.not_mem_nil)
      · exact h
    | cons q V ih =>
      intro B B2 h
      refine ih (nm1 σ M q B) (nm1 σ M q B2) ?_
      by_cases z : σ 54 q.1 = (n : Int)
      · refine Or.inr ?_
        show (if σ 54 q.1 = (n : Int) then _ else _) = (if σ 54 q.1 = (n : Int) then _ else _)
        rw [if_pos z, if_pos z]
      · by_cases y : σ 53 q.1 = (n : Int)
        · refine Or.inr ?_
          show (if σ 54 q.1 = (n : Int) then vt M q.2 else if σ 53 q.1 = (n : Int) then vt M q.2 else B n) = (if σ 54 q.1 = (n : Int) then vt M q.2 else if σ 53 q.1 = (n : Int) then vt M q.2 else B2 n)
          rw [if_neg z, if_neg z, if_pos y, if_pos y]
        · rcases h with ⟨p, hp, h2⟩ | h
          · rcases List.mem_cons.mp hp with u | u
            · rw [u] at h2
              rcases h2 with h2 | h2
              · exact absurd h2 y
              · exact absurd h2 z
            · exact Or.inl ⟨p, u, h2⟩
          · refine Or.inr ?_
            show (if σ 54 q.1 = (n : Int) then vt M q.2 else if σ 53 q.1 = (n : Int) then vt M q.2 else B n) = (if σ 54 q.1 = (n : Int) then vt M q.2 else if σ 53 q.1 = (n : Int) then vt M q.2 else B2 n)
            rw [if_neg z, if_neg z, if_neg y, if_neg y]
            exact h
  exact key V B B2 (Or.inl h)
/-- the NAMES of one way, by the letter -/
def nB (σ M : e3_H) (V : List (Int × Int)) : Int → Int := nmf σ M V (fun _ => 0)
theorem nB_eq {σ M M2 : e3_H} (e : ∀ a k : Int, a = 132 ∨ a = 135 → M2 a k = M a k) (V : List (Int × Int)) : nB σ M2 V = nB σ M V := by
  have key : ∀ (V : List (Int × Int)) (B : Int → Int), nmf σ M2 V B = nmf σ M V B := by
    intro V
    induction V with
    | nil => intro B; rfl
    | cons q V ih =>
      intro B
      have : nm1 σ M2 q B = nm1 σ M q B := funext fun i => by
        show (if σ 54 q.1 = i then vt M2 q.2 else if σ 53 q.1 = i then vt M2 q.2 else B i) = (if σ 54 q.1 = i then vt M q.2 else if σ 53 q.1 = i then vt M q.2 else B i)
        rw [vt_eq e q.2]
      show nmf σ M2 V (nm1 σ M2 q B) = nmf σ M V (nm1 σ M q B)
      rw [this]
      exact ih _
  exact key V _
section HRW
variable {Q : e3_H → e3_G → Prop} {σ H : e3_H} {G : e3_G} {fu R ru r : Int} {V : List (Int × Int)} {cx pn : Int → Int}
/-- a row's NAMES are held, in the class -/
theorem vS_holdRow (hK : ∀ K : e3_H, (∀ a x : Int, a ≠ 36 → K a x = H a x) → c_pl K G fu cx ∧ VR K ∧ zLX K) (hfu : 139 ≤ fu) (hR : 139 ≤ R ∧ g_at G R (111, 5)) (hR4 : H R 4 = R + 1 ∧ g_at G (R + 1) (0, 8)) (hru : H R 0 = ru ∧ 139 ≤ ru ∧ g_at G ru (109, 19)) (h4 : H ru 4 = σ 56 r ∧ 0 ≤ σ 56 r ∧ σ 56 r ≤ 8) (hnm : ∀ k : Int, 0 ≤ k → k < 8 → H (R + 1) k = nmp σ pn V k) (hcv : NV1 σ r V) (hpn : ∀ p, p ∈ V → (0 ≤ pn p.1 ∧ pn p.1 < H fu 7) ∧ cx (pn p.1) = p.2) (hvk : ∀ p, p ∈ V → vok (h35 H) 7 p.2 ∧ p.2 < 2147483647) (hQ : ∀ K : e3_H, (∀ a x : Int, a ≠ 36 → K a x = H a x) → (∀ k : Int, 0 ≤ k → k < σ 56 r → K 36 k = nB σ (h35 H) V k) → Q K G) : wS_holdRow Q fu R H G := by
  have o11 := ga_ob (c := 11) hR.2
  have o9 := ga_ob (c := 9) hru.2.2
  have key : ∀ (d j : Nat) (K : e3_H), (j : Int) + d = σ 56 r → (∀ a x : Int, a ≠ 36 → K a x = H a x) → (∀ k : Int, 0 ≤ k → k < (j : Int) → K 36 k = nB σ (h35 H) V k) → wS_holdRow_2 Q (d + 1) fu R j K G := by
    intro d
    induction d with
    | zero =>
      intro j K hj hf h36
      have e0 : K R 0 = ru := by rw [hf R 0 (by omega)]; exact hru.1
      have e4 : K ru 4 = σ 56 r := by rw [hf ru 4 (by omega)]; exact h4.1
      unfold wS_holdRow_2
      rw [e0, e4]
      exact ⟨o11, o9, brF (by omega) (hQ K hf (fun k k0 k1 => h36 k k0 (by omega)))⟩
    | succ d ih =>
      intro j K hj hf h36
      have e0 : K R 0 = ru := by rw [hf R 0 (by omega)]; exact hru.1
      have e4 : K ru 4 = σ 56 r := by rw [hf ru 4 (by omega)]; exact h4.1
      have eR4 : K R 4 = R + 1 := by rw [hf R 4 (by omega)]; exact hR4.1
      have eN : K (R + 1) j = nmp σ pn V j := by rw [hf (R + 1) j (by omega)]; exact hnm j (by omega) (by omega)
      obtain ⟨c1, c2, c3⟩ := hK K hf
      have e35 : ∀ a k : Int, a = 26 ∨ a = 27 ∨ a = 30 ∨ a = 132 ∨ a = 135 → h35 K a k = h35 H a k := fun a k ha => by
        by_cases z : a = 135
        · rw [z, h35_135, h35_135]; exact hf 35 k (by decide)
        · rw [h35_ne z, h35_ne z]; exact hf a k (by omega)
      obtain ⟨p, p1, p2, p3, _⟩ := nm_last σ (h35 H) pn j (by omega) V 0 (fun _ => 0) (hcv.1 j (by omega))
      have p2 : nmp σ pn V j = pn p.1 := p2
      obtain ⟨q1, q2⟩ := hpn p p1
      obtain ⟨v1, v2⟩ := hvk p p1
      unfold wS_holdRow_2
      rw [e0, e4, eR4, eN, p2]
      refine ⟨o11, o9, brT (by omega) (brT (by omega) ⟨o11, ga_oa hR4.2 (by omega) (by omega), ?_⟩)⟩
      refine vS_valueAt c1 c2 c3 7 9 (pn p.1) 0 _ (by rw [hf fu 7 (by omega)]; exact q1) (by rw [q2]; exact vok_eq e35 7 _ v1) (by rw [q2]; exact v2) (by decide) (by decide) (by decide) ⟨by omega, ?_⟩
      intro H8 e8
      rw [e3_w32_id (x := (j : Int) + 1) (by omega) (by omega), show (j : Int) + 1 = ((j + 1 : Nat) : Int) by omega]
      refine ih (j + 1) H8 (by omega) (fun a x ha => by rw [e8, e3_up_ne (ne_1 ha)]; exact hf a x ha) (fun k k0 k1 => ?_)
      by_cases z : k = j
      · rw [z, e8, e3_up_self, q2, vt_eq (fun a k ha => e35 a k (by omega)) p.2]
        exact p3.symm
      · rw [e8, e3_up_ne (fun y => z y.2)]
        exact h36 k k0 (by omega)
  exact ⟨(σ 56 r).toNat + 1, by have := key (σ 56 r).toNat 0 H (by omega) (fun _ _ _ => rfl) (fun k k0 k1 => by omega); exact this⟩
end HRW
