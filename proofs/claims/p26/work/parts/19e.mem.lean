/-- memory by numbers: an address, a place there; tags: (type of an array, length) or (100 + class, fields) -/
def e3_up (H : e3_H) (a j v : Int) : e3_H := fun b k => if b = a ∧ k = j then v else H b k
def e3_nw (H : e3_H) (a : Int) (φ : Int → Int) : e3_H := fun b k => if b = a then φ k else H b k
theorem e3_up_self (H : e3_H) (a j v : Int) : e3_up H a j v a j = v := by unfold e3_up; simp
theorem e3_up_ne {H : e3_H} {a j v b k : Int} (h : ¬ (b = a ∧ k = j)) : e3_up H a j v b k = H b k := by unfold e3_up; rw [if_neg h]
def e3_rf (x : Int) : Option Nat := if x < 0 then none else some x.toNat
def e3_c (F : Nat → List Nat) (g : Nat × Nat) (φ : Int → Int) : am_E :=
  if g.1 = 1 then .inl (1, g.2, .inr (.inl (fun j => Int64.ofInt (φ (j : Int)))))
  else if g.1 < 4 then .inl (g.1, g.2, .inl (fun j => Int32.ofInt (φ (j : Int))))
  else if g.1 < 100 then .inl (g.1, g.2, .inr (.inr (.inr (.inr (fun j => e3_rf (φ (j : Int)))))))
  else .inr (g.1 - 100, (F (g.1 - 100)).mapIdx (fun k c => e3_v (c, φ (k : Int))))
/-- which code a place of a cell has -/
def e3_sc (F : Nat → List Nat) (g : Nat × Nat) (k : Nat) : Nat :=
  if g.1 = 1 then 1 else if g.1 < 4 then 0 else if g.1 < 100 then 2 else ((F (g.1 - 100))[k]?).getD 0
def e3_dv (c : Nat) : Value := e3_v (c, if c = 2 then -1 else 0)
def e3_dz (l : List Nat) (k : Int) : Int := if l[k.toNat]? = some 2 then -1 else 0
abbrev e3_B : Type := am_T × List am_E × (Nat → List Nat) × (Nat → Nat → Option (Int × Int)) × e3_G
def e3_R (B : e3_B) (H : e3_H) (G : e3_G) (h : List am_E) : Prop :=
  B.2.1.length = 2 ∧ G.length = 2 + h.length
  ∧ (∀ (i : Nat) (g : Nat × Nat), G[i]? = some g → am_at B.2.1 h i = some (e3_c B.2.2.1 g (H i)))
  ∧ (∀ (i : Nat) (g : Nat × Nat), G[i]? = some g → ∀ k : Nat, k < g.2 → e3_ok (e3_sc B.2.2.1 g k, H i k))
  ∧ (∀ (i : Nat) (g : Nat × Nat), B.2.2.2.2[i]? = some g → G[i]? = some g)
  ∧ (∀ (ci kf : Nat) (A v : Int), B.2.2.2.1 ci kf = some (A, v) → 0 ≤ A ∧ H A kf = v ∧ ∃ n, G[A.toNat]? = some (100 + ci, n))
  ∧ (∀ (i : Nat) (g : Nat × Nat), i < 2 → G[i]? = some g → g.1 < 2)
  ∧ (∀ (i : Nat) (g : Nat × Nat), G[i]? = some g → 100 ≤ g.1 → g.2 = (B.2.2.1 (g.1 - 100)).length)
/-- what the tables must have -/
def e3_Z (B : e3_B) : Prop := (∀ ci : Nat, am_df B.1 ci = (B.2.2.1 ci).map e3_dv) ∧ (∀ ci : Nat, ∀ c ∈ B.2.2.1 ci, c < 3) ∧ (∀ t : Nat, ∀ y, (am_ty B.1)[t]? = some y → t < 100) ∧ (∀ (t : Nat) (C : String), (am_ty B.1)[t]? = some (.object C) → 4 ≤ t)
def e3_ob (G : e3_G) (ci : Nat) (a : Int) : Prop := 0 ≤ a ∧ ∃ n, G[a.toNat]? = some (100 + ci, n)
def e3_oa (G : e3_G) (c : Nat) (a i : Int) : Prop := 2 ≤ a ∧ 0 ≤ i ∧ ∃ n : Nat, G[a.toNat]? = some (c, n) ∧ i < n
def e3_tg (G0 : e3_G) (a : Int) (c : Nat) : Bool := match a with
  | .ofNat n => (match G0[n]? with | some g => Nat.beq g.1 c | none => false)
  | _ => false
def e3_eq (a b : Int) : Bool := match a, b with
  | .ofNat x, .ofNat y => Nat.beq x y
  | _, _ => false
theorem e3_eq_ok {a b : Int} (h : e3_eq a b = true) : a = b := by
  unfold e3_eq at h
  split at h
  · rw [Nat.eq_of_beq_eq_true h]
  · cases h
theorem e3_tg_ok {G0 : e3_G} {a : Int} {c : Nat} (h : e3_tg G0 a c = true) : 0 ≤ a ∧ ∃ n, G0[a.toNat]? = some (c, n) := by
  unfold e3_tg at h
  split at h
  · rename_i n
    split at h
    · rename_i g hg
      have := Nat.eq_of_beq_eq_true h
      refine ⟨Int.natCast_nonneg n, g.2, ?_⟩
      rw [show (Int.ofNat n).toNat = n from rfl, hg, ← this]
    · cases h
  · cases h
section E3M
variable {B : e3_B} {H : e3_H} {G : e3_G} {h : List am_E}
theorem e3_R_at (hR : e3_R B H G h) {a : Int} {g : Nat × Nat} (ha : 0 ≤ a) (hg : G[a.toNat]? = some g) : am_at B.2.1 h a.toNat = some (e3_c B.2.2.1 g (H a)) := by
  have := hR.2.2.1 a.toNat g hg
  rwa [Int.toNat_of_nonneg ha] at this
theorem e3_R_dy (hR : e3_R B H G h) {a : Int} {g : Nat × Nat} (ha : 2 ≤ a) (hg : G[a.toNat]? = some g) : am_dy B.2.1 h a.toNat = some (e3_c B.2.2.1 g (H a)) := by
  have h1 := e3_R_at hR (by omega) hg
  unfold am_at at h1
  unfold am_dy
  have h2 : ¬ a.toNat < B.2.1.length := by rw [hR.1]; omega
  rw [if_neg h2] at h1 ⊢
  exact h1
theorem e3_ob_2 (hR : e3_R B H G h) {a : Int} {ci : Nat} (ho : e3_ob G ci a) : 2 ≤ a := by
  obtain ⟨h1, n, h2⟩ := ho
  rcases Int.lt_or_le a 2 with h3 | h3
  · have := hR.2.2.2.2.2.2.1 a.toNat _ (by omega) h2
    simp only at this
    omega
  · exact h3
theorem e3_c_obj {F : Nat → List Nat} {ci n : Nat} {φ : Int → Int} : e3_c F (100 + ci, n) φ = .inr (ci, (F ci).mapIdx (fun k c => e3_v (c, φ (k : Int)))) := by
  unfold e3_c
  simp only
  rw [if_neg (by omega), if_neg (by omega), if_neg (by omega)]
  have : 100 + ci - 100 = ci := by omega
  rw [this]
theorem e3_c_long {F : Nat → List Nat} {n : Nat} {φ : Int → Int} : e3_c F (1, n) φ = .inl (1, n, .inr (.inl (fun j => Int64.ofInt (φ (j : Int))))) := rfl
theorem e3_c_int {F : Nat → List Nat} {c n : Nat} {φ : Int → Int} (h1 : c ≠ 1) (h4 : c < 4) : e3_c F (c, n) φ = .inl (c, n, .inl (fun j => Int32.ofInt (φ (j : Int)))) := by
  unfold e3_c
  simp only
  rw [if_neg h1, if_pos h4]
theorem e3_c_ref {F : Nat → List Nat} {c n : Nat} {φ : Int → Int} (h4 : 4 ≤ c) (h100 : c < 100) : e3_c F (c, n) φ = .inl (c, n, .inr (.inr (.inr (.inr (fun j => e3_rf (φ (j : Int))))))) := by
  unfold e3_c
  simp only
  rw [if_neg (by omega), if_neg (by omega), if_pos h100]
theorem e3_sc_obj {F : Nat → List Nat} {ci n k c : Nat} (hk : (F ci)[k]? = some c) : e3_sc F (100 + ci, n) k = c := by
  unfold e3_sc
  simp only
  rw [if_neg (by omega), if_neg (by omega), if_neg (by omega)]
  have : 100 + ci - 100 = ci := by omega
  rw [this, hk]
  rfl
theorem e3_sc_int {F : Nat → List Nat} {c n k : Nat} (h1 : c ≠ 1) (h4 : c < 4) : e3_sc F (c, n) k = 0 := by
  unfold e3_sc
  simp only
  rw [if_neg h1, if_pos h4]
theorem e3_sc_long {F : Nat → List Nat} {n k : Nat} : e3_sc F (1, n) k = 1 := rfl
theorem e3_sc_ref {F : Nat → List Nat} {c n k : Nat} (h4 : 4 ≤ c) (h100 : c < 100) : e3_sc F (c, n) k = 2 := by
  unfold e3_sc
  simp only
  rw [if_neg (by omega), if_neg (by omega), if_pos h100]
/-- a field's value is in order -/
theorem e3_R_fld (hR : e3_R B H G h) {a : Int} {ci kf c : Nat} (ho : e3_ob G ci a) (hk : (B.2.2.1 ci)[kf]? = some c) : e3_ok (c, H a kf) := by
  obtain ⟨h1, n, h2⟩ := ho
  have h3 := hR.2.2.2.2.2.2.2 a.toNat _ h2 (by simp)
  simp only at h3
  have e : 100 + ci - 100 = ci := by omega
  rw [e] at h3
  have h4 := hR.2.2.2.1 a.toNat _ h2 kf (by show kf < n; rw [h3]; exact (List.getElem?_eq_some_iff.mp hk).1)
  rw [e3_sc_obj hk, Int.toNat_of_nonneg h1] at h4
  exact h4
theorem e3_R_el (hR : e3_R B H G h) {a i : Int} {c n : Nat} (ha : 0 ≤ a) (hg : G[a.toNat]? = some (c, n)) (h0 : 0 ≤ i) (hi : i < n) : e3_ok (e3_sc B.2.2.1 (c, n) i.toNat, H a i) := by
  have h4 := hR.2.2.2.1 a.toNat _ hg i.toNat (by show i.toNat < n; omega)
  rw [Int.toNat_of_nonneg ha, Int.toNat_of_nonneg h0] at h4
  exact h4
/-- a cell is written: the others stay -/
theorem e3_R_set (hR : e3_R B H G h) {a j x : Int} {g : Nat × Nat} {cell : am_E} (ha : 2 ≤ a) (hj : 0 ≤ j) (hg : G[a.toNat]? = some g) (hjl : j < g.2) (hok : e3_ok (e3_sc B.2.2.1 g j.toNat, x)) (hcell : cell = e3_c B.2.2.1 g (e3_up H a j x a)) (hct : ∀ ci kf A v, B.2.2.2.1 ci kf = some (A, v) → ¬ (A = a ∧ (kf : Int) = j)) : e3_R B (e3_up H a j x) G (am_up B.2.1 h a.toNat cell) := by
  obtain ⟨r1, r2, r3, r4, r5, r6, r7, r8⟩ := hR
  have hlt : a.toNat < G.length := (List.getElem?_eq_some_iff.mp hg).1
  refine ⟨r1, ?_, ?_, ?_, r5, ?_, r7, r8⟩
  · unfold am_up
    rw [List.length_set]
    exact r2
  · intro i g2 hg2
    by_cases hi : a.toNat = i
    · subst hi
      rw [hg] at hg2
      cases hg2
      unfold am_at am_up
      rw [if_neg (by rw [r1]; omega), r1, List.getElem?_set_self (by omega), hcell, Int.toNat_of_nonneg (by omega)]
    · have h1 := r3 i g2 hg2
      have e : e3_up H a j x (i : Int) = H i := by
        funext k
        exact e3_up_ne (by omega)
      rw [e]
      unfold am_at at h1 ⊢
      unfold am_up
      split
      · rename_i hlt2
        rw [if_pos hlt2] at h1
        exact h1
      · rename_i hlt2
        rw [if_neg hlt2] at h1
        rw [List.getElem?_set_ne (by rw [r1] at hlt2 ⊢; omega)]
        exact h1
  · intro i g2 hg2 k hk
    by_cases hi : a.toNat = i ∧ j.toNat = k
    · obtain ⟨hi1, hi2⟩ := hi
      subst hi1
      subst hi2
      rw [hg] at hg2
      cases hg2
      rw [Int.toNat_of_nonneg (show 0 ≤ a by omega), Int.toNat_of_nonneg hj, e3_up_self]
      exact hok
    · rw [e3_up_ne (by omega)]
      exact r4 i g2 hg2 k hk
  · intro ci kf A v hc
    obtain ⟨s1, s2, s3⟩ := r6 ci kf A v hc
    refine ⟨s1, ?_, s3⟩
    rw [e3_up_ne (hct ci kf A v hc)]
    exact s2
theorem e3_R_push (hR : e3_R B H G h) {g : Nat × Nat} {φ : Int → Int} {cell : am_E} (hcell : cell = e3_c B.2.2.1 g φ) (hok : ∀ k : Nat, k < g.2 → e3_ok (e3_sc B.2.2.1 g k, φ k)) (hn : 100 ≤ g.1 → g.2 = (B.2.2.1 (g.1 - 100)).length) : e3_R B (e3_nw H G.length φ) (G ++ [g]) (h ++ [cell]) := by
  obtain ⟨r1, r2, r3, r4, r5, r6, r7, r8⟩ := hR
  have old : ∀ (i : Nat) (g2 : Nat × Nat), i < G.length → e3_nw H (G.length : Int) φ (i : Int) = H i := by
    intro i g2 hi
    funext k
    unfold e3_nw
    rw [if_neg (by omega)]
  have new : e3_nw H (G.length : Int) φ (G.length : Int) = φ := by
    funext k
    unfold e3_nw
    rw [if_pos rfl]
  have cs : ∀ (i : Nat) (g2 : Nat × Nat), (G ++ [g])[i]? = some g2 → (i < G.length ∧ G[i]? = some g2) ∨ (i = G.length ∧ g2 = g) := by
    intro i g2 hg2
    rcases Nat.lt_trichotomy i G.length with h1 | h1 | h1
    · rw [List.getElem?_append_left h1] at hg2
      exact Or.inl ⟨h1, hg2⟩
    · subst h1
      rw [List.getElem?_append_right (Nat.le_refl _), Nat.sub_self] at hg2
      cases hg2
      exact Or.inr ⟨rfl, rfl⟩
    · rw [List.getElem?_append_right (by omega)] at hg2
      rw [List.getElem?_eq_none (by simp; omega)] at hg2
      cases hg2
  have gl : ∀ (i : Nat) (g2 : Nat × Nat), G[i]? = some g2 → (G ++ [g])[i]? = some g2 := by
    intro i g2 hg2
    rw [List.getElem?_append_left (List.getElem?_eq_some_iff.mp hg2).1]
    exact hg2
  refine ⟨r1, by simp; omega, ?_, ?_, fun i g2 h2 => gl i g2 (r5 i g2 h2), ?_, ?_, ?_⟩
  · intro i g2 hg2
    rcases cs i g2 hg2 with ⟨h1, h2⟩ | ⟨h1, h2⟩
    · rw [old i g2 h1]
      have h3 := r3 i g2 h2
      unfold am_at at h3 ⊢
      split
      · rename_i hlt
        rw [if_pos hlt] at h3
        exact h3
      · rename_i hlt
        rw [if_neg hlt] at h3
        rw [List.getElem?_append_left (List.getElem?_eq_some_iff.mp h3).1]
        exact h3
    · subst h1
      subst h2
      rw [new]
      unfold am_at
      rw [if_neg (by omega), List.getElem?_append_right (by omega), show G.length - B.2.1.length - h.length = 0 by omega, hcell]
      rfl
  · intro i g2 hg2 k hk
    rcases cs i g2 hg2 with ⟨h1, h2⟩ | ⟨h1, h2⟩
    · rw [old i g2 h1]
      exact r4 i g2 h2 k hk
    · subst h1
      subst h2
      rw [new]
      exact hok k hk
  · intro ci kf A v hc
    obtain ⟨s1, s2, n, s3⟩ := r6 ci kf A v hc
    refine ⟨s1, ?_, n, gl _ _ s3⟩
    have h5 := (List.getElem?_eq_some_iff.mp s3).1
    have h6 := old A.toNat (100 + ci, n) h5
    rw [Int.toNat_of_nonneg s1] at h6
    rw [h6]
    exact s2
  · intro i g2 hi hg2
    rcases cs i g2 hg2 with ⟨h1, h2⟩ | ⟨h1, h2⟩
    · exact r7 i g2 hi h2
    · omega
  · intro i g2 hg2 h100
    rcases cs i g2 hg2 with ⟨h1, h2⟩ | ⟨h1, h2⟩
    · exact r8 i g2 h2 h100
    · subst h2
      exact hn h100
end E3M
