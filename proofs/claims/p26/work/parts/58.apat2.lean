/-- what reading patterns leaves as it was: patterns ahead of p0, other rules' NAMES, all else but the counts -/
def a_fr (p0 : Int) (σ σ2 : e3_H) : Prop :=
  σ 40 16 ≤ σ2 40 16 ∧ (∀ k : Int, k ≠ 16 → k ≠ 31 → σ2 40 k = σ 40 k) ∧ (∀ a : Int, a ≠ 40 → a < 46 ∨ 58 < a → σ2 a = σ a) ∧ (∀ a q : Int, 46 ≤ a → a ≤ 55 → q < p0 → σ2 a q = σ a q) ∧ (∀ k : Int, k ≠ σ 40 27 → σ2 56 k = σ 56 k) ∧ (∀ a k : Int, a = 57 ∨ a = 58 → k < 8 * σ 40 27 ∨ 8 * σ 40 27 + 8 ≤ k → σ2 a k = σ a k) ∧ σ 56 (σ 40 27) ≤ σ2 56 (σ 40 27) ∧ (∀ k : Int, 0 ≤ k → k < σ 56 (σ 40 27) → σ2 57 (8 * σ 40 27 + k) = σ 57 (8 * σ 40 27 + k))
theorem fr_rf (p0 : Int) (σ : e3_H) : a_fr p0 σ σ := ⟨by omega, fun _ _ _ => rfl, fun _ _ _ => rfl, fun _ _ _ _ _ => rfl, fun _ _ => rfl, fun _ _ _ _ => rfl, by omega, fun _ _ _ => rfl⟩
theorem fr_tr {p0 p1 : Int} {σ σ2 σ3 : e3_H} (h : a_fr p0 σ σ2) (h2 : a_fr p1 σ2 σ3) (hp : p0 ≤ p1) : a_fr p0 σ σ3 := by
  obtain ⟨a1, a2, a3, a4, a5, a6, a7, a8⟩ := h
  obtain ⟨b1, b2, b3, b4, b5, b6, b7, b8⟩ := h2
  have e27 : σ2 40 27 = σ 40 27 := a2 27 (by omega) (by omega)
  rw [e27] at b5 b6 b7 b8
  refine ⟨by omega, fun k h1 h2 => (b2 k h1 h2).trans (a2 k h1 h2), fun a h1 h2 => (b3 a h1 h2).trans (a3 a h1 h2), fun a q h1 h2 h3 => (b4 a q h1 h2 (by omega)).trans (a4 a q h1 h2 h3), fun k h1 => (b5 k h1).trans (a5 k h1), fun a k h1 h2 => (b6 a k h1 h2).trans (a6 a k h1 h2), by omega, fun k h1 h2 => (b8 k h1 (by omega)).trans (a8 k h1 h2)⟩
theorem fr_up {p0 a j v : Int} {σ σ2 : e3_H} (h : a_fr p0 σ σ2) (ha : 46 ≤ a ∧ a ≤ 55 ∧ p0 ≤ j) : a_fr p0 σ (e3_up σ2 a j v) := by
  obtain ⟨a1, a2, a3, a4, a5, a6, a7, a8⟩ := h
  refine ⟨by simp (disch := omega) only [e3_up_self, e3_up_ne]; omega, fun k h1 h2 => by simp (disch := omega) only [e3_up_self, e3_up_ne]; exact a2 k h1 h2, fun b h1 h2 => by rw [← a3 b h1 h2]; funext q; simp (disch := omega) only [e3_up_self, e3_up_ne], fun b q h1 h2 h3 => by simp (disch := omega) only [e3_up_self, e3_up_ne]; exact a4 b q h1 h2 h3, fun k h1 => by simp (disch := omega) only [e3_up_self, e3_up_ne]; exact a5 k h1, fun b k h1 h2 => by simp (disch := omega) only [e3_up_self, e3_up_ne]; exact a6 b k h1 h2, by simp (disch := omega) only [e3_up_self, e3_up_ne]; omega, fun k h1 h2 => by simp (disch := omega) only [e3_up_self, e3_up_ne]; exact a8 k h1 h2⟩
theorem fr_31 {p0 v : Int} {σ σ2 : e3_H} (h : a_fr p0 σ σ2) : a_fr p0 σ (e3_up σ2 40 31 v) := by
  obtain ⟨a1, a2, a3, a4, a5, a6, a7, a8⟩ := h
  refine ⟨by simp (disch := omega) only [e3_up_self, e3_up_ne]; omega, fun k h1 h2 => by simp (disch := omega) only [e3_up_self, e3_up_ne]; exact a2 k h1 h2, fun b h1 h2 => by rw [← a3 b h1 h2]; funext q; simp (disch := omega) only [e3_up_self, e3_up_ne], fun b q h1 h2 h3 => by simp (disch := omega) only [e3_up_self, e3_up_ne]; exact a4 b q h1 h2 h3, fun k h1 => by simp (disch := omega) only [e3_up_self, e3_up_ne]; exact a5 k h1, fun b k h1 h2 => by simp (disch := omega) only [e3_up_self, e3_up_ne]; exact a6 b k h1 h2, by simp (disch := omega) only [e3_up_self, e3_up_ne]; omega, fun k h1 h2 => by simp (disch := omega) only [e3_up_self, e3_up_ne]; exact a8 k h1 h2⟩
theorem fr_58 {p0 j v : Int} {σ σ2 : e3_H} (h : a_fr p0 σ σ2) (hj : 8 * σ 40 27 ≤ j ∧ j < 8 * σ 40 27 + 8) : a_fr p0 σ (e3_up σ2 58 j v) := by
  obtain ⟨a1, a2, a3, a4, a5, a6, a7, a8⟩ := h
  refine ⟨by simp (disch := omega) only [e3_up_self, e3_up_ne]; omega, fun k h1 h2 => by simp (disch := omega) only [e3_up_self, e3_up_ne]; exact a2 k h1 h2, fun b h1 h2 => by rw [← a3 b h1 h2]; funext q; simp (disch := omega) only [e3_up_self, e3_up_ne], fun b q h1 h2 h3 => by simp (disch := omega) only [e3_up_self, e3_up_ne]; exact a4 b q h1 h2 h3, fun k h1 => by simp (disch := omega) only [e3_up_self, e3_up_ne]; exact a5 k h1, fun b k h1 h2 => by simp (disch := omega) only [e3_up_self, e3_up_ne]; exact a6 b k h1 h2, by simp (disch := omega) only [e3_up_self, e3_up_ne]; omega, fun k h1 h2 => by simp (disch := omega) only [e3_up_self, e3_up_ne]; exact a8 k h1 h2⟩
theorem fr_16 {p0 v : Int} {σ σ2 : e3_H} (h : a_fr p0 σ σ2) (hv : σ 40 16 ≤ v) : a_fr p0 σ (e3_up σ2 40 16 v) := by
  obtain ⟨a1, a2, a3, a4, a5, a6, a7, a8⟩ := h
  refine ⟨by simp (disch := omega) only [e3_up_self, e3_up_ne]; omega, fun k h1 h2 => by simp (disch := omega) only [e3_up_self, e3_up_ne]; exact a2 k h1 h2, fun b h1 h2 => by rw [← a3 b h1 h2]; funext q; simp (disch := omega) only [e3_up_self, e3_up_ne], fun b q h1 h2 h3 => by simp (disch := omega) only [e3_up_self, e3_up_ne]; exact a4 b q h1 h2 h3, fun k h1 => by simp (disch := omega) only [e3_up_self, e3_up_ne]; exact a5 k h1, fun b k h1 h2 => by simp (disch := omega) only [e3_up_self, e3_up_ne]; exact a6 b k h1 h2, by simp (disch := omega) only [e3_up_self, e3_up_ne]; omega, fun k h1 h2 => by simp (disch := omega) only [e3_up_self, e3_up_ne]; exact a8 k h1 h2⟩
section AP2
variable {σ : e3_H} {n i m : Nat} {t : Int → Int}
theorem fr_npat (kd s : Int) : a_fr (σ 40 16) σ (a_npat σ kd s) := by
  unfold a_npat
  refine fr_up (fr_up (fr_up (fr_up (fr_up (fr_up (fr_up (fr_up (fr_up (fr_up (fr_16 (fr_rf _ _) ?_) ?_) ?_) ?_) ?_) ?_) ?_) ?_) ?_) ?_) ?_ <;> omega
theorem fr_bind {p0 s v k : Int} {σ2 : e3_H} (h : p_inv σ m i) (hb : a_binds σ s v = some (k, σ2)) : a_fr p0 σ σ2 := by
  obtain ⟨hk, h16, h27, h56, h31, h55⟩ := h
  unfold a_binds at hb
  split at hb
  · split at hb
    · cases hb
    · rename_i h8
      cases hb
      unfold a_bind1 a_bind0 a_nm
      have e27 : (e3_up (e3_up σ 56 (σ 40 27) (σ 56 (σ 40 27) + 1)) 57 (8 * σ 40 27 + σ 56 (σ 40 27)) v) 40 27 = σ 40 27 := by simp (disch := omega) only [e3_up_self, e3_up_ne]
      rw [e27]
      refine fr_31 (fr_58 (σ2 := e3_up (e3_up σ 56 (σ 40 27) (σ 56 (σ 40 27) + 1)) 57 (8 * σ 40 27 + σ 56 (σ 40 27)) v) ⟨?_, ?_, ?_, ?_, ?_, ?_, ?_, ?_⟩ (by omega))
      · simp (disch := omega) only [e3_up_self, e3_up_ne]; omega
      · intro k _ _; simp (disch := omega) only [e3_up_self, e3_up_ne]
      · intro b _ _; funext q; simp (disch := omega) only [e3_up_self, e3_up_ne]
      · intro b q _ _ _; simp (disch := omega) only [e3_up_self, e3_up_ne]
      · intro k _; simp (disch := omega) only [e3_up_self, e3_up_ne]
      · intro b k _ _; simp (disch := omega) only [e3_up_self, e3_up_ne]
      · simp (disch := omega) only [e3_up_self, e3_up_ne]; omega
      · intro k _ _; simp (disch := omega) only [e3_up_self, e3_up_ne]
  · split at hb
    · cases hb
    · cases hb
      unfold a_bind1
      have hr := a_fd_rg (a_rn σ) v (a_nm σ)
      have hr2 : a_no σ v = a_fd (a_rn σ) v (a_nm σ) := rfl
      have hnm : (a_nm σ : Int) ≤ 8 := by unfold a_nm; omega
      exact fr_31 (fr_58 (fr_rf _ _) (by omega))
theorem p_up55 {q v : Int} (h : p_inv σ m i) (hv : 1 ≤ v ∧ v ≤ 1000) : p_inv (e3_up σ 55 q v) m i := by
  obtain ⟨hk, h16, h27, h56, h31, h55⟩ := h
  refine ⟨k_inv_up hk (by omega), by simp (disch := omega) only [e3_up_self, e3_up_ne]; exact h16, by simp (disch := omega) only [e3_up_self, e3_up_ne]; exact h27, by simp (disch := omega) only [e3_up_self, e3_up_ne]; exact h56, by simp (disch := omega) only [e3_up_self, e3_up_ne]; exact h31, ?_⟩
  intro r h0 hr
  have e16 : e3_up σ 55 q v 40 16 = σ 40 16 := e3_up_ne (by omega)
  rw [e16] at hr
  by_cases hz : r = q
  · rw [hz, e3_up_self]; exact hv
  · rw [e3_up_ne (by omega)]; exact h55 r h0 hr
theorem p_up31 {v : Int} (h : p_inv σ m i) (hv : 0 ≤ v ∧ v < 256) : p_inv (e3_up σ 40 31 v) m i := by
  obtain ⟨hk, h16, h27, h56, h31, h55⟩ := h
  refine ⟨k_inv_up hk (by omega), by simp (disch := omega) only [e3_up_self, e3_up_ne]; exact h16, by simp (disch := omega) only [e3_up_self, e3_up_ne]; exact h27, by simp (disch := omega) only [e3_up_self, e3_up_ne]; exact h56, by simp (disch := omega) only [e3_up_self, e3_up_ne]; exact hv, ?_⟩
  intro r h0 hr
  have e16 : e3_up σ 40 31 v 40 16 = σ 40 16 := e3_up_ne (by omega)
  rw [e16] at hr
  rw [e3_up_ne (by omega)]; exact h55 r h0 hr
def a_mul (x y : Int) (k : Int) : Int := if 1000 < (if k = 5 then x * y else x + y) then 1000 else (if k = 5 then x * y else x + y)
theorem a_mul_ok {x y k : Int} (hx : 1 ≤ x) (hy : 1 ≤ y) : 1 ≤ a_mul x y k ∧ a_mul x y k ≤ 1000 := by
  unfold a_mul
  have hxy : 1 ≤ x * y := by
    have := Int.mul_le_mul hx hy (by omega) (by omega)
    omega
  split <;> (try split) <;> omega
theorem p_into {into last q : Int} (h : p_inv σ m i) (h1 : 0 ≤ into ∧ into < σ 40 16) (h2 : 0 ≤ q ∧ q < σ 40 16) : p_inv (a_into σ into last q) m i := by
  have r1 := h.2.2.2.2.2 into h1.1 h1.2
  have r2 := h.2.2.2.2.2 q h2.1 h2.2
  unfold a_into
  split
  · exact p_up55 (p_inv_up h (by omega)) r2
  · exact p_up55 (p_inv_up h (by omega)) (a_mul_ok (k := σ 46 into) r1.1 r2.1)
theorem fr_into {p0 into last q : Int} {σ2 : e3_H} (h : a_fr p0 σ σ2) (h1 : p0 ≤ into) (h2 : last = -4 ∨ p0 ≤ last) : a_fr p0 σ (a_into σ2 into last q) := by
  unfold a_into
  split
  · exact fr_up (fr_up h (by omega)) (by omega)
  · exact fr_up (fr_up h (by omega)) (by omega)
theorem a_into_at {into last q : Int} : (∀ a k : Int, a ≠ 51 → a ≠ 52 → a ≠ 55 → a_into σ into last q a k = σ a k) := by
  intro a k h1 h2 h3
  unfold a_into
  split <;> simp (disch := omega) only [e3_up_self, e3_up_ne]
theorem a_srt_at {srt : Nat → Int} : ∀ (c : Nat) (a k : Int), a ≠ 58 → a_srt σ srt c a k = σ a k := by
  intro c
  induction c with
  | zero => intro a k _; rfl
  | succ c ih =>
    intro a k ha
    show e3_up (a_srt σ srt c) 58 (8 * σ 40 27 + c) (srt c) a k = _
    rw [e3_up_ne (by omega), ih a k ha]
theorem fr_srt {p0 : Int} {σ0 : e3_H} {srt : Nat → Int} (h : a_fr p0 σ0 σ) : ∀ c : Nat, c ≤ 8 → a_fr p0 σ0 (a_srt σ srt c) := by
  have e27 : σ 40 27 = σ0 40 27 := h.2.1 27 (by omega) (by omega)
  intro c
  induction c with
  | zero => intro _; exact h
  | succ c ih =>
    intro hc
    show a_fr p0 σ0 (e3_up (a_srt σ srt c) 58 (8 * σ 40 27 + c) (srt c))
    rw [e27]
    exact fr_58 (ih (by omega)) (by omega)
theorem p_srt {srt : Nat → Int} (h : p_inv σ m i) : ∀ c : Nat, p_inv (a_srt σ srt c) m i := by
  intro c
  induction c with
  | zero => exact h
  | succ c ih => exact p_inv_up ih (by omega)
end AP2
