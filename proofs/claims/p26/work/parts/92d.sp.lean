/-- a path as trees have them -/
def SP (σ : e3_H) (m : Nat) (R : a_RW) : a_PT → Prop
  | [] => True
  | e :: π => SP σ m R π ∧ ((e.1 = 0 ∧ 0 ≤ e.2.2) ∨ (1 ≤ e.1 ∧ ask π e.1 = true ∧ ∃ s, 0 ≤ s ∧ (e.2.1, e.2.2) ∈ lbs σ m R π e.1 s ∧ (∀ w, w ∈ R → lv σ w π = true → ∀ q, (q, e.1) ∈ w.2 → σ 47 q = s) ∧ ∃ w0 q0, w0 ∈ R ∧ lv σ w0 π = true ∧ (q0, e.1) ∈ w0.2))
/-- rows as texts have them -/
def RT (σ : e3_H) (f : Int) (R : a_RW) : Prop := ∀ w, w ∈ R → w.2.Pairwise (fun a b => a.2 ≠ b.2) ∧ TYR σ f w.2 ∧ ∀ p, p ∈ w.2 → nod σ p.1 ∧ (σ 46 p.1 ≠ 0 ∧ σ 46 p.1 ≠ 6) ∧ 1 ≤ p.2
section SPS
variable {σ : e3_H} {m : Nat} {f : Int} {R : a_RW}
theorem cin_mem {c : Int} : ∀ (l : List Int) (x : Int), x ∈ cin c l ↔ x = c ∨ x ∈ l := by
  intro l
  induction l with
  | nil => intro x; show x ∈ [c] ↔ _; rw [List.mem_singleton]; simp
  | cons d l ih =>
    intro x
    unfold cin
    split
    · rw [List.mem_cons]
    · split
      · rename_i h; rw [h, List.mem_cons]; simp
      · rw [List.mem_cons, ih, List.mem_cons]
        constructor
        · rintro (z | z | z)
          · exact Or.inr (Or.inl z)
          · exact Or.inl z
          · exact Or.inr (Or.inr z)
        · rintro (z | z | z)
          · exact Or.inr (Or.inl z)
          · exact Or.inl z
          · exact Or.inr (Or.inr z)
theorem cuts_mem : ∀ (Q l : List Int) (x : Int), x ∈ cuts σ Q l → x ∈ l ∨ ∃ q, q ∈ Q ∧ (x = σ 48 q - 1 ∨ x = σ 49 q) := by
  intro Q
  induction Q with
  | nil => intro l x h; exact Or.inl h
  | cons q Q ih =>
    intro l x h
    rcases ih _ x h with z | ⟨q', z1, z2⟩
    · rw [cin_mem, cin_mem] at z
      rcases z with z | z | z
      · exact Or.inr ⟨q, List.mem_cons_self .., Or.inr z⟩
      · exact Or.inr ⟨q, List.mem_cons_self .., Or.inl z⟩
      · exact Or.inl z
    · exact Or.inr ⟨q', List.mem_cons_of_mem _ z1, z2⟩
theorem txs_mem : ∀ (Q l : List Int) (x : Int), x ∈ txs σ Q l → x ∈ l ∨ ∃ q, q ∈ Q ∧ x = σ 50 q := by
  intro Q
  induction Q with
  | nil => intro l x h; exact Or.inl h
  | cons q Q ih =>
    intro l x h
    rcases ih _ x h with z | ⟨q', z1, z2⟩
    · split at z
      · exact Or.inl z
      · rcases List.mem_append.mp z with y | y
        · exact Or.inl y
        · exact Or.inr ⟨q, List.mem_cons_self .., List.mem_singleton.mp y⟩
    · exact Or.inr ⟨q', List.mem_cons_of_mem _ z1, z2⟩
theorem pts_mem : ∀ (l : List Int) (a : Int) (v : Int × Int), v ∈ pts a l → v.2 = 2147483647 ∨ v.2 ∈ l := by
  intro l
  induction l with
  | nil => intro a v h; have h : v ∈ [(a, 2147483647)] := h; rw [List.mem_singleton.mp h]; exact Or.inl rfl
  | cons c l ih =>
    intro a v h
    rcases List.mem_cons.mp h with z | z
    · rw [z]; exact Or.inr (List.mem_cons_self ..)
    · rcases ih _ v z with y | y
      · exact Or.inl y
      · exact Or.inr (List.mem_cons_of_mem _ y)
theorem ltq_mem {π : a_PT} {x : Int} : ∀ (R : a_RW) (q : Int), q ∈ ltq σ π x R → ∃ w, w ∈ R ∧ lv σ w π = true ∧ (q, x) ∈ w.2 := by
  intro R
  induction R with
  | nil => intro q h; exact absurd h (List.not_mem_nil)
  | cons w R ih =>
    intro q h
    rcases List.mem_append.mp h with z | z
    · split at z
      · rename_i hl
        split at z
        · exact absurd z (List.not_mem_nil)
        · rename_i q' hq
          rw [List.mem_singleton.mp z]
          exact ⟨w, List.mem_cons_self .., hl, tq_mem _ _ _ hq⟩
      · exact absurd z (List.not_mem_nil)
    · obtain ⟨w', a, b, c⟩ := ih q z
      exact ⟨w', List.mem_cons_of_mem _ a, b, c⟩
theorem lvs_mem {s : Int} : ∀ (k : Nat) (v : Int × Int), v ∈ lvs σ m s k → v.1 = v.2 ∧ 0 ≤ v.2 ∧ v.2 < k := by
  intro k
  induction k with
  | zero => intro v h; exact absurd h (List.not_mem_nil)
  | succ k ih =>
    intro v h
    rcases List.mem_append.mp h with z | z
    · have := ih v z; omega
    · split at z
      · rw [List.mem_singleton.mp z]; exact ⟨rfl, by show (0 : Int) ≤ k; omega, by show (k : Int) < _; omega⟩
      · exact absurd z (List.not_mem_nil)
/-- labels: never unknown; of a KIND: nothing, or one of the KINDS -/
theorem lbs_ok {π : a_PT} {x s : Int} {v : Int × Int} (hR : RT σ f R) (h : v ∈ lbs σ m R π x s) (hs : ∀ w, w ∈ R → lv σ w π = true → ∀ q, (q, x) ∈ w.2 → σ 47 q = s) (h0 : 0 ≤ s) (hm : m ≤ 24) : v.2 ≠ -9223372036854775808 ∧ (3 ≤ s → v.2 = -1 ∨ (0 ≤ v.2 ∧ v.2 < m)) ∧ (s = 0 → -1000000001 ≤ v.2 ∧ v.2 ≤ 2147483647) ∧ (s = 1 → v.2 = 0 ∨ v.2 = 1) := by
  have hq : ∀ q, q ∈ ltq σ π x R → σ 47 q = s ∧ nod σ q ∧ (σ 46 q ≠ 0 ∧ σ 46 q ≠ 6) := fun q hq => by
    obtain ⟨w, w1, w2, w3⟩ := ltq_mem R q hq
    have := (hR w w1).2.2 (q, x) w3
    exact ⟨hs w w1 w2 q w3, this.1, this.2.1⟩
  unfold lbs at h
  split at h
  · rename_i e
    rcases pts_mem _ _ v h with z | z
    · rw [z]; exact ⟨by decide, fun y => by omega, fun _ => by omega, fun y => by omega⟩
    · rcases cuts_mem _ _ _ z with y | ⟨q, y1, y2⟩
      · exact absurd y (List.not_mem_nil)
      · obtain ⟨a, ⟨b0, b1, b2, b3, b4, b5, b6⟩, c⟩ := hq q y1
        have h46 : σ 46 q = 1 := by
          by_cases z2 : σ 46 q = 2
          · have := (b2 z2).1; omega
          · by_cases z3 : σ 46 q = 3
            · have := (b3 z3).1; omega
            · by_cases z4 : σ 46 q = 4
              · have := b4 z4; omega
              · by_cases z5 : σ 46 q = 5
                · have := (b5 z5).1; omega
                · omega
        have b := b1 h46
        exact ⟨by omega, fun y => by omega, fun _ => by omega, fun y => by omega⟩
  · split at h
    · rename_i e0 e1
      have hv : v.2 = 0 ∨ v.2 = 1 := by
        rcases List.mem_cons.mp h with z | z
        · rw [z]; exact Or.inl rfl
        · rw [List.mem_singleton.mp z]; exact Or.inr rfl
      exact ⟨by omega, fun y => by omega, fun y => by omega, fun _ => hv⟩
    · split at h
      · rename_i e0 e1 e2
        refine ⟨?_, fun y => by omega, fun y => by omega, fun y => by omega⟩
        rcases List.mem_append.mp h with z | z
        · obtain ⟨w, w1, w2⟩ := List.mem_map.mp z
          rw [← w2]
          show w ≠ _
          rcases txs_mem _ _ _ w1 with y | ⟨q, y1, y2⟩
          · exact absurd y (List.not_mem_nil)
          · obtain ⟨a, ⟨b0, b1, b2, b3, b4, b5, b6⟩, c⟩ := hq q y1
            have h46 : σ 46 q = 3 := by
              by_cases z2 : σ 46 q = 2
              · have := (b2 z2).1; omega
              · by_cases z3 : σ 46 q = 1
                · have := (b1 z3).1; omega
                · by_cases z4 : σ 46 q = 4
                  · have := b4 z4; omega
                  · by_cases z5 : σ 46 q = 5
                    · have := (b5 z5).1; omega
                    · omega
            rw [y2]
            exact (b3 h46).2.2
        · rw [List.mem_singleton.mp z]; show (-1 : Int) ≠ _; decide
      · rename_i e0 e1 e2
        have hv : v.2 = -1 ∨ (0 ≤ v.2 ∧ v.2 < m) := by
          rcases List.mem_cons.mp h with z | z
          · rw [z]; exact Or.inl rfl
          · exact Or.inr (lvs_mem m v z).2
        exact ⟨by omega, fun _ => hv, fun y => by omega, fun y => by omega⟩
/-- live at the step before -/
def lvp (σ : e3_H) (w : Int × List (Int × Int)) : a_PT → Prop
  | [] => True
  | _ :: π => lv σ w π = true
theorem lvp_of {w : Int × List (Int × Int)} : ∀ π : a_PT, lv σ w π = true → lvp σ w π := by
  intro π h
  cases π with
  | nil => exact trivial
  | cons e π => have h : (lv σ w π && ok1 σ w e) = true := h; rw [Bool.and_eq_true] at h; exact h.1
/-- what is known at a row's place keeps to the SORT there -/
theorem SP_lab {w : Int × List (Int × Int)} (hw : w ∈ R) : ∀ π : a_PT, SP σ m R π → lvp σ w π → ∀ q x v, (q, x) ∈ w.2 → 1 ≤ x → kn π x = some v → ∃ π1, 0 ≤ σ 47 q ∧ v ∈ lbs σ m R π1 x (σ 47 q) ∧ ∀ w, w ∈ R → lv σ w π1 = true → ∀ q', (q', x) ∈ w.2 → σ 47 q' = σ 47 q := by
  intro π
  induction π with
  | nil => intro _ _ q x v _ _ h; cases h
  | cons e π ih =>
    intro hS hl q x v hq hx h
    obtain ⟨h1, h2⟩ := hS
    have hl : lv σ w π = true := hl
    unfold kn at h
    split at h
    · rename_i hz
      cases h
      subst hz
      rcases h2 with z | ⟨_, _, s, z0, z1, z2, _⟩
      · omega
      · have := z2 w hw hl q hq
        rw [this]
        exact ⟨π, z0, z1, z2⟩
    · exact ih h1 (lvp_of π hl) q x v hq hx h
/-- at a place that can be asked at, all tests of possible rows have one SORT -/
theorem SH {π : a_PT} (hR : RT σ f R) (hS : SP σ m R π) (hu : a_up (σ 43) m) (hk : KP σ m) (hm : m ≤ 24) {x : Int} (ha : ask π x = true) {w1 w2 : Int × List (Int × Int)} (h1 : w1 ∈ R) (h2 : w2 ∈ R) (l1 : lv σ w1 π = true) (l2 : lv σ w2 π = true) {q1 q2 : Int} (t1 : (q1, x) ∈ w1.2) (t2 : (q2, x) ∈ w2.2) : σ 47 q1 = σ 47 q2 := by
  obtain ⟨p1, y1, n1⟩ := hR w1 h1
  obtain ⟨p2, y2, n2⟩ := hR w2 h2
  have key : ∀ (w : Int × List (Int × Int)) (p' : Int × Int), w ∈ R → lv σ w π = true → p' ∈ w.2 → σ 46 p'.1 = 5 → 0 < σ 44 (σ 48 p'.1) → ∀ v, kn π p'.2 = some v → v.2 = σ 48 p'.1 := by
    intro w p' hw hl hp h5 h44 v hv
    obtain ⟨pw, yw, nw⟩ := hR w hw
    have hh := lv_hld pw (fun p hp => by have := (nw p hp).2.2; omega) π hl p' hp v hv
    obtain ⟨π1, z0, z1, z2⟩ := SP_lab hw π hS (lvp_of π hl) p'.1 p'.2 v hp (nw p' hp).2.2 hv
    have hs := ((nw p' hp).1.2.2.2.2.2.1 h5).1
    have hb := (lbs_ok hR z1 z2 z0 hm).2.1 hs
    unfold hld at hh
    rw [if_pos h5, Bool.and_eq_true] at hh
    have h0 := of_decide_eq_true hh.1
    rcases hb with z | z
    · omega
    · exact of_part hu hk h44 24 v.2 z.1 z.2 hh.2
  unfold ask at ha
  rw [Bool.and_eq_true, Bool.or_eq_true] at ha
  rcases y1 (q1, x) t1 with ⟨a1, a2⟩ | ⟨a', a1, a2, a3, a4, a5⟩
  · rcases y2 (q2, x) t2 with ⟨b1, b2⟩ | ⟨b', b1, b2, b3, b4, b5⟩
    · exact a2.trans b2.symm
    · have := (n2 b' b1).2.2
      have b3 : (x - 1) / 8 = b'.2 := b3
      have a1 : (x - 1) / 8 = 0 := a1
      omega
  · have ha' := (n1 a' a1).2.2
    have a3 : (x - 1) / 8 = a'.2 := a3
    rcases y2 (q2, x) t2 with ⟨b1, b2⟩ | ⟨b', b1, b2, b3, b4, b5⟩
    · have b1 : (x - 1) / 8 = 0 := b1
      omega
    · have b3 : (x - 1) / 8 = b'.2 := b3
      have hk1 : (kn π ((x - 1) / 8)).isSome = true := by
        rcases ha.2 with z | z
        · have := of_decide_eq_true z; omega
        · exact z
      obtain ⟨v, hv⟩ := Option.isSome_iff_exists.mp hk1
      have e1 := key w1 a' h1 l1 a1 a2 a5 v (by rw [← a3]; exact hv)
      have e2 := key w2 b' h2 l2 b1 b2 b5 v (by rw [← b3]; exact hv)
      have a4 : σ 47 q1 = σ 45 (4 * σ 48 a'.1 + (x - 1) % 8) := a4
      have b4 : σ 47 q2 = σ 45 (4 * σ 48 b'.1 + (x - 1) % 8) := b4
      rw [a4, b4, ← e1, ← e2]
end SPS
