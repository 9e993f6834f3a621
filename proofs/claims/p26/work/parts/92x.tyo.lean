/-- a SORT comes from a pattern ahead -/
def vtyo (σ : e3_H) (A : List (Int × Int)) (p : Int × Int) : Prop := ∃ p', p' ∈ A ∧ σ 46 p'.1 = 5 ∧ (p.2 - 1) / 8 = p'.2 ∧ σ 47 p.1 = σ 45 (4 * σ 48 p'.1 + (p.2 - 1) % 8) ∧ 0 < σ 44 (σ 48 p'.1)
theorem vtyo_mono {σ : e3_H} {A B : List (Int × Int)} {p : Int × Int} (h : vtyo σ A p) (hs : ∀ y, y ∈ A → y ∈ B) : vtyo σ B p := by
  obtain ⟨p', h1, h2⟩ := h
  exact ⟨p', hs p' h1, h2⟩
theorem spl_app {p : Int × Int} {B : List (Int × Int)} : ∀ (V1 V2 A : List (Int × Int)), V1 ++ V2 = A ++ p :: B → (∃ B1, V1 = A ++ p :: B1) ∨ (∃ A2, A = V1 ++ A2 ∧ V2 = A2 ++ p :: B) := by
  intro V1
  induction V1 with
  | nil => intro V2 A h; exact Or.inr ⟨A, rfl, h⟩
  | cons a V1 ih =>
    intro V2 A h
    cases A with
    | nil =>
      have h : a :: (V1 ++ V2) = p :: B := h
      have h1 := (List.cons.inj h).1
      exact Or.inl ⟨V1, by rw [h1]; rfl⟩
    | cons b A =>
      have h : a :: (V1 ++ V2) = b :: (A ++ p :: B) := h
      obtain ⟨h1, h2⟩ := List.cons.inj h
      rcases ih V2 A h2 with ⟨B1, z⟩ | ⟨A2, z1, z2⟩
      · exact Or.inl ⟨B1, by rw [z, h1]; rfl⟩
      · exact Or.inr ⟨A2, by rw [z1, h1]; rfl, z2⟩
section TYO
variable {σ : e3_H} {hi : Int}
theorem lyC_tyo {k : Nat} (hR : ∀ c w x V, lyV σ k c w x V → wt σ k hi c → 0 ≤ c → 0 ≤ x → ∀ A p B, V = A ++ p :: B → (p.2 = x ∧ σ 47 p.1 = σ 47 c) ∨ vtyo σ A p) : ∀ (L : List Int) (w x : Int) (V : List (Int × Int)), lyC (lyV σ k) σ L w x V → (∀ c, c ∈ L → wt σ k hi c ∧ 0 ≤ c) → 0 ≤ x → ∀ A p B, V = A ++ p :: B → (∃ (i : Nat) (c : Int), L[i]? = some c ∧ p.2 = x + i ∧ σ 47 p.1 = σ 47 c) ∨ vtyo σ A p := by
  intro L
  induction L with
  | nil =>
    intro w x V h _ _ A p B e
    have h : V = [] := h
    rw [h] at e
    have := congrArg List.length e
    rw [List.length_append, List.length_cons] at this
    have e0 : ([] : List (Int × Int)).length = 0 := rfl
    omega
  | cons d l ih =>
    intro w x V h hw hx A p B e
    obtain ⟨V1, V2, e1, v1, v2⟩ := h
    rw [e1] at e
    have hd := hw d (List.mem_cons_self ..)
    rcases spl_app V1 V2 A e with ⟨B1, z⟩ | ⟨A2, z1, z2⟩
    · rcases hR d _ x V1 v1 hd.1 hd.2 hx A p B1 z with ⟨y1, y2⟩ | y
      · exact Or.inl ⟨0, d, rfl, by rw [y1]; omega, y2⟩
      · exact Or.inr y
    · rcases ih _ (x + 1) V2 v2 (fun c hc => hw c (List.mem_cons_of_mem _ hc)) (by omega) A2 p B z2 with ⟨i, c, y1, y2, y3⟩ | y
      · exact Or.inl ⟨i + 1, c, y1, by rw [y2]; omega, y3⟩
      · exact Or.inr (vtyo_mono y (fun q hq => by rw [z1]; exact List.mem_append_right _ hq))
theorem lyV_tyo : ∀ (k : Nat) (q w x : Int) (V : List (Int × Int)), lyV σ k q w x V → wt σ k hi q → 0 ≤ q → 0 ≤ x → ∀ A p B, V = A ++ p :: B → (p.2 = x ∧ σ 47 p.1 = σ 47 q) ∨ vtyo σ A p := by
  intro k
  induction k with
  | zero => intro q w x V h; exact h.elim
  | succ k ih =>
    intro q w x V h ht hq hx A p B eV
    obtain ⟨L, V1, ⟨a1, a2⟩, e, h⟩ := h
    obtain ⟨L2, b1, b2, b3, b4, b5, b6, b7, b8, b9⟩ := ht
    have e1 : ∀ y, y ∈ L2 → y ≠ -4 := fun y hy => by have := (b2 y hy).1; omega
    have hLL : L = L2 := ach_inj L L2 _ a2 e1 a1 b1
    subst hLL
    rw [e] at eV
    cases A with
    | nil =>
      have eV : (q, x) :: V1 = p :: B := eV
      have := (List.cons.inj eV).1
      rw [← this]
      exact Or.inl ⟨rfl, rfl⟩
    | cons a A =>
      have eV : (q, x) :: V1 = a :: (A ++ p :: B) := eV
      obtain ⟨ea, eV1⟩ := List.cons.inj eV
      have hz : p ∈ V1 := by rw [eV1]; exact List.mem_append_right _ (List.mem_cons_self ..)
      rcases h with ⟨h6, A', c, B', eA, _, _, v⟩ | ⟨h6, h5, hl, _, v⟩
      · have hm : c ∈ L := by rw [eA]; exact List.mem_append_right _ (List.mem_cons_self ..)
        rcases ih c _ x V1 v (b2 c hm).2.2 (by have := (b2 c hm).1; omega) hx A p B eV1 with ⟨y1, y2⟩ | y
        · exact Or.inl ⟨y1, by rw [y2]; exact b8.1 h6 c hm⟩
        · exact Or.inr (vtyo_mono y (fun q hq => List.mem_cons_of_mem _ hq))
      · have hne : L ≠ [] := fun y => by
          rw [y] at v
          have v : V1 = [] := v
          rw [v] at hz
          exact absurd hz (List.not_mem_nil)
        have h5 := h5 hne
        refine Or.inr ?_
        rcases lyC_tyo (k := k) (hi := hi) (fun c w x V v1 v2 v3 v4 => ih c w x V v1 v2 v3 v4) L w (8 * x + 1) V1 v (fun c hc => ⟨(b2 c hc).2.2, by have := (b2 c hc).1; omega⟩) (by omega) A p B eV1 with ⟨i, c, y1, y2, y3⟩ | y
        · have hi4 : i < L.length := (List.getElem?_eq_some_iff.mp y1).1
          refine ⟨(q, x), by rw [ea]; exact List.mem_cons_self .., h5, by show (p.2 - 1) / 8 = x; omega, ?_, ?_⟩
          · show σ 47 p.1 = σ 45 (4 * σ 48 q + (p.2 - 1) % 8)
            rw [y3, b8.2 h5 i c y1, show (p.2 - 1) % 8 = (i : Int) by omega]
          · show 0 < σ 44 (σ 48 q)
            rw [← b9 h5 hne]
            omega
        · exact vtyo_mono y (fun q hq => List.mem_cons_of_mem _ hq)
end TYO
theorem tl_spl {σ : e3_H} {p : Int × Int} : ∀ (V A B : List (Int × Int)), tl σ V = A ++ p :: B → ∃ A' B', V = A' ++ p :: B' ∧ tl σ A' = A := by
  intro V
  induction V with
  | nil =>
    intro A B h
    have := congrArg List.length h
    rw [List.length_append, List.length_cons] at this
    have e0 : (tl σ ([] : List (Int × Int))).length = 0 := rfl
    omega
  | cons a V ih =>
    intro A B h
    by_cases hz : σ 46 a.1 = 0 ∨ σ 46 a.1 = 6
    · rw [tl_neg hz] at h
      obtain ⟨A', B', e1, e2⟩ := ih A B h
      exact ⟨a :: A', B', by rw [e1]; rfl, by rw [tl_neg hz]; exact e2⟩
    · rw [tl_pos hz] at h
      cases A with
      | nil =>
        have h : a :: tl σ V = p :: B := h
        have := (List.cons.inj h).1
        exact ⟨[], V, by rw [this]; rfl, rfl⟩
      | cons b A =>
        have h : a :: tl σ V = b :: (A ++ p :: B) := h
        obtain ⟨h1, h2⟩ := List.cons.inj h
        obtain ⟨A', B', e1, e2⟩ := ih A B h2
        exact ⟨a :: A', B', by rw [e1]; rfl, by rw [tl_pos hz, e2, h1]⟩
/-- a row keeps to SORTS, in its order -/
def TYRo (σ : e3_H) (f : Int) (T : List (Int × Int)) : Prop := ∀ A p B, T = A ++ p :: B → ((p.2 - 1) / 8 = 0 ∧ σ 47 p.1 = σ 69 (3 * f + (p.2 - 1))) ∨ vtyo σ A p
theorem TYRo_of {σ : e3_H} {hi f r w : Int} {L : List Int} {V : List (Int × Int)} (hL : L.length ≤ 4) (hr : r / 16 = f) (hv : lyC (lyV σ 6) σ L w 1 V) (hw : ∀ c, c ∈ L → wt σ 6 hi c ∧ 0 ≤ c) (hs : ∀ (i : Nat) (x : Int), L[i]? = some x → σ 47 x = σ 69 (3 * (r / 16) + i)) : TYRo σ f (tl σ V) := by
  intro A p B e
  obtain ⟨A', B', e1, e2⟩ := tl_spl V A B e
  rcases lyC_tyo (k := 6) (hi := hi) (fun c w x V v1 v2 v3 v4 => lyV_tyo 6 c w x V v1 v2 v3 v4) L w 1 V hv hw (by omega) A' p B' e1 with ⟨i, c, y1, y2, y3⟩ | ⟨p', y1, y2, y3⟩
  · have hi4 : i < L.length := (List.getElem?_eq_some_iff.mp y1).1
    exact Or.inl ⟨by omega, by rw [y3, hs i c y1, hr, show p.2 - 1 = (i : Int) by omega]⟩
  · refine Or.inr ⟨p', ?_, y2, y3⟩
    rw [← e2]
    exact tl_mem.mpr ⟨y1, by omega, by omega⟩
/-- what is known stays known -/
theorem kn_mono {σ : e3_H} {m : Nat} {R : a_RW} {π : a_PT} {e : Int × Int × Int} {u : Int} {v : Int × Int} (hS : SP σ m R (e :: π)) (hu : 1 ≤ u) (h : kn π u = some v) : kn (e :: π) u = some v := by
  unfold kn
  by_cases hz : e.1 = u
  · exfalso
    rcases hS.2 with ⟨z, _⟩ | ⟨_, z, _⟩
    · omega
    · unfold ask at z
      rw [hz, h] at z
      rw [Bool.and_eq_true] at z
      exact absurd z.1 (fun y => by cases y)
  · rw [if_neg hz]
    exact h
/-- a label that is looked at keeps to the test's SORT: also in rows that are not possible -/
theorem SO {σ : e3_H} {m : Nat} {R : a_RW} {f : Int} (hR : RT σ f R) (hRo : ∀ w, w ∈ R → TYRo σ f w.2) (hu : a_up (σ 43) m) (hk : KP σ m) (hm : m ≤ 24) {w : Int × List (Int × Int)} (hw : w ∈ R) {A B : List (Int × Int)} {q x : Int} (e : w.2 = A ++ (q, x) :: B) : ∀ π : a_PT, SP σ m R π → (∀ p, p ∈ A → σ 46 p.1 = 5 → ∀ v, kn π p.2 = some v → hld σ p.1 v.2 = true) → ∀ v, kn π x = some v → ∃ π1, (∃ A0 : a_PT, π = A0 ++ (x, v.1, v.2) :: π1) ∧ 0 ≤ σ 47 q ∧ v ∈ lbs σ m R π1 x (σ 47 q) ∧ (∀ w, w ∈ R → lv σ w π1 = true → ∀ q', (q', x) ∈ w.2 → σ 47 q' = σ 47 q) := by
  have hx1 : 1 ≤ x := ((hR w hw).2.2 (q, x) (by rw [e]; exact List.mem_append_right _ (List.mem_cons_self ..))).2.2
  intro π
  induction π with
  | nil => intro _ _ v h; cases h
  | cons e0 π ih =>
    intro hS hA v hv
    have hv2 := hv
    unfold kn at hv
    split at hv
    · rename_i hz
      cases hv
      rcases hS.2 with ⟨z, _⟩ | ⟨_, z, s, z0, z1, z2, w0, q0, y1, y2, y3⟩
      · omega
      · subst hz
        have hs : σ 47 q = s := by
          rw [← z2 w0 y1 y2 q0 y3]
          obtain ⟨pw0, ty0, nd0⟩ := hR w0 y1
          rcases hRo w hw A (q, e0.1) B e with ⟨a1, a2⟩ | ⟨p', a1, a2, a3, a4, a5⟩
          · rcases ty0 (q0, e0.1) y3 with ⟨b1, b2⟩ | ⟨b', b1, b2, b3, b4, b5⟩
            · exact a2.trans b2.symm
            · have := (nd0 b' b1).2.2
              have b3 : (e0.1 - 1) / 8 = b'.2 := b3
              have a1 : (e0.1 - 1) / 8 = 0 := a1
              omega
          · have hp'm : p' ∈ w.2 := by rw [e]; exact List.mem_append_left _ a1
            have hp1 := ((hR w hw).2.2 p' hp'm).2.2
            have a3 : (e0.1 - 1) / 8 = p'.2 := a3
            rcases ty0 (q0, e0.1) y3 with ⟨b1, b2⟩ | ⟨b', b1, b2, b3, b4, b5⟩
            · have b1 : (e0.1 - 1) / 8 = 0 := b1
              omega
            · have b3 : (e0.1 - 1) / 8 = b'.2 := b3
              have hk1 : (kn π ((e0.1 - 1) / 8)).isSome = true := by
                unfold ask at z
                rw [Bool.and_eq_true, Bool.or_eq_true] at z
                rcases z.2 with y | y
                · have := of_decide_eq_true y; omega
                · exact y
              obtain ⟨v', hv'⟩ := Option.isSome_iff_exists.mp hk1
              have hkb : kn π b'.2 = some v' := by rw [← b3]; exact hv'
              have hka : kn (e0 :: π) p'.2 = some v' := kn_mono hS hp1 (by rw [← a3]; exact hv')
              have hh := lv_hld pw0 (fun p hp => by have := (nd0 p hp).2.2; omega) π y2 b' b1 v' hkb
              obtain ⟨π1, t0, t1, t2⟩ := SP_lab y1 π hS.1 (lvp_of π y2) b'.1 b'.2 v' b1 (nd0 b' b1).2.2 hkb
              have hs3 := ((nd0 b' b1).1.2.2.2.2.2.1 b2).1
              have hb := (lbs_ok hR t1 t2 t0 hm).2.1 hs3
              unfold hld at hh
              rw [if_pos b2, Bool.and_eq_true] at hh
              have h0 := of_decide_eq_true hh.1
              have hr : 0 ≤ v'.2 ∧ v'.2 < m := by
                rcases hb with y | y
                · omega
                · exact y
              have e2 := of_part hu hk b5 24 v'.2 hr.1 hr.2 hh.2
              have hh2 := hA p' a1 a2 v' hka
              unfold hld at hh2
              rw [if_pos a2, Bool.and_eq_true] at hh2
              have e1 := of_part hu hk a5 24 v'.2 hr.1 hr.2 hh2.2
              have a4 : σ 47 q = σ 45 (4 * σ 48 p'.1 + (e0.1 - 1) % 8) := a4
              have b4 : σ 47 q0 = σ 45 (4 * σ 48 b'.1 + (e0.1 - 1) % 8) := b4
              rw [a4, b4, ← e1, ← e2]
        rw [hs]
        exact ⟨π, ⟨[], rfl⟩, z0, z1, z2⟩
    · obtain ⟨π1, ⟨A0, e1⟩, e2⟩ := ih hS.1 (fun p hp h5 v' hv' => hA p hp h5 v' (kn_mono hS (by
        exact ((hR w hw).2.2 p (by rw [e]; exact List.mem_append_left _ hp)).2.2) hv')) v hv
      exact ⟨π1, ⟨e0 :: A0, by rw [e1]; rfl⟩, e2⟩
