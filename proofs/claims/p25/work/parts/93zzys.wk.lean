/-- does a label lead on -/
def ldb (s l : Int) (e : Int × Int) : Bool := if s = 0 then decide (l ≤ e.2) else if s = 2 then decide (l = e.2) || decide (e.2 = -1) else decide (l = e.2)
/-- the first label that leads on -/
def fnd (s l : Int) : List (Int × Int) → Nat → Option (Nat × Int × Int)
  | [], _ => none
  | e :: L, i => if ldb s l e = true then some (i, e) else fnd s l L (i + 1)
theorem fnd_at {s l : Int} : ∀ (L : List (Int × Int)) (i0 i : Nat) (e : Int × Int), fnd s l L i0 = some (i, e) → ∃ j : Nat, i = i0 + j ∧ L[j]? = some e ∧ ldb s l e = true := by
  intro L
  induction L with
  | nil => intro i0 i e h; cases h
  | cons a L ih =>
    intro i0 i e h
    have h : (if ldb s l a = true then some (i0, a) else fnd s l L (i0 + 1)) = some (i, e) := h
    by_cases z : ldb s l a = true
    · rw [if_pos z] at h
      cases h
      exact ⟨0, rfl, rfl, z⟩
    · rw [if_neg z] at h
      obtain ⟨j, j1, j2, j3⟩ := ih (i0 + 1) i e h
      exact ⟨j + 1, by omega, j2, j3⟩
theorem fnd_pts {l : Int} : ∀ (C : List Int) (a : Int) (i0 i : Nat) (e : Int × Int), a ≤ l → fnd 0 l (pts a C) i0 = some (i, e) → e.1 ≤ l := by
  intro C
  induction C with
  | nil =>
    intro a i0 i e ha h
    have h : (if ldb 0 l (a, 2147483647) = true then some (i0, ((a, 2147483647) : Int × Int)) else none) = some (i, e) := h
    split at h
    · cases h; exact ha
    · cases h
  | cons c C ih =>
    intro a i0 i e ha h
    have h : (if ldb 0 l (a, c) = true then some (i0, ((a, c) : Int × Int)) else fnd 0 l (pts (c + 1) C) (i0 + 1)) = some (i, e) := h
    split at h
    · cases h; exact ha
    · rename_i z
      refine ih (c + 1) _ i e ?_ h
      unfold ldb at z
      rw [if_pos rfl, decide_eq_true_eq] at z
      have z : ¬ (l ≤ c) := z
      omega
/-- a test holds for the label of a VALUE -/
def ftm (σ : e3_H) (m : Nat) (q l : Int) : Prop := hld σ q l = true ∧ (σ 46 q = 5 → l < (m : Int))
/-- what a path says of a letter -/
def PV (σ : e3_H) (m : Nat) (R : a_RW) (M : e3_H) (π : a_PT) : Prop := ∀ w, w ∈ R → lv σ w π = true → ∀ p, p ∈ w.2 → (kn π p.2).isSome = true → ftm σ m p.1 (M 28 (vt M p.2))
theorem PV_nil {σ : e3_H} {m : Nat} {R : a_RW} {M : e3_H} : PV σ m R M [] := fun w _ _ p _ h => absurd h Bool.false_ne_true
theorem lv_tl {σ : e3_H} {w : Int × List (Int × Int)} {e : Int × Int × Int} {π : a_PT} (h : lv σ w (e :: π) = true) : lv σ w π = true ∧ ok1 σ w e = true := by
  have h : (lv σ w π && ok1 σ w e) = true := h
  rw [Bool.and_eq_true] at h
  exact h
theorem kn_ne {e : Int × Int × Int} {π : a_PT} {x : Int} (h : e.1 ≠ x) : kn (e :: π) x = kn π x := by
  show (if e.1 = x then some e.2 else kn π x) = kn π x
  rw [if_neg h]
theorem kn_mo {e : Int × Int × Int} {π : a_PT} {x : Int} (h : (kn π x).isSome = true) : (kn (e :: π) x).isSome = true := by
  show (if e.1 = x then some e.2 else kn π x).isSome = true
  split
  · rfl
  · exact h
/-- ahead of a place that is known its upper one is known -/
theorem SP_cl {σ : e3_H} {m : Nat} {R : a_RW} : ∀ (π : a_PT), SP σ m R π → ∀ x : Int, 1 ≤ x → (kn π x).isSome = true → (x - 1) / 8 = 0 ∨ (kn π ((x - 1) / 8)).isSome = true := by
  intro π
  induction π with
  | nil => intro _ x _ h; exact absurd h Bool.false_ne_true
  | cons e π ih =>
    intro hS x hx h
    obtain ⟨h1, h2⟩ := hS
    by_cases z : e.1 = x
    · rcases h2 with ⟨y, _⟩ | ⟨_, y, _⟩
      · omega
      · unfold ask at y
        rw [Bool.and_eq_true, Bool.or_eq_true, z] at y
        rcases y.2 with u | u
        · exact Or.inl (of_decide_eq_true u)
        · exact Or.inr (kn_mo u)
    · rw [kn_ne z] at h
      rcases ih h1 x hx h with u | u
      · exact Or.inl u
      · exact Or.inr (kn_mo u)
section PVS
variable {σ M : e3_H} {m : Nat} {f : Int} {R : a_RW} {π : a_PT}
theorem PV_gd {r : Int} (hR : RT σ f R) (h : PV σ m R M π) : PV σ m R M ((0, r, r) :: π) := fun w hw hl p hp hk => by
  have p1 := ((hR w hw).2.2 p hp).2.2
  rw [kn_ne (e := (0, r, r)) (show (0 : Int) ≠ p.2 by omega)] at hk
  exact h w hw (lv_tl hl).1 p hp hk
theorem lab_ft {x q l : Int} {v : Int × Int} {w : Int × List (Int × Int)} (hm : m ≤ 24) (hR : RT σ f R) (hw : w ∈ R) (hl : lv σ w π = true) (hq : (q, x) ∈ w.2) (hv : v ∈ lbs σ m R π x (σ 47 q)) (hs : ∀ w, w ∈ R → lv σ w π = true → ∀ q', (q', x) ∈ w.2 → σ 47 q' = σ 47 q) (hb : ldb (σ 47 q) l v = true) (h0 : σ 47 q = 0 → v.1 ≤ l) (h : hld σ q v.2 = true) : ftm σ m q l := by
  obtain ⟨n1, n2, _⟩ := (hR w hw).2.2 (q, x) hq
  have n1 : nod σ q := n1
  have n2 : σ 46 q ≠ 0 ∧ σ 46 q ≠ 6 := n2
  have ho := lbs_ok hR hv hs n1.1 hm
  by_cases a1 : σ 46 q = 1
  · have b1 := n1.2.1 a1
    have hh := hld_hr hR hw hl hq hv hs h
    unfold hr at hh
    rw [if_pos a1, Bool.and_eq_true] at hh
    have c1 := of_decide_eq_true hh.1
    have c2 := of_decide_eq_true hh.2
    unfold ldb at hb
    rw [if_pos b1.1] at hb
    have c3 := of_decide_eq_true hb
    have c4 := h0 b1.1
    refine ⟨?_, fun z => by omega⟩
    unfold hld
    rw [if_neg (by omega)]
    have e1 : c_lo σ q = σ 48 q := by unfold c_lo; rw [if_pos (by omega)]
    have e2 : c_hi σ q = σ 49 q := by unfold c_hi; rw [if_pos a1]
    rw [e1, e2, decide_eq_true (by omega), decide_eq_true (by omega)]
    rfl
  · by_cases a3 : σ 46 q = 3
    · have b3 := n1.2.2.2.1 a3
      unfold ldb at hb
      rw [if_neg (by omega), if_pos b3.1, Bool.or_eq_true] at hb
      have e : l = v.2 := by
        rcases hb with y | y
        · exact of_decide_eq_true y
        · have y := of_decide_eq_true y
          unfold hld at h
          rw [if_neg (by omega), Bool.and_eq_true] at h
          have d1 := of_decide_eq_true h.1
          have d2 := of_decide_eq_true h.2
          have e1 : c_lo σ q = σ 50 q := by unfold c_lo; rw [if_neg (by omega), if_pos a3]
          have e2 : c_hi σ q = σ 50 q := by unfold c_hi; rw [if_neg a1]; exact e1
          rw [e1] at d1
          rw [e2] at d2
          have := b3.2.1
          omega
      rw [e]
      exact ⟨h, fun z => by omega⟩
    · have s0 : σ 47 q ≠ 0 ∧ σ 47 q ≠ 2 := by
        obtain ⟨y1, y2, y3, y4⟩ := nod_0 n1 n2
        exact ⟨fun z => a1 (y1 z), fun z => a3 (y3 z)⟩
      unfold ldb at hb
      rw [if_neg s0.1, if_neg s0.2] at hb
      have e := of_decide_eq_true hb
      rw [e]
      refine ⟨h, fun z => ?_⟩
      have := (n1.2.2.2.2.2.1 z).1
      rcases ho.2.1 this with y | y
      · omega
      · exact y.2
theorem PV_st {x s : Int} {v : Int × Int} (hm : m ≤ 24) (hR : RT σ f R) (h : PV σ m R M π) (hv : v ∈ lbs σ m R π x s) (hs : ∀ w, w ∈ R → lv σ w π = true → ∀ q', (q', x) ∈ w.2 → σ 47 q' = s) (hx : 1 ≤ x) (hb : ldb s (M 28 (vt M x)) v = true) (h0 : s = 0 → v.1 ≤ M 28 (vt M x)) : PV σ m R M ((x, v.1, v.2) :: π) := fun w hw hl p hp hk => by
  obtain ⟨l1, l2⟩ := lv_tl hl
  by_cases z : x = p.2
  · subst z
    have t := tq_of w.2 p (hR w hw).1 hp
    have hh : hld σ p.1 v.2 = true := by
      unfold ok1 at l2
      rw [if_neg (show ¬ ((p.2, v.1, v.2) : Int × Int × Int).1 = 0 by show ¬ p.2 = 0; omega)] at l2
      have l2 : (match tq w.2 p.2 with
        | none => true
        | some q => hld σ q v.2) = true := l2
      rw [t] at l2
      exact l2
    have e := hs w hw l1 p.1 hp
    subst e
    exact lab_ft (x := p.2) hm hR hw l1 hp hv hs hb h0 hh
  · rw [kn_ne (e := (x, v.1, v.2)) z] at hk
    exact h w hw l1 p hp hk
theorem cho_none {way : Int} : ∀ (T : List (Int × Int)) (t : Nat) (c : Option (Int × Int)) (b : Int), cho σ m R π way T t c b = none → c = none ∧ ∀ p, p ∈ T → ask π p.2 = false := by
  intro T
  induction T with
  | nil => intro t c b h; exact ⟨h, fun p hp => absurd hp (List.not_mem_nil)⟩
  | cons a T ih =>
    intro t c b h
    have h : (if ask π a.2 = true ∧ (c = none ∨ b < wor σ m R π way a.1 a.2 t) then cho σ m R π way T (t + 1) (some a) (wor σ m R π way a.1 a.2 t) else cho σ m R π way T (t + 1) c b) = none := h
    split at h
    · have := (ih _ _ _ h).1
      cases this
    · rename_i z
      obtain ⟨i1, i2⟩ := ih _ _ _ h
      refine ⟨i1, fun p hp => ?_⟩
      rcases List.mem_cons.mp hp with y | y
      · rw [y]
        cases hz : ask π a.2 with
        | false => rfl
        | true => exact absurd ⟨hz, Or.inl i1⟩ z
      · exact i2 p y
/-- nothing is left to ask for: all places of the row are known -/
theorem all_kn {V : List (Int × Int)} (hq : VQ σ f V) (hn : ∀ p, p ∈ tl σ V → ask π p.2 = false) : ∀ (n : Nat) (p : Int × Int), p.2 < (n : Int) → p ∈ tl σ V → (kn π p.2).isSome = true := by
  intro n
  induction n with
  | zero => intro p h hp; have := (hq.2 p (tl_mem.mp hp).1).1; omega
  | succ n ih =>
    intro p h hp
    have hp2 := tl_mem.mp hp
    obtain ⟨A, B, e⟩ := List.append_of_mem hp2.1
    have up : (p.2 - 1) / 8 = 0 ∨ (kn π ((p.2 - 1) / 8)).isSome = true := by
      rcases (hq.1 A p B e).2 with ⟨⟨c0, c1, c3⟩, _⟩ | ⟨p', i, h1, h2, h3, ⟨i0, i1, i3⟩, _⟩
      · exact Or.inl (by omega)
      · have hm : p' ∈ V := by rw [e]; exact List.mem_append_left _ h1
        have pl := hq.2 p' hm
        have ey : (p.2 - 1) / 8 = p'.2 := by omega
        rw [ey]
        exact Or.inr (ih p' (by omega) (tl_mem.mpr ⟨hm, by omega, by omega⟩))
    have ha := hn p hp
    unfold ask at ha
    cases hz : kn π p.2 with
    | some v => rfl
    | none =>
      exfalso
      rw [hz] at ha
      rcases up with u | u
      · rw [decide_eq_true u, Bool.true_or] at ha
        exact absurd (show true = false from ha) (by decide)
      · rw [u, Bool.or_true] at ha
        exact absurd (show true = false from ha) (by decide)
/-- where a row asks, a VALUE of the SORT is there -/
theorem tst_ok {V : List (Int × Int)} (hT : TV σ m M) (hA : ∀ i : Int, 0 ≤ i → i < σ 68 f → oks M (M 135 i) (σ 69 (3 * f + i))) (hq : VQ σ f V) (hk : ∀ p, p ∈ V → σ 46 p.1 = 5 → (kn π p.2).isSome = true → hld σ p.1 (M 28 (vt M p.2)) = true) (hcl : ∀ x : Int, 1 ≤ x → (kn π x).isSome = true → (x - 1) / 8 = 0 ∨ (kn π ((x - 1) / 8)).isSome = true) : ∀ (n : Nat) (p : Int × Int), p.2 < (n : Int) → p ∈ V → ((p.2 - 1) / 8 = 0 ∨ (kn π ((p.2 - 1) / 8)).isSome = true) → oks M (vt M p.2) (σ 47 p.1) ∧ ∀ k : Nat, p.2 < 8 ^ k → vok M k p.2 := by
  intro n
  induction n with
  | zero => intro p h hp; have := (hq.2 p hp).1; omega
  | succ n ih =>
    intro p h hp hu
    obtain ⟨A, B, e⟩ := List.append_of_mem hp
    have p1 := hq.2 p hp
    rcases (hq.1 A p B e).2 with ⟨⟨c0, c1, c3⟩, c2⟩ | ⟨p', i, h1, h2, h3, ⟨i0, i1, i3⟩, h5⟩
    · refine ⟨by rw [vt_col M (by omega), c2]; exact hA _ c0 c1, fun k hk => ?_⟩
      cases k with
      | zero => rw [Int.pow_zero] at hk; omega
      | succ k => exact Or.inl ⟨by omega, c0, by omega⟩
    · have hm : p' ∈ V := by rw [e]; exact List.mem_append_left _ h1
      have pl := hq.2 p' hm
      have ey : (p.2 - 1) / 8 = p'.2 := by omega
      have ei : (p.2 - 1) % 8 = i := by omega
      have hs : (kn π p'.2).isSome = true := by
        rcases hu with u | u
        · omega
        · rw [← ey]; exact u
      obtain ⟨ok', vk'⟩ := ih p' (by omega) hm (hcl p'.2 pl.1 hs)
      obtain ⟨A1, B1, e'⟩ := List.append_of_mem hm
      have nd := (hq.1 A1 p' B1 e').1
      have s3 : 3 ≤ σ 47 p'.1 := (nd.2.2.2.2.2.1 h2).1
      have fp : 0 ≤ M 28 (vt M p'.2) ∧ a_of (σ 43) (σ 48 p'.1) 24 (M 28 (vt M p'.2)) = true := by
        have z := hk p' hm h2 hs
        unfold hld at z
        rw [if_pos h2] at z
        have z := Bool.and_eq_true _ _ ▸ z
        exact ⟨of_decide_eq_true z.1, z.2⟩
      obtain ⟨hV, hk2, hKP, e43, e45, e12, h8⟩ := id hT
      rcases (oks_wh hT ok').2 s3 with ⟨_, z⟩ | ⟨z1, z2, z3⟩
      · omega
      · have el := of_part hk2.2.2.2.1 hKP (by omega) 24 _ z2.1 z2.2 fp.2
        have pt := (oks_part hV ok'.1 z1 (i := i) ⟨i0, by rw [z3, el]; exact i1⟩).1
        refine ⟨?_, fun k hk3 => ?_⟩
        · rw [h3, vt_ch M (by omega) (by omega), h5, ← e45, ← el]
          exact pt
        · cases k with
          | zero => rw [Int.pow_zero] at hk3; omega
          | succ k =>
            rw [Int.pow_succ] at hk3
            refine Or.inr ⟨by omega, by rw [ey]; exact vk' k (by omega), ?_⟩
            rw [ey, ei]
            exact ⟨ok'.1, z1, by rw [z3, el]; exact i1⟩
end PVS
theorem hld_AK {mt : Nat} {σt σ : e3_H} (h : AK mt σt σ) (hu : a_up (σt 43) mt) {q l : Int} (hf : ftm σt mt q l) : hld σ q l = true := by
  obtain ⟨h1, h2⟩ := hf
  have e46 := h.1 46 q (by decide)
  have e48 := h.1 48 q (by decide)
  have e49 := h.1 49 q (by decide)
  have e50 := h.1 50 q (by decide)
  unfold hld c_hi c_lo at h1 ⊢
  rw [e46, e48, e49, e50]
  by_cases z : σt 46 q = 5
  · rw [if_pos z] at h1 ⊢
    have h1 := Bool.and_eq_true _ _ ▸ h1
    have l0 := of_decide_eq_true h1.1
    rw [a_of_eq hu (fun k hk => h.2.1 43 k (by decide) (by decide) (by omega) (by omega)) 24 l (h2 z), decide_eq_true l0, Bool.true_and]
    exact h1.2
  · rw [if_neg z] at h1 ⊢
    exact h1
/-- what guards ask of NAMES -/
def tmP (σ : e3_H) (r k : Int) : Prop := σ 75 (4 * r + k) = 2 → 0 ≤ σ 76 (4 * r + k) ∧ σ 76 (4 * r + k) < σ 56 r ∧ σ 58 (8 * r + σ 76 (4 * r + k)) = 0
def GDP (σ : e3_H) (r : Int) : Prop := σ 78 r ≠ 0 → ∀ d : Int, d = 0 ∨ d = 1 → tmP σ r (2 * d) ∧ (σ 77 (2 * r + d) ≠ 0 → tmP σ r (2 * d + 1))
theorem GDP_of {σ H : e3_H} {r ru : Int} (h : c_gd σ r H ru) : GDP σ r := fun z d hd => by
  have h2 : (σ 78 r = 60 ∨ σ 78 r = 61 ∨ σ 78 r = 62) ∧ c_sm σ r H ru 0 ∧ c_sm σ r H ru 1 := h.2.resolve_left z
  have tm : ∀ k : Int, c_tm σ r H ru k → tmP σ r k := fun k t y => by
    rcases t with ⟨_, _, t1, t2, t3⟩ | ⟨t1, _⟩
    · exact ⟨t1, t2, t3⟩
    · omega
  have hs : c_sm σ r H ru d := by
    rcases hd with y | y
    · rw [y]; exact h2.2.1
    · rw [y]; exact h2.2.2
  obtain ⟨s1, _, s3⟩ := hs
  refine ⟨tm _ s1, fun y => ?_⟩
  rcases s3 with ⟨u, _⟩ | ⟨_, u⟩
  · exact absurd u y
  · exact tm _ u
theorem gdv_cg {σ : e3_H} {T T2 : Int → Int} {r : Int} (h : ∀ d : Int, d = 0 ∨ d = 1 → T (4 * r + 2 * d) = T2 (4 * r + 2 * d) ∧ (σ 77 (2 * r + d) ≠ 0 → T (4 * r + 2 * d + 1) = T2 (4 * r + 2 * d + 1))) : gdv σ T r = gdv σ T2 r := by
  have ht : ∀ d : Int, d = 0 ∨ d = 1 → thr σ T r d = thr σ T2 r d := fun d hd => by
    unfold thr
    by_cases z : σ 77 (2 * r + d) = 0
    · rw [z, decide_eq_false (show ¬ (0 : Int) = 47 by decide), decide_eq_false (show ¬ (0 : Int) = 37 by decide)]
      rfl
    · rw [(h d hd).2 z]
  have hs : ∀ d : Int, d = 0 ∨ d = 1 → smv σ T r d = smv σ T2 r d := fun d hd => by
    unfold smv
    rw [(h d hd).1]
    by_cases z : σ 77 (2 * r + d) = 0
    · rw [if_pos z, if_pos z]
    · rw [(h d hd).2 z]
  unfold gdv
  rw [ht 0 (Or.inl rfl), ht 1 (Or.inr rfl), hs 0 (Or.inl rfl), hs 1 (Or.inr rfl)]
/-- a term's number, by NAMES -/
def tvp (σ M : e3_H) (B : Int → Int) (i : Int) : Int := if σ 75 i = 2 then M 28 (B (σ 76 i)) else σ 76 i
theorem gd_c {σ M K : e3_H} {B : Int → Int} {r : Int} (hg : GDP σ r) (hz : σ 78 r ≠ 0) (h36 : ∀ k : Int, 0 ≤ k → k < σ 56 r → K 36 k = B k) (h28 : ∀ k : Int, K 28 k = M 28 k) : gdv σ (tvc σ K) r = gdv σ (tvp σ M B) r := gdv_cg (fun d hd => by
  obtain ⟨g1, g2⟩ := hg hz d hd
  have key : ∀ k : Int, tmP σ r k → tvc σ K (4 * r + k) = tvp σ M B (4 * r + k) := fun k t => by
    unfold tvc tvp
    by_cases z : σ 75 (4 * r + k) = 2
    · obtain ⟨t1, t2, _⟩ := t z
      rw [if_pos z, if_pos z, h36 _ t1 t2, h28]
    · rw [if_neg z, if_neg z]
  refine ⟨key _ g1, fun z => ?_⟩
  have := key _ (g2 z)
  rw [show 4 * r + (2 * d + 1) = 4 * r + 2 * d + 1 by omega] at this
  exact this)
theorem gd_m {σ M K : e3_H} {B : Int → Int} {r : Int} (hg : GDP σ r) (hz : σ 78 r ≠ 0) (h136 : ∀ k : Int, 0 ≤ k → k < σ 56 r → K 136 k = B k) (hV : ∀ k : Int, 0 ≤ k → k < σ 56 r → σ 58 (8 * r + k) = 0 → K 129 (B k) = M 28 (B k)) : gdv σ (tvl σ K) r = gdv σ (tvp σ M B) r := gdv_cg (fun d hd => by
  obtain ⟨g1, g2⟩ := hg hz d hd
  have key : ∀ k : Int, tmP σ r k → tvl σ K (4 * r + k) = tvp σ M B (4 * r + k) := fun k t => by
    unfold tvl tvp
    by_cases z : σ 75 (4 * r + k) = 2
    · obtain ⟨t1, t2, t3⟩ := t z
      rw [if_pos z, if_pos z, h136 _ t1 t2, hV _ t1 t2 t3]
    · rw [if_neg z, if_neg z]
  refine ⟨key _ g1, fun z => ?_⟩
  have := key _ (g2 z)
  rw [show 4 * r + (2 * d + 1) = 4 * r + 2 * d + 1 by omega] at this
  exact this)
/-- NAMES hold VALUES of their SORTS -/
theorem nB_ok {σ M : e3_H} {r : Int} {V : List (Int × Int)} (hN : NV1 σ r V) (hV : ∀ p, p ∈ V → oks M (vt M p.2) (σ 47 p.1)) (n : Nat) (hn : (n : Int) < σ 56 r) : oks M (nB σ M V n) (σ 58 (8 * r + n)) := by
  obtain ⟨p, p1, _, p3, p4⟩ := nm_last σ M (fun x => x) n (by omega) V 0 (fun _ => 0) (hN.1 n hn)
  have e : nB σ M V n = vt M p.2 := p3
  rw [e]
  have key : ∀ a : Int, a = 53 ∨ a = 54 → σ a p.1 = (n : Int) → σ 58 (8 * r + n) = σ 47 p.1 := fun a ha z => by
    obtain ⟨n', _, q1, _, q3⟩ := hN.2 p a p1 ha (by omega)
    have : n' = n := by omega
    rw [this] at q3
    exact q3
  rcases p4 with z | z
  · rw [key 53 (Or.inl rfl) z]; exact hV p p1
  · rw [key 54 (Or.inr rfl) z]; exact hV p p1
/-- a node of a tree, by its path -/
theorem gr_nd {σ : e3_H} {m : Nat} {R : a_RW} {way : Int} {k : Nat} {π : a_PT} {d : a_ND} {N' : List a_ND} (h : gr σ m R way k π (d :: N')) : d.2.2.2.2.1 = lab π ∧ (fst σ π R 0 = none → d.1 = 0 ∧ d.2.1 = -1) ∧ ∀ (i : Nat) (r : Int) (T : List (Int × Int)), fst σ π R 0 = some (i, r, T) → (cho σ m R π way T 0 none 0 = none → d.1 = (if σ 78 r = 0 then 1 else 2) ∧ d.2.1 = (i : Int)) ∧ ∀ q x : Int, cho σ m R π way T 0 none 0 = some (q, x) → d.1 = ndo (σ 47 q) ∧ d.2.1 = -1 ∧ d.2.2.1 = x := by
  cases k with
  | zero => exact h.elim
  | succ k =>
    unfold gr at h
    split at h
    · rename_i hf
      obtain ⟨h1, _⟩ := List.cons.inj h
      rw [h1]
      exact ⟨rfl, fun _ => ⟨rfl, rfl⟩, fun i r T z => by rw [hf] at z; cases z⟩
    · rename_i i r T hf
      split at h
      · rename_i hc
        rcases h with ⟨h1, h⟩ | ⟨h1, N1, _, h⟩
        · obtain ⟨h2, _⟩ := List.cons.inj h
          rw [h2]
          refine ⟨rfl, fun z => (by rw [hf] at z; cases z), fun i' r' T' z => ?_⟩
          rw [hf] at z
          cases z
          refine ⟨fun _ => ⟨by rw [if_pos h1], rfl⟩, fun q x y => by rw [hc] at y; cases y⟩
        · obtain ⟨h2, _⟩ := List.cons.inj h
          rw [h2]
          refine ⟨rfl, fun z => (by rw [hf] at z; cases z), fun i' r' T' z => ?_⟩
          rw [hf] at z
          cases z
          refine ⟨fun _ => ⟨by rw [if_neg h1], rfl⟩, fun q x y => by rw [hc] at y; cases y⟩
      · rename_i q x hc
        obtain ⟨N1, _, h⟩ := h
        obtain ⟨h2, _⟩ := List.cons.inj h
        rw [h2]
        refine ⟨rfl, fun z => (by rw [hf] at z; cases z), fun i' r' T' z => ?_⟩
        rw [hf] at z
        cases z
        refine ⟨fun y => (by rw [hc] at y; cases y), fun q' x' y => ?_⟩
        rw [hc] at y
        cases y
        exact ⟨rfl, rfl, rfl⟩
/-- the trees behind a node -/
theorem gr_kid {σ : e3_H} {m : Nat} {R : a_RW} {way : Int} {k : Nat} {π : a_PT} {N : List a_ND} (h : gr σ m R way (k + 1) π N) : ∀ v, v ∈ kds σ m R way π → ∃ N1, gr σ m R way k (v.1 :: π) N1 := by
  have gg : ∀ (g : a_PT → List a_ND → Prop) (x : Int) (l : List (Int × Int)) (N : List a_ND), grs g π x l N → ∀ e, e ∈ l → ∃ N1, g ((x, e.1, e.2) :: π) N1 := by
    intro g x l
    induction l with
    | nil => intro N _ e he; exact absurd he (List.not_mem_nil)
    | cons a l ih =>
      intro N h e he
      obtain ⟨A, B, _, h1, h2⟩ := h
      rcases List.mem_cons.mp he with z | z
      · rw [z]; exact ⟨A, h1⟩
      · exact ih B h2 e z
  intro v hv
  unfold gr at h
  unfold kds at hv
  split at h
  · rename_i hf
    rw [hf] at hv
    exact absurd hv (List.not_mem_nil)
  · rename_i i r T hf
    rw [hf] at hv
    simp only at hv
    split at h
    · rename_i hc
      rw [hc] at hv
      simp only at hv
      rcases h with ⟨h1, h⟩ | ⟨h1, N1, h2, h⟩
      · rw [if_pos h1] at hv
        exact absurd hv (List.not_mem_nil)
      · rw [if_neg h1] at hv
        rw [List.mem_singleton.mp hv]
        exact ⟨N1, h2⟩
    · rename_i q x hc
      rw [hc] at hv
      simp only at hv
      obtain ⟨N1, h1, _⟩ := h
      obtain ⟨e, e1, e2⟩ := List.mem_map.mp hv
      rw [← e2]
      exact gg _ x _ N1 h1 e e1
/-- how sorting by a tree goes: how it ends (0 a rule, 1 no rule, 2 no branch, 3 a guard that divides by 0), the row, how many were asked, the rules whose guards were asked for -/
def wk (σ : e3_H) (m : Nat) (R : a_RW) (way : Int) (M : e3_H) (Vr : Nat → List (Int × Int)) : Nat → a_PT → Int × Nat × Nat × List Int
  | 0, _ => (1, 0, 0, [])
  | k + 1, π => match fst σ π R 0 with
    | none => (1, 0, 0, [])
    | some (i, r, T) => match cho σ m R π way T 0 none 0 with
      | none => if σ 78 r = 0 then (0, i, 0, []) else if gdv σ (tvp σ M (nB σ M (Vr i))) r = 1 then (0, i, 0, [r]) else if gdv σ (tvp σ M (nB σ M (Vr i))) r = 2 then (3, i, 0, [r]) else ((wk σ m R way M Vr k ((0, r, r) :: π)).1, (wk σ m R way M Vr k ((0, r, r) :: π)).2.1, (wk σ m R way M Vr k ((0, r, r) :: π)).2.2.1, r :: (wk σ m R way M Vr k ((0, r, r) :: π)).2.2.2)
      | some (q, x) => match fnd (σ 47 q) (M 28 (vt M x)) (lbs σ m R π x (σ 47 q)) 0 with
        | none => (2, 0, 1, [])
        | some (_, e) => ((wk σ m R way M Vr k ((x, e.1, e.2) :: π)).1, (wk σ m R way M Vr k ((x, e.1, e.2) :: π)).2.1, (wk σ m R way M Vr k ((x, e.1, e.2) :: π)).2.2.1 + 1, (wk σ m R way M Vr k ((x, e.1, e.2) :: π)).2.2.2)
