/-- the node that tells of a place -/
def sc : List (Int × Int) → Int → Int → Int
  | [], _, a => a
  | p :: L, x, a => sc L x (if p.1 = x then p.2 else a)
theorem kn_spl {x : Int} {v : Int × Int} {π1 : a_PT} : ∀ A : a_PT, kn (A ++ (x, v.1, v.2) :: π1) x ≠ none := by
  intro A
  induction A with
  | nil =>
    show kn ((x, v.1, v.2) :: π1) x ≠ none
    unfold kn
    rw [if_pos rfl]
    intro h
    cases h
  | cons e A ih =>
    show kn (e :: (A ++ (x, v.1, v.2) :: π1)) x ≠ none
    unfold kn
    split
    · intro h; cases h
    · exact ih
section KLS
variable {σ K : e3_H} {m : Nat} {R : a_RW}
theorem KL_eq {K2 : e3_H} (h : ∀ a k : Int, 111 ≤ a → a ≤ 114 → K2 a k = K a k) : ∀ (π : a_PT) (L : List (Int × Int)), KL σ R K π L → KL σ R K2 π L := by
  have e4 : ∀ n, lb4 K2 n = lb4 K n := fun n => by unfold lb4; rw [h 111 n (by decide) (by decide), h 112 n (by decide) (by decide), h 113 n (by decide) (by decide), h 114 n (by decide) (by decide)]
  intro π
  induction π with
  | nil => intro L h; exact h
  | cons e π ih =>
    intro L h
    rcases h with ⟨h1, h2⟩ | ⟨h1, n, L', h2, h3, h4, h5⟩
    · exact Or.inl ⟨h1, ih L h2⟩
    · exact Or.inr ⟨h1, n, L', h2, h3, by rw [e4]; exact h4, ih L' h5⟩
theorem KL_none {x : Int} (hx : 1 ≤ x) : ∀ (π : a_PT) (L : List (Int × Int)) (a : Int), kn π x = none → KL σ R K π L → sc L x a = a := by
  intro π
  induction π with
  | nil => intro L a _ h; have h : L = [] := h; rw [h]; rfl
  | cons e π ih =>
    intro L a hk h
    unfold kn at hk
    split at hk
    · cases hk
    · rename_i hz
      rcases h with ⟨h1, h2⟩ | ⟨h1, n, L', h2, h3, h4, h5⟩
      · exact ih L a hk h2
      · rw [h2]
        show sc L' x (if e.1 = x then n else a) = a
        rw [if_neg hz]
        exact ih L' a hk h5
theorem KL_some {x : Int} {v : Int × Int} (hx : 1 ≤ x) : ∀ (π : a_PT) (L : List (Int × Int)) (a : Int), SP σ m R π → kn π x = some v → KL σ R K π L → ∃ n, sc L x a = n ∧ (0 ≤ n ∧ n < 3900) ∧ ∀ (A0 π1 : a_PT), π = A0 ++ (x, v.1, v.2) :: π1 → LBQ σ R (x, v.1, v.2) π1 (lb4 K n) := by
  intro π
  induction π with
  | nil => intro L a _ h; cases h
  | cons e π ih =>
    intro L a hS hk h
    unfold kn at hk
    split at hk
    · rename_i hz
      cases hk
      rcases h with ⟨h1, h2⟩ | ⟨h1, n, L', h2, h3, h4, h5⟩
      · omega
      · have hn : kn π x = none := by
          rcases hS.2 with ⟨z, _⟩ | ⟨_, z, _⟩
          · omega
          · unfold ask at z
            rw [Bool.and_eq_true, hz] at z
            cases hk : kn π x with
            | none => rfl
            | some v => rw [hk] at z; exact absurd z.1 (fun y => by cases y)
        refine ⟨n, ?_, h3, fun A0 π1 e1 => ?_⟩
        · rw [h2]
          show sc L' x (if e.1 = x then n else a) = n
          rw [if_pos hz]
          exact KL_none hx π L' n hn h5
        · cases A0 with
          | nil =>
            have e1 : e :: π = (x, e.2.1, e.2.2) :: π1 := e1
            obtain ⟨e2, e3⟩ := List.cons.inj e1
            rw [← e3, ← e2]
            exact h4
          | cons e' A0 =>
            have e1 : e :: π = e' :: (A0 ++ (x, e.2.1, e.2.2) :: π1) := e1
            obtain ⟨e2, e3⟩ := List.cons.inj e1
            rw [e3] at hn
            exact absurd hn (kn_spl (v := e.2) A0)
    · rename_i hz
      have fin : ∀ (L : List (Int × Int)) (a : Int), KL σ R K π L → ∃ n, sc L x a = n ∧ (0 ≤ n ∧ n < 3900) ∧ ∀ (A0 π1 : a_PT), e :: π = A0 ++ (x, v.1, v.2) :: π1 → LBQ σ R (x, v.1, v.2) π1 (lb4 K n) := fun L a h2 => by
        obtain ⟨n, n1, n2, n3⟩ := ih L a hS.1 hk h2
        refine ⟨n, n1, n2, fun A0 π1 e1 => ?_⟩
        cases A0 with
        | nil =>
          have e1 : e :: π = (x, v.1, v.2) :: π1 := e1
          obtain ⟨e2, e3⟩ := List.cons.inj e1
          exact absurd (by rw [e2]) hz
        | cons e' A0 =>
          have e1 : e :: π = e' :: (A0 ++ (x, v.1, v.2) :: π1) := e1
          obtain ⟨e2, e3⟩ := List.cons.inj e1
          exact n3 A0 π1 e3
      rcases h with ⟨h1, h2⟩ | ⟨h1, n, L', h2, h3, h4, h5⟩
      · exact fin L a h2
      · rw [h2]
        show ∃ n', sc L' x (if e.1 = x then n else a) = n' ∧ _
        rw [if_neg hz]
        exact fin L' a h5
end KLS
section MST
variable {Q : Int → e3_H → e3_G → Prop} {σ K : e3_H} {G : e3_G} {m : Nat} {R : a_RW} {f : Int}
/-- does a test stand -/
theorem cM_stands {t q x : Int} {π : a_PT} {L : List (Int × Int)} (ht : 0 ≤ t ∧ t < 33000) (h89 : K 89 t = σ 46 q) (h90 : K 90 t = x) (h91 : K 91 t = q) (hq : 0 ≤ q ∧ q < 1700) (hx : 1 ≤ x) (hA : KA L K) (hL : L.length ≤ 300) (hKL : KL σ R K π L) (htb : tb σ K) (hS : SP σ m R π) (hR : RT σ f R) (hk : k_inv σ m) (hn : nod σ q) (hn2 : σ 46 q ≠ 0 ∧ σ 46 q ≠ 6)
    (hSO : ∀ v, kn π x = some v → ∃ π1, (∃ A0 : a_PT, π = A0 ++ (x, v.1, v.2) :: π1) ∧ 0 ≤ σ 47 q ∧ v ∈ lbs σ m R π1 x (σ 47 q) ∧ (∀ w, w ∈ R → lv σ w π1 = true → ∀ q', (q', x) ∈ w.2 → σ 47 q' = σ 47 q))
    (q0 : kn π x = none → Q 0 K G) (q1 : ∀ v, kn π x = some v → hr σ q v = true → Q 1 K G) (q2 : ∀ v, kn π x = some v → hr σ q v = false → Q 2 K G) : wM_stands Q t K G := by
  have hm24 := hk.2.1
  have s46 : ∀ a k : Int, a = 46 ∨ a = 48 ∨ a = 49 ∨ a = 50 → K a k = σ a k := fun a k ha => htb a k (by omega) (by omega) (by omega)
  have fin : wM_stands_5 Q 1 t (sc L x (-4)) L.length K G := by
    refine brF (by rw [hA.1]; omega) ?_
    cases hkn : kn π x with
    | none =>
      rw [KL_none hx π L (-4) hkn hKL]
      exact brT rfl (q0 hkn)
    | some v =>
      obtain ⟨n, n1, n2, n3⟩ := KL_some (m := m) hx π L (-4) hS hkn hKL
      obtain ⟨π1, ⟨A0, s0⟩, s1, s2, s3⟩ := hSO v hkn
      have hlab := n3 A0 π1 s0 (σ 47 q) s3
      have hlab : lb4 K n = enc (σ 47 q) v := hlab
      have ok := lbs_ok hR s2 s3 s1 hm24
      unfold lb4 enc at hlab
      have yes : hr σ q v = true → Q 1 K G := q1 v hkn
      have no : hr σ q v = false → Q 2 K G := q2 v hkn
      rw [n1]
      refine brF (by omega) ⟨ht, ht, ?_⟩
      rw [h89, h91]
      have h46 := hn.2.2.2.2.2.2
      refine ⟨fun h1 => ?_, fun h1 => ?_, fun h1 => ?_, fun h1 => ?_, fun h1 => ?_⟩
      · have hb := hn.2.1 h1
        rw [if_pos hb.1] at hlab
        have l1 : K 111 n = v.1 := congrArg (·.1) hlab
        have l2 : K 112 n = v.2 := congrArg (·.2.1) hlab
        unfold hr at yes no
        rw [if_pos h1] at yes no
        refine ⟨n2, hq, ?_⟩
        rw [l1, s46 48 q (by omega)]
        refine ⟨fun h2 => ?_, fun h2 => ⟨n2, hq, ?_⟩⟩
        · exact brT rfl (no (by rw [decide_eq_false (by omega), Bool.false_and]))
        · rw [l2, s46 49 q (by omega)]
          refine ⟨fun h3 => ?_, fun h3 => ?_⟩
          · exact brT rfl (no (by rw [decide_eq_false (show ¬ (v.2 ≤ σ 49 q) by omega), Bool.and_false]))
          · exact brF (by decide) (yes (by rw [decide_eq_true (by omega), decide_eq_true (by omega)]; rfl))
      · have hb := hn.2.2.1 h1
        rw [if_neg (by omega), if_pos hb.1] at hlab
        have l1 : K 111 n = v.2 := congrArg (·.1) hlab
        have e1 : c_lo σ q = σ 48 q := by unfold c_lo; rw [if_pos (by omega)]
        have e2 : c_hi σ q = σ 48 q := by unfold c_hi; rw [if_neg (by omega)]; exact e1
        unfold hr hld at yes no
        rw [if_neg (by omega), if_neg (by omega), e1, e2] at yes no
        refine ⟨n2, hq, ?_⟩
        rw [l1, s46 48 q (by omega)]
        refine ⟨fun h2 => ?_, fun h2 => ?_⟩
        · exact brF (by decide) (yes (by rw [decide_eq_true (by omega), decide_eq_true (by omega)]; rfl))
        · refine brT rfl (no ?_)
          by_cases h3 : σ 48 q ≤ v.2
          · rw [decide_eq_false (show ¬ (v.2 ≤ σ 48 q) by omega), Bool.and_false]
          · rw [decide_eq_false h3, Bool.false_and]
      · have hb := hn.2.2.2.1 h1
        rw [if_neg (by omega), if_neg (by omega), if_pos hb.1] at hlab
        have e1 : c_lo σ q = σ 50 q := by unfold c_lo; rw [if_neg (by omega), if_pos h1]
        have e2 : c_hi σ q = σ 50 q := by unfold c_hi; rw [if_neg (by omega)]; exact e1
        unfold hr hld at yes no
        rw [if_neg (by omega), if_neg (by omega), e1, e2] at yes no
        refine ⟨n2, ?_⟩
        by_cases hv : v.2 = -1
        · rw [if_pos hv] at hlab
          have l4 : K 114 n = 1 := congrArg (·.2.2.2) hlab
          refine brF (by rw [l4]; decide) (brT rfl (no ?_))
          by_cases h3 : σ 50 q ≤ v.2
          · rw [decide_eq_false (show ¬ (v.2 ≤ σ 50 q) by omega), Bool.and_false]
          · rw [decide_eq_false h3, Bool.false_and]
        · rw [if_neg hv] at hlab
          have l4 : K 114 n = 0 := congrArg (·.2.2.2) hlab
          have l3 : K 113 n = v.2 := congrArg (·.2.2.1) hlab
          refine brT l4 ⟨n2, hq, ?_⟩
          rw [l3, s46 50 q (by omega)]
          refine ⟨fun h2 => ?_, fun h2 => ?_⟩
          · exact brF (by decide) (yes (by rw [decide_eq_true (by omega), decide_eq_true (by omega)]; rfl))
          · refine brT rfl (no ?_)
            by_cases h3 : σ 50 q ≤ v.2
            · rw [decide_eq_false (show ¬ (v.2 ≤ σ 50 q) by omega), Bool.and_false]
            · rw [decide_eq_false h3, Bool.false_and]
      · have hb := hn.2.2.2.2.1 h1
        rw [if_neg (by omega), if_neg (by omega), if_neg (by omega)] at hlab
        have e1 : c_lo σ q = -1 := by unfold c_lo; rw [if_neg (by omega), if_neg (by omega), if_pos h1]
        have e2 : c_hi σ q = -1 := by unfold c_hi; rw [if_neg (by omega)]; exact e1
        unfold hr hld at yes no
        rw [if_neg (by omega), if_neg (by omega), e1, e2] at yes no
        refine ⟨n2, ?_⟩
        by_cases hv : v.2 = -1
        · rw [if_pos hv] at hlab
          have l1 : K 111 n = -4 := congrArg (·.1) hlab
          exact brT l1 (brF (by decide) (yes (by rw [decide_eq_true (by omega), decide_eq_true (by omega)]; rfl)))
        · rw [if_neg hv] at hlab
          have l1 : K 111 n = v.2 := congrArg (·.1) hlab
          have := ok.2.1 hb
          refine brF (by omega) (brT rfl (no ?_))
          rw [decide_eq_false (show ¬ (v.2 ≤ -1) by omega), Bool.and_false]
      · have h5 : σ 46 q = 5 := by omega
        have hb := hn.2.2.2.2.2.1 h5
        rw [if_neg (by omega), if_neg (by omega), if_neg (by omega)] at hlab
        unfold hr hld at yes no
        rw [if_neg (by omega), if_pos h5] at yes no
        refine ⟨n2, ?_⟩
        by_cases hv : v.2 = -1
        · rw [if_pos hv] at hlab
          have l1 : K 111 n = -4 := congrArg (·.1) hlab
          refine brT l1 (brT rfl (no ?_))
          rw [decide_eq_false (show ¬ (0 ≤ v.2) by omega), Bool.false_and]
        · rw [if_neg hv] at hlab
          have l1 : K 111 n = v.2 := congrArg (·.1) hlab
          have hv2 := ok.2.1 hb.1
          have e43 : K 43 = σ 43 := funext fun k => htb 43 k (by decide) (by decide) (by decide)
          refine brF (by omega) ⟨n2, hq, ?_⟩
          rw [l1, s46 48 q (by omega)]
          rw [show v.2 = ((v.2.toNat : Nat) : Int) by omega] at yes no ⊢
          refine cM_isOf (m := m) hm24 (by rw [e43]; exact hk.2.2.2.1) (by omega) hb.2.1 (fun h6 => ?_) (fun h6 => ?_)
          · rw [e43] at h6
            exact brF (by decide) (brF (by decide) (yes (by rw [h6, decide_eq_true (by omega)]; rfl)))
          · rw [e43] at h6
            exact brT rfl (brT rfl (no (by rw [h6, Bool.and_false])))
  have key : ∀ (L2 L1 : List (Int × Int)) (a : Int), L = L1 ++ L2 → sc L2 x a = sc L x (-4) → wM_stands_5 Q (L2.length + 1) t a L1.length K G := by
    intro L2
    induction L2 with
    | nil =>
      intro L1 a e e2
      rw [List.append_nil] at e
      subst e
      have e2 : a = sc L x (-4) := e2
      rw [e2]
      exact fin
    | cons p L2 ih =>
      intro L1 a e e2
      have hlen : L.length = L1.length + (L2.length + 1) := by rw [e, List.length_append]; rfl
      have hget : L[L1.length]? = some p := by rw [e, List.getElem?_append_right (Nat.le_refl _), Nat.sub_self]; rfl
      obtain ⟨g1, g2⟩ := hA.2 L1.length p hget
      have next : ∀ a', a' = (if p.1 = x then p.2 else a) → wM_stands_38 Q (fun l1 l2 l3 H G => wM_stands_5 Q (L2.length + 1) l1 l2 l3 H G) t L1.length a' K G := fun a' ha' => by
        show wM_stands_5 Q (L2.length + 1) t a' (e3_w32 ((L1.length : Int) + 1)) K G
        rw [e3_w32_id (by omega) (by omega)]
        have := ih (L1 ++ [p]) a' (by rw [List.append_assoc]; exact e) (by rw [ha']; exact e2)
        rw [List.length_append] at this
        exact this
      refine brT (by rw [hA.1]; omega) ⟨by omega, ht, ?_⟩
      rw [g1, g2, h90]
      refine ⟨fun h => ⟨by omega, next _ (by rw [if_pos h])⟩, fun h => next _ (by rw [if_neg h])⟩
  exact ⟨L.length + 1, key L [] (-4) rfl rfl⟩
end MST
