theorem nw_ne {H : e3_H} {a : Int} {φ : Int → Int} {b k : Int} (h : b ≠ a) : e3_nw H a φ b k = H b k := by unfold e3_nw; rw [if_neg h]
theorem nw_at {H : e3_H} {a : Int} {φ : Int → Int} {k : Int} : e3_nw H a φ a k = φ k := by unfold e3_nw; rw [if_pos rfl]
/-- a cell's tag -/
def g_at (G : e3_G) (a : Int) (e : Nat × Nat) : Prop := 0 ≤ a ∧ G[a.toNat]? = some e
theorem ga_app {G E : e3_G} {a : Int} {e : Nat × Nat} (h : g_at G a e) : g_at (G ++ E) a e := by
  refine ⟨h.1, ?_⟩
  have hl : a.toNat < G.length := (List.getElem?_eq_some_iff.mp h.2).1
  rw [List.getElem?_append_left hl]
  exact h.2
theorem ga_lt {G : e3_G} {a : Int} {e : Nat × Nat} (h : g_at G a e) : a < G.length := by
  have hl : a.toNat < G.length := (List.getElem?_eq_some_iff.mp h.2).1
  have := h.1
  omega
theorem ga_new {G E : e3_G} {e : Nat × Nat} : g_at (G ++ e :: E) (G.length : Int) e := by
  refine ⟨by omega, ?_⟩
  rw [show ((G.length : Nat) : Int).toNat = G.length by omega, List.getElem?_append_right (by omega), Nat.sub_self]
  rfl
theorem ga_eq {G : e3_G} {a : Int} {e e2 : Nat × Nat} (h : g_at G a e) (h2 : g_at G a e2) : e = e2 := by
  have := h.2.symm.trans h2.2
  cases this
  rfl
theorem ga_ne {G : e3_G} {a b : Int} {c c2 n n2 : Nat} (h : g_at G a (c, n)) (h2 : g_at G b (c2, n2)) (hn : c ≠ c2) : a ≠ b := by
  intro z
  subst z
  exact hn (Prod.mk.inj (ga_eq h h2)).1
theorem ga_ob {G : e3_G} {a : Int} {c n : Nat} (h : g_at G a (100 + c, n)) : e3_ob G c a := ⟨h.1, n, h.2⟩
theorem ga_oa {G : e3_G} {a i : Int} {c n : Nat} (h : g_at G a (c, n)) (h2 : 2 ≤ a) (hi : 0 ≤ i ∧ i < n) : e3_oa G c a i := ⟨h2, hi.1, n, h.2, hi.2⟩
theorem ga_ln {G : e3_G} {a : Int} {c n : Nat} (h : g_at G a (c, n)) : e3_ln G a = n := by unfold e3_ln; rw [h.2]; rfl
/-- what the heap weighs -/
def gz : e3_G → Int
  | [] => 0
  | e :: l => (e.2 : Int) + 12 + gz l
theorem gz_app (G E : e3_G) : gz (G ++ E) = gz G + gz E := by
  induction G with
  | nil => show gz E = 0 + gz E; omega
  | cons e l ih => show (e.2 : Int) + 12 + gz (l ++ E) = (e.2 : Int) + 12 + gz l + gz E; rw [ih]; omega
theorem gz_one (G : e3_G) (e : Nat × Nat) : gz (G ++ [e]) = gz G + e.2 + 12 := by
  rw [gz_app]
  show gz G + ((e.2 : Int) + 12 + 0) = _
  omega
/-- the byte of a NAME -/
def c_nm (σ : e3_H) (k : Nat) : Int := if b_bit (σ 40 31) k = true then σ 58 (8 * σ 40 27 + k) + 1 else 0
/-- the class's rule as far as NAMES go -/
def c_rl (σ : e3_H) (H : e3_H) (G : e3_G) (ru : Int) : Prop := H 14 7 = ru ∧ 139 ≤ ru ∧ g_at G ru (109, 19) ∧ 139 ≤ H ru 5 ∧ g_at G (H ru 5) (1, 8) ∧ H ru 4 = σ 56 (σ 40 27) ∧ (∀ k : Nat, (k : Int) < σ 56 (σ 40 27) → H (H ru 5) k = a_rn σ k) ∧ H ru 6 = lb (c_nm σ) 8 ∧ a_ds (a_rn σ) (a_nm σ)
theorem c_nm_ok {σ : e3_H} {m : Nat} (hm : m ≤ 24) (hn : nm_inv (σ 40 27) m σ) : lb_ok (c_nm σ) := by
  intro k hk
  unfold c_nm
  by_cases hb : b_bit (σ 40 31) k = true
  · rw [if_pos hb]
    have := hn.2 k (hn.1 k hk hb)
    omega
  · rw [if_neg hb]; omega
section CU
variable {σ H : e3_H} {G : e3_G} {m i : Nat} {ru : Int}
theorem cU_nameNumber {Q : Int → e3_H → e3_G → Prop} {v : Int} (h : c_rl σ H G ru) (h8 : 0 ≤ σ 56 (σ 40 27) ∧ σ 56 (σ 40 27) ≤ 8) (hQ : Q (if a_no σ v < 0 then -1 else a_no σ v) H G) : wU_nameNumber Q ru v H G := by
  obtain ⟨h1, h2, h3, h4, h5, h6, h7, h8', h9⟩ := h
  have ob := ga_ob (c := 9) h3
  have hN : ((a_nm σ : Nat) : Int) = σ 56 (σ 40 27) := by unfold a_nm; omega
  have key : ∀ (f j : Nat), j + f = a_nm σ → (∀ l : Nat, l < j → a_rn σ l ≠ v) → wU_nameNumber_2 Q (f + 1) ru v j H G := by
    intro f
    induction f with
    | zero =>
      intro j hj hne
      refine ⟨ob, brF (by rw [h6]; omega) ?_⟩
      have e : a_no σ v = -4 := by
        unfold a_no
        rcases a_fd_rg (a_rn σ) v (a_nm σ) with he | ⟨x1, x2, x3⟩
        · exact he
        · exact absurd (by rw [Int.toNat_of_nonneg x1]; exact x3) (hne (a_fd (a_rn σ) v (a_nm σ)).toNat (by omega))
      rw [e] at hQ
      exact hQ
    | succ f ih =>
      intro j hj hne
      refine ⟨ob, brT (by rw [h6]; omega) ⟨ob, ga_oa h5 (by omega) (by omega), ?_⟩⟩
      rw [h7 j (by omega)]
      refine ⟨fun hv => ?_, fun hv => ?_⟩
      · have e : a_no σ v = j := a_fd_one h9 (by omega) hv
        rw [e, if_neg (by omega)] at hQ
        exact hQ
      · rw [w_p1 (by omega)]
        exact ih (j + 1) (by omega) (fun l hl => by
          by_cases hlj : l = j
          · subst hlj; exact hv
          · exact hne l (by omega))
  exact ⟨a_nm σ + 1, key (a_nm σ) 0 (by omega) (fun l hl => by omega)⟩
theorem a_no_rg {v : Int} (h8 : 0 ≤ σ 56 (σ 40 27) ∧ σ 56 (σ 40 27) ≤ 8) : a_no σ v = -4 ∨ (0 ≤ a_no σ v ∧ a_no σ v < σ 56 (σ 40 27) ∧ a_rn σ (a_no σ v) = v) := by
  have hN : ((a_nm σ : Nat) : Int) = σ 56 (σ 40 27) := by unfold a_nm; omega
  have := a_fd_rg (a_rn σ) v (a_nm σ)
  unfold a_no
  omega
theorem cU_nameSort {Q : Int → e3_H → e3_G → Prop} {k : Nat} (h : c_rl σ H G ru) (hm : m ≤ 24) (hn : nm_inv (σ 40 27) m σ) (h8 : 0 ≤ σ 56 (σ 40 27) ∧ σ 56 (σ 40 27) ≤ 8) (hk : (k : Int) < σ 56 (σ 40 27)) (hQ : Q (c_nm σ k - 1) H G) : wU_nameSort Q ru k H G := by
  have ob := ga_ob (c := 9) h.2.2.1
  unfold wU_nameSort
  refine brF (by omega) ⟨ob, brT (by rw [h.2.2.2.2.2.1]; exact hk) ⟨ob, ?_⟩⟩
  unfold wU_nameSort_32
  have hB := c_nm_ok hm hn
  have := hB k (by omega)
  rw [h.2.2.2.2.2.2.2.1, lb_get hB (by omega), e3_w32_id (x := c_nm σ k) (by omega) (by omega), e3_w32_id (x := c_nm σ k - 1) (by omega) (by omega)]
  exact hQ
theorem cU_nameFault {Q : Int → e3_H → e3_G → Prop} {s v : Int} (h : c_rl σ H G ru) (hm : m ≤ 24) (hn : nm_inv (σ 40 27) m σ) (h8 : 0 ≤ σ 56 (σ 40 27) ∧ σ 56 (σ 40 27) ≤ 8) (hok : (a_binds σ s v).isSome = true → Q 0 H G) (hfl : a_binds σ s v = none → ∀ c, c ≠ 0 → Q c H G) : wU_nameFault Q ru v H G := by
  have ob := ga_ob (c := 9) h.2.2.1
  have e4 := h.2.2.2.2.2.1
  unfold wU_nameFault
  refine ⟨ob, cU_nameNumber h h8 ?_⟩
  have hr := a_no_rg (σ := σ) (v := v) h8
  unfold a_binds at hok hfl
  by_cases hz : a_no σ v < 0
  · rw [if_pos hz]
    rw [if_pos hz] at hok hfl
    refine brT (by omega) ⟨ob, ?_⟩
    unfold wU_nameFault_25
    rw [e4]
    refine ⟨fun hl => hok ?_, fun hl => hfl ?_ 9 (by decide)⟩
    · rw [if_neg (by omega)]; rfl
    · rw [if_pos (by omega)]
  · rw [if_neg hz]
    rw [if_neg hz] at hok hfl
    refine brF hz ⟨ob, ?_⟩
    have ek : ((a_no σ v).toNat : Int) = a_no σ v := Int.toNat_of_nonneg (by omega)
    rw [← ek]
    refine cU_nameSort (m := m) h hm hn h8 (by omega) ?_
    unfold wU_nameFault_39 c_nm
    by_cases hb : b_bit (σ 40 31) (a_no σ v).toNat = true
    · rw [if_pos hb]
      rw [if_pos hb] at hfl
      have := hn.2 (a_no σ v).toNat (hn.1 _ (by omega) hb)
      exact brF (by omega) (hfl rfl 3 (by decide))
    · rw [if_neg hb]
      rw [if_neg hb] at hok
      exact brT (by omega) (hok rfl)
theorem lb_congr {B C : Nat → Int} (h : ∀ k : Nat, k < 8 → B k = C k) : lb B 8 = lb C 8 := by
  rw [lb8, lb8, h 0 (by omega), h 1 (by omega), h 2 (by omega), h 3 (by omega), h 4 (by omega), h 5 (by omega), h 6 (by omega), h 7 (by omega)]
theorem c_nm_set {σ2 : e3_H} {k : Nat} {s : Int} (hk : k < 8) (h31 : 0 ≤ σ 40 31 ∧ σ 40 31 < 256) (hb : b_bit (σ 40 31) k = false) (e27 : σ2 40 27 = σ 40 27) (e31 : σ2 40 31 = b_set (σ 40 31) k) (e58k : σ2 58 (8 * σ 40 27 + k) = s) (e58 : ∀ j : Nat, j ≠ k → σ2 58 (8 * σ 40 27 + j) = σ 58 (8 * σ 40 27 + j)) : lb (c_nm σ2) 8 = lb (fun j => if j = k then s + 1 else c_nm σ j) 8 ∧ c_nm σ k = 0 := by
  refine ⟨lb_congr (fun j hj => ?_), ?_⟩
  · show c_nm σ2 j = if j = k then s + 1 else c_nm σ j
    unfold c_nm
    rw [e31, e27, b_set_bit h31 hk hj]
    by_cases hjk : j = k
    · subst hjk
      rw [decide_eq_true rfl, Bool.or_true, if_pos rfl, if_pos rfl, e58k]
    · rw [decide_eq_false hjk, Bool.or_false, if_neg hjk, e58 j hjk]
  · unfold c_nm
    rw [hb, if_neg (by decide)]
theorem cU_hold {Q : e3_H → e3_G → Prop} {s v k : Int} {σ2 : e3_H} (h : c_rl σ H G ru) (hm : m ≤ 24) (hn : nm_inv (σ 40 27) m σ) (hp : p_inv σ m i) (hs : 0 ≤ s ∧ s < 3 + m) (hb : a_binds σ s v = some (k, σ2)) (hQ : ∀ K, c_rl σ2 K G ru → (∀ a j : Int, a ≠ ru → a ≠ H ru 5 → K a j = H a j) → (∀ j : Int, j ≠ 4 → j ≠ 6 → K ru j = H ru j) → Q K G) : wU_hold Q ru v s H G := by
  have h8 := hp.2.2.2.1
  have h31 := hp.2.2.2.2.1
  obtain ⟨h1, h2, h3, h4, h5, h6, h7, h8', h9⟩ := id h
  have ob := ga_ob (c := 9) h3
  have hN : ((a_nm σ : Nat) : Int) = σ 56 (σ 40 27) := by unfold a_nm; omega
  have hB := c_nm_ok hm hn
  have har : ru ≠ H ru 5 := ga_ne h3 h5 (by decide)
  unfold wU_hold
  refine ⟨ob, cU_nameNumber h h8 ?_⟩
  have hr := a_no_rg (σ := σ) (v := v) h8
  unfold a_binds at hb
  by_cases hz : a_no σ v < 0
  · rw [if_pos hz]
    rw [if_pos hz] at hb
    by_cases h88 : σ 56 (σ 40 27) = 8
    · rw [if_pos h88] at hb; cases hb
    · rw [if_neg h88] at hb
      have hb1 := Option.some.inj hb
      have ek : σ 56 (σ 40 27) = k := (Prod.mk.inj hb1).1
      have e2 : a_bind1 (a_bind0 σ v) s (a_nm σ) = σ2 := (Prod.mk.inj hb1).2
      refine brT (by omega) ⟨ob, ?_⟩
      rw [h6]
      refine brT (by omega) ⟨ob, ob, ga_oa h5 (by omega) (by omega), ?_⟩
      intro H5 e5
      have u4 : H5 ru 4 = σ 56 (σ 40 27) := by rw [e5, e3_up_ne (by omega)]; exact h6
      refine ⟨ob, ob, ?_⟩
      rw [u4, e3_w32_id (x := σ 56 (σ 40 27) + 1) (by omega) (by omega)]
      intro H9 e9
      unfold wU_hold_45
      refine brF (by omega) ⟨ob, ob, ?_⟩
      have u6 : H9 ru 6 = lb (c_nm σ) 8 := by rw [e9, e5]; simp (disch := omega) only [e3_up_self, e3_up_ne]; exact h8'
      have q27 : σ2 40 27 = σ 40 27 := by rw [← e2]; unfold a_bind1 a_bind0; simp (disch := omega) only [e3_up_self, e3_up_ne]
      have q31 : σ2 40 31 = b_set (σ 40 31) (a_nm σ) := by rw [← e2]; unfold a_bind1 a_bind0; simp (disch := omega) only [e3_up_self, e3_up_ne]
      have q58 : ∀ x, σ2 58 x = if x = 8 * σ 40 27 + σ 56 (σ 40 27) then s else σ 58 x := by
        intro x
        rw [← e2]; unfold a_bind1 a_bind0
        rw [e3_up_ne (by omega), show (e3_up (e3_up σ 56 (σ 40 27) (σ 56 (σ 40 27) + 1)) 57 (8 * σ 40 27 + σ 56 (σ 40 27)) v) 40 27 = σ 40 27 by simp (disch := omega) only [e3_up_self, e3_up_ne], hN]
        by_cases hx : x = 8 * σ 40 27 + σ 56 (σ 40 27)
        · rw [if_pos hx, hx, e3_up_self]
        · rw [if_neg hx, e3_up_ne (by omega), e3_up_ne (by omega), e3_up_ne (by omega)]
      have q56 : σ2 56 (σ 40 27) = σ 56 (σ 40 27) + 1 := by rw [← e2]; unfold a_bind1 a_bind0; simp (disch := omega) only [e3_up_self, e3_up_ne]
      have q57 : ∀ x, σ2 57 x = if x = 8 * σ 40 27 + σ 56 (σ 40 27) then v else σ 57 x := by
        intro x
        rw [← e2]; unfold a_bind1 a_bind0
        rw [e3_up_ne (by omega), e3_up_ne (by omega)]
        by_cases hx : x = 8 * σ 40 27 + σ 56 (σ 40 27)
        · rw [if_pos hx, hx, e3_up_self]
        · rw [if_neg hx, e3_up_ne (by omega), e3_up_ne (by omega)]
      have hbf : b_bit (σ 40 31) (a_nm σ) = false := by
        cases hz2 : b_bit (σ 40 31) (a_nm σ) with
        | false => rfl
        | true => have := hn.1 (a_nm σ) (by omega) hz2; omega
      obtain ⟨c1, c2⟩ := c_nm_set (σ := σ) (σ2 := σ2) (k := a_nm σ) (s := s) (by omega) h31 hbf q27 q31 (by rw [q58, if_pos (by omega)]) (fun j hj => by rw [q58, if_neg (by omega)])
      have er : e3_w64 (s + 1) = s + 1 := e3_w64_id (by omega) (by omega)
      rw [u6, er, ← hN, lb_set hB (by omega) (by omega) c2, ← c1]
      intro H1 e1
      unfold wU_hold_69
      have nm2 : a_nm σ2 = a_nm σ + 1 := by unfold a_nm; rw [q27, q56]; unfold a_nm at hN; omega
      have rn2 : ∀ j : Nat, a_rn σ2 j = if j = a_nm σ then v else a_rn σ j := by
        intro j
        unfold a_rn
        rw [q27, q57]
        by_cases hj : j = a_nm σ
        · rw [if_pos (by omega), if_pos hj]
        · rw [if_neg (by omega), if_neg hj]
      refine hQ H1 ⟨?_, h2, h3, ?_, ?_, ?_, fun j hj => ?_, ?_, ?_⟩ (fun a j ha hb2 => ?_) (fun j j4 j6 => ?_)
      · rw [e1, e9, e5]; simp (disch := omega) only [e3_up_self, e3_up_ne]; exact h1
      · rw [e1, e9, e5]; simp (disch := omega) only [e3_up_self, e3_up_ne]; exact h4
      · rw [e1, e9, e5]; simp (disch := omega) only [e3_up_self, e3_up_ne]; exact h5
      · rw [q27, q56, e1, e9]; simp (disch := omega) only [e3_up_self, e3_up_ne]
      · rw [q27, q56] at hj
        have z5 : H1 ru 5 = H ru 5 := by rw [e1, e9, e5]; simp (disch := omega) only [e3_up_self, e3_up_ne]
        rw [z5, rn2, e1, e3_up_ne (fun z => har z.1.symm), e9, e3_up_ne (fun z => har z.1.symm), e5]
        by_cases hj2 : j = a_nm σ
        · rw [if_pos hj2, hj2, hN, e3_up_self]
        · rw [if_neg hj2, e3_up_ne (by omega)]; exact h7 j (by omega)
      · rw [e1, e3_up_self]
      · rw [nm2]
        intro x y hx hy he
        rw [rn2, rn2] at he
        have hno : ∀ j : Nat, j < a_nm σ → a_rn σ j ≠ v := a_fd_no _ (by have : a_no σ v = -4 := by omega
                                                                         exact this)
        by_cases cx : x = a_nm σ
        · by_cases cy : y = a_nm σ
          · omega
          · rw [if_pos cx, if_neg cy] at he
            exact absurd he.symm (hno y (by omega))
        · by_cases cy : y = a_nm σ
          · rw [if_neg cx, if_pos cy] at he
            exact absurd he (hno x (by omega))
          · rw [if_neg cx, if_neg cy] at he
            exact h9 x y (by omega) (by omega) he
      · rw [e1, e3_up_ne (fun z => ha z.1), e9, e3_up_ne (fun z => ha z.1), e5, e3_up_ne (fun z => hb2 z.1)]
      · rw [e1, e9, e5]; simp (disch := omega) only [e3_up_self, e3_up_ne]
  · rw [if_neg hz]
    rw [if_neg hz] at hb
    by_cases hbt : b_bit (σ 40 31) (a_no σ v).toNat = true
    · rw [if_pos hbt] at hb; cases hb
    · rw [if_neg hbt] at hb
      have hb1 := Option.some.inj hb
      have e2 : a_bind1 σ s (a_no σ v).toNat = σ2 := (Prod.mk.inj hb1).2
      have hbf : b_bit (σ 40 31) (a_no σ v).toNat = false := by
        cases hz2 : b_bit (σ 40 31) (a_no σ v).toNat with
        | false => rfl
        | true => exact absurd hz2 hbt
      have ekk : ((a_no σ v).toNat : Int) = a_no σ v := Int.toNat_of_nonneg (by omega)
      refine brF hz ?_
      unfold wU_hold_45
      refine brF hz ⟨ob, ob, ?_⟩
      have q27 : σ2 40 27 = σ 40 27 := by rw [← e2]; unfold a_bind1; simp (disch := omega) only [e3_up_self, e3_up_ne]
      have q31 : σ2 40 31 = b_set (σ 40 31) (a_no σ v).toNat := by rw [← e2]; unfold a_bind1; simp (disch := omega) only [e3_up_self, e3_up_ne]
      have q58 : ∀ x, σ2 58 x = if x = 8 * σ 40 27 + a_no σ v then s else σ 58 x := by
        intro x
        rw [← e2]; unfold a_bind1
        rw [e3_up_ne (by omega), ekk]
        by_cases hx : x = 8 * σ 40 27 + a_no σ v
        · rw [if_pos hx, hx, e3_up_self]
        · rw [if_neg hx, e3_up_ne (by omega)]
      have q56 : σ2 56 = σ 56 := by funext x; rw [← e2]; unfold a_bind1; simp (disch := omega) only [e3_up_self, e3_up_ne]
      have q57 : σ2 57 = σ 57 := by funext x; rw [← e2]; unfold a_bind1; simp (disch := omega) only [e3_up_self, e3_up_ne]
      obtain ⟨c1, c2⟩ := c_nm_set (σ := σ) (σ2 := σ2) (k := (a_no σ v).toNat) (s := s) (by omega) h31 hbf q27 q31 (by rw [q58, if_pos (by omega)]) (fun j hj => by rw [q58, if_neg (by omega)])
      have er : e3_w64 (s + 1) = s + 1 := e3_w64_id (by omega) (by omega)
      rw [h8', er, ← ekk, lb_set hB (by omega) (by omega) c2, ← c1]
      intro H1 e1
      unfold wU_hold_69
      have nm2 : a_nm σ2 = a_nm σ := by unfold a_nm; rw [q27, q56]
      have rn2 : a_rn σ2 = a_rn σ := by unfold a_rn; rw [q27, q57]
      refine hQ H1 ⟨?_, h2, h3, ?_, ?_, ?_, fun j hj => ?_, ?_, ?_⟩ (fun a j ha hb2 => ?_) (fun j j4 j6 => ?_)
      · rw [e1, e3_up_ne (by omega)]; exact h1
      · rw [e1, e3_up_ne (by omega)]; exact h4
      · rw [e1, e3_up_ne (by omega)]; exact h5
      · rw [q27, q56, e1, e3_up_ne (by omega)]; exact h6
      · rw [q27, q56] at hj
        have z5 : H1 ru 5 = H ru 5 := by rw [e1, e3_up_ne (by omega)]
        rw [z5, rn2, e1, e3_up_ne (fun z => har z.1.symm)]
        exact h7 j hj
      · rw [e1, e3_up_self]
      · rw [nm2, rn2]; exact h9
      · rw [e1, e3_up_ne (fun z => ha z.1)]
      · rw [e1, e3_up_ne (by omega)]
end CU
