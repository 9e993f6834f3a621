/-- the class looks at TOKEN i -/
def c_tk (t : Int → Int) (n s i : Nat) (H : e3_H) : Prop := H 3 5 = s ∧ s ≤ 1601 ∧ x_toks t n s H ∧ (∀ j, j + 1 < s → x_nf t n j) ∧ ¬ x_nf t n (s - 1) ∧ x_at s i H
def x_C (H K : e3_H) : Prop := x_A [3] H K ∧ ∀ k : Int, k < 6 → K 3 k = H 3 k
theorem x_C_tr {H K K2 : e3_H} (h : x_C H K) (h2 : x_C K K2) : x_C H K2 := ⟨x_A_tr1 h.1 h2.1, fun k hk => (h2.2 k hk).trans (h.2 k hk)⟩
theorem x_C_rf (H : e3_H) : x_C H H := ⟨x_A_rf _ _, fun _ _ => rfl⟩
def c_flt (pl : Int) (H K : e3_H) : Prop := K 14 4 ≠ 0 ∧ K 14 5 = pl ∧ (∀ k : Int, k ≠ 4 → k ≠ 5 → K 14 k = H 14 k) ∧ x_A [14] H K
section CK
variable {H : e3_H} {G : e3_G} {n s i : Nat} {t : Int → Int}
theorem c_now (h : c_tk t n s i H) : H 3 7 = x_ty t n i ∧ H 3 8 = x_sp t n i ∧ H 3 9 = x_wo t n i := by
  obtain ⟨h1, h2, h3, h4, h5, h6, h7, h8, h9, h10⟩ := h
  obtain ⟨a, b, c⟩ := h3 i h7
  exact ⟨by rw [h8, a], by rw [h9, b], by rw [h10, c]⟩
theorem c_lt (h : c_tk t n s i H) (hf : x_nf t n i) : i + 1 < s := by
  obtain ⟨h1, h2, h3, h4, h5, h6, h7, h8, h9, h10⟩ := h
  by_cases hc : i + 1 < s
  · exact hc
  · exfalso
    have : i = s - 1 := by omega
    rw [← this] at h5
    exact h5 hf
theorem c_tk_C {K : e3_H} (h : c_tk t n s i H) (hC : x_A [3] H K) (h3 : ∀ k : Int, k < 6 → K 3 k = H 3 k) {i2 : Nat} (ha : x_at s i2 K) : c_tk t n s i2 K := by
  obtain ⟨h1, h2, hh, h4, h5, h6⟩ := h
  refine ⟨by rw [h3 5 (by omega), h1], h2, ?_, h4, h5, ha⟩
  intro j hj
  rw [hC 5 j (by decide), hC 6 j (by decide), hC 7 j (by decide)]
  exact hh j hj
theorem cT_stp {Q : e3_H → e3_G → Prop} (h : c_tk t n s i H) (hf : x_nf t n i) (hQ : ∀ K, c_tk t n s (i + 1) K → x_C H K → Q K G) : wT_step Q H G := by
  have hlt := c_lt h hf
  refine cT_step h.1 h.2.1 h.2.2.2.2.2.1 (by omega) (fun K _ ha hA hk => hQ K (c_tk_C h hA hk ha) ⟨hA, hk⟩) (fun z => absurd hlt z)
/-- a memory that differs outside the TOKENS -/
theorem c_tk_A {K : e3_H} {l : List Int} (h : c_tk t n s i H) (hA : x_A l H K) (hl : (3 : Int) ∉ l ∧ (5 : Int) ∉ l ∧ (6 : Int) ∉ l ∧ (7 : Int) ∉ l) : c_tk t n s i K := by
  obtain ⟨h1, h2, h3, h4, h5, h6, h7, h8, h9, h10⟩ := h
  refine ⟨by rw [hA 3 5 hl.1, h1], h2, ?_, h4, h5, by rw [hA 3 6 hl.1, h6], h7, by rw [hA 3 7 hl.1, hA 5 i hl.2.1, h8], by rw [hA 3 8 hl.1, hA 6 i hl.2.2.1, h9], by rw [hA 3 9 hl.1, hA 7 i hl.2.2.2, h10]⟩
  intro j hj
  rw [hA 5 j hl.2.1, hA 6 j hl.2.2.1, hA 7 j hl.2.2.2]
  exact h3 j hj
theorem c_flt_up {c pl : Int} (hc : c ≠ 0) : c_flt pl H (e3_up (e3_up H 14 4 c) 14 5 pl) := by
  refine ⟨?_, e3_up_self _ _ _ _, ?_, ?_⟩
  · rw [e3_up_ne (by omega), e3_up_self]; exact hc
  · intro k h4 h5
    rw [e3_up_ne (by omega), e3_up_ne (by omega)]
  · intro a k ha
    simp only [List.mem_cons, List.not_mem_nil, or_false] at ha
    rw [e3_up_ne (by omega), e3_up_ne (by omega)]
theorem cR_failHere {Q : Int → e3_H → e3_G → Prop} {c : Int} (h : c_tk t n s i H) (hc : c ≠ 0) (hQ : ∀ K, c_flt (x_sp t n i) H K → Q 0 K G) : wR_failHere Q c H G := by
  have e8 := (c_now h).2.1
  unfold wR_failHere wR_failHere_19
  refine ⟨fun _ H1 e1 H2 e2 => ?_, fun _ H1 e1 H2 e2 => ?_⟩
  · refine hQ H2 ?_
    rw [e2, e1, e3_up_ne (by omega), e8]
    exact c_flt_up (by decide)
  · refine hQ H2 ?_
    rw [e2, e1, e3_up_ne (by omega), e8]
    exact c_flt_up hc
theorem cR_failAt {Q : Int → e3_H → e3_G → Prop} {c pl : Int} (hc : c ≠ 0) (hQ : ∀ K, c_flt pl H K → Q 0 K G) : wR_failAt Q c pl H G := by
  unfold wR_failAt
  intro H1 e1 H2 e2
  refine hQ H2 ?_
  rw [e2, e1]
  exact c_flt_up hc
theorem cR_expect {Q : Int → e3_H → e3_G → Prop} {c : Int} (h : c_tk t n s i H) (hc : c ≠ 256 ∧ c ≠ 257) (h1 : x_ty t n i = c → ∀ K, c_tk t n s (i + 1) K → x_C H K → Q 1 K G) (h2 : x_ty t n i ≠ c → ∀ K, c_flt (x_sp t n i) H K → Q 0 K G) : wR_expect Q c H G := by
  unfold wR_expect
  rw [(c_now h).1]
  refine ⟨fun he => cT_stp h ⟨by omega, by omega⟩ (h1 he), fun he => cR_failHere h (by decide) (fun K hK => ⟨Or.inl rfl, h2 he K hK⟩)⟩
end CK
/-- the last place with a value, -4: none -/
def a_fd (f : Int → Int) (v : Int) : Nat → Int
  | 0 => -4
  | k + 1 => if f k = v then k else a_fd f v k
theorem a_fd_rg (f : Int → Int) (v : Int) : ∀ k : Nat, a_fd f v k = -4 ∨ (0 ≤ a_fd f v k ∧ a_fd f v k < k ∧ f (a_fd f v k) = v) := by
  intro k
  induction k with
  | zero => exact Or.inl rfl
  | succ k ih =>
    by_cases h : f k = v
    · have e : a_fd f v (k + 1) = k := by show (if f k = v then (k : Int) else _) = _; rw [if_pos h]
      rw [e]
      exact Or.inr ⟨by omega, by omega, h⟩
    · have e : a_fd f v (k + 1) = a_fd f v k := by show (if f k = v then (k : Int) else _) = _; rw [if_neg h]
      rw [e]
      rcases ih with h1 | ⟨h1, h2, h3⟩
      · exact Or.inl h1
      · exact Or.inr ⟨h1, by omega, h3⟩
theorem a_fd_no {f : Int → Int} {v : Int} : ∀ k : Nat, a_fd f v k = -4 → ∀ j : Nat, j < k → f j ≠ v := by
  intro k
  induction k with
  | zero => intro _ j hj; omega
  | succ k ih =>
    intro h j hj
    by_cases hk : f k = v
    · have e : a_fd f v (k + 1) = k := by show (if f k = v then (k : Int) else _) = _; rw [if_pos hk]
      rw [e] at h
      omega
    · have e : a_fd f v (k + 1) = a_fd f v k := by show (if f k = v then (k : Int) else _) = _; rw [if_neg hk]
      rw [e] at h
      by_cases hjk : j = k
      · subst hjk; exact hk
      · exact ih h j (by omega)
theorem a_fd_congr {f g : Int → Int} {v : Int} : ∀ k : Nat, (∀ j : Nat, j < k → f j = g j) → a_fd f v k = a_fd g v k := by
  intro k
  induction k with
  | zero => intro _; rfl
  | succ k ih =>
    intro h
    show (if f k = v then (k : Int) else a_fd f v k) = (if g k = v then (k : Int) else a_fd g v k)
    rw [h k (by omega), ih (fun j hj => h j (by omega))]
def a_ds (f : Int → Int) (k : Nat) : Prop := ∀ j l : Nat, j < k → l < k → f j = f l → j = l
theorem a_fd_one {f : Int → Int} {v : Int} {k j : Nat} (hd : a_ds f k) (hj : j < k) (hv : f j = v) : a_fd f v k = j := by
  rcases a_fd_rg f v k with h | ⟨h1, h2, h3⟩
  · exact absurd hv (a_fd_no k h j hj)
  · have h4 : f ((a_fd f v k).toNat : Int) = v := by rw [Int.toNat_of_nonneg h1]; exact h3
    have := hd j (a_fd f v k).toNat hj (by omega) (by rw [hv, h4])
    omega
def a_sl (f : Int → Int) (u : Int) : Nat → Bool
  | 0 => false
  | k + 1 => a_sl f u k || decide (f k = u)
theorem a_sl_iff (f : Int → Int) (u : Int) : ∀ k : Nat, a_sl f u k = true ↔ ∃ j : Nat, j < k ∧ f j = u := by
  intro k
  induction k with
  | zero => exact ⟨fun h => (by cases h), fun ⟨j, hj, _⟩ => by omega⟩
  | succ k ih =>
    show (a_sl f u k || decide (f k = u)) = true ↔ _
    rw [Bool.or_eq_true, ih, decide_eq_true_eq]
    refine ⟨fun h => ?_, fun ⟨j, hj, hu⟩ => ?_⟩
    · rcases h with ⟨j, hj, hu⟩ | h
      · exact ⟨j, by omega, hu⟩
      · exact ⟨k, by omega, h⟩
    · by_cases hjk : j = k
      · subst hjk; exact Or.inr hu
      · exact Or.inl ⟨j, by omega, hu⟩
/-- is it, or is it UNDER it: by the way up -/
def a_of (f : Int → Int) (o : Int) : Nat → Int → Bool
  | 0, _ => false
  | k + 1, j => if j < 0 then false else if j = o then true else a_of f o k (f j)
/-- each came under one ahead of it, or under none -/
def a_up (f : Int → Int) (m : Nat) : Prop := ∀ k : Nat, k < m → f k = -4 ∨ (0 ≤ f k ∧ f k < k)
section CK2
variable {H : e3_H} {G : e3_G} {m : Nat}
theorem cK_find {Q : Int → e3_H → e3_G → Prop} {v : Int} (hm : H 8 0 = (m : Int)) (hm2 : m ≤ 24) (hd : a_ds (H 9) m) (hQ : Q (if a_fd (H 9) v m < 0 then -1 else a_fd (H 9) v m) H G) : wK_find Q v H G := by
  have key : ∀ (f j : Nat), j + f = m → (∀ l : Nat, l < j → H 9 l ≠ v) → wK_find_2 Q (f + 1) v j H G := by
    intro f
    induction f with
    | zero =>
      intro j hj hne
      refine brF (by rw [hm]; omega) ?_
      have : a_fd (H 9) v m = -4 := by
        rcases a_fd_rg (H 9) v m with h | ⟨h1, h2, h3⟩
        · exact h
        · exact absurd (by rw [Int.toNat_of_nonneg h1]; exact h3) (hne (a_fd (H 9) v m).toNat (by omega))
      rw [this] at hQ
      exact hQ
    | succ f ih =>
      intro j hj hne
      refine brT (by rw [hm]; omega) ⟨⟨by omega, by omega⟩, ?_⟩
      by_cases hv : H 9 j = v
      · refine brT hv ?_
        rw [a_fd_one hd (by omega) hv, if_neg (by omega)] at hQ
        exact hQ
      · refine brF hv ?_
        rw [w_p1 (by omega)]
        exact ih (j + 1) (by omega) (fun l hl => by
          by_cases hlj : l = j
          · subst hlj; exact hv
          · exact hne l (by omega))
  exact ⟨m + 1, key m 0 (by omega) (fun l hl => by omega)⟩
theorem cM_kindOf {Q : Int → e3_H → e3_G → Prop} {v : Int} (hm : H 40 10 = (m : Int)) (hm2 : m ≤ 24) (hQ : Q (a_fd (H 42) v m) H G) : wM_kindOf Q v H G := by
  have key : ∀ (f j : Nat), j + f = m → wM_kindOf_6 Q (f + 1) v (a_fd (H 42) v j) j H G := by
    intro f
    induction f with
    | zero =>
      intro j hj
      have : j = m := by omega
      subst this
      exact brF (by rw [hm]; omega) hQ
    | succ f ih =>
      intro j hj
      refine brT (by rw [hm]; omega) ⟨⟨by omega, by omega⟩, ?_⟩
      have h := ih (j + 1) (by omega)
      by_cases hv : H 42 j = v
      · refine brT hv ?_
        unfold wM_kindOf_33
        rw [w_p1 (by omega)]
        have e : a_fd (H 42) v (j + 1) = j := by show (if H 42 j = v then (j : Int) else _) = _; rw [if_pos hv]
        rw [e] at h
        exact h
      · refine brF hv ?_
        unfold wM_kindOf_33
        rw [w_p1 (by omega)]
        have e : a_fd (H 42) v (j + 1) = a_fd (H 42) v j := by show (if H 42 j = v then (j : Int) else _) = _; rw [if_neg hv]
        rw [e] at h
        exact h
  exact ⟨m + 1, key m 0 (by omega)⟩
theorem cM_isSealed {Q : Int → e3_H → e3_G → Prop} {u : Int} (hm : H 40 10 = (m : Int)) (hm2 : m ≤ 24) (h1 : a_sl (H 43) u m = true → Q 1 H G) (h0 : a_sl (H 43) u m = false → Q 0 H G) : wM_isSealed Q u H G := by
  have key : ∀ (f j : Nat), j + f = m → wM_isSealed_4 Q (f + 1) u (if a_sl (H 43) u j = true then 1 else 0) j H G := by
    intro f
    induction f with
    | zero =>
      intro j hj
      have : j = m := by omega
      subst this
      refine brF (by rw [hm]; omega) ?_
      cases hs : a_sl (H 43) u j with
      | true => exact ⟨Or.inr rfl, h1 hs⟩
      | false => exact ⟨Or.inl rfl, h0 hs⟩
    | succ f ih =>
      intro j hj
      refine brT (by rw [hm]; omega) ?_
      have h := ih (j + 1) (by omega)
      have e : a_sl (H 43) u (j + 1) = (a_sl (H 43) u j || decide (H 43 j = u)) := rfl
      rw [e] at h
      cases hs : a_sl (H 43) u j with
      | true =>
        rw [hs] at h
        refine brF (by decide) ?_
        unfold wM_isSealed_26 wM_isSealed_31
        rw [w_p1 (by omega)]
        exact h
      | false =>
        rw [hs] at h
        refine brT rfl ⟨⟨by omega, by omega⟩, ?_⟩
        by_cases hu : H 43 j = u
        · refine brT hu ?_
          unfold wM_isSealed_26 wM_isSealed_31
          rw [w_p1 (by omega)]
          simp only [hu, decide_true, Bool.or_true, if_true] at h
          exact h
        · refine brF hu ?_
          unfold wM_isSealed_31
          rw [w_p1 (by omega)]
          simp only [hu, decide_false, Bool.or_false, Bool.false_eq_true, if_false] at h
          exact h
  exact ⟨m + 1, key m 0 (by omega)⟩
theorem a_of_neg {f : Int → Int} {o : Int} {k : Nat} {j : Int} (h : j < 0) : a_of f o k j = false := by
  cases k with
  | zero => rfl
  | succ k => show (if j < 0 then false else _) = false; rw [if_pos h]
/-- enough fuel is enough -/
theorem a_of_fu {f : Int → Int} {o : Int} (hu : a_up f m) : ∀ (j : Nat), j < m → ∀ k : Nat, j + 1 ≤ k → a_of f o k j = a_of f o (j + 1) j := by
  intro j
  induction j using Nat.strongRecOn with
  | _ j ih =>
    intro hj k hk
    obtain ⟨k2, rfl⟩ : ∃ k2, k = k2 + 1 := ⟨k - 1, by omega⟩
    show (if (j : Int) < 0 then false else if (j : Int) = o then true else a_of f o k2 (f j)) = (if (j : Int) < 0 then false else if (j : Int) = o then true else a_of f o j (f j))
    rcases hu j hj with h | ⟨h1, h2⟩
    · rw [h, a_of_neg (by omega), a_of_neg (by omega)]
    · obtain ⟨l, hl⟩ : ∃ l : Nat, f j = l := ⟨(f j).toNat, by omega⟩
      rw [hl] at h1 h2 ⊢
      rw [ih l (by omega) (by omega) k2 (by omega), ih l (by omega) (by omega) j (by omega)]
theorem cM_isOf {Q : Int → e3_H → e3_G → Prop} {o : Int} {k : Nat} (hm2 : m ≤ 24) (hu : a_up (H 43) m) (hk : k < m) (ho : 0 ≤ o) (h1 : a_of (H 43) o 24 k = true → Q 1 H G) (h0 : a_of (H 43) o 24 k = false → Q 0 H G) : wM_isOf Q k o H G := by
  rw [a_of_fu hu k hk 24 (by omega)] at h1 h0
  have neg : ∀ (f : Nat) (j : Int), j < 0 → Q 0 H G → wM_isOf_2 Q (f + 1) o j H G := by
    intro f j hj hQ
    refine brT hj ?_
    unfold wM_isOf_21 wM_isOf_31
    exact brF (by omega) ⟨Or.inl rfl, hQ⟩
  have key : ∀ (k : Nat), k < m → (a_of (H 43) o (k + 1) k = true → Q 1 H G) → (a_of (H 43) o (k + 1) k = false → Q 0 H G) → wM_isOf_2 Q (k + 2) o k H G := by
    intro k
    induction k using Nat.strongRecOn with
    | _ k ih =>
      intro hk h1 h0
      show wM_isOf_2 Q (k + 1 + 1) o k H G
      have e : a_of (H 43) o (k + 1) k = (if (k : Int) < 0 then false else if (k : Int) = o then true else a_of (H 43) o k (H 43 k)) := rfl
      rw [if_neg (by omega)] at e
      refine brF (by omega) ?_
      by_cases hko : (k : Int) = o
      · rw [if_pos hko] at e
        refine brT hko ?_
        unfold wM_isOf_21 wM_isOf_31
        exact brT hko ⟨Or.inr rfl, h1 e⟩
      · rw [if_neg hko] at e
        refine brF hko ⟨⟨by omega, by omega⟩, ?_⟩
        rcases hu k hk with h | ⟨h2, h3⟩
        · rw [h] at e ⊢
          rw [a_of_neg (j := -4) (by omega)] at e
          exact neg k _ (by omega) (h0 e)
        · obtain ⟨l, hl⟩ : ∃ l : Nat, H 43 k = l := ⟨(H 43 k).toNat, by omega⟩
          rw [hl] at e h2 h3 ⊢
          rw [a_of_fu hu l (by omega) k (by omega)] at e
          have h4 := ih l (by omega) (by omega) (fun z => h1 (by rw [e]; exact z)) (fun z => h0 (by rw [e]; exact z))
          have wid : ∀ (f g : Nat) (j : Int), wM_isOf_2 Q f o j H G → wM_isOf_2 Q (f + g) o j H G := by
            intro f
            induction f with
            | zero => intro g j h; exact h.elim
            | succ f ihf =>
              intro g j h
              rw [show f + 1 + g = (f + g) + 1 by omega]
              exact ⟨h.1, fun a => ⟨(h.2 a).1, fun b => ⟨((h.2 a).2 b).1, ihf g _ ((h.2 a).2 b).2⟩⟩⟩
          have h5 := wid (l + 2) (k - 1 - l) l h4
          rw [show l + 2 + (k - 1 - l) = k + 1 by omega] at h5
          exact h5
  exact ⟨k + 2, key k hk h1 h0⟩
theorem cK_isOrUnder {Q : Int → e3_H → e3_G → Prop} {o : Int} {g : Int → Int} {k : Nat} (hm : H 8 0 = (m : Int)) (hm2 : m ≤ 24) (hu : a_up g m) (hg : ∀ j : Nat, j < m → H 10 j = if g j < 0 then -1 else g j) (hk : k < m) (h1 : a_of g o 24 k = true → Q 1 H G) (h0 : a_of g o 24 k = false → Q 0 H G) : wK_isOrUnder Q k o H G := by
  rw [a_of_fu hu k hk 24 (by omega)] at h1 h0
  have key : ∀ (f k i : Nat), k < m → k + i < 24 → k < f → (a_of g o (k + 1) k = true → Q 1 H G) → (a_of g o (k + 1) k = false → Q 0 H G) → wK_isOrUnder_5 Q (f + 1) o k i H G := by
    intro f
    induction f with
    | zero => intro k i _ _ h; omega
    | succ f ih =>
      intro k i hk hki hkf h1 h0
      have e : a_of g o (k + 1) k = (if (k : Int) < 0 then false else if (k : Int) = o then true else a_of g o k (g k)) := rfl
      rw [if_neg (by omega)] at e
      refine brT (by omega) (brF (by omega) (brT (by rw [hm]; omega) ?_))
      by_cases hko : (k : Int) = o
      · rw [if_pos hko] at e
        exact brT hko (h1 e)
      · rw [if_neg hko] at e
        refine brF hko ⟨⟨by omega, by omega⟩, ?_⟩
        rw [hg k hk, w_p1 (by omega)]
        rcases hu k hk with h | ⟨h2, h3⟩
        · rw [h] at e ⊢
          rw [a_of_neg (j := -4) (by omega)] at e
          rw [if_pos (by omega)]
          show wK_isOrUnder_5 Q (f + 1) o (-1) _ H G
          exact ⟨fun _ => brT (by decide) (h0 e), fun _ => h0 e⟩
        · obtain ⟨l, hl⟩ : ∃ l : Nat, g k = l := ⟨(g k).toNat, by omega⟩
          rw [hl] at e h2 h3 ⊢
          rw [if_neg (by omega)]
          rw [a_of_fu hu l (by omega) k (by omega)] at e
          exact ih l (i + 1) (by omega) (by omega) (by omega) (fun z => h1 (by rw [e]; exact z)) (fun z => h0 (by rw [e]; exact z))
  exact ⟨26, key 25 k 0 hk (by omega) (by omega) h1 h0⟩
end CK2
