def x_A (l : List Int) (H H' : e3_H) : Prop := ∀ a k : Int, a ∉ l → H' a k = H a k
theorem x_A_rf (l : List Int) (H : e3_H) : x_A l H H := fun _ _ _ => rfl
theorem x_A_tr {l l2 : List Int} {H H1 H2 : e3_H} (h1 : x_A l H H1) (h2 : x_A l2 H1 H2) : x_A (l ++ l2) H H2 := fun a k ha => (h2 a k (fun z => ha (List.mem_append_right _ z))).trans (h1 a k (fun z => ha (List.mem_append_left _ z)))
theorem x_A_tr1 {l : List Int} {H H1 H2 : e3_H} (h1 : x_A l H H1) (h2 : x_A l H1 H2) : x_A l H H2 := fun a k ha => (h2 a k ha).trans (h1 a k ha)
theorem x_A_up {l : List Int} {H : e3_H} {a : Int} (j v : Int) (ha : a ∈ l) : x_A l H (e3_up H a j v) := fun b k hb => e3_up_ne (fun z => hb (by rw [z.1]; exact ha))
theorem x_A_wk {l l2 : List Int} {H H1 : e3_H} (h1 : x_A l H H1) (hs : ∀ a ∈ l, a ∈ l2) : x_A l2 H H1 := fun a k ha => h1 a k (fun z => ha (hs a z))
theorem x_tk_to (b : Int → Int) (n p : Nat) (hp : p ≤ n) (h6 : (x_tk b n p).1 ≠ 256) (h7 : (x_tk b n p).1 ≠ 257) : p < (x_tk b n p).2.1 ∧ (x_tk b n p).2.1 ≤ n := by
  unfold x_tk at *
  by_cases c1 : n ≤ p
  · rw [if_pos c1] at h6; exact absurd rfl h6
  rw [if_neg c1] at h6 h7 ⊢
  by_cases c2 : x_sm (b p) = true ∨ x_up (b p) = true
  · rw [if_pos c2] at h6 h7 ⊢
    have ge := x_sc_ge x_an b n n (p + 1)
    have le := x_sc_le x_an b n n (p + 1) (by omega)
    by_cases c3 : 8 < x_sc x_an b n n (p + 1) - p
    · rw [if_pos c3] at h7; exact absurd rfl h7
    · rw [if_neg c3]
      show p < x_sc x_an b n n (p + 1) ∧ x_sc x_an b n n (p + 1) ≤ n
      omega
  rw [if_neg c2] at h6 h7 ⊢
  by_cases c3 : x_fg (b p) = true
  · rw [if_pos c3] at h6 h7 ⊢
    have ge : p + 1 ≤ x_sc x_fg b n n p := by
      obtain ⟨m, hm⟩ : ∃ m, n = m + 1 := ⟨n - 1, by omega⟩
      have := x_sc_ge x_fg b n m (p + 1)
      have e : x_sc x_fg b n n p = x_sc x_fg b n m (p + 1) := by
        rw [← x_sc_yes (f := m) (show p < n by omega) c3, ← hm]
      omega
    have le := x_sc_le x_fg b n n p (by omega)
    by_cases c4 : 9 < x_sc x_fg b n n p - p
    · rw [if_pos c4] at h7; exact absurd rfl h7
    · rw [if_neg c4]
      show p < x_sc x_fg b n n p ∧ x_sc x_fg b n n p ≤ n
      omega
  rw [if_neg c3] at h6 h7 ⊢
  by_cases c4 : b p = 39
  · rw [if_pos c4] at h6 h7 ⊢
    have ge := x_sc_ge x_sm b n n (p + 1)
    by_cases c5 : (x_sc x_sm b n n (p + 1) < n ∧ b (x_sc x_sm b n n (p + 1)) = 39) ∧ x_sc x_sm b n n (p + 1) - p - 1 ≤ 8
    · rw [if_pos c5]
      have := c5.1.1
      show p < x_sc x_sm b n n (p + 1) + 1 ∧ x_sc x_sm b n n (p + 1) + 1 ≤ n
      omega
    · rw [if_neg c5] at h7; exact absurd rfl h7
  rw [if_neg c4] at h6 h7 ⊢
  by_cases c5 : b p = 46 ∧ p + 1 < n ∧ b ((p + 1 : Nat) : Int) = 46
  · rw [if_pos c5]
    show p < p + 2 ∧ p + 2 ≤ n
    omega
  rw [if_neg c5] at h6 h7 ⊢
  by_cases c6 : x_sg (b p) = true
  · rw [if_pos c6]
    show p < p + 1 ∧ p + 1 ≤ n
    omega
  · rw [if_neg c6] at h7; exact absurd rfl h7
def x_sk (b : Int → Int) (n p : Nat) : Nat := x_sc x_bl b n n p
def x_ps (b : Int → Int) (n : Nat) : Nat → Nat
  | 0 => 0
  | i + 1 => (x_tk b n (x_sk b n (x_ps b n i))).2.1
def x_sp (b : Int → Int) (n i : Nat) : Nat := x_sk b n (x_ps b n i)
def x_ty (b : Int → Int) (n i : Nat) : Int := (x_tk b n (x_sp b n i)).1
def x_wo (b : Int → Int) (n i : Nat) : Int := (x_tk b n (x_sp b n i)).2.2
def x_nf (b : Int → Int) (n i : Nat) : Prop := x_ty b n i ≠ 256 ∧ x_ty b n i ≠ 257
theorem x_ps_ok (b : Int → Int) (n : Nat) : ∀ i : Nat, (∀ j, j < i → x_nf b n j) → i ≤ x_ps b n i ∧ x_ps b n i ≤ n := by
  intro i
  induction i with
  | zero => intro _; exact ⟨Nat.le_refl _, Nat.zero_le _⟩
  | succ i ih =>
    intro h
    obtain ⟨h1, h2⟩ := ih (fun j hj => h j (by omega))
    have h3 := h i (by omega)
    have ge := x_sc_ge x_bl b n n (x_ps b n i)
    have le := x_sc_le x_bl b n n (x_ps b n i) h2
    have h4 := x_tk_to b n (x_sp b n i) le h3.1 h3.2
    have e : x_ps b n (i + 1) = (x_tk b n (x_sp b n i)).2.1 := rfl
    have e2 : x_sp b n i = x_sc x_bl b n n (x_ps b n i) := rfl
    omega
def x_toks (b : Int → Int) (n s : Nat) (H : e3_H) : Prop := ∀ j : Nat, j < s → H 5 j = x_ty b n j ∧ H 6 j = x_sp b n j ∧ H 7 j = x_wo b n j
def x_cut (b : Int → Int) (n s : Nat) (H : e3_H) : Prop := H 3 5 = s ∧ 1 ≤ s ∧ s ≤ n + 1 ∧ x_toks b n s H ∧ (∀ j, j + 1 < s → x_nf b n j) ∧ ¬ x_nf b n (s - 1)
def x_at (s i : Nat) (H : e3_H) : Prop := H 3 6 = i ∧ i < s ∧ H 3 7 = H 5 i ∧ H 3 8 = H 6 i ∧ H 3 9 = H 7 i
theorem x_put_at (H : e3_H) (s : Nat) (ty fr wo : Int) : x_put H s ty fr wo 3 5 = s + 1 ∧ x_put H s ty fr wo 5 s = ty ∧ x_put H s ty fr wo 6 s = fr ∧ x_put H s ty fr wo 7 s = wo ∧ (∀ j : Int, j ≠ s → x_put H s ty fr wo 5 j = H 5 j ∧ x_put H s ty fr wo 6 j = H 6 j ∧ x_put H s ty fr wo 7 j = H 7 j) ∧ x_A [3, 5, 6, 7] H (x_put H s ty fr wo) ∧ x_put H s ty fr wo 3 1 = H 3 1 := by
  unfold x_put
  refine ⟨e3_up_self _ _ _ _, ?_, ?_, ?_, ?_, ?_, ?_⟩
  · rw [e3_up_ne (by omega), e3_up_ne (by omega), e3_up_ne (by omega), e3_up_self]
  · rw [e3_up_ne (by omega), e3_up_ne (by omega), e3_up_self]
  · rw [e3_up_ne (by omega), e3_up_self]
  · intro j hj
    refine ⟨?_, ?_, ?_⟩
    · rw [e3_up_ne (by omega), e3_up_ne (by omega), e3_up_ne (by omega), e3_up_ne (by omega)]
    · rw [e3_up_ne (by omega), e3_up_ne (by omega), e3_up_ne (by omega), e3_up_ne (by omega)]
    · rw [e3_up_ne (by omega), e3_up_ne (by omega), e3_up_ne (by omega), e3_up_ne (by omega)]
  · intro a k ha
    simp only [List.mem_cons, List.not_mem_nil, or_false, not_or] at ha
    rw [e3_up_ne (by omega), e3_up_ne (by omega), e3_up_ne (by omega), e3_up_ne (by omega)]
  · rw [e3_up_ne (by omega), e3_up_ne (by omega), e3_up_ne (by omega), e3_up_ne (by omega)]
section CT4
variable {H : e3_H} {G : e3_G} {n : Nat}
theorem cT_step {Q : e3_H → e3_G → Prop} {s i : Nat} (hs : H 3 5 = (s : Int)) (hs2 : s ≤ 1601) (hi : H 3 6 = (i : Int)) (hi2 : i < s) (h1 : ∀ H', i + 1 < s → x_at s (i + 1) H' → x_A [3] H H' → (∀ k : Int, k < 6 → H' 3 k = H 3 k) → Q H' G) (h2 : ¬ i + 1 < s → Q H G) : wT_step Q H G := by
  unfold wT_step wT_step_62
  rw [hi, hs, w_p1 (by omega)]
  by_cases hc : i + 1 < s
  · refine brT (by omega) ?_
    intro H1 e1
    have a1 : H1 3 6 = ((i + 1 : Nat) : Int) := by rw [e1, e3_up_self]
    rw [a1]
    refine ⟨⟨by omega, by omega⟩, ?_⟩
    intro H2 e2
    have a2 : H2 3 6 = ((i + 1 : Nat) : Int) := by rw [e2, e3_up_ne (by omega), a1]
    rw [a2]
    refine ⟨⟨by omega, by omega⟩, ?_⟩
    intro H4 e4
    have a4 : H4 3 6 = ((i + 1 : Nat) : Int) := by rw [e4, e3_up_ne (by omega), a2]
    rw [a4]
    refine ⟨⟨by omega, by omega⟩, ?_⟩
    intro H6 e6
    refine h1 H6 hc ⟨?_, hc, ?_, ?_, ?_⟩ ?_ ?_
    · rw [e6, e3_up_ne (by omega), a4]
    · rw [e6, e3_up_ne (by omega), e4, e3_up_ne (by omega), e2, e3_up_self, e3_up_ne (by omega), e3_up_ne (by omega), e3_up_ne (by omega)]
    · rw [e6, e3_up_ne (by omega), e4, e3_up_self, e3_up_ne (by omega), e3_up_ne (by omega)]
    · rw [e6, e3_up_self, e3_up_ne (by omega)]
    · intro a k ha
      simp only [List.mem_cons, List.not_mem_nil, or_false] at ha
      rw [e6, e3_up_ne (by omega), e4, e3_up_ne (by omega), e2, e3_up_ne (by omega), e1, e3_up_ne (by omega)]
    · intro k hk
      rw [e6, e3_up_ne (by omega), e4, e3_up_ne (by omega), e2, e3_up_ne (by omega), e1, e3_up_ne (by omega)]
  · exact brF (by omega) (h2 hc)
theorem cT_cut {Q : e3_H → e3_G → Prop} (hn : H 3 1 = (n : Int)) (hn2 : n ≤ 1600) (hw : ∀ j : Int, 0 ≤ j → j < 11 → H 1 j = x_wd j) (hb : ∀ k : Nat, k < n → -128 ≤ H 4 k ∧ H 4 k ≤ 127) (hQ : ∀ (s : Nat) (H' : e3_H), x_cut (H 4) n s H' → x_at s 0 H' → H' 3 1 = 0 → x_A [3, 5, 6, 7] H H' → Q H' G) : wT_cut Q H G := by
  have fin : ∀ (s : Nat) (H' : e3_H), x_cut (H 4) n s H' → x_A [3, 5, 6, 7] H H' → wT_cut_73 Q H' G := by
    intro s H' hc hA
    unfold wT_cut_73
    intro H1 e1 H2 e2
    obtain ⟨c1, c2, c3, c4, c5, c6⟩ := hc
    have f1 : ∀ a k : Int, ¬ (a = 3 ∧ (k = 1 ∨ k = 6)) → H2 a k = H' a k := by
      intro a k h
      rw [e2, e3_up_ne (by omega), e1, e3_up_ne (by omega)]
    unfold wT_step wT_step_62
    have a6 : H2 3 6 = -1 := by rw [e2, e3_up_self]
    have a5 : H2 3 5 = s := by rw [f1 3 5 (by omega), c1]
    rw [a6, a5]
    refine brT (show e3_w32 (-1 + 1) < (s : Int) by show (0 : Int) < s; omega) ?_
    intro H3 e3
    have b3 : H3 3 6 = 0 := by rw [e3, e3_up_self]; rfl
    rw [b3]
    refine ⟨⟨by omega, by omega⟩, ?_⟩
    intro H4 e4
    have b4 : H4 3 6 = 0 := by rw [e4, e3_up_ne (by omega), b3]
    rw [b4]
    refine ⟨⟨by omega, by omega⟩, ?_⟩
    intro H5 e5
    have b5 : H5 3 6 = 0 := by rw [e5, e3_up_ne (by omega), b4]
    rw [b5]
    refine ⟨⟨by omega, by omega⟩, ?_⟩
    intro H6 e6
    have f2 : ∀ a k : Int, ¬ (a = 3 ∧ (k = 1 ∨ k = 6 ∨ k = 7 ∨ k = 8 ∨ k = 9)) → H6 a k = H' a k := by
      intro a k h
      rw [e6, e3_up_ne (by omega), e5, e3_up_ne (by omega), e4, e3_up_ne (by omega), e3, e3_up_ne (by omega), f1 a k (by omega)]
    refine hQ s H6 ⟨?_, c2, c3, ?_, c5, c6⟩ ⟨?_, by omega, ?_, ?_, ?_⟩ ?_ ?_
    · rw [f2 3 5 (by omega), c1]
    · intro j hj
      rw [f2 5 j (by omega), f2 6 j (by omega), f2 7 j (by omega)]
      exact c4 j hj
    · rw [e6, e3_up_ne (by omega), b5]; rfl
    · rw [e6, e3_up_ne (by omega), e5, e3_up_ne (by omega), e4, e3_up_self, e3_up_ne (by omega), e3_up_ne (by omega), e3_up_ne (by omega)]; rfl
    · rw [e6, e3_up_ne (by omega), e5, e3_up_self, e3_up_ne (by omega), e3_up_ne (by omega)]; rfl
    · rw [e6, e3_up_self, e3_up_ne (by omega)]; rfl
    · rw [e6, e3_up_ne (by omega), e5, e3_up_ne (by omega), e4, e3_up_ne (by omega), e3, e3_up_ne (by omega), e2, e3_up_ne (by omega), e1, e3_up_self]
    · intro a k ha
      rw [f2 a k (fun z => ha (by rw [z.1]; decide))]
      exact hA a k ha
  unfold wT_cut
  intro H0 e0
  have key : ∀ (f i : Nat) (K : e3_H), 1601 - i ≤ f → K 3 5 = i → x_toks (H 4) n i K → (∀ j, j < i → x_nf (H 4) n j) → K 3 1 = n → x_A [3, 5, 6, 7] H K → wT_cut_11 Q (f + 2) (x_ps (H 4) n i : Nat) 1 i K G := by
    intro f
    induction f with
    | zero =>
      intro i K hf h5 ht hnf h1 hA
      have := x_ps_ok (H 4) n i hnf
      omega
    | succ f ih =>
      intro i K hf h5 ht hnf h1 hA
      have hps := x_ps_ok (H 4) n i hnf
      have t4 : K 4 = H 4 := funext fun k => hA 4 k (by decide)
      have t1 : ∀ j : Int, 0 ≤ j → j < 11 → K 1 j = x_wd j := fun j a b => by rw [hA 1 j (by decide)]; exact hw j a b
      have le := x_sc_le x_bl (H 4) n n (x_ps (H 4) n i) hps.2
      refine brF (by omega) (brF (by decide) ?_)
      refine cT_blanks (n := n) h1 hn2 n _ (by omega) ?_
      have e9 : x_sc x_bl (K 4) n n (x_ps (H 4) n i) = x_sp (H 4) n i := by rw [t4]; rfl
      rw [e9]
      refine cT_cutOne (n := n) (s := i) (p := x_sp (H 4) n i) h1 hn2 t1 (by rw [t4]; exact hb) h5 (by omega) ?_ ?_
      · exact le
      · rw [t4]
        show ((0 : Int) ≤ _ ∧ _) ∧ _
        generalize hK' : x_put K i (x_tk (H 4) n (x_sp (H 4) n i)).1 (x_sp (H 4) n i : Nat) (x_tk (H 4) n (x_sp (H 4) n i)).2.2 = K'
        obtain ⟨q1, q2, q3, q4, q5, q6, q7⟩ := x_put_at K i (x_tk (H 4) n (x_sp (H 4) n i)).1 (x_sp (H 4) n i : Nat) (x_tk (H 4) n (x_sp (H 4) n i)).2.2
        rw [hK'] at q1 q2 q3 q4 q5 q6 q7
        have hA' : x_A [3, 5, 6, 7] H K' := x_A_tr1 hA q6
        have ht' : x_toks (H 4) n (i + 1) K' := by
          intro j hj
          by_cases hji : j = i
          · subst hji
            exact ⟨q2, q3, q4⟩
          · obtain ⟨w1, w2, w3⟩ := q5 j (by omega)
            rw [w1, w2, w3]
            exact ht j (by omega)
        have e0 : e3_w32 (K' 3 5 - 1) = (i : Int) := by rw [q1, e3_w32_id (by omega) (by omega)]; omega
        rw [e0, q2]
        refine ⟨⟨by omega, by omega⟩, ?_⟩
        have done : ¬ x_nf (H 4) n i → wT_cut_65 Q (fun l1 l2 l3 H G => wT_cut_11 Q (f + 2) l1 l2 l3 H G) ((x_tk (H 4) n (x_sp (H 4) n i)).2.1 : Nat) i K' G := by
          intro hfin
          unfold wT_cut_65 wT_cut_66
          have fn := fin (i + 1) K' ⟨by rw [q1]; omega, by omega, by omega, ht', fun j hj => hnf j (by omega), by rw [show i + 1 - 1 = i by omega]; exact hfin⟩ hA'
          show wT_cut_11 Q (f + 1 + 1) _ 0 (e3_w32 ((i : Int) + 1)) K' G
          exact ⟨fun _ => fn, fun _ => brT rfl fn⟩
        by_cases h6 : (x_tk (H 4) n (x_sp (H 4) n i)).1 = 256
        · exact brT h6 (done (fun z => z.1 h6))
        · refine brF h6 ?_
          by_cases h7 : (x_tk (H 4) n (x_sp (H 4) n i)).1 = 257
          · exact brT h7 (done (fun z => z.2 h7))
          · refine brF h7 ?_
            unfold wT_cut_66
            rw [w_p1 (by omega)]
            exact ih (i + 1) K' (by omega) (by rw [q1]; omega) ht' (fun j hj => by
              by_cases hji : j = i
              · subst hji; exact ⟨h6, h7⟩
              · exact hnf j (by omega)) (by rw [q7]; exact h1) hA'
  have hA0 : x_A [3, 5, 6, 7] H H0 := by rw [e0]; exact x_A_up _ _ (by decide)
  exact ⟨1603, key 1601 0 H0 (by omega) (by rw [e0, e3_up_self]; rfl) (fun j hj => by omega) (fun j hj => by omega) (by rw [e0, e3_up_ne (by omega), hn]) hA0⟩
end CT4
