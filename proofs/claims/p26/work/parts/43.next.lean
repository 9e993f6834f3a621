def x_by (t : Int → Int) (n p : Nat) : Int := if p < n then t p else -1
def x_so (ty : Int) : Int := if ty = 256 then 0 else if ty = 257 then 7 else if ty = 258 then 1 else if ty = 259 then 2 else if ty = 260 then 3 else if ty = 261 then 4 else if 270 ≤ ty then 6 else 5
def x_va (ty wo : Int) : Int := if ty = 262 then 256 else if 270 ≤ ty then ty - 270 else if 256 ≤ ty then wo else ty
/-- what next() leaves as it was -/
def x_N (H K : e3_H) : Prop := (∀ k : Int, k < 2 ∨ 6 < k → K 40 k = H 40 k) ∧ x_A [40] H K
theorem x_N_rf (H : e3_H) : x_N H H := ⟨fun _ _ => rfl, x_A_rf _ _⟩
theorem x_N_tr {H K K2 : e3_H} (h : x_N H K) (h2 : x_N K K2) : x_N H K2 := ⟨fun k hk => (h2.1 k hk).trans (h.1 k hk), x_A_tr1 h.2 h2.2⟩
theorem x_N_up {H K : e3_H} (j v : Int) (h : x_N H K) (h1 : 2 ≤ j) (h2 : j ≤ 6) : x_N H (e3_up K 40 j v) := by
  refine ⟨fun k hk => ?_, fun a k ha => ?_⟩
  · rw [e3_up_ne (by omega)]; exact h.1 k hk
  · rw [e3_up_ne (fun z => ha (by rw [z.1]; decide))]; exact h.2 a k ha
theorem x_N_41 {H K : e3_H} (h : x_N H K) : K 41 = H 41 := funext fun k => h.2 41 k (by decide)
theorem x_N_n {H K : e3_H} (h : x_N H K) : K 40 1 = H 40 1 := h.1 1 (by omega)
/-- behind next(): the TOKEN at p (no blank there) is the one that is looked at -/
def x_np (t : Int → Int) (n p : Nat) (H K : e3_H) : Prop := K 40 5 = p ∧ K 40 3 = x_so (x_tk t n p).1 ∧ ((x_tk t n p).1 ≠ 257 → K 40 4 = x_va (x_tk t n p).1 (x_tk t n p).2.2 ∧ K 40 6 = ((x_tk t n p).2.1 : Nat)) ∧ x_N H K
theorem x_by_sc {P : Int → Bool} (hP : P (-1) = false) {t : Int → Int} {n p : Nat} : P (x_by t n p) = true ↔ p < n ∧ P (t p) = true := by
  unfold x_by
  by_cases h : p < n
  · rw [if_pos h]; exact ⟨fun z => ⟨h, z⟩, fun z => z.2⟩
  · rw [if_neg h, hP]; exact ⟨fun z => (by cases z), fun z => absurd z.1 h⟩
section CM
variable {H : e3_H} {G : e3_G} {n : Nat} {t : Int → Int}
theorem cM_in {Q : Int → e3_H → e3_G → Prop} {x a b : Int} (h1 : a ≤ x → x ≤ b → Q 1 H G) (h0 : ¬ (a ≤ x ∧ x ≤ b) → Q 0 H G) : wM_in Q x a b H G := by
  unfold wM_in wM_in_17 wM_in_18
  exact ⟨fun h => ⟨Or.inl rfl, h0 (by omega)⟩, fun h => ⟨fun h2 => ⟨Or.inl rfl, h0 (by omega)⟩, fun h2 => ⟨Or.inr rfl, h1 (by omega) (by omega)⟩⟩⟩
theorem cM_isSmall {Q : Int → e3_H → e3_G → Prop} {x : Int} (h1 : x_sm x = true → Q 1 H G) (h0 : x_sm x = false → Q 0 H G) : wM_isSmall Q x H G := by
  unfold x_sm at h1 h0
  unfold wM_isSmall
  exact cM_in (fun a b => ⟨Or.inr rfl, h1 (by simp; omega)⟩) (fun a => ⟨Or.inl rfl, h0 (by simp; omega)⟩)
theorem cM_isFigure {Q : Int → e3_H → e3_G → Prop} {x : Int} (h1 : x_fg x = true → Q 1 H G) (h0 : x_fg x = false → Q 0 H G) : wM_isFigure Q x H G := by
  unfold x_fg at h1 h0
  unfold wM_isFigure
  exact cM_in (fun a b => ⟨Or.inr rfl, h1 (by simp; omega)⟩) (fun a => ⟨Or.inl rfl, h0 (by simp; omega)⟩)
theorem cM_byteAt {Q : Int → e3_H → e3_G → Prop} {p : Nat} (hn : H 40 1 = (n : Int)) (hn2 : n ≤ 1600) (hQ : Q (x_by (H 41) n p) H G) : wM_byteAt Q p H G := by
  unfold wM_byteAt wM_byteAt_18
  unfold x_by at hQ
  by_cases h : p < n
  · rw [if_pos h] at hQ
    exact brT (by rw [hn]; omega) ⟨⟨by omega, by omega⟩, hQ⟩
  · rw [if_neg h] at hQ
    exact brF (by rw [hn]; omega) hQ
theorem cM_wordOf {Q : Int → e3_H → e3_G → Prop} {v : Int} (hQ : Q (x_wx v) H G) : wM_wordOf Q v H G := by
  unfold wM_wordOf wM_wordOf_138
  unfold x_wx at hQ
  refine ⟨fun h => (by rw [if_pos h] at hQ; exact hQ), fun h => ?_⟩
  rw [if_neg h] at hQ
  refine ⟨fun h => (by rw [if_pos h] at hQ; exact hQ), fun h => ?_⟩
  rw [if_neg h] at hQ
  refine ⟨fun h => (by rw [if_pos h] at hQ; exact hQ), fun h => ?_⟩
  rw [if_neg h] at hQ
  refine ⟨fun h => (by rw [if_pos h] at hQ; exact hQ), fun h => ?_⟩
  rw [if_neg h] at hQ
  refine ⟨fun h => (by rw [if_pos h] at hQ; exact hQ), fun h => ?_⟩
  rw [if_neg h] at hQ
  refine ⟨fun h => (by rw [if_pos h] at hQ; exact hQ), fun h => ?_⟩
  rw [if_neg h] at hQ
  refine ⟨fun h => (by rw [if_pos h] at hQ; exact hQ), fun h => ?_⟩
  rw [if_neg h] at hQ
  refine ⟨fun h => (by rw [if_pos h] at hQ; exact hQ), fun h => ?_⟩
  rw [if_neg h] at hQ
  refine ⟨fun h => (by rw [if_pos h] at hQ; exact hQ), fun h => ?_⟩
  rw [if_neg h] at hQ
  refine ⟨fun h => (by rw [if_pos h] at hQ; exact hQ), fun h => ?_⟩
  rw [if_neg h] at hQ
  refine ⟨fun h => (by rw [if_pos h] at hQ; exact hQ), fun h => ?_⟩
  rw [if_neg h] at hQ
  exact hQ
/-- the bytes of a NAME or KINDNAME -/
theorem cM_namel {Q : e3_H → e3_G → Prop} {p : Nat} (hn : H 40 1 = (n : Int)) (hn2 : n ≤ 1600) (ht : H 41 = t) (hp : p < n) (hc : x_sm (t p) = true ∨ x_up (t p) = true) (hQ : ∀ K, x_np t n p H K → Q K G) : ∀ (f k : Nat) (K : e3_H), n - (p + k) ≤ f → p + k < n → x_sc x_an t n n (p + 1) = x_sc x_an t n f (p + k + 1) → x_N H K → K 40 2 = p → K 40 5 = p → K 40 6 = ((p + k : Nat) : Int) → K 40 4 = x_pk t p (min k 8) → wM_name_8 Q (f + 1) (t p) K G := by
  intro f
  induction f with
  | zero => intro k K hf hk; omega
  | succ f ih =>
    intro k K hf hk hsc hN h2 h5 h6 h4
    have body : ∀ (v : Int), v = x_pk t p (min (k + 1) 8) → wM_name_47 Q (fun l1 H G => wM_name_8 Q (f + 1) l1 H G) (t p) v K G := by
      intro v hv
      unfold wM_name_47
      intro H1 e1 H2 e2
      have a6 : H1 40 6 = ((p + k : Nat) : Int) := by rw [e1, e3_up_ne (by omega), h6]
      rw [a6, w_p1 (by omega)] at e2
      have N2 : x_N H H2 := by rw [e2, e1]; exact x_N_up _ _ (x_N_up _ _ hN (by omega) (by omega)) (by omega) (by omega)
      have b6 : H2 40 6 = ((p + k + 1 : Nat) : Int) := by rw [e2, e3_up_self]
      have b4 : H2 40 4 = x_pk t p (min (k + 1) 8) := by rw [e2, e3_up_ne (by omega), e1, e3_up_self, hv]
      have b2 : H2 40 2 = p := by rw [e2, e3_up_ne (by omega), e1, e3_up_ne (by omega), h2]
      have b5 : H2 40 5 = p := by rw [e2, e3_up_ne (by omega), e1, e3_up_ne (by omega), h5]
      have bn : H2 40 1 = n := by rw [x_N_n N2, hn]
      have bt : H2 41 = t := by rw [x_N_41 N2, ht]
      rw [b6]
      refine cM_byteAt bn hn2 ?_
      rw [bt]
      have go : p + k + 1 < n → x_an (t ((p + k + 1 : Nat) : Int)) = true → wM_name_8 Q (f + 1) (t p) H2 G := by
        intro hlt han
        rw [x_sc_yes hlt han] at hsc
        exact ih (k + 1) H2 (by omega) (by omega) hsc N2 b2 b5 b6 b4
      refine cM_isSmall (fun hs => brF (by decide) ?_) (fun hs => brT rfl ?_)
      · have := (x_by_sc (P := x_sm) rfl).mp hs
        exact go this.1 (by unfold x_an; rw [this.2]; rfl)
      · rw [b6]
        refine cM_byteAt bn hn2 ?_
        rw [bt]
        refine cM_isFigure (fun hg => brF (by decide) ?_) (fun hg => brT rfl ?_)
        · have := (x_by_sc (P := x_fg) rfl).mp hg
          exact go this.1 (by unfold x_an; rw [this.2, Bool.or_true])
        · have hno : ¬ (p + k + 1 < n ∧ x_an (t ((p + k + 1 : Nat) : Int)) = true) := by
            rintro ⟨z1, z2⟩
            unfold x_an at z2
            unfold x_by at hs hg
            rw [if_pos z1] at hs hg
            rw [hs, hg] at z2
            cases z2
          rw [x_sc_no hno] at hsc
          rw [b6, b2, w_sb (by omega) (by omega), show p + k + 1 - p = k + 1 by omega]
          have htk : x_tk t n p = (if 8 < k + 1 then (257, p + k + 1, 0) else (if x_sm (t p) = true then (if x_wx (x_pk t p (k + 1)) < 0 then 258 else 270 + x_wx (x_pk t p (k + 1))) else 259, p + k + 1, x_pk t p (k + 1))) := by
            unfold x_tk
            rw [if_neg (by omega), if_pos hc, hsc, show p + k + 1 - p = k + 1 by omega]
          by_cases h8 : 8 < k + 1
          · rw [if_pos h8] at htk
            refine brT (by omega) ?_
            intro H15 e15
            refine hQ H15 ⟨?_, ?_, ?_, ?_⟩
            · rw [e15, e3_up_ne (by omega), b5]
            · rw [htk, e15, e3_up_self]; rfl
            · rw [htk]; exact fun z => absurd rfl z
            · rw [e15]; exact x_N_up _ _ N2 (by omega) (by omega)
          · rw [if_neg h8] at htk
            refine brF (by omega) ?_
            rw [b4, show min (k + 1) 8 = k + 1 by omega]
            refine cM_wordOf ?_
            generalize hv2 : x_pk t p (k + 1) = v2 at *
            have fin : ∀ (s0 s1 ty : Int), x_tk t n p = (ty, p + k + 1, v2) → ty ≠ 257 → s0 = x_so ty → (s0 = 6 → s1 = x_va ty v2) → (¬ s0 = 6 → v2 = x_va ty v2) → wM_name_141 Q s1 s0 H2 G := by
              intro s0 s1 ty htk2 h257 hs0 hs1 hs2
              unfold wM_name_141 wM_name_163 wM_name_166
              intro K1 d1
              have c3 : K1 40 3 = s0 := by rw [d1, e3_up_self]
              have c4 : K1 40 4 = v2 := by rw [d1, e3_up_ne (by omega), b4, show min (k + 1) 8 = k + 1 by omega, hv2]
              have N3 : x_N H K1 := by rw [d1]; exact x_N_up _ _ N2 (by omega) (by omega)
              rw [c3]
              refine ⟨fun h6 K2 d2 => ?_, fun h6 K2 d2 => ?_⟩
              · refine hQ K2 ⟨?_, ?_, ?_, ?_⟩
                · rw [d2, e3_up_ne (by omega), d1, e3_up_ne (by omega), b5]
                · rw [htk2, d2, e3_up_ne (by omega), c3, hs0]
                · intro _
                  rw [htk2]
                  refine ⟨?_, ?_⟩
                  · rw [d2, e3_up_self]; exact hs1 h6
                  · rw [d2, e3_up_ne (by omega), d1, e3_up_ne (by omega), b6]
                · rw [d2]; exact x_N_up _ _ N3 (by omega) (by omega)
              · refine hQ K2 ⟨?_, ?_, ?_, ?_⟩
                · rw [d2, e3_up_ne (by omega), d1, e3_up_ne (by omega), b5]
                · rw [htk2, d2, e3_up_ne (by omega), c3, hs0]
                · intro _
                  rw [htk2]
                  refine ⟨?_, ?_⟩
                  · rw [d2, e3_up_self, c4]; exact hs2 h6
                  · rw [d2, e3_up_ne (by omega), d1, e3_up_ne (by omega), b6]
                · rw [d2]; exact x_N_up _ _ N3 (by omega) (by omega)
            refine cM_isSmall (fun hs => brF (by decide) ?_) (fun hs => brT rfl ?_)
            · rw [hs] at htk
              simp only [if_true] at htk
              by_cases hw : x_wx v2 < 0
              · rw [if_pos hw] at htk
                exact brT hw (fin 1 _ 258 htk (by decide) rfl (fun z => absurd z (by decide)) (fun _ => rfl))
              · rw [if_neg hw] at htk
                have hwu : x_wx v2 ≤ 10 := by
                  unfold x_wx
                  repeat' (first | split | omega)
                refine brF hw (fin 6 _ (270 + x_wx v2) htk (by omega) ?_ (fun _ => ?_) (fun z => absurd rfl z))
                · unfold x_so
                  rw [if_neg (by omega), if_neg (by omega), if_neg (by omega), if_neg (by omega), if_neg (by omega), if_neg (by omega), if_pos (by omega)]
                · unfold x_va
                  rw [if_neg (by omega), if_pos (by omega)]
                  omega
            · rw [hs] at htk
              simp only [Bool.false_eq_true, if_false] at htk
              exact fin 2 _ 259 htk (by decide) rfl (fun z => absurd z (by decide)) (fun _ => rfl)
    show wM_name_8 Q (f + 1 + 1) (t p) K G
    unfold wM_name_8
    rw [h6, h2, w_sb (by omega) (by omega), show p + k - p = k by omega]
    by_cases h8 : k < 8
    · refine brT (by omega) ?_
      refine cM_byteAt (by rw [x_N_n hN, hn]) hn2 ?_
      rw [x_N_41 hN, ht]
      refine body _ ?_
      rw [h4, show min k 8 = k by omega, show min (k + 1) 8 = k + 1 by omega]
      unfold x_by
      rw [if_pos hk]
      rfl
    · refine brF (by omega) (body _ ?_)
      rw [h4, show min k 8 = min (k + 1) 8 by omega]
end CM
