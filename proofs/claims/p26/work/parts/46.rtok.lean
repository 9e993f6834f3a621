theorem x_wx_dom (v : Int) : -1 ≤ x_wx v ∧ x_wx v ≤ 10 := by
  unfold x_wx
  repeat' (first | split | omega)
/-- which types TOKENS have -/
theorem x_tk_dom (b : Int → Int) (n p : Nat) : (256 ≤ (x_tk b n p).1 ∧ (x_tk b n p).1 ≤ 262) ∨ (270 ≤ (x_tk b n p).1 ∧ (x_tk b n p).1 ≤ 280) ∨ (x_sg (x_tk b n p).1 = true ∧ 0 < (x_tk b n p).1 ∧ (x_tk b n p).1 < 128) := by
  unfold x_tk
  by_cases c1 : n ≤ p
  · rw [if_pos c1]; exact Or.inl ⟨by show (256 : Int) ≤ 256; omega, by show (256 : Int) ≤ 262; omega⟩
  rw [if_neg c1]
  by_cases c2 : x_sm (b p) = true ∨ x_up (b p) = true
  · rw [if_pos c2]
    split
    · exact Or.inl ⟨by show (256 : Int) ≤ 257; omega, by show (257 : Int) ≤ 262; omega⟩
    · have := x_wx_dom (x_pk b p (x_sc x_an b n n (p + 1) - p))
      by_cases c3 : x_sm (b p) = true
      · rw [if_pos c3]
        by_cases c4 : x_wx (x_pk b p (x_sc x_an b n n (p + 1) - p)) < 0
        · rw [if_pos c4]; exact Or.inl ⟨by show (256 : Int) ≤ 258; omega, by show (258 : Int) ≤ 262; omega⟩
        · rw [if_neg c4]; exact Or.inr (Or.inl ⟨by show (270 : Int) ≤ 270 + _; omega, by show 270 + _ ≤ (280 : Int); omega⟩)
      · rw [if_neg c3]; exact Or.inl ⟨by show (256 : Int) ≤ 259; omega, by show (259 : Int) ≤ 262; omega⟩
  rw [if_neg c2]
  by_cases c3 : x_fg (b p) = true
  · rw [if_pos c3]
    split
    · exact Or.inl ⟨by show (256 : Int) ≤ 257; omega, by show (257 : Int) ≤ 262; omega⟩
    · exact Or.inl ⟨by show (256 : Int) ≤ 260; omega, by show (260 : Int) ≤ 262; omega⟩
  rw [if_neg c3]
  by_cases c4 : b p = 39
  · rw [if_pos c4]
    split
    · exact Or.inl ⟨by show (256 : Int) ≤ 261; omega, by show (261 : Int) ≤ 262; omega⟩
    · exact Or.inl ⟨by show (256 : Int) ≤ 257; omega, by show (257 : Int) ≤ 262; omega⟩
  rw [if_neg c4]
  by_cases c5 : b p = 46 ∧ p + 1 < n ∧ b ((p + 1 : Nat) : Int) = 46
  · rw [if_pos c5]; exact Or.inl ⟨by show (256 : Int) ≤ 262; omega, by show (262 : Int) ≤ 262; omega⟩
  rw [if_neg c5]
  by_cases c6 : x_sg (b p) = true
  · rw [if_pos c6]; exact Or.inr (Or.inr ⟨c6, x_sg_pos c6⟩)
  · rw [if_neg c6]; exact Or.inl ⟨by show (256 : Int) ≤ 257; omega, by show (257 : Int) ≤ 262; omega⟩
theorem x_ty_dom (t : Int → Int) (n i : Nat) : (256 ≤ x_ty t n i ∧ x_ty t n i ≤ 262) ∨ (270 ≤ x_ty t n i ∧ x_ty t n i ≤ 280) ∨ (x_sg (x_ty t n i) = true ∧ 0 < x_ty t n i ∧ x_ty t n i < 128) := x_tk_dom t n (x_sp t n i)
/-- the reference looks at TOKEN i -/
def r_tk (t : Int → Int) (n i : Nat) (H : e3_H) : Prop := H 40 1 = n ∧ H 41 = t ∧ H 40 5 = x_sp t n i ∧ H 40 3 = x_so (x_ty t n i) ∧ (x_ty t n i ≠ 257 → H 40 4 = x_va (x_ty t n i) (x_wo t n i) ∧ H 40 6 = x_ps t n (i + 1))
/-- of the text: at most 1600 bytes, each 0 .. 255; the TOKENS ahead of i are none that ends -/
def r_in (t : Int → Int) (n i : Nat) : Prop := n ≤ 1600 ∧ (∀ k : Nat, k < n → 0 ≤ t k) ∧ ∀ j, j < i → x_nf t n j
theorem x_so_cs (ty : Int) (hd : (256 ≤ ty ∧ ty ≤ 262) ∨ (270 ≤ ty ∧ ty ≤ 280) ∨ (0 < ty ∧ ty < 128)) : (x_so ty = 0 ↔ ty = 256) ∧ (x_so ty = 7 ↔ ty = 257) ∧ (x_so ty = 1 ↔ ty = 258) ∧ (x_so ty = 2 ↔ ty = 259) ∧ (x_so ty = 3 ↔ ty = 260) ∧ (x_so ty = 4 ↔ ty = 261) ∧ (x_so ty = 6 ↔ 270 ≤ ty) ∧ (x_so ty = 5 ↔ ty = 262 ∨ ty < 128) := by
  unfold x_so
  by_cases c1 : ty = 256
  · rw [if_pos c1]; omega
  rw [if_neg c1]
  by_cases c2 : ty = 257
  · rw [if_pos c2]; omega
  rw [if_neg c2]
  by_cases c3 : ty = 258
  · rw [if_pos c3]; omega
  rw [if_neg c3]
  by_cases c4 : ty = 259
  · rw [if_pos c4]; omega
  rw [if_neg c4]
  by_cases c5 : ty = 260
  · rw [if_pos c5]; omega
  rw [if_neg c5]
  by_cases c6 : ty = 261
  · rw [if_pos c6]; omega
  rw [if_neg c6]
  by_cases c7 : 270 ≤ ty
  · rw [if_pos c7]; omega
  rw [if_neg c7]; omega
theorem x_dom2 (t : Int → Int) (n i : Nat) : (256 ≤ x_ty t n i ∧ x_ty t n i ≤ 262) ∨ (270 ≤ x_ty t n i ∧ x_ty t n i ≤ 280) ∨ (0 < x_ty t n i ∧ x_ty t n i < 128) := by
  rcases x_ty_dom t n i with h | h | h
  · exact Or.inl h
  · exact Or.inr (Or.inl h)
  · exact Or.inr (Or.inr h.2)
section RT
variable {H : e3_H} {G : e3_G} {n i : Nat} {t : Int → Int}
theorem r_so (h : r_tk t n i H) : (H 40 3 = 0 ↔ x_ty t n i = 256) ∧ (H 40 3 = 7 ↔ x_ty t n i = 257) ∧ (H 40 3 = 1 ↔ x_ty t n i = 258) ∧ (H 40 3 = 2 ↔ x_ty t n i = 259) ∧ (H 40 3 = 3 ↔ x_ty t n i = 260) ∧ (H 40 3 = 4 ↔ x_ty t n i = 261) ∧ (H 40 3 = 6 ↔ 270 ≤ x_ty t n i) ∧ (H 40 3 = 5 ↔ x_ty t n i = 262 ∨ x_ty t n i < 128) := by
  rw [h.2.2.2.1]
  exact x_so_cs _ (x_dom2 t n i)
theorem r_va (h : r_tk t n i H) (hf : x_ty t n i ≠ 257) : (256 ≤ x_ty t n i → x_ty t n i ≤ 261 → H 40 4 = x_wo t n i) ∧ (x_ty t n i = 262 → H 40 4 = 256) ∧ (270 ≤ x_ty t n i → H 40 4 = x_ty t n i - 270) ∧ (x_ty t n i < 128 → H 40 4 = x_ty t n i) := by
  rw [(h.2.2.2.2 hf).1]
  unfold x_va
  refine ⟨fun a b => ?_, fun a => ?_, fun a => ?_, fun a => ?_⟩
  · rw [if_neg (by omega), if_neg (by omega), if_pos a]
  · rw [if_pos a]
  · rw [if_neg (by omega), if_pos a]
  · rw [if_neg (by omega), if_neg (by omega), if_neg (by omega)]
theorem cM_nxt {Q : e3_H → e3_G → Prop} (h : r_tk t n i H) (hin : r_in t n i) (hf : x_nf t n i) (hQ : ∀ K, r_tk t n (i + 1) K → x_N H K → Q K G) : wM_next Q H G := by
  obtain ⟨h1, h2, h3, h4, h5⟩ := h
  have hps := x_ps_ok t n (i + 1) (fun j hj => by
    by_cases hji : j = i
    · subst hji; exact hf
    · exact hin.2.2 j (by omega))
  refine cM_next h1 hin.1 h2 hin.2.1 (h5 hf.2).2 hps.2 ?_
  intro K hK
  obtain ⟨a, b, c, d⟩ := hK
  refine hQ K ⟨?_, ?_, a, b, c⟩ d
  · rw [x_N_n d, h1]
  · rw [x_N_41 d, h2]
theorem r_in_s (hin : r_in t n i) (hf : x_nf t n i) : r_in t n (i + 1) := ⟨hin.1, hin.2.1, fun j hj => by
  by_cases hji : j = i
  · subst hji; exact hf
  · exact hin.2.2 j (by omega)⟩
/-- a step of the text's table behind the lexer's own fields: nothing that next() touches -/
theorem r_tk_up {a j v : Int} (h : r_tk t n i H) (ha : a ≠ 41) (hj : a ≠ 40 ∨ 6 < j) : r_tk t n i (e3_up H a j v) := by
  obtain ⟨h1, h2, h3, h4, h5⟩ := h
  refine ⟨?_, ?_, ?_, ?_, ?_⟩
  · rw [e3_up_ne (by omega), h1]
  · rw [← h2]
    funext k
    exact e3_up_ne (by omega)
  · rw [e3_up_ne (by omega), h3]
  · rw [e3_up_ne (by omega), h4]
  · intro hf
    rw [e3_up_ne (by omega), e3_up_ne (by omega)]
    exact h5 hf
theorem cM_isSign {Q : Int → e3_H → e3_G → Prop} {c : Int} (h : r_tk t n i H) (hc : 0 < c ∧ c < 128) (h1 : x_ty t n i = c → Q 1 H G) (h0 : x_ty t n i ≠ c → Q 0 H G) : wM_isSign Q c H G := by
  unfold wM_isSign wM_isSign_22 wM_isSign_23
  have hd := x_dom2 t n i
  have hs := (r_so h).2.2.2.2.2.2.2
  refine ⟨fun h5 => ⟨fun h4 => ⟨Or.inr rfl, h1 ?_⟩, fun h4 => ⟨Or.inl rfl, h0 ?_⟩⟩, fun h5 => ⟨Or.inl rfl, h0 ?_⟩⟩
  · have := r_va h (by omega)
    rcases hs.mp h5 with z | z
    · have := this.2.1 z; omega
    · have := this.2.2.2 z; omega
  · intro z
    have := (r_va h (by omega)).2.2.2 (by omega)
    omega
  · intro z
    exact h5 (hs.mpr (by omega))
theorem cM_isDots {Q : Int → e3_H → e3_G → Prop} (h : r_tk t n i H) (h1 : x_ty t n i = 262 → Q 1 H G) (h0 : x_ty t n i ≠ 262 → Q 0 H G) : wM_isSign Q 256 H G := by
  unfold wM_isSign wM_isSign_22 wM_isSign_23
  have hd := x_dom2 t n i
  have hs := (r_so h).2.2.2.2.2.2.2
  refine ⟨fun h5 => ⟨fun h4 => ⟨Or.inr rfl, h1 ?_⟩, fun h4 => ⟨Or.inl rfl, h0 ?_⟩⟩, fun h5 => ⟨Or.inl rfl, h0 ?_⟩⟩
  · have := r_va h (by omega)
    rcases hs.mp h5 with z | z
    · exact z
    · have := this.2.2.2 z; omega
  · intro z
    have := (r_va h (by omega)).2.1 z
    omega
  · intro z
    exact h5 (hs.mpr (by omega))
theorem cM_isWord {Q : Int → e3_H → e3_G → Prop} {c : Int} (h : r_tk t n i H) (hc : 0 ≤ c) (h1 : x_ty t n i = 270 + c → Q 1 H G) (h0 : x_ty t n i ≠ 270 + c → Q 0 H G) : wM_isWord Q c H G := by
  unfold wM_isWord wM_isWord_23 wM_isWord_24
  have hs := (r_so h).2.2.2.2.2.2.1
  refine ⟨fun h5 => ⟨fun h4 => ⟨Or.inr rfl, h1 ?_⟩, fun h4 => ⟨Or.inl rfl, h0 ?_⟩⟩, fun h5 => ⟨Or.inl rfl, h0 ?_⟩⟩
  · have := (r_va h (by have := hs.mp h5; omega)).2.2.1 (hs.mp h5)
    omega
  · intro z
    have := (r_va h (by omega)).2.2.1 (by omega)
    omega
  · intro z
    exact h5 (hs.mpr (by omega))
theorem cM_fails {Q : e3_H → e3_G → Prop} {c pl : Int} (h0 : H 40 7 = 0) (hQ : Q (e3_up (e3_up H 40 7 c) 40 8 pl) G) : wM_fails Q c pl H G := by
  unfold wM_fails wM_fails_17
  refine brT h0 ?_
  intro H1 e1 H2 e2
  rw [e2, e1]
  exact hQ
theorem cM_failed {Q : e3_H → e3_G → Prop} {c pl : Int} (h0 : H 40 7 ≠ 0) (hQ : Q H G) : wM_fails Q c pl H G := by
  unfold wM_fails wM_fails_17
  exact brF h0 hQ
/-- a fault is kept with its place; nothing else changes -/
def r_flt (pl : Int) (H K : e3_H) : Prop := K 40 7 ≠ 0 ∧ K 40 8 = pl ∧ (∀ k : Int, k ≠ 7 → k ≠ 8 → K 40 k = H 40 k) ∧ x_A [40] H K ∧ 0 < K 40 7
theorem r_flt_up {c pl : Int} (hc : 0 < c) : r_flt pl H (e3_up (e3_up H 40 7 c) 40 8 pl) := by
  refine ⟨?_, e3_up_self _ _ _ _, ?_, ?_, ?_⟩
  · rw [e3_up_ne (by omega), e3_up_self]; omega
  · intro k h7 h8
    rw [e3_up_ne (by omega), e3_up_ne (by omega)]
  · intro a k ha
    simp only [List.mem_cons, List.not_mem_nil, or_false] at ha
    rw [e3_up_ne (by omega), e3_up_ne (by omega)]
  · rw [e3_up_ne (by omega), e3_up_self]; exact hc
theorem cM_fl {Q : e3_H → e3_G → Prop} {c pl : Int} (h0 : H 40 7 = 0) (hc : 0 < c) (hQ : ∀ K, r_flt pl H K → Q K G) : wM_fails Q c pl H G := cM_fails h0 (hQ _ (r_flt_up hc))
theorem cM_stop {Q : e3_H → e3_G → Prop} {c : Int} (h0 : H 40 7 = 0) (hc : 0 < c) (hQ : ∀ K, r_flt (H 40 5) H K → Q K G) : wM_stop Q c H G := by
  unfold wM_stop wM_stop_15
  exact ⟨fun _ => cM_fl h0 (by decide) hQ, fun _ => cM_fl h0 hc hQ⟩
theorem cM_stopped {Q : e3_H → e3_G → Prop} {c : Int} (h0 : H 40 7 ≠ 0) (hQ : Q H G) : wM_stop Q c H G := by
  unfold wM_stop wM_stop_15
  exact ⟨fun _ => cM_failed h0 hQ, fun _ => cM_failed h0 hQ⟩
theorem x_nf_sg {c : Int} (hc : 0 < c ∧ c < 128) (h : x_ty t n i = c) : x_nf t n i := ⟨by omega, by omega⟩
theorem cM_takes {Q : Int → e3_H → e3_G → Prop} {c : Int} (h : r_tk t n i H) (hin : r_in t n i) (h0 : H 40 7 = 0) (hc : 0 < c ∧ c < 128) (h1 : x_ty t n i = c → ∀ K, r_tk t n (i + 1) K → x_N H K → Q 1 K G) (h2 : x_ty t n i ≠ c → Q 0 H G) : wM_takes Q c H G := by
  unfold wM_takes wM_takes_19 wM_takes_20 wM_takes_29
  refine brT h0 ?_
  refine cM_isSign h hc (fun he => brF (by decide) (brF (by decide) ?_)) (fun he => brT rfl (brT rfl ⟨Or.inl rfl, h2 he⟩))
  exact cM_nxt h hin (x_nf_sg hc he) (fun K a b => ⟨Or.inr rfl, h1 he K a b⟩)
theorem cM_taken {Q : Int → e3_H → e3_G → Prop} {c : Int} (h0 : H 40 7 ≠ 0) (hQ : Q 0 H G) : wM_takes Q c H G := by
  unfold wM_takes wM_takes_19 wM_takes_20 wM_takes_29
  exact brF h0 (brT rfl ⟨Or.inl rfl, hQ⟩)
theorem cM_must {Q : e3_H → e3_G → Prop} {c : Int} (h : r_tk t n i H) (hin : r_in t n i) (h0 : H 40 7 = 0) (hc : 0 < c ∧ c < 128) (h1 : x_ty t n i = c → ∀ K, r_tk t n (i + 1) K → x_N H K → Q K G) (h2 : x_ty t n i ≠ c → ∀ K, r_flt (x_sp t n i) H K → Q K G) : wM_must Q c H G := by
  unfold wM_must wM_must_20
  refine brT h0 ?_
  refine cM_takes h hin h0 hc (fun he K a b => brF (by decide) (h1 he K a b)) (fun he => brT rfl ?_)
  refine cM_stop h0 (by decide) ?_
  rw [h.2.2.1]
  exact h2 he
theorem cM_musted {Q : e3_H → e3_G → Prop} {c : Int} (h0 : H 40 7 ≠ 0) (hQ : Q H G) : wM_must Q c H G := by
  unfold wM_must wM_must_20
  exact brF h0 hQ
end RT
