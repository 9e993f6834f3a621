/-- a pattern begins: the fault's place, or the next TOKEN, the tables, and whether it stays open -/
def a_beg (t : Int → Int) (n : Nat) (s : Int) (mu : Bool) (i : Nat) (σ : e3_H) : Int ⊕ (Nat × e3_H × Bool) :=
  if a_okp t n s i σ = false ∨ mu = true then .inl (x_sp t n i)
  else if x_ty t n i = 258 then (match a_binds (a_npat σ 0 s) s (x_wo t n i) with
    | none => .inl (x_sp t n i)
    | some (k, σ2) => .inr (i + 1, a_at (e3_up σ2 53 (σ 40 16) k) (σ 40 16) 0 0, false))
  else if x_ty t n i = 260 ∨ x_ty t n i = 45 then (match a_rng t n (σ 40 16) (x_sp t n i) i (a_at (a_npat σ 1 s) (σ 40 16) 0 0) with
    | .inl q => .inl q
    | .inr (j, σ2, _) => .inr (j, σ2, false))
  else if x_ty t n i = 278 then .inr (i + 1, a_at (a_npat σ 2 s) (σ 40 16) 1 0, false)
  else if x_ty t n i = 279 then .inr (i + 1, a_at (a_npat σ 2 s) (σ 40 16) 0 0, false)
  else if x_ty t n i = 261 then .inr (i + 1, a_at (a_npat σ 3 s) (σ 40 16) 0 (x_wo t n i), false)
  else if x_ty t n i = 280 then .inr (i + 1, a_at (a_npat σ 4 s) (σ 40 16) 0 0, false)
  else if x_ty t n i = 259 then (if x_ty t n (i + 1) = 40 then
      (if σ 44 (a_fd (σ 42) (x_wo t n i) (a_nk σ)) = 0 then .inl (x_sp t n (i + 1)) else .inr (i + 2, a_at (a_npat σ 5 s) (σ 40 16) (a_fd (σ 42) (x_wo t n i) (a_nk σ)) 0, true))
    else .inr (i + 1, a_at (a_npat σ 5 s) (σ 40 16) (a_fd (σ 42) (x_wo t n i) (a_nk σ)) 0, false))
  else if x_ty t n i = 40 then .inr (i + 1, a_at (a_npat σ 6 s) (σ 40 16) 0 0, true)
  else .inr (i + 1, a_at (a_npat σ 0 s) (σ 40 16) 0 0, false)
/-- a frame more on the stack of open patterns -/
def r_op (p pl b : Int) (K K2 : e3_H) : Prop := K2 40 32 = K 40 32 + 1 ∧ (∀ a k : Int, 59 ≤ a → a ≤ 65 → k ≠ K 40 32 → K2 a k = K a k) ∧ (∀ k, K2 66 k = K 66 k) ∧ K2 59 (K 40 32) = p ∧ K2 60 (K 40 32) = 0 ∧ K2 61 (K 40 32) = -4 ∧ K2 62 (K 40 32) = pl ∧ K2 63 (K 40 32) = b ∧ K2 65 (K 40 32) = 0
section RB
variable {H0 K σ : e3_H} {G : e3_G} {n i m : Nat} {t : Int → Int}
theorem cM_opens {Q : e3_H → e3_G → Prop} {p pl : Int} (h : r_P t n i m σ K) (hfr : rp_fr H0 K) (hd : 0 ≤ K 40 32 ∧ K 40 32 < 7) (hQ : ∀ K', r_P t n i m σ K' → rp_fr H0 K' → r_op p pl (σ 40 31) K K' → Q K' G) : wM_opens Q p pl K G := by
  obtain ⟨h1, h2, h3, h4, hp⟩ := h
  have e31 : K 40 31 = σ 40 31 := r_N_f h3 31 (by omega)
  unfold wM_opens
  refine ⟨⟨by omega, by omega⟩, ?_⟩
  intro H1 e1
  have a1 : H1 40 32 = K 40 32 := by rw [e1, e3_up_ne (by omega)]
  rw [a1]
  refine ⟨⟨by omega, by omega⟩, ?_⟩
  intro H2 e2
  have a2 : H2 40 32 = K 40 32 := by rw [e2, e3_up_ne (by omega), a1]
  rw [a2]
  refine ⟨⟨by omega, by omega⟩, ?_⟩
  intro H3 e3
  have a3 : H3 40 32 = K 40 32 := by rw [e3, e3_up_ne (by omega), a2]
  rw [a3]
  refine ⟨⟨by omega, by omega⟩, ?_⟩
  intro H4 e4
  have a4 : H4 40 32 = K 40 32 := by rw [e4, e3_up_ne (by omega), a3]
  have b4 : H4 40 31 = σ 40 31 := by rw [e4, e3_up_ne (by omega), e3, e3_up_ne (by omega), e2, e3_up_ne (by omega), e1, e3_up_ne (by omega), e31]
  rw [a4, b4]
  refine ⟨⟨by omega, by omega⟩, ?_⟩
  intro H5 e5
  have a5 : H5 40 32 = K 40 32 := by rw [e5, e3_up_ne (by omega), a4]
  rw [a5]
  refine ⟨⟨by omega, by omega⟩, ?_⟩
  intro H6 e6
  have a6 : H6 40 32 = K 40 32 := by rw [e6, e3_up_ne (by omega), a5]
  rw [a6, x_and01]
  refine ⟨⟨by omega, by omega⟩, ?_⟩
  intro H7 e7
  have a7 : H7 40 32 = K 40 32 := by rw [e7, e3_up_ne (by omega), a6]
  rw [a7, e3_w32_id (by omega) (by omega)]
  intro H8 e8
  have hall : H8 = e3_up (e3_up (e3_up (e3_up (e3_up (e3_up (e3_up (e3_up K 59 (K 40 32) p) 60 (K 40 32) 0) 61 (K 40 32) (-4)) 62 (K 40 32) pl) 63 (K 40 32) (σ 40 31)) 64 (K 40 32) 0) 65 (K 40 32) 0) 40 32 (K 40 32 + 1) := by rw [e8, e7, e6, e5, e4, e3, e2, e1]
  have sN : ∀ (A B : e3_H) (a j v : Int), r_N A B → r_scr a j → r_N A (e3_up B a j v) := by
    intro A B a j v hAB hs b k h40 h139 hns
    rw [e3_up_ne (fun z => hns (by rw [z.1, z.2]; exact hs))]
    exact hAB b k h40 h139 hns
  refine hQ H8 ⟨?_, h2, ?_, ?_, hp⟩ ?_ ?_
  · rw [hall]
    exact r_tk_up (r_tk_up (r_tk_up (r_tk_up (r_tk_up (r_tk_up (r_tk_up (r_tk_up h1 (by omega) (by omega)) (by omega) (by omega)) (by omega) (by omega)) (by omega) (by omega)) (by omega) (by omega)) (by omega) (by omega)) (by omega) (by omega)) (by omega) (by omega)
  · rw [hall]
    refine sN _ _ _ _ _ (sN _ _ _ _ _ (sN _ _ _ _ _ (sN _ _ _ _ _ (sN _ _ _ _ _ (sN _ _ _ _ _ (sN _ _ _ _ _ (sN _ _ _ _ _ h3 ?_) ?_) ?_) ?_) ?_) ?_) ?_) ?_
    all_goals (unfold r_scr; omega)
  · rw [hall, e3_up_ne (by omega), e3_up_ne (by omega), e3_up_ne (by omega), e3_up_ne (by omega), e3_up_ne (by omega), e3_up_ne (by omega), e3_up_ne (by omega), e3_up_ne (by omega), h4]
  · rw [hall]
    exact rp_up (rp_up (rp_up (rp_up (rp_up (rp_up (rp_up (rp_up hfr (by omega)) (by omega)) (by omega)) (by omega)) (by omega)) (by omega)) (by omega)) (by omega)
  · rw [hall]
    refine ⟨e3_up_self _ _ _ _, ?_, ?_, ?_, ?_, ?_, ?_, ?_, ?_⟩
    · intro a k h59 h65 hk
      rw [e3_up_ne (by omega), e3_up_ne (by omega), e3_up_ne (by omega), e3_up_ne (by omega), e3_up_ne (by omega), e3_up_ne (by omega), e3_up_ne (by omega), e3_up_ne (by omega)]
    · intro k
      rw [e3_up_ne (by omega), e3_up_ne (by omega), e3_up_ne (by omega), e3_up_ne (by omega), e3_up_ne (by omega), e3_up_ne (by omega), e3_up_ne (by omega), e3_up_ne (by omega)]
    · rw [e3_up_ne (by omega), e3_up_ne (by omega), e3_up_ne (by omega), e3_up_ne (by omega), e3_up_ne (by omega), e3_up_ne (by omega), e3_up_ne (by omega), e3_up_self]
    · rw [e3_up_ne (by omega), e3_up_ne (by omega), e3_up_ne (by omega), e3_up_ne (by omega), e3_up_ne (by omega), e3_up_ne (by omega), e3_up_self]
    · rw [e3_up_ne (by omega), e3_up_ne (by omega), e3_up_ne (by omega), e3_up_ne (by omega), e3_up_ne (by omega), e3_up_self]
    · rw [e3_up_ne (by omega), e3_up_ne (by omega), e3_up_ne (by omega), e3_up_ne (by omega), e3_up_self]
    · rw [e3_up_ne (by omega), e3_up_ne (by omega), e3_up_ne (by omega), e3_up_self]
    · rw [e3_up_ne (by omega), e3_up_self]
/-- newPattern() behind a fault: nothing matters any more -/
theorem cM_newBad {Q : Int → e3_H → e3_G → Prop} {kd s q : Int} (h16 : 0 ≤ K 40 16 ∧ K 40 16 ≤ 1601) (hb : r_bad q H0 K) (hQ : ∀ x K', r_bad q H0 K' → Q x K' G) : wM_newPattern Q kd s K G := by
  obtain ⟨b1, b2, b3⟩ := hb
  unfold wM_newPattern
  intro H1 e1
  refine ⟨⟨by omega, by omega⟩, ?_⟩
  intro H2 e2
  refine ⟨⟨by omega, by omega⟩, ?_⟩
  intro H3 e3
  refine ⟨⟨by omega, by omega⟩, ?_⟩
  intro H4 e4
  refine ⟨⟨by omega, by omega⟩, ?_⟩
  intro H5 e5
  refine ⟨⟨by omega, by omega⟩, ?_⟩
  intro H6 e6
  refine ⟨⟨by omega, by omega⟩, ?_⟩
  intro H7 e7
  refine ⟨⟨by omega, by omega⟩, ?_⟩
  intro H8 e8
  refine ⟨⟨by omega, by omega⟩, ?_⟩
  intro H9 e9
  refine ⟨⟨by omega, by omega⟩, ?_⟩
  intro H10 e10
  refine ⟨⟨by omega, by omega⟩, ?_⟩
  intro H11 e11
  refine hQ _ H11 ⟨?_, ?_, ?_⟩
  · rw [e11, e3_up_ne (by omega), e10, e3_up_ne (by omega), e9, e3_up_ne (by omega), e8, e3_up_ne (by omega), e7, e3_up_ne (by omega), e6, e3_up_ne (by omega), e5, e3_up_ne (by omega), e4, e3_up_ne (by omega), e3, e3_up_ne (by omega), e2, e3_up_ne (by omega), e1, e3_up_ne (by omega)]; exact b1
  · rw [e11, e3_up_ne (by omega), e10, e3_up_ne (by omega), e9, e3_up_ne (by omega), e8, e3_up_ne (by omega), e7, e3_up_ne (by omega), e6, e3_up_ne (by omega), e5, e3_up_ne (by omega), e4, e3_up_ne (by omega), e3, e3_up_ne (by omega), e2, e3_up_ne (by omega), e1, e3_up_ne (by omega)]; exact b2
  · rw [e11, e10, e9, e8, e7, e6, e5, e4, e3, e2, e1]
    exact rp_up (rp_up (rp_up (rp_up (rp_up (rp_up (rp_up (rp_up (rp_up (rp_up (rp_up b3 (by omega)) (by omega)) (by omega)) (by omega)) (by omega)) (by omega)) (by omega)) (by omega)) (by omega)) (by omega)) (by omega)
theorem bg_420 {Q : Int → e3_H → e3_G → Prop} {s pl nu k p q : Int} (hb : r_bad q H0 K) (hQ : ∀ x K', r_bad q H0 K' → Q x K' G) : wM_begins_420 Q s pl nu k p K G := by
  unfold wM_begins_420
  exact brF hb.1 (hQ _ K hb)
theorem bg_409 {Q : Int → e3_H → e3_G → Prop} {s mu pl nu k p q : Int} (hb : r_bad q H0 K) (hQ : ∀ x K', r_bad q H0 K' → Q x K' G) : wM_begins_409 Q s mu pl nu k p K G := by
  unfold wM_begins_409
  exact ⟨fun _ => bg_420 hb hQ, fun _ => cM_failed hb.1 (bg_420 hb hQ)⟩
theorem bg_354 {Q : Int → e3_H → e3_G → Prop} {s mu pl nu k c q : Int} (h16 : 0 ≤ K 40 16 ∧ K 40 16 ≤ 1601) (hb : r_bad q H0 K) (hQ : ∀ x K', r_bad q H0 K' → Q x K' G) : wM_begins_354 Q s mu pl nu k c K G := by
  unfold wM_begins_354
  refine cM_newBad h16 hb (fun x K' hb' => ?_)
  exact ⟨fun _ => brF hb'.1 (bg_409 hb' hQ), fun _ => bg_409 hb' hQ⟩
/-- the last steps: what it wants is written, and the TOKEN is passed over -/
theorem bg_506 {Q : Int → e3_H → e3_G → Prop} {p pl k T kd : Int} {j : Nat} (h : r_P t n i m σ K) (hfr : rp_fr H0 K) (hnf : x_nf t n i) (hp : 0 ≤ p ∧ p < 1700) (h46 : σ 46 p = kd) (hd : 0 ≤ K 40 32 ∧ K 40 32 < 7) (hk : kd = 5 → 0 ≤ k ∧ k < 24)
    (hok : ∀ j σ2 op, ((kd = 5 ∧ x_ty t n (i + 1) = 40 ∧ σ 44 k ≠ 0 ∧ j = i + 2 ∧ op = true) ∨ (kd = 5 ∧ x_ty t n (i + 1) ≠ 40 ∧ j = i + 1 ∧ op = false) ∨ (kd = 6 ∧ j = i + 1 ∧ op = true) ∨ (kd ≠ 5 ∧ kd ≠ 6 ∧ j = i + 1 ∧ op = false)) → σ2 = e3_up σ 50 p T → ∀ K', r_P t n j m σ2 K' → rp_fr H0 K' → (op = false → r_sc K K') → (op = true → r_op p pl (σ 40 31) K K') → Q p K' G)
    (hfl : kd = 5 → x_ty t n (i + 1) = 40 → σ 44 k = 0 → ∀ x K', r_bad (x_sp t n (i + 1)) H0 K' → Q x K' G) : wM_begins_506 Q pl 0 k p T p K G := by
  unfold wM_begins_506
  refine ⟨by omega, ?_⟩
  intro H1 e1
  have h1 : r_P t n i m (e3_up σ 50 p T) H1 := by rw [e1]; exact r_P_up h (by omega)
  have f1 : rp_fr H0 H1 := by rw [e1]; exact rp_up hfr (by omega)
  have s1 : r_sc K H1 := by rw [e1]; exact sc_up (sc_rf K) (by omega)
  refine brT h1.2.2.2.1 (brT rfl (r_P_nx h1 f1 hnf (fun H3 h3 b3 f3 => ?_)))
  have s3 : r_sc K H3 := sc_N s1 b3
  have g46 : H3 46 p = kd := by rw [r_N_at h3.2.2.1 46 (by omega), e3_up_ne (by omega), h46]
  have g31 : (e3_up σ 50 p T) 40 31 = σ 40 31 := e3_up_ne (by omega)
  have op2 : ∀ K' A, r_sc K A → r_op p pl (σ 40 31) A K' → r_op p pl (σ 40 31) K K' := by
    intro K' A hs ho
    obtain ⟨o1, o2, o3, o4, o5, o6, o7, o8, o9⟩ := ho
    rw [hs.1] at o1 o2 o4 o5 o6 o7 o8 o9
    exact ⟨o1, fun a k a1 a2 a3 => (o2 a k a1 a2 a3).trans (hs.2 a k a1 (by omega)), fun k => (o3 k).trans (hs.2 66 k (by omega) (by omega)), o4, o5, o6, o7, o8, o9⟩
  have b600 : kd ≠ 5 ∨ x_ty t n (i + 1) ≠ 40 → wM_begins_600 Q pl p H3 G := by
    intro hz
    unfold wM_begins_600 wM_begins_619
    rw [g46]
    refine ⟨by omega, fun h6 => ?_, fun h6 => ?_⟩
    · refine cM_opens h3 f3 (by rw [s3.1]; exact hd) (fun K' a b c => ?_)
      rw [g31] at c
      exact hok (i + 1) _ true (Or.inr (Or.inr (Or.inl ⟨h6, rfl, rfl⟩))) rfl K' a b (fun z => by cases z) (fun _ => op2 K' H3 s3 c)
    · by_cases h5 : kd = 5
      · exact hok (i + 1) _ false (Or.inr (Or.inl ⟨h5, by omega, rfl, rfl⟩)) rfl H3 h3 f3 (fun _ => s3) (fun z => by cases z)
      · exact hok (i + 1) _ false (Or.inr (Or.inr (Or.inr ⟨h5, h6, rfl, rfl⟩))) rfl H3 h3 f3 (fun _ => s3) (fun z => by cases z)
  refine ⟨by omega, ?_⟩
  rw [g46]
  refine ⟨fun h5 => brT h3.2.2.2.1 ?_, fun h5 => b600 (Or.inl h5)⟩
  refine cM_isSign h3.1 (by decide) (fun he => brF (by decide) ?_) (fun he => brT rfl (b600 (Or.inr he)))
  have hk2 := hk h5
  have g44 : H3 44 k = σ 44 k := by rw [r_N_at h3.2.2.1 44 (by omega), e3_up_ne (by omega)]
  rw [g44]
  refine ⟨by omega, fun hz => ?_, fun hz => ?_⟩
  · refine cM_fl h3.2.2.2.1 (by decide) (fun K' hf => ?_)
    rw [h3.1.2.2.1] at hf
    unfold wM_begins_619
    exact hfl h5 he hz _ K' ⟨hf.1, hf.2.1, rp_f f3 hf⟩
  · refine r_P_nx h3 f3 ⟨by omega, by omega⟩ (fun H4 h4 b4 f4 => ?_)
    have s4 : r_sc K H4 := sc_N s3 b4
    refine cM_opens h4 f4 (by rw [s4.1]; exact hd) (fun K' a b c => ?_)
    unfold wM_begins_619
    rw [g31] at c
    exact hok (i + 2) _ true (Or.inl ⟨h5, he, hz, rfl, rfl⟩) rfl K' a b (fun z => by cases z) (fun _ => op2 K' H4 s4 c)
end RB
