/-- a NAME that is bound (and is a WHOLE) -/
def a_bnd (σ : e3_H) (v : Int) (wh : Bool) : Option Int :=
  if a_no σ v < 0 then none else if b_bit (σ 40 31) (a_no σ v).toNat = false then none else if wh = true ∧ σ 58 (8 * σ 40 27 + a_no σ v) ≠ 0 then none else some (a_no σ v)
/-- outcome without a pattern -/
abbrev a_S : Type := Int ⊕ (Nat × e3_H)
def a_term (t : Int → Int) (n : Nat) (ti : Int) (i : Nat) (σ : e3_H) : a_S :=
  if x_ty t n i = 258 then (match a_bnd σ (x_wo t n i) true with
    | none => .inl (x_sp t n i)
    | some k => .inr (i + 1, e3_up (e3_up σ 75 ti 2) 76 ti k))
  else match a_num t n i with
    | .inl q => .inl q
    | .inr (j, x) => .inr (j, e3_up (e3_up σ 75 ti 1) 76 ti x)
abbrev a_isop (ty : Int) : Prop := ty = 43 ∨ ty = 45 ∨ ty = 42 ∨ ty = 47 ∨ ty = 37
def a_sum (t : Int → Int) (n : Nat) (ti si : Int) (i : Nat) (σ : e3_H) : a_S := match a_term t n ti i σ with
  | .inl q => .inl q
  | .inr (j, σ2) => if a_isop (x_ty t n j) then a_term t n (ti + 1) (j + 1) (e3_up (e3_up (e3_up σ2 75 (ti + 1) 0) 77 si 0) 77 si (x_ty t n j)) else .inr (j, e3_up (e3_up σ2 75 (ti + 1) 0) 77 si 0)
def a_guard (t : Int → Int) (n : Nat) (i : Nat) (σ : e3_H) : a_S :=
  if x_ty t n i = 273 then (match a_sum t n (4 * σ 40 27) (2 * σ 40 27) (i + 1) (e3_up σ 78 (σ 40 27) 0) with
    | .inl q => .inl q
    | .inr (j, σ2) => if x_ty t n j = 60 ∨ x_ty t n j = 61 ∨ x_ty t n j = 62 then a_sum t n (4 * σ 40 27 + 2) (2 * σ 40 27 + 1) (j + 1) (e3_up σ2 78 (σ 40 27) (x_ty t n j)) else .inl (x_sp t n j))
  else .inr (i, e3_up σ 78 (σ 40 27) 0)
/-- what reading functions may write -/
def f_fr (H K : e3_H) : Prop := (∀ a k : Int, a ≠ 40 → a < 46 ∨ 85 < a → K a k = H a k) ∧ (∀ k : Int, k < 2 ∨ 8 < k → k ≠ 16 → k ≠ 27 → k ≠ 31 → k ≠ 32 → k ≠ 41 → K 40 k = H 40 k) ∧ (0 ≤ H 40 7 → 0 ≤ K 40 7)
def r_bd (q : Int) (H0 K : e3_H) : Prop := K 40 7 ≠ 0 ∧ K 40 8 = q ∧ f_fr H0 K
def r_F (t : Int → Int) (n i m : Nat) (σ K : e3_H) : Prop := r_P t n i m σ K ∧ σ 40 16 ≤ (i : Int)
theorem f_rf (H : e3_H) : f_fr H H := ⟨fun _ _ _ _ => rfl, fun _ _ _ _ _ _ _ => rfl, id⟩
theorem f_up {H K : e3_H} {a j v : Int} (h : f_fr H K) (hc : (46 ≤ a ∧ a ≤ 85) ∨ (a = 40 ∧ (j = 16 ∨ j = 27 ∨ j = 31 ∨ j = 32 ∨ j = 41))) : f_fr H (e3_up K a j v) := ⟨fun b k h1 h3 => by rw [e3_up_ne (by omega)]; exact h.1 b k h1 h3, fun k h1 h3 h4 h5 h6 h7 => by rw [e3_up_ne (by omega)]; exact h.2.1 k h1 h3 h4 h5 h6 h7, fun hz => by rw [e3_up_ne (by omega)]; exact h.2.2 hz⟩
theorem f_N {H K K2 : e3_H} (h : f_fr H K) (h2 : x_N K K2) : f_fr H K2 := ⟨fun a k h1 h3 => by rw [x_N_at h2 a h1]; exact h.1 a k h1 h3, fun k h1 h3 h4 h5 h6 h7 => by rw [h2.1 k (by omega)]; exact h.2.1 k h1 h3 h4 h5 h6 h7, fun hz => by rw [h2.1 7 (by omega)]; exact h.2.2 hz⟩
theorem f_f {H K K2 : e3_H} {pl : Int} (h : f_fr H K) (h2 : r_flt pl K K2) : f_fr H K2 := ⟨fun a k h1 h3 => by rw [h2.2.2.2.1 a k (by simp only [List.mem_cons, List.not_mem_nil, or_false]; exact h1)]; exact h.1 a k h1 h3, fun k h1 h3 h4 h5 h6 h7 => by rw [h2.2.2.1 k (by omega) (by omega)]; exact h.2.1 k h1 h3 h4 h5 h6 h7, fun hz => by have := h2.2.2.2.2; omega⟩
theorem f_rp {H K K2 : e3_H} (h : f_fr H K) (h2 : rp_fr K K2) : f_fr H K2 := ⟨fun a k h1 h3 => by rw [h2.1 a k h1 (by omega)]; exact h.1 a k h1 h3, fun k h1 h3 h4 h5 h6 h7 => by rw [h2.2.1 k h1 h3 h5 h6]; exact h.2.1 k h1 h3 h4 h5 h6 h7, fun hz => h2.2.2 (h.2.2 hz)⟩
theorem bd_f {H K K2 : e3_H} {q : Int} (h : f_fr H K) (h2 : r_flt q K K2) : r_bd q H K2 := ⟨h2.1, h2.2.1, f_f h h2⟩
theorem bd_rp {H K K2 : e3_H} {q : Int} (h : f_fr H K) (h2 : r_bad q K K2) : r_bd q H K2 := ⟨h2.1, h2.2.1, f_rp h h2.2.2⟩
theorem bd_up {H K : e3_H} {q a j v : Int} (h : r_bd q H K) (hc : (46 ≤ a ∧ a ≤ 85) ∨ (a = 40 ∧ (j = 16 ∨ j = 27 ∨ j = 31 ∨ j = 32 ∨ j = 41))) : r_bd q H (e3_up K a j v) := ⟨by rw [e3_up_ne (by omega)]; exact h.1, by rw [e3_up_ne (by omega)]; exact h.2.1, f_up h.2.2 hc⟩
theorem p_inv_u2 {σ : e3_H} {m i : Nat} {a j v : Int} (h : p_inv σ m i) (ha : (46 ≤ a ∧ a ≤ 54) ∨ (57 ≤ a)) : p_inv (e3_up σ a j v) m i := by
  obtain ⟨hk, h16, h27, h56, h31, h55⟩ := h
  have e16 : e3_up σ a j v 40 16 = σ 40 16 := e3_up_ne (by omega)
  refine ⟨k_inv_up hk (by omega), by simp (disch := omega) only [e3_up_self, e3_up_ne]; exact h16, by simp (disch := omega) only [e3_up_self, e3_up_ne]; exact h27, by simp (disch := omega) only [e3_up_self, e3_up_ne]; exact h56, by simp (disch := omega) only [e3_up_self, e3_up_ne]; exact h31, ?_⟩
  intro q h0 hq
  rw [e16] at hq
  simp (disch := omega) only [e3_up_self, e3_up_ne]
  exact h55 q h0 hq
section RF
variable {H0 K σ : e3_H} {G : e3_G} {n i m : Nat} {t : Int → Int}
theorem r_F_up {a j v : Int} (h : r_F t n i m σ K) (ha : (46 ≤ a ∧ a ≤ 54) ∨ (67 ≤ a)) : r_F t n i m (e3_up σ a j v) (e3_up K a j v) := ⟨⟨r_tk_up h.1.1 (by omega) (by omega), h.1.2.1, r_N_w _ _ _ h.1.2.2.1, by rw [e3_up_ne (by omega)]; exact h.1.2.2.2.1, p_inv_u2 h.1.2.2.2.2 (by omega)⟩, by rw [e3_up_ne (by omega)]; exact h.2⟩
theorem r_F_nx {Q : e3_H → e3_G → Prop} (h : r_F t n i m σ K) (hfr : f_fr H0 K) (hf : x_nf t n i) (hQ : ∀ K', r_F t n (i + 1) m σ K' → x_N K K' → f_fr H0 K' → Q K' G) : wM_next Q K G := r_P_nx h.1 (rp_rf K) hf (fun K' a b _ => hQ K' ⟨a, by have := h.2; omega⟩ b (f_N hfr b))
theorem cM_boundName {Q : Int → e3_H → e3_G → Prop} {wI : Int} {wh : Bool} (h : r_P t n i m σ K) (hwI : wI = if wh = true then 1 else 0) (hty : x_ty t n i = 258) (hok : ∀ k, a_bnd σ (x_wo t n i) wh = some k → 0 ≤ k → k < 8 → Q k K G) (hfl : a_bnd σ (x_wo t n i) wh = none → ∀ x K', r_flt (x_sp t n i) K K' → Q x K' G) : wM_boundName Q wI K G := by
  have hpi := h.2.2.2.2
  obtain ⟨hk, h16, h27, h56, h31, h55⟩ := id hpi
  have e4 := (r_va h.1 (by omega)).1 (by omega) (by omega)
  have e5 : K 40 5 = x_sp t n i := h.1.2.2.1
  have e31 : K 40 31 = σ 40 31 := r_N_f h.2.2.1 31 (by omega)
  have e27 : K 40 27 = σ 40 27 := r_N_f h.2.2.1 27 (by omega)
  have e58 : K 58 = σ 58 := r_N_at h.2.2.1 58 (by omega)
  have hr := a_fd_rg (a_rn σ) (x_wo t n i) (a_nm σ)
  have hr2 : a_no σ (x_wo t n i) = a_fd (a_rn σ) (x_wo t n i) (a_nm σ) := rfl
  have hnm : (a_nm σ : Int) ≤ 8 := by unfold a_nm; omega
  unfold wM_boundName wM_boundName_24 wM_boundName_66
  rw [e4]
  refine cM_nameOf h.2.2.1 hpi ?_
  rw [e5, e31, e27, e58]
  refine ⟨fun hn => cM_fl h.2.2.2.1 (by decide) (fun K' hf => hfl (by unfold a_bnd; rw [if_pos hn]) _ K' hf), fun hn => ?_⟩
  have hb := b_ok (k := (a_no σ (x_wo t n i)).toNat) h31 (by omega)
  rw [Int.toNat_of_nonneg (by omega)] at hb
  refine ⟨fun hz => cM_fl h.2.2.2.1 (by decide) (fun K' hf => hfl (by unfold a_bnd; rw [if_neg hn, if_pos (hb.2.1.mp hz)]) _ K' hf), fun hz => ?_⟩
  have hz2 : ¬ b_bit (σ 40 31) (a_no σ (x_wo t n i)).toNat = false := fun y => hz (hb.2.1.mpr y)
  cases hw : wh with
  | false =>
    rw [hw] at hwI
    refine brT (by rw [hwI]; rfl) (hok _ ?_ (by omega) (by omega))
    unfold a_bnd
    rw [if_neg hn, if_neg hz2, if_neg (by rw [hw]; simp)]
  | true =>
    rw [hw] at hwI
    refine brF (by rw [hwI]; decide) ?_
    rw [e3_w32_id (x := 8 * σ 40 27) (by omega) (by omega), e3_w32_id (x := 8 * σ 40 27 + a_no σ (x_wo t n i)) (by omega) (by omega)]
    refine ⟨by omega, fun h0 => hok _ ?_ (by omega) (by omega), fun h0 => cM_fl h.2.2.2.1 (by decide) (fun K' hf => hfl ?_ _ K' hf)⟩
    · unfold a_bnd
      rw [if_neg hn, if_neg hz2, if_neg (by rw [hw]; simp [h0])]
    · unfold a_bnd
      rw [if_neg hn, if_neg hz2, if_pos ⟨hw, h0⟩]
theorem a_bnd_u {a j v : Int} {w : Int} {wh : Bool} (ha : 67 ≤ a) : a_bnd (e3_up σ a j v) w wh = a_bnd σ w wh := by
  have e1 : a_no (e3_up σ a j v) w = a_no σ w := by
    unfold a_no a_rn a_nm
    have : (fun k : Int => e3_up σ a j v 57 (8 * e3_up σ a j v 40 27 + k)) = fun k => σ 57 (8 * σ 40 27 + k) := by funext k; simp (disch := omega) only [e3_up_self, e3_up_ne]
    rw [this]
    simp (disch := omega) only [e3_up_self, e3_up_ne]
  unfold a_bnd
  rw [e1]
  simp (disch := omega) only [e3_up_self, e3_up_ne]
theorem cM_term {Q : e3_H → e3_G → Prop} {ti : Int} (h : r_F t n i m σ K) (hfr : f_fr H0 K) (hti : 0 ≤ ti ∧ ti < 768) (hok : ∀ j σ2, a_term t n ti i σ = .inr (j, σ2) → i < j → ∀ K', r_F t n j m σ2 K' → f_fr H0 K' → Q K' G) (hfl : ∀ q, a_term t n ti i σ = .inl q → ∀ K', r_bd q H0 K' → Q K' G) : wM_readTerm Q ti K G := by
  have hso := r_so h.1.1
  have e5 : K 40 5 = x_sp t n i := h.1.1.2.2.1
  unfold wM_readTerm wM_readTerm_82
  refine ⟨fun hz => ?_, fun hz => ?_⟩
  · have hty := hso.2.2.1.mp hz
    refine ⟨by omega, ?_⟩
    intro H1 e1
    have h1 : r_F t n i m (e3_up σ 75 ti 2) H1 := by rw [e1]; exact r_F_up h (by omega)
    have f1 : f_fr H0 H1 := by rw [e1]; exact f_up hfr (by omega)
    refine cM_boundName (wh := true) h1.1 rfl hty (fun k hb k0 k8 => ?_) (fun hb x K' hf => ?_)
    · rw [a_bnd_u (by omega)] at hb
      refine ⟨by omega, ?_⟩
      intro H6 e6
      have h6 : r_F t n i m (e3_up (e3_up σ 75 ti 2) 76 ti k) H6 := by rw [e6]; exact r_F_up h1 (by omega)
      have f6 : f_fr H0 H6 := by rw [e6]; exact f_up f1 (by omega)
      refine brT h6.1.2.2.2.1 (r_F_nx h6 f6 ⟨by omega, by omega⟩ (fun K' a b c => hok _ _ ?_ (by omega) K' a c))
      unfold a_term
      rw [if_pos hty, hb]
    · rw [a_bnd_u (by omega)] at hb
      refine ⟨by omega, ?_⟩
      intro H6 e6
      have b6 : r_bd (x_sp t n i) H0 H6 := by rw [e6]; exact bd_up (bd_f f1 hf) (by omega)
      refine brF b6.1 (hfl _ ?_ H6 b6)
      unfold a_term
      rw [if_pos hty, hb]
  · have hty : x_ty t n i ≠ 258 := fun y => hz (hso.2.2.1.mpr y)
    have num : wM_readTerm_57 Q ti K G := by
      unfold wM_readTerm_57 wM_readTerm_82
      refine ⟨by omega, ?_⟩
      intro H1 e1
      have h1 : r_F t n i m (e3_up σ 75 ti 1) H1 := by rw [e1]; exact r_F_up h (by omega)
      have f1 : f_fr H0 H1 := by rw [e1]; exact f_up hfr (by omega)
      refine cM_number h1.1 (rp_rf H1) (fun j x he hij _ _ K' a b c => ⟨by omega, ?_⟩) (fun q he x K' hb => ⟨by omega, ?_⟩)
      · intro H6 e6
        have h6 : r_F t n j m (e3_up (e3_up σ 75 ti 1) 76 ti x) H6 := by rw [e6]; exact r_F_up ⟨a, by have := h1.2; omega⟩ (by omega)
        refine hok j _ ?_ hij H6 h6 (by rw [e6]; exact f_up (f_rp f1 c) (by omega))
        unfold a_term
        rw [if_neg hty, he]
      · intro H6 e6
        refine hfl q ?_ H6 (by rw [e6]; exact bd_up (bd_rp f1 hb) (by omega))
        unfold a_term
        rw [if_neg hty, he]
    refine ⟨fun _ => num, fun h3 => ?_⟩
    have hty2 : x_ty t n i ≠ 260 := fun y => h3 (hso.2.2.2.2.1.mpr y)
    refine cM_isSign h.1.1 (by decide) (fun he => brF (by decide) num) (fun he => brT rfl (cM_stop h.1.2.2.2.1 (by decide) (fun K' hf => ?_)))
    rw [e5] at hf
    refine hfl _ ?_ K' (bd_f hfr hf)
    unfold a_term a_num
    rw [if_neg hty, if_neg he, if_neg hty2]
theorem cM_sum {Q : e3_H → e3_G → Prop} {ti si : Int} (h : r_F t n i m σ K) (hfr : f_fr H0 K) (hti : 0 ≤ ti ∧ ti + 1 < 768) (hsi : 0 ≤ si ∧ si < 384) (hok : ∀ j σ2, a_sum t n ti si i σ = .inr (j, σ2) → i < j → ∀ K', r_F t n j m σ2 K' → f_fr H0 K' → Q K' G) (hfl : ∀ q, a_sum t n ti si i σ = .inl q → ∀ K', r_bd q H0 K' → Q K' G) : wM_readSum Q ti si K G := by
  unfold wM_readSum
  rw [e3_w32_id (x := ti + 1) (by omega) (by omega)]
  refine cM_term h hfr (by omega) (fun j σ2 he hij K' a b => ⟨by omega, ?_⟩) (fun q he K' hb => ⟨by omega, ?_⟩)
  · intro H4 e4
    refine ⟨by omega, ?_⟩
    intro H6 e6
    have h6 : r_F t n j m (e3_up (e3_up σ2 75 (ti + 1) 0) 77 si 0) H6 := by rw [e6, e4]; exact r_F_up (r_F_up a (by omega)) (by omega)
    have f6 : f_fr H0 H6 := by rw [e6, e4]; exact f_up (f_up b (by omega)) (by omega)
    have yes : a_isop (x_ty t n j) → wM_readSum_73 Q ti si H6 G := by
      intro ho
      have hty : x_ty t n j < 128 ∧ 0 < x_ty t n j := by unfold a_isop at ho; omega
      have e4' := (r_va h6.1.1 (by omega)).2.2.2 (by omega)
      unfold wM_readSum_73 wM_readSum_95
      rw [e4', e3_w32_id (x := x_ty t n j) (by omega) (by omega), e3_w32_id (x := ti + 1) (by omega) (by omega)]
      refine ⟨by omega, ?_⟩
      intro H7 e7
      have h7 : r_F t n j m (e3_up (e3_up (e3_up σ2 75 (ti + 1) 0) 77 si 0) 77 si (x_ty t n j)) H7 := by rw [e7]; exact r_F_up h6 (by omega)
      have f7 : f_fr H0 H7 := by rw [e7]; exact f_up f6 (by omega)
      refine r_F_nx h7 f7 ⟨by omega, by omega⟩ (fun K8 a8 b8 c8 => ?_)
      refine cM_term a8 c8 (by omega) (fun j2 σ3 he2 hij2 K9 a9 b9 => hok j2 σ3 ?_ (by omega) K9 a9 b9) (fun q he2 K9 hb => hfl q ?_ K9 hb)
      · unfold a_sum; rw [he]; simp only [if_pos ho]; exact he2
      · unfold a_sum; rw [he]; simp only [if_pos ho]; exact he2
    refine brT h6.1.2.2.2.1 ?_
    refine cM_isSign h6.1.1 (by decide) (fun hz => brF (by decide) (yes (by unfold a_isop; omega))) (fun n1 => brT rfl ?_)
    refine cM_isSign h6.1.1 (by decide) (fun hz => brF (by decide) (yes (by unfold a_isop; omega))) (fun n2 => brT rfl ?_)
    refine cM_isSign h6.1.1 (by decide) (fun hz => brF (by decide) (yes (by unfold a_isop; omega))) (fun n3 => brT rfl ?_)
    refine cM_isSign h6.1.1 (by decide) (fun hz => brF (by decide) (yes (by unfold a_isop; omega))) (fun n4 => brT rfl ?_)
    refine cM_isSign h6.1.1 (by decide) (fun hz => brF (by decide) (yes (by unfold a_isop; omega))) (fun n5 => brT rfl ?_)
    unfold wM_readSum_95
    refine hok j _ ?_ hij H6 h6 f6
    unfold a_sum
    rw [he]
    have : ¬ a_isop (x_ty t n j) := by unfold a_isop; omega
    simp only [if_neg this]
  · intro H4 e4
    refine ⟨by omega, ?_⟩
    intro H6 e6
    have b6 : r_bd q H0 H6 := by rw [e6, e4]; exact bd_up (bd_up hb (by omega)) (by omega)
    unfold wM_readSum_95
    refine brF b6.1 (hfl q ?_ H6 b6)
    unfold a_sum; rw [he]
theorem cM_guard {Q : e3_H → e3_G → Prop} (h : r_F t n i m σ K) (hfr : f_fr H0 K) (hok : ∀ j σ2, a_guard t n i σ = .inr (j, σ2) → i ≤ j → ∀ K', r_F t n j m σ2 K' → f_fr H0 K' → Q K' G) (hfl : ∀ q, a_guard t n i σ = .inl q → ∀ K', r_bd q H0 K' → Q K' G) : wM_readGuard Q K G := by
  have h27 := h.1.2.2.2.2.2.2.1
  have e27 : K 40 27 = σ 40 27 := r_N_f h.1.2.2.1 27 (by omega)
  unfold wM_readGuard
  rw [e27]
  refine ⟨by omega, ?_⟩
  intro H1 e1
  have h1 : r_F t n i m (e3_up σ 78 (σ 40 27) 0) H1 := by rw [e1]; exact r_F_up h (by omega)
  have f1 : f_fr H0 H1 := by rw [e1]; exact f_up hfr (by omega)
  refine brT h1.1.2.2.2.1 (cM_isWord h1.1.1 (by decide) (fun he => brF (by decide) ?_) (fun he => brT rfl ?_))
  · refine r_F_nx h1 f1 ⟨by omega, by omega⟩ (fun K2 a2 b2 c2 => ?_)
    have e27' : K2 40 27 = σ 40 27 := by rw [r_N_f a2.1.2.2.1 27 (by omega)]; simp (disch := omega) only [e3_up_self, e3_up_ne]
    rw [e27', e3_w32_id (x := 4 * σ 40 27) (by omega) (by omega), e3_w32_id (x := 2 * σ 40 27) (by omega) (by omega)]
    have hg : a_guard t n i σ = (match a_sum t n (4 * σ 40 27) (2 * σ 40 27) (i + 1) (e3_up σ 78 (σ 40 27) 0) with
        | .inl q => .inl q
        | .inr (j, σ2) => if x_ty t n j = 60 ∨ x_ty t n j = 61 ∨ x_ty t n j = 62 then a_sum t n (4 * σ 40 27 + 2) (2 * σ 40 27 + 1) (j + 1) (e3_up σ2 78 (σ 40 27) (x_ty t n j)) else .inl (x_sp t n j)) := by
      unfold a_guard
      rw [if_pos (by omega)]
    refine cM_sum a2 c2 (by omega) (by omega) (fun j σ2 hs hij K3 a3 b3 => brT a3.1.2.2.2.1 ?_) (fun q hs K3 hb => brF hb.1 (hfl q (by rw [hg, hs]) K3 hb))
    have r27 : σ2 40 27 = σ 40 27 := by
      have : K3 40 27 = σ2 40 27 := r_N_f a3.1.2.2.1 27 (by omega)
      have key : ∀ (ti si : Int) (i j : Nat) (σ σ2 : e3_H), a_sum t n ti si i σ = .inr (j, σ2) → σ2 40 27 = σ 40 27 := by
        have kt : ∀ (ti : Int) (i j : Nat) (σ σ2 : e3_H), a_term t n ti i σ = .inr (j, σ2) → σ2 40 27 = σ 40 27 := by
          intro ti i j σ σ2 hh
          unfold a_term at hh
          split at hh
          · split at hh
            · cases hh
            · cases hh; simp (disch := omega) only [e3_up_self, e3_up_ne]
          · split at hh
            · cases hh
            · cases hh; simp (disch := omega) only [e3_up_self, e3_up_ne]
        intro ti si i j σ σ2 hh
        unfold a_sum at hh
        split at hh
        · cases hh
        · rename_i j2 σ3 h3
          have e3 := kt _ _ _ _ _ h3
          split at hh
          · rw [kt _ _ _ _ _ hh]; simp (disch := omega) only [e3_up_self, e3_up_ne]; exact e3
          · cases hh; simp (disch := omega) only [e3_up_self, e3_up_ne]; exact e3
      rw [key _ _ _ _ _ _ hs]; simp (disch := omega) only [e3_up_self, e3_up_ne]
    have e27'' : K3 40 27 = σ 40 27 := by rw [r_N_f a3.1.2.2.1 27 (by omega)]; exact r27
    have yes : (x_ty t n j = 60 ∨ x_ty t n j = 61 ∨ x_ty t n j = 62) → wM_readGuard_87 Q K3 G := by
      intro ho
      have e4' := (r_va a3.1.1 (by omega)).2.2.2 (by omega)
      unfold wM_readGuard_87
      rw [e27'', e4', e3_w32_id (x := x_ty t n j) (by omega) (by omega)]
      refine ⟨by omega, ?_⟩
      intro H7 e7
      have h7 : r_F t n j m (e3_up σ2 78 (σ 40 27) (x_ty t n j)) H7 := by rw [e7]; exact r_F_up a3 (by omega)
      have f7 : f_fr H0 H7 := by rw [e7]; exact f_up b3 (by omega)
      refine r_F_nx h7 f7 ⟨by omega, by omega⟩ (fun K8 a8 b8 c8 => ?_)
      have e27''' : K8 40 27 = σ 40 27 := by rw [r_N_f a8.1.2.2.1 27 (by omega)]; simp (disch := omega) only [e3_up_self, e3_up_ne]; exact r27
      rw [e27''', e3_w32_id (x := 4 * σ 40 27) (by omega) (by omega), e3_w32_id (x := 2 * σ 40 27) (by omega) (by omega), e3_w32_id (x := 4 * σ 40 27 + 2) (by omega) (by omega), e3_w32_id (x := 2 * σ 40 27 + 1) (by omega) (by omega)]
      refine cM_sum a8 c8 (by omega) (by omega) (fun j2 σ3 hs2 hij2 K9 a9 b9 => hok j2 σ3 ?_ (by omega) K9 a9 b9) (fun q hs2 K9 hb => hfl q ?_ K9 hb)
      · rw [hg, hs]; simp only [if_pos ho]; exact hs2
      · rw [hg, hs]; simp only [if_pos ho]; exact hs2
    refine cM_isSign a3.1.1 (by decide) (fun hz => brF (by decide) (yes (by omega))) (fun n1 => brT rfl ?_)
    refine cM_isSign a3.1.1 (by decide) (fun hz => brF (by decide) (yes (by omega))) (fun n2 => brT rfl ?_)
    refine cM_isSign a3.1.1 (by decide) (fun hz => brF (by decide) (yes (by omega))) (fun n3 => brT rfl ?_)
    refine cM_stop a3.1.2.2.2.1 (by decide) (fun K' hf => ?_)
    rw [a3.1.1.2.2.1] at hf
    refine hfl _ ?_ K' (bd_f b3 hf)
    rw [hg, hs]
    have : ¬ (x_ty t n j = 60 ∨ x_ty t n j = 61 ∨ x_ty t n j = 62) := by omega
    simp only [if_neg this]
  · unfold wM_readGuard_25
    refine hok i _ ?_ (by omega) H1 h1 f1
    unfold a_guard
    rw [if_neg (by omega)]
end RF
