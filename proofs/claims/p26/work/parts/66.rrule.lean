section RR
variable {H0 K σ : e3_H} {G : e3_G} {n i m : Nat} {t : Int → Int}
theorem cM_answer {Q : e3_H → e3_G → Prop} (h : r_F t n i m σ K) (hfr : f_fr H0 K) (hok : ∀ j σ2, a_answer t n i σ = .inr (j, σ2) → ∀ K', r_F t n j m σ2 K' → f_fr H0 K' → Q K' G) (hfl : ∀ q, a_answer t n i σ = .inl q → ∀ K', r_bd q H0 K' → Q K' G) : wM_readAnswer Q K G := by
  have hi := r_i h.1.2.1
  have h27 := h.1.2.2.2.2.2.2.1
  obtain ⟨hk, h16, _, h56, h31, h55⟩ := id h.1.2.2.2.2
  have e27 : K 40 27 = σ 40 27 := r_N_f h.1.2.2.1 27 (by omega)
  have e5 : K 40 5 = x_sp t n i := h.1.1.2.2.1
  unfold wM_readAnswer
  rw [e27, e5]
  refine ⟨by omega, ?_⟩
  intro H1 e1
  have u1 : H1 40 27 = σ 40 27 := by rw [e1]; simp (disch := omega) only [e3_up_self, e3_up_ne]; exact e27
  rw [u1]
  refine ⟨by omega, ?_⟩
  intro H3 e3
  have h3 : r_F t n i m (e3_up (e3_up σ 82 (σ 40 27) (x_sp t n i)) 83 (σ 40 27) 0) H3 := by rw [e3, e1]; exact r_F_up (r_F_up h (by omega)) (by omega)
  have f3 : f_fr H0 H3 := by rw [e3, e1]; exact f_up (f_up hfr (by omega)) (by omega)
  have u3 : H3 40 27 = σ 40 27 := by rw [e3]; simp (disch := omega) only [e3_up_self, e3_up_ne]; exact u1
  have hso := r_so h3.1.1
  rw [u3]
  refine ⟨fun hz => ?_, fun hz => ?_⟩
  · have hty := hso.2.2.1.mp hz
    have e4 := (r_va h3.1.1 (by omega)).1 (by omega) (by omega)
    rw [e4]
    refine ⟨by omega, ?_⟩
    intro H5 e5'
    have h5 : r_F t n i m (e3_up (e3_up (e3_up σ 82 (σ 40 27) (x_sp t n i)) 83 (σ 40 27) 0) 81 (σ 40 27) (x_wo t n i)) H5 := by rw [e5']; exact r_F_up h3 (by omega)
    have f5 : f_fr H0 H5 := by rw [e5']; exact f_up f3 (by omega)
    have e4' := (r_va h5.1.1 (by omega)).1 (by omega) (by omega)
    rw [e4']
    refine cM_nameOf h5.1.2.2.1 h5.1.2.2.2.2 ?_
    have eno : a_no (e3_up (e3_up (e3_up σ 82 (σ 40 27) (x_sp t n i)) 83 (σ 40 27) 0) 81 (σ 40 27) (x_wo t n i)) (x_wo t n i) = a_no σ (x_wo t n i) := by
      unfold a_no a_rn a_nm
      simp (disch := omega) only [e3_up_self, e3_up_ne]
    rw [eno]
    have e55 : H5 40 5 = x_sp t n i := h5.1.1.2.2.1
    rw [e55]
    have hr := a_fd_rg (a_rn σ) (x_wo t n i) (a_nm σ)
    have hr2 : a_no σ (x_wo t n i) = a_fd (a_rn σ) (x_wo t n i) (a_nm σ) := rfl
    have hnm : (a_nm σ : Int) ≤ 8 := by unfold a_nm; omega
    refine r_F_nx h5 f5 ⟨by omega, by omega⟩ (fun K6 a6 b6 c6 => ?_)
    have u6 : K6 40 27 = σ 40 27 := by rw [r_N_f a6.1.2.2.1 27 (by omega)]; simp (disch := omega) only [e3_up_self, e3_up_ne]
    refine cM_isSign a6.1.1 (by decide) (fun he => brF (by decide) ?_) (fun he => brT rfl ?_)
    · rw [u6]
      refine ⟨by omega, ?_⟩
      intro H24 e24
      have h24 := r_F_up (a := 79) (j := σ 40 27) (v := 2) a6 (by omega)
      rw [← e24] at h24
      have f24 : f_fr H0 H24 := by rw [e24]; exact f_up c6 (by omega)
      refine r_F_nx h24 f24 ⟨by omega, by omega⟩ (fun K7 a7 b7 c7 => ⟨1701, ?_⟩)
      have hae : a_answer t n i σ = a_args t n 1700 (i + 2) (e3_up (e3_up (e3_up (e3_up σ 82 (σ 40 27) (x_sp t n i)) 83 (σ 40 27) 0) 81 (σ 40 27) (x_wo t n i)) 79 (σ 40 27) 2) := by
        unfold a_answer
        rw [if_pos hty, if_pos he]
      rw [hae] at hok hfl
      exact cM_args 1700 (i + 2) _ K7 (by omega) a7 c7 (by simp (disch := omega) only [e3_up_self, e3_up_ne]; omega) (by simp (disch := omega) only [e3_up_self, e3_up_ne]; omega) hok hfl
    · rw [u6]
      have hae : a_answer t n i σ = (match a_bnd σ (x_wo t n i) true with
          | none => .inl (x_sp t n i : Int)
          | some k => .inr (i + 1, e3_up (e3_up (e3_up (e3_up (e3_up σ 82 (σ 40 27) (x_sp t n i)) 83 (σ 40 27) 0) 81 (σ 40 27) (x_wo t n i)) 79 (σ 40 27) 1) 80 (σ 40 27) k)) := by
        unfold a_answer
        rw [if_pos hty, if_neg he]
        rfl
      refine ⟨by omega, ?_⟩
      intro H16 e16'
      have h16' := r_F_up (a := 79) (j := σ 40 27) (v := 1) a6 (by omega)
      rw [← e16'] at h16'
      have f16 : f_fr H0 H16 := by rw [e16']; exact f_up c6 (by omega)
      have u16 : H16 40 27 = σ 40 27 := by rw [e16']; simp (disch := omega) only [e3_up_self, e3_up_ne]; exact u6
      rw [u16]
      refine ⟨by omega, ?_⟩
      intro H18 e18
      have h18 := r_F_up (a := 80) (j := σ 40 27) (v := a_no σ (x_wo t n i)) h16' (by omega)
      rw [← e18] at h18
      have f18 : f_fr H0 H18 := by rw [e18]; exact f_up f16 (by omega)
      have u18 : H18 40 27 = σ 40 27 := by rw [e18]; simp (disch := omega) only [e3_up_self, e3_up_ne]; exact u16
      have u31 : H18 40 31 = σ 40 31 := by rw [r_N_f h18.1.2.2.1 31 (by omega)]; simp (disch := omega) only [e3_up_self, e3_up_ne]
      have u58 : ∀ x, H18 58 x = σ 58 x := by intro x; rw [r_N_at h18.1.2.2.1 58 (by omega)]; simp (disch := omega) only [e3_up_self, e3_up_ne]
      rw [u31, u18]
      unfold wM_readAnswer_153 wM_readAnswer_185
      refine ⟨fun hn => cM_fl h18.1.2.2.2.1 (by decide) (fun K' hf => hfl _ ?_ K' (bd_f f18 hf)), fun hn => ?_⟩
      · rw [hae]; unfold a_bnd; rw [if_pos hn]
      have hb := b_ok (k := (a_no σ (x_wo t n i)).toNat) h31 (by omega)
      rw [Int.toNat_of_nonneg (by omega)] at hb
      refine ⟨fun hz2 => cM_fl h18.1.2.2.2.1 (by decide) (fun K' hf => hfl _ ?_ K' (bd_f f18 hf)), fun hz2 => ?_⟩
      · rw [hae]; unfold a_bnd; rw [if_neg hn, if_pos (hb.2.1.mp hz2)]
      have hz3 : ¬ b_bit (σ 40 31) (a_no σ (x_wo t n i)).toNat = false := fun y => hz2 (hb.2.1.mpr y)
      rw [e3_w32_id (x := 8 * σ 40 27) (by omega) (by omega), e3_w32_id (x := 8 * σ 40 27 + a_no σ (x_wo t n i)) (by omega) (by omega), u58]
      refine ⟨by omega, fun h0 => hok _ _ ?_ H18 h18 f18, fun h0 => cM_fl h18.1.2.2.2.1 (by decide) (fun K' hf => hfl _ ?_ K' (bd_f f18 hf))⟩
      · rw [hae]; unfold a_bnd; rw [if_neg hn, if_neg hz3, if_neg (by simp [h0])]
      · rw [hae]; unfold a_bnd; rw [if_neg hn, if_neg hz3, if_pos ⟨rfl, h0⟩]
  · have hty : x_ty t n i ≠ 258 := fun y => hz (hso.2.2.1.mpr y)
    refine ⟨by omega, ?_⟩
    intro H29 e29
    have h29 := r_F_up (a := 79) (j := σ 40 27) (v := 0) h3 (by omega)
    rw [← e29] at h29
    have f29 : f_fr H0 H29 := by rw [e29]; exact f_up f3 (by omega)
    have u29 : H29 40 27 = σ 40 27 := by rw [e29]; simp (disch := omega) only [e3_up_self, e3_up_ne]; exact u3
    have hae : a_answer t n i σ = (match a_num t n i with
        | .inl q => .inl q
        | .inr (j, x) => .inr (j, e3_up (e3_up (e3_up (e3_up σ 82 (σ 40 27) (x_sp t n i)) 83 (σ 40 27) 0) 79 (σ 40 27) 0) 80 (σ 40 27) x)) := by
      unfold a_answer
      rw [if_neg hty]
      rfl
    have num : wM_readAnswer_64 Q H29 G := by
      unfold wM_readAnswer_64
      rw [u29]
      refine cM_number h29.1 (rp_rf H29) (fun j x he hij _ _ K' a b c => ⟨by omega, ?_⟩) (fun q he x K' hb => ⟨by omega, ?_⟩)
      · intro H6 e6
        refine hok j _ (by rw [hae, he]) H6 (by rw [e6]; exact r_F_up ⟨a, by have := h29.2; omega⟩ (by omega)) (by rw [e6]; exact f_up (f_rp f29 c) (by omega))
      · intro H6 e6
        exact hfl q (by rw [hae, he]) H6 (by rw [e6]; exact bd_up (bd_rp f29 hb) (by omega))
    have hso2 := r_so h29.1.1
    refine ⟨fun _ => num, fun h3' => ?_⟩
    have hty2 : x_ty t n i ≠ 260 := fun y => h3' (hso2.2.2.2.2.1.mpr y)
    refine cM_isSign h29.1.1 (by decide) (fun he => brF (by decide) num) (fun he => brT rfl (cM_stop h29.1.2.2.2.1 (by decide) (fun K' hf => ?_)))
    rw [h29.1.1.2.2.1] at hf
    refine hfl _ ?_ K' (bd_f f29 hf)
    rw [hae]
    unfold a_num
    rw [if_neg he, if_neg hty2]
end RR
/-- the patterns of a rule: how many are left, which column, the last one -/
def a_mulr (σ : e3_H) (p : Int) : e3_H := e3_up σ 74 (σ 40 27) (if 1000 < σ 74 (σ 40 27) * σ 55 p then 1000 else σ 74 (σ 40 27) * σ 55 p)
def a_col1 (σ : e3_H) (c : Nat) (last p : Int) : e3_H := a_mulr (if c = 0 then e3_up σ 72 (σ 40 27) p else e3_up σ 52 last p) p
def a_cols (t : Int → Int) (n : Nat) (f : Int) (mu : Bool) : Nat → Nat → Int → Nat → e3_H → a_S
  | 0, _, _, i, σ => .inr (i, σ)
  | rem + 1, c, last, i, σ =>
    if c ≠ 0 ∧ x_ty t n i ≠ 44 then .inl (x_sp t n i)
    else match a_pat t n 7 (σ 69 (3 * f + c)) 0 (mu && decide (c = 0)) (if c = 0 then i else i + 1) σ with
      | .inl q => .inl q
      | .inr (j, σ2, p) => a_cols t n f mu rem (c + 1) p j (a_col1 σ2 c last p)
/-- a rule begins -/
def a_rule0 (t : Int → Int) (n : Nat) (r : Int) (i : Nat) (σ : e3_H) : e3_H := e3_up (e3_up (e3_up (e3_up (e3_up σ 40 27 r) 73 r (x_sp t n i)) 56 r 0) 40 31 0) 74 r 1
def a_rno (f : Int) (σ : e3_H) : Int := 16 * f + (if σ 70 f = 16 then 15 else σ 70 f)
def a_rule (t : Int → Int) (n : Nat) (f : Int) (i : Nat) (σ : e3_H) : a_S :=
  match a_cols t n f (decide (σ 70 f = 16)) (σ 68 f).toNat 0 (-4) i (a_rule0 t n (a_rno f σ) i σ) with
  | .inl q => .inl q
  | .inr (j, σ1) => if x_ty t n j = 44 then .inl (x_sp t n j) else match a_guard t n j σ1 with
    | .inl q => .inl q
    | .inr (j2, σ2) => if x_ty t n j2 = 58 then (match a_answer t n (j2 + 1) σ2 with
        | .inl q => .inl q
        | .inr (j3, σ3) => if x_ty t n j3 = 59 then .inr (j3 + 1, e3_up σ3 70 f (σ3 70 f + 1)) else .inl (x_sp t n j3))
      else .inl (x_sp t n j2)
