section RG
variable {H0 K σ : e3_H} {G : e3_G} {n i m : Nat} {t : Int → Int}
theorem bad_N {q : Int} {K2 : e3_H} (h : rp_fr H0 K) (hf : r_flt q K K2) : r_bad q H0 K2 := ⟨hf.1, hf.2.1, rp_f h hf⟩
theorem cM_goK {Q : Int → e3_H → e3_G → Prop} {p d kd c : Int} (h : r_P t n i m σ K) (hfr : rp_fr H0 K) (hd : K 40 32 = d + 1) (hd0 : 0 ≤ d ∧ d < 7) (h59 : K 59 d = p) (hp0 : 0 ≤ p ∧ p < 1700) (h60 : K 60 d = c) (h46 : σ 46 p = 5) (h48 : σ 48 p = kd) (hk : 0 ≤ kd ∧ kd < 24)
    (h1 : c < σ 44 kd → x_ty t n i = 44 → ∀ K', r_P t n (i + 1) m σ K' → rp_fr H0 K' → r_sc K K' → Q 1 K' G)
    (h2 : c < σ 44 kd → x_ty t n i ≠ 44 → ∀ K', r_bad (x_sp t n i) H0 K' → Q 0 K' G)
    (h3 : ¬ c < σ 44 kd → x_ty t n i = 41 → ∀ K', r_P t n (i + 1) m σ K' → rp_fr H0 K' → r_sc K K' → Q 0 K' G)
    (h4 : ¬ c < σ 44 kd → x_ty t n i ≠ 41 → ∀ K', r_bad (x_sp t n i) H0 K' → Q 0 K' G) : wM_goesOn Q K G := by
  have hN := h.2.2.1
  have e46 : K 46 = σ 46 := r_N_at hN 46 (by omega)
  have e48 : K 48 = σ 48 := r_N_at hN 48 (by omega)
  have e44 : K 44 = σ 44 := r_N_at hN 44 (by omega)
  have e5 : K 40 5 = x_sp t n i := h.1.2.2.1
  have mk : ∀ K', x_nf t n i → r_tk t n (i + 1) K' → x_N K K' → r_P t n (i + 1) m σ K' := fun K' hf a b => ⟨a, r_in_s h.2.1 hf, r_N_tr hN b, by rw [x_N_f b 7 (by omega)]; exact h.2.2.2.1, p_inv_le h.2.2.2.2 (by omega)⟩
  unfold wM_goesOn
  rw [hd, e3_w32_id (x := d + 1 - 1) (by omega) (by omega), show d + 1 - 1 = d by omega, h59, h60, e46, e48, e44, h48]
  refine ⟨by omega, by omega, brT h46 ⟨by omega, by omega, by omega, fun hz => ?_, fun hz => ?_⟩⟩
  · unfold wM_goesOn_59
    refine cM_isSign h.1 (by decide) (fun he => brF (by decide) ?_) (fun he => brT rfl ?_)
    · refine cM_takes h.1 h.2.1 h.2.2.2.1 (by decide) (fun _ K' a b => ⟨Or.inr rfl, h1 hz he K' (mk K' ⟨by omega, by omega⟩ a b) (rp_N hfr b) (sc_N (sc_rf K) b)⟩) (fun hne => absurd he hne)
    · refine cM_stop h.2.2.2.1 (by decide) (fun K' hf => ?_)
      rw [e5] at hf
      exact cM_taken hf.1 ⟨Or.inl rfl, h2 hz he K' (bad_N hfr hf)⟩
  · unfold wM_goesOn_85
    refine cM_isSign h.1 (by decide) (fun he => brF (by decide) ?_) (fun he => brT rfl ?_)
    · rw [e5]
      exact cM_fl h.2.2.2.1 (by decide) (fun K' hf => cM_musted hf.1 (h4 hz (by omega) K' (bad_N hfr hf)))
    · exact cM_must h.1 h.2.1 h.2.2.2.1 (by decide) (fun he K' a b => h3 hz he K' (mk K' ⟨by omega, by omega⟩ a b) (rp_N hfr b) (sc_N (sc_rf K) b)) (fun hne K' hf => h4 hz hne K' (bad_N hfr hf))
def a_fst (c : Int) (σ : e3_H) (fst : Int) : Int := if c = 1 then σ 40 31 else fst
def a_sr (c : Int) (σ : e3_H) (srt : Nat → Int) : Nat → Int := if c = 1 then (fun k => σ 58 (8 * σ 40 27 + k)) else srt
def a_un (c : Int) (σ : e3_H) (b0 fst : Int) (srt : Nat → Int) (un : Bool) : Bool := if c = 1 then false else un || a_unl σ b0 fst srt 8
theorem r_P_58 {k v : Int} (h : r_P t n i m σ K) : r_P t n i m (e3_up σ 58 k v) (e3_up K 58 k v) := r_P_up h (by omega)
theorem cM_goA {Q : Int → e3_H → e3_G → Prop} {p d c b0 fst pl : Int} {un : Bool} {srt : Nat → Int} (h : r_P t n i m σ K) (hfr : rp_fr H0 K) (hd : K 40 32 = d + 1) (hd0 : 0 ≤ d ∧ d < 7) (h59 : K 59 d = p) (hp0 : 0 ≤ p ∧ p < 1700) (h60 : K 60 d = c) (hc : 1 ≤ c) (h46 : σ 46 p ≠ 5) (h62 : K 62 d = pl) (h63 : K 63 d = b0) (hb0 : 0 ≤ b0 ∧ b0 < 256) (h64 : c ≠ 1 → K 64 d = fst) (hf0 : c ≠ 1 → 0 ≤ fst ∧ fst < 256) (h65 : K 65 d = if un = true then 1 else 0) (hun : c = 1 → un = false) (h66 : c ≠ 1 → ∀ k : Nat, k < 8 → K 66 (8 * d + k) = srt k)
    (h1 : x_ty t n i = 124 → ∀ K', r_P t n (i + 1) m (e3_up σ 40 31 b0) K' → rp_fr H0 K' → r_lo d K K' → (∀ a : Int, 59 ≤ a → a ≤ 63 → K' a d = K a d) → K' 64 d = a_fst c σ fst → (∀ k : Nat, k < 8 → K' 66 (8 * d + k) = a_sr c σ srt k) → (K' 65 d = if a_un c σ b0 fst srt un = true then 1 else 0) → Q 1 K' G)
    (h2 : x_ty t n i = 41 → a_un c σ b0 fst srt un = false → ∀ K', r_P t n (i + 1) m (a_srt (e3_up σ 40 31 (a_fst c σ fst)) (a_sr c σ srt) 8) K' → rp_fr H0 K' → r_lo d K K' → K' 59 d = p → Q 0 K' G)
    (h3 : x_ty t n i = 41 → a_un c σ b0 fst srt un = true → ∀ K', r_bad pl H0 K' → Q 0 K' G)
    (h4 : x_ty t n i ≠ 41 → x_ty t n i ≠ 124 → ∀ K', r_bad (x_sp t n i) H0 K' → Q 0 K' G) : wM_goesOn Q K G := by
  have hN := h.2.2.1
  have h27 := h.2.2.2.2.2.2.1
  have h31 := h.2.2.2.2.2.2.2.2.1
  have e46 : K 46 = σ 46 := r_N_at hN 46 (by omega)
  have e27K : K 40 27 = σ 40 27 := r_N_f hN 27 (by omega)
  have main : ∀ K1, r_P t n i m σ K1 → rp_fr H0 K1 → r_lo d K K1 → (∀ a : Int, 59 ≤ a → a ≤ 63 → K1 a d = K a d) → K1 64 d = a_fst c σ fst → (∀ k : Nat, k < 8 → K1 66 (8 * d + k) = a_sr c σ srt k) → (K1 65 d = if a_un c σ b0 fst srt un = true then 1 else 0) →
      (wM_takes (fun x23 H21 G22 => (((x23 : Int) = 0 → (wM_isSign (fun x26 H24 G25 => (((x26 : Int) = 0 → (wM_goesOn_210 Q H24 G25)) ∧ (¬ ((x26 : Int) = 0) → ((0 : Int) ≤ d ∧ (d : Int) < 8) ∧ ((((H24 65 d) : Int) = 0 → (wM_goesOn_148 Q d H24 G25)) ∧ (¬ (((H24 65 d) : Int) = 0) → ((0 : Int) ≤ d ∧ (d : Int) < 8) ∧ (wM_fails (fun H29 G30 => (wM_goesOn_148 Q d H29 G30)) 8 (H24 62 d) H24 G25)))))) 41 H21 G22)) ∧ (¬ ((x23 : Int) = 0) → ((0 : Int) ≤ d ∧ (d : Int) < 8) ∧ ∀ H32 : e3_H, H32 = e3_up H21 40 31 (H21 63 d) → Q 1 H32 G22))) 124 K1 G) := by
    intro K1 g1 g2 g3 g4 g5 g6 g7
    have hfs : 0 ≤ a_fst c σ fst ∧ a_fst c σ fst < 256 := by
      unfold a_fst
      split
      · exact h31
      · rename_i hz; exact hf0 hz
    have e5 : K1 40 5 = x_sp t n i := g1.1.2.2.1
    refine cM_takes g1.1 g1.2.1 g1.2.2.2.1 (by decide) (fun he K2 a b => brF (by decide) ⟨by omega, ?_⟩) (fun he => brT rfl ?_)
    · intro H32 e32
      have e63 : K2 63 d = b0 := by rw [x_N_at b 63 (by omega), g4 63 (by omega) (by omega)]; exact h63
      rw [e63] at e32
      rw [e32]
      have r2 : r_P t n (i + 1) m σ K2 := ⟨a, r_in_s g1.2.1 ⟨by omega, by omega⟩, r_N_tr g1.2.2.1 b, by rw [x_N_f b 7 (by omega)]; exact g1.2.2.2.1, p_inv_le g1.2.2.2.2 (by omega)⟩
      refine h1 he _ (r_P_31 r2 hb0) (rp_up (rp_N g2 b) (by omega)) ⟨by simp (disch := omega) only [e3_up_self, e3_up_ne]; rw [x_N_f b 32 (by omega)]; exact g3.1, fun a k h1 h2 h3 => by simp (disch := omega) only [e3_up_self, e3_up_ne]; rw [x_N_at b a (by omega)]; exact g3.2.1 a k h1 h2 h3, fun k h1 => by simp (disch := omega) only [e3_up_self, e3_up_ne]; rw [x_N_at b 66 (by omega)]; exact g3.2.2 k h1⟩ (fun a h1 h2 => by simp (disch := omega) only [e3_up_self, e3_up_ne]; rw [x_N_at b a (by omega)]; exact g4 a h1 h2) (by simp (disch := omega) only [e3_up_self, e3_up_ne]; rw [x_N_at b 64 (by omega)]; exact g5) (fun k hk => by simp (disch := omega) only [e3_up_self, e3_up_ne]; rw [x_N_at b 66 (by omega)]; exact g6 k hk) (by simp (disch := omega) only [e3_up_self, e3_up_ne]; rw [x_N_at b 65 (by omega)]; exact g7)
    · refine cM_isSign g1.1 (by decide) (fun he2 => brF (by decide) ⟨by omega, ?_⟩) (fun he2 => brT rfl ?_)
      · rw [g7]
        have bd148 : ∀ (q : Int) (K2 : e3_H), r_bad q H0 K2 → K2 40 27 = σ 40 27 → (∀ K', r_bad q H0 K' → Q 0 K' G) → wM_goesOn_148 Q d K2 G := by
          intro q K2 hb e27 hq
          have key : ∀ (f k : Nat) (K3 : e3_H), k + f = 8 → r_bad q H0 K3 → K3 40 27 = σ 40 27 → wM_goesOn_160 Q (f + 1) d k K3 G := by
            intro f
            induction f with
            | zero =>
              intro k K3 hk hb3 _
              unfold wM_goesOn_160 wM_goesOn_210
              exact brF (by omega) (cM_musted hb3.1 (hq K3 hb3))
            | succ f ih =>
              intro k K3 hk hb3 e3
              have go : ∀ v, wM_goesOn_203 Q (fun l1 l3 H G => wM_goesOn_160 Q (f + 1) l1 l3 H G) d k v (e3_w32 ((e3_w32 (8 * (K3 40 27))) + k)) K3 G := by
                intro v
                unfold wM_goesOn_203
                rw [e3, e3_w32_id (x := 8 * σ 40 27) (by omega) (by omega), e3_w32_id (x := 8 * σ 40 27 + k) (by omega) (by omega)]
                refine ⟨by omega, ?_⟩
                intro H1 e1
                rw [w_p1 (by omega), e1]
                exact ih (k + 1) _ (by omega) ⟨by simp (disch := omega) only [e3_up_self, e3_up_ne]; exact hb3.1, by simp (disch := omega) only [e3_up_self, e3_up_ne]; exact hb3.2.1, rp_up hb3.2.2 (by omega)⟩ (by simp (disch := omega) only [e3_up_self, e3_up_ne]; exact e3)
              show wM_goesOn_160 Q (f + 1 + 1) d k K3 G
              unfold wM_goesOn_160
              refine brT (by omega) ⟨by omega, fun _ => ⟨?_, go _⟩, fun _ => go _⟩
              rw [e3_w32_id (x := 8 * d) (by omega) (by omega), e3_w32_id (x := 8 * d + k) (by omega) (by omega)]
              omega
          unfold wM_goesOn_148
          refine ⟨by omega, ?_⟩
          intro H1 e1
          refine ⟨9, key 8 0 H1 (by omega) ?_ ?_⟩
          · rw [e1]; exact ⟨by simp (disch := omega) only [e3_up_self, e3_up_ne]; exact hb.1, by simp (disch := omega) only [e3_up_self, e3_up_ne]; exact hb.2.1, rp_up hb.2.2 (by omega)⟩
          · rw [e1]; simp (disch := omega) only [e3_up_self, e3_up_ne]; exact e27
        cases hu : a_un c σ b0 fst srt un with
        | true =>
          refine brF (by simp) ⟨by omega, ?_⟩
          rw [g4 62 (by omega) (by omega), h62]
          refine cM_fl g1.2.2.2.1 (by decide) (fun K2 hf => bd148 pl K2 (bad_N g2 hf) ?_ (h3 he2 hu))
          rw [hf.2.2.1 27 (by omega) (by omega)]
          exact r_N_f g1.2.2.1 27 (by omega)
        | false =>
          refine brT (by simp) ?_
          unfold wM_goesOn_148
          refine ⟨by omega, ?_⟩
          intro H1 e1
          rw [g5] at e1
          have key : ∀ (f k : Nat) (K3 : e3_H), k + f = 8 → r_P t n i m (a_srt (e3_up σ 40 31 (a_fst c σ fst)) (a_sr c σ srt) k) K3 → rp_fr H0 K3 → r_lo d K K3 → K3 59 d = p → K3 60 d = c → (∀ k : Nat, k < 8 → K3 66 (8 * d + k) = a_sr c σ srt k) → wM_goesOn_160 Q (f + 1) d k K3 G := by
            intro f
            induction f with
            | zero =>
              intro k K3 hk q1 q2 q3 q4 q5 q6
              have : k = 8 := by omega
              subst this
              unfold wM_goesOn_160 wM_goesOn_210
              refine brF (by omega) (cM_must q1.1 q1.2.1 q1.2.2.2.1 (by decide) (fun _ K4 a b => ?_) (fun hne => absurd he2 hne))
              exact h2 he2 hu K4 ⟨a, r_in_s q1.2.1 ⟨by omega, by omega⟩, r_N_tr q1.2.2.1 b, by rw [x_N_f b 7 (by omega)]; exact q1.2.2.2.1, p_inv_le q1.2.2.2.2 (by omega)⟩ (rp_N q2 b) (lo_tr q3 (lo_sc (sc_N (sc_rf K3) b))) (by rw [x_N_at b 59 (by omega)]; exact q4)
            | succ f ih =>
              intro k K3 hk q1 q2 q3 q4 q5 q6
              have e27' : K3 40 27 = σ 40 27 := by
                rw [r_N_f q1.2.2.1 27 (by omega), a_srt_at k 40 27 (by omega)]; simp (disch := omega) only [e3_up_self, e3_up_ne]
              show wM_goesOn_160 Q (f + 1 + 1) d k K3 G
              unfold wM_goesOn_160 wM_goesOn_203
              rw [e27', q5, e3_w32_id (x := 8 * d) (by omega) (by omega), e3_w32_id (x := 8 * d + k) (by omega) (by omega), e3_w32_id (x := 8 * σ 40 27) (by omega) (by omega), e3_w32_id (x := 8 * σ 40 27 + k) (by omega) (by omega), q6 k (by omega)]
              refine brT (by omega) ⟨by omega, brT (by omega) ⟨by omega, by omega, ?_⟩⟩
              intro H2 e2
              rw [w_p1 (by omega), e2]
              refine ih (k + 1) _ (by omega) ?_ (rp_up q2 (by omega)) ⟨by simp (disch := omega) only [e3_up_self, e3_up_ne]; exact q3.1, fun a k h1 h2 h3 => by simp (disch := omega) only [e3_up_self, e3_up_ne]; exact q3.2.1 a k h1 h2 h3, fun k h1 => by simp (disch := omega) only [e3_up_self, e3_up_ne]; exact q3.2.2 k h1⟩ (by simp (disch := omega) only [e3_up_self, e3_up_ne]; exact q4) (by simp (disch := omega) only [e3_up_self, e3_up_ne]; exact q5) (fun k hk => by simp (disch := omega) only [e3_up_self, e3_up_ne]; exact q6 k hk)
              have e : (e3_up σ 40 31 (a_fst c σ fst)) 40 27 = σ 40 27 := by simp (disch := omega) only [e3_up_self, e3_up_ne]
              show r_P t n i m (e3_up (a_srt (e3_up σ 40 31 (a_fst c σ fst)) (a_sr c σ srt) k) 58 (8 * (e3_up σ 40 31 (a_fst c σ fst)) 40 27 + k) (a_sr c σ srt k)) _
              rw [e]
              exact r_P_58 q1
          refine ⟨9, key 8 0 H1 (by omega) ?_ ?_ ?_ ?_ ?_ ?_⟩
          · rw [e1]; exact r_P_31 g1 hfs
          · rw [e1]; exact rp_up g2 (by omega)
          · rw [e1]; exact ⟨by simp (disch := omega) only [e3_up_self, e3_up_ne]; exact g3.1, fun a k h1 h2 h3 => by simp (disch := omega) only [e3_up_self, e3_up_ne]; exact g3.2.1 a k h1 h2 h3, fun k h1 => by simp (disch := omega) only [e3_up_self, e3_up_ne]; exact g3.2.2 k h1⟩
          · rw [e1]; simp (disch := omega) only [e3_up_self, e3_up_ne]; rw [g4 59 (by omega) (by omega)]; exact h59
          · rw [e1]; simp (disch := omega) only [e3_up_self, e3_up_ne]; rw [g4 60 (by omega) (by omega)]; exact h60
          · rw [e1]; intro k hk; simp (disch := omega) only [e3_up_self, e3_up_ne]; exact g6 k hk
      · unfold wM_goesOn_210
        exact cM_must g1.1 g1.2.1 g1.2.2.2.1 (by decide) (fun hz => absurd hz he2) (fun _ K' hf => h4 he2 he K' (bad_N g2 hf))
  unfold wM_goesOn
  rw [hd, e3_w32_id (x := d + 1 - 1) (by omega) (by omega), show d + 1 - 1 = d by omega, h59, e46]
  refine ⟨by omega, by omega, brF h46 ?_⟩
  by_cases hc1 : c = 1
  · refine cM_ends1 h hfr hd hd0 (by omega) (fun K1 a b e f g k => ?_)
    refine main K1 a b e (fun a h1 h2 => f a h1 (by omega) (by omega)) (by unfold a_fst; rw [if_pos hc1]; exact g) (fun j hj => by unfold a_sr; rw [if_pos hc1]; exact k j hj) ?_
    unfold a_un
    rw [if_pos hc1, f 65 (by omega) (by omega) (by omega), h65, hun hc1]
  · refine cM_ends2 h hfr hd hd0 (by omega) h63 hb0 (h64 hc1) h65 (h66 hc1) (fun K1 a b e f g k => ?_)
    refine main K1 a b e (fun a h1 h2 => f a h1 (by omega) (by omega)) (by unfold a_fst; rw [if_neg hc1, f 64 (by omega) (by omega) (by omega)]; exact h64 hc1) (fun j hj => by unfold a_sr; rw [if_neg hc1, g]; exact h66 hc1 j hj) ?_
    unfold a_un
    rw [if_neg hc1]
    exact k
end RG
