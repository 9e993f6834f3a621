section CRP
variable {t : Int → Int} {n s m : Nat} {ru fu : Int}
theorem a_pat_no {f d i : Nat} {s0 : Int} {mu : Bool} {σ : e3_H} (h : a_okp t n s0 i σ = false ∨ mu = true ∨ 6 ≤ d) : a_pat t n (f + 1) s0 d mu i σ = .inl (x_sp t n i) := by
  unfold a_pat
  rw [if_pos h]
theorem cR_readPattern : ∀ f d : Nat, f + d = 6 → PatOK t n s m ru fu (f + 1) d (f + 3) := by
  intro f
  induction f with
  | zero =>
    intro d hfd s0 x fl0 mu muI i σ g H G Q hmu hM hp hn h16 h7 hs hx hok hfl
    have hd6 : d = 6 := by omega
    have hd := c_M_ad hM
    have hjs : i < s := hM.1.2.2.2.2.2.2.1
    have hgz := gz_pot hM
    have no : ∀ (c : Int) , c ≠ 0 → wR_readPattern_39 (wR_readPattern 2) Q s0 x d c H G := by
      intro c hc
      unfold wR_readPattern_39
      exact brF hc (cR_failHere hM.1 hc (fun K hf => hfl _ K G (a_pat_no (Or.inr (Or.inr (by omega)))) (c_bad_f hM (by omega) (c_E_rf _ _ _ _) hf) (by omega)))
    have no23 : wR_readPattern_23 (wR_readPattern 2) Q s0 x d H G := by
      unfold wR_readPattern_23 wR_readPattern_37
      exact cR_isTurnedRange hM.1 (fun y => ⟨fun _ => no 9 (by decide), fun _ => no 7 (by decide)⟩)
    refine cR_firstFault hM hp hn hs (fun _ => brT rfl ⟨fun _ => brF (by omega) no23, fun _ => no23⟩) (fun _ c hc => brF hc (no c hc))
  | succ f ih =>
    intro d hfd s0 x fl0 mu muI i σ g H G Q hmu hM hp hn h16 h7 hs hx hok hfl
    have hR := ih (d + 1) (by omega)
    have hd := c_M_ad hM
    have hjs : i < s := hM.1.2.2.2.2.2.2.1
    have hgz := gz_pot hM
    have no : a_okp t n s0 i σ = false ∨ mu = true ∨ 6 ≤ d → ∀ (c : Int) , c ≠ 0 → wR_readPattern_39 (wR_readPattern (f + 3)) Q s0 x d c H G := by
      intro hno c hc
      unfold wR_readPattern_39
      exact brF hc (cR_failHere hM.1 hc (fun K hf => hfl _ K G (a_pat_no hno) (c_bad_f hM (by omega) (c_E_rf _ _ _ _) hf) (by omega)))
    have no23 : mu = true → wR_readPattern_23 (wR_readPattern (f + 3)) Q s0 x d H G := by
      intro hm
      unfold wR_readPattern_23 wR_readPattern_37
      exact cR_isTurnedRange hM.1 (fun y => ⟨fun _ => no (Or.inr (Or.inl hm)) 9 (by decide), fun _ => no (Or.inr (Or.inl hm)) 7 (by decide)⟩)
    refine cR_firstFault hM hp hn hs (fun hokp => brT rfl ?_) (fun hno c hc => brF hc (no (Or.inl hno) c hc))
    cases hmm : mu with
    | true => exact brF (by rw [hmu, hmm]; decide) (no23 hmm)
    | false =>
      refine brT (by rw [hmu, hmm]; rfl) (brT (by omega) ?_)
      unfold wR_readPattern_39
      refine brT rfl ?_
      intro H1 G2 e1 e2
      subst e1 e2
      refine ⟨by omega, cA_init (fun K hfr hK => ?_)⟩
      have MK := c_M_al (e := (110, 10)) hM hK
      rw [(c_now MK.1).1]
      rw [hmm] at hok hfl
      rw [a_pat_beg, show (false || decide (6 ≤ d)) = false by rw [decide_eq_false (by omega)]; rfl] at hok hfl
      have gz1 : gz (G ++ [(110, 10)]) = gz G + 22 := by rw [gz_one]; simp only; omega
      have hq : c_lf t n s m ru fu σ g H G i s0 x (fun x8 H6 G7 => wR_readPattern_185 (wR_readPattern (f + 3)) Q s0 G.length x8 H6 G7) := by
        refine ⟨fun j σ1 K' hb M' E' e7 e8 hrw h9 => ?_, fun q K' hb hbad => ?_⟩
        · rw [hb] at hok hfl
          obtain ⟨b1, b2, b3, b4, b5, b6, b7, b8, b9, b10⟩ := a_beg_ok hb hp h16
          have nb := (nm_beg hb hp h16 rfl hn hs).1
          have e27 : σ1 40 27 = σ 40 27 := b4.2.1 27 (by omega) (by omega)
          have ok2 := c_leaf (fl0 := fl0) hM M' E' b1 b4 b2 b5 b6 b7 b8 b9 hx h7 e7 e8 hrw h9
          have key := cR_as (R := wR_readPattern (f + 3)) (Q := Q) hM ok2 rfl (by omega) b1 e27 b8 b5 b3 (by rw [e27]; exact nb) hs hok hfl
          rw [(g_new_at g (σ 40 16) G.length (g 3 x) fl0).1] at key
          exact key
        · rw [hb] at hfl
          unfold wR_readPattern_185 wR_readPattern_229 wR_readPattern_240
          exact brT rfl (brT rfl (hfl q K' _ rfl hbad (by omega)))
      have hr : c_rs t n s m ru fu σ g H G i (f + 1) d s0 x fl0 (fun x8 H6 G7 => wR_readPattern_185 (wR_readPattern (f + 3)) Q s0 G.length x8 H6 G7) := by
        intro j1 σ1 hb
        rw [hb] at hok hfl
        obtain ⟨b1, b2, b3, b4, b5, b6, b7, b8, b9, b10⟩ := a_beg_ok hb hp h16
        refine ⟨fun j σ2 p2 K2 G2 g2 he ok2 hg0 h54 hpi hnm hfr2 hlt => ?_, fun q K2 G2 he hbad hz => ?_⟩
        · simp only [if_true] at hok hfl
          rw [he] at hok hfl
          have hk2 : p2 = σ 40 16 ∧ j1 < j ∧ σ2 47 (σ 40 16) = s0 := by
            unfold a_rest at he
            rcases (b10 rfl).2 with ⟨c1, c2, c3, c4, c5, c6⟩ | ⟨c1, c2⟩
            · rw [if_pos c1] at he
              have e44 : σ1 44 = σ 44 := b4.2.2.1 44 (by omega) (by omega)
              have h44 := (hp.1.2.2.2.2 (a_fd (σ 42) (x_wo t n i) (a_nk σ)).toNat (by omega)).1
              rw [Int.toNat_of_nonneg c4] at h44
              have hcnt : ((0 : Nat) + (σ 44 (a_fd (σ 42) (x_wo t n i) (a_nk σ))).toNat : Int) ≤ σ1 44 (a_fd (σ 42) (x_wo t n i) (a_nk σ)) := by rw [e44, Int.toNat_of_nonneg h44]; omega
              have k1 := a_kids_ok (m := m) (fun s2 i2 σ2 j2 σ4 q hq g1 g2 _ _ => a_pat_ok (f + 1) s2 (d + 1) false i2 σ2 j2 σ4 q hq g1 g2) ⟨c4, c5⟩ _ _ _ _ _ _ _ _ he b3 (by omega) hp.2.1.1 (by omega) (Or.inl rfl) hcnt
              refine ⟨k1.2.1, k1.1, ?_⟩
              rw [own_kids (m := m) (fun s2 i2 σ2 j2 σ4 q hq g1 g2 _ _ => a_pat_ok (f + 1) s2 (d + 1) false i2 σ2 j2 σ4 q hq g1 g2) ⟨c4, c5⟩ _ _ _ _ _ _ _ _ he b3 (by omega) hp.2.1.1 (by omega) (Or.inl rfl) hcnt 47 (by omega) (by omega) (by omega) (by omega)]
              exact b5
            · rw [if_neg (by omega)] at he
              have h31 := hp.2.2.2.2.1
              have k1 := a_alts_ok (m := m) h31 (fun mu2 i2 σ2 j2 σ4 q hq g1 g2 => a_pat_ok (f + 1) s0 (d + 1) mu2 i2 σ2 j2 σ4 q hq g1 g2) _ _ _ _ _ _ _ _ _ _ _ he (by omega) b3 (by omega) hp.2.1.1 (by omega) (Or.inl rfl)
              refine ⟨k1.2.1, k1.1, ?_⟩
              rw [own_alts (m := m) (fun mu2 i2 σ2 j2 σ4 q hq g1 g2 => a_pat_ok (f + 1) s0 (d + 1) mu2 i2 σ2 j2 σ4 q hq g1 g2) h31 _ _ _ _ _ _ _ _ _ _ _ he b3 (by omega) hp.2.1.1 (by omega) (Or.inl rfl) 47 (by omega) (by omega) (by omega) (by omega)]
              exact b5
          obtain ⟨y1, y2, y3⟩ := hk2
          subst y1
          have e27 : σ2 40 27 = σ 40 27 := hfr2.2.1 27 (by omega) (by omega)
          have key := cR_as (R := wR_readPattern (f + 3)) (Q := Q) hM ok2 rfl hlt (by omega) e27 h54 y3 hpi (by rw [e27]; exact hnm) hs hok hfl
          rw [hg0] at key
          exact key
        · simp only [if_true] at hfl
          rw [he] at hfl
          unfold wR_readPattern_185 wR_readPattern_229 wR_readPattern_240
          exact brT rfl (brT rfl (hfl q K2 G2 rfl hbad hz))
      have ga : g_at (G ++ [(110, 10)]) (G.length : Int) (110, 10) := ga_new
      refine ⟨fun hty => ?_, fun hty => ?_, fun hty => ⟨ga_ob (c := 10) ga, ?_⟩, fun hty => ?_, fun hty => ?_, fun hty => ?_⟩
      · exact cR_bAlts (fl0 := fl0) hR (by omega) hM hp h16 hn h7 hs hx hK hfr hokp hty hr
      · exact cR_bRange hM hK hfr hokp (Or.inr hty) hq
      · exact cR_bName hM hp h16 hn hs hK hfr hokp hty hq
      · exact cR_bKind (fl0 := fl0) hR (by omega) hM hp h16 hn h7 hs hx hK hfr hokp hty hq hr
      · exact cR_bRange hM hK hfr hokp (Or.inl hty) hq
      · exact cR_bConst hM hK hfr hokp hty hq
end CRP
