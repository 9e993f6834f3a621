theorem O_ob_nm {R ru k pl : Int} {cnt : Nat} {H : e3_H} {G : e3_G} (h : O_ob R ru cnt H G) : O_ob R ru cnt (o_nm R k pl H) G := by
  obtain ⟨o1, o2, o3, ⟨o4, o5⟩, ⟨o6, o7⟩, ⟨o8, o9⟩⟩ := h
  exact ⟨o1, o2, by rw [o_nm_at (by omega)]; exact o3, ⟨by rw [o_nm_at (by omega)]; exact o4, o5⟩, ⟨by rw [o_nm_at (by omega)]; exact o6, o7⟩, ⟨by rw [o_nm_at (by omega)]; exact o8, o9⟩⟩
theorem U_ok_eq {σ H K : e3_H} {G : e3_G} {r a R : Int} (h : U_ok σ r a H G) (ha : a + 1 < R) (e : ∀ b x : Int, b < R → K b x = H b x) : U_ok σ r a K G := by
  obtain ⟨u1, u2, u3, u4, u5, u6, u7, u8, u9⟩ := h
  exact ⟨u1, by rw [e _ _ (by omega)]; exact u2, u3, u4, by rw [e _ _ (by omega)]; exact u5, u6, fun k hk => by rw [e _ _ ha]; exact u7 k hk, u8, u9⟩
/-- a pattern is visited: its NAMES, and itself if it is a test -/
theorem cO_pre {Q : e3_H → e3_G → Prop} {σ g H : e3_H} {G : e3_G} {R r ru q w d : Int} {n cnt : Nat} {pn : Int → Int} (hd : 0 ≤ d ∧ d ≤ 6) (hO : O_ob R ru cnt H G) (hU : U_ok σ r ru H G) (hru : ru + 1 < R) (hcn : cnt ≤ 100000) (ga : g_at G (g 0 q) (110, 10)) (ha : g 0 q < R) (hpn : H (g 0 q) 2 = pn q) (hp2 : 0 ≤ pn q ∧ pn q < cnt) (h5 : H (g 0 q) 5 = c_nam σ r (σ 53 q)) (h6 : H (g 0 q) 6 = c_nam σ r (σ 54 q)) (k5 : σ 53 q = -4 ∨ (0 ≤ σ 53 q ∧ σ 53 q < σ 56 r)) (k6 : σ 54 q = -4 ∨ (0 ≤ σ 54 q ∧ σ 54 q < σ 56 r)) (hw : H (g 0 q) 0 = c_wh (σ 46 q))
    (hc : ¬ (σ 46 q = 0 ∨ σ 46 q = 6) → 0 ≤ H R 1 ∧ H R 1 < cnt)
    (h1 : σ 46 q = 6 → wO_layAlternative (wO_lay n) (fun H12 G13 => wO_lay_73 (wO_lay n) Q H12 G13) R (g 0 q) w d (rw_1 R pn σ g q H) G)
    (h2 : σ 46 q = 0 → Q (rw_1 R pn σ g q H) G)
    (h3 : σ 46 q ≠ 0 → σ 46 q ≠ 6 → wO_layChain (wO_lay n) (fun H20 G21 => wO_lay_73 (wO_lay n) Q H20 G21) R (H (g 0 q) 7) w (d + 1) (rw_1 R pn σ g q H) G) : wO_lay (n + 1) R (g 0 q) w d H G Q := by
  have ob := ga_ob (c := 11) hO.2.1
  have obp := ga_ob (c := 10) ga
  have e1 : ∀ b x : Int, b < R → o_nm R (σ 53 q) (pn q) H b x = H b x := fun b x hb => o_nm_at (by omega)
  have e2 : ∀ b x : Int, b < R → o_nm R (σ 54 q) (pn q) (o_nm R (σ 53 q) (pn q) H) b x = H b x := fun b x hb => by rw [o_nm_at (by omega)]; exact e1 b x hb
  refine brF (by omega) ⟨obp, obp, ob, ?_⟩
  rw [h5, hpn]
  refine cO_holdName hO hU k5 ⟨obp, obp, ob, ?_⟩
  rw [e1 _ 6 ha, e1 _ 2 ha, h6, hpn]
  refine cO_holdName (O_ob_nm hO) (U_ok_eq hU hru e1) k6 ⟨obp, ?_⟩
  rw [e2 _ 0 ha, hw]
  unfold rw_1 at h1 h2 h3
  unfold c_wh
  by_cases z0 : σ 46 q = 0
  · rw [if_pos z0]
    rw [if_pos (Or.inl z0)] at h2
    exact brF (by decide) ⟨obp, brT rfl (h2 z0)⟩
  · rw [if_neg z0]
    by_cases z6 : σ 46 q = 6
    · rw [if_neg (by omega), if_pos z6]
      rw [if_pos (Or.inr z6)] at h1
      exact brT rfl ⟨ob, h1 z6⟩
    · have hz : ¬ (σ 46 q = 0 ∨ σ 46 q = 6) := by omega
      rw [if_neg hz] at h3
      have fin : wO_addTest (fun H16 G17 => (e3_ob G17 10 (g 0 q)) ∧ (e3_ob G17 11 R) ∧ (wO_layChain (wO_lay n) (fun H20 G21 => (wO_lay_73 (wO_lay n) Q H20 G21)) R (H16 (g 0 q) 7) w (e3_w32 (d + 1)) H16 G17)) R (g 0 q) (o_nm R (σ 54 q) (pn q) (o_nm R (σ 53 q) (pn q) H)) G := by
        refine cO_addTest (O_ob_nm (O_ob_nm hO)) hcn ga (c := H R 1) (by rw [o_nm_at (by omega), o_nm_at (by omega)]) (hc hz) (pl := pn q) (by rw [e2 _ 2 ha]; exact hpn) hp2 ⟨obp, ob, ?_⟩
        rw [e3_w32_id (x := d + 1) (by omega) (by omega)]
        have e7 : o_ts R (H R 1) (g 0 q) (pn q) (o_nm R (σ 54 q) (pn q) (o_nm R (σ 53 q) (pn q) H)) (g 0 q) 7 = H (g 0 q) 7 := by
          unfold o_ts
          rw [e3_up_ne (ne_1 (by omega)), e3_up_ne (ne_1 (by omega)), e3_up_ne (ne_1 (by omega))]
          exact e2 _ 7 ha
        rw [e7]
        exact h3 z0 z6
      by_cases z5 : σ 46 q = 5
      · rw [if_pos z5]
        exact brF (by decide) ⟨obp, brF (by decide) ⟨ob, fin⟩⟩
      · rw [if_neg z5, if_neg z6]
        exact brF (by decide) ⟨obp, brF (by decide) ⟨ob, fin⟩⟩
