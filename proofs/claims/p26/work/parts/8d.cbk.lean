section CBK
variable {t : Int → Int} {n s m : Nat} {ru fu : Int} {σ g H K : e3_H} {G : e3_G} {i : Nat} {s0 x fl0 : Int} {QQ : Int → e3_H → e3_G → Prop}
/-- a pattern that has begun and is open -/
theorem c_op_new {j1 : Nat} {σ1 K' : e3_H} {fk : Int} (hM0 : c_M t n s i m ru fu σ (g 3) H G) (hM : c_M t n s j1 m ru fu σ1 (g 3) K' (G ++ [(110, 10)])) (hE : c_E ru fu H G K' (G ++ [(110, 10)])) (hfr : a_fr (σ 40 16) σ σ1) (hpi : p_inv σ1 m j1) (hnm : nm_inv (σ 40 27) m σ1) (h16 : σ1 40 16 = σ 40 16 + 1) (hj : σ 40 16 + 1 ≤ (j1 : Int)) (h47 : σ1 47 (σ 40 16) = s0) (h51 : σ1 51 (σ 40 16) = -4) (h52 : σ1 52 (σ 40 16) = -4) (h54 : σ1 54 (σ 40 16) = -4) (hx : 0 ≤ x ∧ x < H fu 7) (e7 : K' fu 7 = H fu 7) (hrw : c_rw σ1 (σ 40 27) s0 x G.length (σ 40 16) K') (hfk : fk = if σ1 46 (σ 40 16) = 6 then 0 else 1) : c_op t n s m ru fu σ g H G fl0 (g 3 x) (σ 40 16) fk j1 σ1 (g_new g (σ 40 16) G.length (g 3 x) fl0) K' (G ++ [(110, 10)]) [] (-4) (-1) := by
  have hd := c_M_ad hM0
  obtain ⟨g0, g1, g2, g3⟩ := g_new_at g (σ 40 16) G.length (g 3 x) fl0
  have ga : g_at (G ++ [(110, 10)]) (G.length : Int) (110, 10) := ga_new
  refine ⟨by rw [g_new_3]; exact hM, hE, ⟨hfr, hpi, hnm, by omega, by omega, rfl⟩, ⟨c_p0_new hrw h47 (by omega) ga (by omega), g0, hrw.2.2.2.2.2.2.2.1, h54, hrw.2.2.2.2.2.2.2.2.2, h52⟩, ⟨?_, Or.inl h51⟩, ⟨fun q q0 q1 => by omega, fun q q2 y1 y2 y3 => by omega⟩, ⟨?_, fun c hc => (List.not_mem_nil hc).elim⟩, Or.inl ⟨rfl, rfl, rfl⟩, ⟨⟨fun b k _ _ hk => g3 b k (by omega), fun k _ _ => by rw [g_new_3]⟩, g1, g2⟩, hfk⟩
  · rw [g0, h51, hrw.2.2.2.2.2.2.2.2.1]; rfl
  · show K' G.length 7 < 0
    rw [hrw.2.2.2.2.2.2.2.2.1]; decide
/-- how a pattern with others hanging on it ends -/
def c_rs (t : Int → Int) (n s m : Nat) (ru fu : Int) (σ g H : e3_H) (G : e3_G) (i f d : Nat) (s0 x fl0 : Int) (QQ : Int → e3_H → e3_G → Prop) : Prop := ∀ j1 σ1, a_beg t n s0 false i σ = .inr (j1, σ1, true) → (∀ j σ2 p2 K2 G2 g2, a_rest t n f s0 d i σ j1 σ1 = .inr (j, σ2, p2) → c_ok2 t n s m ru fu i σ g H G fl0 (g 3 x) j σ2 (σ 40 16) K2 G2 g2 → g2 0 (σ 40 16) = G.length → σ2 54 (σ 40 16) = -4 → p_inv σ2 m j → nm_inv (σ 40 27) m σ2 → a_fr (σ 40 16) σ σ2 → σ 40 16 < σ2 40 16 → QQ 1 K2 G2) ∧ ∀ q K2 G2, a_rest t n f s0 d i σ j1 σ1 = .inl q → c_bad ru fu q H G K2 G2 → gz G2 ≤ pot H G fu + 128 + 60 * ((s : Int) - i + 1) → QQ 0 K2 G2
theorem cR_bKind {f d F : Nat} (hR : PatOK t n s m ru fu f (d + 1) F) (hd5 : d ≤ 5) (hM : c_M t n s i m ru fu σ (g 3) H G) (hp : p_inv σ m i) (h16 : σ 40 16 ≤ (i : Int)) (hn : nm_inv (σ 40 27) m σ) (h7 : H fu 7 ≤ (i : Int) + 1) (hs : 0 ≤ s0 ∧ s0 < 3 + m) (hx : 0 ≤ x ∧ x < H fu 7) (hK : ∀ b k : Int, b ≠ G.length → K b k = H b k) (hf : c_fresh G.length s0 x K) (hokp : a_okp t n s0 i σ = true) (hty : x_ty t n i = 259) (hq : c_lf t n s m ru fu σ g H G i s0 x QQ) (hr : c_rs t n s m ru fu σ g H G i f d s0 x fl0 QQ) : wR_readKindPattern (wR_readPattern F) QQ G.length d K (G ++ [(110, 10)]) := by
  have hd := c_M_ad hM
  have ga : g_at (G ++ [(110, 10)]) (G.length : Int) (110, 10) := ga_new
  have MK := c_M_al (e := (110, 10)) hM hK
  have EK := c_E_al (e := (110, 10)) hM hK
  have ob := ga_ob (c := 10) ga
  obtain ⟨f0, f1, f2, f3, f4, f5, f6, f7, f8, f9⟩ := hf
  have hkd := a_kd_ok hp hokp hty
  have beg : a_beg t n s0 false i σ = (if x_ty t n (i + 1) = 40 then
      (if σ 44 (a_fd (σ 42) (x_wo t n i) (a_nk σ)) = 0 then .inl (x_sp t n (i + 1) : Int) else .inr (i + 2, a_at (a_npat σ 5 s0) (σ 40 16) (a_fd (σ 42) (x_wo t n i) (a_nk σ)) 0, true))
    else .inr (i + 1, a_at (a_npat σ 5 s0) (σ 40 16) (a_fd (σ 42) (x_wo t n i) (a_nk σ)) 0, false)) := by
    unfold a_beg
    rw [if_neg (by rw [hokp]; simp), if_neg (by omega), if_neg (by omega), if_neg (by omega), if_neg (by omega), if_neg (by omega), if_neg (by omega), if_pos hty]
  have n9 := (c_now MK.1).2.2
  unfold wR_readKindPattern
  rw [n9]
  refine cK_fnd MK.2.1 hp.1 ?_
  have enk := k_nk hp.1
  rw [enk] at beg hkd
  have hrest : ∀ j1 σ1, a_rest t n f s0 d i σ j1 σ1 = a_kids t n (fun s2 i2 σ2 => a_pat t n f s2 (d + 1) false i2 σ2) (σ 40 16) (a_fd (σ 42) (x_wo t n i) m) (σ 44 (a_fd (σ 42) (x_wo t n i) m)).toNat 0 (-4) j1 σ1 := by
    intro j1 σ1
    unfold a_rest
    rw [if_pos hty, enk]
  rw [if_neg (by omega)]
  generalize hkk : a_fd (σ 42) (x_wo t n i) m = kd at *
  have ekd : (kd.toNat : Int) = kd := Int.toNat_of_nonneg hkd.1
  unfold wA_wantKind
  refine ⟨ob, ob, ?_⟩
  intro H1 e1
  refine ⟨ob, ?_⟩
  intro H3 e3
  refine ⟨ob, ?_⟩
  intro H5 e5
  have M5 : c_M t n s i m ru fu σ (g 3) H5 (G ++ [(110, 10)]) := by
    rw [e5, e3, e1]; exact c_M_up (c_M_up (c_M_up MK ga (by omega)) ga (by omega)) ga (by omega)
  have E5 : c_E ru fu H G H5 (G ++ [(110, 10)]) := by
    rw [e5, e3, e1]
    exact c_E_up (c_E_up (c_E_up EK (by omega) (by omega) (by omega) (by omega) (by omega)) (by omega) (by omega) (by omega) (by omega) (by omega)) (by omega) (by omega) (by omega) (by omega) (by omega)
  have g5 : ∀ b k : Int, b ≠ G.length → H5 b k = H b k := fun b k hb => by rw [e5, e3, e1, e3_up_ne (by omega), e3_up_ne (by omega), e3_up_ne (by omega)]; exact hK b k hb
  have a5 : H5 G.length 0 = 2 ∧ H5 G.length 3 = kd ∧ H5 G.length 4 = kd ∧ ∀ k : Int, k ≠ 0 → k ≠ 3 → k ≠ 4 → H5 G.length k = K G.length k := by
    rw [e5, e3, e1]
    refine ⟨by simp (disch := omega) only [e3_up_self, e3_up_ne], by simp (disch := omega) only [e3_up_self, e3_up_ne], by simp (disch := omega) only [e3_up_self, e3_up_ne], fun k k0 k3 k4 => by simp (disch := omega) only [e3_up_self, e3_up_ne]⟩
  obtain ⟨r1, r2, r3, r4, r5, r6, r7⟩ := at_row σ 5 s0 kd 0
  have hrw : ∀ K' : e3_H, (∀ k : Int, K' G.length k = H5 G.length k) → c_rw (a_at (a_npat σ 5 s0) (σ 40 16) kd 0) (σ 40 27) s0 x G.length (σ 40 16) K' := by
    intro K' hk'
    unfold c_rw c_hi c_lo
    rw [r1, r2, r5, hk', hk', hk', hk', hk', hk', hk', hk', hk', a5.1, a5.2.1, a5.2.2.1, a5.2.2.2 1 (by decide) (by decide) (by decide), a5.2.2.2 2 (by decide) (by decide) (by decide), a5.2.2.2 5 (by decide) (by decide) (by decide), a5.2.2.2 6 (by decide) (by decide) (by decide), a5.2.2.2 7 (by decide) (by decide) (by decide), a5.2.2.2 8 (by decide) (by decide) (by decide)]
    exact ⟨rfl, f1, f2, rfl, rfl, f5, Or.inl rfl, f6, f7, f8⟩
  refine cT_stp M5.1 ⟨by omega, by omega⟩ (fun K7 a7 b7 => ?_)
  have M7 := c_M_s M5 a7 b7
  have E7 := c_E_C E5 hd.1.1 hd.2.1.1 hd.2.2.1.1 b7
  have at7 : ∀ a k : Int, a ≠ 3 → K7 a k = H5 a k := fun a k ha => b7.1 a k (by simp only [List.mem_cons, List.not_mem_nil, or_false]; exact ha)
  rw [(c_now M7.1).1]
  have hjs : i + 1 < s := M7.1.2.2.2.2.2.2.1
  refine ⟨fun h40 => ?_, fun h40 => ?_⟩
  · rw [if_pos h40] at beg
    rw [← ekd]
    refine cK_partCount (σ := σ) M7.2.1 (by omega) hp.1.2.1 ?_
    rw [ekd]
    have h44 := (hp.1.2.2.2.2 kd.toNat (by omega)).1
    rw [ekd] at h44
    refine ⟨fun h0 => cR_failHere M7.1 (by decide) (fun K8 hf8 => ⟨Or.inl rfl, hq.2 _ K8 (by rw [beg, if_pos h0]) (c_bad_f M7 (by omega) E7 hf8)⟩), fun h0 => ?_⟩
    rw [if_neg h0] at beg
    obtain ⟨b1, b2, b3, b4, b5, b6, b7', b8, b9, b10⟩ := a_beg_ok beg hp h16
    have nb := (nm_beg beg hp h16 rfl hn hs).1
    refine cT_stp M7.1 ⟨by omega, by omega⟩ (fun K9 a9 b9' => ?_)
    have M9 := c_M_s M7 a9 b9'
    have E9 := c_E_C E7 hd.1.1 hd.2.1.1 hd.2.2.1.1 b9'
    have at9 : ∀ a k : Int, a ≠ 3 → K9 a k = H5 a k := fun a k ha => (b9'.1 a k (by simp only [List.mem_cons, List.not_mem_nil, or_false]; exact ha)).trans (at7 a k ha)
    have e7 : K9 fu 7 = H fu 7 := by rw [at9 _ _ (by omega)]; exact g5 _ _ (by omega)
    have e8 : K9 fu 8 = H fu 8 := by rw [at9 _ _ (by omega)]; exact g5 _ _ (by omega)
    have opn := c_op_new (fl0 := fl0) (fk := 1) hM (c_M_at M9 r6 r7) E9 b4 b3 nb b2 (by omega) b5 b6 b7' b8 hx e7 (hrw K9 (fun k => at9 _ _ (by omega))) (by rw [r1]; rfl)
    obtain ⟨hr1, hr2⟩ := hr _ _ beg
    have ecn : (σ 44 kd).toNat = ((σ 44 kd).toNat - 1) + 1 := by omega
    have ec2 : (((σ 44 kd).toNat - 1 : Nat) : Int) + 1 = σ 44 kd := by omega
    refine ⟨(σ 44 kd).toNat - 1 + 1 + 1, brT (by omega) (brF (by decide) ?_)⟩
    have key := cR_kids (QQ := QQ) (cnt := (σ 44 kd).toNat) hR hd5 hM hp.2.1.1 (kd := kd.toNat) (by omega) ((σ 44 kd).toNat - 1) 0 (i + 2) (a_at (a_npat σ 5 s0) (σ 40 16) kd 0) _ K9 _ [] (-4) (-1) (by omega) (by rw [ekd, r6 44 kd (by omega) (by omega)]; omega) opn r1 (Or.inl ⟨rfl, rfl⟩) (by omega) (by omega) (by omega) (by rw [pot_new hM e7 e8]; omega)
    rw [ekd, ← ecn, ← hrest] at key
    have := key hr1 hr2
    rw [show (((σ 44 kd).toNat : Nat) : Int) = σ 44 kd by omega] at this
    rw [← ecn]
    exact this
  · rw [if_neg h40] at beg
    refine hq.1 _ _ K7 beg (c_M_at M7 r6 r7) E7 ?_ ?_ (hrw K7 (fun k => at7 _ _ (by omega))) ?_
    · rw [at7 _ _ (by omega)]; exact g5 _ _ (by omega)
    · rw [at7 _ _ (by omega)]; exact g5 _ _ (by omega)
    · rw [at7 _ _ (by omega), a5.2.2.2 9 (by decide) (by decide) (by decide)]; exact f9
theorem cR_bAlts {f d F : Nat} (hR : PatOK t n s m ru fu (f + 1) (d + 1) F) (hd5 : d ≤ 5) (hM : c_M t n s i m ru fu σ (g 3) H G) (hp : p_inv σ m i) (h16 : σ 40 16 ≤ (i : Int)) (hn : nm_inv (σ 40 27) m σ) (h7 : H fu 7 ≤ (i : Int) + 1) (hs : 0 ≤ s0 ∧ s0 < 3 + m) (hx : 0 ≤ x ∧ x < H fu 7) (hK : ∀ b k : Int, b ≠ G.length → K b k = H b k) (hf : c_fresh G.length s0 x K) (hokp : a_okp t n s0 i σ = true) (hty : x_ty t n i = 40) (hr : c_rs t n s m ru fu σ g H G i (f + 1) d s0 x fl0 QQ) : wR_readAlternatives (wR_readPattern F) QQ G.length d K (G ++ [(110, 10)]) := by
  have hd := c_M_ad hM
  have ga : g_at (G ++ [(110, 10)]) (G.length : Int) (110, 10) := ga_new
  have MK := c_M_al (e := (110, 10)) hM hK
  have EK := c_E_al (e := (110, 10)) hM hK
  have ob := ga_ob (c := 10) ga
  obtain ⟨f0, f1, f2, f3, f4, f5, f6, f7, f8, f9⟩ := hf
  have beg : a_beg t n s0 false i σ = .inr (i + 1, a_at (a_npat σ 6 s0) (σ 40 16) 0 0, true) := by
    unfold a_beg
    rw [if_neg (by rw [hokp]; simp), if_neg (by omega), if_neg (by omega), if_neg (by omega), if_neg (by omega), if_neg (by omega), if_neg (by omega), if_neg (by omega), if_pos hty]
  obtain ⟨b1, b2, b3, b4, b5, b6, b7', b8, b9, b10⟩ := a_beg_ok beg hp h16
  have nb := (nm_beg beg hp h16 rfl hn hs).1
  obtain ⟨r1, r2, r3, r4, r5, r6, r7⟩ := at_row σ 6 s0 0 0
  obtain ⟨hr1, hr2⟩ := hr _ _ beg
  have hrest : a_rest t n (f + 1) s0 d i σ (i + 1) (a_at (a_npat σ 6 s0) (σ 40 16) 0 0) = a_alts t n (fun mu2 i2 σ2 => a_pat t n (f + 1) s0 (d + 1) mu2 i2 σ2) (σ 40 16) (x_sp t n i) (σ 40 31) 7 0 (-4) 0 (fun _ => 0) false (i + 1) (a_at (a_npat σ 6 s0) (σ 40 16) 0 0) := by
    unfold a_rest
    rw [if_neg (by omega)]
  rw [hrest] at hr1 hr2
  have n8 := (c_now MK.1).2.1
  have hru : K 14 7 = ru := MK.2.2.1.1
  have h6 : K ru 6 = lb (c_nm σ) 8 := MK.2.2.1.2.2.2.2.2.2.2.1
  unfold wR_readAlternatives
  rw [hru, n8, h6]
  refine ⟨ga_ob (c := 9) MK.2.2.1.2.2.1, ob, ?_⟩
  intro H1 e1
  refine ⟨ob, ?_⟩
  intro H4 e4
  have M4 : c_M t n s i m ru fu σ (g 3) H4 (G ++ [(110, 10)]) := by rw [e4, e1]; exact c_M_up (c_M_up MK ga (by omega)) ga (by omega)
  have E4 : c_E ru fu H G H4 (G ++ [(110, 10)]) := by rw [e4, e1]; exact c_E_up (c_E_up EK (by omega) (by omega) (by omega) (by omega) (by omega)) (by omega) (by omega) (by omega) (by omega) (by omega)
  have g4 : ∀ b k : Int, b ≠ G.length → H4 b k = H b k := fun b k hb => by rw [e4, e1, e3_up_ne (by omega), e3_up_ne (by omega)]; exact hK b k hb
  have a4 : H4 G.length 0 = 3 ∧ H4 G.length 9 = 0 ∧ ∀ k : Int, k ≠ 0 → k ≠ 9 → H4 G.length k = K G.length k := by
    rw [e4, e1]
    refine ⟨by simp (disch := omega) only [e3_up_self, e3_up_ne], by simp (disch := omega) only [e3_up_self, e3_up_ne], fun k k0 k3 => by simp (disch := omega) only [e3_up_self, e3_up_ne]⟩
  have e7 : H4 fu 7 = H fu 7 := g4 _ _ (by omega)
  have e8 : H4 fu 8 = H fu 8 := g4 _ _ (by omega)
  have e31 : (a_at (a_npat σ 6 s0) (σ 40 16) 0 0) 40 31 = σ 40 31 := r7 31 (by omega)
  have eup : e3_up (a_at (a_npat σ 6 s0) (σ 40 16) 0 0) 40 31 (σ 40 31) = a_at (a_npat σ 6 s0) (σ 40 16) 0 0 := by
    have := up_same (a_at (a_npat σ 6 s0) (σ 40 16) 0 0) 40 31
    rw [e31] at this
    exact this
  have h31 := hp.2.2.2.2.1
  refine ⟨8, brF (by omega) (brT rfl ?_)⟩
  refine cR_alts (fl0 := fl0) (code := g 3 x) hR hd5 hM hp.2.1.1 hs rfl h31 hn 6 0 i (a_at (a_npat σ 6 s0) (σ 40 16) 0 0) (g_new g (σ 40 16) G.length (g 3 x) fl0) H4 _ [] (-4) (-1) 0 (fun _ => 0) false _ 1 (by omega) ⟨by omega, by omega⟩ ⟨M4.1, fun K1 a1 b1 => ?_⟩ r1 b5 (Or.inl ⟨rfl, rfl, a4.2.1, rfl⟩) (fun k _ _ => r6 58 _ (by omega) (by omega)) (by omega) (by omega) (by omega) (by rw [pot_new hM e7 e8]; omega) ?_ ?_ ?_
  · have M1 := c_M_s M4 a1 b1
    have at1 : ∀ a k : Int, a ≠ 3 → K1 a k = H4 a k := fun a k ha => b1.1 a k (by simp only [List.mem_cons, List.not_mem_nil, or_false]; exact ha)
    refine c_op_new hM (c_M_at M1 r6 r7) (c_E_C E4 hd.1.1 hd.2.1.1 hd.2.2.1.1 b1) b4 b3 nb b2 (by omega) b5 b6 b7' b8 hx (by rw [at1 _ _ (by omega)]; exact e7) ?_ (by rw [r1]; rfl)
    unfold c_rw c_hi c_lo
    rw [r1, r5, at1 _ _ (by omega), at1 _ _ (by omega), at1 _ _ (by omega), at1 _ _ (by omega), at1 _ _ (by omega), at1 _ _ (by omega), at1 _ _ (by omega), at1 _ _ (by omega), at1 _ _ (by omega), a4.1, a4.2.2 1 (by decide) (by decide), a4.2.2 2 (by decide) (by decide), a4.2.2 3 (by decide) (by decide), a4.2.2 4 (by decide) (by decide), a4.2.2 5 (by decide) (by decide), a4.2.2 6 (by decide) (by decide), a4.2.2 7 (by decide) (by decide), a4.2.2 8 (by decide) (by decide)]
    exact ⟨rfl, f1, f2, f3, f4, f5, Or.inl rfl, f6, f7, f8⟩
  · intro j σ2 p2 he
    rw [eup] at he
    have k1 := a_alts_ok (m := m) h31 (fun mu2 i2 σ2 j2 σ4 q hq g1 g2 => a_pat_ok (f + 1) s0 (d + 1) mu2 i2 σ2 j2 σ4 q hq g1 g2) _ _ _ _ _ _ _ _ _ _ _ he (by omega) b3 (by omega) hp.2.1.1 (by omega) (Or.inl rfl)
    have n1 := nm_alts (m := m) (r := σ 40 27) (σB := a_at (a_npat σ 6 s0) (σ 40 16) 0 0) (fun mu2 i2 σ2 j2 σ4 q hq g1 g2 => a_pat_ok (f + 1) s0 (d + 1) mu2 i2 σ2 j2 σ4 q hq g1 g2) (fun mu2 i2 σ2 j2 σ4 q hq g1 g2 g5 g6 => nm_pat (f + 1) s0 (d + 1) mu2 i2 σ2 j2 σ4 q hq g1 g2 hs.1 hs.2 g5 g6) h31 e31 _ _ _ _ _ _ _ _ _ _ _ he b3 (by omega) hp.2.1.1 (by omega) (r7 27 (by omega)) e31 nb (fun _ _ _ => rfl) (by omega) (fun _ => rfl) (fun hz => absurd rfl hz)
    exact ⟨n1.1, k1.2.2.2.2.1, fr_tr b4 k1.2.2.2.2.2 (by omega)⟩
  · intro j σ2 p2 K2 G2 g2 he
    rw [eup] at he
    exact hr1 j σ2 p2 K2 G2 g2 he
  · intro q K2 G2 he
    rw [eup] at he
    exact hr2 q K2 G2 he
end CBK
