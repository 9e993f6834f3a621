/-- one letter at one FUNCTION, by its rules, of a text that is held -/
def Srl (σ H : e3_H) (Vs : Int → Int → Int → List (Int × Int)) (f : Int) (a : Int → Int) : a_SO := sr σ (mwl H a) (Vs f) f (σ 70 f).toNat 0
section SRO
variable {σ M : e3_H} {Vs : Int → Int → List (Int × Int)} {f mr : Nat}
theorem sr_ok : ∀ (n k : Nat), k + n = mr → (sr σ M Vs f n k).2.2.1 = 0 ∧ (sr σ M Vs f n k).2.2.2.1.length ≤ n ∧ ((sr σ M Vs f n k).1 = 0 → ∃ (k' : Nat) (w : Int), k' < mr ∧ (sr σ M Vs f n k).2.1 = 16 * (f : Int) + k' ∧ (0 ≤ w ∧ w < (((σ 74 (16 * (f : Int) + k')).toNat : Nat) : Int)) ∧ afit σ M (Vs k' w) ∧ (sr σ M Vs f n k).2.2.2.2 = nB σ M (Vs k' w)) := by
  intro n
  induction n with
  | zero => intro k _; exact ⟨rfl, Nat.le_refl _, fun z => absurd (show (1 : Int) = 0 from z) (by decide)⟩
  | succ n ih =>
    intro k hk
    have hi := ih (k + 1) (by omega)
    rw [show ((k + 1 : Nat) : Int) = (k : Int) + 1 by omega] at hi
    cases hl : lw σ M (Vs k) (σ 74 (16 * (f : Int) + k)).toNat 0 with
    | none =>
      rw [sr_n hl]
      exact ⟨hi.1, by have := hi.2.1; omega, hi.2.2⟩
    | some w =>
      obtain ⟨h1, h2⟩ := lw_inv _ 0 hl
      rw [sr_s hl]
      by_cases z : σ 78 (16 * (f : Int) + k) = 0
      · rw [if_pos z]
        exact ⟨rfl, Nat.zero_le _, fun _ => ⟨k, w, by omega, rfl, by omega, h2, rfl⟩⟩
      · rw [if_neg z]
        by_cases u1 : gdv σ (tvp σ M (nB σ M (Vs k w))) (16 * (f : Int) + k) = 1
        · rw [if_pos u1]
          exact ⟨rfl, by show 1 ≤ n + 1; omega, fun _ => ⟨k, w, by omega, rfl, by omega, h2, rfl⟩⟩
        · rw [if_neg u1]
          by_cases u2 : gdv σ (tvp σ M (nB σ M (Vs k w))) (16 * (f : Int) + k) = 2
          · rw [if_pos u2]
            exact ⟨rfl, by show 1 ≤ n + 1; omega, fun z => absurd (show (3 : Int) = 0 from z) (by decide)⟩
          · rw [if_neg u2]
            refine ⟨hi.1, ?_, hi.2.2⟩
            show (sr σ M Vs f n ((k : Int) + 1)).2.2.2.1.length + 1 ≤ n + 1
            have := hi.2.1
            omega
end SRO
section SPL
variable {n : Nat} {σ g H : e3_H} {G : e3_G} {m nf : Nat} {Vs : Int → Int → Int → List (Int × Int)} {mr0 : Nat → Nat} {way km : Nat → Int} {N : Nat → List a_ND}
theorem Srl_n {f : Nat} (hP : PXc σ m nf Vs mr0) (hf : f < nf) (a : Int → Int) : Srl σ H Vs f a = sr σ (mwl H a) (Vs f) f (mr0 f) ((0 : Nat) : Int) := by
  unfold Srl
  rw [(hP.2.2.2.2.2.2 f hf).1, Int.toNat_natCast] <;> rfl
/-- rules of a FUNCTION in the class, of a text that is held -/
theorem BRX_of {K : e3_H} {f : Nat} (hP : PXc σ m nf Vs mr0) (hX : TX σ g m nf Vs way km N K G) (hf : f < nf) (hVR : ∀ K', fr5 K K' → VR K') (hl : zLX K) : BRX σ m f (K 15 f) (mr0 f) (Vs f) K G := by
  obtain ⟨x14, hkd, hFY, hTS, hCT, hTD⟩ := id hX
  obtain ⟨cx2, pn, cnt2, mr, A, B, h1, h2, h3, h4, h5, h6, h7⟩ := hFY f hf
  obtain ⟨b1, b2, b3, b4, ⟨b5, b6, b7, b8⟩, b9, b10⟩ := h1
  obtain ⟨p1, ⟨p2, p3⟩, p4, p5, p6, p7, p8⟩ := id hP
  have hm : mr = mr0 f := by have := (p8 f hf).1; omega
  subst hm
  have h12 := p1.2.1
  have hi9 : ∀ K', fr5 K K' → ∀ a x : Int, 139 ≤ a → K' a x = K a x := fun K' h a x ha => h a x (by omega) (by omega) (by omega) (by omega)
  have tx : ∀ K', fr5 K K' → TX σ g m nf Vs way km N K' G := fun K' h => TX_fr hX (fun a x ha => h a x (by omega) (by omega) (by omega) (by omega))
  refine ⟨b6, fun K' h => ⟨b1, by rw [hi9 K' h _ _ b1.1]; exact b5, by rw [hi9 K' h _ _ b1.1]; exact ⟨b7, b8⟩, hVR K' h⟩, fun k hk => ?_⟩
  obtain ⟨d1, d2, lo, hi, L, ⟨e1, e2, e3, e4, e5, ⟨e6, e7, e8, e9⟩, e10⟩, d4⟩ := b9 k hk
  have hk2 : (0 : Int) ≤ (k : Int) ∧ (k : Int) < σ 70 f := by omega
  have hL4 : ∀ c, c ∈ L → c ≠ -4 := fun c hc => by have := (e8 c hc).1; omega
  obtain ⟨lo2, l0, L2, l1, l2, l3, l4, l5⟩ := p2 f (by omega) (by omega) k hk2.1 hk2.2
  have hL2 : L2 = L := ach_inj L2 L _ (fun c hc => by have := (l3 c hc).1; omega) hL4 l2 e7
  subst hL2
  obtain ⟨L3, n1, n2⟩ := SN1_of p3.2 (f := (f : Int)) (k := (k : Int)) ⟨by omega, by omega⟩ hk2
  have hL3 : L3 = L2 := ach_inj L3 L2 _ (fun c hc => (n2 c hc).1) hL4 n1 e7
  subst hL3
  obtain ⟨g1, g2, g3⟩ := zG_of hP hX f (by omega) (by omega)
  obtain ⟨⟨⟨_, _, _, _, _, _, _, _, q40, _⟩, _⟩, _⟩ := g3 k hk2.1 hk2.2
  obtain ⟨r1, _⟩ := CT_ru hCT hf k hk2.2
  obtain ⟨u1, u2, u3, u4, u5, u6, u7, u8, u9⟩ := id e1
  have er : (16 * (f : Int) + (k : Int)) / 16 = (f : Int) := by omega
  have em : (16 * (f : Int) + (k : Int)) % 16 = (k : Int) := by omega
  refine ⟨g_3 g cx2, cnt2, lo, hi, A k, L3, e4, fun K' h => ?_, ⟨e7, by rw [l1]; omega, e9, q40⟩, fun j c hj => ?_, fun w w0 w1 => ⟨d4 w w0 w1, VQ_of p1 p2 p5 ⟨by omega, by omega⟩ hk2 ⟨w0, w1⟩, NV1_of p3.2 p5 ⟨by omega, by omega⟩ hk2 ⟨w0, w1⟩⟩, GDP_of r1⟩
  · have tK := tx K' h
    have e15 : K' 15 f = K 15 f := h 15 f (by decide) (by decide) (by decide) (by decide)
    have eA : K' (K' (K' 15 f) 4) k = A k := by rw [e15, hi9 K' h _ _ b1.1, hi9 K' h _ _ b7]; exact d1
    obtain ⟨r1', _, r3', _, r5'⟩ := CT_ru tK.2.2.2.2.1 hf k hk2.2
    rw [eA] at r1' r3' r5'
    rw [e15] at eA
    refine ⟨⟨⟨u1, by rw [hi9 K' h _ _ u3]; exact u2, u3, u4, by rw [hi9 K' h _ _ u3]; exact u5, u6, fun t ht => by rw [hi9 K' h _ _ (by omega)]; exact u7 t ht, u8, u9⟩, fun q q0 q1 => ?_, zLX_eq hl (fun a x h1 h2 => h a x (by omega) (by omega) (by omega) (by omega)), ⟨tK.2.1, p1.2.2.2.2.1⟩⟩, eA, by rw [hi9 K' h _ _ u3]; exact e2, r5', r1', by rw [r3', em]⟩
    have hp := (e5 q q0 q1).1
    exact c_pt_keep hp ⟨[], (List.append_nil _).symm⟩ (fun _ _ _ => rfl) (fun _ _ _ => rfl) (Int.le_refl _) (fun _ _ _ _ _ => rfl) (fun _ _ _ => rfl) (Int.le_refl _) q1 (Int.le_refl _) (fun t => hi9 K' h _ t hp.1.1)
  · have hm := List.mem_of_getElem? hj
    have jl := (List.getElem?_eq_some_iff.mp hj).1
    refine ⟨⟨(e8 c hm).1, (e8 c hm).2.1⟩, (e8 c hm).2.2, (n2 c hm).2.2, by omega, ?_⟩
    have := l5 j c hj
    rw [er] at this
    exact this
/-- a step by rules is as it should be -/
theorem Srl_ok (hP : PXc σ m nf Vs mr0) (hTV : ∀ a : Int → Int, TV σ m (mwl H a)) (f : Nat) (a : Int → Int) (hf : f < nf) (hlt : LTk σ H f a) : SOk σ H f (Srl σ H Vs f a) := by
  rw [Srl_n hP hf]
  obtain ⟨p1, ⟨p2, p3⟩, p4, p5, p6, p7, p8⟩ := id hP
  have h70 := (p8 f hf).1
  have h16 := (p8 f hf).2.2.2.1
  have hcol : ∀ i : Int, 0 ≤ i → i < σ 68 f → oks (mwl H a) (mwl H a 135 i) (σ 69 (3 * (f : Int) + i)) := fun i i0 i1 => by
    rw [mwl_135]
    exact oks_eq (hlt i i0 i1) (fun b k hb => mwl_ne (by omega))
  obtain ⟨k1, k2, k3⟩ := sr_ok (σ := σ) (M := mwl H a) (Vs := Vs f) (f := f) (mr := mr0 f) (mr0 f) 0 (by omega)
  refine ⟨⟨by omega, by omega⟩, fun c0 => ?_⟩
  obtain ⟨k', w, hk', er, hw, hfa, eB⟩ := k3 c0
  have hk2 : (0 : Int) ≤ (k' : Int) ∧ (k' : Int) < σ 70 f := by omega
  have hw2 : 0 ≤ w ∧ w < σ 74 (16 * (f : Int) + k') := by
    have := ((p8 f hf).2.2.2.2.2 k' hk').1
    omega
  rw [er, eB]
  refine ⟨by omega, fun t ht => ?_⟩
  exact oks_eq ((fit_ok (hTV a) hcol (VQ_of p1 p2 p5 ⟨by omega, by omega⟩ hk2 hw2) (NV1_of p3.2 p5 ⟨by omega, by omega⟩ hk2 hw2) hfa).2 t ht) (fun b k hb => (mwl_ne (by omega)).symm)
/-- trying rules, in the class -/
theorem Srl_C (hJ : JI n H G) (hP : PXc σ m nf Vs mr0) (hX : TX σ g m nf Vs way km N H G) (hM : TM0 σ m nf H) (hV : VR H) (hl : zLX H) : SCx σ H G nf 0 (Srl σ H Vs) := fun f K n3 L a Q hf fK h5 h35' hlt h3 hL hLn hQ => ⟨fun _ => by
  have h12 := hP.1.2.1
  obtain ⟨g1, g2, g3⟩ := zG_of hP hX f (by omega) (by omega)
  have fr : ∀ K' : e3_H, fr5 K K' → ∀ b x : Int, b < 34 ∨ 39 < b → K' b x = H b x := fun K' h b x hb => (h b x (by omega) (by omega) (by omega) (by omega)).trans (fK b x hb)
  have vr : ∀ K' : e3_H, fr5 K K' → VR K' := fun K' h => VR_eq hV (fun b x hb => fr K' h b x (by omega)) (fr K' h 40 109 (by decide)) (KS_eq hJ (fun b x hb => fr K' h b x (by omega)))
  have hBX := BRX_of hP (TX_fr hX fK) hf vr (zLX_F hl fK)
  have hcol : ∀ i : Int, 0 ≤ i → i < σ 68 f → oks (mwl H a) (mwl H a 135 i) (σ 69 (3 * (f : Int) + i)) := fun i i0 i1 => by
    rw [mwl_135]
    exact oks_eq (hlt i i0 i1) (fun b k hb => mwl_ne (by omega))
  have hTV : TV σ m (mwl H a) := TV_of hJ hP hX hM hV (fun b x hb => mwl_ne (by omega)) (mwl_ne (by decide))
  refine ⟨mr0 f + 1, vS_br (M := mwl H a) (n3 := n3) hBX hTV hcol (fun K' h => ⟨?_, ?_, ?_, ?_, ?_⟩) (fun k hk => (g3 k (by omega) (by have := (hP.2.2.2.2.2.2 f hf).1; omega)).2.2.2) ⟨h5, by omega⟩ (by rw [fK 26 1 (by decide)]; exact hl.1.2) h3.1 (mr0 f) 0 K L (by omega) (frS_rf K) rfl h3.1 hL ?_ (fun x K2 hs => hQ x K2 ?_)⟩
  · exact TV_of hJ hP hX hM hV (fun b x hb => by rw [h35_ne (by omega)]; exact fr K' h b x (by omega)) (by rw [h35_ne (by decide)]; exact fr K' h 40 109 (by decide))
  · exact funext fun x => by rw [h35_ne (by decide), mwl_ne (by decide)]; exact fr K' h 28 x (by decide)
  · exact vt_cg (fun x => by rw [h35_ne (by decide), mwl_ne (by decide)]; exact fr K' h 132 x (by decide)) (fun x x0 x1 => by rw [h35_135, mwl_135, h 35 x (by decide) (by decide) (by decide) (by decide)]; exact h35' x x0 x1)
  · intro i i0 i1
    rw [h35_135, h 35 i (by decide) (by decide) (by decide) (by decide), h35' i i0 (by omega)]
    exact oks_eq (hlt i i0 i1) (fun b x hb => by rw [h35_ne (by omega)]; exact fr K' h b x (by omega))
  · exact fun b x hb => by rw [mwl_ne (by omega)]; exact (fr K' h b x (by omega)).symm
  · have h16 := (hP.2.2.2.2.2.2 f hf).2.2.2.1
    show (L.length : Int) + ((mr0 f : Nat) : Int) ≤ 1000000
    exact Int.le_trans (Int.add_le_add hLn (show ((mr0 f : Nat) : Int) ≤ 16 by omega)) (by decide)
  · rw [Srl_n hP hf]
    exact hs, fun z => absurd rfl z⟩
/-- trying rules, in the reference -/
theorem Srl_M {K0 : e3_H} (hJ : JI n H G) (hP : PXc σ m nf Vs mr0) (hX : TX σ g m nf Vs way km N H G) (hM : TM0 σ m nf H) (hV : VR H) (hl : zLX H) (f0 : zF 34 39 H K0) : SMx σ K0 G nf 0 (Srl σ H Vs) := fun f K n3 L a Q hf rK sK h135 hlt h3 hL hLn hQ => ⟨fun _ => by
  obtain ⟨p1, ⟨p2, p3⟩, p4, p5, p6, p7, p8⟩ := id hP
  have h12 := p1.2.1
  obtain ⟨g1, g2, g3⟩ := zG_of hP hX f (by omega) (by omega)
  have fr : ∀ b x : Int, b ≠ 40 → b < 34 ∨ (39 < b ∧ b < 94) ∨ (98 < b ∧ b < 135) ∨ 138 < b → K b x = H b x := fun b x h1 h2 => (rK.1 b x h1 (by omega)).trans (f0 b x (by omega))
  have fr40 : ∀ x : Int, x ≠ 71 → x < 119 ∨ 128 < x → K 40 x = H 40 x := fun x h1 h2 => (rK.2 x h1 h2).trans (f0 40 x (by decide))
  have c0 : K0 40 109 = K 40 109 := (rK.2 109 (by decide) (by decide)).symm
  rw [c0] at sK
  have lk : LTk σ H f a := fun i i0 i1 => oks_eq (hlt i i0 i1) (fun b x hb => (f0 b x (by omega)).symm)
  have hcol : ∀ i : Int, 0 ≤ i → i < σ 68 f → oks (mwl H a) (mwl H a 135 i) (σ 69 (3 * (f : Int) + i)) := fun i i0 i1 => by
    rw [mwl_135]
    exact oks_eq (lk i i0 i1) (fun b k hb => mwl_ne (by omega))
  have hTV : TV σ m (mwl H a) := TV_of hJ hP hX hM hV (fun b x hb => mwl_ne (by omega)) (mwl_ne (by decide))
  have h70 := (p8 f hf).1
  have h16 := (p8 f hf).2.2.2.1
  have e16 : e3_w32 (16 * (f : Int)) = 16 * (f : Int) + ((0 : Nat) : Int) := by rw [e3_w32_id (by omega) (by omega)]; omega
  refine ⟨mr0 f + 1, ?_⟩
  rw [e16]
  refine nM_br (σ := σ) (M := mwl H a) (m := m) (K0 := K) (n3 := n3) (Vs := Vs f) (by omega) g1 ⟨h70, h16⟩ (fun k hk => ?_) hTV hcol (fun K' h => ?_) (mr0 f) 0 K L (by omega) (zT_rf K) sK ⟨rfl, rfl⟩ h3.1 hL (Int.le_trans (Int.add_le_add hLn (show ((mr0 f : Nat) : Int) ≤ 16 by omega)) (by decide)) (fun x K2 hs => hQ x K2 (by rw [Srl_n hP hf]; exact hs))
  · have hk2 : (0 : Int) ≤ (k : Int) ∧ (k : Int) < σ 70 f := by omega
    obtain ⟨q1, _, q3⟩ := g3 k hk2.1 hk2.2
    obtain ⟨r1, _⟩ := CT_ru hX.2.2.2.2.1 hf k hk2.2
    have h74 := ((p8 f hf).2.2.2.2.2 k hk).1
    obtain ⟨⟨_, _, _, _, _, _, _, _, q40, _⟩, _⟩ := id q1
    exact ⟨q1, q3, GDP_of r1, ⟨h74, q40⟩, fun w w0 w1 => ⟨VQ_of p1 p2 p5 ⟨by omega, by omega⟩ hk2 ⟨w0, w1⟩, NV1_of p3.2 p5 ⟨by omega, by omega⟩ hk2 ⟨w0, w1⟩⟩⟩
  · have fK' : ∀ b x : Int, b ≠ 40 → b < 34 ∨ (39 < b ∧ b < 94) ∨ (98 < b ∧ b < 136) ∨ 138 < b → K' b x = K b x := fun b x h1 h2 => h.1 b x h1 (by omega) (by omega) (by omega)
    have fH : ∀ b x : Int, b ≠ 40 → b < 34 ∨ (39 < b ∧ b < 94) ∨ (98 < b ∧ b < 135) ∨ 138 < b → K' b x = H b x := fun b x h1 h2 => (fK' b x h1 (by omega)).trans (fr b x h1 h2)
    have k109 : K' 40 109 = K 40 109 := h.2 109 (by decide) (by decide) (by decide) (by decide) (by decide)
    have tv : TV σ m K' := TV_of hJ hP hX hM hV (fun b x hb => fH b x (by omega) (by omega)) (k109.trans (fr40 109 (by decide) (by decide)))
    refine ⟨⟨fun b x h1 h2 h3 => (fH b x (by omega) (by omega)).trans (hM.1 b x h1 h2 h3), tv, ⟨by rw [fH 26 1 (by decide) (by decide)]; exact hl.1.2, tv.1.1.trans k109⟩, fun i i0 i1 => ?_, funext fun x => ?_, vt_cg (fun x => ?_) (fun x x0 x1 => ?_)⟩, fun v => ?_⟩
    · rw [fK' 135 i (by decide) (by decide), h135 i i0 (by omega)]
      exact oks_eq (lk i i0 i1) (fun b x hb => fH b x (by omega) (by omega))
    · rw [mwl_ne (by decide)]; exact fH 28 x (by decide) (by decide)
    · rw [mwl_ne (by decide)]; exact fH 132 x (by decide) (by decide)
    · rw [mwl_135, fK' 135 x (by decide) (by decide)]; exact h135 x x0 x1
    · rw [mwl_ne (by decide)]; exact fH 129 v (by decide) (by decide), fun z => absurd rfl z⟩
variable {W : Int → e3_H → e3_G → Prop} {l1 l2 l3 l4 : Int} {R : Int → Int → e3_H → e3_G → Prop}
/-- plain, in both -/
theorem e1_plain_e (h : JI n H G) (hE : E1 H) (hR : JFe n H G E1 R) (hW : JW H R (fun Q H G => wM_plain Q l1 l2 l3 l4 H G) W) : wP_plain W l1 l2 l3 l4 H G := by
  have hW' : ∀ x K, zF 34 39 H K → wM_runs (fun y H2 G2 => R x y H2 G2) l1 l2 l3 l4 0 K G → W x K G := fun x K f hr => hW x K G (fun k => f 0 k (by decide)) hr
  obtain ⟨_, _, ⟨hl, hso⟩, ⟨hv, hmh⟩, hTx⟩ := id h
  rcases hTx with ⟨_, _, y3, _, _, y6⟩ | ⟨_, _, σ, g, m, nf, Vs, mr0, way, km, N, p1, p2, p3, p4, p5, p6⟩
  · exact e3_runs0 y3 y6 (hR (-1) n H G h hE (by omega) (fun _ => rfl)) hW'
  · have hTV : ∀ a : Int → Int, TV σ m (mwl H a) := fun a => TV_of h p1 p2 p5 hE.1 (fun b x hb => mwl_ne (by omega)) (mwl_ne (by decide))
    refine e3_runs h hE p1 p2 p5 (Srl_C h p1 p2 p5 hE.1 hl) (fun K0 f0 => Srl_M h p1 p2 p5 hE.1 hl f0) (fun f a hf hlt => Srl_ok p1 hTV f a hf hlt) (fun K f s _ => ?_) (fun x K K2 f s r w _ => ?_) hW'
    · have JK := JI_s h f s
      exact hR (-1) n K G JK (E1_s h hE n K G JK (FRs_of f (zR_rf K))) (by omega) (fun k => f 0 k (by decide))
    · have JK := JI_r (JI_s h f s) r w
      exact hR x n K2 G JK (E1_s h hE n K2 G JK (FRs_of f r)) (by omega) (fun k => by rw [r.1 0 k (by decide) (by decide)]; exact f 0 k (by decide))
end SPL
