/-- one letter at one FUNCTION, by the tree, of a text that is held -/
def Sft (σ H : e3_H) (Vs : Int → Int → Int → List (Int × Int)) (mr0 : Nat → Nat) (way : Nat → Int) (σt : Nat → e3_H) (mt kk : Nat → Nat) (f : Int) (a : Int → Int) : a_SO := STo σ (mwl H a) f (rls σ f (Vs f) false (mr0 f.toNat)) (wk (σt f.toNat) (mt f.toNat) (RR σ f (Vs f) false (mr0 f.toNat)) (way f.toNat) (mwl H a) (vro (rls σ f (Vs f) false (mr0 f.toNat))) (kk f.toNat) [])
section SJT
variable {n : Nat} {σ g H : e3_H} {G : e3_G} {m nf : Nat} {Vs : Int → Int → Int → List (Int × Int)} {mr0 : Nat → Nat} {way km : Nat → Int} {N : Nat → List a_ND} {σt : Nat → e3_H} {mt kk : Nat → Nat} {D : Nat → List a_PT}
theorem Sft_n (f : Nat) (a : Int → Int) : Sft σ H Vs mr0 way σt mt kk f a = STo σ (mwl H a) f (rls σ f (Vs f) false (mr0 f)) (wk (σt f) (mt f) (RR σ f (Vs f) false (mr0 f)) (way f) (mwl H a) (vro (rls σ f (Vs f) false (mr0 f))) (kk f) []) := by
  unfold Sft
  rw [Int.toNat_natCast]
theorem TRD_of {f : Nat} (h : TRX σ nf Vs mr0 way N σt mt kk D H) (hf : f < nf) : TRD (σt f) (mt f) (RR σ f (Vs f) false (mr0 f)) (way f) (N f) (D f) := fun j π hj => by
  obtain ⟨d, a1, a2, ⟨k, N', X, a3, _⟩, a4⟩ := (h f hf).2.2.2.2.2 j π hj
  refine ⟨d, a1, a2, ⟨k, N', a3⟩, fun x v hv => ?_⟩
  obtain ⟨c, c1, c2, _⟩ := a4 x v hv
  exact ⟨c, c1, c2⟩
theorem RTt_of {f : Nat} (h : TRX σ nf Vs mr0 way N σt mt kk D H) (hf : f < nf) : RT (σt f) f (RR σ f (Vs f) false (mr0 f)) := by
  obtain ⟨_, hA, ⟨p1, ⟨p2, p3⟩, p4, p5, p6, p7, p8⟩, _⟩ := h f hf
  have := (SFT_of (un := false) p1 p2 p5 p6 hf p7 (p8 f hf).2).1
  rw [RR_AK hA]
  exact this
/-- a step by a tree is as it should be -/
theorem Sft_ok (hP : PXc σ m nf Vs mr0) (hX : TX σ g m nf Vs way km N H G) (hTR : TRX σ nf Vs mr0 way N σt mt kk D H) (hTV : ∀ a : Int → Int, TV σ m (mwl H a)) (f : Nat) (a : Int → Int) (hf : f < nf) (hlt : LTk σ H f a) : SOk σ H f (Sft σ H Vs mr0 way σt mt kk f a) := by
  rw [Sft_n]
  obtain ⟨n1, hA, hPt, d0, hg, hD⟩ := hTR f hf
  have hcol : ∀ i : Int, 0 ≤ i → i < σ 68 f → oks (mwl H a) (mwl H a 135 i) (σ 69 (3 * (f : Int) + i)) := fun i i0 i1 => by
    rw [mwl_135]
    exact oks_eq (hlt i i0 i1) (fun b k hb => mwl_ne (by omega))
  obtain ⟨k1, k2, k3⟩ := wk_ok (TRD_of hTR hf) n1 (RTt_of hTR hf) hA hPt.1.2.2.2.2.1 hPt.2.2.2.2.1 (RLX_of hP hX hf) (hTV a) hcol (kk f) [] 0 d0 hg PV_nil
  refine ⟨⟨?_, ?_⟩, fun c0 => ?_⟩
  · show (wk (σt f) (mt f) (RR σ f (Vs f) false (mr0 f)) (way f) (mwl H a) (vro (rls σ f (Vs f) false (mr0 f))) (kk f) []).2.2.1 ≤ 120
    omega
  · show ((wk (σt f) (mt f) (RR σ f (Vs f) false (mr0 f)) (way f) (mwl H a) (vro (rls σ f (Vs f) false (mr0 f))) (kk f) []).2.2.2.map (fun r => 100 * (f : Int) + r % 16)).length ≤ 120
    rw [List.length_map]
    omega
  · obtain ⟨r, w, V, v1, v3, v4, hfit⟩ := k3 c0
    obtain ⟨⟨k, Vk, er, _, _, _⟩, _⟩ := RLM_of hP hX hf _ r w V v1
    have h74 : ∀ k : Nat, k < mr0 f → 0 ≤ σ 74 (16 * (f : Int) + k) := fun k hk => ((hP.2.2.2.2.2.2 f hf).2.2.2.2.2 k hk).1
    obtain ⟨k', v', hk', _, _, ee⟩ := rls_at (mr0 f) _ (r, w, V) h74 v1
    have e70 := (hP.2.2.2.2.2.2 f hf).1
    have er' : r = 16 * (f : Int) + (k' : Int) := (Prod.mk.inj ee).1
    show (16 * (f : Int) ≤ rro (rls σ f (Vs f) false (mr0 f)) _ ∧ rro (rls σ f (Vs f) false (mr0 f)) _ < 16 * (f : Int) + σ 70 f) ∧ ∀ n : Nat, (n : Int) < σ 56 (rro (rls σ f (Vs f) false (mr0 f)) _) → oks H (nB σ (mwl H a) (vro (rls σ f (Vs f) false (mr0 f)) _) n) (σ 58 (8 * rro (rls σ f (Vs f) false (mr0 f)) _ + n))
    rw [rro_at v1, vro_at v1]
    refine ⟨by omega, fun n hn => ?_⟩
    refine oks_eq (nB_ok v4 (fun p hp => ?_) n hn) (fun b k hb => (mwl_ne (by omega)).symm)
    obtain ⟨A, B, e⟩ := List.append_of_mem hp
    exact vis_ok (hTV a) hcol v3 (A.length + 1) A p B (by omega) e (fun y hy => hfit y (by rw [e]; exact List.mem_append_left _ hy))
theorem TX_fr {K : e3_H} (hX : TX σ g m nf Vs way km N H G) (e : ∀ a k : Int, a < 34 ∨ 39 < a → K a k = H a k) : TX σ g m nf Vs way km N K G := TX_lo hX (fun a x ha => e a x (by omega))
/-- sorting one letter by the tree, in the class -/
theorem Sft_C (hJ : JI n H G) (hP : PXc σ m nf Vs mr0) (hX : TX σ g m nf Vs way km N H G) (hN : ∀ f : Nat, f < nf → NCt (N f)) (hM : TM0 σ m nf H) (hV : VR H) (hl : zLX H) (hTR : TRX σ nf Vs mr0 way N σt mt kk D H) : SCx σ H G nf 1 (Sft σ H Vs mr0 way σt mt kk) := fun f K n3 L a Q hf fK h5 h35' hlt h3 hL hLn hQ => ⟨fun z => absurd z (by decide), fun _ => by
  obtain ⟨n1, hA, hPt, d0, hg, hD⟩ := hTR f hf
  obtain ⟨cx, cnt, t1, t2, _⟩ := hX.2.2.2.2.2 f hf
  have h12 := hP.1.2.1
  obtain ⟨g1, g2, g3⟩ := zG_of hP hX f (by omega) (by omega)
  obtain ⟨L0, l1, l2, _⟩ := id t2.2.2
  have fr : ∀ K' : e3_H, fr5 K K' → ∀ b x : Int, b < 34 ∨ 39 < b → K' b x = H b x := fun K' h b x hb => (h b x (by omega) (by omega) (by omega) (by omega)).trans (fK b x hb)
  have vr : ∀ K' : e3_H, fr5 K K' → VR K' := fun K' h => VR_eq hV (fun b x hb => fr K' h b x (by omega)) (fr K' h 40 109 (by decide)) (KS_eq hJ (fun b x hb => fr K' h b x (by omega)))
  have hfu : 139 ≤ K 15 f := by rw [fK 15 f (by decide)]; exact t2.1
  have hK : ∀ K' : e3_H, fr5 K K' → CWX σ (K 15 f) (K (K 15 f) 10) cx cnt (N f) (rls σ f (Vs f) false (mr0 f)) K' G := fun K' h => by
    have e15 : K' 15 f = K 15 f := h 15 f (by decide) (by decide) (by decide) (by decide)
    have eH : K' 15 f = H 15 f := fr K' h 15 f (by decide)
    have pl : c_pl K' G (K' 15 f) cx := by
      rw [eH]
      have := c_pl_eq2 (K := K') (E := []) t2 (fun b x hb => fr K' h b x (by
        have := t2.1
        rcases hb with ⟨z, _⟩ | z | z
        · omega
        · omega
        · omega))
      rw [List.append_nil] at this
      exact this
    have c7 : K' (K' 15 f) 7 = (cnt : Int) := by rw [eH, fr K' h _ 7 (by have := t2.1; omega)]; exact t1
    have := CWX_of hP (TX_fr hX (fr K' h)) hf (vr K' h) (zLX_eq hl (fun b x h1 h2 => fr K' h b x (by omega))) pl c7
    rw [e15, h (K 15 f) 10 (by omega) (by omega) (by omega) (by omega)] at this
    exact this
  have rf : fr5 K K := fun _ _ _ _ _ _ => rfl
  have CK := hK K rf
  have tv : TV σ m (h35 K) := TV_of hJ hP hX hM hV (fun b x hb => by rw [h35_ne (by omega)]; exact fr K rf b x (by omega)) (by rw [h35_ne (by decide)]; exact fr K rf 40 109 (by decide))
  have hcol : ∀ i : Int, 0 ≤ i → i < σ 68 f → oks (h35 K) (h35 K 135 i) (σ 69 (3 * (f : Int) + i)) := fun i i0 i1 => by
    rw [h35_135, h35' i i0 (by omega)]
    exact oks_eq (hlt i i0 i1) (fun b x hb => by rw [h35_ne (by omega)]; exact fr K rf b x (by omega))
  have e28 : (h35 K) 28 = (mwl H a) 28 := funext fun x => by rw [h35_ne (by decide), mwl_ne (by decide)]; exact fr K rf 28 x (by decide)
  have evt : ∀ x : Int, vt (h35 K) x = vt (mwl H a) x := vt_cg (fun x => by rw [h35_ne (by decide), mwl_ne (by decide)]; exact fr K rf 132 x (by decide)) (fun x x0 x1 => by rw [h35_135, mwl_135]; exact h35' x x0 x1)
  refine ⟨ga_ob (c := 8) CK.2.2.2.1.2.1, kk f, ?_⟩
  have key := vS_10 (Q := Q) (D := D f) (way := way f) hK n1 (hN f hf).2 (TRD_of hTR hf) (RTt_of hTR hf) hA hPt.1.2.2.2.2.1 hPt.2.2.2.2.1 (RLX_of hP hX hf) tv hcol ⟨h5, by omega, by omega⟩ (by rw [fr K rf 26 1 (by decide)]; exact hl.1.2) (kk f) [] 0 0 n3 L K d0 hg (Nat.le_refl _) (frS_rf K) ⟨rfl, rfl⟩ ⟨h3.1, h3.2.1, by omega⟩ hL (by omega) PV_nil (fun x K2 hb => hQ x K2 (by
    rw [wk_cg e28 evt] at hb
    rw [Sft_n]
    obtain ⟨s1, s2, s3, s4⟩ := hb
    refine ⟨s1, s2, s3, ?_⟩
    rcases s4 with ⟨c0, ⟨r, w, V, v1, x1, _, nm⟩, q0, q6⟩ | s4 | ⟨c3, cx', q0, r, w, V, v1, q6⟩
    · obtain ⟨_, _, _, _, _, _, _, _, _, wl⟩ := CK.2.2.2.2 _ r w V v1
      refine Or.inl ⟨c0, ?_, fun k k0 k1 => ?_, q0⟩
      · show x = K (K (K 15 f) 4) (rro (rls σ f (Vs f) false (mr0 f)) _ % 16)
        rw [rro_at v1, x1]
        exact wl
      · show K2 36 k = nB σ (mwl H a) (vro (rls σ f (Vs f) false (mr0 f)) _) k
        have k1 : k < σ 56 (rro (rls σ f (Vs f) false (mr0 f)) _) := k1
        rw [rro_at v1] at k1
        rw [vro_at v1, ← nB_cg evt V]
        exact nm k k0 k1
    · exact Or.inr (Or.inl s4)
    · refine Or.inr (Or.inr ⟨c3, cx', q0, ?_⟩)
      show K2 37 6 = rro (rls σ f (Vs f) false (mr0 f)) _ % 16
      rw [rro_at v1]
      exact q6))
  exact key⟩
/-- sorting one letter by the tree, in the reference -/
theorem Sft_M {K0 : e3_H} (hJ : JI n H G) (hP : PXc σ m nf Vs mr0) (hX : TX σ g m nf Vs way km N H G) (hM : TM0 σ m nf H) (hV : VR H) (hl : zLX H) (hv : zMV H) (hS : TRS σ nf Vs mr0 way km N H) (hTR : TRX σ nf Vs mr0 way N σt mt kk D H) (f0 : zF 34 39 H K0) : SMx σ K0 G nf 1 (Sft σ H Vs mr0 way σt mt kk) := fun f K n3 L a Q hf rK sK h135 hlt h3 hL hLn hQ => ⟨fun z => absurd z (by decide), fun _ => by
  obtain ⟨n1, hA, hPt, d0, hg, hD⟩ := hTR f hf
  have h12 := hP.1.2.1
  obtain ⟨g1, g2, g3⟩ := zG_of hP hX f (by omega) (by omega)
  have fr : ∀ b x : Int, b ≠ 40 → b < 34 ∨ (39 < b ∧ b < 94) ∨ (98 < b ∧ b < 135) ∨ 138 < b → K b x = H b x := fun b x h1 h2 => (rK.1 b x h1 (by omega)).trans (f0 b x (by omega))
  have fr40 : ∀ x : Int, x ≠ 71 → x < 119 ∨ 128 < x → K 40 x = H 40 x := fun x h1 h2 => (rK.2 x h1 h2).trans (f0 40 x (by decide))
  have c0 : K0 40 109 = K 40 109 := (rK.2 109 (by decide) (by decide)).symm
  have hTVK : ∀ K', zT K K' → TV σ m K' := fun K' h => TV_of hJ hP hX hM hV (fun b x hb => (h.1 b x (by omega) (by omega) (by omega) (by omega)).trans (fr b x (by omega) (by omega))) ((h.2 109 (by decide) (by decide) (by decide) (by decide) (by decide)).trans (fr40 109 (by decide) (by decide)))
  obtain ⟨⟨s99, _, _, _⟩, sTa, _⟩ := hS.2 f hf
  obtain ⟨nn, nn1, nn2, nn3⟩ := hS.1 f hf
  have enn : nn = (N f).length := by omega
  subst enn
  have hTR2 := TRX_eq hTR (K := K) (fun b x hb => fr b x (by omega) (by omega)) f hf
  have hcol : ∀ i : Int, 0 ≤ i → i < σ 68 f → oks K (K 135 i) (σ 69 (3 * (f : Int) + i)) := fun i i0 i1 => by
    rw [h135 i i0 (by omega)]
    exact oks_eq (hlt i i0 i1) (fun b x hb => rK.1 b x (by omega) (by omega))
  have e28 : K 28 = (mwl H a) 28 := funext fun x => by rw [mwl_ne (by decide)]; exact fr 28 x (by decide) (by decide)
  have evt : ∀ x : Int, vt K x = vt (mwl H a) x := vt_cg (fun x => by rw [mwl_ne (by decide)]; exact fr 132 x (by decide) (by decide)) (fun x x0 x1 => by rw [mwl_135]; exact h135 x x0 x1)
  refine ⟨kk f, ?_⟩
  rw [e3_w32_id (by omega) (by omega)]
  rw [c0] at sK
  have key := nM_6t (Q := Q) (G := G) (D := D f) (way := way f) (σ := σ) (f := (f : Int)) ⟨by omega, by omega⟩ g1 (fun b x h1 h2 h3 => (fr b x (by omega) (by omega)).trans (hM.1 b x h1 h2 h3)) (zMV_eq hv (fun b x h1 h2 => fr b x (by omega) (by omega)) (fr40 109 (by decide) (by decide)) (by rw [fr40 10 (by decide) (by decide)]; exact Int.le_refl _) (fun x _ _ => fr 44 x (by decide) (by decide))) hTVK (by rw [fr 26 1 (by decide) (by decide)]; exact hl.1.2) (RTa_eq sTa n1 (fun b x h1 h2 _ _ => fr b x (by omega) (by omega))) (zTN_T nn3 (fun b x h1 h2 => fr b x (by omega) (by omega)) (fr 68 _ (by decide) (by decide)) (fr 70 _ (by decide) (by decide)) (fun x => fr 74 x (by decide) (by decide)) (fun x => fr 78 x (by decide) (by decide))) hTR2.2.2.2.2.2 (RTt_of hTR hf) hA hPt.1.2.2.2.2.1 hPt.2.2.2.2.1 (RLX_of hP hX hf) (RLM_of hP hX hf) hcol (kk f) [] 0 n3 L K d0 hg (zT_rf K) sK ⟨rfl, rfl⟩ ⟨h3.1, h3.2.1, by omega⟩ hL (by omega) PV_nil (fun x K2 hb => hQ x K2 (by
    rw [wk_cg e28 evt] at hb
    rw [Sft_n]
    obtain ⟨s1, s2, s3, s4⟩ := hb
    refine ⟨s1, s2, s3, ?_⟩
    rcases s4 with ⟨q0, ⟨r, w, V, v1, x1, nm⟩, q1, q2⟩ | s4 | ⟨c3, cx', q0, r, w, V, v1, q6⟩
    · refine Or.inl ⟨q0, ?_, fun k k0 k1 => ?_, q1, q2⟩
      · show x = rro (rls σ f (Vs f) false (mr0 f)) _
        rw [rro_at v1, x1]
      · show K2 136 k = nB σ (mwl H a) (vro (rls σ f (Vs f) false (mr0 f)) _) k
        have k1 : k < σ 56 (rro (rls σ f (Vs f) false (mr0 f)) _) := k1
        rw [rro_at v1] at k1
        rw [vro_at v1, ← nB_cg evt V]
        exact nm k k0 k1
    · exact Or.inr (Or.inl s4)
    · refine Or.inr (Or.inr ⟨c3, cx', q0, ?_⟩)
      show K2 40 125 = rro (rls σ f (Vs f) false (mr0 f)) _ % 16
      rw [rro_at v1]
      exact q6))
  have e0 : 300 * (f : Int) + ((0 : Nat) : Int) = 300 * (f : Int) := by omega
  rw [e0] at key
  exact key⟩
end SJT
