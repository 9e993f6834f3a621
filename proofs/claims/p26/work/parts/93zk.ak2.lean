section AKF
variable {m nf : Nat} {σ σ2 g H : e3_H} {G : e3_G} {Vs : Int → Int → Int → List (Int × Int)} {f : Nat} {mr0 : Nat → Nat}
theorem VS_AK (h : AK m σ σ2) (hV : VS σ nf Vs) : VS σ2 nf Vs := by
  have e := AK_f h
  intro f k w f0 f1 k0 k1 w0 w1 L hL hn
  rw [lyV_e (e 46 (by decide)) (e 51 (by decide)) (e 52 (by decide)) (e 55 (by decide)), lyC_e (e 55 (by decide))]
  rw [e 70 (by decide)] at k1
  rw [e 74 (by decide)] at w1
  rw [e 72 (by decide), ach_e (e 52 (by decide))] at hL
  exact hV f k w f0 f1 k0 k1 w0 w1 L hL hn
theorem WF_AK (h : AK m σ σ2) (h10 : σ 40 10 = (m : Int)) (hW : WF σ nf) : WF σ2 nf := by
  have e := AK_f h
  intro f f0 f1 k k0 k1
  rw [e 70 (by decide)] at k1
  obtain ⟨lo, l0, L, l1, l2, l3, l4, l5⟩ := hW f f0 f1 k k0 k1
  rw [e 68 (by decide), h.2.2.2.1.1]
  exact ⟨lo, l0, L, l1, by rw [e 72 (by decide), ach_e (e 52 (by decide))]; exact l2, fun x hx => ⟨(l3 x hx).1, (l3 x hx).2.1, wt_AK h h10 6 _ x (l3 x hx).2.2⟩, by rw [e 74 (by decide), wf_e (e 55 (by decide))]; exact l4, fun i x hx => by rw [e 47 (by decide), e 69 (by decide)]; exact l5 i x hx⟩
theorem NZ_AK (h : AK m σ σ2) (hW : NZ σ nf) : NZ σ2 nf := by
  have e := AK_f h
  intro f f0 f1 k k0 k1
  rw [e 70 (by decide)] at k1
  exact nz_eq (hW f f0 f1 k k0 k1) (e 56 (by decide)) (e 57 (by decide))
theorem rsum_AK (h : AK m σ σ2) (f : Int) (k : Nat) : rsum σ2 f k = rsum σ f k := rsum_eq (fun x => congrFun (AK_f h 74 (by decide)) x) k
theorem RWS_AK (h : AK m σ σ2) (hW : RWS σ nf) : RWS σ2 nf := by
  have e := AK_f h
  intro f hf
  rw [e 70 (by decide), e 71 (by decide), rsum_AK h]
  exact hW f hf
theorem F_inv_AK {m2 : Nat} (h : AK m σ σ2) (hk : k_inv σ2 m2) (hm : m ≤ m2) (hF : F_inv σ m nf) : F_inv σ2 m2 nf := by
  have e := AK_f h
  obtain ⟨h1, h2, h3, h4, h5⟩ := hF
  refine ⟨by rw [h.2.2.2.1.2]; exact h1, h2, by rw [e 67 (by decide)]; exact h3, fun f f0 f1 => ?_, hk, by rw [h.2.2.2.1.1]; exact h5.2.1, fun q q0 q1 => ?_⟩
  · obtain ⟨a1, a2, a3, a4⟩ := h4 f f0 f1
    refine ⟨⟨by rw [e 68 (by decide)]; exact a1.1, fun c hc => ?_⟩, by rw [e 68 (by decide)]; exact a2, by rw [e 70 (by decide)]; exact a3, fun k k0 k1 => ?_⟩
    · rw [e 68 (by decide)] at hc
      rw [e 69 (by decide)]
      have := a1.2 c hc
      omega
    · rw [e 70 (by decide)] at k1
      obtain ⟨b1, b2, b3, b4⟩ := a4 k k0 k1
      unfold j_inv
      rw [e 74 (by decide), e 56 (by decide), e 58 (by decide), e 79 (by decide), e 83 (by decide), e 84 (by decide)]
      exact ⟨b1, b2, fun k hk => by have := b3 k hk; omega, b4⟩
  · rw [h.2.2.2.1.1] at q1
    rw [e 55 (by decide)]
    exact h5.2.2 q q0 q1
theorem RM_AK {f : Int} {mr : Nat} {V : Int → Int → List (Int × Int)} (h : AK m σ σ2) (h10 : σ 40 10 = (m : Int)) (hR : RM σ f mr V) : RM σ2 f mr V := by
  have e := AK_f h
  obtain ⟨r1, r2, r3, r4, r5⟩ := hR
  refine ⟨r1, by rw [e 70 (by decide)]; exact r2, r3, by rw [rsum_AK h]; exact r4, fun k hk => ?_⟩
  obtain ⟨a1, hi, L, a2, a3, a4, a5, a6, a7, a8⟩ := r5 k hk
  rw [e 74 (by decide), e 72 (by decide), e 55 (by decide)]
  refine ⟨a1, hi, L, a2, a3, a4, by rw [ach_e (e 52 (by decide))]; exact a5, fun x hx => ⟨(a6 x hx).1, wt_AK h h10 6 _ x (a6 x hx).2⟩, by rw [wp_e (e 55 (by decide))]; exact a7, fun w w0 w1 => ?_⟩
  rw [lyV_e (e 46 (by decide)) (e 51 (by decide)) (e 52 (by decide)) (e 55 (by decide)), lyC_e (e 55 (by decide)), nt_e (e 46 (by decide)), tl_e (e 46 (by decide))]
  exact a8 w w0 w1
theorem KPs_of (hk : k_inv σ m) (h : KP σ m) : KPs σ m := by
  refine ⟨hk.1, fun j hj => ?_, fun j hj => (hk.2.2.2.2 j hj).1⟩
  rcases hk.2.2.2.1 j hj with z | z
  · exact Or.inl z
  · rcases h j hj with y | y
    · omega
    · exact Or.inr ⟨z.1, z.2, y⟩
/-- a KIND that comes later leaves a text what it is -/
theorem PXc_AK {t : Int → Int} {n i j : Nat} {added : Bool} (hr : a_knd t n i added σ = .inr (j, σ2)) (hP : PXc σ m nf Vs mr0) : PXc σ2 (m + 1) nf Vs mr0 := by
  obtain ⟨p1, ⟨p2, p3⟩, p4, p5, p6, p7, p8⟩ := hP
  have hki := p1.2.2.2.2.1
  have h := knd_AK hr hki
  refine ⟨F_inv_AK h (knd_k hr hki) (Nat.le_succ m) p1, ⟨WF_AK h hki.1 p2, NZ_AK h p3⟩, RWS_AK h p4, VS_AK h p5, KPs_KP (KPs_knd hr (KPs_of hki p6)), by rw [h.2.2.2.1.1]; exact p7, fun f hf => ⟨by rw [AK_f h 70 (by decide)]; exact (p8 f hf).1, RM_AK h hki.1 (p8 f hf).2⟩⟩
theorem FRu_AK {pn : Int → Int} {cnt : Nat} {r a lo hi : Int} {L : List Int} (h : AK m σ σ2) (h10 : σ 40 10 = (m : Int)) (hF : FRu σ g pn cnt r a H G lo hi L) : FRu σ2 g pn cnt r a H G lo hi L := by
  have e := AK_f h
  obtain ⟨⟨u1, u2, u3, u4, u5, u6, u7, u8, u9⟩, h2, h3, h4, h5, ⟨h6, h7, h8, h9⟩, h11⟩ := hF
  refine ⟨⟨u1, u2, u3, u4, by rw [e 56 (by decide)]; exact u5, by rw [e 56 (by decide)]; exact u6, by rw [e 56 (by decide), e 57 (by decide)]; exact u7, by rw [e 56 (by decide), e 57 (by decide)]; exact u8, nz_eq u9 (e 56 (by decide)) (e 57 (by decide))⟩, by rw [e 72 (by decide)]; exact h2, by rw [e 74 (by decide), e 78 (by decide)]; exact h3, h4, fun q q1 q2 => ⟨c_pt_keep (h5 q q1 q2).1 ⟨[], (List.append_nil _).symm⟩ (fun b b1 b2 => congrFun (e b (by omega)) q) (fun k _ _ => congrFun (e 57 (by decide)) _) (by rw [e 56 (by decide)]; exact Int.le_refl _) (fun _ _ _ _ _ => rfl) (fun _ _ _ => rfl) (Int.le_refl _) q2 (Int.le_refl _) (fun _ => rfl), (h5 q q1 q2).2⟩, ⟨h6, by rw [e 72 (by decide), ach_e (e 52 (by decide))]; exact h7, fun x hx => ⟨(h8 x hx).1, (h8 x hx).2.1, wt_AK h h10 6 _ x (h8 x hx).2.2⟩, by rw [wp_e (e 55 (by decide)), e 74 (by decide)]; exact h9⟩, by rw [e 72 (by decide)]; exact h11⟩
theorem FY_AK (h : AK m σ σ2) (h10 : σ 40 10 = (m : Int)) (hY : FY σ g Vs f H G) : FY σ2 g Vs f H G := by
  have e := AK_f h
  obtain ⟨cx, pn, cnt, mr, A, B, ⟨b1, b2, b3, b4, b5, b9, b10⟩, h2, h3, h4, h5, h6, h7⟩ := hY
  refine ⟨cx, pn, cnt, mr, A, B, ⟨b1, b2, b3, b4, b5, fun k hk => ?_, by rw [rsum_AK h]; exact b10⟩, by rw [e 70 (by decide)]; exact h2, by rw [e 67 (by decide)]; exact h3, h4, by rw [e 68 (by decide), e 69 (by decide)]; exact h5, by rw [rsum_AK h]; exact h6, fun k w hkw w0 => ?_⟩
  · obtain ⟨c1, c2, lo, hi, L, c3, c4⟩ := b9 k hk
    rw [e 74 (by decide)]
    refine ⟨c1, c2, lo, hi, L, FRu_AK h h10 c3, fun w w0 w1 => ?_⟩
    rw [lyV_e (e 46 (by decide)) (e 51 (by decide)) (e 52 (by decide)) (e 55 (by decide)), lyC_e (e 55 (by decide))]
    exact c4 w w0 w1
  · rw [e 74 (by decide)] at hkw
    have := h7 k w hkw w0
    rw [rsum_AK h]
    obtain ⟨d1, d2, r1, r2, r3, r4, r5, r6⟩ := this
    refine ⟨d1, d2, r1, by rw [tl_e (e 46 (by decide))]; exact r2, r3, by rw [tl_e (e 46 (by decide))]; exact r4, by rw [tl_e (e 46 (by decide))]; exact r5, fun k k0 k1 => by rw [nmp_e (e 53 (by decide)) (e 54 (by decide))]; exact r6 k k0 k1⟩
theorem CT_AK (h : AK m σ σ2) (hC : CT σ g nf H G) : CT σ2 g nf H G := by
  obtain ⟨σ1, σ2', H1, K1, G1, h1, h2, h3, h4, h5, h6, h7, h8⟩ := hC
  exact ⟨σ1, σ2', H1, K1, G1, h1, h2, h3, h4, fun a x ha hx => (congrFun (AK_f h a ha) x).trans (h5 a x ha hx), h6, h7, h8⟩
theorem k_inv_AG (h : AK m σ σ2) (h10 : σ2 40 10 = (m : Int)) (hk : k_inv σ m) : k_inv σ2 m := by
  obtain ⟨k1, k2, k3, k4, k5⟩ := hk
  refine ⟨h10, k2, fun j l hj hl he => ?_, fun k hk => ?_, fun k hk => ?_⟩
  · rw [h.2.1 42 _ (by decide) (by decide) (by omega) (by omega), h.2.1 42 _ (by decide) (by decide) (by omega) (by omega)] at he
    exact k3 j l hj hl he
  · rw [h.2.1 43 _ (by decide) (by decide) (by omega) (by omega)]
    exact k4 k hk
  · rw [h.2.1 44 _ (by decide) (by decide) (by omega) (by omega)]
    obtain ⟨a1, a2, a3⟩ := k5 k hk
    exact ⟨a1, a2, fun i hi => by rw [h.2.2.1 _ (by omega) (by omega)]; exact a3 i hi⟩
/-- a KIND that was not taken leaves a text what it is -/
theorem PXc_AG (h : AK m σ σ2) (h10 : σ2 40 10 = (m : Int)) (hP : PXc σ m nf Vs mr0) : PXc σ2 m nf Vs mr0 := by
  obtain ⟨p1, ⟨p2, p3⟩, p4, p5, p6, p7, p8⟩ := hP
  have hki := p1.2.2.2.2.1
  refine ⟨F_inv_AK h (k_inv_AG h h10 hki) (Nat.le_refl m) p1, ⟨WF_AK h hki.1 p2, NZ_AK h p3⟩, RWS_AK h p4, VS_AK h p5, fun j hj => ?_, by rw [h.2.2.2.1.1]; exact p7, fun f hf => ⟨by rw [AK_f h 70 (by decide)]; exact (p8 f hf).1, RM_AK h hki.1 (p8 f hf).2⟩⟩
  rw [h.2.1 43 _ (by decide) (by decide) (by omega) (by omega)]
  rcases p6 j hj with z | z
  · exact Or.inl z
  · rcases hki.2.2.2.1 j hj with y | y
    · exact Or.inl y
    · rw [h.2.1 44 _ (by decide) (by decide) (by omega) (by omega)]; exact Or.inr z
theorem a_sl_eq {f1 f2 : Int → Int} {u : Int} : ∀ k : Nat, (∀ j : Nat, j < k → f2 j = f1 j) → a_sl f2 u k = a_sl f1 u k := by
  intro k
  induction k with
  | zero => intro _; rfl
  | succ k ih =>
    intro e
    have e1 := e k (by omega)
    have e2 := ih (fun j hj => e j (by omega))
    unfold a_sl
    rw [e1, e2]
theorem ckd_AG (h : AK m σ σ2) (hc : c_kd σ m H) (hk : k_inv σ m) : c_kd σ2 m H := by
  refine ⟨hc.1, fun k hk' => ?_⟩
  have hs : a_sl (σ2 43) k m = a_sl (σ 43) k m := a_sl_eq m (fun j hj => h.2.1 43 _ (by decide) (by decide) (by omega) (by omega))
  have h4 := hk.2.2.2.2 k hk'
  rw [h.2.1 42 _ (by decide) (by decide) (by omega) (by omega), h.2.1 43 _ (by decide) (by decide) (by omega) (by omega), h.2.1 44 _ (by decide) (by decide) (by omega) (by omega), hs]
  obtain ⟨a, b, c, d, e'⟩ := hc.2 k hk'
  exact ⟨a, b, c, fun i hi => by rw [h.2.2.1 _ (by omega) (by omega)]; exact d i hi, e'⟩
end AKF
