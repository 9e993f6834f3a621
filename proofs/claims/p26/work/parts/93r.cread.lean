theorem TC_all {t : Int} {cx : Int → Int} {cnt : Nat} {b : Int} {N : List a_ND} {H K : e3_H} (h : TC t cx cnt b N H) (e : ∀ a x : Int, t + 1 ≤ a → a ≤ t + 6 → K a x = H a x) : TC t cx cnt b N K := fun j d hd => by
  have := h j d hd
  unfold TC1 at this ⊢
  rw [e (t + 1) _ (by omega) (by omega), e (t + 2) _ (by omega) (by omega), e (t + 3) _ (by omega) (by omega), e (t + 4) _ (by omega) (by omega), e (t + 5) _ (by omega) (by omega), e (t + 6) _ (by omega) (by omega)]
  exact this
/-- the drawn tree of a FUNCTION, in the class -/
def TDf (f : Nat) (way km : Int) (N : List a_ND) (K : e3_H) (G : e3_G) : Prop := ∃ (cx : Int → Int) (cnt : Nat), K (K 15 f) 7 = (cnt : Int) ∧ c_pl K G (K 15 f) cx ∧ K (K (K 15 f) 10) 0 = (N.length : Int) ∧ K (K (K 15 f) 10) 2 = way ∧ K (K (K 15 f) 10) 3 = km ∧ TC (K (K 15 f) 10) cx cnt 0 N K
theorem TDf_keep {f : Nat} {way km : Int} {N : List a_ND} {H K : e3_H} {G G2 : e3_G} (h : TDf f way km N H G) (hf : g_at G (H 15 f) (108, 11)) (hr : D2 H G K G2) (e10 : K (K 15 f) 10 = H (H 15 f) 10) (e : ∀ a x : Int, H (H 15 f) 10 ≤ a → a ≤ H (H 15 f) 10 + 6 → K a x = H a x) : TDf f way km N K G2 := by
  obtain ⟨cx, cnt, h1, h2, h3, h4, h5, h6⟩ := h
  have e15 : K 15 f = H 15 f := hr.2.2 15 f (by decide)
  have e7 : K (H 15 f) 7 = H (H 15 f) 7 := hr.2.1 _ 7 _ _ hf (okt_d (by decide) (by decide) (by decide) (Or.inr (by decide)))
  rw [e15] at e10
  refine ⟨cx, cnt, by rw [e15, e7]; exact h1, by rw [e15]; exact pl_D h2 hr, ?_, ?_, ?_, ?_⟩
  · rw [e15, e10, e _ _ (Int.le_refl _) (by omega)]; exact h3
  · rw [e15, e10, e _ _ (Int.le_refl _) (by omega)]; exact h4
  · rw [e15, e10, e _ _ (Int.le_refl _) (by omega)]; exact h5
  · rw [e15, e10]; exact TC_all h6 (fun a x a1 a2 => e a x (by omega) a2)
section CRD
variable {Q : Int → e3_H → e3_G → Prop} {σ g H0 : e3_H} {G0 : e3_G} {m nf : Nat} {Vs : Int → Int → Int → List (Int × Int)} {mr0 kk : Nat → Nat} {N : Nat → List a_ND}
/-- the trees of a text that was read, and what read answers: the class -/
theorem cP_53 (h12 : nf ≤ 12) (h139 : 139 ≤ (G0.length : Int)) (hG : GB G0) (hY : ∀ f : Nat, f < nf → FY σ g Vs f H0 G0) (hkd : c_kd σ m H0) (hki : k_inv σ m) (h143 : H0 14 3 = (nf : Int)) (hKP : KP σ m) (hmr : ∀ f : Nat, f < nf → σ 70 f = (mr0 f : Int)) (hRT : ∀ f : Nat, f < nf → RT σ f (RR σ f (Vs f) false (mr0 f)) ∧ ∀ w, w ∈ RR σ f (Vs f) false (mr0 f) → (∀ p, p ∈ w.2 → σ 47 p.1 ≤ 100) ∧ 0 ≤ w.1) (hg : ∀ f : Nat, f < nf → gr σ m (RR σ f (Vs f) false (mr0 f)) 0 (kk f) [] (N f))
    (hok : (∀ f : Nat, f < nf → (N f).length ≤ 120) → ∀ (K : e3_H) (G : e3_G), D2 H0 G0 K G → TS nf K G → (∀ f : Nat, f < nf → TDf f 0 (H0 8 0) (N f) K G) → gz G ≤ gz G0 + 12 * (nf : Int) + s7 H0 nf → Q nf (e3_up (e3_up K 2 6 1) 2 7 (H0 8 0)) G)
    (hbad : (∃ f : Nat, f < nf ∧ 120 < (N f).length) → ∀ (K : e3_H) (G : e3_G), D2 H0 G0 K G → TS nf K G → (∃ f : Nat, f < nf ∧ gz G ≤ gz G0 + 12 * ((f : Int) + 1) + s7 H0 (f + 1)) → Q (-3) (e3_up (e3_up K 14 3 0) 8 0 0) G) : ∀ (d f : Nat) (K : e3_H) (G : e3_G), f + d = nf → D2 H0 G0 K G → TS nf K G → (∀ f' : Nat, f' < f → (N f').length ≤ 120 ∧ TDf f' 0 (H0 8 0) (N f') K G) → gz G ≤ gz G0 + 12 * (f : Int) + s7 H0 f → wP_read_53 Q (d + 1) f K G := by
  intro d
  induction d with
  | zero =>
    intro f K G hd hD hT hC hz
    have hd : f = nf := hd
    subst hd
    refine brF (by rw [hD.2.2 14 3 (by decide), h143]; omega) ?_
    intro H13 e13
    intro H14 e14
    have e80 : H13 8 0 = H0 8 0 := by rw [e13, e3_up_ne (ne_1 (by decide))]; exact hD.2.2 8 0 (by decide)
    rw [e80] at e14
    have e143 : H14 14 3 = (f : Int) := by rw [e14, e3_up_ne (ne_1 (by decide)), e13, e3_up_ne (ne_1 (by decide)), hD.2.2 14 3 (by decide)]; exact h143
    rw [e143, e14, e13]
    exact hok (fun f' hf' => (hC f' hf').1) K G hD hT (fun f' hf' => (hC f' hf').2) hz
  | succ d ih =>
    intro f K G hd hD hT hC hz
    have hf : f < nf := by omega
    obtain ⟨E, hE⟩ := hD.1
    have hGK : GB G := by rw [hE]; exact ⟨ga_app hG.1, ga_app hG.2⟩
    have hlen : 139 ≤ (G.length : Int) := by rw [hE, List.length_append]; omega
    have e15 : ∀ f' : Nat, K 15 f' = H0 15 f' := fun f' => hD.2.2 15 f' (by decide)
    have hfu0 : ∀ f' : Nat, f' < nf → 139 ≤ H0 15 f' ∧ g_at G0 (H0 15 f') (108, 11) := fun f' hf' => by
      obtain ⟨cx, pn, cnt, mm, A, B, ⟨b1, _⟩, _⟩ := hY f' hf'
      exact b1
    have hfu : ∀ f' : Nat, f' < nf → g_at G (K 15 f') (108, 11) := fun f' hf' => by rw [e15, hE]; exact ga_app (hfu0 f' hf').2
    obtain ⟨cx, pn, cnt, mr, x1, x2, hX⟩ := DX_of (FY_D (hY f hf) hD) ⟨ckd_eq hkd (fun a k ha => hD.2.2 a k (by omega)), hki⟩
    have hmrf : mr = mr0 f := by have := hmr f hf; omega
    subst hmrf
    have k7 : K (K 15 f) 7 = H0 (H0 15 f) 7 := by rw [e15]; exact hD.2.1 _ 7 _ _ (hfu0 f hf).2 (okt_d (by decide) (by decide) (by decide) (Or.inr (by decide)))
    have hcn : cnt ≤ 100000 := hX.2.2.2.2.1.2.1
    obtain ⟨t1, t2, t3, ⟨kl, t4⟩, t5⟩ := id hT
    have hln : e3_ln G (K 16 4) = (kl : Int) := ga_ln t4.1.2
    have hfK : 139 ≤ K 15 f := by rw [e15]; exact (hfu0 f hf).1
    have e80 : K 8 0 = H0 8 0 := hD.2.2 8 0 (by decide)
    refine brT (by rw [hD.2.2 14 3 (by decide), h143]; omega) ?_
    refine brF (by omega) (brT (by rw [hD.2.2 14 3 (by decide), h143]; omega) ⟨by omega, ?_⟩)
    refine brF (by omega) ⟨ga_ob (c := 8) (hfu f hf), cF_allRows hX (fun M hM => ?_)⟩
    have hgz : ∀ G2 : e3_G, (G2 = G ∨ G2 = G ++ [(1, cnt)]) → gz G2 ≤ gz G0 + 12 * ((f : Int) + 1) + s7 H0 (f + 1) := fun G2 h2 => by
      have es : s7 H0 (f + 1) = s7 H0 f + H0 (H0 15 f) 7 := rfl
      rw [es, ← k7, x2]
      rcases h2 with z | z
      · rw [z]; omega
      · rw [z, gz_app]
        have : gz [(1, cnt)] = (cnt : Int) + 12 := by show (cnt : Int) + 12 + 0 = _; omega
        omega
    refine cD_draw (f := f) hGK hlen hX rfl t1 t4 (hRT f hf).1 hKP (fun w hw p hp => ((hRT f hf).2 w hw).1 p hp) (fun w hw => ((hRT f hf).2 w hw).2) (fun e he => absurd he (List.not_mem_nil)) trivial (hg f hf) hM (fun hn K2 G2 r1 r2 r3 r4 r5 => ?_) (fun hn K2 G2 r1 => ?_)
    · have hc : 16 ≤ cnt ∨ (cnt : Int) ≤ e3_ln G (K 16 4) := by
        have := t4.2.1.1
        omega
      have dd := DR_D2 hlen hGK t1 t4 r1
      obtain ⟨s1, s2, s3, s4⟩ := TS_DR hlen hGK hfu hT hc hcn r1
      obtain ⟨E2, hE2⟩ := dd.1
      have hG2 : GB G2 := by rw [hE2]; exact ⟨ga_app hGK.1, ga_app hGK.2⟩
      have hfu2 : ∀ f' : Nat, f' < nf → g_at G2 (K2 15 f') (108, 11) := fun f' hf' => by rw [s3, hE2]; exact ga_app (hfu f' hf')
      have ho : g_at G2 (K 15 f) (108, 11) := by rw [← s3]; exact hfu2 f hf
      refine brF (by decide) ⟨ga_ob (c := 8) ho, ga_ob (c := 8) ho, ?_⟩
      intro H1 e1
      intro H4 e4
      rw [← s3 f] at e1 e4
      rw [e1] at e4
      obtain ⟨u1, ⟨u2, u3⟩, u4, u5, u6, u7⟩ := TS_hand hG2 hfu2 (by decide) s1 hf e4 (fun f' hf' => by rw [s3, e15]; exact (hfu0 f' hf').1)
      rw [e3_w32_id (by omega) (by omega)]
      have tag2 : ∀ t : Int, TRE t K2 G2 → ∀ a x : Int, t ≤ a → a ≤ t + 6 → H4 a x = K2 a x := fun t ht a x a1 a2 => by
        have ta : g_at G2 a (105, 10) ∨ g_at G2 a (0, 120) ∨ g_at G2 a (1, 120) := by
          by_cases hz : a = t
          · rw [hz]; exact Or.inl ht.2.1
          · exact Or.inr (TRE_tag ht ⟨by omega, a2⟩)
        refine u6 a x (Or.inl (fun z => ?_)) (Or.inl (fun z => ?_))
        · rw [z] at ta
          rcases ta with y | y | y <;> exact absurd (Prod.mk.inj (ga_eq y hG2.1)).1 (by decide)
        · rw [z] at ta
          rcases ta with y | y | y <;> exact absurd (Prod.mk.inj (ga_eq y (hfu2 f hf))).1 (by decide)
      have := ih (f + 1) H4 G2 (by omega) (D2_tr hD (D2_tr dd u7)) u1 (fun f' hf' => ?_) (by
        have := hgz G2 (by rcases r1.2.2.1 with z | z; exact Or.inl z.1; exact Or.inr z.1)
        rw [show ((f + 1 : Nat) : Int) = (f : Int) + 1 by omega]
        exact this)
      · exact this
      · by_cases hz : f' = f
        · rw [hz]
          refine ⟨hn, cx, cnt, ?_, ?_, ?_, ?_, ?_, ?_⟩
          · rw [u4, u6 _ 7 (Or.inr (by decide)) (Or.inr (by decide)), s3]
            rw [dd.2.1 _ 7 _ _ (hfu f hf) (okt_d (by decide) (by decide) (by decide) (Or.inr (by decide)))]
            exact x2
          · rw [u4, s3]
            exact pl_D hX.2.2.2.2.1.2.2 (D2_tr dd u7)
          · rw [u3, tag2 _ s1.1 _ _ (Int.le_refl _) (by omega), s2]; exact r2
          · rw [u3, tag2 _ s1.1 _ _ (Int.le_refl _) (by omega), s2]; exact r3
          · rw [u3, tag2 _ s1.1 _ _ (Int.le_refl _) (by omega), s2, r4]; exact e80
          · rw [u3]
            refine TC_all (t := K2 16 1) ?_ (fun a x a1 a2 => tag2 _ s1.1 a x (by omega) a2)
            rw [s2]
            exact r5
        · have hf'n : f' < nf := by omega
          obtain ⟨c1, c2⟩ := hC f' (by omega)
          have td := TDf_keep c2 (hfu f' hf'n) dd (s4 f' hf'n).1 (s4 f' hf'n).2
          exact ⟨c1, TDf_keep td (hfu2 f' hf'n) u7 (u5 f' hf'n hz) (tag2 _ (s1.2.1 f' hf'n).1)⟩
    · have hc : 16 ≤ cnt ∨ (cnt : Int) ≤ e3_ln G (K 16 4) := by
        have := t4.2.1.1
        omega
      have dd := DR_D2 hlen hGK t1 t4 r1
      obtain ⟨s1, s2, s3, s4⟩ := TS_DR hlen hGK hfu hT hc hcn r1
      refine brT rfl ?_
      intro H1 e1
      intro H2 e2
      rw [e2, e1]
      exact hbad ⟨f, hf, hn⟩ K2 G2 (D2_tr hD dd) s1 ⟨f, hf, hgz G2 (by rcases r1.2.2.1 with z | z; exact Or.inl z.1; exact Or.inr z.1)⟩
end CRD
