section KDS
variable {σ : e3_H} {m : Nat} {f way : Int} {RL : List (Int × Int × List (Int × Int))}
theorem kds_ok {π : a_PT} {v : (Int × Int × Int) × (Int × Int × Int × Int)} (hF : SFT σ m f RL) (hS : SP σ m (rwl σ RL) π) (hv : v ∈ kds σ m (rwl σ RL) way π) : stp σ m (rwl σ RL) way π v.1 ∧ SP σ m (rwl σ RL) (v.1 :: π) ∧ (v.1.1 ≠ 0 → LBQ σ (rwl σ RL) v.1 π v.2) ∧ (v.2.2.2.2 = 0 ∨ v.2.2.2.2 = 1) := by
  have hr := SFT_hr hF
  obtain ⟨hR, hRo, hk, hKP, h40, hE⟩ := hF
  unfold kds at hv
  unfold stp
  cases hf : fst σ π (rwl σ RL) 0 with
  | none =>
    rw [hf] at hv
    exact absurd hv (List.not_mem_nil)
  | some u =>
    obtain ⟨i, r, T⟩ := u
    obtain ⟨j0, _, hj, hl, _⟩ := fst_some (rwl σ RL) 0 i (r, T) hf
    have hm := List.mem_of_getElem? hj
    rw [hf] at hv
    simp only at hv ⊢
    cases hc : cho σ m (rwl σ RL) π way T 0 none 0 with
    | none =>
      rw [hc] at hv
      simp only at hv
      split at hv
      · exact absurd hv (List.not_mem_nil)
      · rename_i h78
        rw [List.mem_singleton.mp hv]
        exact ⟨⟨h78, rfl⟩, ⟨hS, Or.inl ⟨rfl, (hr _ hm).1.1⟩⟩, fun z => absurd rfl z, Or.inl rfl⟩
    | some p =>
      obtain ⟨q, x⟩ := p
      rw [hc] at hv
      obtain ⟨u, u1, u2⟩ := List.mem_map.mp hv
      have hqx : (q, x) ∈ T ∧ ask π x = true := by
        rcases cho_some T 0 none 0 (q, x) hc with z | z
        · cases z
        · exact z
      rw [← u2]
      refine ⟨⟨rfl, u1⟩, ⟨hS, Or.inr ⟨(hr _ hm).2 (q, x) hqx.1, hqx.2, σ 47 q, ((hR _ hm).2.2 (q, x) hqx.1).1.1, u1, fun w hw hlw q' hq' => SH hR hS hk.2.2.2.1 hKP hk.2.1 hqx.2 hw hm hlw hl hq' hqx.1, (r, T), q, hm, hl, hqx.1⟩⟩, fun _ s hs => ?_, enc_01 _ _⟩
      have := hs (r, T) hm hl q hqx.1
      show enc (σ 47 q) u = enc s u
      rw [this]
end KDS
/-- what waits, with its path -/
def PRS (σ : e3_H) (m : Nat) (R : a_RW) (way b : Int) (D : List (a_PT × Int)) (a : a_PT × Int × Int × Int × Int × Int) : Prop := SP σ m R a.1 ∧ ((a.1 = [] ∧ a.2.1 = -4) ∨ ∃ (e : Int × Int × Int) (π' : a_PT) (i : Nat) (pp : Int), a.1 = e :: π' ∧ a.2.1 = b + i ∧ D[i]? = some (π', pp) ∧ stp σ m R way π' e ∧ (e.1 ≠ 0 → LBQ σ R e π' a.2.2) ∧ (a.2.2.2.2.2 = 0 ∨ a.2.2.2.2.2 = 1))
/-- what making a tree may change -/
def mw (b slot : Int) (K K2 : e3_H) : Prop := (∀ a k : Int, a ≠ 40 → a < 92 ∨ (93 < a ∧ a < 102 ∧ ¬ (a = 99 ∧ k = slot)) ∨ (102 ≤ a ∧ a ≤ 114 ∧ (k < b ∨ b + 120 ≤ k)) ∨ 127 < a → K2 a k = K a k) ∧ ∀ k : Int, k ≠ 93 → k ≠ 99 → k ≠ 105 → K2 40 k = K 40 k
theorem mw_rf (b slot : Int) (K : e3_H) : mw b slot K K := ⟨fun _ _ _ _ => rfl, fun _ _ _ _ => rfl⟩
theorem mw_tr {b slot : Int} {K K2 K3 : e3_H} (h : mw b slot K K2) (h2 : mw b slot K2 K3) : mw b slot K K3 := ⟨fun a k h3 h4 => (h2.1 a k h3 h4).trans (h.1 a k h3 h4), fun k h3 h4 h5 => (h2.2 k h3 h4 h5).trans (h.2 k h3 h4 h5)⟩
theorem mw_mz {b slot n : Int} {K K2 : e3_H} (h : mz n K K2) (hn : b ≤ n ∧ n < b + 120) : mw b slot K K2 := ⟨fun a k h3 h4 => h.1 a k h3 (by omega), fun k h3 h4 h5 => h.2 k h3 h4 h5⟩
theorem mw_up {b slot : Int} {K K2 : e3_H} {a k v : Int} (h : mw b slot K K2) (ha : (102 ≤ a ∧ a ≤ 114 ∧ b ≤ k ∧ k < b + 120) ∨ (a = 40 ∧ k = 93) ∨ (a = 99 ∧ k = slot)) : mw b slot K (e3_up K2 a k v) := ⟨fun c j h3 h4 => by rw [e3_up_ne (fun z => by omega)]; exact h.1 c j h3 h4, fun j h3 h4 h5 => by rw [e3_up_ne (fun z => by omega)]; exact h.2 j h3 h4 h5⟩
/-- a tree of the reference -/
def TRM (σ : e3_H) (m : Nat) (R : a_RW) (way b : Int) (D : List (a_PT × Int)) (K : e3_H) : Prop := LNK σ m R way b D K ∧ CTS σ m R way b D D.length K ∧ CHN b D K ∧ (∀ (n : Nat) (π : a_PT) (pp : Int), D[n]? = some (π, pp) → (cld b (b + n) D 0).length = (kds σ m R way π).length) ∧ D.length ≤ 120
section MMK
variable {Q : Int → e3_H → e3_G → Prop} {σ H0 : e3_H} {G : e3_G} {m : Nat} {f way b slot : Int} {RL : List (Int × Int × List (Int × Int))} {N0 : List a_ND}
theorem cM_47 (hF : SFT σ m f RL) (hW4 : ∀ e, e ∈ RL → 0 ≤ e.2.1 ∧ e.2.1 < σ 74 e.1) (htb : tb σ H0) (h10 : H0 40 10 = (m : Int)) (hM : M_rows σ H0 RL) (hway : 0 ≤ way ∧ way ≤ 3) (hb : 0 ≤ b) (hb2 : b + 120 ≤ 3900) (hsl : 0 ≤ slot ∧ slot < 13)
    (hok : N0.length ≤ 120 → ∀ (K : e3_H) (D : List (a_PT × Int)), mw b slot H0 K → D.length = N0.length → K 99 slot = (N0.length : Int) → TRM σ m (rwl σ RL) way b D K → ZDN σ m (rwl σ RL) way b N0 D [] [] → Q 1 K G)
    (hbad : 120 < N0.length → ∀ K : e3_H, mw b slot H0 K → Q 0 K G) : ∀ (d : Nat) (D : List (a_PT × Int)) (A : List (a_PT × Int × Int × Int × Int × Int)) (N : List a_ND) (K : e3_H), N.length = d → mw b slot H0 K → K 40 93 = (A.length : Int) → SK K (A.map (fun a => a.2)) → LNK σ m (rwl σ RL) way b D K → CTS σ m (rwl σ RL) way b D D.length K → CHN b D K → (∀ a, a ∈ A → PRS σ m (rwl σ RL) way b D a) → grL σ m (rwl σ RL) way (A.map (fun a => a.1)) N → D.length + N.length = N0.length → D.length ≤ 120 → A.length ≤ 300 → (∀ (n : Nat) (π : a_PT) (pp : Int), D[n]? = some (π, pp) → (cld b (b + n) D 0).length + (A.filter (fun a => decide (a.2.1 = b + (n : Int)))).length = (kds σ m (rwl σ RL) way π).length) → ZDN σ m (rwl σ RL) way b N0 D (A.map (fun a => (a.1, a.2.1))) N → wM_makes_47 Q (d + 1) slot way b D.length K G := by
  intro d
  induction d with
  | zero =>
    intro D A N K hd hw h93 hSK hN hC hCh hA hg hNl hD hAl hcnt hZ
    have hN0 : N = [] := List.length_eq_zero_iff.mp hd
    have hgl := grL_len _ N hg
    rw [List.length_map] at hgl
    have hA0 : A = [] := List.length_eq_zero_iff.mp (by omega)
    subst hA0
    refine brF (by rw [h93]; decide) ⟨hsl, ?_⟩
    intro H26 e26
    have e : ∀ a k : Int, a ≠ 99 → H26 a k = K a k := fun a k ha => by rw [e26, e3_up_ne (ne_1 ha)]
    have elb : ∀ n, lb4 H26 n = lb4 K n := fun n => by unfold lb4; rw [e 111 n (by decide), e 112 n (by decide), e 113 n (by decide), e 114 n (by decide)]
    have hNk : N0.length = D.length := by omega
    refine hok (by omega) H26 D (by rw [e26]; exact mw_up hw (Or.inr (Or.inr ⟨rfl, rfl⟩))) hNk.symm (by rw [e26, e3_up_self, hNk]) ⟨fun j π par hj => ?_, fun j π par hjl hj => ?_, CHN_eq hCh (fun a k _ _ => e a k (by omega)), fun n π pp hn => by have := hcnt n π pp hn; exact this, hD⟩ (by rw [hN0] at hZ; exact hZ)
    · obtain ⟨n1, n2⟩ := hN j π par hj
      refine ⟨by rw [e 107 _ (by decide)]; exact n1, ?_⟩
      rcases n2 with y | ⟨e1, π', i, pp, y1, y2, y3, y4, y5, y6⟩
      · exact Or.inl y
      · exact Or.inr ⟨e1, π', i, pp, y1, y2, y3, y4, y5, fun z => by rw [elb]; exact y6 z⟩
    · have := hC j π par hjl hj
      unfold ctt at this ⊢
      rw [e 102 _ (by decide), e 103 _ (by decide), e 104 _ (by decide), e 105 _ (by decide), e 106 _ (by decide)]
      exact this
  | succ d ih =>
    intro D A N K hd hw h93 hSK hN hC hCh hA hg hNl hD hAl hcnt hZ
    have hgl := grL_len _ N hg
    rw [List.length_map] at hgl
    cases A with
    | nil =>
      exfalso
      have hg : N = [] := hg
      rw [hg] at hd
      cases hd
    | cons a S =>
      have hal : (a :: S).length = S.length + 1 := rfl
      obtain ⟨kk, NA, NB, hNe, hga, hgS⟩ := hg
      obtain ⟨nd, N1, hNA, hgk⟩ := gr_kds hga
      obtain ⟨π, par, lA, lB, lT, lO⟩ := a
      have hZ2 : ZDN σ m (rwl σ RL) way b N0 D ((π, par) :: S.map (fun a => (a.1, a.2.1))) (nd :: (N1 ++ NB)) := by
        rw [hNe, hNA] at hZ
        exact hZ
      obtain ⟨k1, k2, k3, k4, k5, k6⟩ := hSK
      obtain ⟨pS, pP⟩ := hA _ (List.mem_cons_self ..)
      have pS : SP σ m (rwl σ RL) π := pS
      have hml : (S.map (fun a => a.2)).length = S.length := List.length_map ..
      rw [hml] at k1 k2 k3 k4 k5
      have k1 : K 115 S.length = par := k1
      have k2 : K 116 S.length = lA := k2
      have k3 : K 117 S.length = lB := k3
      have k4 : K 118 S.length = lT := k4
      have k5 : K 119 S.length = lO := k5
      rw [hal] at h93 hAl hgl
      refine brT (by omega) ⟨fun h120 => hbad ?_ K hw, fun h120 => ?_⟩
      · rw [h93, e3_w32_id (by omega) (by omega)] at h120
        omega
      rw [h93, e3_w32_id (by omega) (by omega)] at h120
      have hJ : D.length + (S.length + 1) ≤ 120 := by omega
      intro H1 e1
      rw [h93, show ((S.length + 1 : Nat) : Int) - 1 = (S.length : Int) by omega, e3_w32_id (by omega) (by omega)] at e1
      have f1 : H1 40 93 = (S.length : Int) := by rw [e1, e3_up_self]
      have g1 : ∀ a k : Int, a ≠ 40 → H1 a k = K a k := fun a k ha => by rw [e1, e3_up_ne (ne_1 ha)]
      have en : e3_w32 (b + (D.length : Int)) = b + (D.length : Int) := e3_w32_id (by omega) (by omega)
      have n0 : 0 ≤ b + (D.length : Int) ∧ b + (D.length : Int) < 3900 := by omega
      rw [en, f1, g1 115 _ (by decide), k1]
      refine ⟨by omega, n0, ?_⟩
      intro H2 e2
      have f2 : H2 40 93 = (S.length : Int) := by rw [e2, e3_up_ne (ne_1 (by decide))]; exact f1
      rw [f2]
      refine ⟨by omega, n0, ?_⟩
      intro H5 e5
      rw [show H2 116 S.length = lA by rw [e2, e3_up_ne (ne_1 (by decide)), g1 116 _ (by decide)]; exact k2] at e5
      have f5 : H5 40 93 = (S.length : Int) := by rw [e5, e3_up_ne (ne_1 (by decide))]; exact f2
      rw [f5]
      refine ⟨by omega, n0, ?_⟩
      intro H8 e8
      rw [show H5 117 S.length = lB by rw [e5, e3_up_ne (ne_1 (by decide)), e2, e3_up_ne (ne_1 (by decide)), g1 117 _ (by decide)]; exact k3] at e8
      have f8 : H8 40 93 = (S.length : Int) := by rw [e8, e3_up_ne (ne_1 (by decide))]; exact f5
      rw [f8]
      refine ⟨by omega, n0, ?_⟩
      intro H11 e11
      rw [show H8 118 S.length = lT by rw [e8, e3_up_ne (ne_1 (by decide)), e5, e3_up_ne (ne_1 (by decide)), e2, e3_up_ne (ne_1 (by decide)), g1 118 _ (by decide)]; exact k4] at e11
      have f11 : H11 40 93 = (S.length : Int) := by rw [e11, e3_up_ne (ne_1 (by decide))]; exact f8
      rw [f11]
      refine ⟨by omega, n0, ?_⟩
      intro H14 e14
      rw [show H11 119 S.length = lO by rw [e11, e3_up_ne (ne_1 (by decide)), e8, e3_up_ne (ne_1 (by decide)), e5, e3_up_ne (ne_1 (by decide)), e2, e3_up_ne (ne_1 (by decide)), g1 119 _ (by decide)]; exact k5] at e14
      refine ⟨n0, ?_⟩
      intro H17 e17
      refine ⟨n0, ?_⟩
      intro H19 e19
      refine ⟨n0, ?_⟩
      intro H21 e21
      -- the heap behind the new node
      have hin : b ≤ b + (D.length : Int) ∧ b + (D.length : Int) < b + 120 := by omega
      have w21 : mw b slot H0 H21 := by
        rw [e21, e19, e17, e14, e11, e8, e5, e2, e1]
        exact mw_up (mw_up (mw_up (mw_up (mw_up (mw_up (mw_up (mw_up (mw_up hw (Or.inr (Or.inl ⟨rfl, rfl⟩))) (Or.inl ⟨by decide, by decide, hin.1, hin.2⟩)) (Or.inl ⟨by decide, by decide, hin.1, hin.2⟩)) (Or.inl ⟨by decide, by decide, hin.1, hin.2⟩)) (Or.inl ⟨by decide, by decide, hin.1, hin.2⟩)) (Or.inl ⟨by decide, by decide, hin.1, hin.2⟩)) (Or.inl ⟨by decide, by decide, hin.1, hin.2⟩)) (Or.inl ⟨by decide, by decide, hin.1, hin.2⟩)) (Or.inl ⟨by decide, by decide, hin.1, hin.2⟩)
      have same : ∀ a k : Int, (a ≠ 40 ∨ k ≠ 93) → (a < 107 ∨ 114 < a ∨ k ≠ b + (D.length : Int)) → H21 a k = K a k := fun a k h1 h2 => by
        rw [e21, e3_up_ne (fun z => by omega), e19, e3_up_ne (fun z => by omega), e17, e3_up_ne (fun z => by omega), e14, e3_up_ne (fun z => by omega), e11, e3_up_ne (fun z => by omega), e8, e3_up_ne (fun z => by omega), e5, e3_up_ne (fun z => by omega), e2, e3_up_ne (fun z => by omega), e1, e3_up_ne (fun z => by omega)]
      have v110 : H21 110 (b + (D.length : Int)) = -4 := by rw [e21, e3_up_self]
      have v109 : H21 109 (b + (D.length : Int)) = -4 := by rw [e21, e3_up_ne (ne_1 (by decide)), e19, e3_up_self]
      have v108 : H21 108 (b + (D.length : Int)) = -4 := by rw [e21, e3_up_ne (ne_1 (by decide)), e19, e3_up_ne (ne_1 (by decide)), e17, e3_up_self]
      have v107 : H21 107 (b + (D.length : Int)) = par := by rw [e21, e3_up_ne (ne_1 (by decide)), e19, e3_up_ne (ne_1 (by decide)), e17, e3_up_ne (ne_1 (by decide)), e14, e3_up_ne (ne_1 (by decide)), e11, e3_up_ne (ne_1 (by decide)), e8, e3_up_ne (ne_1 (by decide)), e5, e3_up_ne (ne_1 (by decide)), e2, e3_up_self]
      have vlb : lb4 H21 (b + (D.length : Int)) = (lA, lB, lT, e3_and lO 1) := by
        unfold lb4
        have a1 : H21 111 (b + (D.length : Int)) = lA := by rw [e21, e3_up_ne (ne_1 (by decide)), e19, e3_up_ne (ne_1 (by decide)), e17, e3_up_ne (ne_1 (by decide)), e14, e3_up_ne (ne_1 (by decide)), e11, e3_up_ne (ne_1 (by decide)), e8, e3_up_ne (ne_1 (by decide)), e5, e3_up_self]
        have a2 : H21 112 (b + (D.length : Int)) = lB := by rw [e21, e3_up_ne (ne_1 (by decide)), e19, e3_up_ne (ne_1 (by decide)), e17, e3_up_ne (ne_1 (by decide)), e14, e3_up_ne (ne_1 (by decide)), e11, e3_up_ne (ne_1 (by decide)), e8, e3_up_self]
        have a3 : H21 113 (b + (D.length : Int)) = lT := by rw [e21, e3_up_ne (ne_1 (by decide)), e19, e3_up_ne (ne_1 (by decide)), e17, e3_up_ne (ne_1 (by decide)), e14, e3_up_ne (ne_1 (by decide)), e11, e3_up_self]
        have a4 : H21 114 (b + (D.length : Int)) = e3_and lO 1 := by rw [e21, e3_up_ne (ne_1 (by decide)), e19, e3_up_ne (ne_1 (by decide)), e17, e3_up_ne (ne_1 (by decide)), e14, e3_up_self]
        rw [a1, a2, a3, a4]
      have v93 : H21 40 93 = (S.length : Int) := by
        rw [e21, e3_up_ne (ne_1 (by decide)), e19, e3_up_ne (ne_1 (by decide)), e17, e3_up_ne (ne_1 (by decide)), e14, e3_up_ne (ne_1 (by decide))]
        exact f11
      have hNp : ∀ (j : Nat) (d : a_PT × Int), D[j]? = some d → d.2 = -4 ∨ ∃ i : Nat, i < j ∧ d.2 = b + i := fun j d hj => by
        obtain ⟨dπ, dp⟩ := d
        rcases (hN j dπ dp hj).2 with ⟨_, y⟩ | ⟨e, π', i, pp, y1, y2, y3, _⟩
        · exact Or.inl y
        · exact Or.inr ⟨i, y2, y3⟩
      have hpar : par = -4 ∨ ∃ i : Nat, i < D.length ∧ par = b + i := by
        rcases pP with ⟨_, y⟩ | ⟨e, π', i, pp, y1, y2, y3, _⟩
        · exact Or.inl y
        · exact Or.inr ⟨i, (List.getElem?_eq_some_iff.mp y3).1, y2⟩
      have hDn : (D ++ [(π, par)]).length = D.length + 1 := by rw [List.length_append]; rfl
      have hDJ : (D ++ [(π, par)])[D.length]? = some (π, par) := by rw [List.getElem?_append_right (Nat.le_refl _), Nat.sub_self]; rfl
      have hDi : ∀ (i : Nat) (d : a_PT × Int), D[i]? = some d → (D ++ [(π, par)])[i]? = some d := fun i d hi => by rw [List.getElem?_append_left (List.getElem?_eq_some_iff.mp hi).1]; exact hi
      -- the node is settled, and on it goes
      have fin : ∀ K3 : e3_H, mw b slot H0 K3 → (∀ a k : Int, a < 108 ∨ 110 < a → K3 a k = H21 a k) → CHN b (D ++ [(π, par)]) K3 → wM_makes_264 Q (fun l1 l3 l5 l6 H G => wM_makes_47 Q (d + 1) l1 l3 l5 l6 H G) slot way b D.length (b + (D.length : Int)) K3 G := fun K3 w3 g3 c3 => by
        have s3 : ∀ a k : Int, a < 108 ∨ 110 < a → (a ≠ 40 ∨ k ≠ 93) → (a < 107 ∨ 114 < a ∨ k ≠ b + (D.length : Int)) → K3 a k = K a k := fun a k h1 h2 h3 => (g3 a k h1).trans (same a k h2 h3)
        have slb : ∀ n : Int, n ≠ b + (D.length : Int) → lb4 K3 n = lb4 K n := fun n hn => by unfold lb4; rw [s3 111 n (by decide) (by omega) (by omega), s3 112 n (by decide) (by omega) (by omega), s3 113 n (by decide) (by omega) (by omega), s3 114 n (by decide) (by omega) (by omega)]
        have L3 : LNK σ m (rwl σ RL) way b (D ++ [(π, par)]) K3 := fun j π2 p2 hj => by
          by_cases hjD : j < D.length
          · rw [List.getElem?_append_left hjD] at hj
            obtain ⟨n1, n2⟩ := hN j π2 p2 hj
            refine ⟨by rw [s3 107 _ (by decide) (by omega) (by omega)]; exact n1, ?_⟩
            rcases n2 with y | ⟨e, π', i, pp, y1, y2, y3, y4, y5, y6⟩
            · exact Or.inl y
            · exact Or.inr ⟨e, π', i, pp, y1, y2, y3, hDi i _ y4, y5, fun z => by rw [slb _ (by omega)]; exact y6 z⟩
          · rw [List.getElem?_append_right (by omega)] at hj
            have h0 : j - D.length < 1 := (List.getElem?_eq_some_iff.mp hj).1
            have hjJ : j = D.length := by omega
            rw [hjJ, Nat.sub_self] at hj
            have hj : some (π, par) = some (π2, p2) := hj
            cases hj
            rw [hjJ]
            refine ⟨by rw [g3 107 _ (by decide)]; exact v107, ?_⟩
            rcases pP with y | ⟨e, π', i, pp, y1, y2, y3, y4, y5, y6⟩
            · exact Or.inl y
            · refine Or.inr ⟨e, π', i, pp, y1, (List.getElem?_eq_some_iff.mp y3).1, y2, hDi i _ y3, y4, fun z => ?_⟩
              have hlO : e3_and lO 1 = lO := by
                have y6 : lO = 0 ∨ lO = 1 := y6
                rcases y6 with z | z
                · rw [z]; exact and_1.1
                · rw [z]; exact and_1.2
              have : lb4 K3 (b + (D.length : Int)) = (lA, lB, lT, lO) := by
                have h := vlb
                rw [hlO] at h
                unfold lb4 at h ⊢
                rw [g3 111 _ (by decide), g3 112 _ (by decide), g3 113 _ (by decide), g3 114 _ (by decide)]
                exact h
              rw [this]
              exact y5 z
        have C3 : CTS σ m (rwl σ RL) way b (D ++ [(π, par)]) D.length K3 := fun j π2 p2 hjl hj => by
          rw [List.getElem?_append_left hjl] at hj
          have := hC j π2 p2 hjl hj
          unfold ctt at this ⊢
          rw [s3 102 _ (by decide) (by omega) (by omega), s3 103 _ (by decide) (by omega) (by omega), s3 104 _ (by decide) (by omega) (by omega), s3 105 _ (by decide) (by omega) (by omega), s3 106 _ (by decide) (by omega) (by omega)]
          exact this
        have k6' : SK K3 (S.map (fun a => a.2)) := SK_eq _ k6 (fun a k a1 a2 a3 => s3 a k (by omega) (by omega) (by omega))
        have htb3 : tb σ K3 := fun a k h3 h4 h5 => (w3.1 a k (by omega) (by omega)).trans (htb a k h3 h4 h5)
        have hM3 : M_rows σ K3 RL := M_rows_eq hM (fun a y ha => by
          rcases ha with z | z
          · exact w3.1 a y (by omega) (by omega)
          · rw [z.1]; exact w3.2 y (by omega) (by omega) (by omega))
        refine cM_settle (j := D.length) (π := π) (par := par) (S := S.map (fun a => a.2)) (D := D ++ [(π, par)]) hF hW4 htb3 (by rw [w3.2 10 (by decide) (by decide) (by decide)]; exact h10) hM3 hway hb (by rw [hDn]; omega) (by omega) L3 C3 hDJ pS (by rw [hml, g3 40 93 (by decide)]; exact v93) k6' (by rw [hml]; omega) (fun K4 z1 z2 z3 z4 => ?_)
        rw [e3_w32_id (by omega) (by omega)]
        -- what waits now
        have hkl : (kds σ m (rwl σ RL) way π).length ≤ 99 := by
          unfold kds
          split
          · exact Nat.zero_le _
          · split
            · split
              · exact Nat.zero_le _
              · exact (by decide : (1 : Nat) ≤ 99)
            · rw [List.length_map]
              exact lbs_len (by unfold rwl; rw [List.length_map]; exact hF.2.2.2.2.1) hF.2.2.1.2.1
        have q4 : ∀ a k : Int, (107 ≤ a ∧ a ≤ 114) ∨ (102 ≤ a ∧ a ≤ 106 ∧ k ≠ b + (D.length : Int)) → K4 a k = K3 a k := fun a k h => z1.1 a k (by omega) (by omega)
        have qlb : ∀ n, lb4 K4 n = lb4 K3 n := fun n => by unfold lb4; rw [q4 111 n (Or.inl (by decide)), q4 112 n (Or.inl (by decide)), q4 113 n (Or.inl (by decide)), q4 114 n (Or.inl (by decide))]
        have L4 : LNK σ m (rwl σ RL) way b (D ++ [(π, par)]) K4 := fun j π2 p2 hj => by
          obtain ⟨n1, n2⟩ := L3 j π2 p2 hj
          refine ⟨by rw [q4 107 _ (Or.inl (by decide))]; exact n1, ?_⟩
          rcases n2 with y | ⟨e, π', i, pp, y1, y2, y3, y4, y5, y6⟩
          · exact Or.inl y
          · exact Or.inr ⟨e, π', i, pp, y1, y2, y3, y4, y5, fun z => by rw [qlb]; exact y6 z⟩
        have C4 : CTS σ m (rwl σ RL) way b (D ++ [(π, par)]) (D ++ [(π, par)]).length K4 := fun j π2 p2 hjl hj => by
          rw [hDn] at hjl
          by_cases hjJ : j = D.length
          · subst hjJ
            rw [hDJ] at hj
            cases hj
            exact z2
          · have := C3 j π2 p2 (by omega) hj
            unfold ctt at this ⊢
            rw [q4 102 _ (Or.inr (by omega)), q4 103 _ (Or.inr (by omega)), q4 104 _ (Or.inr (by omega)), q4 105 _ (Or.inr (by omega)), q4 106 _ (Or.inr (by omega))]
            exact this
        have emap : ((kds σ m (rwl σ RL) way π).map (fun v => ((v.1 :: π, b + (D.length : Int), v.2) : a_PT × Int × Int × Int × Int × Int)) ++ S).map (fun a => a.2) = (kds σ m (rwl σ RL) way π).map (fun v => (b + (D.length : Int), v.2)) ++ S.map (fun a => a.2) := by
          rw [List.map_append, List.map_map]
          rfl
        have emap1 : ((kds σ m (rwl σ RL) way π).map (fun v => ((v.1 :: π, b + (D.length : Int), v.2) : a_PT × Int × Int × Int × Int × Int)) ++ S).map (fun a => a.1) = (kds σ m (rwl σ RL) way π).map (fun v => v.1 :: π) ++ S.map (fun a => a.1) := by
          rw [List.map_append, List.map_map]
          rfl
        have hlA : ((kds σ m (rwl σ RL) way π).map (fun v => ((v.1 :: π, b + (D.length : Int), v.2) : a_PT × Int × Int × Int × Int × Int)) ++ S).length = (kds σ m (rwl σ RL) way π).length + S.length := by rw [List.length_append, List.length_map]
        have hl4 : ((kds σ m (rwl σ RL) way π).map (fun v => (b + (D.length : Int), v.2)) ++ S.map (fun a => a.2)).length = (kds σ m (rwl σ RL) way π).length + S.length := by rw [List.length_append, List.length_map, List.length_map]
        have hNN : N.length = NA.length + NB.length := by rw [hNe, List.length_append]
        have hNAl : NA.length = N1.length + 1 := by rw [hNA]; rfl
        have := ih (D ++ [(π, par)]) ((kds σ m (rwl σ RL) way π).map (fun v => (v.1 :: π, b + (D.length : Int), v.2)) ++ S) (N1 ++ NB) K4 (by rw [List.length_append]; omega) (mw_tr w3 (mw_mz z1 hin)) (by rw [z3, hl4, hlA]) (by rw [emap]; exact z4) L4 C4 (CHN_eq c3 (fun a k h1 h2 => q4 a k (Or.inl (by omega)))) ?_ (by rw [emap1]; exact grL_app _ _ _ _ hgk hgS) (by rw [hDn, List.length_append]; omega) (by rw [hDn]; omega) (by rw [hlA]; omega) ?_ ?_
        · rw [hDn] at this
          exact this
        · intro a ha
          rcases List.mem_append.mp ha with z | z
          · obtain ⟨v, v1, v2⟩ := List.mem_map.mp z
            obtain ⟨o1, o2, o3, o4⟩ := kds_ok hF pS v1
            rw [← v2]
            exact ⟨o2, Or.inr ⟨v.1, π, D.length, par, rfl, rfl, hDJ, o1, o3, o4⟩⟩
          · obtain ⟨o1, o2⟩ := hA a (List.mem_cons_of_mem _ z)
            refine ⟨o1, ?_⟩
            rcases o2 with y | ⟨e, π', i, pp, y1, y2, y3, y4, y5, y6⟩
            · exact Or.inl y
            · exact Or.inr ⟨e, π', i, pp, y1, y2, hDi i _ y3, y4, y5, y6⟩
        · intro n π2 pp hn
          have flt : ((kds σ m (rwl σ RL) way π).map (fun v => ((v.1 :: π, b + (D.length : Int), v.2) : a_PT × Int × Int × Int × Int × Int))).filter (fun a => decide (a.2.1 = b + (n : Int))) = if n = D.length then (kds σ m (rwl σ RL) way π).map (fun v => ((v.1 :: π, b + (D.length : Int), v.2) : a_PT × Int × Int × Int × Int × Int)) else [] := by
            split
            · rename_i hz
              refine List.filter_eq_self.mpr (fun a ha => ?_)
              obtain ⟨v, _, v2⟩ := List.mem_map.mp ha
              rw [← v2, hz]
              exact decide_eq_true rfl
            · rename_i hz
              refine List.filter_eq_nil_iff.mpr (fun a ha => ?_)
              obtain ⟨v, _, v2⟩ := List.mem_map.mp ha
              rw [← v2]
              intro y
              have y : b + (D.length : Int) = b + (n : Int) := of_decide_eq_true y
              omega
          rw [List.filter_append, flt, List.length_append, cld_snoc]
          show (cld b (b + n) D 0 ++ (if par = b + n then [b + ((0 + D.length : Nat) : Int)] else [])).length + _ = _
          by_cases hnJ : n = D.length
          · subst hnJ
            rw [hDJ] at hn
            cases hn
            rw [if_pos rfl, List.length_map]
            have z0 : cld b (b + (D.length : Int)) D 0 = [] := by
              cases hz : cld b (b + (D.length : Int)) D 0 with
              | nil => rfl
              | cons c l =>
                exfalso
                obtain ⟨i, dd, h1, h2, _⟩ := cld_mem (c := c) D 0 (by rw [hz]; exact List.mem_cons_self ..)
                have := (List.getElem?_eq_some_iff.mp h1).1
                rcases hNp i dd h1 with y | ⟨i', y1, y2⟩ <;> omega
            have zS : S.filter (fun a => decide (a.2.1 = b + (D.length : Int))) = [] := by
              refine List.filter_eq_nil_iff.mpr (fun a ha => ?_)
              intro y
              have y : a.2.1 = b + (D.length : Int) := of_decide_eq_true y
              rcases (hA a (List.mem_cons_of_mem _ ha)).2 with ⟨_, y2⟩ | ⟨e, π', i, pp, y1, y2, y3, _⟩
              · omega
              · have := (List.getElem?_eq_some_iff.mp y3).1
                omega
            rw [z0, zS, if_neg (by rcases hpar with y | ⟨i', y1, y2⟩ <;> omega)]
            show 0 + (_ + 0) = _
            omega
          · rw [if_neg hnJ]
            have hnD : n < D.length := by
              have := (List.getElem?_eq_some_iff.mp hn).1
              rw [hDn] at this
              omega
            rw [List.getElem?_append_left hnD] at hn
            have hc := hcnt n π2 pp hn
            rw [List.filter_cons] at hc
            rw [List.length_append]
            by_cases hpn : par = b + n
            · rw [if_pos hpn]
              rw [if_pos (decide_eq_true hpn), List.length_cons] at hc
              show _ + 1 + (0 + _) = _
              omega
            · rw [if_neg hpn]
              rw [if_neg (fun z => hpn (of_decide_eq_true z))] at hc
              show _ + 0 + (0 + _) = _
              omega
        · have hgz := hga
          rw [hNA] at hgz
          have hst := ZDN_step hZ2 hgz hgk
          rw [List.map_append, List.map_map]
          exact hst
      have hcp : ∀ i : Nat, i < D.length → par = b + i → (cld b par D 0 = [] ∧ K 108 par = -4) ∨ (cld b par D 0 ≠ [] ∧ K 108 par ≠ -4 ∧ ∃ iz : Nat, iz < D.length ∧ K 109 par = b + iz) := fun i hi hp => by
        obtain ⟨c1, c2⟩ := hCh i hi
        rw [← hp] at c1 c2
        cases hz : cld b par D 0 with
        | nil => rw [hz] at c1; exact Or.inl ⟨rfl, c1⟩
        | cons c l =>
          refine Or.inr ⟨fun z => (by cases z), ?_, ?_⟩
          · rw [hz] at c1
            obtain ⟨i2, dd, _, _, h3⟩ := cld_mem (c := c) D 0 (by rw [hz]; exact List.mem_cons_self ..)
            rw [c1.1]
            omega
          · obtain ⟨l', z, hlz⟩ := snoc_of (l := cld b par D 0) (by rw [hz]; exact fun z => by cases z)
            obtain ⟨i2, dd, h1, _, h3⟩ := cld_mem (c := z) D 0 (by rw [hlz]; exact List.mem_append_right _ (List.mem_singleton.mpr rfl))
            exact ⟨i2, (List.getElem?_eq_some_iff.mp h1).1, by rw [c2 l' z hlz, h3, Nat.zero_add]⟩
      refine ⟨fun hp4 => ?_, fun hp4 => ?_⟩
      · refine brT hp4 (brT hp4 (fin H21 w21 (fun _ _ _ => rfl) (CHN_new hb hNp hpar hCh (fun k h1 _ => same 108 k (by omega) (by omega)) (fun k h1 _ => same 109 k (by omega) (by omega)) (fun k h1 _ => same 110 k (by omega) (by omega)) v108 v110 (fun z => absurd hp4 z))))
      · obtain ⟨i, hi, hpi⟩ : ∃ i : Nat, i < D.length ∧ par = b + i := by
          rcases hpar with y | y
          · exact absurd y hp4
          · exact y
        have hpn : par ≠ b + (D.length : Int) := by omega
        have p0 : 0 ≤ par ∧ par < 3900 := by omega
        have e108 : H21 108 par = K 108 par := same 108 par (by omega) (by omega)
        have e109 : H21 109 par = K 109 par := same 109 par (by omega) (by omega)
        refine ⟨p0, ?_⟩
        rw [e108]
        rcases hcp i hi hpi with ⟨c1, c2⟩ | ⟨c1, c2, iz, c3, c4⟩
        · refine brT c2 ⟨p0, ?_⟩
          intro H24 e24
          refine brF hp4 ⟨p0, ?_⟩
          intro H25 e25
          refine fin H25 (by rw [e25, e24]; exact mw_up (mw_up w21 (Or.inl ⟨by decide, by decide, by omega, by omega⟩)) (Or.inl ⟨by decide, by decide, by omega, by omega⟩)) (fun a k h => by rw [e25, e3_up_ne (fun z => by omega), e24, e3_up_ne (fun z => by omega)]) (CHN_new hb hNp hpar hCh (fun k h1 h2 => ?_) (fun k h1 h2 => ?_) (fun k h1 h2 => ?_) ?_ ?_ (fun _ => ⟨?_, fun _ => ?_, fun z => absurd c1 z⟩))
          · rw [e25, e3_up_ne (ne_1 (by decide)), e24, e3_up_ne (fun z => h2 z.2)]; exact same 108 k (by omega) (by omega)
          · rw [e25, e3_up_ne (fun z => h2 z.2), e24, e3_up_ne (ne_1 (by decide))]; exact same 109 k (by omega) (by omega)
          · rw [e25, e3_up_ne (ne_1 (by decide)), e24, e3_up_ne (ne_1 (by decide))]; exact same 110 k (by omega) (by omega)
          · rw [e25, e3_up_ne (ne_1 (by decide)), e24, e3_up_ne (fun z => hpn z.2.symm)]; exact v108
          · rw [e25, e3_up_ne (ne_1 (by decide)), e24, e3_up_ne (ne_1 (by decide))]; exact v110
          · rw [e25, e3_up_self]
          · rw [e25, e3_up_ne (ne_1 (by decide)), e24, e3_up_self]
        · refine brF c2 (brF hp4 ⟨p0, ?_⟩)
          rw [e109, c4]
          refine ⟨by omega, ?_⟩
          intro H24 e24
          refine brF hp4 ⟨p0, ?_⟩
          intro H25 e25
          refine fin H25 (by rw [e25, e24]; exact mw_up (mw_up w21 (Or.inl ⟨by decide, by decide, by omega, by omega⟩)) (Or.inl ⟨by decide, by decide, by omega, by omega⟩)) (fun a k h => by rw [e25, e3_up_ne (fun z => by omega), e24, e3_up_ne (fun z => by omega)]) (CHN_new hb hNp hpar hCh (fun k h1 h2 => ?_) (fun k h1 h2 => ?_) (fun k h1 h2 => ?_) ?_ ?_ (fun _ => ⟨?_, fun z => absurd z c1, fun _ => ⟨?_, ?_⟩⟩))
          · rw [e25, e3_up_ne (ne_1 (by decide)), e24, e3_up_ne (ne_1 (by decide))]; exact same 108 k (by omega) (by omega)
          · rw [e25, e3_up_ne (fun z => h2 z.2), e24, e3_up_ne (ne_1 (by decide))]; exact same 109 k (by omega) (by omega)
          · have hk : k ≠ b + iz := by
              rcases h2 with z | z | z
              · exact absurd z c1
              · exact absurd z hp4
              · rw [c4] at z; exact z
            rw [e25, e3_up_ne (ne_1 (by decide)), e24, e3_up_ne (fun z => hk z.2)]; exact same 110 k (by omega) (by omega)
          · rw [e25, e3_up_ne (ne_1 (by decide)), e24, e3_up_ne (ne_1 (by decide))]; exact v108
          · rw [e25, e3_up_ne (ne_1 (by decide)), e24, e3_up_ne (fun z => by have := z.2; omega)]; exact v110
          · rw [e25, e3_up_self]
          · rw [e25, e3_up_ne (ne_1 (by decide)), e24, e3_up_ne (ne_1 (by decide))]; exact e108
          · rw [c4, e25, e3_up_ne (ne_1 (by decide)), e24, e3_up_self]
end MMK
