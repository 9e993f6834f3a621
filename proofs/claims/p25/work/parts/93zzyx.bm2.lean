/-- how sorting by a tree ends, in the reference -/
def BMo (σ H : e3_H) (f : Int) (RL : List (Int × Int × List (Int × Int))) (n3 : Int) (L : List Int) (o : Int × Nat × Nat × List Int) (x : Int) (K : e3_H) : Prop := (zT H K ∧ z6 (H 40 109) K) ∧ K 40 122 = n3 + (o.2.2.1 : Int) ∧ LGM (L ++ o.2.2.2.map (fun r => 100 * f + r % 16)) K ∧ ((o.1 = 0 ∧ (∃ (r w : Int) (V : List (Int × Int)), RL[o.2.1]? = some (r, w, V) ∧ x = r ∧ ∀ k : Int, 0 ≤ k → k < σ 56 r → K 136 k = nB σ H V k) ∧ K 40 119 = H 40 119 ∧ K 40 125 = H 40 125) ∨ ((o.1 = 1 ∨ o.1 = 2) ∧ x = -4 ∧ K 40 119 = o.1 ∧ K 40 125 = H 40 125) ∨ (o.1 = 3 ∧ x = -4 ∧ K 40 119 = 3 ∧ ∃ (r w : Int) (V : List (Int × Int)), RL[o.2.1]? = some (r, w, V) ∧ K 40 125 = r % 16))
/-- rows of the reference -/
def RLM (σ : e3_H) (f : Int) (R : a_RW) (RL : List (Int × Int × List (Int × Int))) : Prop := ∀ (i : Nat) (r w : Int) (V : List (Int × Int)), RL[i]? = some (r, w, V) → (∃ (k : Int) (Vk : Int → List (Int × Int)), r = 16 * f + k ∧ (0 ≤ k ∧ k < 16) ∧ zRl σ f k Vk ∧ V = Vk w) ∧ (0 ≤ w ∧ w < σ 74 r) ∧ w = wcn R r i ∧ (0 ≤ σ 56 r ∧ σ 56 r ≤ 8)
section BTM
variable {Q : Int → e3_H → e3_G → Prop} {σ σt H : e3_H} {G : e3_G} {m mt : Nat} {f way : Int} {N : List a_ND} {R : a_RW} {RL : List (Int × Int × List (Int × Int))} {D : List a_PT}
theorem BMo_t {n3 x : Int} {L : List Int} {K2 : e3_H} {o : Int × Nat × Nat × List Int} (h : BMo σ H f RL (n3 + 1) L o x K2) : BMo σ H f RL n3 L (o.1, o.2.1, o.2.2.1 + 1, o.2.2.2) x K2 := by
  obtain ⟨s1, s2, s3, s4⟩ := h
  refine ⟨s1, ?_, s3, s4⟩
  show K2 40 122 = n3 + ((o.2.2.1 + 1 : Nat) : Int)
  rw [s2]
  omega
theorem BMo_g {n3 x r : Int} {L : List Int} {K2 : e3_H} {o : Int × Nat × Nat × List Int} (h : BMo σ H f RL n3 (L ++ [100 * f + r % 16]) o x K2) : BMo σ H f RL n3 L (o.1, o.2.1, o.2.2.1, r :: o.2.2.2) x K2 := by
  obtain ⟨s1, s2, s3, s4⟩ := h
  refine ⟨s1, s2, ?_, s4⟩
  show LGM (L ++ ((100 * f + r % 16) :: o.2.2.2.map (fun r => 100 * f + r % 16))) K2
  rw [List.append_assoc] at s3
  exact s3
theorem zT_lg {H K : e3_H} {n v : Int} (h : zT H K) : zT H (lgM n v K) := ⟨fun a k h1 h2 h3 h4 => by rw [lgM_ne h3 (ne_1 h1)]; exact h.1 a k h1 h2 h3 h4, fun k h1 h2 h3 h4 h5 => by rw [lgM_ne (by decide) (ne_2 h4)]; exact h.2 k h1 h2 h3 h4 h5⟩
/-- a rule is found, in the reference -/
theorem nM_35 {k6 : Int → e3_H → e3_G → Prop} {k j : Nat} {π : a_PT} {n3 l3 : Int} {L : List Int} {K : e3_H} {i : Nat} {r w : Int} {T V : List (Int × Int)} (hf : 0 ≤ f ∧ f < 12) (hj : j < 120) (h68 : 1 ≤ σ 68 f ∧ σ 68 f ≤ 3) (htb : tb σ H) (hTVK : ∀ K, zT H K → TV σ m K) (h160 : H 26 1 ≤ 160) (hA : AK mt σt σ) (hcol : ∀ i : Int, 0 ≤ i → i < σ 68 f → oks H (H 135 i) (σ 69 (3 * f + i))) (hZ : RLM σ f R RL) (fK : zT H K) (sK : z6 (H 40 109) K) (h06 : K 40 119 = H 40 119 ∧ K 40 125 = H 40 125) (hn3 : K 40 122 = n3) (hL : LGM L K) (hLn : (L.length : Int) ≤ 1000000) (hf1 : fst σt π R 0 = some (i, r, T)) (hc : cho σt mt R π way T 0 none 0 = none) (v1 : RL[i]? = some (r, w, V)) (v3 : VQ σ f V) (v4 : NV1 σ r V) (v5 : r / 16 = f) (v6 : GDP σ r) (hfit : ∀ p, p ∈ V → fitv σ H p.1 (vt H p.2)) (e103 : K 103 (300 * f + j) = r) (e104 : K 104 (300 * f + j) = w) (hl3 : l3 = if σ 78 r = 0 then 1 else 2)
    (hnext : σ 78 r ≠ 0 → ∀ K2 : e3_H, zT H K2 → z6 (H 40 109) K2 → (K2 40 119 = H 40 119 ∧ K2 40 125 = H 40 125) → K2 40 122 = n3 → LGM (L ++ [100 * f + r % 16]) K2 → (∀ x K3, BMo σ H f RL n3 (L ++ [100 * f + r % 16]) (wk σt mt R way H (vro RL) k ((0, r, r) :: π)) x K3 → Q x K3 G) → k6 (K2 108 (300 * f + j)) K2 G)
    (hQ : ∀ x K2, BMo σ H f RL n3 L (wk σt mt R way H (vro RL) (k + 1) π) x K2 → Q x K2 G) : wM_byTree_35 Q k6 (300 * f + j) l3 K G := by
  have ix : (0 : Int) ≤ 300 * f + j ∧ 300 * f + j < 3900 := by omega
  have tK := tb_zT htb fK
  have TK := hTVK K fK
  have TH := hTVK H (zT_rf H)
  have ev : ∀ x : Int, vt K x = vt H x := vt_eq (fun a k ha => fK.1 a k (by omega) (by omega) (by omega) (by omega))
  have e26 : ∀ a k : Int, (26 ≤ a ∧ a ≤ 32) ∨ (128 ≤ a ∧ a ≤ 135) ∨ (42 ≤ a ∧ a ≤ 45) → K a k = H a k := fun a k ha => fK.1 a k (by omega) (by omega) (by omega) (by omega)
  obtain ⟨⟨kk, Vk, ek, hk0, hzr, eV⟩, hw, _, h56⟩ := hZ i r w V v1
  have e78 := hA.1 78 r (by decide)
  have gA := gdv_AK (M := H) hA V r
  have ewk := wk_l (way := way) (M := H) (Vr := vro RL) (k := k) hf1 hc
  rw [vro_at v1, ← e78, gA] at ewk
  have hok : ∀ p, p ∈ V → oks H (vt H p.2) (σ 47 p.1) := fun p hp => by
    obtain ⟨A, B, e⟩ := List.append_of_mem hp
    exact vis_ok TH hcol v3 (A.length + 1) A p B (by omega) e (fun a ha => hfit a (by rw [e]; exact List.mem_append_left _ ha))
  have c109 : H 26 1 = H 40 109 := TH.1.1
  have hfK : ∀ p, p ∈ V → fitv σ K p.1 (vt K p.2) := fun p hp => by
    have := hfit p hp
    unfold fitv at this ⊢
    rw [ev, e26 28 _ (by decide)]
    exact this
  have hcK : ∀ i : Int, 0 ≤ i → i < σ 68 f → oks K (K 135 i) (σ 69 (3 * f + i)) := fun i i0 i1 => by
    obtain ⟨⟨o1, o2⟩, o3⟩ := hcol i i0 i1
    rw [e26 135 i (by decide)]
    refine ⟨⟨o1, by rw [e26 26 1 (by decide)]; exact o2⟩, ?_⟩
    unfold sOf at o3 ⊢
    rw [e26 27 _ (by decide), e26 28 _ (by decide), show K 43 = H 43 from funext fun k => e26 43 k (by decide)]
    exact o3
  unfold wM_byTree_35
  rw [e103, e104, ek]
  refine ⟨ix, ix, nM_binds0 (f := f) (k := kk) (w := w) (V := Vk) (m := m) hf hk0 h68 hzr (by rw [← ek]; exact hw) tK TK (by rw [e26 26 1 (by decide)]; exact h160) hcK (by rw [← eV]; exact v3) (fun _ K3 b3 n6' => ?_) (fun hno => absurd (by rw [← eV]; exact hfK) hno)⟩
  rw [← eV] at n6'
  have f3 : zT H K3 := zT_tr fK (zT_B b3)
  have g3 : ∀ a k : Int, a ≠ 40 → a ≠ 136 → a < 94 ∨ 98 < a → K3 a k = K a k := fun a k h1 h2 h3 => b3.1 a k h1 h2 h3
  have nm : ∀ k : Int, 0 ≤ k → k < σ 56 r → K3 136 k = nB σ H V k := fun k k0 k1 => by
    have ek2 : ((k.toNat : Nat) : Int) = k := by omega
    have h1 := n6' k k0 (by omega)
    have h2 := nmf_in (σ := σ) (M := K) (v4.1 k.toNat (by omega)) (K 136) (fun _ => 0)
    rw [ek2] at h2
    rw [h1, h2]
    show nB σ K V k = nB σ H V k
    rw [nB_eq (fun a k ha => e26 a k (by omega)) V]
  have s3 : z6 (H 40 109) K3 := fun i i0 i1 => by
    rw [n6' i i0 i1]
    refine nmf_z6 V (K 136) sK (fun p hp => ?_) i i0 i1
    rw [ev, ← c109]
    exact (hok p hp).1
  have x103 : K3 103 (300 * f + j) = r := by rw [g3 103 _ (by decide) (by decide) (by decide)]; exact e103
  have x119 : K3 40 119 = H 40 119 := by rw [b3.2 119 (by decide)]; exact h06.1
  have x125 : K3 40 125 = H 40 125 := by rw [b3.2 125 (by decide)]; exact h06.2
  have x122 : K3 40 122 = n3 := by rw [b3.2 122 (by decide)]; exact hn3
  have l3' : LGM L K3 := LGM_eq hL (b3.2 123 (by decide)) (fun x => g3 137 x (by decide) (by decide) (by decide))
  refine ⟨fun z => ⟨ix, ?_⟩, fun z => ?_⟩
  · have hz : σ 78 r ≠ 0 := fun y => by rw [if_pos y] at hl3; omega
    obtain ⟨w1, w2⟩ := hzr.2 (by rw [← ek]; exact hz)
    rw [← ek] at w1 w2
    rw [x103]
    have hgm := gd_m (K := K3) (M := H) v6 hz nm (fun k k0 k1 k2 => by
      have ek2 : ((k.toNat : Nat) : Int) = k := by omega
      have ho := nB_ok v4 hok k.toNat (by omega)
      rw [ek2, k2] at ho
      have w27 := (oks_wh TH ho).1 (by decide)
      have := ((TH.1.2 _ ho.1.1 ho.1.2).2.1 (by omega)).1
      rw [g3 129 _ (by decide) (by decide) (by decide), e26 129 _ (by decide)]
      exact this.symm)
    refine nM_guarded (c := H 40 109) (n := K3 40 123) (tb_zT tK (zT_B b3)) (by omega) s3 (by omega) w1 w2 ⟨rfl, by rw [l3'.1]; omega, by rw [l3'.1]; exact hLn⟩ ?_
    rw [hgm, v5]
    have L4 := LGM_psh (v := 100 * f + r % 16) l3'
    have f4 : zT H (lgM (K3 40 123) (100 * f + r % 16) K3) := zT_lg f3
    have q : ∀ a x : Int, a ≠ 137 → ¬ (a = 40 ∧ x = 123) → lgM (K3 40 123) (100 * f + r % 16) K3 a x = K3 a x := fun a x h1 h2 => lgM_ne h1 h2
    have s4 : z6 (H 40 109) (lgM (K3 40 123) (100 * f + r % 16) K3) := fun i i0 i1 => by rw [q 136 i (by decide) (by omega)]; exact s3 i i0 i1
    generalize lgM (K3 40 123) (100 * f + r % 16) K3 = K4 at L4 f4 q s4
    have y103 : K4 103 (300 * f + j) = r := by rw [q 103 _ (by decide) (by omega)]; exact x103
    by_cases u2 : gdv σ (tvp σ H (nB σ H V)) r = 2
    · rw [u2]
      refine brT rfl (fun H1 e1 => ⟨ix, by decide, fun H2 e2 => brT (by decide) (brF (by decide) (hQ _ H2 ?_))⟩)
      have p103 : H1 103 (300 * f + j) = r := by rw [e1, e3_up_ne (ne_1 (by decide))]; exact y103
      rw [p103, e3_rem_id ⟨by omega, by omega⟩ (by decide)] at e2
      rw [ewk, if_neg hz, if_neg (by rw [u2]; decide), if_pos u2]
      refine ⟨⟨by rw [e2, e1]; exact zT_up (zT_up f4 (by omega)) (by omega), by rw [e2, e1]; exact z6_up (z6_up s4 (Or.inl (by decide))) (Or.inl (by decide))⟩, ?_, ?_, Or.inr (Or.inr ⟨rfl, rfl, ?_, r, w, V, v1, ?_⟩)⟩
      · show H2 40 122 = n3 + ((0 : Nat) : Int)
        rw [e2, e3_up_ne (by decide), e1, e3_up_ne (by decide), q 40 122 (by decide) (by decide), x122]
        omega
      · exact LGM_eq L4 (by rw [e2, e3_up_ne (by decide), e1, e3_up_ne (by decide)]) (fun x => by rw [e2, e3_up_ne (ne_1 (by decide)), e1, e3_up_ne (ne_1 (by decide))])
      · rw [e2, e3_up_ne (by decide), e1, e3_up_self]
      · rw [e2, e3_up_self]
    · by_cases u1 : gdv σ (tvp σ H (nB σ H V)) r = 1
      · rw [u1]
        refine brF (by decide) (brT (by decide) (brT rfl ⟨ix, hQ _ K4 ?_⟩))
        rw [ewk, if_neg hz, if_pos u1]
        refine ⟨⟨f4, s4⟩, ?_, L4, Or.inl ⟨rfl, ⟨r, w, V, v1, y103, fun k k0 k1 => by rw [q 136 k (by decide) (by omega)]; exact nm k k0 k1⟩, by rw [q 40 119 (by decide) (by decide)]; exact x119, by rw [q 40 125 (by decide) (by decide)]; exact x125⟩⟩
        show K4 40 122 = n3 + ((0 : Nat) : Int)
        rw [q 40 122 (by decide) (by decide), x122]
        omega
      · have u0 : gdv σ (tvp σ H (nB σ H V)) r = 0 := by
          rcases gdv_cs σ (tvp σ H (nB σ H V)) r with h | h | h
          · exact h
          · exact absurd h u1
          · exact absurd h u2
        rw [u0]
        refine brF (by decide) (brF (by decide) ⟨ix, hnext hz K4 f4 s4 ⟨by rw [q 40 119 (by decide) (by decide)]; exact x119, by rw [q 40 125 (by decide) (by decide)]; exact x125⟩ (by rw [q 40 122 (by decide) (by decide)]; exact x122) L4 (fun x K5 hb => hQ x K5 ?_)⟩)
        rw [ewk, if_neg hz, if_neg u1, if_neg u2]
        exact BMo_g hb
  · have hz : σ 78 r = 0 := by
      by_cases y : σ 78 r = 0
      · exact y
      · rw [if_neg y] at hl3; exact absurd hl3 z
    refine brF (by decide) (brT (by decide) (brT rfl ⟨ix, hQ _ K3 ?_⟩))
    rw [ewk, if_pos hz]
    refine ⟨⟨f3, s3⟩, ?_, ?_, Or.inl ⟨rfl, ⟨r, w, V, v1, x103, nm⟩, x119, x125⟩⟩
    · show K3 40 122 = n3 + ((0 : Nat) : Int)
      rw [x122]
      omega
    · show LGM (L ++ []) K3
      rw [List.append_nil]
      exact l3'
/-- sorting by a tree, in the reference -/
theorem nM_6t (hf : 0 ≤ f ∧ f < 12) (h68 : 1 ≤ σ 68 f ∧ σ 68 f ≤ 3) (htb : tb σ H) (hM : zMV H) (hTVK : ∀ K, zT H K → TV σ m K) (h160 : H 26 1 ≤ 160) (hTa : RTa (300 * f) R N H) (hzt : zTN f (300 * f) N.length H) (hD : ∀ (j : Nat) (π : a_PT), D[j]? = some π → ∃ d : a_ND, N[j]? = some d ∧ SP σt mt R π ∧ (∃ (k : Nat) (N' X : List a_ND), gr σt mt R way k π (d :: N') ∧ N.drop j = (d :: N') ++ X) ∧ ∀ (x : Nat) (v : (Int × Int × Int) × (Int × Int × Int × Int)), (kds σt mt R way π)[x]? = some v → ∃ c : Nat, (chl N d.2.2.2.1.toNat (j + 1))[x]? = some c ∧ D[c]? = some (v.1 :: π) ∧ (v.1.1 ≠ 0 → lb4 H (300 * f + (c : Int)) = v.2) ∧ H 107 (300 * f + (c : Int)) = 300 * f + (j : Int)) (hRT : RT σt f R) (hA : AK mt σt σ) (hk : k_inv σt mt) (hKP : KP σt mt) (hX : RLX σ f R RL) (hZ : RLM σ f R RL) (hcol : ∀ i : Int, 0 ≤ i → i < σ 68 f → oks H (H 135 i) (σ 69 (3 * f + i))) : ∀ (k : Nat) (π : a_PT) (j : Nat) (n3 : Int) (L : List Int) (K : e3_H), D[j]? = some π → (∃ NN, gr σt mt R way k π NN) → zT H K → z6 (H 40 109) K → (K 40 119 = H 40 119 ∧ K 40 125 = H 40 125) → (K 40 122 = n3 ∧ 0 ≤ n3 ∧ n3 + (120 - (j : Int)) ≤ 1000000) → LGM L K → (L.length : Int) + (120 - (j : Int)) ≤ 1000000 → PV σt mt R H π → (∀ x K2, BMo σ H f RL n3 L (wk σt mt R way H (vro RL) k π) x K2 → Q x K2 G) → wM_byTree_6 Q k (300 * f + j) K G := by
  have hN : N.length ≤ 120 := hzt.1
  have TH := hTVK H (zT_rf H)
  have c109 : H 26 1 = H 40 109 := TH.1.1
  have hc0 := hcol 0 (by decide) (by omega)
  intro k
  induction k with
  | zero => intro π j n3 L K _ h; obtain ⟨_, h⟩ := h; exact h.elim
  | succ k ih =>
    intro π j n3 L K hDj hg fK sK h06 hn3 hL hLn hPV hQ
    obtain ⟨NN, hg⟩ := hg
    obtain ⟨d, nj, hS, ⟨kk, N', X, hgr, _⟩, hkid⟩ := hD j π hDj
    obtain ⟨y1, y2, y3⟩ := gr_nd hgr
    have gl := (gr_hd hgr).1
    have jn := (List.getElem?_eq_some_iff.mp nj).1
    have RK := RTa_eq hTa hN (fun a k a1 a2 _ _ => fK.1 a k (by omega) (by omega) (by omega) (by omega))
    obtain ⟨⟨r1, r2, r3, r4, r5⟩, r6, r7, r8, r9, r10, r11⟩ := RK j d nj
    have ix : (0 : Int) ≤ 300 * f + j ∧ 300 * f + j < 3900 := by omega
    unfold wM_byTree_6
    rw [r1]
    refine ⟨ix, ?_⟩
    cases hf1 : fst σt π R 0 with
    | none =>
      obtain ⟨d1, _⟩ := y2 hf1
      rw [d1]
      refine brT rfl (fun H2 e2 => hQ (-4) H2 ?_)
      rw [wk_n hf1]
      refine ⟨⟨by rw [e2]; exact zT_up fK (by omega), by rw [e2]; exact z6_up sK (Or.inl (by decide))⟩, ?_, ?_, Or.inr (Or.inl ⟨Or.inl rfl, rfl, by rw [e2, e3_up_self], by rw [e2, e3_up_ne (by decide)]; exact h06.2⟩)⟩
      · show H2 40 122 = n3 + ((0 : Nat) : Int)
        rw [e2, e3_up_ne (by decide), hn3.1]
        omega
      · show LGM (L ++ []) H2
        rw [List.append_nil]
        exact LGM_eq hL (by rw [e2, e3_up_ne (by decide)]) (fun x => by rw [e2, e3_up_ne (ne_1 (by decide))])
    | some u =>
      obtain ⟨i, r, T⟩ := u
      obtain ⟨z1, z2⟩ := y3 i r T hf1
      obtain ⟨j0, ej, hgi, hlv, _⟩ := fst_some R 0 i (r, T) hf1
      rw [Nat.zero_add] at ej
      subst ej
      obtain ⟨w, V, v1, v2, v3, v4, v5, v6⟩ := hX i r T hgi
      have hmR := List.mem_of_getElem? hgi
      cases hc : cho σt mt R π way T 0 none 0 with
      | none =>
        obtain ⟨d1, d2⟩ := z1 hc
        have e78 := hA.1 78 r (by decide)
        rw [← e78] at d1
        have d12 : d.1 = 1 ∨ d.1 = 2 := by
          rw [d1]
          split
          · exact Or.inl rfl
          · exact Or.inr rfl
        have row : wM_byTree_35 Q (fun l2 H G => wM_byTree_6 Q k l2 H G) (300 * f + j) d.1 K G := by
          obtain ⟨w', w1, w2, w3, w4⟩ := r6 d12
          rw [d2, Int.toNat_natCast] at w1 w4
          rw [hgi] at w1
          cases w1
          have hw4 := (hZ i r w V v1).2.2.1
          refine nM_35 (i := i) (w := w) hf (by omega) h68 htb hTVK h160 hA hcol hZ fK sK h06 hn3.1 hL (by omega) hf1 hc v1 v3 v4 v5 v6 (leaf_fit hA hk.2.2.2.1 hPV hmR hlv v2 v3 hc) w3 (w4.trans hw4.symm) d1 (fun hz K2 f2 s2 p06 p3 pL pQ => ?_) hQ
          have hz' : σt 78 r ≠ 0 := by rw [← e78]; exact hz
          have hkd := kds_l hf1 hc hz'
          have hv : (kds σt mt R way π)[0]? = some ((0, r, r), (0, 0, 0, 0)) := by rw [hkd]; rfl
          obtain ⟨c, q1, q2, _⟩ := hkid 0 _ hv
          have hd1 : d.2.2.2.1.toNat = 1 := by rw [gl, hkd]; rfl
          rw [hd1] at q1 r10
          have q1 : some (j + 1) = some c := q1
          cases q1
          have e108 : K2 108 (300 * f + j) = 300 * f + ((j + 1 : Nat) : Int) := by
            rw [f2.1 108 _ (by decide) (by decide) (by decide) (by decide), ← fK.1 108 _ (by decide) (by decide) (by decide) (by decide)]
            exact r10.1
          have ll : ((L ++ [100 * f + r % 16]).length : Int) = (L.length : Int) + 1 := by rw [List.length_append]; rfl
          rw [e108]
          exact ih ((0, r, r) :: π) (j + 1) n3 (L ++ [100 * f + r % 16]) K2 q2 (gr_kid hg _ (List.mem_of_getElem? hv)) f2 s2 p06 ⟨p3, hn3.2.1, by omega⟩ pL (by omega) (PV_gd hRT hPV) pQ
        refine brF (by omega) ⟨fun _ => row, fun y => brT (by omega) row⟩
      | some p =>
        obtain ⟨q, x⟩ := p
        obtain ⟨d1, d2, d3⟩ := z2 q x hc
        have hqx : (q, x) ∈ T ∧ ask π x = true := by
          rcases cho_some T 0 none 0 (q, x) hc with z | z
          · cases z
          · exact z
        obtain ⟨t1, t2, t3, t4⟩ := test_at hA hk.2.2.2.1 hPV hmR hlv v2 v3 TH hcol hS hqx.1 hqx.2
        have nr := ndo_rg (σt 47 q)
        have e47 : σ 47 q = σt 47 q := hA.1 47 q (by decide)
        rw [d1]
        refine brF (by omega) (brF (by omega) (brF (by omega) (fun K1 k1 => ⟨ix, ?_⟩)))
        rw [hn3.1, e3_w32_id (by omega) (by omega)] at k1
        have f1 : ∀ a y : Int, ¬ (a = 40 ∧ y = 122) → K1 a y = K a y := fun a y h => by rw [k1, e3_up_ne h]
        have fr1 : zT H K1 := by rw [k1]; exact zT_up fK (by omega)
        have s1 : z6 (H 40 109) K1 := by rw [k1]; exact z6_up sK (Or.inl (by decide))
        have ev : ∀ x : Int, vt K1 x = vt H x := vt_eq (fun a k ha => fr1.1 a k (by omega) (by omega) (by omega) (by omega))
        have x105 : K1 105 (300 * f + j) = x := by rw [f1 105 _ (by omega), r8 (by omega)]; exact d3
        have tz := (hzt.2 j jn).2.2.2.2
        have hRH := (hTa j d nj)
        have hpl : zPL (σ 68 f) 11 x := by
          have h102 : H 102 (300 * f + j) = d.1 := hRH.1.1
          have h105 : H 105 (300 * f + j) = x := (hRH.2.2.2.1 (by omega)).trans d3
          rw [h102, h105, htb 68 f (by decide) (by decide) (by decide)] at tz
          rcases tz with y | y | y
          · omega
          · omega
          · exact y.2
        rw [x105]
        have hc1 : 1 ≤ H 40 109 := by have := hc0.1.1; have := hc0.1.2; omega
        refine nM_standing (c := H 40 109) (m := σ 68 f) h68.2 (by omega) (fun i i0 i1 => ?_) hpl (by omega) (fun i i0 i1 => ?_) ⟨ix, (lbs σt mt R π x (σt 47 q)).length + 1, ?_⟩
        · rw [fr1.1 132 i (by decide) (by decide) (by decide) (by decide)]
          have := hM.2.1 i i0 i1
          omega
        · rw [fr1.1 135 _ (by decide) (by decide) (by decide) (by decide)]
          have := hcol (i - 1) (by omega) (by omega)
          exact ⟨this.1.1, by have := this.1.2; omega⟩
        · rw [ev]
          have T1 := hTVK K1 fr1
          have e26 : ∀ a k : Int, a = 26 ∨ a = 27 ∨ a = 28 ∨ a = 43 → K1 a k = H a k := fun a k ha => fr1.1 a k (by omega) (by omega) (by omega) (by omega)
          have o1 : 0 ≤ vt H x ∧ vt H x < 160 := ⟨t1.1.1, by have := t1.1.2; omega⟩
          have ho : sOf K1 (K1 27 (vt H x)) (K1 28 (vt H x)) (σt 47 q) = true := by
            have := t1.2
            rw [e47] at this
            unfold sOf at this ⊢
            rw [e26 27 _ (by decide), e26 28 _ (by decide), show K1 43 = H 43 from funext fun k => e26 43 k (by decide)]
            exact this
          have hV1 : VR1 K1 (vt H x) := T1.1.2 _ t1.1.1 (by rw [e26 26 1 (by decide)]; exact t1.1.2)
          have hqn := (hRT (r, T) hmR).2.2 (q, x) hqx.1
          have sq : 0 ≤ σt 47 q := hqn.1.1
          have hs : ∀ w', w' ∈ R → lv σt w' π = true → ∀ q', (q', x) ∈ w'.2 → σt 47 q' = σt 47 q := fun w' hw' hl' q' hq' => SH hRT hS hk.2.2.2.1 hKP hk.2.1 hqx.2 hw' hmR hl' hlv hq' hqx.1
          have hkd := kds_t hf1 hc
          have hlen : d.2.2.2.1 = ((lbs σt mt R π x (σt 47 q)).length : Int) := by rw [gl, hkd, List.length_map]
          have kv : ∀ (x' : Nat) (e : Int × Int), (lbs σt mt R π x (σt 47 q))[x']? = some e → (kds σt mt R way π)[x']? = some ((x, e.1, e.2), enc (σt 47 q) e) := fun x' e he => by rw [hkd, List.getElem?_map, he]; rfl
          have e28 : K1 28 (vt H x) = H 28 (vt H x) := e26 28 _ (by decide)
          have i32 : σt 47 q = 0 → -2147483648 ≤ H 28 (vt H x) := fun z => by
            have w27 := (oks_wh TH t1).1 (by omega)
            exact ((TH.1.2 _ t1.1.1 t1.1.2).2.1 (by omega)).2.2.1
          refine nM_160 (s := σt 47 q) (b := 300 * f) sq ⟨by omega, by omega⟩ o1 ho hV1 (lbs σt mt R π x (σt 47 q)) (chl N d.2.2.2.1.toNat (j + 1)) (K1 108 (300 * f + j)) (by rw [chl_len]; omega) ?_ (fun x' c e hcx he => ?_) ?_ 0 (fun hn H2 h2 => hQ (-4) H2 ?_) (fun i' e hfe c hcc => ?_)
          · rw [f1 108 _ (by omega)]
            exact mch_eq _ _ (fun c _ => f1 110 c (by omega)) r10
          · obtain ⟨c', w1, w2, w3, _⟩ := hkid x' _ (kv x' e he)
            rw [w1] at hcx
            cases hcx
            have w3 : lb4 H (300 * f + (c : Int)) = enc (σt 47 q) e := w3 (show x ≠ 0 by omega)
            obtain ⟨dc, m1, _⟩ := hD c _ w2
            have := (List.getElem?_eq_some_iff.mp m1).1
            refine ⟨by omega, ?_, fun z => ?_⟩
            · rw [← w3]
              unfold lb4
              rw [fr1.1 111 _ (by decide) (by decide) (by decide) (by decide), fr1.1 112 _ (by decide) (by decide) (by decide) (by decide), fr1.1 113 _ (by decide) (by decide) (by decide) (by decide), fr1.1 114 _ (by decide) (by decide) (by decide) (by decide)]
            · rcases (lbs_ok hRT (List.mem_of_getElem? he) hs sq hk.2.1).2.1 z with y | y
              · exact Or.inl y
              · exact Or.inr y.1
          · rw [e28]
            by_cases z : σt 47 q = 0
            · rw [z]
              unfold lbs
              rw [if_pos rfl]
              exact gdl_pts _ _ (i32 z)
            · exact gdl_ne z _
          · rw [e28] at hn
            rw [wk_t0 hf1 hc hn]
            refine ⟨⟨by rw [h2]; exact zT_up fr1 (by omega), by rw [h2]; exact z6_up s1 (Or.inl (by decide))⟩, ?_, ?_, Or.inr (Or.inl ⟨Or.inr rfl, rfl, by rw [h2, e3_up_self], by rw [h2, e3_up_ne (by decide), f1 40 125 (by decide)]; exact h06.2⟩)⟩
            · show H2 40 122 = n3 + ((1 : Nat) : Int)
              rw [h2, e3_up_ne (by decide), k1, e3_up_self]
              omega
            · show LGM (L ++ []) H2
              rw [List.append_nil]
              exact LGM_eq hL (by rw [h2, e3_up_ne (by decide), f1 40 123 (by decide)]) (fun y => by rw [h2, e3_up_ne (ne_1 (by decide)), f1 137 y (ne_1 (by decide))])
          · rw [e28] at hfe
            obtain ⟨i2, i3, he, hb⟩ := fnd_at _ 0 i' e hfe
            have hv := kv i2 e he
            obtain ⟨c', w1, w2, _⟩ := hkid i2 _ hv
            rw [show i' - 0 = i2 by omega, w1] at hcc
            cases hcc
            have cj := chl_ge N _ _ c (List.mem_of_getElem? w1)
            refine ih ((x, e.1, e.2) :: π) c (n3 + 1) L K1 w2 (gr_kid hg _ (List.mem_of_getElem? hv)) fr1 s1 ⟨by rw [f1 40 119 (by decide)]; exact h06.1, by rw [f1 40 125 (by decide)]; exact h06.2⟩ ⟨by rw [k1, e3_up_self], by omega, by omega⟩ (LGM_eq hL (f1 40 123 (by decide)) (fun y => f1 137 y (ne_1 (by decide)))) (by omega) (PV_st hk.2.1 hRT hPV (List.mem_of_getElem? he) hs t3 hb (fun z => ?_)) (fun x2 K2 hb2 => hQ x2 K2 ?_)
            · have hfe' := hfe
              rw [z] at hfe'
              unfold lbs at hfe'
              rw [if_pos rfl] at hfe'
              exact fnd_pts _ _ 0 i' e (i32 z) hfe'
            · rw [wk_t1 hf1 hc hfe]
              exact BMo_t hb2
end BTM
