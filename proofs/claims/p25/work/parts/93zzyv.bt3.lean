section BTC
variable {Q : Int → e3_H → e3_G → Prop} {σ σt H : e3_H} {G : e3_G} {m mt : Nat} {f fu t way : Int} {cx : Int → Int} {cnt : Nat} {N : List a_ND} {R : a_RW} {RL : List (Int × Int × List (Int × Int))} {D : List a_PT}
theorem BTo_t {n3 x : Int} {L : List Int} {K2 : e3_H} {o : Int × Nat × Nat × List Int} (h : BTo σ H f fu RL (n3 + 1) L o x K2) : BTo σ H f fu RL n3 L (o.1, o.2.1, o.2.2.1 + 1, o.2.2.2) x K2 := by
  obtain ⟨s1, s2, s3, s4⟩ := h
  refine ⟨s1, ?_, s3, s4⟩
  show K2 37 3 = n3 + ((o.2.2.1 + 1 : Nat) : Int)
  rw [s2]
  omega
theorem BTo_g {n3 x r : Int} {L : List Int} {K2 : e3_H} {o : Int × Nat × Nat × List Int} (h : BTo σ H f fu RL n3 (L ++ [100 * f + r % 16]) o x K2) : BTo σ H f fu RL n3 L (o.1, o.2.1, o.2.2.1, r :: o.2.2.2) x K2 := by
  obtain ⟨s1, s2, s3, s4⟩ := h
  refine ⟨s1, s2, ?_, s4⟩
  show LGC (L ++ ((100 * f + r % 16) :: o.2.2.2.map (fun r => 100 * f + r % 16))) K2
  rw [List.append_assoc] at s3
  exact s3
/-- a step of sorting by a tree: no rule is left -/
theorem vS_10n {k : Nat} {π : a_PT} {n3 : Int} {L : List Int} {K : e3_H} (hfr : frS H K) (hn3 : K 37 3 = n3) (hL : LGC L K) (hf : fst σt π R 0 = none) (hQ : ∀ x K2, BTo σ H f fu RL n3 L (wk σt mt R way (h35 H) (vro RL) (k + 1) π) x K2 → Q x K2 G) : wS_byTree_137 Q K G := by
  intro H1 h1 H2 h2
  obtain ⟨a1, a2, a3, a4, a5, a6, a7⟩ := end_fr h1 h2
  refine hQ (-1) H2 ?_
  rw [wk_n hf]
  refine ⟨frS_tr hfr a1, ?_, ?_, Or.inr (Or.inl ⟨Or.inl rfl, rfl, a2, a3⟩)⟩
  · show H2 37 3 = n3 + ((0 : Nat) : Int)
    rw [a4, hn3]
    omega
  · show LGC (L ++ []) H2
    rw [List.append_nil]
    exact LGC_eq hL a5 (a6 9) a7
/-- a step of sorting by a tree: a rule is found -/
theorem vS_10l {Q' : e3_H → e3_G → Prop} {k : Nat} {π : a_PT} {n3 : Int} {L : List Int} {K : e3_H} {i : Nat} {r w : Int} {T V : List (Int × Int)} (hK : ∀ K, fr5 H K → CWX σ fu t cx cnt N RL K G) (hA : AK mt σt σ) (hTV : TV σ m (h35 H)) (hcol : ∀ i : Int, 0 ≤ i → i < σ 68 f → oks (h35 H) (h35 H 135 i) (σ 69 (3 * f + i))) (hf5 : H 34 5 = f ∧ 0 ≤ f ∧ f < 12) (h160 : H 26 1 ≤ 160) (hfr : frS H K) (h06 : K 37 0 = H 37 0 ∧ K 37 6 = H 37 6) (hn3 : K 37 3 = n3) (hL : LGC L K) (hLn : (L.length : Int) ≤ 1000000) (hf : fst σt π R 0 = some (i, r, T)) (hc : cho σt mt R π way T 0 none 0 = none) (v1 : RL[i]? = some (r, w, V)) (v3 : VQ σ f V) (v4 : NV1 σ r V) (v6 : GDP σ r) (hfit : ∀ p, p ∈ V → fitv σ (h35 H) p.1 (vt (h35 H) p.2))
    (hnext : σ 78 r ≠ 0 → ∀ K2 : e3_H, frS H K2 → (K2 37 0 = H 37 0 ∧ K2 37 6 = H 37 6) → K2 37 3 = n3 → LGC (L ++ [100 * f + r % 16]) K2 → (∀ x K3, BTo σ H f fu RL n3 (L ++ [100 * f + r % 16]) (wk σt mt R way (h35 H) (vro RL) k ((0, r, r) :: π)) x K3 → Q x K3 G) → K2 34 6 = 0 → Q' K2 G)
    (hQ : ∀ x K2, BTo σ H f fu RL n3 L (wk σt mt R way (h35 H) (vro RL) (k + 1) π) x K2 → Q x K2 G) : wS_holdRow (fun H23 G24 => (e3_ob G24 11 (K (fu + 3) i)) ∧ (wS_guardLets (fun x29 H27 G28 => (((x29 : Int) = 0 → ((((H27 34 6) : Int) = 0 → Q' H27 G28) ∧ (¬ (((H27 34 6) : Int) = 0) → Q (-1) H27 G28))) ∧ (¬ ((x29 : Int) = 0) → (e3_ob G28 11 (K (fu + 3) i)) ∧ Q (H27 (K (fu + 3) i) 0) H27 G28))) (H23 (K (fu + 3) i) 0) H23 G24)) fu (K (fu + 3) i) K G := by
  obtain ⟨c1, ⟨c2, c3⟩, ⟨c4, c5, c6, c7⟩, ⟨c8, c9, c10⟩, c11⟩ := hK K hfr.1
  have W := c11 i r w V v1
  have o11 : e3_ob G 11 (K (fu + 3) i) := ga_ob (c := 11) W.2.1.2
  have f36 : ∀ {K' : e3_H}, (∀ a x : Int, a ≠ 36 → K' a x = K a x) → frS K K' := fun h => ⟨fun a x _ b _ _ => h a x b, fun x _ _ => h 34 x (by decide), fun x _ _ _ _ => h 37 x (by decide)⟩
  have hok : ∀ p, p ∈ V → oks (h35 H) (vt (h35 H) p.2) (σ 47 p.1) := fun p hp => by
    obtain ⟨A, B, e⟩ := List.append_of_mem hp
    exact vis_ok hTV hcol v3 (A.length + 1) A p B (by omega) e (fun a ha => hfit a (by rw [e]; exact List.mem_append_left _ ha))
  refine vS_hr W c8 (fun K' h => ?_) v4 (fun p hp => ?_) (fun K1 f1 n1 => ⟨o11, ?_⟩)
  · obtain ⟨d1, ⟨d2, d3⟩, _⟩ := hK K' (frS_tr hfr (f36 h)).1
    exact ⟨d1, d2, d3⟩
  · obtain ⟨A, B, e⟩ := List.append_of_mem hp
    have hx := v3.2 p hp
    have e8 : (8 : Int) ^ 7 = 2097152 := by decide
    exact ⟨vok_eq (fun a k ha => e35_of hfr.1 a k (by omega)) 7 _ (vis_vok hTV hcol v3 (A.length + 1) A p B (by omega) e (fun a ha => hfit a (by rw [e]; exact List.mem_append_left _ ha)) 7 (by omega)), by omega⟩
  · have fr1 := frS_tr hfr (f36 f1)
    obtain ⟨b1, ⟨b2, b3⟩, _, _, b11⟩ := hK K1 fr1.1
    have W1 := b11 i r w V v1
    have eR : K1 (fu + 3) i = K (fu + 3) i := f1 _ _ (by omega)
    have nb : nB σ (h35 K) V = nB σ (h35 H) V := nB_eq (fun a k ha => e35_of hfr.1 a k (by omega)) V
    rw [nb] at n1
    have ex : ∀ K2 : e3_H, frS H K2 → K2 (K (fu + 3) i) 0 = H (H (fu + 3) i) 0 := fun K2 h => by
      have : 139 ≤ K (fu + 3) i := W.2.1.1
      rw [h.1 _ 0 (by omega) (by omega) (by omega) (by omega), hfr.1 (fu + 3) i (by omega) (by omega) (by omega) (by omega)]
    have e78 := hA.1 78 r (by decide)
    have gA := gdv_AK (M := h35 H) hA V r
    have ewk := wk_l (way := way) (M := h35 H) (Vr := vro RL) (k := k) hf hc
    rw [vro_at v1, ← e78, gA] at ewk
    have M26 : ∀ a k : Int, a = 26 ∨ a = 27 ∨ a = 28 → h35 H a k = K1 a k := fun a k ha => by
      rw [h35_ne (by omega)]
      exact (fr1.1 a k (by omega) (by omega) (by omega) (by omega)).symm
    have hl1 : LGC L K1 := LGC_eq hL (f1 37 4 (by decide)) (f1 34 9 (by decide)) (fun x => f1 38 x (by decide))
    rw [show K1 (K (fu + 3) i) 0 = K1 (K1 (fu + 3) i) 0 by rw [eR]]
    refine vS_gl (M := h35 H) (B := nB σ (h35 H) V) (f := f) (L := L) W1 b2 (by rw [fr1.1 26 1 (by decide) (by decide) (by decide) (by decide)]; exact h160) v6 n1 (fun n hn => nB_ok v4 hok n hn) M26 ⟨by rw [fr1.2.1 5 (by decide) (by decide)]; exact hf5.1, hf5.2⟩ hl1 hLn (fun z K2 g1 => brF (by decide) ⟨o11, hQ _ K2 ?_⟩) (fun z y K2 g1 g2 g3 g4 g5 g6 g7 => brT rfl (brF (by omega) (hQ _ K2 ?_))) (fun z y K2 g1 g2 g3 g4 g5 => ?_)
    · have fr2 : frS H K2 := frS_tr fr1 ⟨fun a x b _ _ _ => g1 a x (ne_1 b), fun x b _ => g1 34 x (ne_2 b), fun x _ _ _ _ => g1 37 x (ne_1 (by decide))⟩
      rw [ewk, if_pos z]
      refine ⟨fr2, ?_, ?_, Or.inl ⟨rfl, ⟨r, w, V, v1, ex K2 fr2, hfit, fun k k0 k1 => ?_⟩, ?_, ?_⟩⟩
      · show K2 37 3 = n3 + ((0 : Nat) : Int)
        rw [g1 37 3 (by decide), f1 37 3 (by decide), hn3]
        omega
      · show LGC (L ++ []) K2
        rw [List.append_nil]
        exact LGC_eq hl1 (g1 37 4 (by decide)) (g1 34 9 (by decide)) (fun x => g1 38 x (ne_1 (by decide)))
      · rw [g1 36 k (ne_1 (by decide))]; exact n1 k k0 k1
      · rw [g1 37 0 (by decide), f1 37 0 (by decide)]; exact h06.1
      · rw [g1 37 6 (by decide), f1 37 6 (by decide)]; exact h06.2
    · have fr2 : frS H K2 := frS_tr fr1 ⟨fun a x b _ c d => g1 a x b c d, fun x b c => g2 x b c, fun x b _ c d => g3 x b c d⟩
      rw [ewk, if_neg z, if_neg (by rw [y]; decide), if_pos y]
      refine ⟨fr2, ?_, g4, Or.inr (Or.inr ⟨rfl, rfl, g6, r, w, V, v1, g7⟩)⟩
      show K2 37 3 = n3 + ((0 : Nat) : Int)
      rw [g3 3 (by decide) (by decide) (by decide), f1 37 3 (by decide), hn3]
      omega
    · have fr2 : frS H K2 := frS_tr fr1 ⟨fun a x b _ c d => g1 a x b c d, fun x b c => g2 x b c, fun x _ _ c _ => g3 x c⟩
      have k3 : K2 37 3 = n3 := by rw [g3 3 (by decide), f1 37 3 (by decide)]; exact hn3
      have k0 : K2 37 0 = H 37 0 := by rw [g3 0 (by decide), f1 37 0 (by decide)]; exact h06.1
      have k6 : K2 37 6 = H 37 6 := by rw [g3 6 (by decide), f1 37 6 (by decide)]; exact h06.2
      by_cases u : gdv σ (tvp σ (h35 H) (nB σ (h35 H) V)) r = 1
      · rw [u]
        refine brF (by decide) ⟨o11, hQ _ K2 ?_⟩
        rw [ewk, if_neg z, if_pos u]
        refine ⟨fr2, ?_, g4, Or.inl ⟨rfl, ⟨r, w, V, v1, ex K2 fr2, hfit, fun k k0 k1 => ?_⟩, k0, k6⟩⟩
        · show K2 37 3 = n3 + ((0 : Nat) : Int)
          rw [k3]
          omega
        · rw [g1 36 k (by decide) (by decide) (by decide)]; exact n1 k k0 k1
      · have u0 : gdv σ (tvp σ (h35 H) (nB σ (h35 H) V)) r = 0 := by
          rcases gdv_cs σ (tvp σ (h35 H) (nB σ (h35 H) V)) r with h | h | h
          · exact h
          · exact absurd h u
          · exact absurd h y
        rw [u0]
        refine brT rfl (brT g5 (hnext z K2 fr2 ⟨k0, k6⟩ k3 g4 (fun x K3 hb => hQ x K3 ?_) g5))
        rw [ewk, if_neg z, if_neg u, if_neg y]
        exact BTo_g hb
/-- sorting by a tree, in the class -/
theorem vS_10 (hK : ∀ K, fr5 H K → CWX σ fu t cx cnt N RL K G) (hN : N.length ≤ 120) (hNc : ∀ d, d ∈ N → d.2.2.2.1 ≤ 1000) (hD : TRD σt mt R way N D) (hRT : RT σt f R) (hA : AK mt σt σ) (hk : k_inv σt mt) (hKP : KP σt mt) (hX : RLX σ f R RL) (hTV : TV σ m (h35 H)) (hcol : ∀ i : Int, 0 ≤ i → i < σ 68 f → oks (h35 H) (h35 H 135 i) (σ 69 (3 * f + i))) (hf5 : H 34 5 = f ∧ 0 ≤ f ∧ f < 12) (h160 : H 26 1 ≤ 160) : ∀ (k : Nat) (π : a_PT) (j st : Nat) (n3 : Int) (L : List Int) (K : e3_H), D[j]? = some π → (∃ NN, gr σt mt R way k π NN) → st ≤ j → frS H K → (K 37 0 = H 37 0 ∧ K 37 6 = H 37 6) → (K 37 3 = n3 ∧ 0 ≤ n3 ∧ n3 + (120 - (j : Int)) ≤ 1000000) → LGC L K → (L.length : Int) + (120 - (j : Int)) ≤ 1000000 → PV σt mt R (h35 H) π → (∀ x K2, BTo σ H f fu RL n3 L (wk σt mt R way (h35 H) (vro RL) k π) x K2 → Q x K2 G) → wS_byTree_10 Q k fu t (j : Int) (st : Int) K G := by
  intro k
  induction k with
  | zero => intro π j st n3 L K _ h; obtain ⟨_, h⟩ := h; exact h.elim
  | succ k ih =>
    intro π j st n3 L K hDj hg hst hfr h06 hn3 hL hLn hPV hQ
    obtain ⟨NN, hg⟩ := hg
    obtain ⟨d, nj, hS, ⟨kk, N', hgr⟩, hkid⟩ := hD j π hDj
    obtain ⟨y1, y2, y3⟩ := gr_nd hgr
    have gl := (gr_hd hgr).1
    have jn := (List.getElem?_eq_some_iff.mp nj).1
    have hdc := hNc d (List.mem_of_getElem? nj)
    obtain ⟨c1, ⟨c2, c3⟩, ⟨c4, c5, c6, c7⟩, ⟨c8, c9, c10⟩, c11⟩ := hK K hfr.1
    obtain ⟨q1, q2, q3, q4, q5, q6⟩ := c5 j d nj
    rw [Int.zero_add] at q1 q2
    obtain ⟨e1, e2, ⟨e4, g4⟩, ⟨e5, g5⟩, ⟨e6, g6⟩, _⟩ := id c4
    have o5 := ga_ob (c := 5) e2
    have o8 := ga_ob (c := 8) c9
    refine brT (by omega) ⟨o5, vE_has c4 c6 ⟨by omega, by omega⟩ (brF (by decide) ?_)⟩
    rw [e5, q2]
    refine ⟨o5, ga_oa g5 (by omega) (by omega), o8, ?_⟩
    cases hf : fst σt π R 0 with
    | none =>
      obtain ⟨d1, d2⟩ := y2 hf
      rw [d2]
      refine vF_none (by decide) ?_
      rw [e4, q1, d1]
      exact ⟨o5, ga_oa g4 (by omega) (by omega), brT rfl (vS_10n hfr hn3.1 hL hf hQ)⟩
    | some u =>
      obtain ⟨i, r, T⟩ := u
      obtain ⟨z1, z2⟩ := y3 i r T hf
      obtain ⟨j0, ej, hgi, hlv, _⟩ := fst_some R 0 i (r, T) hf
      rw [Nat.zero_add] at ej
      subst ej
      obtain ⟨w, V, v1, v2, v3, v4, v5, v6⟩ := hX i r T hgi
      have hmR := List.mem_of_getElem? hgi
      cases hc : cho σt mt R π way T 0 none 0 with
      | none =>
        obtain ⟨d1, d2⟩ := z1 hc
        have W := c11 i r w V v1
        have W1 : 139 ≤ K (fu + 3) i := W.2.1.1
        rw [d2]
        refine vF_row W.1 ⟨c8, c9⟩ ?_
        rw [e4, q1, d1]
        refine ⟨o5, ga_oa g4 (by omega) (by omega), brF (by split <;> decide) (brF (by omega) ?_)⟩
        refine vS_10l (w := w) hK hA hTV hcol hf5 h160 hfr h06 hn3.1 hL (by omega) hf hc v1 v3 v4 v6 (leaf_fit hA hk.2.2.2.1 hPV hmR hlv v2 v3 hc) (fun hz K2 fr2 p06 p3 pL pQ _ => ?_) hQ
        have hz' : σt 78 r ≠ 0 := by rw [← hA.1 78 r (by decide)]; exact hz
        have hkd := kds_l hf hc hz'
        have hv : (kds σt mt R way π)[0]? = some ((0, r, r), (0, 0, 0, 0)) := by rw [hkd]; rfl
        obtain ⟨c, w1, w2⟩ := hkid 0 _ hv
        have hd1 : d.2.2.2.1.toNat = 1 := by rw [gl, hkd]; rfl
        rw [hd1] at w1
        have w1 : some (j + 1) = some c := w1
        cases w1
        show wS_byTree_10 Q k fu t (e3_w32 ((j : Int) + 1)) (e3_w32 ((st : Int) + 1)) K2 G
        rw [e3_w32_id (by omega) (by omega), e3_w32_id (by omega) (by omega), show (j : Int) + 1 = ((j + 1 : Nat) : Int) by omega, show (st : Int) + 1 = ((st + 1 : Nat) : Int) by omega]
        have ll : ((L ++ [100 * f + r % 16]).length : Int) = (L.length : Int) + 1 := by rw [List.length_append]; rfl
        exact ih ((0, r, r) :: π) (j + 1) (st + 1) n3 (L ++ [100 * f + r % 16]) K2 w2 (gr_kid hg _ (List.mem_of_getElem? hv)) (by omega) fr2 p06 ⟨p3, hn3.2.1, by omega⟩ pL (by omega) (PV_gd hRT hPV) pQ
      | some p =>
        obtain ⟨q, x⟩ := p
        obtain ⟨d1, d2, d3⟩ := z2 q x hc
        have hqx : (q, x) ∈ T ∧ ask π x = true := by
          rcases cho_some T 0 none 0 (q, x) hc with z | z
          · cases z
          · exact z
        obtain ⟨t1, t2, t3, t4⟩ := test_at hA hk.2.2.2.1 hPV hmR hlv v2 v3 hTV hcol hS hqx.1 hqx.2
        have nr := ndo_rg (σt 47 q)
        rw [d2]
        refine vF_none (by decide) ?_
        rw [e4, q1, d1]
        refine ⟨o5, ga_oa g4 (by omega) (by omega), brF (by omega) (brT (by decide) ?_)⟩
        intro K1 k1
        rw [hn3.1, e3_w32_id (by omega) (by omega)] at k1
        have f1 : ∀ a y : Int, ¬ (a = 37 ∧ y = 3) → K1 a y = K a y := fun a y h => by rw [k1, e3_up_ne h]
        have fr1 : frS H K1 := frS_tr hfr ⟨fun a y _ _ h _ => f1 a y (ne_1 h), fun y _ _ => f1 34 y (ne_1 (by decide)), fun y _ h _ _ => f1 37 y (ne_2 h)⟩
        obtain ⟨b1, ⟨b2, b3⟩, ⟨b4, b5, b6, b7⟩, _, _⟩ := hK K1 fr1.1
        obtain ⟨_, _, p3, _, _, _⟩ := b5 j d nj
        rw [Int.zero_add] at p3
        have E6 : K1 t 6 = t + 3 := b4.2.2.2.2.1.1
        rw [E6]
        have hp : (0 ≤ K1 (t + 3) j ∧ K1 (t + 3) j < (cnt : Int)) ∧ cx (K1 (t + 3) j) = x := by
          rcases p3 with ⟨z, _⟩ | z
          · omega
          · rw [d3] at z; exact z
        have e35 : ∀ a k : Int, a = 26 ∨ a = 27 ∨ a = 30 ∨ a = 132 ∨ a = 135 → h35 K1 a k = h35 H a k := fun a k ha => e35_of fr1.1 a k (by omega)
        have ev : vt (h35 K1) x = vt (h35 H) x := vt_eq (fun a k ha => e35 a k (by omega)) x
        have ov : okv K1 (vt (h35 H) x) := ⟨t1.1.1, by rw [fr1.1 26 1 (by decide) (by decide) (by decide) (by decide)]; exact t1.1.2⟩
        refine ⟨o5, ga_oa g6 (by omega) (by omega), vS_labelAt b1 b2 b3 (by rw [b7]; exact hp.1) (by rw [hp.2]; exact vok_eq e35 7 x t2) (by rw [hp.2]; omega) (by rw [hp.2, ev]; exact ov) ?_⟩
        have el : K1 28 (vt (h35 H) x) = h35 H 28 (vt (h35 H) x) := by rw [h35_ne (by decide)]; exact fr1.1 28 _ (by decide) (by decide) (by decide) (by decide)
        rw [hp.2, ev, el]
        have hkd := kds_t hf hc
        have hlen : d.2.2.2.1 = ((lbs σt mt R π x (σt 47 q)).length : Int) := by rw [gl, hkd, List.length_map]
        have htn : d.2.2.2.1.toNat = (lbs σt mt R π x (σt 47 q)).length := by omega
        rw [htn] at hkid
        have kv : ∀ (x' : Nat) (e : Int × Int), (lbs σt mt R π x (σt 47 q))[x']? = some e → (kds σt mt R way π)[x']? = some ((x, e.1, e.2), enc (σt 47 q) e) := fun x' e he => by rw [hkd, List.getElem?_map, he]; rfl
        refine ⟨o5, (lbs σt mt R π x (σt 47 q)).length + 1, ?_⟩
        rw [e3_w32_id (x := (j : Int) + 1) (by omega) (by omega), show (j : Int) + 1 = ((j + 1 : Nat) : Int) by omega]
        refine vE_follow (s := σt 47 q) b4 b5 b6 hN nj d1 hdc (lbs σt mt R π x (σt 47 q)) (j + 1) 0 (by rw [hlen]; omega) (fun x' c e hcx he => ?_) (fun hn => brT (by decide) (fun H1 h1 H2 h2 => hQ (-1) H2 ?_)) (fun i' e hfe c hcc => brF (by omega) ?_)
        · obtain ⟨c', w1, w2⟩ := hkid x' _ (kv x' e he)
          rw [w1] at hcx
          cases hcx
          obtain ⟨dc, m1, _, ⟨k2, N2, m3⟩, _⟩ := hD c _ w2
          refine ⟨dc, m1, ?_, by have := (gr_hd m3).2; omega⟩
          rw [(gr_nd m3).1]
          show (if x = 0 then 0 else e.2) = e.2
          rw [if_neg (by omega)]
        · obtain ⟨a1, a2, a3, a4, a5, a6, a7⟩ := end_fr h1 h2
          rw [wk_t0 hf hc hn]
          refine ⟨frS_tr fr1 a1, ?_, ?_, Or.inr (Or.inl ⟨Or.inr rfl, rfl, a2, a3⟩)⟩
          · show H2 37 3 = n3 + ((1 : Nat) : Int)
            rw [a4, k1, e3_up_self]
            omega
          · show LGC (L ++ []) H2
            rw [List.append_nil]
            exact LGC_eq hL (a5.trans (f1 37 4 (by decide))) ((a6 9).trans (f1 34 9 (by decide))) (fun y => (a7 y).trans (f1 38 y (ne_1 (by decide))))
        · obtain ⟨i2, i3, he, hb⟩ := fnd_at _ 0 i' e hfe
          have hv := kv i2 e he
          obtain ⟨c', w1, w2⟩ := hkid i2 _ hv
          rw [show i' - 0 = i2 by omega, w1] at hcc
          cases hcc
          have cj := chl_ge N _ _ c (List.mem_of_getElem? w1)
          have cn : c < N.length := by
            obtain ⟨dc, m1, _⟩ := hD c _ w2
            exact (List.getElem?_eq_some_iff.mp m1).1
          show wS_byTree_10 Q k fu t (c : Int) (e3_w32 ((st : Int) + 1)) K1 G
          rw [e3_w32_id (by omega) (by omega), show (st : Int) + 1 = ((st + 1 : Nat) : Int) by omega]
          refine ih ((x, e.1, e.2) :: π) c (st + 1) (n3 + 1) L K1 w2 (gr_kid hg _ (List.mem_of_getElem? hv)) (by omega) fr1 ⟨by rw [f1 37 0 (by decide)]; exact h06.1, by rw [f1 37 6 (by decide)]; exact h06.2⟩ ⟨by rw [k1, e3_up_self], by omega, by omega⟩ (LGC_eq hL (f1 37 4 (by decide)) (f1 34 9 (by decide)) (fun y => f1 38 y (ne_1 (by decide)))) (by omega) (PV_st hk.2.1 hRT hPV (List.mem_of_getElem? he) (fun w' hw' hl' q' hq' => SH hRT hS hk.2.2.2.1 hKP hk.2.1 hqx.2 hw' hmR hl' hlv hq' hqx.1) t3 hb (fun z => ?_)) (fun x2 K2 hb2 => hQ x2 K2 ?_)
          · have hfe' := hfe
            rw [z] at hfe'
            unfold lbs at hfe'
            rw [if_pos rfl] at hfe'
            refine fnd_pts _ _ 0 i' e ?_ hfe'
            have s0 : σ 47 q = 0 := (hA.1 47 q (by decide)).trans z
            have w27 := (oks_wh hTV t1).1 (by omega)
            have := ((hTV.1.2 _ t1.1.1 t1.1.2).2.1 (by omega)).2.2.1
            exact this
          · rw [wk_t1 hf hc hfe]
            exact BTo_t hb2
end BTC
