section ZBE
variable {σ : e3_H} {G : e3_G} {hi : Int}
theorem zM_fitsHere {Q : Int → e3_H → e3_G → Prop} {H : e3_H} {q v : Int} (hq : 0 ≤ q ∧ q < 1700) (hM : zMV H) (hk : zMK H) (hv : 0 ≤ v ∧ v < H 40 109) (hQ : ∀ x, (x = 0 ∨ x = 1) → Q x H G) : wM_fitsHere Q q v H G := by
  have hc := hM.1
  have hv2 : 0 ≤ v ∧ v < 160 := by omega
  have y : ((1 : Int) = 0 ∨ (1 : Int) = 1) ∧ Q 1 H G := ⟨Or.inr rfl, hQ 1 (Or.inr rfl)⟩
  have n : ((0 : Int) = 0 ∨ (0 : Int) = 1) ∧ Q 0 H G := ⟨Or.inl rfl, hQ 0 (Or.inl rfl)⟩
  refine ⟨hq, fun _ => ⟨hv2, hq, fun _ => n, fun _ => ⟨hv2, hq, fun _ => n, fun _ => y⟩⟩, fun _ => ⟨hv2, hq, fun _ => y, fun _ => n⟩, fun _ => ⟨hv2, hq, fun _ => y, fun _ => n⟩, fun _ => ⟨hv2, fun _ => y, fun _ => n⟩, fun _ => ⟨hv2, fun h4 => ⟨hv2, hq, ?_⟩, fun _ => n⟩, fun _ => hQ 1 (Or.inr rfl)⟩
  exact zM_isOf hk _ _ ((hM.2.2 v hv.1 hv.2).2 h4).1 (fun x _ => ⟨fun _ => n, fun _ => y⟩)
/-- the next pattern that is no EITHER, with its VALUE -/
theorem zM_30 {Q : Int → e3_H → e3_G → Prop} {v p c : Int} (h55 : ∀ y : Int, 0 ≤ y → y < hi → 1 ≤ σ 55 y) (hhi : hi ≤ 1700) (hp : 0 ≤ p ∧ p < 2000) (hv : 0 ≤ v ∧ v < c) : ∀ (k : Nat) (q w x : Int) (V : List (Int × Int)) (H : e3_H), ly1 σ hi k q w x V → (∀ e, e ∈ V → zNX σ e.1) → tb σ H → H 40 71 = p → H 97 p = v → z6 c H → (∀ k' q' w' V' K, ly1 σ hi k' q' w' x V' → σ 46 q' ≠ 6 → nt σ V = nt σ V' → V'.length ≤ V.length → (∀ e, e ∈ V' → e ∈ V) → (∀ a k : Int, a ≠ 136 → K a k = H a k) → z6 c K → Q q' (e3_up K 95 p w') G) → wM_nextPattern_30 Q k q w H G := by
  intro k
  induction k with
  | zero => intro q w x V H h; exact h.1.elim
  | succ k ih =>
    intro q w x V H h hN htb h71 h97 h6' hQ
    have h' := h
    obtain ⟨hv', ht, hq, h5, hw, x0, hx⟩ := h'
    refine ⟨⟨hq.1, by omega⟩, ?_⟩
    rw [htb 46 q (by decide) (by decide) (by decide)]
    obtain ⟨L, V1, ⟨a1, a2⟩, e, hv'⟩ := hv'
    obtain ⟨L2, b1, b2, b3, b4, b5, b6⟩ := ht
    have e1 : ∀ y, y ∈ L2 → y ≠ -4 := fun y hy => by have := (b2 y hy).1; omega
    have hLL : L = L2 := ach_inj L L2 _ a2 e1 a1 b1
    subst hLL
    have hpos : ∀ y, y ∈ L → 1 ≤ σ 55 y := fun y hy => h55 y (by have := (b2 y hy).1; omega) (b2 y hy).2.1
    rcases hv' with ⟨h6, A, d, B, eA, s1, s2, v'⟩ | ⟨h6, hz, hl, hw2, v'⟩
    · refine brT h6 ⟨by rw [h71]; exact hp, ?_⟩
      rw [h71, h97]
      refine zM_notes htb ⟨hq.1, by omega⟩ (hN (q, x) (by rw [e]; exact List.mem_cons_self ..)) hv h6' (fun K f s => ⟨⟨hq.1, by omega⟩, A.length + 1, ?_⟩)
      have htK : tb σ K := fun a k h3 h4 h5 => (f a k (by omega)).trans (htb a k h3 h4 h5)
      rw [htK 51 q (by decide) (by decide) (by decide)]
      have hm : d ∈ L := by rw [eA]; exact List.mem_append_right _ (List.mem_cons_self ..)
      have ews : σ 55 q = ws σ L := by
        rw [h6] at b3
        rw [b3]
        exact wfL_6 (b5 h6) hpos (by rw [← b3]; exact h5)
      have hle := le_ws L hpos d hm
      have hws : 0 ≤ ws σ A := ws_0 A (fun y hy => hpos y (by rw [eA]; exact List.mem_append_left _ hy))
      refine cM_62 (B := B) (c := d) htK A _ w (by rw [← eA]; exact a1) (fun y hy => ?_) s1 s2 hw.1 hw.2 ?_
      · rw [← eA] at hy
        exact ⟨⟨by have := (b2 y hy).1; omega, by have := (b2 y hy).2.1; omega⟩, hpos y hy⟩
      · have q8 := p8_1 k
        have hx2 : (x + 1) * (8 * p8 k) ≤ 2097152 := hx
        have hx3 : (x + 1) * p8 k ≤ (x + 1) * (8 * p8 k) := Int.mul_le_mul_of_nonneg_left (by omega) (by omega)
        refine ih d (w - ws σ A) x V1 K ⟨v', (b2 d hm).2.2, ⟨by have := (b2 d hm).1; omega, (b2 d hm).2.1⟩, by omega, ⟨by omega, by omega⟩, x0, by omega⟩ (fun y hy => hN y (by rw [e]; exact List.mem_cons_of_mem _ hy)) htK (by rw [f 40 71 (by decide)]; exact h71) (by rw [f 97 p (by decide)]; exact h97) s (fun k' q' w' V' K2 g1 g2 g4 g5 g6 g7 g8 => hQ k' q' w' V' K2 g1 g2 ?_ ?_ ?_ (fun a j ha => (g7 a j ha).trans (f a j ha)) g8)
        · rw [e]
          show (if σ 46 q = 6 then 0 else 1) + nt σ V1 = _
          rw [if_pos h6, g4]; omega
        · rw [e, List.length_cons]; omega
        · intro y hy; rw [e]; exact List.mem_cons_of_mem _ (g6 y hy)
    · refine brF h6 ⟨by rw [h71]; exact hp, ?_⟩
      intro H7 e7
      rw [e7, h71]
      exact hQ (k + 1) q w V H h h6 rfl (Nat.le_refl _) (fun _ hy => hy) (fun _ _ _ => rfl) h6'
theorem zMV_B {H K : e3_H} (h : zMV H) (f : zB H K) : zMV K := zMV_eq h (fun a k h1 h2 => f.1 a k (by omega) (by omega) (by omega)) (f.2 109 (by decide)) (by rw [f.2 10 (by decide)]; exact Int.le_refl _) (fun k _ _ => f.1 44 k (by decide) (by decide) (by decide))
theorem zMK_B {H K : e3_H} (h : zMK H) (f : zB H K) : zMK K := zMK_eq h (fun a k ha => f.1 a k (by omega) (by omega) (by omega)) (f.2 10 (by decide))
/-- patterns are tried -/
theorem zM_18 {Q : Int → e3_H → e3_G → Prop} {H0 : e3_H} (h55 : ∀ y : Int, 0 ≤ y → y < hi → 1 ≤ σ 55 y ∧ σ 55 y ≤ 1000) (hhi : hi ≤ 1700) (hMV : zMV H0) (hMK : zMK H0) (hQ : ∀ x K2, (x = 0 ∨ x = 1) → zB H0 K2 → z6 (H0 40 109) K2 → Q x K2 G) : ∀ (N : Nat) (V : List (Int × Int)) (T : List (Int × Int × Int)) (K : e3_H), V.length ≤ N → lyT σ hi T V → (∀ e, e ∈ V → zNX σ e.1) → (∀ e, e ∈ T → 1 ≤ e.2.2) → zSt (H0 40 109) K T → K 40 71 = (T.length : Int) → nt σ V ≤ 2000 → tb σ K → zB H0 K → z6 (H0 40 109) K → wM_binds0_18 Q (N + 1) K G := by
  intro N
  induction N with
  | zero =>
    intro V T K hN hT _ _ hst h71 hn htb hB h6
    have hV : V = [] := List.eq_nil_of_length_eq_zero (by omega)
    subst hV
    have := lyT_nt _ _ hT
    have h0 : T.length = 0 := by have : (T.length : Int) ≤ 0 := this; omega
    exact brF (by omega) (hQ _ K (Or.inr rfl) hB h6)
  | succ N ih =>
    intro V T K hN hT hNX hT1 hst h71 hn htb hB h6
    cases T with
    | nil => exact brF (by rw [h71]; decide) (hQ _ K (Or.inr rfl) hB h6)
    | cons e T =>
      have hnT := lyT_nt _ _ hT
      obtain ⟨k, V1, V2, eV, l1, l2⟩ := hT
      obtain ⟨s1, s2, s3, s4, s5⟩ := hst
      have hx1 := hT1 e (List.mem_cons_self ..)
      rw [List.length_cons] at h71 hnT
      have hlen : V.length = V1.length + V2.length := by rw [eV, List.length_append]
      have hc := hMV.1
      refine brT (by omega) ?_
      intro H1 e1
      rw [h71, e3_w32_id (by omega) (by omega), show (((T.length + 1 : Nat) : Int)) - 1 = T.length by omega] at e1
      have f71 : H1 40 71 = T.length := by rw [e1, e3_up_self]
      have m1 : zB K H1 := by rw [e1]; exact zB_up (zB_rf K) (by omega)
      have at1 : ∀ a y : Int, a ≠ 40 → H1 a y = K a y := fun a y ha => by rw [e1, e3_up_ne (ne_1 ha)]
      refine ⟨by omega, by omega, k, ?_⟩
      rw [f71, at1 94 _ (by decide), at1 95 _ (by decide), s1, s2]
      refine zM_30 (hi := hi) (v := K 97 T.length) (p := T.length) (c := H0 40 109) (fun y y0 y1 => (h55 y y0 y1).1) hhi (by omega) s4 k _ _ _ V1 H1 l1 (fun y hy => hNX y (by rw [eV]; exact List.mem_append_left _ hy)) (tb_zB htb m1) f71 (at1 97 _ (by decide)) (by rw [e1]; exact z6_up h6 (Or.inl (by decide))) (fun k' q' w' V' K1 g1 g2 g4 g5 g6 g7 g8 => ?_)
      obtain ⟨U, eU⟩ := ly1_hd g1
      subst eU
      generalize eM : e3_up K1 95 (T.length : Int) w' = M
      have bM : zB H0 M := by
        rw [← eM]
        refine zB_up (zB_tr hB (zB_tr m1 ⟨fun a y a1 a2 a3 => g7 a y a2, fun y hy => g7 40 y (by decide)⟩)) (by omega)
      have tM : tb σ M := by
        intro a y h3 h4 h5
        rw [← eM, e3_up_ne (ne_1 (by omega)), g7 a y (by omega), at1 a y (by omega)]
        exact htb a y h3 h4 h5
      have s6M : z6 (H0 40 109) M := by rw [← eM]; exact z6_up g8 (Or.inl (by decide))
      have M71 : M 40 71 = T.length := by rw [← eM, e3_up_ne (ne_1 (by decide)), g7 40 71 (by decide)]; exact f71
      have M97 : M 97 T.length = K 97 T.length := by rw [← eM, e3_up_ne (ne_1 (by decide)), g7 97 _ (by decide), at1 97 _ (by decide)]
      have M95 : M 95 T.length = w' := by rw [← eM, e3_up_self]
      have M96 : M 96 T.length = e.2.2 := by rw [← eM, e3_up_ne (ne_1 (by decide)), g7 96 _ (by decide), at1 96 _ (by decide)]; exact s3
      have stM : zSt (H0 40 109) M T := zSt_eq T s5 (fun a y h1 h2 h3 => by
        rw [← eM, e3_up_ne (fun z => by have := z.2; omega), g7 a y (by omega)]
        exact at1 a y (by omega))
      have hq := g1.2.2.1
      have q17 : 0 ≤ q' ∧ q' < 1700 := ⟨hq.1, by omega⟩
      have c109 : M 40 109 = H0 40 109 := bM.2 109 (by decide)
      rw [List.length_cons] at g5
      refine ⟨by rw [M71]; omega, ?_⟩
      rw [M71, M97]
      generalize K 97 T.length = v at s4 M97
      refine zM_fitsHere q17 (zMV_B hMV bM) (zMK_B hMK bM) (by rw [c109]; exact s4) (fun x7 hx7 => ?_)
      rcases hx7 with z | z
      · exact brT z (hQ 0 M (Or.inl rfl) bM s6M)
      refine brF (by rw [z]; decide) (zM_notes tM q17 (hNX (q', e.2.2) (by rw [eV]; exact List.mem_append_left _ (g6 _ (List.mem_cons_self ..)))) s4 s6M (fun P fP sP => ⟨q17, ?_⟩))
      have bP : zB H0 P := zB_tr bM ⟨fun a y a1 a2 a3 => fP a y a2, fun y hy => fP 40 y (by decide)⟩
      have tP : tb σ P := fun a y h3 h4 h5 => (fP a y (by omega)).trans (tM a y h3 h4 h5)
      have P71 : P 40 71 = T.length := (fP 40 71 (by decide)).trans M71
      have stP : zSt (H0 40 109) P T := zSt_eq T stM (fun a y h1 h2 _ => fP a y (by omega))
      obtain ⟨hvv, ht, _, h5, hw, x0, hx⟩ := g1
      have hntU : nt σ V = 1 + nt σ U + nt σ V2 := by
        rw [eV, nt_app, g4]
        show (if σ 46 q' = 6 then 0 else 1) + nt σ U + nt σ V2 = _
        rw [if_neg g2]
      have hN2 : ∀ y, y ∈ U ++ V2 → zNX σ y.1 := fun y hy => by
        rcases List.mem_append.mp hy with z | z
        · exact hNX y (by rw [eV]; exact List.mem_append_left _ (g6 _ (List.mem_cons_of_mem _ z)))
        · exact hNX y (by rw [eV]; exact List.mem_append_right _ z)
      cases k' with
      | zero => exact hvv.elim
      | succ k' =>
        obtain ⟨L, V1', ⟨a1, a2⟩, eU2, hvv⟩ := hvv
        have eU2 : U = V1' := (List.cons.inj eU2).2
        subst eU2
        obtain ⟨L2, b1, b2, b3, b4, b5, b6⟩ := ht
        have e1' : ∀ y, y ∈ L2 → y ≠ -4 := fun y hy => by have := (b2 y hy).1; omega
        have hLL : L = L2 := ach_inj L L2 _ a2 e1' a1 b1
        subst hLL
        have hpos : ∀ y, y ∈ L → 1 ≤ σ 55 y := fun y hy => (h55 y (by have := (b2 y hy).1; omega) (b2 y hy).2.1).1
        rcases hvv with ⟨z, _⟩ | ⟨_, hz, hl4, hw2, vv⟩
        · exact absurd z g2
        rw [tP 46 q' (by decide) (by decide) (by decide), tP 51 q' (by decide) (by decide) (by decide)]
        have nokids : L = [] → wM_binds0_111 Q (fun H G => wM_binds0_18 Q (N + 1) H G) P G := fun hL => by
          subst hL
          have vv : U = [] := vv
          subst vv
          exact ih V2 T P (by omega) l2 (fun y hy => hN2 y hy) (fun y hy => hT1 y (List.mem_cons_of_mem _ hy)) stP P71 (by have : nt σ [] = 0 := rfl; omega) tP bP sP
        refine ⟨fun z5 => ⟨q17, fun z51 => ?_, fun z51 => ⟨q17, by rw [P71]; omega, by rw [P71]; omega, ?_⟩⟩, fun z5 => ?_⟩
        · refine nokids ?_
          cases L with
          | nil => rfl
          | cons c l => exact absurd (a1.1.symm.trans z51) (a2 c (List.mem_cons_self ..))
        · have ewp : σ 55 q' = wp σ L := by
            rw [z5] at b3
            rw [b3]
            exact wfL_5 hpos (by rw [← b3]; exact h5)
          have q8 := p8_1 k'
          have hx2 : (e.2.2 + 1) * (8 * p8 k') ≤ 2097152 := hx
          have hx1' : (e.2.2 + 1) * 1 ≤ (e.2.2 + 1) * (8 * p8 k') := Int.mul_le_mul_of_nonneg_left (by omega) (by omega)
          have hT2 := kl_lyT (k := k') l2 L w' (8 * e.2.2 + 1) U vv (fun c hc => ⟨⟨by have := (b2 c hc).1; omega, (b2 c hc).2.1⟩, (b2 c hc).2.2, hpos c hc⟩) (by omega) hw.1 hw.2 (by omega) (by
            have : (8 * e.2.2 + 1 + (L.length : Int)) * p8 k' ≤ (e.2.2 + 1) * 8 * p8 k' := Int.mul_le_mul_of_nonneg_right (by omega) (by omega)
            rw [Int.mul_assoc] at this
            omega)
          have hnt := lyT_nt _ _ hT2
          rw [List.length_append, kl_len, nt_app] at hnt
          rw [P71, show P 95 T.length = w' from (fP 95 _ (by decide)).trans M95, show P 96 T.length = e.2.2 from (fP 96 _ (by decide)).trans M96]
          have hMVP := zMV_B hMV bP
          have cP : P 40 109 = H0 40 109 := bP.2 109 (by decide)
          refine ⟨L.length + 1, zM_6 (σ := σ) (c := H0 40 109) (L := L) (T := T) ⟨x0, by omega⟩ (by omega) (by omega) (fun c hc => ⟨⟨by have := (b2 c hc).1; omega, by have := (b2 c hc).2.1; omega⟩, h55 c (by have := (b2 c hc).1; omega) (b2 c hc).2.1⟩) hw.1 hw2.2 hw.2 (by omega) L [] (σ 51 q') P rfl a1 (fun i c hc => by cases hc) tP P71 stP sP ⟨fun z => by omega, fun _ => ⟨hl4, fun i hi => ?_⟩⟩ (fun K9 z1 z2 z3 z4 => ?_)⟩
          · have := hMVP.2.1 (4 * v + i) (by omega) (by omega)
            rw [cP] at this
            omega
          · refine ih (U ++ V2) _ K9 (by rw [List.length_append]; omega) hT2 hN2 (fun y hy => ?_) z4 (by rw [z2, List.length_append, kl_len]; omega) (by rw [nt_app]; omega) (tb_zB tP z1) (zB_tr bP z1) z3
            rcases List.mem_append.mp hy with t | t
            · have klx : ∀ (L : List Int) (w x : Int), 1 ≤ x → ∀ y, y ∈ kl σ L w x → 1 ≤ y.2.2 := by
                intro L
                induction L with
                | nil => intro w x _ y hy; exact absurd hy (List.not_mem_nil)
                | cons c l ihl =>
                  intro w x hx y hy
                  rcases List.mem_cons.mp hy with u | u
                  · rw [u]; exact hx
                  · exact ihl _ _ (by omega) y u
              exact klx L w' _ (by omega) y t
            · exact hT1 y (List.mem_cons_of_mem _ t)
        · refine nokids ?_
          cases L with
          | nil => rfl
          | cons c l => exact absurd (hz (List.cons_ne_nil _ _)) z5
end ZBE
