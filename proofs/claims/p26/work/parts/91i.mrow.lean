/-- tests of a row, in the reference's tables from i0 on -/
def M_ts (σ K : e3_H) (i0 : Int) (T : List (Int × Int)) : Prop := ∀ (j : Nat) (p : Int × Int), T[j]? = some p → K 89 (i0 + j) = σ 46 p.1 ∧ K 90 (i0 + j) = p.2 ∧ K 91 (i0 + j) = p.1
/-- a row of the reference is done: V was visited -/
def PO (σ K : e3_H) (V : List (Int × Int)) (K2 : e3_H) : Prop := mr K K2 ∧ (∀ a x : Int, (86 ≤ a ∧ a ≤ 87) ∨ (92 ≤ a ∧ a ≤ 93) → K2 a x = K a x) ∧ K2 40 61 = K 40 61 + 1 ∧ K2 40 65 = K 40 65 + (tl σ V).length ∧ (∀ x : Int, x ≠ K 40 61 + 1 → K2 88 x = K 88 x) ∧ K2 88 (K 40 61 + 1) = K 40 65 + (tl σ V).length ∧ (∀ a x : Int, 89 ≤ a → a ≤ 91 → x < K 40 65 → K2 a x = K a x) ∧ M_ts σ K2 (K 40 65) (tl σ V)
section MR
variable {σ K K1 K2 : e3_H} {V W : List (Int × Int)}
theorem PO_pre (m : mr K K1) (e1 : K1 40 61 = K 40 61) (e2 : K1 40 65 = K 40 65) (e3 : ∀ a x : Int, 86 ≤ a → a ≤ 93 → K1 a x = K a x) (ht : tl σ V = tl σ W) (h : PO σ K1 W K2) : PO σ K V K2 := by
  obtain ⟨p1, p2, p3, p4, p5, p6, p7, p8⟩ := h
  rw [e1] at p3 p5 p6
  rw [e2] at p4 p6 p7 p8
  refine ⟨mr_tr m p1, fun a x ha => (p2 a x ha).trans (e3 a x (by omega) (by omega)), p3, by rw [ht]; exact p4, fun x hx => (p5 x hx).trans (e3 88 x (by decide) (by decide)), by rw [ht]; exact p6, fun a x h1 h2 h3 => (p7 a x h1 h2 h3).trans (e3 a x (by omega) (by omega)), by rw [ht]; exact p8⟩
theorem PO_test {q x : Int} (hz : ¬ (σ 46 q = 0 ∨ σ 46 q = 6)) (m : mr K K1) (e1 : K1 40 61 = K 40 61) (e2 : K1 40 65 = K 40 65 + 1) (e3 : ∀ a y : Int, (86 ≤ a ∧ a ≤ 88) ∨ (92 ≤ a ∧ a ≤ 93) ∨ (89 ≤ a ∧ a ≤ 91 ∧ y ≠ K 40 65) → K1 a y = K a y) (t1 : K1 89 (K 40 65) = σ 46 q) (t2 : K1 90 (K 40 65) = x) (t3 : K1 91 (K 40 65) = q) (h : PO σ K1 V K2) : PO σ K ((q, x) :: V) K2 := by
  obtain ⟨p1, p2, p3, p4, p5, p6, p7, p8⟩ := h
  rw [e1] at p3 p5 p6
  rw [e2] at p4 p6 p7 p8
  have hl : ((tl σ ((q, x) :: V)).length : Int) = (tl σ V).length + 1 := by rw [tl_pos hz]; rfl
  refine ⟨mr_tr m p1, fun a x ha => (p2 a x ha).trans (e3 a x (by omega)), p3, by rw [hl, p4]; omega, fun x hx => (p5 x hx).trans (e3 88 x (by omega)), by rw [hl, p6]; omega, fun a x h1 h2 h3 => (p7 a x h1 h2 (by omega)).trans (e3 a x (by omega)), ?_⟩
  rw [tl_pos hz]
  intro j p hp
  cases j with
  | zero =>
    have hp : some (q, x) = some p := hp
    cases hp
    have e0 : K 40 65 + ((0 : Nat) : Int) = K 40 65 := by omega
    rw [e0, p7 89 _ (by decide) (by decide) (by omega), p7 90 _ (by decide) (by decide) (by omega), p7 91 _ (by decide) (by decide) (by omega)]
    exact ⟨t1, t2, t3⟩
  | succ j =>
    have := p8 j p hp
    rw [show K 40 65 + 1 + (j : Int) = K 40 65 + ((j + 1 : Nat) : Int) by omega] at this
    exact this
end MR
section MR2
variable {Q : e3_H → e3_G → Prop} {σ : e3_H} {hi : Int} {G : e3_G}
/-- behind the test: the children wait, or nothing -/
theorem cM_130 {k52 : e3_H → e3_G → Prop} {k : Nat} {q w x : Int} {V1 V2 : List (Int × Int)} {T : List (Int × Int × Int)} {H : e3_H} (htb : tb σ H) (h55 : ∀ y : Int, 0 ≤ y → y < hi → 1 ≤ σ 55 y ∧ σ 55 y ≤ 1000) (hhi : hi ≤ 1700) (hl : ly1 σ hi k q w x ((q, x) :: V1)) (h6 : σ 46 q ≠ 6) (hT : lyT σ hi T V2) (hn : nt σ (V1 ++ V2) ≤ 2000) (h71 : H 40 71 = T.length) (h71b : T.length < 2000) (h95 : H 95 T.length = w) (hst : M_st H T)
    (hk : ∀ K T2, mr H K → K 40 61 = H 40 61 → K 40 65 = H 40 65 → (∀ a y : Int, 86 ≤ a → a ≤ 93 → K a y = H a y) → K 40 71 = (T2.length : Int) → M_st K T2 → lyT σ hi T2 (V1 ++ V2) → k52 K G) : wM_layRow_130 Q k52 q x H G := by
  obtain ⟨hv, ht, hq, h5, hw, x0, hx⟩ := hl
  cases k with
  | zero => exact hv.elim
  | succ k =>
    obtain ⟨L, V1', ⟨a1, a2⟩, e, hv⟩ := hv
    have e : V1 = V1' := (List.cons.inj e).2
    subst e
    obtain ⟨L2, b1, b2, b3, b4, b5, b6⟩ := ht
    have e1 : ∀ y, y ∈ L2 → y ≠ -4 := fun y hy => by have := (b2 y hy).1; omega
    have hLL : L = L2 := ach_inj L L2 _ a2 e1 a1 b1
    subst hLL
    have hpos : ∀ y, y ∈ L → 1 ≤ σ 55 y := fun y hy => (h55 y (by have := (b2 y hy).1; omega) (b2 y hy).2.1).1
    rcases hv with ⟨z, _⟩ | ⟨_, hz, hl4, hw2, v⟩
    · exact absurd z h6
    have q17 : 0 ≤ q ∧ q < 1700 := ⟨hq.1, by omega⟩
    refine ⟨q17, ?_⟩
    rw [htb 46 q (by decide) (by decide) (by decide), htb 51 q (by decide) (by decide) (by decide)]
    have nokids : L = [] → wM_layRow_174 Q k52 H G := fun hL => by
      subst hL
      have v : V1 = [] := v
      rw [v] at hk
      exact hk H T (mr_rf H) rfl rfl (fun _ _ _ _ => rfl) h71 hst hT
    refine ⟨fun z5 => ⟨q17, fun z51 => ?_, fun z51 => ⟨q17, by omega, ?_⟩⟩, fun z5 => ?_⟩
    · refine nokids ?_
      cases L with
      | nil => rfl
      | cons c l => exact absurd (a1.1.symm.trans z51) (a2 c (List.mem_cons_self ..))
    · have hne : L ≠ [] := fun z => by subst z; exact z51 a1
      have ewp : σ 55 q = wp σ L := by
        rw [z5] at b3
        rw [b3]
        exact wfL_5 hpos (by rw [← b3]; exact h5)
      have q8 := p8_1 k
      have hx2 : (x + 1) * (8 * p8 k) ≤ 2097152 := hx
      have hx1 : (x + 1) * 1 ≤ (x + 1) * (8 * p8 k) := Int.mul_le_mul_of_nonneg_left (by omega) (by omega)
      have hT2 := kl_lyT (k := k) hT L w (8 * x + 1) V1 v (fun c hc => ⟨⟨by have := (b2 c hc).1; omega, (b2 c hc).2.1⟩, (b2 c hc).2.2, hpos c hc⟩) (by omega) hw.1 hw.2 (by omega) (by
        have : (8 * x + 1 + (L.length : Int)) * p8 k ≤ (x + 1) * 8 * p8 k := Int.mul_le_mul_of_nonneg_right (by omega) (by omega)
        rw [Int.mul_assoc] at this
        omega)
      have hnt := lyT_nt _ _ hT2
      rw [List.length_append, kl_len] at hnt
      rw [h71, h95]
      refine ⟨L.length + 1, cM_6 (σ := σ) (L := L) (T := T) ⟨x0, by omega⟩ (by omega) (fun c hc => ⟨⟨by have := (b2 c hc).1; omega, by have := (b2 c hc).2.1; omega⟩, h55 c (by have := (b2 c hc).1; omega) (b2 c hc).2.1⟩) hw.1 hw2.2 hw.2 (by omega) L [] (σ 51 q) H rfl a1 (fun i c hc => by cases hc) htb h71 hst (fun K z1 z2 z3 z4 z5 z6 => ?_)⟩
      refine hk K _ z1 z3 z4 z5 ?_ z6 hT2
      rw [z2, List.length_append, kl_len]
      omega
    · refine nokids ?_
      cases L with
      | nil => rfl
      | cons c l => exact absurd (hz (List.cons_ne_nil _ _)) z5
theorem ly1_hd {k : Nat} {q w x : Int} {V : List (Int × Int)} (h : ly1 σ hi k q w x V) : ∃ V1, V = (q, x) :: V1 := by
  cases k with
  | zero => exact h.1.elim
  | succ k => obtain ⟨⟨L, V1, _, e, _⟩, _⟩ := h; exact ⟨V1, e⟩
/-- nothing waits any more: the row ends -/
theorem cM_52e {N : Nat} {K : e3_H} (h71 : K 40 71 = 0) (h61 : 0 ≤ K 40 61 ∧ K 40 61 < 40) (hQ : ∀ K2, PO σ K [] K2 → Q K2 G) : wM_layRow_52 Q (N + 1) K G := by
  refine brF (by omega) ?_
  intro H14 e14
  rw [e3_w32_id (by omega) (by omega)] at e14
  have f61 : H14 40 61 = K 40 61 + 1 := by rw [e14, e3_up_self]
  have f65 : H14 40 65 = K 40 65 := by rw [e14, e3_up_ne (by decide)]
  refine ⟨by omega, ?_⟩
  intro H15 e15
  rw [f61, f65] at e15
  have at15 : ∀ a x : Int, a ≠ 40 → a ≠ 88 → H15 a x = K a x := fun a x h1 h2 => by rw [e15, e3_up_ne (ne_1 h2), e14, e3_up_ne (ne_1 h1)]
  refine hQ H15 ⟨⟨fun a k h1 h2 => at15 a k h1 (by omega), fun k h1 h2 h3 => by rw [e15, e3_up_ne (ne_1 (by decide)), e14, e3_up_ne (fun z => h1 z.2)]⟩, fun a x ha => at15 a x (by omega) (by omega), by rw [e15, e3_up_ne (ne_1 (by decide))]; exact f61, by rw [e15, e3_up_ne (ne_1 (by decide)), f65]; show _ = K 40 65 + 0; omega, fun x hx => by rw [e15, e3_up_ne (fun z => hx z.2), e14, e3_up_ne (ne_1 (by decide))], by rw [e15, e3_up_self]; show _ = K 40 65 + 0; omega, fun a x h1 h2 _ => at15 a x (by omega) (by omega), fun j p hp => by cases hp⟩
/-- the loop that lays a row -/
theorem cM_52 (h55 : ∀ y : Int, 0 ≤ y → y < hi → 1 ≤ σ 55 y ∧ σ 55 y ≤ 1000) (hhi : hi ≤ 1700) : ∀ (N : Nat) (V : List (Int × Int)) (T : List (Int × Int × Int)) (K : e3_H), V.length ≤ N → lyT σ hi T V → M_st K T → K 40 71 = (T.length : Int) → nt σ V ≤ 2000 → tb σ K → 0 ≤ K 40 65 → K 40 65 + (tl σ V).length ≤ 33000 → (0 ≤ K 40 61 ∧ K 40 61 < 40) → (∀ K2, PO σ K V K2 → Q K2 G) → wM_layRow_52 Q (N + 1) K G := by
  intro N
  induction N with
  | zero =>
    intro V T K hN hT hst h71 hn htb h65 h65b h61 hQ
    have hV : V = [] := List.eq_nil_of_length_eq_zero (by omega)
    subst hV
    have := lyT_nt _ _ hT
    have h0 : T.length = 0 := by have : (T.length : Int) ≤ 0 := this; omega
    exact cM_52e (by omega) h61 hQ
  | succ N ih =>
    intro V T K hN hT hst h71 hn htb h65 h65b h61 hQ
    cases T with
    | nil =>
      have hV : V = [] := hT
      subst hV
      exact cM_52e h71 h61 hQ
    | cons e T =>
      have hnT := lyT_nt _ _ hT
      obtain ⟨k, V1, V2, eV, l1, l2⟩ := hT
      obtain ⟨s1, s2, s3, s4, s5⟩ := hst
      rw [List.length_cons] at h71 hnT
      have hlen : V.length = V1.length + V2.length := by rw [eV, List.length_append]
      refine brT (by omega) ?_
      intro H1 e1
      rw [h71, e3_w32_id (by omega) (by omega), show (((T.length + 1 : Nat) : Int)) - 1 = T.length by omega] at e1
      have f71 : H1 40 71 = T.length := by rw [e1, e3_up_self]
      have m1 : mr K H1 := by rw [e1]; exact mr_up (mr_rf K) (Or.inr (by decide))
      have at1 : ∀ a y : Int, a ≠ 40 → H1 a y = K a y := fun a y ha => by rw [e1, e3_up_ne (ne_1 ha)]
      refine ⟨by omega, by omega, k, ?_⟩
      rw [f71, at1 94 _ (by decide), at1 95 _ (by decide), s1, s2]
      refine cM_30 (hi := hi) (tb_mr htb m1) (fun y y0 y1 => (h55 y y0 y1).1) hhi (by omega) (by rw [f71, at1 97 _ (by decide)]; exact s4) k _ _ _ V1 l1 (fun k' q' w' V' g1 g2 g3 g4 g5 => ?_)
      obtain ⟨U, eU⟩ := ly1_hd g1
      subst eU
      rw [f71]
      generalize eM : e3_up H1 95 (T.length : Int) w' = M
      have atM : ∀ a y : Int, a ≠ 40 → a ≠ 95 → M a y = K a y := fun a y ha hb => by rw [← eM, e3_up_ne (ne_1 hb)]; exact at1 a y ha
      have M71 : M 40 71 = T.length := by rw [← eM, e3_up_ne (ne_1 (by decide))]; exact f71
      have M40 : ∀ y : Int, y ≠ 71 → M 40 y = K 40 y := fun y hy => by rw [← eM, e3_up_ne (ne_1 (by decide)), e1, e3_up_ne (fun z => hy z.2)]
      have M95 : M 95 T.length = w' := by rw [← eM, e3_up_self]
      have M96 : M 96 T.length = e.2.2 := by rw [atM 96 _ (by decide) (by decide)]; exact s3
      have mM : mr K M := by rw [← eM]; exact mr_up m1 (Or.inl (by decide))
      have tM : tb σ M := tb_mr htb mM
      have stM : M_st M T := M_st_eq T s5 (fun a y h1 h2 h3 => by
        rw [← eM, e3_up_ne (fun z => by have := z.2; omega)]
        exact at1 a y (by omega))
      have hq := g1.2.2.1
      have q17 : 0 ≤ q' ∧ q' < 1700 := ⟨hq.1, by omega⟩
      rw [List.length_cons] at g5
      have hntU : nt σ V = 1 + nt σ U + nt σ V2 := by
        rw [eV, nt_app, g4]
        show (if σ 46 q' = 6 then 0 else 1) + nt σ U + nt σ V2 = _
        rw [if_neg g2]
      have htl : tl σ V = tl σ ((q', e.2.2) :: U) ++ tl σ V2 := by rw [eV, tl_app, g3]
      refine ⟨by rw [M71]; omega, q17, ?_⟩
      rw [M71, M96, tM 46 q' (by decide) (by decide) (by decide)]
      refine ⟨fun h0 => ?_, fun h0 => ?_⟩
      · have ht0 : tl σ V = tl σ (U ++ V2) := by rw [htl, tl_neg (Or.inl h0), tl_app]
        refine cM_130 tM h55 hhi g1 g2 l2 (by rw [nt_app]; omega) M71 (by omega) M95 stM (fun K3 T2 z1 z2 z3 z4 z5 z6 z7 => ?_)
        have ez : ∀ a y : Int, 86 ≤ a → a ≤ 93 → K3 a y = K a y := fun a y h1 h2 => (z4 a y h1 h2).trans (atM a y (by omega) (by omega))
        have e65 : K3 40 65 = K 40 65 := z3.trans (M40 65 (by decide))
        have e61 : K3 40 61 = K 40 61 := z2.trans (M40 61 (by decide))
        exact ih (U ++ V2) T2 K3 (by rw [List.length_append]; omega) z7 z6 z5 (by rw [nt_app]; omega) (tb_mr tM z1) (by omega) (by rw [e65, ← ht0]; exact h65b) (by omega) (fun K4 hp => hQ K4 (PO_pre (mr_tr mM z1) e61 e65 ez ht0 hp))
      · have hz : ¬ (σ 46 q' = 0 ∨ σ 46 q' = 6) := fun z => z.elim h0 g2
        have ht0 : tl σ V = tl σ ((q', e.2.2) :: (U ++ V2)) := by rw [htl, tl_pos hz, tl_pos hz, tl_app]; rfl
        have hlt : ((tl σ V).length : Int) = (tl σ (U ++ V2)).length + 1 := by rw [ht0, tl_pos hz]; rfl
        have M65 : M 40 65 = K 40 65 := M40 65 (by decide)
        refine ⟨q17, by omega, ?_⟩
        intro H6 e6
        have f6 : H6 40 65 = K 40 65 := by rw [e6, e3_up_ne (ne_1 (by decide))]; exact M65
        refine ⟨by omega, ?_⟩
        intro H9 e9
        have f9 : H9 40 65 = K 40 65 := by rw [e9, e3_up_ne (ne_1 (by decide))]; exact f6
        refine ⟨by omega, ?_⟩
        intro H11 e11
        have f11 : H11 40 65 = K 40 65 := by rw [e11, e3_up_ne (ne_1 (by decide))]; exact f9
        intro H13 e13
        rw [f11, e3_w32_id (by omega) (by omega)] at e13
        rw [M65] at e6
        rw [f6] at e9
        rw [f9] at e11
        have mH : mr M H13 := by rw [e13, e11, e9, e6]; exact mr_up (mr_up (mr_up (mr_up (mr_rf M) (Or.inl (by decide))) (Or.inl (by decide))) (Or.inl (by decide))) (Or.inr (by decide))
        have atH : ∀ a y : Int, ¬ (a = 40 ∧ y = 65) → ¬ (89 ≤ a ∧ a ≤ 91 ∧ y = K 40 65) → H13 a y = M a y := fun a y h1 h2 => by
          rw [e13, e3_up_ne h1, e11, e3_up_ne (fun z => h2 (by omega)), e9, e3_up_ne (fun z => h2 (by omega)), e6, e3_up_ne (fun z => h2 (by omega))]
        have t1 : H13 89 (K 40 65) = σ 46 q' := by rw [e13, e3_up_ne (ne_1 (by decide)), e11, e3_up_ne (ne_1 (by decide)), e9, e3_up_ne (ne_1 (by decide)), e6, e3_up_self]
        have t2 : H13 90 (K 40 65) = e.2.2 := by rw [e13, e3_up_ne (ne_1 (by decide)), e11, e3_up_ne (ne_1 (by decide)), e9, e3_up_self]
        have t3 : H13 91 (K 40 65) = q' := by rw [e13, e3_up_ne (ne_1 (by decide)), e11, e3_up_self]
        refine cM_130 (tb_mr tM mH) h55 hhi g1 g2 l2 (by rw [nt_app]; omega) (by rw [atH 40 71 (by omega) (by omega)]; exact M71) (by omega) (by rw [atH 95 _ (by omega) (by omega)]; exact M95) (M_st_eq T stM (fun a y h1 h2 h3 => atH a y (by omega) (by omega))) (fun K3 T2 z1 z2 z3 z4 z5 z6 z7 => ?_)
        have e65 : K3 40 65 = K 40 65 + 1 := by rw [z3, e13, e3_up_self]
        have e61 : K3 40 61 = K 40 61 := by rw [z2, atH 40 61 (by omega) (by omega)]; exact M40 61 (by decide)
        refine ih (U ++ V2) T2 K3 (by rw [List.length_append]; omega) z7 z6 z5 (by rw [nt_app]; omega) (tb_mr (tb_mr tM mH) z1) (by omega) (by omega) (by omega) (fun K4 hp => hQ K4 ?_)
        have hP := PO_test (x := e.2.2) hz (mr_tr (mr_tr mM mH) z1) e61 e65 (fun a y ha => (z4 a y (by omega) (by omega)).trans ((atH a y (by omega) (by omega)).trans (atM a y (by omega) (by omega)))) ((z4 89 _ (by decide) (by decide)).trans t1) ((z4 90 _ (by decide) (by decide)).trans t2) ((z4 91 _ (by decide) (by decide)).trans t3) hp
        exact PO_pre (mr_rf K) rfl rfl (fun _ _ _ _ => rfl) ht0 hP
end MR2
