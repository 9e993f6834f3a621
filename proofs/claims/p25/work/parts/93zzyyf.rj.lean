section VRJ
variable {Q : Int → e3_H → e3_G → Prop} {R : e3_H → e3_G → Prop} {σ H : e3_H} {G : e3_G} {m nf : Nat} {S : Int → (Int → Int) → a_SO} {l2' : Int}
theorem vJ_fill7 (hG : zGC G) (v : Int) (hQ : ∀ K : e3_H, (∀ a x : Int, a ≠ 37 → K a x = H a x) → (∀ i : Int, 0 ≤ i → i < 7 → K 37 i = v) → R K G) : wJ_fill_AII R 37 v H G := by
  have g7 := hG.2.2.2.1
  have key : ∀ (n : Nat) (l2 : Int) (K : e3_H), 0 ≤ l2 → l2 + n = 7 → (∀ a x : Int, a ≠ 37 → K a x = H a x) → (∀ i : Int, 0 ≤ i → i < l2 → K 37 i = v) → wJ_fill_AII_5 R (n + 1) 37 v l2 7 K G := by
    intro n
    induction n with
    | zero => intro l2 K g0 hn f s; exact brF (by omega) (hQ K f (fun i i0 i1 => s i i0 (by omega)))
    | succ n ih =>
      intro l2 K g0 hn f s
      refine brT (by omega) ⟨ga_oa g7 (by decide) (by omega), fun H1 e1 => ?_⟩
      rw [e3_w32_id (by omega) (by omega)]
      refine ih (l2 + 1) H1 (by omega) (by omega) (fun a x ha => by rw [e1, e3_up_ne (ne_1 ha)]; exact f a x ha) (fun i i0 i1 => ?_)
      by_cases z : i = l2
      · rw [z, e1, e3_up_self]
      · rw [e1, e3_up_ne (ne_2 z)]; exact s i i0 (by omega)
  have e7 : e3_ln G 37 = 7 := ga_ln g7
  unfold wJ_fill_AII
  rw [e7]
  exact ⟨⟨by decide, by decide, 7, g7.2⟩, 8, key 7 0 H (by omega) (by omega) (fun _ _ _ => rfl) (fun i i0 i1 => by omega)⟩
/-- a run, in the class -/
theorem vS_run {f : Nat} {a : Int → Int} {K : e3_H} (hG : zGC G) (h70 : ∀ f : Nat, f < nf → σ 70 f ≤ 16) (hT : TV σ m H) (hC : CLX σ m nf) (hX : ∀ K, zF 34 39 H K → RUX σ nf K G ∧ zLX K ∧ VR K) (hO : ∀ (f : Nat) (a : Int → Int), f < nf → LTk σ H f a → SOk σ H f (S f a)) (hS : SCx σ H G nf l2' S) (hf : f < nf) (fK : zF 34 39 H K) (h35' : ∀ i : Int, 0 ≤ i → i < 3 → K 35 i = a i) (hlt : LTk σ H f a) (hQ : ∀ x K2, zF 34 39 H K2 → RCo (rn σ H S 100 f a 1 0 [] 0) K2 → x = (if (S f a).1 = 0 then (S f a).2.1 % 16 else -4) → BDc σ (S f a) K2 → Q x K2 G) : wS_run Q (f : Int) l2' K G := by
  refine vJ_fill7 hG 0 (fun K1 f1 s1 => ?_)
  intro H4 e4 H5 e5 H6 e6
  have g : ∀ b x : Int, b ≠ 34 → b ≠ 37 → H6 b x = K b x := fun b x h1 h2 => by rw [e6, e3_up_ne (ne_1 h1), e5, e3_up_ne (ne_1 h1), e4, e3_up_ne (ne_1 h1)]; exact f1 b x h2
  have g7 : ∀ i : Int, 0 ≤ i → i < 7 → H6 37 i = 0 := fun i i0 i1 => by rw [e6, e3_up_ne (ne_1 (by decide)), e5, e3_up_ne (ne_1 (by decide)), e4, e3_up_ne (ne_1 (by decide))]; exact s1 i i0 i1
  have l0 : (([] : List Int).length : Int) = 0 := rfl
  refine ⟨101, ?_⟩
  have key := vS_29 (Q := Q) hG h70 hT hC hX hO hS 100 f 1 (-4) 0 0 [] a H6 (by omega) (by omega) hf (fun b x hb => (g b x (by omega) (by omega)).trans (fK b x hb)) (by rw [e6, e3_up_self]) (fun i i0 i1 => by rw [g 35 i (by decide) (by decide)]; exact h35' i i0 i1) hlt ⟨g7 3 (by decide) (by decide), by omega, by omega⟩ ⟨by rw [g7 4 (by decide) (by decide)]; rfl, by rw [e6, e3_up_ne (by decide), e5, e3_up_ne (by decide), e4, e3_up_self, if_pos (by rw [l0]; decide)]; rfl, fun i v _ hv => by cases hv⟩ (by omega) ⟨g7 0 (by decide) (by decide), g7 1 (by decide) (by decide), by rw [g7 2 (by decide) (by decide)]; rfl, g7 5 (by decide) (by decide)⟩ (fun _ => ⟨by rw [e6, e3_up_ne (by decide), e5, e3_up_self], rfl⟩) (fun x K2 q1 q2 _ q4 => hQ x K2 q1 q2 (q4 rfl).1 (q4 rfl).2)
  exact key
/-- what the class takes -/
theorem vS_takes {l1 l2 l3 l4 : Int} (hd : c_kd σ m H) (hT : TV σ m H) (hl : zLX H) (hS : zSX H G) (h14 : H 14 3 = (nf : Int)) (hF : ∀ f : Nat, f < nf → (139 ≤ H 15 f ∧ g_at G (H 15 f) (108, 11)) ∧ (H (H 15 f) 1 = σ 68 f ∧ 1 ≤ σ 68 f ∧ σ 68 f ≤ 3) ∧ (139 ≤ H (H 15 f) 2 ∧ g_at G (H (H 15 f) 2) (0, 3)) ∧ ∀ c : Nat, (c : Int) < σ 68 f → H (H (H 15 f) 2) c = σ 69 (3 * (f : Int) + c) ∧ 0 ≤ σ 69 (3 * (f : Int) + c) ∧ σ 69 (3 * (f : Int) + c) < 1000)
    (h1 : ∀ f : Nat, f < nf → l1 = (f : Int) → LTk σ H f (pk4 l2 l3 l4 l4) → ∀ K : e3_H, (∀ b x : Int, b ≠ 35 → K b x = H b x) → (∀ i : Int, 0 ≤ i → i < 3 → K 35 i = pk4 l2 l3 l4 l4 i) → Q 1 K G)
    (h0 : ¬ (∃ f : Nat, f < nf ∧ l1 = (f : Int) ∧ LTk σ H f (pk4 l2 l3 l4 l4)) → ∀ K : e3_H, (∀ b x : Int, b ≠ 35 → K b x = H b x) → Q 0 K G) : wS_takes Q l1 l2 l3 l4 H G := by
  have hs1 := hS.1
  by_cases hin : 0 ≤ l1 ∧ l1 < (nf : Int)
  · obtain ⟨f, ef⟩ : ∃ f : Nat, l1 = (f : Int) := ⟨l1.toNat, by omega⟩
    subst ef
    have hf : f < nf := by omega
    obtain ⟨⟨u1, u2⟩, ⟨u3, u4, u5⟩, ⟨u6, u7⟩, u8⟩ := hF f hf
    refine vR_functionAt hS ⟨hin.1, by omega⟩ (brF (by omega) ?_)
    intro H4 e4 H5 e5 H6 e6
    have g : ∀ b x : Int, b ≠ 35 → H6 b x = H b x := fun b x hb => by rw [e6, e3_up_ne (ne_1 hb), e5, e3_up_ne (ne_1 hb), e4, e3_up_ne (ne_1 hb)]
    have g35 : ∀ i : Int, 0 ≤ i → i < 3 → H6 35 i = pk4 l2 l3 l4 l4 i := fun i i0 i1 => by
      unfold pk4
      by_cases z2 : i = 2
      · rw [z2, e6, e3_up_self]; rfl
      · rw [e6, e3_up_ne (ne_2 z2)]
        by_cases z1 : i = 1
        · rw [z1, e5, e3_up_self]; rfl
        · have z0 : i = 0 := by omega
          rw [z0, e5, e3_up_ne (ne_2 (by decide)), e4, e3_up_self]; rfl
    have o := ga_ob (c := 8) u2
    have l6z : zLX H6 := zLX_eq hl (fun b x h1 h2 => g b x (by omega))
    have d6 : c_kd σ m H6 := ckd_eq hd (fun b x hb => g b x (by omega))
    have e43 : ∀ w l s : Int, sOf σ w l s = sOf H w l s := fun w l s => by unfold sOf; rw [hT.2.2.2.1]
    have key : ∀ (d l6 : Nat), (l6 : Int) + d = σ 68 f → (∀ i : Int, 0 ≤ i → i < (l6 : Int) → oks H (pk4 l2 l3 l4 l4 i) (σ 69 (3 * (f : Int) + i))) → wS_takes_42 Q (d + 1) (H 15 f) (l6 : Int) H6 G := by
      intro d
      induction d with
      | zero =>
        intro l6 hd hv
        unfold wS_takes_42
        rw [g _ 1 (by omega), u3]
        exact ⟨o, brF (by omega) (h1 f hf rfl (fun i i0 i1 => hv i i0 (by omega)) H6 g g35)⟩
      | succ d ih =>
        intro l6 hd hv
        obtain ⟨w1, w2, w3⟩ := u8 l6 (by omega)
        unfold wS_takes_42
        rw [g _ 1 (by omega), u3, g _ 2 (by omega), g (H (H 15 f) 2) l6 (by omega), w1, g35 l6 (by omega) (by omega)]
        refine ⟨o, brT (by omega) ⟨by omega, o, ga_oa u7 (by omega) (by omega), ?_⟩⟩
        refine vL_isOf d6 hT.2.1 l6z (pk4 l2 l3 l4 l4 l6) (σ 69 (3 * (f : Int) + l6)) (fun v0 v1 v4 => ?_) ⟨w2, w3⟩ (fun hv2 hs => brF (by decide) ?_) (fun hno => brT rfl (h0 (fun hex => ?_) H6 g))
        · rw [g 26 1 (by decide)] at v1
          rw [g 27 _ (by decide)] at v4
          rw [g 28 _ (by decide)]
          have := ((hT.1.2 _ v0 v1).2.2.2.2.1 v4).1
          have e8 := hT.2.2.2.2.2.2
          omega
        · rw [e3_w32_id (x := (l6 : Int) + 1) (by omega) (by omega), show (l6 : Int) + 1 = ((l6 + 1 : Nat) : Int) by omega]
          refine ih (l6 + 1) (by omega) (fun i i0 i1 => ?_)
          by_cases z : i = (l6 : Int)
          · rw [g 26 1 (by decide)] at hv2
            rw [g 27 _ (by decide), g 28 _ (by decide), e43] at hs
            rw [z]
            exact ⟨hv2, hs⟩
          · exact hv i i0 (by omega)
        · obtain ⟨f', _, ef, hlt⟩ := hex
          have ef : f = f' := by omega
          subst ef
          have := hlt l6 (by omega) (by omega)
          refine hno ⟨?_, ?_⟩
          · rw [g 26 1 (by decide)]; exact this.1
          · rw [g 27 _ (by decide), g 28 _ (by decide), e43]; exact this.2
    exact ⟨(σ 68 f).toNat + 1, key (σ 68 f).toNat 0 (by omega) (fun i i0 i1 => by omega)⟩
  · have no : Q 0 H G := h0 (fun hex => by obtain ⟨f, hf, ef, _⟩ := hex; omega) H (fun _ _ _ => rfl)
    by_cases z : l1 < 0
    · exact brT z (brT (by decide) no)
    · exact brF z (brF (by omega) (brT (by decide) no))
/-- a run, in the reference -/
theorem nM_runs {l1 l2 l3 l4 l5 : Int} (h12 : nf ≤ 12) (h41 : H 40 41 = (nf : Int)) (h70 : ∀ f : Nat, f < nf → σ 70 f ≤ 16) (hT : TV σ m H) (htb : tb σ H) (hM : zMV H) (hH : zMH H) (hC : CLX σ m nf) (h68 : ∀ f : Nat, f < nf → 1 ≤ σ 68 f ∧ σ 68 f ≤ 3) (h69 : ∀ f c : Nat, f < nf → (c : Int) < σ 68 f → 0 ≤ σ 69 (3 * (f : Int) + c) ∧ σ 69 (3 * (f : Int) + c) < 1000) (h56 : ∀ f k : Nat, f < nf → (k : Int) < σ 70 f → 0 ≤ σ 56 (16 * (f : Int) + k) ∧ σ 56 (16 * (f : Int) + k) ≤ 8) (hO : ∀ (f : Nat) (a : Int → Int), f < nf → LTk σ H f a → SOk σ H f (S f a)) (hS : SMx σ H G nf l5 S)
    (h1 : ∀ f : Nat, f < nf → l1 = (f : Int) → LTk σ H f (pk4 l2 l3 l4 l4) → ∀ K : e3_H, zR H K → z6 (H 40 109) K → RMo (rn σ H S 100 f (pk4 l2 l3 l4 l4) 1 0 [] 0) K → BDm σ (S f (pk4 l2 l3 l4 l4)) K → Q (if (S f (pk4 l2 l3 l4 l4)).1 = 0 then (S f (pk4 l2 l3 l4 l4)).2.1 % 16 else -4) K G)
    (h0 : ¬ (∃ f : Nat, f < nf ∧ l1 = (f : Int) ∧ LTk σ H f (pk4 l2 l3 l4 l4)) → Q (-1) H G) : wM_runs Q l1 l2 l3 l4 l5 H G := by
  have hc := hM.1
  have c26 := hT.1.1
  refine cM_in (fun a b => ⟨Or.inr rfl, brF (by decide) ?_⟩) (fun z => ⟨Or.inl rfl, brT rfl (h0 (fun hex => ?_))⟩)
  · rw [h41, e3_w32_id (by omega) (by omega)] at b
    obtain ⟨f, ef⟩ : ∃ f : Nat, l1 = (f : Int) := ⟨l1.toNat, by omega⟩
    subst ef
    have hf : f < nf := by omega
    have e68 : H 68 f = σ 68 f := htb 68 f (by decide) (by decide) (by decide)
    have g68 := h68 f hf
    have e43 : ∀ w l s : Int, sOf σ w l s = sOf H w l s := fun w l s => by unfold sOf; rw [hT.2.2.2.1]
    have fin : LTk σ H f (pk4 l2 l3 l4 l4) → ∀ H2 : e3_H, H2 = e3_up H 135 0 l2 → ∀ H3 : e3_H, H3 = e3_up H2 135 1 l3 → ∀ H4 : e3_H, H4 = e3_up H3 135 2 l4 → ∀ H5 : e3_H, H5 = e3_up H4 40 119 0 → ∀ H6 : e3_H, H6 = e3_up H5 40 120 0 → ∀ H7 : e3_H, H7 = e3_up H6 40 121 0 → ∀ H8 : e3_H, H8 = e3_up H7 40 122 0 → ∀ H9 : e3_H, H9 = e3_up H8 40 123 0 → ∀ H10 : e3_H, H10 = e3_up H9 40 128 0 → ∀ H11 : e3_H, H11 = e3_up H10 40 125 (-4) → (∃ n, wM_runs_152 Q n l5 (-4) (f : Int) 1 H11 G) := fun hlt H2 e2 H3 e3 H4 e4 H5 e5 H6 e6 H7 e7 H8 e8 H9 e9 H10 e10 H11 e11 => by
      have hv0 := hlt 0 (by decide) (by omega)
      have hc1 : 1 ≤ H 40 109 := by have := hv0.1.1; have := hv0.1.2; omega
      have r11 : zR H H11 := by rw [e11, e10, e9, e8, e7, e6, e5, e4, e3, e2]; exact zR_up (zR_up (zR_up (zR_up (zR_up (zR_up (zR_up (zR_up (zR_up (zR_up (zR_rf H) (by omega)) (by omega)) (by omega)) (by omega)) (by omega)) (by omega)) (by omega)) (by omega)) (by omega)) (by omega)
      have a11 : ∀ x k : Int, x ≠ 40 → H11 x k = H4 x k := fun x k hx => by rw [e11, e3_up_ne (ne_1 hx), e10, e3_up_ne (ne_1 hx), e9, e3_up_ne (ne_1 hx), e8, e3_up_ne (ne_1 hx), e7, e3_up_ne (ne_1 hx), e6, e3_up_ne (ne_1 hx), e5, e3_up_ne (ne_1 hx)]
      have l0 : (([] : List Int).length : Int) = 0 := rfl
      refine ⟨101, ?_⟩
      refine nM_152 (n := 99) (m := m) h12 h70 hT htb hC h56 (by omega) hO hS 0 f (-4) 0 0 [] (pk4 l2 l3 l4 l4) H11 rfl ⟨hf, r11, fun i i0 i1 => ?_, fun i i0 i1 => ?_, hlt, ⟨?_, by decide, by decide⟩, ⟨?_, fun i v _ hv => by cases hv⟩, by rw [l0]; decide, ?_, ?_, ?_⟩ (fun _ => ⟨?_, rfl⟩) (fun x K2 q1 q2 q3 _ q5 => ?_)
      · rw [a11 136 i (by decide), e4, e3_up_ne (ne_1 (by decide)), e3, e3_up_ne (ne_1 (by decide)), e2, e3_up_ne (ne_1 (by decide))]
        exact zMH_6 hH hc1 i i0 i1
      · rw [a11 135 i (by decide), e4]
        unfold pk4
        by_cases z2 : i = 2
        · rw [z2, e3_up_self]; rfl
        · rw [e3_up_ne (ne_2 z2), e3]
          by_cases z1 : i = 1
          · rw [z1, e3_up_self]; rfl
          · have z0 : i = 0 := by omega
            rw [z0, e3_up_ne (ne_2 (by decide)), e2, e3_up_self]; rfl
      · rw [e11, e3_up_ne (ne_2 (by decide)), e10, e3_up_ne (ne_2 (by decide)), e9, e3_up_ne (ne_2 (by decide)), e8, e3_up_self]
      · rw [e11, e3_up_ne (ne_2 (by decide)), e10, e3_up_ne (ne_2 (by decide)), e9, e3_up_self]; rfl
      · rw [e11, e3_up_ne (ne_2 (by decide)), e10, e3_up_ne (ne_2 (by decide)), e9, e3_up_ne (ne_2 (by decide)), e8, e3_up_ne (ne_2 (by decide)), e7, e3_up_ne (ne_2 (by decide)), e6, e3_up_ne (ne_2 (by decide)), e5, e3_up_self]
      · rw [e11, e3_up_ne (ne_2 (by decide)), e10, e3_up_ne (ne_2 (by decide)), e9, e3_up_ne (ne_2 (by decide)), e8, e3_up_ne (ne_2 (by decide)), e7, e3_up_ne (ne_2 (by decide)), e6, e3_up_self]
      · rw [e11, e3_up_ne (ne_2 (by decide)), e10, e3_up_ne (ne_2 (by decide)), e9, e3_up_ne (ne_2 (by decide)), e8, e3_up_ne (ne_2 (by decide)), e7, e3_up_self]; rfl
      · rw [e11, e3_up_ne (ne_2 (by decide)), e10, e3_up_self]
      · obtain ⟨u1, u2⟩ := q5 rfl
        rw [u1]
        exact h1 f hf rfl hlt K2 q1 q2 q3 u2
    have key : ∀ (d l6 : Nat), (l6 : Int) + d = σ 68 f → (∀ i : Int, 0 ≤ i → i < (l6 : Int) → oks H (pk4 l2 l3 l4 l4 i) (σ 69 (3 * (f : Int) + i))) → wM_runs_13 Q (d + 1) (f : Int) l2 l3 l4 l5 (l6 : Int) H G := by
      intro d
      induction d with
      | zero =>
        intro l6 hd hv
        exact ⟨⟨by omega, by omega⟩, brF (by rw [e68]; omega) (fin (fun i i0 i1 => hv i i0 (by omega)))⟩
      | succ d ih =>
        intro l6 hd hv
        have w69 := h69 f l6 hf (by omega)
        have n45 : ∀ s0 : Int, s0 = pk4 l2 l3 l4 l4 l6 → wM_runs_45 Q (fun l1 l2 l3 l4 l5 l6 H G => wM_runs_13 Q (d + 1) l1 l2 l3 l4 l5 l6 H G) (f : Int) l2 l3 l4 l5 (l6 : Int) s0 H G := fun s0 hs => by
          have bad : ¬ oks H s0 (σ 69 (3 * (f : Int) + l6)) → Q (-1) H G := fun hno => h0 (fun hex => by
            obtain ⟨f', _, ef, hlt⟩ := hex
            have ef : f = f' := by omega
            subst ef
            have := hlt l6 (by omega) (by omega)
            rw [← hs] at this
            exact hno this)
          refine cM_in (fun a2 b2 => ⟨Or.inr rfl, brF (by decide) ?_⟩) (fun z => ⟨Or.inl rfl, brT rfl (bad (fun ho => z ⟨ho.1.1, by rw [e3_w32_id (by omega) (by omega)]; have := ho.1.2; omega⟩))⟩)
          rw [e3_w32_id (by omega) (by omega)] at b2
          rw [e3_w32_id (x := 3 * (f : Int)) (by omega) (by omega), e3_w32_id (x := 3 * (f : Int) + l6) (by omega) (by omega), htb 69 _ (by decide) (by decide) (by decide)]
          have V1 := hT.1.2 s0 a2 (by omega)
          have e8 := hT.2.2.2.2.2.2
          have es : sOf σ (H 128 s0) (H 129 s0) (σ 69 (3 * (f : Int) + l6)) = sOf H (H 27 s0) (H 28 s0) (σ 69 (3 * (f : Int) + l6)) := by
            rw [e43, ← V1.1.1]
            exact sOf_l (fun w4 => (V1.2.2.2.2.1 w4).2.1.symm)
          refine ⟨by omega, nM_isOfSort hT.2.2.2.1 hT.2.1 s0 _ ⟨a2, by omega⟩ (fun w4 => ?_) w69 (fun hso => brF (by decide) ?_) (fun hso => brT rfl (bad (fun ho => ?_)))⟩
          · have w4' : H 27 s0 = 4 := by rw [V1.1.1]; exact w4
            obtain ⟨c1, c2, _⟩ := V1.2.2.2.2.1 w4'
            omega
          · rw [e3_w32_id (x := (l6 : Int) + 1) (by omega) (by omega), show (l6 : Int) + 1 = ((l6 + 1 : Nat) : Int) by omega]
            refine ih (l6 + 1) (by omega) (fun i i0 i1 => ?_)
            by_cases z : i = (l6 : Int)
            · rw [z, ← hs]
              exact ⟨⟨a2, by omega⟩, by rw [← es]; exact hso⟩
            · exact hv i i0 (by omega)
          · rw [es, ho.2] at hso
            cases hso
        refine ⟨⟨by omega, by omega⟩, ?_⟩
        rw [e68]
        refine ⟨fun z => ?_, fun z => by omega⟩
        by_cases z0 : (l6 : Int) = 0
        · exact brT z0 (n45 _ (by unfold pk4; rw [if_pos z0]))
        refine brF z0 ?_
        by_cases z1 : (l6 : Int) = 1
        · exact brT z1 (n45 _ (by unfold pk4; rw [if_neg z0, if_pos z1]))
        · exact brF z1 (n45 _ (by unfold pk4; rw [if_neg z0, if_neg z1]; split <;> rfl))
    exact ⟨(σ 68 f).toNat + 1, key (σ 68 f).toNat 0 (by omega) (fun i i0 i1 => by omega)⟩
  · obtain ⟨f, hf, ef, _⟩ := hex
    exact z ⟨by omega, by rw [h41, e3_w32_id (by omega) (by omega)]; omega⟩
end VRJ
