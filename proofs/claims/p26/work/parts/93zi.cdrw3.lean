section CRN
variable {Q : Int → e3_H → e3_G → Prop} {σ g H : e3_H} {G : e3_G} {m nf : Nat} {Vs : Int → Int → Int → List (Int × Int)} {mr0 : Nat → Nat} {way km : Nat → Int} {N : Nat → List a_ND} {l1 l2 : Int}
theorem zR_fA (h : zSX H G) (l1 : Int) (h1 : 0 ≤ l1 ∧ l1 < H 14 3 → zFU (H 15 l1) H G → Q (H 15 l1) H G) (h0 : ¬ (0 ≤ l1 ∧ l1 < H 14 3) → Q (-1) H G) : wR_functionAt Q l1 H G := by
  by_cases a : l1 < 0
  · exact brT a (h0 (by omega))
  · refine brF a ?_
    by_cases b : l1 < H 14 3
    · have := h.1
      exact brT b ⟨by omega, h1 ⟨by omega, b⟩ (h.2 l1 (by omega) b)⟩
    · exact brF b (h0 (by omega))
theorem cP_remake (hP : PXc σ m nf Vs mr0) (hX : TX σ g m nf Vs way km N H G) (hM : MKR H G) (h8 : C8 nf H) (hN : ∀ f : Nat, f < nf → NCt (N f))
    (hno : ¬ ((0 ≤ l1 ∧ l1 < (nf : Int)) ∧ 0 ≤ l2 ∧ l2 ≤ 3) → Q (-1) H G)
    (hgo : (0 ≤ l1 ∧ l1 < nf) → 0 ≤ l2 ∧ l2 ≤ 3 → ∃ (kk : Nat) (N' : List a_ND), gr σ m (RR σ l1.toNat (Vs l1.toNat) false (mr0 l1.toNat)) l2 kk [] N' ∧ (120 < N'.length → ∀ K G2, PDw σ g m nf Vs way km N H G K G2 → Q (-3) K G2) ∧ (N'.length ≤ 120 → ∀ K G2, PDw σ g m nf Vs (fup way l1.toNat l2) (fup km l1.toNat (m : Int)) (fup N l1.toNat N') H G K G2 → Q (N'.length : Int) K G2)) : wP_remake Q l1 l2 H G := by
  have hS := zSX_of hX hP.1.2.1 hN
  have h3 := hX.1
  refine zR_fA hS l1 (fun hx hfu => brF (by have := hfu.1.1; omega) ?_) (fun z => brT (by decide) (hno (fun y => z (by omega))))
  by_cases a : l2 < 0
  · exact brT a (hno (fun y => by omega))
  refine brF a ?_
  by_cases b : 3 < l2
  · exact brT b (hno (fun y => by omega))
  have hf : l1.toNat < nf := by omega
  have ef : ((l1.toNat : Nat) : Int) = l1 := by omega
  obtain ⟨kk, N', hgr, hbad, hok⟩ := hgo ⟨hx.1, by omega⟩ ⟨by omega, by omega⟩
  refine brF b ⟨ga_ob (c := 8) hfu.1.2, ?_⟩
  obtain ⟨cx, pn, cnt, mr, y1, y2, hDX⟩ := DX_of (hX.2.2.1 l1.toNat hf) ⟨hX.2.1, hP.1.2.2.2.2.1⟩
  rw [ef] at hDX
  have hmr : mr = mr0 l1.toNat := by have := (hP.2.2.2.2.2.2 l1.toNat hf).1; omega
  subst hmr
  refine cF_allRows hDX (fun M hMK => ?_)
  have := cP_drc (Q := fun x9 H7 G8 => (((x9 : Int) = 0 → Q (-3) H7 G8) ∧ (¬ ((x9 : Int) = 0) → (wD_handOver (fun H10 G11 => (e3_ob G11 8 (H 15 l1)) ∧ (e3_ob G11 5 (H10 (H 15 l1) 10)) ∧ Q (H10 (H10 (H 15 l1) 10) 0) H10 G11) (H 15 l1) H7 G8)))) (f := l1.toNat) (w := l2) (N' := N') (π := []) (M := M) hP hX hM h8 hf (fun e he => absurd he (List.not_mem_nil)) trivial hgr (by rw [ef]; exact hMK) (fun hn K G2 d1 d2 d3 d4 d5 d6 => brF (by decide) ?_) (fun hn K G2 d1 d2 d3 d6 => brT rfl (hbad hn K G2 ⟨d1, d2, MKR_D hM d3 d1, C8_D hX h8 d1, d6⟩))
  · rw [ef] at this
    exact this
  · obtain ⟨cx2, cnt2, c1, c2, c3, c4, c5, c6⟩ := d4
    have e15 : ∀ x : Int, K 15 x = H 15 x := fun x => d1.2.2 15 x (by decide)
    have hfu2 := FY_fu (d2.2.2.1 l1.toNat hf)
    rw [ef] at hfu2
    rw [e15] at hfu2
    have ob := ga_ob (c := 8) hfu2.2
    refine ⟨ob, ob, ?_⟩
    intro H1 e1
    intro H4 e4
    have hMK2 := MKR_D hM d3 d1
    have g7 : K (K 15 (l1.toNat : Nat)) 7 = (cnt2 : Int) := by
      rw [e15, d1.2.1 _ 7 _ _ (FY_fu (hX.2.2.1 l1.toNat hf)).2 (okt_d (by decide) (by decide) (by decide) (Or.inr (by decide)))]
      exact c1
    have e4' : H4 = e3_up (e3_up K (K 15 (l1.toNat : Nat)) 10 (K 16 1)) 16 1 (K (K 15 (l1.toNat : Nat)) 10) := by rw [e4, e1, ef, e15]
    obtain ⟨t1, t2, t3, t4, t5, t6⟩ := TX_hand (cx := cx2) (cnt := cnt2) (w := l2) (N' := N') d2 hMK2.2.1 hf g7 (by rw [e15]; exact pl_D c2 d1) c3 c4 c5 c6 e4'
    rw [e15, ef] at t5
    rw [t5, t6]
    have d12 := D2_tr d1 t2
    refine ⟨ob, ?_, hok hn H4 G2 ⟨d12, t1, MKR_D hM t3 d12, C8_D hX h8 d12, d6⟩⟩
    exact ga_ob (c := 5) d3.1.2.1
theorem cP_unreached (hP : PXc σ m nf Vs mr0) (hX : TX σ g m nf Vs way km N H G) (hM : MKR H G) (h8 : C8 nf H) (hN : ∀ f : Nat, f < nf → NCt (N f)) (hQ : ∀ x K G2, PDw σ g m nf Vs way km N H G K G2 → Q x K G2) : wP_unreached Q l1 l2 H G := by
  have hS := zSX_of hX hP.1.2.1 hN
  have h3 := hX.1
  have no : ∀ x, Q x H G := fun x => hQ x H G (PDw_rf hX hM h8)
  refine zR_functionAt hS l1 (fun hx hfu => brF (by have := hfu.1.1; omega) ?_) (brT (by decide) (no _))
  by_cases a : l2 < 0
  · exact brT a (no _)
  have ob := ga_ob (c := 8) hfu.1.2
  refine brF a ⟨ob, ?_⟩
  by_cases b : l2 < H (H 15 l1) 3
  case neg => exact brF b (no _)
  refine brT b ⟨ob, ?_⟩
  have hf : l1.toNat < nf := by omega
  have ef : ((l1.toNat : Nat) : Int) = l1 := by omega
  obtain ⟨cx, pn, cnt, mr, y1, y2, hDX⟩ := DX_of (hX.2.2.1 l1.toNat hf) ⟨hX.2.1, hP.1.2.2.2.2.1⟩
  rw [ef] at hDX
  have hmr : mr = mr0 l1.toNat := by have := (hP.2.2.2.2.2.2 l1.toNat hf).1; omega
  subst hmr
  refine cF_allRows hDX (fun M hMK => ?_)
  obtain ⟨kk, N', hgr⟩ := gr_ex (σ := σ) (m := m) (R := RR σ (l1.toNat : Nat) (Vs (l1.toNat : Nat)) false (mr0 l1.toNat)) (way := 0) _ [] (Nat.le_refl _)
  have := cP_drc (Q := fun x10 H8 G9 => (((x10 : Int) = 0 → Q (-3) H8 G9) ∧ (¬ ((x10 : Int) = 0) → (e3_ob G9 8 (H 15 l1)) ∧ (wF_comesTo (fun x13 H11 G12 => (((x13 : Int) = 0 → (wP_unreached_66 Q 1 H11 G12)) ∧ (¬ ((x13 : Int) = 0) → (wP_unreached_66 Q 0 H11 G12)))) (H 15 l1) (H8 16 1) l2 H8 G9)))) (f := l1.toNat) (w := 0) (N' := N') (π := []) (M := M) hP hX hM h8 hf (fun e he => absurd he (List.not_mem_nil)) trivial hgr (by rw [ef]; exact hMK) (fun hn K G2 d1 d2 d3 d4 d5 d6 => brF (by decide) ?_) (fun _ K G2 d1 d2 d3 d6 => brT rfl (hQ _ K G2 ⟨d1, d2, MKR_D hM d3 d1, C8_D hX h8 d1, d6⟩))
  · rw [ef] at this
    exact this
  · have e15 : ∀ x : Int, K 15 x = H 15 x := fun x => d1.2.2 15 x (by decide)
    have hu := (zSX_of d2 hP.1.2.1 hN).2 l1 hx.1 (by rw [d2.1]; omega)
    rw [e15] at hu
    have fin := fun x => hQ x K G2 ⟨d1, d2, MKR_D hM d3 d1, C8_D hX h8 d1, d6⟩
    exact ⟨ga_ob (c := 8) hu.1.2, zF_comesTo d5 hu l2 (fun x => ⟨fun _ => fin _, fun _ => fin _⟩)⟩
theorem cP_missing (hP : PXc σ m nf Vs mr0) (hX : TX σ g m nf Vs way km N H G) (hM : MKR H G) (h8 : C8 nf H) (hN : ∀ f : Nat, f < nf → NCt (N f)) (hQ : ∀ x K G2, PDw σ g m nf Vs way km N H G K G2 → Q x K G2) : wP_missing Q l1 H G := by
  have hS := zSX_of hX hP.1.2.1 hN
  have h3 := hX.1
  have no : ∀ x, Q x H G := fun x => hQ x H G (PDw_rf hX hM h8)
  refine zR_functionAt hS l1 (fun hx hfu => brF (by have := hfu.1.1; omega) ?_) (brT (by decide) (no _))
  have ob := ga_ob (c := 8) hfu.1.2
  refine ⟨ob, ?_⟩
  have hf : l1.toNat < nf := by omega
  have ef : ((l1.toNat : Nat) : Int) = l1 := by omega
  obtain ⟨cx, pn, cnt, mr, y1, y2, hDX⟩ := DX_of (hX.2.2.1 l1.toNat hf) ⟨hX.2.1, hP.1.2.2.2.2.1⟩
  have hmr : mr = mr0 l1.toNat := by have := (hP.2.2.2.2.2.2 l1.toNat hf).1; omega
  subst hmr
  have h74 : ∀ k : Nat, (k : Int) < σ 70 (l1.toNat : Nat) → 0 ≤ σ 74 (16 * ((l1.toNat : Nat) : Int) + k) := fun k hk => by
    obtain ⟨cx, pn, cnt, mm, A, B, ⟨_, _, _, _, _, b9, _⟩, h2, _⟩ := hX.2.2.1 l1.toNat hf
    exact (b9 k (by omega)).2.1
  have hr := RT_of (un := false) hP.1 hP.2.1.1 hP.2.2.2.1 hf h74 (mr0 l1.toNat) (by omega)
  have hDX' := hDX
  rw [ef] at hDX'
  have hr' := hr
  rw [ef] at hr'
  refine cF_unguarded hDX' hfu (fun w hw => (hr' w hw).2.2.1) (fun M π h1 h2 _ hMK => ?_)
  obtain ⟨kk, N', hgr⟩ := gr_ex (σ := σ) (m := m) (R := RR σ (l1.toNat : Nat) (Vs (l1.toNat : Nat)) false (mr0 l1.toNat)) (way := 0) _ π (Nat.le_refl _)
  have := cP_drc (Q := fun x9 H7 G8 => (((x9 : Int) = 0 → Q (-3) H7 G8) ∧ (¬ ((x9 : Int) = 0) → (e3_ob G8 5 (H7 16 1)) ∧ (wE_hasNone (fun x12 H10 G11 => (((x12 : Int) = 0 → (wP_missing_52 Q 0 H10 G11)) ∧ (¬ ((x12 : Int) = 0) → (wP_missing_52 Q 1 H10 G11)))) (H7 16 1) H7 G8)))) (f := l1.toNat) (w := 0) (N' := N') (π := π) (M := M) hP hX hM h8 hf h1 (by rw [ef]; exact h2) hgr (by rw [ef]; exact hMK) (fun hn K G2 d1 d2 d3 d4 d5 d6 => brF (by decide) ?_) (fun _ K G2 d1 d2 d3 d6 => brT rfl (hQ _ K G2 ⟨d1, d2, MKR_D hM d3 d1, C8_D hX h8 d1, d6⟩))
  · rw [ef] at this
    exact this
  · have fin := fun x => hQ x K G2 ⟨d1, d2, MKR_D hM d3 d1, C8_D hX h8 d1, d6⟩
    exact ⟨ga_ob (c := 5) d3.1.2.1, zE_hasNone d5 (fun x => ⟨fun _ => fin _, fun _ => fin _⟩)⟩
end CRN
