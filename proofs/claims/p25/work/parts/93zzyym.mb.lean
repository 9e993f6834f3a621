theorem SMo_g {σ H : e3_H} {n3 x e : Int} {L : List Int} {K2 : e3_H} {o : a_SO} (h : SMo σ H n3 (L ++ [e]) o x K2) : SMo σ H n3 L (o.1, o.2.1, o.2.2.1, e :: o.2.2.2.1, o.2.2.2.2) x K2 := by
  obtain ⟨s1, s2, s3, s4⟩ := h
  refine ⟨s1, s2, ?_, s4⟩
  show LGM (L ++ (e :: o.2.2.2.1)) K2
  rw [List.append_assoc] at s3
  exact s3
section MBR
variable {Q : Int → e3_H → e3_G → Prop} {σ M : e3_H} {G : e3_G} {m : Nat}
/-- what trying ways needs of the reference -/
def BMX (σ M : e3_H) (m : Nat) (f c : Int) (K : e3_H) : Prop := tb σ K ∧ TV σ m K ∧ (K 26 1 ≤ 160 ∧ K 26 1 = c) ∧ (∀ i : Int, 0 ≤ i → i < σ 68 f → oks K (K 135 i) (σ 69 (3 * f + i))) ∧ K 28 = M 28 ∧ ∀ x : Int, vt K x = vt M x
/-- way after way of a rule, in the reference -/
theorem nM_22 {k5 : Int → Int → e3_H → e3_G → Prop} {f k c : Int} {V : Int → List (Int × Int)} {K1 : e3_H} (hf : 0 ≤ f ∧ f < 12) (hk : 0 ≤ k ∧ k < 16) (h68 : 1 ≤ σ 68 f ∧ σ 68 f ≤ 3) (hR : zRl σ f k V) (hVQ : ∀ w : Int, 0 ≤ w → w < σ 74 (16 * f + k) → VQ σ f (V w)) (hK : ∀ K, zB K1 K → BMX σ M m f c K) (h74 : 0 ≤ σ 74 (16 * f + k) ∧ σ 74 (16 * f + k) ≤ 40)
    (hyes : ∀ (w : Int) (K2 : e3_H), lw σ M V (σ 74 (16 * f + k)).toNat 0 = some w → (0 ≤ w ∧ w < σ 74 (16 * f + k)) → afit σ M (V w) → zB K1 K2 → z6 c K2 → (∀ i : Int, 0 ≤ i → i < 8 → (∃ p, p ∈ V w ∧ (σ 53 p.1 = i ∨ σ 54 p.1 = i)) → K2 136 i = nB σ M (V w) i) → wM_byRules_47 Q k5 f (16 * f + k) w K2 G)
    (hno : lw σ M V (σ 74 (16 * f + k)).toNat 0 = none → ∀ K2 : e3_H, zB K1 K2 → z6 c K2 → wM_byRules_47 Q k5 f (16 * f + k) (σ 74 (16 * f + k)) K2 G) : ∀ (d : Nat) (w : Int) (K : e3_H), 0 ≤ w → w + (d : Int) = σ 74 (16 * f + k) → (∀ w' : Int, 0 ≤ w' → w' < w → ¬ afit σ M (V w')) → zB K1 K → z6 c K → wM_byRules_22 Q k5 (d + 1) f (16 * f + k) w K G := by
  have ir : (0 : Int) ≤ 16 * f + k ∧ 16 * f + k < 192 := by omega
  have e74 : (((σ 74 (16 * f + k)).toNat : Nat) : Int) = σ 74 (16 * f + k) := by omega
  intro d
  induction d with
  | zero =>
    intro w K w0 hd hn bK sK
    obtain ⟨t1, _⟩ := hK K bK
    have ew : w = σ 74 (16 * f + k) := by omega
    refine ⟨ir, brF (by rw [t1 74 _ (by decide) (by decide) (by decide)]; omega) ?_⟩
    rw [ew]
    exact hno (lw_none _ 0 (fun w' y0 y1 => hn w' y0 (by omega))) K bK sK
  | succ d ih =>
    intro w K w0 hd hn bK sK
    obtain ⟨t1, t2, ⟨t3, t4⟩, t5, t6, t7⟩ := hK K bK
    have hwl : w < σ 74 (16 * f + k) := by omega
    have cx : afit σ K (V w) ↔ afit σ M (V w) := afit_cg t6 t7 (V w)
    refine ⟨ir, brT (by rw [t1 74 _ (by decide) (by decide) (by decide)]; exact hwl) (nM_binds0 (f := f) (k := k) (w := w) (V := V) (m := m) hf hk h68 hR ⟨w0, hwl⟩ t1 t2 t3 t5 (hVQ w w0 hwl) (fun ha K2 b2 n2 => brF (by decide) ?_) (fun ha K2 A B eA hA b2 n2 => brT rfl ?_))⟩
    · have hfa := cx.mp ha
      refine hyes w K2 (lw_some hfa _ 0 w0 (by omega) hn) ⟨w0, hwl⟩ hfa (zB_tr bK b2) (fun i i0 i1 => ?_) (fun i i0 i1 hi => ?_)
      · rw [n2 i i0 i1]
        refine nmf_z6 (V w) (K 136) sK (fun p hp => ?_) i i0 i1
        obtain ⟨A, B, e⟩ := List.append_of_mem hp
        have := (vis_ok t2 t5 (hVQ w w0 hwl) (A.length + 1) A p B (by omega) e (fun a ha' => ha a (by rw [e]; exact List.mem_append_left _ ha'))).1
        exact ⟨this.1, by rw [← t4]; exact this.2⟩
      · rw [n2 i i0 i1, nmf_ix (V w) (K 136) (fun _ => 0) hi, ← nB_cg t7 (V w)]
        rfl
    · have hfa : ¬ afit σ M (V w) := fun z => ha (cx.mpr z)
      rw [e3_w32_id (x := w + 1) (by omega) (by omega)]
      refine ih (w + 1) K2 (by omega) (by omega) (fun w' y0 y1 => ?_) (zB_tr bK b2) (fun i i0 i1 => ?_)
      · by_cases z : w' = w
        · rw [z]; exact hfa
        · exact hn w' y0 (by omega)
      · rw [n2 i i0 i1]
        refine nmf_z6 A (K 136) sK (fun p hp => ?_) i i0 i1
        obtain ⟨A1, A2, e⟩ := List.append_of_mem hp
        have e2 : V w = A1 ++ p :: (A2 ++ B) := by rw [eA, e, List.append_assoc]; rfl
        have := (vis_ok t2 t5 (hVQ w w0 hwl) (A1.length + 1) A1 p (A2 ++ B) (by omega) e2 (fun a ha' => hA a (by rw [e]; exact List.mem_append_left _ ha'))).1
        exact ⟨this.1, by rw [← t4]; exact this.2⟩
/-- rule after rule, in the reference -/
theorem nM_br {f mr : Nat} {n3 : Int} {Vs : Int → Int → List (Int × Int)} {K0 : e3_H} (hf : f < 12) (h68 : 1 ≤ σ 68 f ∧ σ 68 f ≤ 3) (h70 : σ 70 f = (mr : Int) ∧ mr ≤ 16) (hZ : ∀ k : Nat, k < mr → zRl σ f k (Vs k) ∧ (0 ≤ σ 56 (16 * (f : Int) + k) ∧ σ 56 (16 * (f : Int) + k) ≤ 8) ∧ GDP σ (16 * (f : Int) + k) ∧ (0 ≤ σ 74 (16 * (f : Int) + k) ∧ σ 74 (16 * (f : Int) + k) ≤ 40) ∧ ∀ w : Int, 0 ≤ w → w < σ 74 (16 * (f : Int) + k) → VQ σ f (Vs k w) ∧ NV1 σ (16 * (f : Int) + k) (Vs k w)) (hT : TV σ m M) (hcol : ∀ i : Int, 0 ≤ i → i < σ 68 f → oks M (M 135 i) (σ 69 (3 * (f : Int) + i))) (hTK : ∀ K, zT K0 K → BMX σ M m f (K0 40 109) K ∧ ∀ v : Int, K 129 v = M 129 v) : ∀ (n k : Nat) (K : e3_H) (L : List Int), k + n = mr → zT K0 K → z6 (K0 40 109) K → (K 40 119 = K0 40 119 ∧ K 40 125 = K0 40 125) → K 40 122 = n3 → LGM L K → LBn L n → (∀ x K2, SMo σ K0 n3 L (sr σ M Vs f n k) x K2 → Q x K2 G) → wM_byRules_5 Q (n + 1) f (16 * (f : Int) + k) K G := by
  intro n
  induction n with
  | zero =>
    intro k K L hk fK sK h06 h122 hL hLn hQ
    obtain ⟨⟨t1, _⟩, _⟩ := hTK K fK
    have e70 : K 70 (f : Int) = (mr : Int) := (t1 70 _ (by decide) (by decide) (by decide)).trans h70.1
    refine ⟨⟨by omega, by omega⟩, brF ?_ (fun H2 e2 => hQ (-4) H2 ⟨⟨by rw [e2]; exact zT_up fK (by omega), by rw [e2]; exact z6_up sK (Or.inl (by decide))⟩, ?_, ?_, Or.inr (Or.inl ⟨Or.inl rfl, rfl, ?_, ?_⟩)⟩)⟩
    · rw [e70, e3_w32_id (x := 16 * (f : Int)) (by omega) (by omega), e3_w32_id (x := 16 * (f : Int) + (mr : Int)) (by omega) (by omega)]
      omega
    · show H2 40 122 = n3 + ((0 : Nat) : Int)
      rw [e2, e3_up_ne (by decide), h122]
      omega
    · show LGM (L ++ []) H2
      rw [List.append_nil]
      exact LGM_eq hL (by rw [e2, e3_up_ne (by decide)]) (fun x => by rw [e2, e3_up_ne (ne_1 (by decide))])
    · rw [e2, e3_up_self]; rfl
    · rw [e2, e3_up_ne (by decide)]; exact h06.2
  | succ n ih =>
    intro k K L hk fK sK h06 h122 hL hLn hQ
    obtain ⟨⟨t1, _⟩, _⟩ := hTK K fK
    have e70 : K 70 (f : Int) = (mr : Int) := (t1 70 _ (by decide) (by decide) (by decide)).trans h70.1
    obtain ⟨z1, z2, z3, z4, z5⟩ := hZ k (by omega)
    have hl0 : (0 : Int) ≤ (L.length : Int) := Int.natCast_nonneg _
    have ir : (0 : Int) ≤ 16 * (f : Int) + k ∧ 16 * (f : Int) + k < 192 := by omega
    have er : (16 * (f : Int) + (k : Int)) / 16 = (f : Int) ∧ (16 * (f : Int) + (k : Int)) % 16 = (k : Int) := by omega
    have next : ∀ (L2 : List Int) (K2 : e3_H), zT K0 K2 → z6 (K0 40 109) K2 → (K2 40 119 = K0 40 119 ∧ K2 40 125 = K0 40 125) → K2 40 122 = n3 → LGM L2 K2 → LBn L2 n → (∀ x K3, SMo σ K0 n3 L2 (sr σ M Vs f n ((k : Int) + 1)) x K3 → Q x K3 G) → wM_byRules_110 Q (fun l1 l2 H G => wM_byRules_5 Q (n + 1) l1 l2 H G) f (16 * (f : Int) + k) K2 G := fun L2 K2 a1 a2 a3 a4 a5 a6 a7 => by
      show wM_byRules_5 Q (n + 1) f (e3_w32 (16 * (f : Int) + (k : Int) + 1)) K2 G
      have ek1 : e3_w32 (16 * (f : Int) + (k : Int) + 1) = 16 * (f : Int) + ((k + 1 : Nat) : Int) := by rw [e3_w32_id (by omega) (by omega)]; omega
      rw [ek1]
      clear ek1
      refine ih (k + 1) K2 L2 (by omega) a1 a2 a3 a4 a5 a6 (fun x K3 hs => a7 x K3 ?_)
      rw [show ((k + 1 : Nat) : Int) = (k : Int) + 1 by omega] at hs
      exact hs
    have f12 : (0 : Int) ≤ (f : Int) ∧ (f : Int) < 12 := ⟨Int.natCast_nonneg _, Int.ofNat_lt.mpr hf⟩
    have k16 : (0 : Int) ≤ (k : Int) ∧ (k : Int) < 16 := by omega
    have e74 : 0 + (((σ 74 (16 * (f : Int) + k)).toNat : Nat) : Int) = σ 74 (16 * (f : Int) + k) := by rw [Int.zero_add]; exact Int.toNat_of_nonneg z4.1
    have hlt : (16 * (f : Int) + (k : Int)) < e3_w32 (e3_w32 (16 * (f : Int)) + K 70 (f : Int)) := by
      rw [e70, e3_w32_id (x := 16 * (f : Int)) (by omega) (by omega), e3_w32_id (x := 16 * (f : Int) + (mr : Int)) (by omega) (by omega)]
      omega
    have hyes : ∀ (w : Int) (K2 : e3_H), lw σ M (Vs k) (σ 74 (16 * (f : Int) + k)).toNat 0 = some w → (0 ≤ w ∧ w < σ 74 (16 * (f : Int) + k)) → afit σ M (Vs k w) → zB K K2 → z6 (K0 40 109) K2 → (∀ i : Int, 0 ≤ i → i < 8 → (∃ p, p ∈ Vs k w ∧ (σ 53 p.1 = i ∨ σ 54 p.1 = i)) → K2 136 i = nB σ M (Vs k w) i) → wM_byRules_47 Q (fun l1 l2 H G => wM_byRules_5 Q (n + 1) l1 l2 H G) f (16 * (f : Int) + k) w K2 G := fun w K2 hlw hw hfa b2 s2 nm => by
      have f2 : zT K0 K2 := zT_tr fK (zT_B b2)
      obtain ⟨⟨u1, u2, ⟨u3, u4⟩, u5, u6, u7⟩, u8⟩ := hTK K2 f2
      obtain ⟨v2, v3⟩ := z5 w hw.1 hw.2
      obtain ⟨o1, o2⟩ := fit_ok hT hcol v2 v3 hfa
      have hsr := sr_s (n := n) hlw
      have x119 : K2 40 119 = K0 40 119 := (b2.2 119 (by decide)).trans h06.1
      have x125 : K2 40 125 = K0 40 125 := (b2.2 125 (by decide)).trans h06.2
      have x122 : K2 40 122 = n3 := (b2.2 122 (by decide)).trans h122
      have L2 : LGM L K2 := LGM_eq hL (b2.2 123 (by decide)) (fun x => b2.1 137 x (by decide) (by decide) (by decide))
      have nmB : ∀ t : Int, 0 ≤ t → t < σ 56 (16 * (f : Int) + k) → K2 136 t = nB σ M (Vs k w) t := fun t t0 t1' => by
        have et : ((t.toNat : Nat) : Int) = t := by omega
        have hv := v3.1 t.toNat (by omega)
        rw [et] at hv
        exact nm t t0 (by omega) hv
      refine ⟨ir, brF (by rw [u1 74 _ (by decide) (by decide) (by decide)]; omega) ⟨ir, ?_⟩⟩
      rw [u1 78 _ (by decide) (by decide) (by decide)]
      refine ⟨fun z => brF (by decide) (brT rfl (hQ _ K2 ?_)), fun z => ?_⟩
      · rw [hsr, if_pos z]
        refine ⟨⟨f2, s2⟩, ?_, ?_, Or.inl ⟨rfl, rfl, nmB, x119, x125⟩⟩
        · show K2 40 122 = n3 + ((0 : Nat) : Int)
          rw [x122]
          omega
        · show LGM (L ++ []) K2
          rw [List.append_nil]
          exact L2
      · obtain ⟨w1, w2⟩ := z1.2 z
        have hgm := gd_m (K := K2) (M := M) z3 z nmB (fun t t0 t1' t2 => by
          have et : ((t.toNat : Nat) : Int) = t := by omega
          have ho := o2 t.toNat (by omega)
          rw [et, t2] at ho
          have w27 := (oks_wh hT ho).1 (by decide)
          have := ((hT.1.2 _ ho.1.1 ho.1.2).2.1 (by omega)).1
          rw [u8]
          exact this.symm)
        refine nM_guarded (c := K0 40 109) (n := K2 40 123) u1 (by omega) s2 ir w1 w2 ⟨rfl, by rw [L2.1]; exact hl0, by rw [L2.1]; exact LBn_0 hLn⟩ ?_
        rw [hgm, er.1, er.2]
        have L4 := LGM_psh (v := 100 * (f : Int) + (k : Int)) L2
        have f4 : zT K0 (lgM (K2 40 123) (100 * (f : Int) + (k : Int)) K2) := zT_lg f2
        have q : ∀ a x : Int, a ≠ 137 → ¬ (a = 40 ∧ x = 123) → lgM (K2 40 123) (100 * (f : Int) + (k : Int)) K2 a x = K2 a x := fun a x h1 h2 => lgM_ne h1 h2
        have s4 : z6 (K0 40 109) (lgM (K2 40 123) (100 * (f : Int) + (k : Int)) K2) := fun i i0 i1 => by rw [q 136 i (by decide) (by omega)]; exact s2 i i0 i1
        revert L4 f4 q s4
        generalize lgM (K2 40 123) (100 * (f : Int) + (k : Int)) K2 = K4
        intro L4 f4 q s4
        by_cases y2 : gdv σ (tvp σ M (nB σ M (Vs k w))) (16 * (f : Int) + k) = 2
        · rw [y2]
          refine brT rfl (fun H1 e1 => ⟨by decide, fun H2 e2 => hQ _ H2 ?_⟩)
          rw [e3_rem_id ⟨by omega, by omega⟩ (by decide), er.2] at e2
          rw [hsr, if_neg z, if_neg (by rw [y2]; decide), if_pos y2]
          refine ⟨⟨by rw [e2, e1]; exact zT_up (zT_up f4 (by omega)) (by omega), by rw [e2, e1]; exact z6_up (z6_up s4 (Or.inl (by decide))) (Or.inl (by decide))⟩, ?_, ?_, Or.inr (Or.inr ⟨rfl, rfl, ?_, ?_⟩)⟩
          · show H2 40 122 = n3 + ((0 : Nat) : Int)
            rw [e2, e3_up_ne (by decide), e1, e3_up_ne (by decide), q 40 122 (by decide) (by decide), x122]
            omega
          · exact LGM_eq L4 (by rw [e2, e3_up_ne (by decide), e1, e3_up_ne (by decide)]) (fun x => by rw [e2, e3_up_ne (ne_1 (by decide)), e1, e3_up_ne (ne_1 (by decide))])
          · rw [e2, e3_up_ne (by decide), e1, e3_up_self]
          · show H2 40 125 = (16 * (f : Int) + (k : Int)) % 16
            rw [e2, e3_up_self, er.2]
        · by_cases y1 : gdv σ (tvp σ M (nB σ M (Vs k w))) (16 * (f : Int) + k) = 1
          · rw [y1]
            refine brF (by decide) (brT rfl (hQ _ K4 ?_))
            rw [hsr, if_neg z, if_pos y1]
            refine ⟨⟨f4, s4⟩, ?_, L4, Or.inl ⟨rfl, rfl, fun t t0 t1' => by rw [q 136 t (by decide) (by omega)]; exact nmB t t0 t1', by rw [q 40 119 (by decide) (by decide)]; exact x119, by rw [q 40 125 (by decide) (by decide)]; exact x125⟩⟩
            show K4 40 122 = n3 + ((0 : Nat) : Int)
            rw [q 40 122 (by decide) (by decide), x122]
            omega
          · have y0 : gdv σ (tvp σ M (nB σ M (Vs k w))) (16 * (f : Int) + k) = 0 := by
              rcases gdv_cs σ (tvp σ M (nB σ M (Vs k w))) (16 * (f : Int) + k) with h | h | h
              · exact h
              · exact absurd h y1
              · exact absurd h y2
            rw [y0]
            refine brF (by decide) (brF (by decide) (next (L ++ [100 * (f : Int) + k]) K4 f4 s4 ⟨by rw [q 40 119 (by decide) (by decide)]; exact x119, by rw [q 40 125 (by decide) (by decide)]; exact x125⟩ (by rw [q 40 122 (by decide) (by decide)]; exact x122) L4 (LBn_c hLn) (fun x K3 hs => hQ x K3 ?_)))
            rw [hsr, if_neg z, if_neg y1, if_neg y2]
            exact SMo_g hs
    have hnone : lw σ M (Vs k) (σ 74 (16 * (f : Int) + k)).toNat 0 = none → ∀ K2 : e3_H, zB K K2 → z6 (K0 40 109) K2 → wM_byRules_47 Q (fun l1 l2 H G => wM_byRules_5 Q (n + 1) l1 l2 H G) f (16 * (f : Int) + k) (σ 74 (16 * (f : Int) + k)) K2 G := fun hlw K2 b2 s2 => by
      have f2 : zT K0 K2 := zT_tr fK (zT_B b2)
      obtain ⟨⟨u1, _⟩, _⟩ := hTK K2 f2
      refine ⟨ir, brT (by rw [u1 74 _ (by decide) (by decide) (by decide)]) (next L K2 f2 s2 ⟨(b2.2 119 (by decide)).trans h06.1, (b2.2 125 (by decide)).trans h06.2⟩ ((b2.2 122 (by decide)).trans h122) (LGM_eq hL (b2.2 123 (by decide)) (fun x => b2.1 137 x (by decide) (by decide) (by decide))) (LBn_s hLn) (fun x K3 hs => hQ x K3 ?_))⟩
      rw [sr_n hlw]
      exact hs
    have key := nM_22 (Q := Q) (G := G) (σ := σ) (M := M) (m := m) (k5 := (fun l1 l2 H G => wM_byRules_5 Q (n + 1) l1 l2 H G)) (f := (f : Int)) (k := (k : Int)) (c := K0 40 109) (V := Vs k) (K1 := K) f12 k16 h68 z1 (fun w w0 w1 => (z5 w w0 w1).1) (fun K' b' => (hTK K' (zT_tr fK (zT_B b'))).1) z4 hyes hnone (σ 74 (16 * (f : Int) + k)).toNat 0 K (Int.le_refl _) e74 (fun w' y0 y1 => absurd y1 (Int.not_lt.mpr y0)) (zB_rf K) sK
    exact ⟨f12, brT hlt ⟨(σ 74 (16 * (f : Int) + k)).toNat + 1, key⟩⟩
end MBR
