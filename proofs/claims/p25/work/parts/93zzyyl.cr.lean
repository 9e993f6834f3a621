/-- the rules of a FUNCTION, in the class, as trying them needs them -/
def BR1 (σ : e3_H) (m : Nat) (f r k fu : Int) (V : Int → List (Int × Int)) (K0 : e3_H) (G : e3_G) : Prop := ∃ (g : e3_H) (cnt lo hi ru : Int) (L : List Int), 0 ≤ lo ∧ (∀ K, fr5 K0 K → PTX σ m r ru g cnt lo hi K G ∧ K (K fu 4) k = ru ∧ K ru 2 = c_lk g (σ 72 r) ∧ c_sk ru K G ∧ c_gd σ r K ru ∧ K ru 0 = r % 16) ∧ (ach σ (σ 72 r) L ∧ L.length ≤ 3 ∧ wp σ L = σ 74 r ∧ σ 74 r ≤ 40) ∧ (∀ (j : Nat) (c : Int), L[j]? = some c → (lo ≤ c ∧ c < hi) ∧ wt σ 6 hi c ∧ (∃ e : Int, sn σ 6 c e) ∧ (j : Int) < σ 68 f ∧ σ 47 c = σ 69 (3 * f + (j : Int))) ∧ (∀ w : Int, 0 ≤ w → w < σ 74 r → lyC (lyV σ 6) σ L w 1 (V w) ∧ VQ σ f (V w) ∧ NV1 σ r (V w)) ∧ GDP σ r
def BRX (σ : e3_H) (m : Nat) (f : Nat) (fu : Int) (mr : Nat) (Vs : Int → Int → List (Int × Int)) (K0 : e3_H) (G : e3_G) : Prop := mr ≤ 16 ∧ (∀ K, fr5 K0 K → (139 ≤ fu ∧ g_at G fu (108, 11)) ∧ K fu 3 = (mr : Int) ∧ (139 ≤ K fu 4 ∧ g_at G (K fu 4) (5, 16)) ∧ VR K) ∧ ∀ k : Nat, k < mr → BR1 σ m f (16 * (f : Int) + k) k fu (Vs k) K0 G
/-- the log is not too long -/
def LBn (L : List Int) (n : Nat) : Prop := (L.length : Int) + (n : Int) ≤ 1000000
theorem LBn_0 {L : List Int} {n : Nat} (h : LBn L n) : (L.length : Int) ≤ 1000000 := Int.le_trans (show (L.length : Int) ≤ (L.length : Int) + (n : Int) by omega) h
theorem LBn_s {L : List Int} {n : Nat} (h : LBn L (n + 1)) : LBn L n := Int.le_trans (show (L.length : Int) + (n : Int) ≤ (L.length : Int) + ((n + 1 : Nat) : Int) by omega) h
theorem LBn_c {L : List Int} {n : Nat} {e : Int} (h : LBn L (n + 1)) : LBn (L ++ [e]) n := by
  refine Int.le_trans ?_ h
  rw [List.length_append]
  show ((L.length + 1 : Nat) : Int) + (n : Int) ≤ (L.length : Int) + ((n + 1 : Nat) : Int)
  omega
theorem fr5_6 {H K K2 : e3_H} (h : fr5 H K) (h2 : fr6 K K2) : fr5 H K2 := fun a x h1 h3 h4 h5 => (h2 a x h3).trans (h a x h1 h3 h4 h5)
theorem SCo_g {σ H : e3_H} {fu n3 x e : Int} {L : List Int} {K2 : e3_H} {o : a_SO} (h : SCo σ H fu n3 (L ++ [e]) o x K2) : SCo σ H fu n3 L (o.1, o.2.1, o.2.2.1, e :: o.2.2.2.1, o.2.2.2.2) x K2 := by
  obtain ⟨s1, s2, s3, s4⟩ := h
  refine ⟨s1, s2, ?_, s4⟩
  show LGC (L ++ (e :: o.2.2.2.1)) K2
  rw [List.append_assoc] at s3
  exact s3
section CBR
variable {Q : Int → e3_H → e3_G → Prop} {σ K0 M : e3_H} {G : e3_G} {m : Nat} {fu n3 : Int} {f mr : Nat} {Vs : Int → Int → List (Int × Int)}
/-- what fits whole fits in NAMES -/
theorem fit_ok {r : Int} {V : List (Int × Int)} (hT : TV σ m M) (hcol : ∀ i : Int, 0 ≤ i → i < σ 68 f → oks M (M 135 i) (σ 69 (3 * (f : Int) + i))) (hq : VQ σ f V) (hn : NV1 σ r V) (ha : afit σ M V) : (∀ p, p ∈ V → oks M (vt M p.2) (σ 47 p.1)) ∧ ∀ n : Nat, (n : Int) < σ 56 r → oks M (nB σ M V n) (σ 58 (8 * r + n)) := by
  have h1 : ∀ p, p ∈ V → oks M (vt M p.2) (σ 47 p.1) := fun p hp => by
    obtain ⟨A, B, e⟩ := List.append_of_mem hp
    exact vis_ok hT hcol hq (A.length + 1) A p B (by omega) e (fun a ha' => ha a (by rw [e]; exact List.mem_append_left _ ha'))
  exact ⟨h1, fun n hn' => nB_ok hn h1 n hn'⟩
/-- rule after rule, in the class -/
theorem vS_br (hX : BRX σ m f fu mr Vs K0 G) (hT : TV σ m M) (hcol : ∀ i : Int, 0 ≤ i → i < σ 68 f → oks M (M 135 i) (σ 69 (3 * (f : Int) + i))) (hTK : ∀ K, fr5 K0 K → TV σ m (h35 K) ∧ (h35 K) 28 = M 28 ∧ (∀ x : Int, vt (h35 K) x = vt M x) ∧ (∀ i : Int, 0 ≤ i → i < σ 68 f → oks (h35 K) (h35 K 135 i) (σ 69 (3 * (f : Int) + i))) ∧ ∀ a k : Int, a = 26 ∨ a = 27 ∨ a = 28 → M a k = K a k) (h56 : ∀ k : Nat, k < mr → σ 56 (16 * (f : Int) + k) ≤ 8) (h5 : K0 34 5 = (f : Int) ∧ f < 12) (h26 : K0 26 1 ≤ 160) (h3 : K0 37 3 = n3) : ∀ (n k : Nat) (K : e3_H) (L : List Int), k + n = mr → frS K0 K → K 37 0 = K0 37 0 → K 37 3 = n3 → LGC L K → LBn L n → (∀ x K2, SCo σ K0 fu n3 L (sr σ M Vs f n k) x K2 → Q x K2 G) → wS_byRules_2 Q (n + 1) fu (k : Int) K G := by
  obtain ⟨m16, hB, hR⟩ := hX
  intro n
  induction n with
  | zero =>
    intro k K L hk fK h0 h3K hL hLn hQ
    obtain ⟨⟨b1, b2⟩, b3, b4, _⟩ := hB K fK.1
    refine ⟨ga_ob (c := 8) b2, brF (by rw [b3]; omega) (fun H1 e1 H2 e2 => ?_)⟩
    obtain ⟨a1, a2, a3, a4, a5, a6, a7⟩ := end_fr e1 e2
    refine hQ (-1) H2 ⟨frS_tr fK a1, ?_, ?_, Or.inr (Or.inl ⟨Or.inl rfl, rfl, a2, a3⟩)⟩
    · show H2 37 3 = n3 + ((0 : Nat) : Int)
      rw [a4, h3K]
      omega
    · show LGC (L ++ []) H2
      rw [List.append_nil]
      exact LGC_eq hL a5 (a6 9) a7
  | succ n ih =>
    intro k K L hk fK h0 h3K hL hLn hQ
    obtain ⟨⟨b1, b2⟩, b3, ⟨b4, b5⟩, _⟩ := hB K fK.1
    obtain ⟨g, cnt, lo, hi, ru, LL, r0, r1, ⟨r2, r3, r4, r5⟩, r6, r7, r8⟩ := hR k (by omega)
    have h56k := h56 k (by omega)
    obtain ⟨t1, t2, t3, t4, t5⟩ := hTK K fK.1
    have o := ga_ob (c := 8) b2
    have em : (16 * (f : Int) + (k : Int)) % 16 = (k : Int) := by omega
    obtain ⟨_, s2, s3, _⟩ := r1 K fK.1
    refine ⟨o, brT (by rw [b3]; omega) ⟨o, ga_oa b5 (by omega) (by omega), ?_⟩⟩
    rw [s2]
    have ek1 : e3_w32 ((k : Int) + 1) = ((k + 1 : Nat) : Int) := by rw [e3_w32_id (by omega) (by omega)]; omega
    have hpos : ∀ y : Int, lo ≤ y → y < hi → 1 ≤ σ 55 y := fun y y0 y1 => by
      obtain ⟨_, _, _, _, u2, u3⟩ := ((r1 K fK.1).1).2.1 y y0 y1
      split at u3 <;> omega
    have cx : ∀ V : List (Int × Int), afit σ (h35 K) V ↔ afit σ M V := fun V => afit_cg t2 t3 V
    have e74 : (((σ 74 (16 * (f : Int) + k)).toNat : Nat) : Int) = σ 74 (16 * (f : Int) + k) := by
      have := wp_1 LL (fun c hc => by
        obtain ⟨j, hj⟩ := List.getElem?_of_mem hc
        obtain ⟨u1, _⟩ := r6 j c hj
        exact hpos c u1.1 u1.2)
      omega
    have un : ∀ (w : Int) (V : List (Int × Int)), 0 ≤ w → w < σ 74 (16 * (f : Int) + k) → lyC (lyV σ 6) σ LL w 1 V → V = Vs k w := fun w V w0 w1 v => by
      refine lyC_un LL w 1 V (Vs k w) (fun c hc w x V V' v1 v2 => ?_) v (r7 w w0 w1).1
      obtain ⟨j, hj⟩ := List.getElem?_of_mem hc
      obtain ⟨u1, u2, _⟩ := r6 j c hj
      exact lyV_uq (lo := lo) hpos r0 6 c w x V V' u2 u1.1 v1 v2
    refine vS_patternsFit (H0 := K) (m := m) (r := 16 * (f : Int) + k) (L := LL) (f := (f : Int)) (lo := lo) (hi := hi) (g := g) (cnt := cnt) (fun K' h => (r1 K' (fr5_6 fK.1 h)).1) r0 t1 s3 r2 r3 (by rw [r4]; exact r5) r6 t4 (fun w V K2 hl f2 nm => brF (by decide) ?_) (fun hn K2 f2 => brT rfl ?_)
    · -- the patterns fit
      obtain ⟨l1, l2, l3, l4⟩ := hl
      rw [r4] at l1
      have eV := un w V l1.1 l1.2 l2
      subst eV
      obtain ⟨_, v2, v3⟩ := r7 w l1.1 l1.2
      have hlw : lw σ M (Vs k) (σ 74 (16 * (f : Int) + k)).toNat 0 = some w := lw_some ((cx _).mp l3) _ 0 l1.1 (by omega) (fun w' w0 w1 ha => l4 w' (Vs k w') w0 w1 (r7 w' w0 (by omega)).1 ((cx _).mpr ha))
      have hsr := sr_s (n := n) hlw
      have hfa := (cx _).mp l3
      obtain ⟨o1, o2⟩ := fit_ok hT hcol v2 v3 hfa
      have f2' : fr5 K0 K2 := fr5_6 fK.1 f2
      have g2 : frS K0 K2 := ⟨f2', fun x h1 h2 => (f2 34 x (by decide)).trans (fK.2.1 x h1 h2), fun x h1 h2 h3 h4 => (f2 37 x (by decide)).trans (fK.2.2 x h1 h2 h3 h4)⟩
      have nmB : ∀ t : Int, 0 ≤ t → t < σ 56 (16 * (f : Int) + k) → K2 36 t = nB σ M (Vs k w) t := fun t t0 t1' => by
        have et : ((t.toNat : Nat) : Int) = t := by omega
        rw [nm t t0 (by omega), ← nB_cg t3 (Vs k w)]
        have hv := v3.1 t.toNat (by omega)
        rw [et] at hv
        exact nmf_ix (Vs k w) _ _ hv
      have L2 : LGC L K2 := LGC_eq hL (f2 37 4 (by decide)) (f2 34 9 (by decide)) (fun x => f2 38 x (by decide))
      obtain ⟨_, _, _, u4, u5, u6⟩ := r1 K2 f2'
      obtain ⟨_, _, _, _, t52⟩ := hTK K2 f2'
      have ex : K0 (K0 fu 4) ((16 * (f : Int) + (k : Int)) % 16) = ru := by
        rw [em]
        exact (r1 K0 (fun _ _ _ _ _ _ => rfl)).2.1
      refine vS_gl2 (B := nB σ M (Vs k w)) (M := M) (f := (f : Int)) (L := L) u4 h56k u5 u6 (hB K2 f2').2.2.2 (by rw [f2' 26 1 (by decide) (by decide) (by decide) (by decide)]; exact h26) r8 nmB o2 t52 ⟨by rw [g2.2.1 5 (by decide) (by decide)]; exact h5.1, by omega, by have := h5.2; omega⟩ L2 (LBn_0 hLn) (fun z K3 e3 => brF (by decide) (hQ ru K3 ?_)) (fun z z2 K3 p1 p2 p3 pL p6 p0 pr => brT rfl (brF (by rw [p6]; decide) (hQ (-1) K3 ?_))) (fun z z2 K3 p1 p2 p3 pL p6 => ?_)
      · rw [hsr, if_pos z]
        have q : ∀ a x : Int, ¬ (a = 34 ∧ x = 6) → K3 a x = K2 a x := e3
        refine ⟨frS_tr g2 ⟨fun a x h1 _ _ _ => q a x (ne_1 h1), fun x h1 _ => q 34 x (ne_2 h1), fun x _ _ _ _ => q 37 x (ne_1 (by decide))⟩, ?_, ?_, Or.inl ⟨rfl, ex.symm, fun t t0 t1' => by rw [q 36 t (ne_1 (by decide))]; exact nmB t t0 t1', ?_⟩⟩
        · show K3 37 3 = n3 + ((0 : Nat) : Int)
          rw [q 37 3 (by decide), f2 37 3 (by decide), h3K]
          omega
        · show LGC (L ++ []) K3
          rw [List.append_nil]
          exact LGC_eq L2 (q 37 4 (by decide)) (q 34 9 (by decide)) (fun x => q 38 x (ne_1 (by decide)))
        · rw [q 37 0 (by decide), f2 37 0 (by decide)]; exact h0
      · rw [hsr, if_neg z, if_neg (by rw [z2]; decide), if_pos z2]
        rw [em] at pL pr
        refine ⟨frS_tr g2 ⟨fun a x h1 _ h2 h3 => p1 a x h1 h2 h3, fun x h1 h2 => p2 x h1 h2, fun x h1 _ h2 h3 => p3 x h1 h2 h3⟩, ?_, pL, Or.inr (Or.inr ⟨rfl, rfl, p0, ?_⟩)⟩
        · show K3 37 3 = n3 + ((0 : Nat) : Int)
          rw [p3 3 (by decide) (by decide) (by decide), f2 37 3 (by decide), h3K]
          omega
        · show K3 37 6 = (16 * (f : Int) + (k : Int)) % 16
          rw [em]
          exact pr
      · rw [em] at pL
        have g3 : frS K0 K3 := frS_tr g2 ⟨fun a x h1 _ h2 h3 => p1 a x h1 h2 h3, fun x h1 h2 => p2 x h1 h2, fun x _ _ h2 _ => p3 x h2⟩
        have w3 : K3 37 3 = n3 := by rw [p3 3 (by decide), f2 37 3 (by decide)]; exact h3K
        have w0 : K3 37 0 = K0 37 0 := by rw [p3 0 (by decide), f2 37 0 (by decide)]; exact h0
        by_cases u1 : gdv σ (tvp σ M (nB σ M (Vs k w))) (16 * (f : Int) + k) = 1
        · rw [u1]
          refine brF (by decide) (hQ ru K3 ?_)
          rw [hsr, if_neg z, if_pos u1]
          refine ⟨g3, ?_, pL, Or.inl ⟨rfl, ex.symm, fun t t0 t1' => by rw [p1 36 t (by decide) (by decide) (by decide)]; exact nmB t t0 t1', w0⟩⟩
          show K3 37 3 = n3 + ((0 : Nat) : Int)
          rw [w3]
          omega
        · have u0 : gdv σ (tvp σ M (nB σ M (Vs k w))) (16 * (f : Int) + k) = 0 := by
            rcases gdv_cs σ (tvp σ M (nB σ M (Vs k w))) (16 * (f : Int) + k) with h | h | h
            · exact h
            · exact absurd h u1
            · exact absurd h z2
          rw [u0]
          refine brT rfl (brT p6 ?_)
          show wS_byRules_2 Q (n + 1) fu (e3_w32 ((k : Int) + 1)) K3 G
          rw [ek1]
          refine ih (k + 1) K3 (L ++ [100 * (f : Int) + k]) (by omega) g3 w0 w3 pL (LBn_c hLn) (fun x K4 hs => hQ x K4 ?_)
          rw [hsr, if_neg z, if_neg u1, if_neg z2]
          rw [show ((k + 1 : Nat) : Int) = (k : Int) + 1 by omega] at hs
          exact SCo_g hs
    · -- they do not
      have hlw : lw σ M (Vs k) (σ 74 (16 * (f : Int) + k)).toNat 0 = none := lw_none _ 0 (fun w' w0 w1 ha => hn w' (Vs k w') w0 (by rw [r4]; omega) (r7 w' w0 (by omega)).1 ((cx _).mpr ha))
      show wS_byRules_2 Q (n + 1) fu (e3_w32 ((k : Int) + 1)) K2 G
      rw [ek1]
      refine ih (k + 1) K2 L (by omega) ⟨fr5_6 fK.1 f2, fun x h1 h2 => (f2 34 x (by decide)).trans (fK.2.1 x h1 h2), fun x h1 h2 h3 h4 => (f2 37 x (by decide)).trans (fK.2.2 x h1 h2 h3 h4)⟩ ((f2 37 0 (by decide)).trans h0) ((f2 37 3 (by decide)).trans h3K) (LGC_eq hL (f2 37 4 (by decide)) (f2 34 9 (by decide)) (fun x => f2 38 x (by decide))) (LBn_s hLn) (fun x K4 hs => hQ x K4 ?_)
      rw [show ((k + 1 : Nat) : Int) = (k : Int) + 1 by omega] at hs
      rw [sr_n hlw]
      exact hs
end CBR
