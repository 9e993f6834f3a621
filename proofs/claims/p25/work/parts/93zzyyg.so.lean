theorem rn_cg {σ M M2 : e3_H} {S : Int → (Int → Int) → a_SO} (h : M2 28 = M 28) : ∀ (n : Nat) (f : Int) (a : Int → Int) (c n3 : Int) (L : List Int) (fp : Int), rn σ M2 S n f a c n3 L fp = rn σ M S n f a c n3 L fp := by
  intro n
  induction n with
  | zero => intro f a c n3 L fp; rfl
  | succ n ih =>
    intro f a c n3 L fp
    conv => lhs; unfold rn
    conv => rhs; unfold rn
    simp only [h, ih]
/-- what told, guard and bound look at is alike -/
def E3s (H : e3_H) : Prop := (∃ o : a_RO, RCo o H ∧ RMo o H) ∧ (H 34 11 = H 40 128 ∧ 0 ≤ H 34 11 ∧ H 34 11 ≤ 8) ∧ ∀ k : Int, 0 ≤ k → k < H 34 11 → H 39 k = H 138 k
section ERN
variable {n : Nat} {H : e3_H} {G : e3_G} {W : Int → e3_H → e3_G → Prop} {l1 l2 l3 l4 l5 : Int} {R : Int → Int → e3_H → e3_G → Prop}
theorem LGC_9 {L : List Int} {K : e3_H} (h : LGC L K) : 0 ≤ K 34 9 ∧ K 34 9 ≤ 32 := by
  rw [h.2.1]
  split <;> omega
/-- a run in the class and then one in the reference, of a text that is held -/
theorem e3_runs {σ g : e3_H} {m nf : Nat} {Vs : Int → Int → Int → List (Int × Int)} {mr0 : Nat → Nat} {way km : Nat → Int} {N : Nat → List a_ND} {S : Int → (Int → Int) → a_SO} (h : JI n H G) (hE : E1 H) (p1 : PXc σ m nf Vs mr0) (p2 : TX σ g m nf Vs way km N H G) (p5 : TM0 σ m nf H) (hC : SCx σ H G nf l5 S) (hMx : ∀ K0, zF 34 39 H K0 → SMx σ K0 G nf l5 S) (hO : ∀ (f : Nat) (a : Int → Int), f < nf → LTk σ H f a → SOk σ H f (S f a))
    (hno : ∀ K, zF 34 39 H K → zSO K → (∀ a k : Int, a ≠ 35 → K a k = H a k) → R (-1) (-1) K G)
    (hyes : ∀ x K K2, zF 34 39 H K → zSO K → zR K K2 → zMH K2 → E3s K2 → R x x K2 G)
    (hW : ∀ x K, zF 34 39 H K → wM_runs (fun y H2 G2 => R x y H2 G2) l1 l2 l3 l4 l5 K G → W x K G) : wS_takes (fun x3 H1 G2 => (((x3 : Int) = 0 → W (-1) H1 G2) ∧ (¬ ((x3 : Int) = 0) → (wS_run (fun x6 H4 G5 => W x6 H4 G5) l1 l5 H1 G2)))) l1 l2 l3 l4 H G := by
  obtain ⟨⟨hMK, hGC⟩, _, ⟨hl, hso⟩, ⟨hv, hmh⟩, _⟩ := id h
  have h12 := p1.1.2.1
  have hS := (JI_K h).2.2
  have tv : ∀ K, zF 34 39 H K → TV σ m K := fun K f => TV_of h p1 p2 p5 hE.1 (fun b x hb => f b x (by omega)) (f 40 109 (by decide))
  have hT := tv H (fun _ _ _ => rfl)
  have g : ∀ f : Nat, f < nf → (1 ≤ σ 68 f ∧ σ 68 f ≤ 3) ∧ (0 ≤ σ 70 f ∧ σ 70 f ≤ 16) := fun f hf => by
    obtain ⟨g1, g2, _⟩ := zG_of p1 p2 f (by omega) (by omega)
    exact ⟨g1, g2⟩
  have h56 : ∀ f k : Nat, f < nf → (k : Int) < σ 70 f → 0 ≤ σ 56 (16 * (f : Int) + k) ∧ σ 56 (16 * (f : Int) + k) ≤ 8 := fun f k hf hk => ((p1.1.2.2.2.1 f (by omega) (by omega)).2.2.2 k (by omega) hk).2.1
  have h69 : ∀ f c : Nat, f < nf → (c : Int) < σ 68 f → 0 ≤ σ 69 (3 * (f : Int) + c) ∧ σ 69 (3 * (f : Int) + c) < 1000 := fun f c hf hc => by
    have := (p1.1.2.2.2.1 f (by omega) (by omega)).1.2 c hc
    have := p1.1.2.2.2.2.1.2.1
    omega
  have hF : ∀ f : Nat, f < nf → (139 ≤ H 15 f ∧ g_at G (H 15 f) (108, 11)) ∧ (H (H 15 f) 1 = σ 68 f ∧ 1 ≤ σ 68 f ∧ σ 68 f ≤ 3) ∧ (139 ≤ H (H 15 f) 2 ∧ g_at G (H (H 15 f) 2) (0, 3)) ∧ ∀ c : Nat, (c : Int) < σ 68 f → H (H (H 15 f) 2) c = σ 69 (3 * (f : Int) + c) ∧ 0 ≤ σ 69 (3 * (f : Int) + c) ∧ σ 69 (3 * (f : Int) + c) < 1000 := fun f hf => by
    obtain ⟨cx2, pn, cnt2, mr, A, B, q1, q2, q3, q4, ⟨c1, c2, c3, c4⟩, q6, q7⟩ := p2.2.2.1 f hf
    have gg := (g f hf).1
    refine ⟨q1.1, ⟨by rw [c1]; omega, gg⟩, c2, fun c hc => ⟨(c4 c (by omega)).1, h69 f c hf hc⟩⟩
  have hX : ∀ K, zF 34 39 H K → RUX σ nf K G ∧ zLX K ∧ VR K := fun K f => ⟨RUX_of p1 (TX_fr p2 f) (zSX_eq hS (fun b x hb => f b x (by omega))), zLX_F hl f, (tv K f).1⟩
  have hCL := CLX_of p1 p2
  have lk : ∀ K, zF 34 39 H K → ∀ (f : Nat) (a : Int → Int), LTk σ K f a → LTk σ H f a := fun K f0 f a hlt i i0 i1 => oks_eq (hlt i i0 i1) (fun b x hb => (f0 b x (by omega)).symm)
  have kl : ∀ K, zF 34 39 H K → ∀ (f : Nat) (a : Int → Int), LTk σ H f a → LTk σ K f a := fun K f0 f a hlt i i0 i1 => oks_eq (hlt i i0 i1) (fun b x hb => f0 b x (by omega))
  -- the reference, behind the class
  have nr : ∀ (Q : Int → e3_H → e3_G → Prop) (K : e3_H), zF 34 39 H K → zSO K → (∀ f : Nat, f < nf → l1 = (f : Int) → LTk σ H f (pk4 l2 l3 l4 l4) → ∀ K2 : e3_H, zR K K2 → z6 (K 40 109) K2 → RMo (rn σ H S 100 f (pk4 l2 l3 l4 l4) 1 0 [] 0) K2 → BDm σ (S f (pk4 l2 l3 l4 l4)) K2 → Q (if (S f (pk4 l2 l3 l4 l4)).1 = 0 then (S f (pk4 l2 l3 l4 l4)).2.1 % 16 else -4) K2 G) → (¬ (∃ f : Nat, f < nf ∧ l1 = (f : Int) ∧ LTk σ H f (pk4 l2 l3 l4 l4)) → Q (-1) K G) → wM_runs Q l1 l2 l3 l4 l5 K G := fun Q K f0 s0 hq1 hq0 => by
    have JK := JI_s h f0 s0
    refine nM_runs (σ := σ) (m := m) (S := S) h12 (by rw [f0 40 41 (by decide)]; exact p5.2.2) (fun f hf => (g f hf).2.2) (tv K f0) (fun b x h1 h2 h3 => (f0 b x (by omega)).trans (p5.1 b x h1 h2 h3)) JK.2.2.2.1.1 JK.2.2.2.1.2 hCL (fun f hf => (g f hf).1) h69 h56 (fun f a hf hlt => ?_) (hMx K f0) (fun f hf ef hlt K2 r1 r2 r3 r4 => hq1 f hf ef (lk K f0 f _ hlt) K2 r1 r2 ?_ r4) (fun hn => hq0 (fun hex => hn ?_))
    · obtain ⟨o1, o2⟩ := hO f a hf (lk K f0 f a hlt)
      exact ⟨o1, fun c0 => ⟨(o2 c0).1, fun j hj => oks_eq ((o2 c0).2 j hj) (fun b x hb => f0 b x (by omega))⟩⟩
    · rw [rn_cg (M := H) (M2 := K) (funext fun x => f0 28 x (by decide))] at r3
      exact r3
    · obtain ⟨f, hf, ef, hlt⟩ := hex
      exact ⟨f, hf, ef, kl K f0 f _ hlt⟩
  refine vS_takes p2.2.1 hT hl hS p2.1 hF (fun f hf ef hlt K g1 g35 => brF (by decide) ?_) (fun hn K g1 => brT rfl ?_)
  · have fK : zF 34 39 H K := fun b x hb => g1 b x (by omega)
    subst ef
    refine vS_run (S := S) hGC (fun f hf => (g f hf).2.2) hT hCL hX hO hC hf fK g35 hlt (fun x K2 f2 rc hx bd => ?_)
    have hok := (hO f _ hf hlt).2
    have b11 : 0 ≤ K2 34 11 ∧ K2 34 11 ≤ 8 := by
      by_cases c0 : (S f (pk4 l2 l3 l4 l4)).1 = 0
      · obtain ⟨hr, _⟩ := hok c0
        rw [(bd.1 c0).1]
        obtain ⟨k, ek⟩ : ∃ k : Nat, (S f (pk4 l2 l3 l4 l4)).2.1 = 16 * (f : Int) + k := ⟨((S f (pk4 l2 l3 l4 l4)).2.1 - 16 * f).toNat, by omega⟩
        rw [ek]
        exact h56 f k hf (by omega)
      · rw [bd.2 c0]; decide
    have s2 : zSO K2 := ⟨LGC_9 rc.2.2.2.2.1, b11.2⟩
    refine hW x K2 f2 (nr _ K2 f2 s2 (fun f' hf' ef' _ K3 r1 r2 r3 r4 => ?_) (fun hn => absurd ⟨f, hf, rfl, hlt⟩ hn))
    have ef' : f = f' := by omega
    subst ef'
    have w39 : ∀ b y : Int, 34 ≤ b → b ≤ 39 → K3 b y = K2 b y := fun b y h1 h2 => r1.1 b y (by omega) (by omega)
    have e11 : K3 34 11 = K3 40 128 := by
      rw [w39 34 11 (by decide) (by decide)]
      by_cases c0 : (S f (pk4 l2 l3 l4 l4)).1 = 0
      · rw [(bd.1 c0).1, (r4.1 c0).1]
      · rw [bd.2 c0, r4.2 c0]
    have e3 : E3s K3 := by
      refine ⟨⟨_, ⟨by rw [w39 37 0 (by decide) (by decide)]; exact rc.1, by rw [w39 37 1 (by decide) (by decide)]; exact rc.2.1, by rw [w39 37 2 (by decide) (by decide)]; exact rc.2.2.1, by rw [w39 37 3 (by decide) (by decide)]; exact rc.2.2.2.1, LGC_eq rc.2.2.2.2.1 (w39 37 4 (by decide) (by decide)) (w39 34 9 (by decide) (by decide)) (fun y => w39 38 y (by decide) (by decide)), by rw [w39 37 5 (by decide) (by decide)]; exact rc.2.2.2.2.2.1, by rw [w39 37 6 (by decide) (by decide)]; exact rc.2.2.2.2.2.2⟩, r3⟩, ⟨e11, ?_⟩, fun k k0 k1 => ?_⟩
      · rw [w39 34 11 (by decide) (by decide)]; exact b11
      · rw [w39 34 11 (by decide) (by decide)] at k1
        rw [w39 39 k (by decide) (by decide)]
        by_cases c0 : (S f (pk4 l2 l3 l4 l4)).1 = 0
        · rw [(bd.1 c0).1] at k1
          rw [(bd.1 c0).2 k k0 k1, (r4.1 c0).2 k k0 k1]
        · rw [bd.2 c0] at k1
          omega
    rw [hx]
    refine hyes _ K2 K3 f2 s2 r1 (z6_MH r2 (r1.2 109 (by decide) (by decide)) (by rw [r3.2.2.2.2.1.1]; omega) ⟨?_, ?_⟩) e3
    · rw [← e11, w39 34 11 (by decide) (by decide)]; exact b11.1
    · rw [← e11, w39 34 11 (by decide) (by decide)]; exact b11.2
  · have fK : zF 34 39 H K := fun b x hb => g1 b x (by omega)
    have s0 : zSO K := ⟨by rw [g1 34 9 (by decide)]; exact hso.1, by rw [g1 34 11 (by decide)]; exact hso.2⟩
    exact hW (-1) K fK (nr _ K fK s0 (fun f hf ef hlt => absurd ⟨f, hf, ef, hlt⟩ hn) (fun _ => hno K fK s0 g1))
/-- and where no text is held -/
theorem e3_runs0 (h14 : H 14 3 = 0) (h41 : H 40 41 = 0) (hno : R (-1) (-1) H G) (hW : ∀ x K, zF 34 39 H K → wM_runs (fun y H2 G2 => R x y H2 G2) l1 l2 l3 l4 l5 K G → W x K G) : wS_takes (fun x3 H1 G2 => (((x3 : Int) = 0 → W (-1) H1 G2) ∧ (¬ ((x3 : Int) = 0) → (wS_run (fun x6 H4 G5 => W x6 H4 G5) l1 l5 H1 G2)))) l1 l2 l3 l4 H G := by
  have w : W (-1) H G := hW (-1) H (fun _ _ _ => rfl) (cM_in (fun a b => by rw [h41, e3_w32_id (by decide) (by decide)] at b; omega) (fun _ => ⟨Or.inl rfl, brT rfl hno⟩))
  by_cases z : l1 < 0
  · exact brT z (brT (by decide) (brT rfl w))
  · exact brF z (brF (by rw [h14]; exact z) (brT (by decide) (brT rfl w)))
/-- sort, in both -/
theorem e1_sort_e (h : JI n H G) (hE : E1 H) (hR : JFe n H G E1 R) (hW : JW H R (fun Q H G => wM_sort Q l1 l2 l3 l4 H G) W) : wP_sort W l1 l2 l3 l4 H G := by
  have hW' : ∀ x K, zF 34 39 H K → wM_runs (fun y H2 G2 => R x y H2 G2) l1 l2 l3 l4 1 K G → W x K G := fun x K f hr => hW x K G (fun k => f 0 k (by decide)) hr
  obtain ⟨_, _, ⟨hl, hso⟩, ⟨hv, hmh⟩, hTx⟩ := id h
  rcases hTx with ⟨_, _, y3, _, _, y6⟩ | ⟨_, _, σ, g, m, nf, Vs, mr0, way, km, N, p1, p2, p3, p4, p5, p6⟩
  · exact e3_runs0 y3 y6 (hR (-1) n H G h hE (by omega) (fun _ => rfl)) hW'
  · obtain ⟨σt, mt, kk, D, hTR⟩ := TRX_of p6
    have hTV : ∀ a : Int → Int, TV σ m (mwl H a) := fun a => TV_of h p1 p2 p5 hE.1 (fun b x hb => mwl_ne (by omega)) (mwl_ne (by decide))
    refine e3_runs h hE p1 p2 p5 (Sft_C h p1 p2 p3 p5 hE.1 hl hTR) (fun K0 f0 => Sft_M h p1 p2 p5 hE.1 hl hv p6 hTR f0) (fun f a hf hlt => Sft_ok p1 p2 hTR hTV f a hf hlt) (fun K f s _ => ?_) (fun x K K2 f s r w _ => ?_) hW'
    · have JK := JI_s h f s
      exact hR (-1) n K G JK (E1_s h hE n K G JK (FRs_of f (zR_rf K))) (by omega) (fun k => f 0 k (by decide))
    · have JK := JI_r (JI_s h f s) r w
      exact hR x n K2 G JK (E1_s h hE n K2 G JK (FRs_of f r)) (by omega) (fun k => by rw [r.1 0 k (by decide) (by decide)]; exact f 0 k (by decide))
end ERN
