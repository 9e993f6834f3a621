section CFX1
variable {σ1 σ g H1 K : e3_H} {G : e3_G}
/-- a rule that was read, ready to have its rows laid -/
theorem FRu_of {cnt : Nat} {r num lo hi a lo2 hi2 : Int} {cols : Nat} (e : ∀ a x : Int, a ≠ 80 → a ≠ 71 → σ a x = σ1 a x) (h18 : c_18 G H1 K) (hr : c_rd σ1 g H1 G (cnt : Int) r num lo hi a) (hnum : num = r % 16) (hlo : 0 ≤ lo) (hnz : nz r σ) (hw : wru σ r lo2 hi2 cols) (h02 : 0 ≤ lo2) (hcols : cols ≤ 3) (h74 : σ 74 r ≤ 40) : 1 ≤ σ 74 r ∧ ∃ L, FRu σ g (fun q => K (g 0 q) 2) cnt r a K G lo hi L := by
  obtain ⟨⟨hsk, ⟨n0, n1, n2, n3, n4, n5, n6⟩, hwy, ⟨m1, m2, m3, m4⟩, _, hgd, _⟩, hpt⟩ := hr
  obtain ⟨s1, s2, ⟨s3, s4⟩, _⟩ := hsk
  obtain ⟨L, l1, l2, l3, l4, _⟩ := hw
  have ek : ∀ x k : Int, k ≠ 18 → K x k = H1 x k := fun x k hk => h18.1 x k (Or.inl hk)
  have ea1 : ∀ k : Int, K (a + 1) k = H1 (a + 1) k := fun k => h18.2 _ k _ _ s4 (by decide)
  have e56 : σ 56 r = σ1 56 r := e 56 r (by decide) (by decide)
  have e57 : σ 57 = σ1 57 := funext fun x => e 57 x (by decide) (by decide)
  have e72 : σ 72 r = σ1 72 r := e 72 r (by decide) (by decide)
  have e74 : σ 74 r = σ1 74 r := e 74 r (by decide) (by decide)
  rw [← e74] at hwy
  rw [← e72] at n2 n3 n4 n5 n6
  have hpt2 : ∀ q : Int, lo ≤ q → q < hi → c_pt σ r g K G cnt hi q := fun q q1 q2 => by
    have hp := hpt q q1 q2
    exact c_pt_keep hp ⟨[], (List.append_nil _).symm⟩ (fun b b1 b2 => e b q (by omega) (by omega)) (fun k _ _ => e 57 _ (by decide) (by decide)) (by rw [e56]; exact Int.le_refl _) (fun _ _ _ _ _ => rfl) (fun _ _ _ => rfl) (Int.le_refl _) q2 (Int.le_refl _) (fun k => h18.2 _ k _ _ hp.1.2.1 (by decide))
  have hC := CL_of hpt2
  have hn : ∀ c, c ∈ L → c ≠ -4 := fun c hc => by have := (l3 c hc).1; omega
  have hin : ∀ c, c ∈ L → lo ≤ c ∧ c < hi := fun c hc => (ach_in hC L _ l2 hn (fun _ => ⟨n3, n4⟩) c hc).1
  have h55 : ∀ c, c ∈ L → 1 ≤ σ 55 c := fun c hc => by
    obtain ⟨⟨h1, h2⟩, h3⟩ := (hpt2 c (hin c hc).1 (hin c hc).2).2.2.2.2
    split at h3 <;> omega
  have hwp : σ 74 r = wp σ L := by
    rw [l4, wf_5 L 1 (by omega) h55 (by rw [← l4]; omega), Int.one_mul]
  have h3 := wy_lt hwy (by omega)
  refine ⟨h3.2, L, ⟨s2, by rw [ek _ _ (by decide)]; exact s3, s1, s4, by rw [ek _ _ (by decide), e56]; exact m1, by rw [e56]; exact m2, fun k hk => ?_, by rw [e56, e57]; exact m4, hnz⟩, ?_, ⟨by rw [ek _ _ (by decide)]; exact h3.1, by rw [ek _ _ (by decide), e 78 _ (by decide) (by decide)]; exact hgd.1, by rw [ek _ _ (by decide), n0]; exact hnum⟩, hlo, fun q q1 q2 => ⟨hpt2 q q1 q2, rfl⟩, ⟨by omega, l2, fun x hx => ⟨(hin x hx).1, (hin x hx).2, wt_low hC hlo 6 x (l3 x hx).2.2 (hin x hx).1 (hin x hx).2⟩, hwp.symm⟩, n3, n4, n5, n6⟩
  · rw [e56] at hk
    rw [ea1, e57]
    exact m3 k hk
  · rw [ek _ _ (by decide), n2, c_lk_pos (g := g) (by omega)]
end CFX1
theorem s7_le {H : e3_H} : ∀ nf : Nat, (∀ f : Nat, f < nf → 0 ≤ H (H 15 f) 7) → 0 ≤ s7 H nf ∧ ∀ f : Nat, f < nf → H (H 15 f) 7 ≤ s7 H nf := by
  intro nf
  induction nf with
  | zero => intro _; exact ⟨Int.le_refl _, fun f hf => absurd hf (Nat.not_lt_zero _)⟩
  | succ n ih =>
    intro h
    obtain ⟨i1, i2⟩ := ih (fun f hf => h f (by omega))
    have hn := h n (by omega)
    have e : s7 H (n + 1) = s7 H n + H (H 15 n) 7 := rfl
    refine ⟨by omega, fun f hf => ?_⟩
    by_cases hz : f = n
    · rw [hz]; omega
    · have := i2 f (by omega); omega
/-- the visited patterns of all rows of all FUNCTIONS -/
def VS (σ : e3_H) (nf : Nat) (Vs : Int → Int → Int → List (Int × Int)) : Prop := ∀ f k w : Int, 0 ≤ f → f < nf → 0 ≤ k → k < σ 70 f → 0 ≤ w → w < σ 74 (16 * f + k) → ∀ L : List Int, ach σ (σ 72 (16 * f + k)) L → (∀ c, c ∈ L → c ≠ -4) → lyC (lyV σ 6) σ L w 1 (Vs f k w)
/-- a FUNCTION before, and behind, the laying of its Rows -/
def FX (σ g : e3_H) (Vs : Int → Int → Int → List (Int × Int)) (f : Nat) (K : e3_H) (G : e3_G) : Prop := ∃ (cx pn : Int → Int) (cnt m : Nat) (A : Int → Int), RB σ (g_3 g cx) pn cnt m f (K 15 f) A (Vs f) K G ∧ σ 70 f = m ∧ K (K 15 f) 0 = σ 67 f ∧ c_pl K G (K 15 f) cx ∧ c_fc (K 15 f) (σ 68 f).toNat (fun c => σ 69 (3 * f + c)) (g_3 g cx) K G
def FY (σ g : e3_H) (Vs : Int → Int → Int → List (Int × Int)) (f : Nat) (K : e3_H) (G : e3_G) : Prop := ∃ (cx pn : Int → Int) (cnt m : Nat) (A : Int → Int) (B : Int), RB σ (g_3 g cx) pn cnt m f (K 15 f) A (Vs f) K G ∧ σ 70 f = m ∧ K (K 15 f) 0 = σ 67 f ∧ c_pl K G (K 15 f) cx ∧ c_fc (K 15 f) (σ 68 f).toNat (fun c => σ 69 (3 * f + c)) (g_3 g cx) K G ∧ K (K 15 f) 5 = rsum σ f m ∧ c_rws f (K 15 f) B cnt A (Vs f) σ (g_3 g cx) pn m 0 K G
theorem FX_of {σ1 σ g H1 K : e3_H} {G : e3_G} {m nf : Nat} {Vs : Int → Int → Int → List (Int × Int)} (e : ∀ a x : Int, a ≠ 80 → a ≠ 71 → σ a x = σ1 a x) (hF : F_inv σ m nf) (hS : c_FS nf σ1 g H1 G) (h18 : c_18 G H1 K) (hW : WF σ nf ∧ NZ σ nf) (hR : RWS σ nf) (hV : VS σ nf Vs) (h7 : s7 H1 nf ≤ 100000) : ∀ f : Nat, f < nf → FX σ g Vs f K G := by
  intro f hf
  obtain ⟨⟨z1, z2, z3⟩, z4⟩ := hS
  have pos : ∀ f : Nat, f < nf → 0 ≤ H1 (H1 15 f) 7 := fun f hf => by
    obtain ⟨cx, ⟨_, _, L, _, _, _, _, y, _⟩, _⟩ := z4 f hf
    exact y.1
  have h7f := (s7_le nf pos).2 f hf
  have h7p := pos f hf
  obtain ⟨cx, p1, p2, ⟨p3, p4, p5, p6⟩, p7, p8, p9⟩ := z4 f hf
  have e15 : K 15 f = H1 15 f := h18.1 15 f (Or.inr (by decide))
  have ek : ∀ x k : Int, k ≠ 18 → K x k = H1 x k := fun x k hk => h18.1 x k (Or.inl hk)
  have ef : ∀ k : Int, K (H1 15 f) k = H1 (H1 15 f) k := fun k => h18.2 _ k _ _ p1.2.1 (by decide)
  have F1 := hF.2.2.2.1 f (by omega) (by omega)
  have e70 : σ 70 f = σ1 70 f := e 70 f (by decide) (by decide)
  have e68 : σ 68 f = σ1 68 f := e 68 f (by decide) (by decide)
  have hm : σ 70 f = ((σ 70 f).toNat : Int) := by have := F1.2.2.1; omega
  have hcnt : H1 (H1 15 f) 7 = ((H1 (H1 15 f) 7).toNat : Int) := by omega
  obtain ⟨rw1, rw2⟩ := hR f hf
  refine ⟨cx, fun q => K (g_3 g cx 0 q) 2, (H1 (H1 15 f) 7).toNat, (σ 70 f).toNat, fun k => H1 (H1 (H1 15 f) 4) k, ?_, hm, ?_, ?_, ?_⟩
  · rw [e15]
    have b9 : ∀ k : Nat, k < (σ 70 f).toNat → 1 ≤ σ 74 (16 * f + k) := fun k hk => by
      obtain ⟨r1, lo, hi, r2, r3, r4⟩ := p8 k (by omega)
      obtain ⟨⟨_, _, hwy, _⟩, _⟩ := r3
      rw [e 74 _ (by decide) (by decide)]
      obtain ⟨⟨h1, h2⟩, h3⟩ := hwy
      split at h3 <;> omega
    refine ⟨⟨p1.1, p1.2.1⟩, ⟨by rw [ef]; exact p9.1.2.1, p9.1.2.2⟩, by rw [ef]; exact hcnt, by omega, ⟨by rw [ef, p4, ← e70]; exact hm, by have := F1.2.2.1; omega, by rw [ef]; exact ⟨p5, p6⟩⟩, fun k hk => ⟨?_, by have := b9 k hk; omega, ?_⟩, rw1⟩
    · rw [ef]
      exact h18.2 _ k _ _ p6 (by decide)
    · obtain ⟨r1, lo, hi, r2, r3, r4⟩ := p8 k (by omega)
      have hs := rsum_0 (σ := σ) (f := (f : Int)) (fun j hj => by have := b9 j hj; omega) ((σ 70 f).toNat - (k + 1)) (k + 1) (by omega)
      have hs0 := rsum_0 (σ := σ) (f := (f : Int)) (fun j hj => by have := b9 j hj; omega) ((σ 70 f).toNat - k) k (by omega)
      have es : rsum σ f (k + 1) = rsum σ f k + σ 74 (16 * f + k) := rfl
      obtain ⟨lo2, w1, w2⟩ := hW.1 f (by omega) (by omega) k (by omega) (by omega)
      rw [hcnt] at r3
      have hc3 := F1.1.1
      obtain ⟨f1, L, f2⟩ := FRu_of (cols := (σ 68 f).toNat) e h18 r3 (by have := F1.2.2.1; omega) r2.1 (hW.2 f (by omega) (by omega) k (by omega) (by omega)) w2 w1 (by omega) (by omega)
      exact ⟨lo, hi, L, f2, fun w w0 w1 => hV f k w (by omega) (by omega) (by omega) (by omega) w0 w1 L f2.2.2.2.2.2.1.2.1 (fun c hc => by have := (f2.2.2.2.2.2.1.2.2.1 c hc).1; have := f2.2.2.2.1; omega)⟩
  · rw [e15, ef, p3, e 67 _ (by decide) (by decide)]
  · rw [e15]
    have := c_pl_eq2 (E := []) (K := K) p1 (fun a k ha => by
      rcases ha with ⟨z, _⟩ | z | z
      · rw [z]; exact ef k
      · obtain ⟨_, _, L, y3, y4, _⟩ := id p1
        rw [z]; exact h18.2 _ k _ _ y3.2 (by decide)
      · obtain ⟨_, _, L, y3, y4, _⟩ := id p1
        rw [z]; exact h18.2 _ k _ _ y4.2 (by decide))
    rw [List.append_nil] at this
    exact this
  · obtain ⟨c1, ⟨c2, c3⟩, c4, c5⟩ := p2
    rw [e15, e68]
    refine ⟨by rw [ef]; exact c1, by rw [ef]; exact ⟨c2, c3⟩, c4, fun c hc => ?_⟩
    rw [ef, ef, h18.2 _ c _ _ c3 (by decide)]
    obtain ⟨x1, x2⟩ := c5 c hc
    exact ⟨x1.trans (e 69 _ (by decide) (by decide)).symm, x2⟩
/-- the visited patterns can be chosen -/
theorem VS_ex {σ : e3_H} {m nf : Nat} (hF : F_inv σ m nf) (hW : WF σ nf) (hR : RWS σ nf) (hp : ∀ f k : Int, 0 ≤ f → f < nf → 0 ≤ k → k < σ 70 f → 0 ≤ σ 74 (16 * f + k)) : ∃ Vs, VS σ nf Vs := by
  have key : ∀ f k w : Int, ∃ V : List (Int × Int), 0 ≤ f → f < nf → 0 ≤ k → k < σ 70 f → 0 ≤ w → w < σ 74 (16 * f + k) → ∀ L : List Int, ach σ (σ 72 (16 * f + k)) L → (∀ c, c ∈ L → c ≠ -4) → lyC (lyV σ 6) σ L w 1 V := by
    intro f k w
    by_cases hc : 0 ≤ f ∧ f < nf ∧ 0 ≤ k ∧ k < σ 70 f ∧ 0 ≤ w ∧ w < σ 74 (16 * f + k)
    · obtain ⟨f0, f1, k0, k1, w0, w1⟩ := hc
      obtain ⟨lo, l0, L, l1, l2, l3, l4, _⟩ := hW f f0 f1 k k0 k1
      obtain ⟨rw1, _⟩ := hR f.toNat (by omega)
      rw [show ((f.toNat : Nat) : Int) = f by omega] at rw1
      have hpn : ∀ j : Nat, j < (σ 70 f).toNat → 0 ≤ σ 74 (16 * f + j) := fun j hj => hp f j f0 f1 (by omega) (by omega)
      have hs := rsum_0 hpn ((σ 70 f).toNat - (k.toNat + 1)) (k.toNat + 1) (by omega)
      have hs0 := rsum_0 hpn ((σ 70 f).toNat - k.toNat) k.toNat (by omega)
      have es : rsum σ f (k.toNat + 1) = rsum σ f k.toNat + σ 74 (16 * f + (k.toNat : Nat)) := rfl
      rw [show ((k.toNat : Nat) : Int) = k by omega] at es
      have hpw := hF.2.2.2.2
      have h55 : ∀ y : Int, 0 ≤ y → y < σ 40 16 → 1 ≤ σ 55 y := fun y y0 y1 => (hpw.2.2 y y0 y1).1
      have h55L : ∀ c, c ∈ L → 1 ≤ σ 55 c := fun c hc => h55 c (by have := (l3 c hc).1; omega) (l3 c hc).2.1
      have hwp : σ 74 (16 * f + k) = wp σ L := by
        rw [l4, wf_5 L 1 (by omega) h55L (by rw [← l4]; omega), Int.one_mul]
      have hn : ∀ c, c ∈ L → c ≠ -4 := fun c hc => by have := (l3 c hc).1; omega
      obtain ⟨V, v⟩ := lyC_ex (R := lyV σ 6) L w 1 h55L (fun c hc w x w0 w1 => lyV_ex h55 6 c w x (l3 c hc).2.2 (by have := (l3 c hc).1; omega) w0 w1 (by have := le_wp L h55L c hc; omega)) w0 (by omega)
      refine ⟨V, fun _ _ _ _ _ _ M hM hMn => ?_⟩
      rw [ach_inj M L _ hMn hn hM l2]
      exact v
    · exact ⟨[], fun h1 h2 h3 h4 h5 h6 => absurd ⟨h1, h2, h3, h4, h5, h6⟩ hc⟩
  exact ⟨fun f k w => Classical.choose (key f k w), fun f k w => Classical.choose_spec (key f k w)⟩
