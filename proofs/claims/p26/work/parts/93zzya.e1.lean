section E1S
variable {n : Nat} {H : e3_H} {G : e3_G} {R : Int → Int → e3_H → e3_G → Prop} {W : Int → e3_H → e3_G → Prop}
theorem E1_fr {K : e3_H} (hE : E1 H) (hv : VR K) (fr : FRv H K) : E1 K ∧ FRv H K := by
  refine ⟨⟨hv, ?_⟩, fr⟩
  unfold LT
  rw [fr 40 11 (by decide) (by decide) (by decide), fr 2 7 (by decide) (by decide) (by decide), fr 8 0 (by decide) (by decide) (by decide)]
  exact hE.2
theorem e1_whole {l1 : Int} (h : JI n H G) (hE : E1 H) (hi : e3_i32 l1) (hR : JFe n H G (fun K => E1 K ∧ FRv H K) R) (hW : JW H R (fun Q H G => wM_whole Q l1 H G) W) : wP_whole W l1 H G := by
  refine vP_whole h.1.2 h.2.2.1.1 l1 (fun x K f l o => hW x K G (fun k => f 0 k (by omega)) (nM_whole (JI_c h f l).2.2.2.1.1 l1 (fun y K2 f2 v o2 => ?_)))
  obtain ⟨e, hv, fr⟩ := VR_put h hE.1 h.2.2.1.1 o o2 ⟨by decide, by decide, fun _ => ⟨rfl, rfl, hi⟩, fun z => absurd z (by decide), fun z => absurd z (by decide), fun z => absurd z (by decide), fun _ => ⟨rfl, rfl⟩⟩ (fun i i0 i1 => by omega)
  subst e
  exact hR x n K2 G (JI_m (JI_c h f l) f2 v) (E1_fr hE hv fr) (by omega) (fun k => fr 0 k (by decide) (by decide) (by omega))
theorem e1_truth {l1 : Int} (h : JI n H G) (hE : E1 H) (hR : JFe n H G (fun K => E1 K ∧ FRv H K) R) (hW : JW H R (fun Q H G => wM_truth Q l1 H G) W) : wP_truth W l1 H G := by
  refine vP_truth h.1.2 h.2.2.1.1 l1 (fun x K f l o => hW x K G (fun k => f 0 k (by omega)) (nM_truth (JI_c h f l).2.2.2.1.1 l1 (fun y K2 f2 v o2 => ?_)))
  obtain ⟨e, hv, fr⟩ := VR_put h hE.1 h.2.2.1.1 o o2 ⟨by decide, by decide, fun _ => ⟨rfl, rfl, by split <;> exact ⟨by decide, by decide⟩⟩, fun z => absurd z (by decide), fun z => absurd z (by decide), fun z => absurd z (by decide), fun _ => ⟨rfl, rfl⟩⟩ (fun i i0 i1 => by omega)
  subst e
  exact hR x n K2 G (JI_m (JI_c h f l) f2 v) (E1_fr hE hv fr) (by omega) (fun k => fr 0 k (by decide) (by decide) (by omega))
theorem e1_nothing (h : JI n H G) (hE : E1 H) (hR : JFe n H G (fun K => E1 K ∧ FRv H K) R) (hW : JW H R (fun Q H G => wM_nothing Q H G) W) : wP_nothing W H G := by
  refine vP_nothing h.1.2 h.2.2.1.1 (fun x K f l o => hW x K G (fun k => f 0 k (by omega)) (nM_nothing (JI_c h f l).2.2.2.1.1 (fun y K2 f2 v o2 => ?_)))
  obtain ⟨e, hv, fr⟩ := VR_put h hE.1 h.2.2.1.1 o o2 ⟨by decide, by decide, fun z => absurd z (by decide), fun z => absurd z (by decide), fun _ => ⟨rfl, rfl, rfl⟩, fun z => absurd z (by decide), fun _ => ⟨rfl, rfl⟩⟩ (fun i i0 i1 => by omega)
  subst e
  exact hR x n K2 G (JI_m (JI_c h f l) f2 v) (E1_fr hE hv fr) (by omega) (fun k => fr 0 k (by decide) (by decide) (by omega))
theorem e1_letters {l1 : Int} (h : JI n H G) (hE : E1 H) (hi : e3_i64 l1) (hR : JFe n H G (fun K => E1 K ∧ FRv H K) R) (hW : JW H R (fun Q H G => wM_letters Q l1 H G) W) : wP_letters W l1 H G := by
  refine vP_letters h.1.2 h.2.2.1.1 l1 (fun hno => hW (-1) H G (fun _ => rfl) ?_) (fun hye x K f l o => hW x K G (fun k => f 0 k (by omega)) ?_)
  · exact nM_letters h.2.2.2.1.1 l1 (fun _ => hR (-1) n H G h ⟨hE, fun _ _ _ _ _ => rfl⟩ (by omega) (fun _ => rfl)) (fun z => absurd z hno)
  · refine nM_letters (JI_c h f l).2.2.2.1.1 l1 (fun z => absurd hye z) (fun _ y K2 f2 v o2 => ?_)
    obtain ⟨e, hv, fr⟩ := VR_put h hE.1 h.2.2.1.1 o o2 ⟨by decide, by decide, fun z => absurd z (by decide), fun _ => ⟨rfl, hye, rfl, hi⟩, fun z => absurd z (by decide), fun z => absurd z (by decide), fun _ => ⟨rfl, rfl⟩⟩ (fun i i0 i1 => by omega)
    subst e
    exact hR x n K2 G (JI_m (JI_c h f l) f2 v) (E1_fr hE hv fr) (by omega) (fun k => fr 0 k (by decide) (by decide) (by omega))
theorem e1_make {l1 l2 l3 l4 l5 : Int} (h : JI n H G) (hE : E1 H) (hR : JFe n H G (fun K => E1 K ∧ FRv H K) R) (hW : JW H R (fun Q H G => wM_make Q l1 l2 l3 l4 l5 H G) W) : wP_make W l1 l2 l3 l4 l5 H G := by
  obtain ⟨σ, m, hd, hk, ht, h10⟩ := JI_kd h
  have hV := hE.1.2
  have hc := hE.1.1
  have h8 := hd.1
  have hlf : ∀ v : Int, 0 ≤ v → v < H 26 1 → H 27 v = 4 → 0 ≤ H 28 v ∧ H 28 v < (m : Int) := fun v v0 v1 v4 => by
    have := ((hV v v0 v1).2.2.2.2.1 v4).1
    omega
  have hb : ∀ v : Int, 0 ≤ v → v < H 26 1 → 1 ≤ H 29 v ∧ H 29 v ≤ 60 := fun v v0 v1 => (hV v v0 v1).1.2.2.2
  have so : ∀ v s : Int, 0 ≤ v → v < H 26 1 → sOf σ (H 27 v) (H 28 v) s = sOf σ (H 128 v) (H 129 v) s := fun v s v0 v1 => by
    rw [← (hV v v0 v1).1.1]
    exact sOf_l (fun z => ((hV v v0 v1).2.2.2.2.1 z).2.1)
  have cnv : mkO σ m (H 27) (H 28) (H 26 1) l1 (pk4 l2 l3 l4 l5) ↔ mkO σ m (H 128) (H 129) (H 40 109) l1 (pk4 l2 l3 l4 l5) := by
    unfold mkO
    rw [← hc]
    constructor
    · rintro ⟨a, b⟩
      refine ⟨a, fun i hi => ?_⟩
      obtain ⟨c, d⟩ := b i hi
      exact ⟨c, by rw [← so _ _ c.1 c.2]; exact d⟩
    · rintro ⟨a, b⟩
      refine ⟨a, fun i hi => ?_⟩
      obtain ⟨c, d⟩ := b i hi
      exact ⟨c, by rw [so _ _ c.1 c.2]; exact d⟩
  have ref : ∀ (K : e3_H) (Q : Int → e3_H → e3_G → Prop) (f : zF 26 33 H K) (l : zLX K), (¬ mkO σ m (H 128) (H 129) (H 40 109) l1 (pk4 l2 l3 l4 l5) → Q (-1) K G) → (mkO σ m (H 128) (H 129) (H 40 109) l1 (pk4 l2 l3 l4 l5) → ∀ y K2, zMF K K2 → zMV K2 → mO 4 l1 0 (1 + ssm (H 131) (pk4 l2 l3 l4 l5) (σ 44 l1).toNat) (σ 44 l1) (pk4 l2 l3 l4 l5) K y K2 → Q y K2 G) → wM_make Q l1 l2 l3 l4 l5 K G := fun K Q f l q1 q2 => by
    have hK := JI_c h f l
    have g128 : K 128 = H 128 := funext fun k => f 128 k (by omega)
    have g129 : K 129 = H 129 := funext fun k => f 129 k (by omega)
    have g131 : K 131 = H 131 := funext fun k => f 131 k (by omega)
    have g109 : K 40 109 = H 40 109 := f 40 109 (by omega)
    refine nM_make (σ := σ) (m := m) hK.2.2.2.1.1 (JI_K hK).2.1 (funext fun k => by rw [f 43 k (by omega)]; exact ht 43 k (by decide) (by decide)) (fun k => by rw [f 44 k (by omega)]; exact ht 44 k (by decide) (by decide)) (fun k => by rw [f 45 k (by omega)]; exact ht 45 k (by decide) (by decide)) (by rw [f 40 10 (by omega)]; exact h10) hk l1 l2 l3 l4 l5 ?_ ?_
    · rw [g128, g129, g109]; exact q1
    · rw [g128, g129, g109, g131]; exact q2
  refine vP_make h.1.2 h.2.2.1.1 hd hk hlf hb l1 l2 l3 l4 l5 (fun hno K f l e33 => hW (-1) K G (fun k => f 0 k (by omega)) (ref K _ f l (fun _ => ?_) (fun z => absurd (cnv.mpr z) hno))) (fun hmk x K f l o => hW x K G (fun k => f 0 k (by omega)) (ref K _ f l (fun z => absurd (cnv.mp hmk) z) (fun _ y K2 f2 v o2 => ?_)))
  · exact hR (-1) n K G (JI_c h f l) ⟨E1_eq h hE (fun a k ha => e33 a k (by omega)) (e33 2 7 (by decide)) (e33 40 11 (by decide)) (e33 40 109 (by decide)), fun a k h1 _ _ => e33 a k (by omega)⟩ (by omega) (fun k => f 0 k (by omega))
  · have hkm : l1.toNat < m := by have := hmk.1; omega
    have el : ((l1.toNat : Nat) : Int) = l1 := by have := hmk.1; omega
    have hq := (hk.2.2.2.2 l1.toNat hkm)
    rw [el] at hq
    have es : ssm (H 29) (pk4 l2 l3 l4 l5) (σ 44 l1).toNat = ssm (H 131) (pk4 l2 l3 l4 l5) (σ 44 l1).toNat := ssm_eq _ (fun i hi => by
      have := (hmk.2 i (by omega)).1
      exact (hV _ this.1 this.2).1.2.1)
    rw [← es] at o2
    have hrg := ssm_rg (f := H 29) (p := pk4 l2 l3 l4 l5) (σ 44 l1).toNat (fun i hi => hb _ (hmk.2 i (by omega)).1.1 (hmk.2 i (by omega)).1.2)
    have c12 := (hd.2 l1.toNat hkm).2.2.1
    rw [el] at c12
    have typ : ∀ i : Int, 0 ≤ i → i < σ 44 l1 → sOf H (H 27 (pk4 l2 l3 l4 l5 i)) (H 28 (pk4 l2 l3 l4 l5 i)) (H 45 (4 * l1 + i)) = true := fun i i0 i1 => by
      have z := (hmk.2 i.toNat (by omega)).2
      rw [show ((i.toNat : Nat) : Int) = i by omega] at z
      unfold sOf at z ⊢
      rw [show H 43 = σ 43 from funext fun k => ht 43 k (by decide) (by decide), ht 45 _ (by decide) (by decide)]
      exact z
    obtain ⟨e, hv, fr⟩ := VR_put h hE.1 h.2.2.1.1 o o2 ⟨by decide, by omega, fun z => absurd z (by decide), fun z => absurd z (by decide), fun z => absurd z (by decide), fun _ => ⟨by have := hmk.1; omega, rfl, rfl, c12.symm, typ⟩, fun z => absurd rfl z⟩ (fun i i0 i1 => by
      have := (hmk.2 i.toNat (by omega)).1
      rw [show ((i.toNat : Nat) : Int) = i by omega] at this
      exact ⟨rfl, this⟩)
    subst e
    exact hR x n K2 G (JI_m (JI_c h f l) f2 v) (E1_fr hE hv fr) (by omega) (fun k => fr 0 k (by decide) (by decide) (by omega))
end E1S
