/-- what is left by a call, besides both programs' invariant -/
def JF (n : Nat) (H : e3_H) (G : e3_G) (F : e3_H → Prop) (R : Int → Int → e3_H → e3_G → Prop) : Prop := ∀ (x y : Int) (n2 : Nat) (K : e3_H) (G2 : e3_G), JI n2 K G2 → F K → gz G2 + 860 * (n2 : Int) ≤ gz G + 860 * (n : Int) + 6880 → (∀ k : Int, K 0 k = H 0 k) → R x y K G2
def JFe (n : Nat) (H : e3_H) (G : e3_G) (F : e3_H → Prop) (R : Int → Int → e3_H → e3_G → Prop) : Prop := ∀ (x : Int) (n2 : Nat) (K : e3_H) (G2 : e3_G), JI n2 K G2 → F K → gz G2 + 860 * (n2 : Int) ≤ gz G + 860 * (n : Int) + 6880 → (∀ k : Int, K 0 k = H 0 k) → R x x K G2
theorem JF_e {n : Nat} {H : e3_H} {G : e3_G} {F : e3_H → Prop} {R : Int → Int → e3_H → e3_G → Prop} (h : JF n H G F R) : JFe n H G F R := fun x => h x x
/-- what a sorting leaves -/
def FRs (H K : e3_H) : Prop := (∀ a k : Int, a ≠ 40 → ¬ (34 ≤ a ∧ a ≤ 39) → a < 94 ∨ (98 < a ∧ a < 135) ∨ 138 < a → K a k = H a k) ∧ ∀ k : Int, k ≠ 71 → k < 119 ∨ 128 < k → K 40 k = H 40 k
/-- what the making of a tree leaves -/
def FRm (H K : e3_H) : Prop := (∀ a k : Int, a ≠ 40 → a < 16 ∨ (26 ≤ a ∧ a < 86) ∨ (127 < a ∧ a < 139) → K a k = H a k) ∧ ∀ k : Int, k ≠ 61 → k ≠ 65 → k ≠ 71 → k ≠ 93 → k ≠ 99 → k ≠ 105 → K 40 k = H 40 k
/-- what feed leaves -/
def FRf (H K : e3_H) : Prop := ∀ a k : Int, a ≠ 4 → a ≠ 41 → ¬ ((a = 3 ∨ a = 40) ∧ k = 1) → K a k = H a k
/-- what a read leaves, and what it says of KINDS -/
def FRr (H K : e3_H) : Prop := ((∀ a k : Int, a ≠ 40 → (26 ≤ a ∧ a ≤ 41) ∨ (127 < a ∧ a < 139) → K a k = H a k) ∧ ∀ k : Int, 106 ≤ k → K 40 k = H 40 k) ∧ (K = H ∨ (H 2 6 = 0 ∧ K 40 11 = 0 ∧ ((K 2 6 = 0 ∧ K 8 0 = 0 ∧ K 2 7 = H 2 7) ∨ (K 2 6 = 1 ∧ K 2 7 = K 8 0))))
/-- what an add leaves -/
def FRa (H K : e3_H) : Prop := ((∀ a k : Int, a ≠ 40 → (15 ≤ a ∧ a ≤ 41) ∨ 46 ≤ a → K a k = H a k) ∧ ∀ k : Int, 11 < k → K 40 k = H 40 k) ∧ ((∀ k : Int, 0 ≤ k → k < H 8 0 → K 12 k = H 12 k) ∧ (∀ k : Nat, (k : Int) < H 8 0 → K 43 k = H 43 k) ∧ ∀ k : Int, 0 ≤ k → k < 4 * H 8 0 → K 45 k = H 45 k) ∧ K 2 7 = H 2 7 ∧ ((K 8 0 = H 8 0 ∧ K 40 11 = H 40 11) ∨ (K 8 0 = H 8 0 + 1 ∧ K 40 11 = e3_w32 (H 40 11 + 1)))
section JFR
variable {n : Nat} {H : e3_H} {G : e3_G} {R : Int → Int → e3_H → e3_G → Prop} {W : Int → e3_H → e3_G → Prop}
theorem f_value {l1 l2 : Int} (h : JI n H G) (hR : ∀ x y : Int, R x y H G) (hW : JW H R (fun Q H G => wM_value Q l1 l2 H G) W) : wP_value W l1 l2 H G := zP_value h.2.2.1.1 l1 l2 (fun x => hW x H G (fun _ => rfl) (zM_value h.2.2.2.1.1 (JI_K h).2.1 l1 l2 (fun y => hR x y)))
theorem f_kind {l1 l2 : Int} (h : JI n H G) (hR : ∀ x y : Int, R x y H G) (hW : JW H R (fun Q H G => wM_kind Q l1 l2 H G) W) : wP_kind W l1 l2 H G := zP_kind (JI_K h).1 (JI_K h).2.2 l1 l2 (fun x => hW x H G (fun _ => rfl) (zM_kind (JI_K h).2.1 l1 l2 (fun y => hR x y)))
theorem f_function {l1 l2 : Int} (h : JI n H G) (hR : ∀ x y : Int, R x y H G) (hW : JW H R (fun Q H G => wM_function Q l1 l2 H G) W) : wP_function W l1 l2 H G := by
  obtain ⟨nf, hT⟩ := JI_T h
  exact zP_function (JI_K h).2.2 l1 l2 (fun x => hW x H G (fun _ => rfl) (zM_function hT l1 l2 (fun y => hR x y)))
theorem f_node {l1 l2 l3 : Int} (h : JI n H G) (hR : ∀ x y : Int, R x y H G) (hW : JW H R (fun Q H G => wM_node Q l1 l2 l3 H G) W) : wP_node W l1 l2 l3 H G := by
  obtain ⟨nf, hT⟩ := JI_T h
  exact zP_node (JI_K h).2.2 l1 l2 l3 (fun x => hW x H G (fun _ => rfl) (zM_node hT l1 l2 l3 (fun y => hR x y)))
theorem f_branch {l1 l2 l3 : Int} (h : JI n H G) (hR : ∀ x y : Int, R x y H G) (hW : JW H R (fun Q H G => wM_branch Q l1 l2 l3 H G) W) : wP_branch W l1 l2 l3 H G := by
  obtain ⟨nf, hT⟩ := JI_T h
  exact zP_branch (JI_K h).2.2 l1 l2 l3 (fun x => hW x H G (fun _ => rfl) (zM_branch hT l1 l2 l3 (fun y => hR x y)))
theorem f_kindNamed {l1 : Int} (h : JI n H G) (hR : ∀ x y : Int, R x y H G) (hW : JW H R (fun Q H G => wM_kindNamed Q l1 H G) W) : wP_kindNamed W l1 H G := zP_kindNamed (JI_K h).1 l1 (fun x => hW x H G (fun _ => rfl) (zM_kindNamed (JI_K h).2.1 l1 (fun y => hR x y)))
theorem f_told {l1 : Int} (h : JI n H G) (hR : ∀ x y : Int, R x y H G) (hW : JW H R (fun Q H G => wM_told Q l1 H G) W) : wP_told W l1 H G := zP_told l1 (fun x => hW x H G (fun _ => rfl) (zM_told (fun y => hR x y)))
theorem f_guard {l1 : Int} (h : JI n H G) (hR : ∀ x y : Int, R x y H G) (hW : JW H R (fun Q H G => wM_guard Q l1 H G) W) : wP_guard W l1 H G := zP_guard h.2.2.1.2 l1 (fun x => hW x H G (fun _ => rfl) (zM_guard h.2.2.2.1.2 (fun y => hR x y)))
theorem f_bound {l1 : Int} (h : JI n H G) (hR : ∀ x y : Int, R x y H G) (hW : JW H R (fun Q H G => wM_bound Q l1 H G) W) : wP_bound W l1 H G := zP_bound h.2.2.1.2 l1 (fun x => hW x H G (fun _ => rfl) (zM_bound h.2.2.2.1.2 (fun y => hR x y)))
theorem f_count {l1 : Int} (hR : ∀ x y : Int, R x y H G) (hW : JW H R (fun Q H G => wM_count Q l1 H G) W) : wP_count W l1 H G := zP_count l1 (fun x => hW x H G (fun _ => rfl) (zM_count (fun y => hR x y)))
theorem f_fault (hR : ∀ x y : Int, R x y H G) (hW : JW H R (fun Q H G => wM_fault Q H G) W) : wP_fault W H G := hW _ H G (fun _ => rfl) (hR _ _)
theorem f_alike {l1 l2 : Int} (h : JI n H G) (hR : JF n H G (fun K => ∀ a k : Int, a ≠ 133 → a ≠ 134 → K a k = H a k) R) (hW : JW H R (fun Q H G => wM_alike Q l1 l2 H G) W) : wP_alike W l1 l2 H G := zP_alike h.2.2.1.1 l1 l2 (fun x => hW x H G (fun _ => rfl) (zM_alike h.2.2.2.1.1 (JI_K h).2.1 l1 l2 (fun y K f => hR x y n K G (JI_m h ⟨fun a k h1 h2 => f a k (by omega) (by omega), fun k _ => f 40 k (by decide) (by decide), by rw [f 40 109 (by decide) (by decide)]; exact Int.le_refl _⟩ (zMV_eq h.2.2.2.1.1 (fun a k h1 h2 => f a k (by omega) (by omega)) (f 40 109 (by decide) (by decide)) (by rw [f 40 10 (by decide) (by decide)]; exact Int.le_refl _) (fun k _ _ => f 44 k (by decide) (by decide)))) f (by omega) (fun k => f 0 k (by decide) (by decide)))))
theorem FRs_of {K K2 : e3_H} (f : zF 34 39 H K) (f2 : zR K K2) : FRs H K2 := ⟨fun a k a1 a2 a3 => by rw [f2.1 a k a1 a3]; exact f a k (by omega), fun k k1 k2 => by rw [f2.2 k k1 k2]; exact f 40 k (by omega)⟩
theorem f_sort {l1 l2 l3 l4 : Int} (h : JI n H G) (hR : JF n H G (FRs H) R) (hW : JW H R (fun Q H G => wM_sort Q l1 l2 l3 l4 H G) W) : wP_sort W l1 l2 l3 l4 H G := zP_sort h.1.2 h.2.2.1.1 (JI_K h).1 (JI_K h).2.2 h.2.2.1.2 l1 l2 l3 l4 (fun x K f s => hW x K G (fun k => f 0 k (by omega)) (j_runs (JI_s h f s) (fun y K2 f2 w => hR x y n K2 G (JI_r (JI_s h f s) f2 w) (FRs_of f f2) (by omega) (fun k => by rw [f2.1 0 k (by decide) (by decide)]; exact f 0 k (by omega)))))
theorem f_plain {l1 l2 l3 l4 : Int} (h : JI n H G) (hR : JF n H G (FRs H) R) (hW : JW H R (fun Q H G => wM_plain Q l1 l2 l3 l4 H G) W) : wP_plain W l1 l2 l3 l4 H G := zP_plain h.1.2 h.2.2.1.1 (JI_K h).1 (JI_K h).2.2 h.2.2.1.2 l1 l2 l3 l4 (fun x K f s => hW x K G (fun k => f 0 k (by omega)) (j_runs (JI_s h f s) (fun y K2 f2 w => hR x y n K2 G (JI_r (JI_s h f s) f2 w) (FRs_of f f2) (by omega) (fun k => by rw [f2.1 0 k (by decide) (by decide)]; exact f 0 k (by omega)))))
theorem f_feed {x l3 : Int} (h : JI n H G) (hR : JFe n H G (FRf H) R) (hW : JW H R (fun Q H G => wM_feed Q x l3 H G) W) : wP_feed W x l3 H G := by
  have a3 := h.2.1.1.1
  have a4 := h.2.1.1.2
  have a5 := h.2.1.2.1
  refine cP_feed a3 a5 (fun hb => hW _ H G (fun _ => rfl) ?_) (fun b1 b2 b3 => hW _ H G (fun _ => rfl) ?_) (fun i hi i1 i8 hn K k1 k2 k3 => hW _ K G (fun k => k3 0 k (by omega) (by omega)) ?_)
  · exact cM_feed a4 a5 (fun _ => hR (-1) n H G h (fun _ _ _ _ _ => rfl) (by omega) (fun _ => rfl)) (fun a b _ => absurd ⟨a, b⟩ hb) (fun i hi i1 i8 _ _ _ _ _ => absurd ⟨by omega, by omega⟩ hb)
  · exact cM_feed a4 a5 (fun hb => absurd ⟨b1, b2⟩ hb) (fun _ _ _ => hR (-3) n H G h (fun _ _ _ _ _ => rfl) (by omega) (fun _ => rfl)) (fun i hi i1 i8 _ _ _ _ _ => absurd b3 (by omega))
  · refine cM_feed (n := n) (by rw [k3 40 1 (by omega) (by omega)]; exact a4) a5 (fun hb => absurd ⟨by omega, by omega⟩ hb) (fun _ _ c => absurd c (by omega)) (fun i' hi' i1' i8' hn' K2 m1 m2 m3 => ?_)
    obtain rfl : i' = i := by omega
    have fr : FRf H K2 := fun a k b1 b2 b3 => by
      rw [m3 a k (fun z => b3 ⟨Or.inr z.1, z.2⟩) (fun z => b2 z.1)]
      exact k3 a k (fun z => b3 ⟨Or.inl z.1, z.2⟩) (fun z => b1 z.1)
    refine hR _ (n + i') K2 G (JI_tp h fr ?_ m1 hn ?_) fr (by omega) (fun k => ?_)
    · rw [m3 3 1 (by omega) (by omega)]
      exact k1
    · refine bt_feed (x := x) h.2.1.2.2 i8 (fun k hk => ?_) (fun k hk => ?_) (fun j hj => ?_) m2
      · rw [m3 4 k (by omega) (by omega)]
        exact k3 4 k (by omega) (by omega)
      · rw [m3 41 k (by omega) (by omega)]
        exact k3 41 k (by omega) (by omega)
      · rw [m3 4 _ (by omega) (by omega)]
        exact k2 j hj
    · rw [m3 0 k (by omega) (by omega)]
      exact k3 0 k (by omega) (by omega)
theorem FRm_of {K K2 : e3_H} {G2 : e3_G} (d : D2 H G K G2) (r : zRMk K K2) : FRm H K2 := ⟨fun a k a1 a2 => by rw [r.1 a k a1 (by omega)]; exact d.2.2 a k (by omega), fun k k1 k2 k3 k4 k5 k6 => by rw [r.2 k k1 k2 k3 k4 k5 k6]; exact d.2.2 40 k (by omega)⟩
theorem f_remake {l1 l2 : Int} (h : JI n H G) (hR : JF n H G (FRm H) R) (hW : JW H R (fun Q H G => wM_remake Q l1 l2 H G) W) : wP_remake W l1 l2 H G := c_remake h (fun x K K2 G2 hJ d r hg => hR x x n K2 G2 hJ (FRm_of d r) (by omega) (fun k => by rw [r.1 0 k (by decide) (by decide)]; exact d.2.2 0 k (by omega))) hW
theorem f_missing {l1 : Int} (h : JI n H G) (hR : JF n H G (FRm H) R) (hW : JW H R (fun Q H G => wM_missing Q l1 H G) W) : wP_missing W l1 H G := by
  obtain ⟨⟨hM, _⟩, _, _, _, hO⟩ := id h
  rcases hO with ⟨y1, y2, k14, _, _, k41⟩ | ⟨y1, y2, σ, g, m, nf, Vs, mr0, way, km, N, p1, p2, p3, p4, p5, p6⟩
  · refine zR_functionAt (JI_K h).2.2 l1 (fun hx _ => absurd hx (by omega)) (brT (by decide) (hW _ H G (fun _ => rfl) ?_))
    refine cM_in (fun a b => ?_) (fun _ => ⟨Or.inl rfl, brT rfl (hR _ _ n H G h ⟨fun _ _ _ _ => rfl, fun _ _ _ _ _ _ _ => rfl⟩ (by omega) (fun _ => rfl))⟩)
    rw [k41] at b
    exact absurd b (by have : e3_w32 (0 - 1) = -1 := by decide
                       omega)
  refine cP_missing p1 p2 hM p4 p3 (fun x K G2 d => hW x K G2 (fun k => d.1.2.2 0 k (by omega)) (zM_missing p1 (TM0_D p5 d.1) (fun y K2 r => ?_) (fun y => ?_)))
  · have r1 := zRMk_mv r
    exact hR x y n K2 G2 (JI_mk h y1 y2 p1 p5 d p3 r1 (TRS_mv p1.1.2.1 (TRS_D p6 d.1) r)) (FRm_of d.1 r1) (by have := d.2.2.2.2; omega) (fun k => by rw [r1.1 0 k (by decide) (by decide)]; exact d.1.2.2 0 k (by omega))
  · have r1 : zRMk K K := ⟨fun _ _ _ _ => rfl, fun _ _ _ _ _ _ _ => rfl⟩
    exact hR x y n K G2 (JI_mk h y1 y2 p1 p5 d p3 r1 (TRS_D p6 d.1)) (FRm_of d.1 r1) (by have := d.2.2.2.2; omega) (fun k => d.1.2.2 0 k (by omega))
theorem f_unreached {l1 l2 : Int} (h : JI n H G) (hR : JF n H G (FRm H) R) (hW : JW H R (fun Q H G => wM_unreached Q l1 l2 H G) W) : wP_unreached W l1 l2 H G := by
  obtain ⟨⟨hM, _⟩, _, _, _, hO⟩ := id h
  rcases hO with ⟨y1, y2, k14, _, _, k41⟩ | ⟨y1, y2, σ, g, m, nf, Vs, mr0, way, km, N, p1, p2, p3, p4, p5, p6⟩
  · refine zR_functionAt (JI_K h).2.2 l1 (fun hx _ => absurd hx (by omega)) (brT (by decide) (hW _ H G (fun _ => rfl) ?_))
    refine cM_in (fun a b => ?_) (fun _ => ⟨Or.inl rfl, brT rfl (hR _ _ n H G h ⟨fun _ _ _ _ => rfl, fun _ _ _ _ _ _ _ => rfl⟩ (by omega) (fun _ => rfl))⟩)
    rw [k41] at b
    exact absurd b (by have : e3_w32 (0 - 1) = -1 := by decide
                       omega)
  refine cP_unreached p1 p2 hM p4 p3 (fun x K G2 d => hW x K G2 (fun k => d.1.2.2 0 k (by omega)) (zM_unreached p1 (TM0_D p5 d.1) (fun y K2 r => ?_) (fun y => ?_)))
  · have r1 := zRMk_mv r
    exact hR x y n K2 G2 (JI_mk h y1 y2 p1 p5 d p3 r1 (TRS_mv p1.1.2.1 (TRS_D p6 d.1) r)) (FRm_of d.1 r1) (by have := d.2.2.2.2; omega) (fun k => by rw [r1.1 0 k (by decide) (by decide)]; exact d.1.2.2 0 k (by omega))
  · have r1 : zRMk K K := ⟨fun _ _ _ _ => rfl, fun _ _ _ _ _ _ _ => rfl⟩
    exact hR x y n K G2 (JI_mk h y1 y2 p1 p5 d p3 r1 (TRS_D p6 d.1)) (FRm_of d.1 r1) (by have := d.2.2.2.2; omega) (fun k => d.1.2.2 0 k (by omega))
end JFR
