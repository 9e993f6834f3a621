section E1T
variable {n : Nat} {H : e3_H} {G : e3_G} {R : Int → Int → e3_H → e3_G → Prop} {W : Int → e3_H → e3_G → Prop}
theorem JF_0 {F : e3_H → Prop} (hR : JF n H G F R) (h : JI n H G) (hF : F H) (x y : Int) : R x y H G := hR x y n H G h hF (by omega) (fun _ => rfl)
theorem JF_w {F F2 : e3_H → Prop} (hR : JF n H G F R) (hi : ∀ (n2 : Nat) (K : e3_H) (G2 : e3_G), JI n2 K G2 → F2 K → F K) : JF n H G F2 R := fun x y n2 K G2 hJ hF hg h0 => hR x y n2 K G2 hJ (hi n2 K G2 hJ hF) hg h0
theorem JFe_w {F F2 : e3_H → Prop} (hR : JFe n H G F R) (hi : ∀ (n2 : Nat) (K : e3_H) (G2 : e3_G), JI n2 K G2 → F2 K → F K) : JFe n H G F2 R := fun x n2 K G2 hJ hF hg h0 => hR x n2 K G2 hJ (hi n2 K G2 hJ hF) hg h0
theorem E1_s (h : JI n H G) (hE : E1 H) : ∀ (n2 : Nat) (K : e3_H) (G2 : e3_G), JI n2 K G2 → FRs H K → E1 K := fun _ K _ _ f => E1_eq h hE (fun a k ha => f.1 a k (by omega) (by omega) (by omega)) (f.1 2 7 (by decide) (by decide) (by decide)) (f.2 11 (by decide) (by decide)) (f.2 109 (by decide) (by decide))
theorem E1_m (h : JI n H G) (hE : E1 H) : ∀ (n2 : Nat) (K : e3_H) (G2 : e3_G), JI n2 K G2 → FRm H K → E1 K := fun _ K _ _ f => E1_eq h hE (fun a k ha => f.1 a k (by omega) (by omega)) (f.1 2 7 (by decide) (by decide)) (f.2 11 (by decide) (by decide) (by decide) (by decide) (by decide) (by decide)) (f.2 109 (by decide) (by decide) (by decide) (by decide) (by decide) (by decide))
theorem E1_f (h : JI n H G) (hE : E1 H) : ∀ (n2 : Nat) (K : e3_H) (G2 : e3_G), JI n2 K G2 → FRf H K → E1 K := fun _ K _ _ f => E1_eq h hE (fun a k ha => f a k (by omega) (by omega) (by omega)) (f 2 7 (by decide) (by decide) (by decide)) (f 40 11 (by decide) (by decide) (by decide)) (f 40 109 (by decide) (by decide) (by decide))
theorem E1_l (h : JI n H G) (hE : E1 H) : ∀ (n2 : Nat) (K : e3_H) (G2 : e3_G), JI n2 K G2 → (∀ a k : Int, a ≠ 133 → a ≠ 134 → K a k = H a k) → E1 K := fun _ K _ _ f => E1_eq h hE (fun a k ha => f a k (by omega) (by omega)) (f 2 7 (by decide) (by decide)) (f 40 11 (by decide) (by decide)) (f 40 109 (by decide) (by decide))
theorem E1_r (h : JI n H G) (hE : E1 H) : ∀ (n2 : Nat) (K : e3_H) (G2 : e3_G), JI n2 K G2 → FRr H K → E1 K := fun n2 K G2 hJ f => by
  obtain ⟨⟨f1, f2⟩, f3⟩ := f
  rcases f3 with rfl | ⟨z, l11, f4⟩
  · exact hE
  have h8 : H 8 0 = 0 := by
    rcases h.2.2.2.2 with ⟨_, _, _, y, _⟩ | ⟨y, _⟩
    · exact y
    · omega
  have k8 := (JI_K hJ).1.1
  refine ⟨VR_eq hE.1 (fun a k ha => f1 a k (by omega) (by omega)) (f2 109 (by decide)) ⟨by omega, fun k k0 k1 => by omega, fun k k1 => by omega, fun k k0 k1 => by omega, fun k k1 => by omega, fun k k0 k1 => by omega⟩, ?_⟩
  have hl := hE.2
  unfold LT at hl ⊢
  rcases f4 with ⟨_, g1, g2⟩ | ⟨_, g1⟩
  · omega
  · omega
theorem E1_a (h : JI n H G) (hE : E1 H) : ∀ (n2 : Nat) (K : e3_H) (G2 : e3_G), JI n2 K G2 → FRa H K → E1 K := fun n2 K G2 hJ f => by
  obtain ⟨⟨f1, f2⟩, f3, f4, f5⟩ := f
  have k8 := (JI_K hJ).1.1
  have h8 := (JI_K h).1.1
  refine ⟨VR_eq hE.1 (fun a k ha => f1 a k (by omega) (by omega)) (f2 109 (by decide)) ⟨by omega, f3.1, f3.2.1, f3.2.2, (KS_eq h (fun _ _ _ => rfl)).2.2.2.2⟩, ?_⟩
  have hl := hE.2
  unfold LT at hl ⊢
  rcases f5 with ⟨g1, g2⟩ | ⟨g1, g2⟩
  · omega
  · rw [e3_w32_id (by omega) (by omega)] at g2
    omega
theorem e1_value {l1 l2 : Int} (h : JI n H G) (hE : E1 H) (hR : JF n H G E1 R) (hW : JW H R (fun Q H G => wM_value Q l1 l2 H G) W) : wP_value W l1 l2 H G := f_value h (JF_0 hR h hE) hW
theorem e1_kind {l1 l2 : Int} (h : JI n H G) (hE : E1 H) (hR : JF n H G E1 R) (hW : JW H R (fun Q H G => wM_kind Q l1 l2 H G) W) : wP_kind W l1 l2 H G := f_kind h (JF_0 hR h hE) hW
theorem e1_function {l1 l2 : Int} (h : JI n H G) (hE : E1 H) (hR : JF n H G E1 R) (hW : JW H R (fun Q H G => wM_function Q l1 l2 H G) W) : wP_function W l1 l2 H G := f_function h (JF_0 hR h hE) hW
theorem e1_node {l1 l2 l3 : Int} (h : JI n H G) (hE : E1 H) (hR : JF n H G E1 R) (hW : JW H R (fun Q H G => wM_node Q l1 l2 l3 H G) W) : wP_node W l1 l2 l3 H G := f_node h (JF_0 hR h hE) hW
theorem e1_branch {l1 l2 l3 : Int} (h : JI n H G) (hE : E1 H) (hR : JF n H G E1 R) (hW : JW H R (fun Q H G => wM_branch Q l1 l2 l3 H G) W) : wP_branch W l1 l2 l3 H G := f_branch h (JF_0 hR h hE) hW
theorem e1_kindNamed {l1 : Int} (h : JI n H G) (hE : E1 H) (hR : JF n H G E1 R) (hW : JW H R (fun Q H G => wM_kindNamed Q l1 H G) W) : wP_kindNamed W l1 H G := f_kindNamed h (JF_0 hR h hE) hW
theorem e1_told {l1 : Int} (h : JI n H G) (hE : E1 H) (hR : JF n H G E1 R) (hW : JW H R (fun Q H G => wM_told Q l1 H G) W) : wP_told W l1 H G := f_told h (JF_0 hR h hE) hW
theorem e1_guard {l1 : Int} (h : JI n H G) (hE : E1 H) (hR : JF n H G E1 R) (hW : JW H R (fun Q H G => wM_guard Q l1 H G) W) : wP_guard W l1 H G := f_guard h (JF_0 hR h hE) hW
theorem e1_bound {l1 : Int} (h : JI n H G) (hE : E1 H) (hR : JF n H G E1 R) (hW : JW H R (fun Q H G => wM_bound Q l1 H G) W) : wP_bound W l1 H G := f_bound h (JF_0 hR h hE) hW
theorem e1_fault (h : JI n H G) (hE : E1 H) (hR : JF n H G E1 R) (hW : JW H R (fun Q H G => wM_fault Q H G) W) : wP_fault W H G := f_fault (JF_0 hR h hE) hW
theorem e1_alike {l1 l2 : Int} (h : JI n H G) (hE : E1 H) (hR : JF n H G E1 R) (hW : JW H R (fun Q H G => wM_alike Q l1 l2 H G) W) : wP_alike W l1 l2 H G := f_alike h (JF_w hR (E1_l h hE)) hW
theorem e1_sort {l1 l2 l3 l4 : Int} (h : JI n H G) (hE : E1 H) (hR : JF n H G E1 R) (hW : JW H R (fun Q H G => wM_sort Q l1 l2 l3 l4 H G) W) : wP_sort W l1 l2 l3 l4 H G := f_sort h (JF_w hR (E1_s h hE)) hW
theorem e1_plain {l1 l2 l3 l4 : Int} (h : JI n H G) (hE : E1 H) (hR : JF n H G E1 R) (hW : JW H R (fun Q H G => wM_plain Q l1 l2 l3 l4 H G) W) : wP_plain W l1 l2 l3 l4 H G := f_plain h (JF_w hR (E1_s h hE)) hW
theorem e1_feed {x l3 : Int} (h : JI n H G) (hE : E1 H) (hR : JFe n H G E1 R) (hW : JW H R (fun Q H G => wM_feed Q x l3 H G) W) : wP_feed W x l3 H G := f_feed h (JFe_w hR (E1_f h hE)) hW
theorem e1_read (h : JI n H G) (hE : E1 H) (hR : JFe n H G E1 R) (hW : JW H R (fun Q H G => wM_read Q H G) W) : wP_read W H G := f_read h (JFe_w hR (E1_r h hE)) hW
theorem e1_add (h : JI n H G) (hE : E1 H) (hR : JFe n H G E1 R) (hW : JW H R (fun Q H G => wM_add Q H G) W) : wP_add W H G := f_add h (JFe_w hR (E1_a h hE)) hW
theorem e1_remake {l1 l2 : Int} (h : JI n H G) (hE : E1 H) (hR : JF n H G E1 R) (hW : JW H R (fun Q H G => wM_remake Q l1 l2 H G) W) : wP_remake W l1 l2 H G := f_remake h (JF_w hR (E1_m h hE)) hW
theorem e1_missing {l1 : Int} (h : JI n H G) (hE : E1 H) (hR : JF n H G E1 R) (hW : JW H R (fun Q H G => wM_missing Q l1 H G) W) : wP_missing W l1 H G := f_missing h (JF_w hR (E1_m h hE)) hW
theorem e1_unreached {l1 l2 : Int} (h : JI n H G) (hE : E1 H) (hR : JF n H G E1 R) (hW : JW H R (fun Q H G => wM_unreached Q l1 l2 H G) W) : wP_unreached W l1 l2 H G := f_unreached h (JF_w hR (E1_m h hE)) hW
/-- count, in both -/
theorem e1_count {l1 : Int} (h : JI n H G) (hE : E1 H) (hR : JFe n H G E1 R) (hW : JW H R (fun Q H G => wM_count Q l1 H G) W) : wP_count W l1 H G := by
  have go : ∀ x : Int, R x x H G := fun x => hR x n H G h hE (by omega) (fun _ => rfl)
  have h8 := (JI_K h).1.1
  obtain ⟨l1', l2', l3'⟩ := hE.2
  have e8 : H 8 0 = H 40 10 ∧ H 14 3 = H 40 41 := by
    rcases h.2.2.2.2 with ⟨_, _, y1, y2, y3, y4⟩ | ⟨_, _, σ, g, m, nf, Vs, mr0, way, km, N, p1, p2, p3, p4, p5, p6⟩
    · omega
    · exact ⟨by rw [p2.2.1.1, p5.2.1.1], by rw [p2.1, p5.2.2]⟩
  have e3 : H 3 1 = H 40 1 := by rw [h.2.1.1.1, h.2.1.1.2]
  refine ⟨fun z => hW _ H G (fun _ => rfl) (brT z ?_), fun z => hW _ H G (fun _ => rfl) (brF (by omega) (brT z ?_)), fun z => hW _ H G (fun _ => rfl) (brF (by omega) (brF (by omega) (brT z ?_))), fun z => hW _ H G (fun _ => rfl) (brF (by omega) (brF (by omega) (brF (by omega) (brT z ?_)))), fun z => hW _ H G (fun _ => rfl) (brF (by omega) (brF (by omega) (brF (by omega) (brF (by omega) (brT z ?_))))), fun z => hW _ H G (fun _ => rfl) (brF (by omega) (brF (by omega) (brF (by omega) (brF (by omega) (brF (by omega) ?_)))))⟩
  · show R (H 8 0) (H 40 10) H G
    rw [← e8.1]; exact go _
  · show R (H 14 3) (H 40 41) H G
    rw [← e8.2]; exact go _
  · show R (H 26 1) (H 40 109) H G
    rw [← hE.1.1]; exact go _
  · show R (H 3 1) (H 40 1) H G
    rw [← e3]; exact go _
  · show R (e3_w32 (H 8 0 - H 2 7)) (H 40 11) H G
    rw [e3_w32_id (by omega) (by omega), l1']; exact go _
  · exact go _
end E1T
