section JST
variable {n : Nat} {H : e3_H} {G : e3_G} {R : Int → Int → e3_H → e3_G → Prop} {W : Int → e3_H → e3_G → Prop}
/-- what is behind a call, of whatever answers -/
def JR (n : Nat) (H : e3_H) (G : e3_G) (R : Int → Int → e3_H → e3_G → Prop) : Prop := ∀ (x y : Int) (n2 : Nat) (K : e3_H) (G2 : e3_G), JI n2 K G2 → gz G2 + 860 * (n2 : Int) ≤ gz G + 860 * (n : Int) + 6880 → (∀ k : Int, K 0 k = H 0 k) → R x y K G2
/-- what is behind a call with equal answers -/
def JRe (n : Nat) (H : e3_H) (G : e3_G) (R : Int → Int → e3_H → e3_G → Prop) : Prop := ∀ (x : Int) (n2 : Nat) (K : e3_H) (G2 : e3_G), JI n2 K G2 → gz G2 + 860 * (n2 : Int) ≤ gz G + 860 * (n : Int) + 6880 → (∀ k : Int, K 0 k = H 0 k) → R x x K G2
/-- what is behind the class's part of a call -/
def JW (H : e3_H) (R : Int → Int → e3_H → e3_G → Prop) (wm : (Int → e3_H → e3_G → Prop) → e3_H → e3_G → Prop) (W : Int → e3_H → e3_G → Prop) : Prop := ∀ (x : Int) (K : e3_H) (G2 : e3_G), (∀ k : Int, K 0 k = H 0 k) → wm (fun y H2 G2 => R x y H2 G2) K G2 → W x K G2
theorem JR_e (h : JR n H G R) : JRe n H G R := fun x => h x x
theorem JR_0 (hR : JR n H G R) (x y : Int) (K : e3_H) (h : JI n K G) (e : ∀ k : Int, K 0 k = H 0 k) : R x y K G := hR x y n K G h (by omega) e
theorem jV (h : JI n H G) (hR : JR n H G R) {wp : (Int → e3_H → e3_G → Prop) → e3_H → e3_G → Prop} {wm : (Int → e3_H → e3_G → Prop) → e3_H → e3_G → Prop} (hW : JW H R wm W) (hp : ∀ (H : e3_H) (Q : Int → e3_H → e3_G → Prop), JI n H G → (∀ x K, zF 26 33 H K → zLX K → Q x K G) → wp Q H G) (hm : ∀ (H : e3_H) (Q : Int → e3_H → e3_G → Prop), JI n H G → (∀ x K, zMF H K → zMV K → Q x K G) → wm Q H G) : wp W H G := by
  refine hp H _ h (fun x K f l => hW x K G (fun k => f 0 k (by omega)) ?_)
  have hK := JI_c h f l
  refine hm K _ hK (fun y K2 f2 v => JR_0 hR x y K2 (JI_m hK f2 v) (fun k => ?_))
  rw [f2.1 0 k (by decide) (by decide)]
  exact f 0 k (by omega)
theorem j_whole {l1 : Int} (h : JI n H G) (hR : JR n H G R) (hW : JW H R (fun Q H G => wM_whole Q l1 H G) W) : wP_whole W l1 H G := jV (wp := fun Q H G => wP_whole Q l1 H G) h hR hW (fun H Q h hQ => zP_whole h.1.2 h.2.2.1.1 l1 hQ) (fun H Q h hQ => zM_whole h.2.2.2.1.1 l1 hQ)
theorem j_truth {l1 : Int} (h : JI n H G) (hR : JR n H G R) (hW : JW H R (fun Q H G => wM_truth Q l1 H G) W) : wP_truth W l1 H G := jV (wp := fun Q H G => wP_truth Q l1 H G) h hR hW (fun H Q h hQ => zP_truth h.1.2 h.2.2.1.1 l1 hQ) (fun H Q h hQ => zM_truth h.2.2.2.1.1 l1 hQ)
theorem j_letters {l1 : Int} (h : JI n H G) (hR : JR n H G R) (hW : JW H R (fun Q H G => wM_letters Q l1 H G) W) : wP_letters W l1 H G := jV (wp := fun Q H G => wP_letters Q l1 H G) h hR hW (fun H Q h hQ => zP_letters h.1.2 h.2.2.1.1 l1 hQ) (fun H Q h hQ => zM_letters h.2.2.2.1.1 l1 hQ)
theorem j_nothing (h : JI n H G) (hR : JR n H G R) (hW : JW H R (fun Q H G => wM_nothing Q H G) W) : wP_nothing W H G := jV (wp := fun Q H G => wP_nothing Q H G) h hR hW (fun H Q h hQ => zP_nothing h.1.2 h.2.2.1.1 hQ) (fun H Q h hQ => zM_nothing h.2.2.2.1.1 hQ)
theorem j_make {l1 l2 l3 l4 l5 : Int} (h : JI n H G) (hR : JR n H G R) (hW : JW H R (fun Q H G => wM_make Q l1 l2 l3 l4 l5 H G) W) : wP_make W l1 l2 l3 l4 l5 H G := jV (wp := fun Q H G => wP_make Q l1 l2 l3 l4 l5 H G) h hR hW (fun H Q h hQ => zP_make h.1.2 (JI_K h).1 h.2.2.1.1 l1 l2 l3 l4 l5 hQ) (fun H Q h hQ => zM_make h.2.2.2.1.1 (JI_K h).2.1 l1 l2 l3 l4 l5 hQ)
theorem j_value {l1 l2 : Int} (h : JI n H G) (hR : JR n H G R) (hW : JW H R (fun Q H G => wM_value Q l1 l2 H G) W) : wP_value W l1 l2 H G := zP_value h.2.2.1.1 l1 l2 (fun x => hW x H G (fun _ => rfl) (zM_value h.2.2.2.1.1 (JI_K h).2.1 l1 l2 (fun y => JR_0 hR x y H h (fun _ => rfl))))
theorem j_kind {l1 l2 : Int} (h : JI n H G) (hR : JR n H G R) (hW : JW H R (fun Q H G => wM_kind Q l1 l2 H G) W) : wP_kind W l1 l2 H G := zP_kind (JI_K h).1 (JI_K h).2.2 l1 l2 (fun x => hW x H G (fun _ => rfl) (zM_kind (JI_K h).2.1 l1 l2 (fun y => JR_0 hR x y H h (fun _ => rfl))))
theorem j_function {l1 l2 : Int} (h : JI n H G) (hR : JR n H G R) (hW : JW H R (fun Q H G => wM_function Q l1 l2 H G) W) : wP_function W l1 l2 H G := by
  obtain ⟨nf, hT⟩ := JI_T h
  exact zP_function (JI_K h).2.2 l1 l2 (fun x => hW x H G (fun _ => rfl) (zM_function hT l1 l2 (fun y => JR_0 hR x y H h (fun _ => rfl))))
theorem j_node {l1 l2 l3 : Int} (h : JI n H G) (hR : JR n H G R) (hW : JW H R (fun Q H G => wM_node Q l1 l2 l3 H G) W) : wP_node W l1 l2 l3 H G := by
  obtain ⟨nf, hT⟩ := JI_T h
  exact zP_node (JI_K h).2.2 l1 l2 l3 (fun x => hW x H G (fun _ => rfl) (zM_node hT l1 l2 l3 (fun y => JR_0 hR x y H h (fun _ => rfl))))
theorem j_branch {l1 l2 l3 : Int} (h : JI n H G) (hR : JR n H G R) (hW : JW H R (fun Q H G => wM_branch Q l1 l2 l3 H G) W) : wP_branch W l1 l2 l3 H G := by
  obtain ⟨nf, hT⟩ := JI_T h
  exact zP_branch (JI_K h).2.2 l1 l2 l3 (fun x => hW x H G (fun _ => rfl) (zM_branch hT l1 l2 l3 (fun y => JR_0 hR x y H h (fun _ => rfl))))
end JST
