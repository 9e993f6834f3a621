section JST
variable {n : Nat} {H : e3_H} {G : e3_G} {R : e3_H → e3_G → Prop}
/-- what is behind a call that leaves the tapes and makes nothing -/
def JR (n : Nat) (H : e3_H) (G : e3_G) (R : e3_H → e3_G → Prop) : Prop := ∀ K : e3_H, JI n K G → (∀ k : Int, K 0 k = H 0 k) → R K G
theorem jV (h : JI n H G) (hR : JR n H G R) {wp : (Int → e3_H → e3_G → Prop) → e3_H → e3_G → Prop} {wm : (Int → e3_H → e3_G → Prop) → e3_H → e3_G → Prop} (hp : ∀ (H : e3_H) (Q : Int → e3_H → e3_G → Prop), JI n H G → (∀ x K, zF 26 33 H K → zLX K → Q x K G) → wp Q H G) (hm : ∀ (H : e3_H) (Q : Int → e3_H → e3_G → Prop), JI n H G → (∀ x K, zMF H K → zMV K → Q x K G) → wm Q H G) : wp (fun _ H1 G1 => wm (fun _ H2 G2 => R H2 G2) H1 G1) H G := by
  refine hp H _ h (fun x K f l => ?_)
  have hK := JI_c h f l
  refine hm K _ hK (fun y K2 f2 v => hR K2 (JI_m hK f2 v) (fun k => ?_))
  rw [f2.1 0 k (by decide) (by decide)]
  exact f 0 k (by omega)
theorem j_whole {l1 : Int} (h : JI n H G) (hR : JR n H G R) : wP_whole (fun _ H1 G1 => wM_whole (fun _ H2 G2 => R H2 G2) l1 H1 G1) l1 H G := jV (wp := fun Q H G => wP_whole Q l1 H G) (wm := fun Q H G => wM_whole Q l1 H G) h hR (fun H Q h hQ => zP_whole h.1.2 h.2.2.1.1 l1 hQ) (fun H Q h hQ => zM_whole h.2.2.2.1.1 l1 hQ)
theorem j_truth {l1 : Int} (h : JI n H G) (hR : JR n H G R) : wP_truth (fun _ H1 G1 => wM_truth (fun _ H2 G2 => R H2 G2) l1 H1 G1) l1 H G := jV (wp := fun Q H G => wP_truth Q l1 H G) (wm := fun Q H G => wM_truth Q l1 H G) h hR (fun H Q h hQ => zP_truth h.1.2 h.2.2.1.1 l1 hQ) (fun H Q h hQ => zM_truth h.2.2.2.1.1 l1 hQ)
theorem j_letters {l1 : Int} (h : JI n H G) (hR : JR n H G R) : wP_letters (fun _ H1 G1 => wM_letters (fun _ H2 G2 => R H2 G2) l1 H1 G1) l1 H G := jV (wp := fun Q H G => wP_letters Q l1 H G) (wm := fun Q H G => wM_letters Q l1 H G) h hR (fun H Q h hQ => zP_letters h.1.2 h.2.2.1.1 l1 hQ) (fun H Q h hQ => zM_letters h.2.2.2.1.1 l1 hQ)
theorem j_nothing (h : JI n H G) (hR : JR n H G R) : wP_nothing (fun _ H1 G1 => wM_nothing (fun _ H2 G2 => R H2 G2) H1 G1) H G := jV (wp := fun Q H G => wP_nothing Q H G) (wm := fun Q H G => wM_nothing Q H G) h hR (fun H Q h hQ => zP_nothing h.1.2 h.2.2.1.1 hQ) (fun H Q h hQ => zM_nothing h.2.2.2.1.1 hQ)
theorem j_make {l1 l2 l3 l4 l5 : Int} (h : JI n H G) (hR : JR n H G R) : wP_make (fun _ H1 G1 => wM_make (fun _ H2 G2 => R H2 G2) l1 l2 l3 l4 l5 H1 G1) l1 l2 l3 l4 l5 H G := jV (wp := fun Q H G => wP_make Q l1 l2 l3 l4 l5 H G) (wm := fun Q H G => wM_make Q l1 l2 l3 l4 l5 H G) h hR (fun H Q h hQ => zP_make h.1.2 (JI_K h).1 h.2.2.1.1 l1 l2 l3 l4 l5 hQ) (fun H Q h hQ => zM_make h.2.2.2.1.1 (JI_K h).2.1 l1 l2 l3 l4 l5 hQ)
theorem j_value {l1 l2 : Int} (h : JI n H G) (hR : JR n H G R) : wP_value (fun _ H1 G1 => wM_value (fun _ H2 G2 => R H2 G2) l1 l2 H1 G1) l1 l2 H G := zP_value h.2.2.1.1 l1 l2 (fun x => zM_value h.2.2.2.1.1 (JI_K h).2.1 l1 l2 (fun y => hR H h (fun _ => rfl)))
theorem j_kind {l1 l2 : Int} (h : JI n H G) (hR : JR n H G R) : wP_kind (fun _ H1 G1 => wM_kind (fun _ H2 G2 => R H2 G2) l1 l2 H1 G1) l1 l2 H G := zP_kind (JI_K h).1 (JI_K h).2.2 l1 l2 (fun x => zM_kind (JI_K h).2.1 l1 l2 (fun y => hR H h (fun _ => rfl)))
theorem j_function {l1 l2 : Int} (h : JI n H G) (hR : JR n H G R) : wP_function (fun _ H1 G1 => wM_function (fun _ H2 G2 => R H2 G2) l1 l2 H1 G1) l1 l2 H G := by
  obtain ⟨nf, hT⟩ := JI_T h
  exact zP_function (JI_K h).2.2 l1 l2 (fun x => zM_function hT l1 l2 (fun y => hR H h (fun _ => rfl)))
theorem j_node {l1 l2 l3 : Int} (h : JI n H G) (hR : JR n H G R) : wP_node (fun _ H1 G1 => wM_node (fun _ H2 G2 => R H2 G2) l1 l2 l3 H1 G1) l1 l2 l3 H G := by
  obtain ⟨nf, hT⟩ := JI_T h
  exact zP_node (JI_K h).2.2 l1 l2 l3 (fun x => zM_node hT l1 l2 l3 (fun y => hR H h (fun _ => rfl)))
theorem j_branch {l1 l2 l3 : Int} (h : JI n H G) (hR : JR n H G R) : wP_branch (fun _ H1 G1 => wM_branch (fun _ H2 G2 => R H2 G2) l1 l2 l3 H1 G1) l1 l2 l3 H G := by
  obtain ⟨nf, hT⟩ := JI_T h
  exact zP_branch (JI_K h).2.2 l1 l2 l3 (fun x => zM_branch hT l1 l2 l3 (fun y => hR H h (fun _ => rfl)))
end JST
