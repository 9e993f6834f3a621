section JS2
variable {n : Nat} {H : e3_H} {G : e3_G} {R : e3_H → e3_G → Prop}
theorem j_kindNamed {l1 : Int} (h : JI n H G) (hR : JR n H G R) : wP_kindNamed (fun _ H1 G1 => wM_kindNamed (fun _ H2 G2 => R H2 G2) l1 H1 G1) l1 H G := zP_kindNamed (JI_K h).1 l1 (fun x => zM_kindNamed (JI_K h).2.1 l1 (fun y => hR H h (fun _ => rfl)))
theorem j_told {l1 : Int} (h : JI n H G) (hR : JR n H G R) : wP_told (fun _ H1 G1 => wM_told (fun _ H2 G2 => R H2 G2) l1 H1 G1) l1 H G := zP_told l1 (fun x => zM_told (fun y => hR H h (fun _ => rfl)))
theorem j_guard {l1 : Int} (h : JI n H G) (hR : JR n H G R) : wP_guard (fun _ H1 G1 => wM_guard (fun _ H2 G2 => R H2 G2) l1 H1 G1) l1 H G := zP_guard h.2.2.1.2 l1 (fun x => zM_guard h.2.2.2.1.2 (fun y => hR H h (fun _ => rfl)))
theorem j_bound {l1 : Int} (h : JI n H G) (hR : JR n H G R) : wP_bound (fun _ H1 G1 => wM_bound (fun _ H2 G2 => R H2 G2) l1 H1 G1) l1 H G := zP_bound h.2.2.1.2 l1 (fun x => zM_bound h.2.2.2.1.2 (fun y => hR H h (fun _ => rfl)))
theorem j_count {l1 : Int} (h : JI n H G) (hR : JR n H G R) : wP_count (fun _ H1 G1 => wM_count (fun _ H2 G2 => R H2 G2) l1 H1 G1) l1 H G := zP_count l1 (fun x => zM_count (fun y => hR H h (fun _ => rfl)))
theorem j_runs {l1 l2 l3 l4 l5 : Int} {Q : Int → e3_H → e3_G → Prop} (h : JI n H G) (hQ : ∀ x K, zR H K → zMH K → Q x K G) : wM_runs Q l1 l2 l3 l4 l5 H G := by
  have hv := h.2.2.2.1
  have hk := (JI_K h).2.1
  obtain ⟨_, _, _, _, hT⟩ := id h
  rcases hT with ⟨_, _, _, _, _, h41⟩ | ⟨_, _, σ, g, m, nf, Vs, mr0, way, km, N, p1, p2, p3, p4, p5, p6⟩
  · exact zM_runs (σ := H) (nf := 0) (Vs := fun _ _ _ => []) (by decide) h41 (fun f f0 f1 => by omega) (fun _ _ _ _ _ => rfl) hv.1 hk hv.2 (fun f hf => absurd hf (Nat.not_lt_zero _)) hQ
  · exact zM_runs (σ := σ) (nf := nf) (Vs := Vs) p1.1.2.1 p5.2.2 (zG_of p1 p2) p5.1 hv.1 hk hv.2 (fun f hf => by obtain ⟨k, a, _, b⟩ := p6 f hf; exact ⟨k, a, b⟩) hQ
theorem j_sort {l1 l2 l3 l4 : Int} (h : JI n H G) (hR : JR n H G R) : wP_sort (fun _ H1 G1 => wM_sort (fun _ H2 G2 => R H2 G2) l1 l2 l3 l4 H1 G1) l1 l2 l3 l4 H G := zP_sort h.1.2 h.2.2.1.1 (JI_K h).1 (JI_K h).2.2 h.2.2.1.2 l1 l2 l3 l4 (fun x K f s => j_runs (JI_s h f s) (fun y K2 f2 w => hR K2 (JI_r (JI_s h f s) f2 w) (fun k => by rw [f2.1 0 k (by decide) (by decide)]; exact f 0 k (by omega))))
theorem j_plain {l1 l2 l3 l4 : Int} (h : JI n H G) (hR : JR n H G R) : wP_plain (fun _ H1 G1 => wM_plain (fun _ H2 G2 => R H2 G2) l1 l2 l3 l4 H1 G1) l1 l2 l3 l4 H G := zP_plain h.1.2 h.2.2.1.1 (JI_K h).1 (JI_K h).2.2 h.2.2.1.2 l1 l2 l3 l4 (fun x K f s => j_runs (JI_s h f s) (fun y K2 f2 w => hR K2 (JI_r (JI_s h f s) f2 w) (fun k => by rw [f2.1 0 k (by decide) (by decide)]; exact f 0 k (by omega))))
end JS2
