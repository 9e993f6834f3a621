section E2S
variable {n : Nat} {H : e3_H} {G : e3_G} {R : Int → Int → e3_H → e3_G → Prop} {W Q : Int → e3_H → e3_G → Prop}
/-- a FUNCTION's tree, here and there -/
theorem JI_nd (h : JI n H G) {f : Nat} (hf : (f : Int) < H 14 3) : ∃ (N : List a_ND) (cx : Int → Int) (cnt : Nat), (H (H 15 f) 7 = (cnt : Int) ∧ c_pl H G (H 15 f) cx ∧ H (H (H 15 f) 10) 0 = (N.length : Int) ∧ H (H (H 15 f) 10) 2 = H 100 f ∧ H (H (H 15 f) 10) 3 = H 101 f ∧ TC (H (H 15 f) 10) cx cnt 0 N H) ∧ (H 99 f = (N.length : Int) ∧ N.length ≤ 120) ∧ RTn (300 * (f : Int)) f N H := by
  rcases h.2.2.2.2 with ⟨_, _, k14, _⟩ | ⟨_, _, σ, g, m, nf, Vs, mr0, way, km, N, p1, p2, p3, p4, p5, p6⟩
  · omega
  have e14 : H 14 3 = (nf : Int) := p2.1
  have hf : f < nf := by omega
  obtain ⟨cx, cnt, c1, c2, c3, c4, c5, c6⟩ := p2.2.2.2.2.2 f hf
  obtain ⟨⟨t1, t2, t3, t4⟩, t5⟩ := p6.2 f hf
  exact ⟨N f, cx, cnt, ⟨c1, c2, c3, by rw [c4, t2], by rw [c5, t3], c6⟩, ⟨t1, t4⟩, RTn_a t5 (FY_row (p2.2.2.1 f hf) (p1.2.2.2.2.2.2 f hf).1)⟩
theorem JI_41 (h : JI n H G) : H 14 3 = H 40 41 := by
  rcases h.2.2.2.2 with ⟨_, _, y1, y2, y3, y4⟩ | ⟨_, _, σ, g, m, nf, Vs, mr0, way, km, N, p1, p2, p3, p4, p5, p6⟩
  · omega
  · rw [p2.1, p5.2.2]
/-- kind, in both -/
theorem j_kind_e {l1 l2 : Int} (h : JI n H G) (hR : JRe n H G R) (hW : JW H R (fun Q H G => wM_kind Q l1 l2 H G) W) : wP_kind W l1 l2 H G := by
  have go : ∀ x : Int, R x x H G := fun x => hR x n H G h (by omega) (fun _ => rfl)
  obtain ⟨σ, m, hd, hk, ht, h10⟩ := JI_kd h
  have e43 : H 43 = σ 43 := funext fun k => ht 43 k (by decide) (by decide)
  have h44 : 0 ≤ l1 → l1 < (m : Int) → 0 ≤ H 44 l1 ∧ H 44 l1 ≤ 4 := fun a b => by
    obtain ⟨k1, k2, _⟩ := hk.2.2.2.2 l1.toNat (by omega)
    rw [show ((l1.toNat : Nat) : Int) = l1 by omega] at k1 k2
    rw [ht 44 _ (by decide) (by decide)]
    exact ⟨k1, k2⟩
  refine vP_kind hd hk e43 (fun k => ht 44 k (by decide) (by decide)) (fun k => ht 45 k (by decide) (by decide)) (JI_K h).2.2 (JI_41 h) (fun z => ?_) (fun z => hW (-1) H G (fun _ => rfl) (nM_kind hk.2.1 h10 h44 (fun _ => go _) (fun a b c => absurd ⟨a, b, c⟩ z))) (fun a b c => hW _ H G (fun _ => rfl) (nM_kind hk.2.1 h10 h44 (fun z => absurd ⟨a, b, c⟩ z) (fun _ _ _ => go _)))
  obtain ⟨N, cx, cnt, c, _⟩ := JI_nd h (f := 0) z
  exact c.2.2.2.2.1
theorem vP_node_no {l1 l2 l3 : Int} (hS : zSX H G) (hno : ¬ ((0 ≤ l1 ∧ l1 < H 14 3) ∧ (0 ≤ l2 ∧ l2 < H (H (H 15 l1) 10) 0) ∧ 0 ≤ l3 ∧ l3 ≤ 4)) (hQ : Q (-1) H G) : wP_node Q l1 l2 l3 H G := by
  refine zR_fA hS l1 (fun hx hfu => brF (by have := hfu.1.1; omega) ?_) (fun _ => brT (by decide) hQ)
  have o := ga_ob (c := 8) hfu.1.2
  have q0 := hfu.2.2.2.2.2.1.2.1
  refine ⟨o, ga_ob (c := 5) q0, zE_has q0 l2 (fun hy => brF (by decide) ?_) (brT rfl hQ)⟩
  by_cases a : l3 < 0
  · exact brT a hQ
  refine brF a ?_
  by_cases b : 4 < l3
  · exact brT b hQ
  · exact absurd ⟨hx, hy, by omega, by omega⟩ hno
theorem nM_node_no {l1 l2 l3 : Int} {nf n9 : Nat} (h12 : nf ≤ 12) (h41 : H 40 41 = (nf : Int)) (h99 : 0 ≤ l1 → l1 < (nf : Int) → H 99 l1 = (n9 : Int)) (hn : n9 ≤ 120) (hno : ¬ ((0 ≤ l1 ∧ l1 < (nf : Int)) ∧ (0 ≤ l2 ∧ l2 < (n9 : Int)) ∧ 0 ≤ l3 ∧ l3 ≤ 4)) (hQ : Q (-1) H G) : wM_node Q l1 l2 l3 H G := by
  refine cM_in (fun a b => ⟨Or.inr rfl, brF (by decide) ?_⟩) (fun _ => ⟨Or.inl rfl, brT rfl hQ⟩)
  rw [h41, e3_w32_id (by omega) (by omega)] at b
  have e9 := h99 a (by omega)
  refine ⟨by omega, cM_in (fun c d => brF (by decide) (cM_in (fun e f => ?_) (fun _ => brT rfl hQ))) (fun _ => brT rfl hQ)⟩
  rw [e9, e3_w32_id (by omega) (by omega)] at d
  exact absurd ⟨⟨a, by omega⟩, ⟨c, by omega⟩, e, f⟩ hno
/-- node, in both -/
theorem j_node_e {l1 l2 l3 : Int} (h : JI n H G) (hR : JRe n H G R) (hW : JW H R (fun Q H G => wM_node Q l1 l2 l3 H G) W) : wP_node W l1 l2 l3 H G := by
  have go : ∀ x : Int, R x x H G := fun x => hR x n H G h (by omega) (fun _ => rfl)
  have hS := (JI_K h).2.2
  obtain ⟨nf, hT⟩ := JI_T h
  obtain ⟨h12, h41, _, hMS⟩ := id hT
  have e14 := JI_41 h
  by_cases hl : 0 ≤ l1 ∧ l1 < H 14 3
  case neg => exact vP_node_no hS (fun z => hl z.1) (hW (-1) H G (fun _ => rfl) (nM_node_no (n9 := 0) h12 h41 (fun a b => absurd ⟨a, by omega⟩ hl) (by decide) (fun z => hl ⟨z.1.1, by have := z.1.2; omega⟩) (go _)))
  obtain ⟨N, cx, cnt, ⟨c1, c2, c3, c4, c5, c6⟩, ⟨d1, d2⟩, r⟩ := JI_nd h (f := l1.toNat) (by omega)
  have ef : ((l1.toNat : Nat) : Int) = l1 := by omega
  rw [ef] at c1 c2 c3 c4 c5 c6 d1 r
  by_cases hx : (0 ≤ l2 ∧ l2 < (N.length : Int)) ∧ 0 ≤ l3 ∧ l3 ≤ 4
  case neg => exact vP_node_no hS (fun z => hx ⟨by rw [← c3]; exact z.2.1, z.2.2⟩) (hW (-1) H G (fun _ => rfl) (nM_node_no (n9 := N.length) h12 h41 (fun _ _ => d1) d2 (fun z => hx z.2) (go _)))
  have e2 : ((l2.toNat : Nat) : Int) = l2 := by omega
  have hjl : l2.toNat < N.length := by omega
  obtain ⟨d, hd⟩ : ∃ d, N[l2.toNat]? = some d := ⟨N[l2.toNat], List.getElem?_eq_getElem hjl⟩
  have t1 := c6 _ _ hd
  obtain ⟨r1, r2, r3, r4, r5, r6, r7⟩ := r _ _ hd
  rw [Int.zero_add, e2] at t1
  rw [e2] at r1 r2 r3 r4 r5 r6
  obtain ⟨n9, m1, m2, m3⟩ := hMS l1.toNat (by omega)
  have h105 := (m3 l2.toNat (by rw [ef] at m1; omega)).2.2.2.1
  rw [ef, e2] at h105
  have hxx : 3 ≤ d.1 → 1 ≤ d.2.2.1 ∧ d.2.2.1 < 2147483647 := fun z => by
    rw [r4 z] at h105
    rcases h105 with y | y
    · rcases t1.2.2.1 with w | w
      · omega
      · have := cx_pos c2 (H (H (H 15 l1) 10 + 3) l2).toNat (by omega)
        rw [show (((H (H (H 15 l1) 10 + 3) l2).toNat : Nat) : Int) = H (H (H 15 l1) 10 + 3) l2 by omega] at this
        omega
    · exact y
  refine vP_node (d := d) hS hl c2 c1 (by rw [c3]; exact hx.1) hx.2 t1 (fun z => (r2 z).1) (fun z => (r3 z).2) hxx (hW _ H G (fun _ => rfl) ?_)
  exact nM_node (d := d) (n := N.length) h12 h41 ⟨hl.1, by omega⟩ d1 d2 hx.1 hx.2 r1.1 r1.2.1 (fun z => (r2 z).2) (fun z => (r3 z).1) r4 (fun z => (r5 z).1) hxx (go _)
/-- branch, in both -/
theorem j_branch_e {l1 l2 l3 : Int} (h : JI n H G) (hR : JRe n H G R) (hW : JW H R (fun Q H G => wM_branch Q l1 l2 l3 H G) W) : wP_branch W l1 l2 l3 H G := by
  have go : ∀ x : Int, R x x H G := fun x => hR x n H G h (by omega) (fun _ => rfl)
  have hS := (JI_K h).2.2
  obtain ⟨nf, hT⟩ := JI_T h
  obtain ⟨h12, h41, _, hMS⟩ := id hT
  have e14 := JI_41 h
  by_cases hl : 0 ≤ l1 ∧ l1 < H 14 3
  case neg =>
    refine zR_fA hS l1 (fun hx _ => absurd hx hl) (fun _ => brT (by decide) (hW (-1) H G (fun _ => rfl) ?_))
    refine cM_in (fun a b => ?_) (fun _ => ⟨Or.inl rfl, brT rfl (go _)⟩)
    rw [h41, e3_w32_id (by omega) (by omega)] at b
    exact absurd ⟨a, by omega⟩ hl
  obtain ⟨N, cx, cnt, ⟨c1, c2, c3, c4, c5, c6⟩, ⟨d1, d2⟩, r⟩ := JI_nd h (f := l1.toNat) (by omega)
  have ef : ((l1.toNat : Nat) : Int) = l1 := by omega
  rw [ef] at c1 c2 c3 c4 c5 c6 d1 r
  by_cases hx : 0 ≤ l2 ∧ l2 < (N.length : Int)
  case neg =>
    refine zR_fA hS l1 (fun hy hfu => brF (by have := hfu.1.1; omega) ⟨ga_ob (c := 8) hfu.1.2, ga_ob (c := 5) hfu.2.2.2.2.2.1.2.1, zE_has hfu.2.2.2.2.2.1.2.1 l2 (fun hz => absurd ⟨hz.1, by omega⟩ hx) (brT rfl (hW (-1) H G (fun _ => rfl) ?_))⟩) (fun z => absurd hl z)
    refine cM_in (fun a b => ⟨Or.inr rfl, brF (by decide) ⟨by omega, cM_in (fun c d => ?_) (fun _ => brT rfl (go _))⟩⟩) (fun _ => ⟨Or.inl rfl, brT rfl (go _)⟩)
    rw [d1, e3_w32_id (by omega) (by omega)] at d
    exact absurd ⟨c, by omega⟩ hx
  have e2 : ((l2.toNat : Nat) : Int) = l2 := by omega
  have hjl : l2.toNat < N.length := by omega
  obtain ⟨d, hd⟩ : ∃ d, N[l2.toNat]? = some d := ⟨N[l2.toNat], List.getElem?_eq_getElem hjl⟩
  obtain ⟨r1, r2, r3, r4, r5, r6, r7⟩ := r _ _ hd
  rw [e2] at r1 r6
  obtain ⟨n9, m1, m2, m3⟩ := hMS l1.toNat (by omega)
  have h106 := (m3 l2.toNat (by rw [ef] at m1; omega)).2.2.1
  rw [ef, e2, r1.2.1] at h106
  have ref : ∀ x : Int, (¬ (0 ≤ l3 ∧ l3 < d.2.2.2.1) → x = -1) → (0 ≤ l3 → l3 < d.2.2.2.1 → x = (nxt N (l2.toNat + 1) l3.toNat : Nat)) → wM_branch (fun y H2 G2 => R x y H2 G2) l1 l2 l3 H G := fun x q1 q2 => nM_branch (d := d) (N := N) h12 h41 ⟨hl.1, by omega⟩ d1 d2 hx r1.2.1 ⟨r1.2.2.2.1, h106⟩ r6 r7 (fun z => by rw [← q1 z]; exact go _) (fun z1 z2 => by rw [← q2 z1 z2]; exact go _)
  exact vP_branch (d := d) hS hl c3 c6 (fun j d hj => (r j d hj).1.2.2.2.2) hx.1 hd r7 (fun z => hW (-1) H G (fun _ => rfl) (ref (-1) (fun _ => rfl) (fun y1 y2 => absurd ⟨y1, y2⟩ z))) (fun y1 y2 => hW _ H G (fun _ => rfl) (ref _ (fun z => absurd ⟨y1, y2⟩ z) (fun _ _ => rfl)))
end E2S
