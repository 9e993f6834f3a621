section JMK
variable {n m nf : Nat} {σ g H K : e3_H} {G G2 : e3_G} {Vs : Int → Int → Int → List (Int × Int)} {mr0 : Nat → Nat} {way km : Nat → Int} {N : Nat → List a_ND} {R : Int → Int → e3_H → e3_G → Prop} {W : Int → e3_H → e3_G → Prop}
/-- both programs behind the making of a tree -/
theorem JI_mk {K2 : e3_H} {way2 km2 : Nat → Int} {N2 : Nat → List a_ND} (h : JI n H G) (y1 : H 2 6 = 1) (y2 : H 40 9 = 1) (p1 : PXc σ m nf Vs mr0) (p5 : TM0 σ m nf H) (d : PDw σ g m nf Vs way2 km2 N2 H G K G2) (p3 : ∀ f : Nat, f < nf → NCt (N2 f)) (r : zRMk K K2) (s : TRS σ nf Vs mr0 way2 km2 N2 K2) : JI n K2 G2 := by
  obtain ⟨⟨h1, h2⟩, ⟨⟨h3, h4⟩, h5, h6⟩, ⟨l, so⟩, ⟨v, w⟩, _⟩ := h
  obtain ⟨d1, d2, d3, d4, d5⟩ := d
  have el : ∀ a k : Int, a ≠ 40 → a < 16 ∨ (26 ≤ a ∧ a < 86) ∨ (127 < a ∧ a < 139) → K2 a k = H a k := fun a k a1 a2 => by rw [r.1 a k a1 (by omega)]; exact d1.2.2 a k (by omega)
  have ek : ∀ k : Int, k ≠ 61 → k ≠ 65 → k ≠ 71 → k ≠ 93 → k ≠ 99 → k ≠ 105 → K2 40 k = H 40 k := fun k k1 k2 k3 k4 k5 k6 => by rw [r.2 k k1 k2 k3 k4 k5 k6]; exact d1.2.2 40 k (by omega)
  have t4 : K2 4 = H 4 := funext fun k => el 4 k (by decide) (by decide)
  have t41 : K2 41 = H 41 := funext fun k => el 41 k (by decide) (by decide)
  have ht := d3.2.2.1.1
  refine ⟨⟨MKR_k d3 ⟨[], (List.append_nil _).symm⟩ (r.1 16 1 (by decide) (by decide)) (r.1 16 4 (by decide) (by decide)) (fun x _ _ => r.1 _ x (by omega) (by omega)) (fun j => r.1 1 j (by decide) (by decide)), ?_⟩, ⟨⟨by rw [el 3 1 (by decide) (by decide)]; exact h3, by rw [ek 1 (by decide) (by decide) (by decide) (by decide) (by decide) (by decide)]; exact h4⟩, h5, by rw [t4, t41]; exact h6⟩, ⟨zLX_eq l (fun a k a1 a2 => el a k (by omega) (by omega)), ?_⟩, ⟨zMV_eq v (fun a k a1 a2 => el a k (by omega) (by omega)) (ek 109 (by decide) (by decide) (by decide) (by decide) (by decide) (by decide)) (by rw [ek 10 (by decide) (by decide) (by decide) (by decide) (by decide) (by decide)]; exact Int.le_refl _) (fun k _ _ => el 44 k (by decide) (by decide)), ?_⟩, Or.inr ⟨?_, ?_, σ, g, m, nf, Vs, mr0, way2, km2, N2, p1, TX_lo d2 (fun a x ha => r.1 a x (by omega) (by omega)), p3, fun f hf => ?_, ?_, s⟩⟩
  · obtain ⟨E, z⟩ := d1.1
    rw [z]
    exact ⟨ga_app h2.1, ga_app h2.2.1, ga_app h2.2.2.1, ga_app h2.2.2.2.1, ga_app h2.2.2.2.2⟩
  · unfold zSO
    rw [el 34 9 (by decide) (by decide), el 34 11 (by decide) (by decide)]
    exact so
  · unfold zMH
    rw [ek 109 (by decide) (by decide) (by decide) (by decide) (by decide) (by decide), ek 123 (by decide) (by decide) (by decide) (by decide) (by decide) (by decide), ek 128 (by decide) (by decide) (by decide) (by decide) (by decide) (by decide)]
    exact ⟨fun i i0 i1 => by rw [el 136 i (by decide) (by decide)]; exact w.1 i i0 i1, w.2⟩
  · rw [el 2 6 (by decide) (by decide)]; exact y1
  · rw [ek 9 (by decide) (by decide) (by decide) (by decide) (by decide) (by decide)]; exact y2
  · have := (FY_fu (d2.2.2.1 f hf)).1
    rw [r.1 15 _ (by decide) (by decide), r.1 _ 7 (by omega) (by omega)]
    exact d4 f hf
  · obtain ⟨t1, ⟨t2, t3⟩, t5⟩ := p5
    exact ⟨fun a k a1 a2 a3 => by rw [el a k (by omega) (by omega)]; exact t1 a k a1 a2 a3, ⟨by rw [ek 10 (by decide) (by decide) (by decide) (by decide) (by decide) (by decide)]; exact t2, by rw [ek 16 (by decide) (by decide) (by decide) (by decide) (by decide) (by decide)]; exact t3⟩, by rw [ek 41 (by decide) (by decide) (by decide) (by decide) (by decide) (by decide)]; exact t5⟩
theorem TM0_D (p5 : TM0 σ m nf H) (d1 : D2 H G K G2) : TM0 σ m nf K := by
  obtain ⟨t1, ⟨t2, t3⟩, t5⟩ := p5
  exact ⟨fun a k a1 a2 a3 => by rw [d1.2.2 a k (by omega)]; exact t1 a k a1 a2 a3, ⟨by rw [d1.2.2 40 10 (by decide)]; exact t2, by rw [d1.2.2 40 16 (by decide)]; exact t3⟩, by rw [d1.2.2 40 41 (by decide)]; exact t5⟩
theorem zMS1_D (p6 : zMS1 nf H) (d1 : D2 H G K G2) : zMS1 nf K := zMS1_eq p6 (fun a k ha => d1.2.2 a k (by omega))
theorem TRS_D (p6 : TRS σ nf Vs mr0 way km N H) (d1 : D2 H G K G2) : TRS σ nf Vs mr0 way km N K := TRS_eq p6 (fun a k ha => d1.2.2 a k (by omega))
/-- remake, in both, with equal answers -/
theorem c_remake {l1 l2 : Int} (h : JI n H G) (hR : ∀ (x : Int) (K K2 : e3_H) (G2 : e3_G), JI n K2 G2 → D2 H G K G2 → zRMk K K2 → gz G2 ≤ gz G + 818 → R x x K2 G2) (hW : JW H R (fun Q H G => wM_remake Q l1 l2 H G) W) : wP_remake W l1 l2 H G := by
  obtain ⟨⟨hM, _⟩, _, _, _, hO⟩ := id h
  have d00 : D2 H G H G := ⟨⟨[], (List.append_nil _).symm⟩, fun _ _ _ _ _ _ => rfl, fun _ _ _ => rfl⟩
  have no : ∀ x : Int, R x x H G := fun x => hR x H H G h d00 ⟨fun _ _ _ _ => rfl, fun _ _ _ _ _ _ _ => rfl⟩ (by omega)
  rcases hO with ⟨y1, y2, k14, _, _, k41⟩ | ⟨y1, y2, σ, g, m, nf, Vs, mr0, way, km, N, p1, p2, p3, p4, p5, p6⟩
  · refine zR_functionAt (JI_K h).2.2 l1 (fun hx _ => absurd hx (by omega)) (brT (by decide) (hW _ H G (fun _ => rfl) ?_))
    refine cM_in (fun a b => ?_) (fun _ => ⟨Or.inl rfl, brT rfl (no _)⟩)
    rw [k41] at b
    exact absurd b (by have : e3_w32 (0 - 1) = -1 := by decide
                       omega)
  have e14 : H 14 3 = (nf : Int) := p2.1
  by_cases c : (0 ≤ l1 ∧ l1 < (nf : Int)) ∧ 0 ≤ l2 ∧ l2 ≤ 3
  case neg =>
    refine cP_remake p1 p2 hM p4 p3 (fun _ => hW (-1) H G (fun _ => rfl) ?_) (fun hx hl => absurd ⟨hx, hl⟩ c)
    by_cases d : 0 ≤ l1 ∧ l1 < (nf : Int)
    · refine cM_in (fun a b => ⟨Or.inr rfl, brF (by decide) (cM_in (fun a2 b2 => absurd ⟨d, a2, b2⟩ c) (fun _ => brT rfl (no _)))⟩) (fun z => ⟨Or.inl rfl, brT rfl (no _)⟩)
    · refine cM_in (fun a b => ?_) (fun z => ⟨Or.inl rfl, brT rfl (no _)⟩)
      rw [p5.2.2, e3_w32_id (by omega) (by have := p1.1.2.1; omega)] at b
      exact absurd ⟨a, by omega⟩ d
  obtain ⟨kk, N', hg⟩ := gr_ex (σ := σ) (m := m) (R := RR σ l1.toNat (Vs l1.toNat) false (mr0 l1.toNat)) (way := l2) _ [] (Nat.le_refl _)
  refine cP_remake p1 p2 hM p4 p3 (fun z => absurd c z) (fun hx hl => ⟨kk, N', hg, fun hn K G2 d => hW _ K G2 (fun k => d.1.2.2 0 k (by omega)) ?_, fun hn K G2 d => hW _ K G2 (fun k => d.1.2.2 0 k (by omega)) ?_⟩)
  · exact nM_remake p1 (TM0_D p5 d.1) (TRS_D p6 d.1) (fun _ _ => hg) (fun z => absurd c z) (fun _ _ _ K2 r s => hR _ K K2 G2 (JI_mk h y1 y2 p1 p5 d p3 r s) d.1 r d.2.2.2.2) (fun _ _ z => by omega)
  · refine nM_remake p1 (TM0_D p5 d.1) (TRS_D p6 d.1) (fun _ _ => hg) (fun z => absurd c z) (fun _ _ z => by omega) (fun _ _ _ K2 r s => hR _ K K2 G2 (JI_mk h y1 y2 p1 p5 d (fun f hf => ?_) r s) d.1 r d.2.2.2.2)
    unfold fup
    split
    · exact ⟨hn, gr_cnt (RR40 p1 p2 (by omega)) p1.1.2.2.2.2.1.2.1 _ _ _ hg⟩
    · exact p3 f hf
theorem j_remake_e {l1 l2 : Int} (h : JI n H G) (hR : JRe n H G R) (hW : JW H R (fun Q H G => wM_remake Q l1 l2 H G) W) : wP_remake W l1 l2 H G := c_remake h (fun x K K2 G2 hJ d r hg => hR x n K2 G2 hJ (by omega) (fun k => by rw [r.1 0 k (by decide) (by decide)]; exact d.2.2 0 k (by omega))) hW
theorem j_remake {l1 l2 : Int} (h : JI n H G) (hR : JR n H G R) (hW : JW H R (fun Q H G => wM_remake Q l1 l2 H G) W) : wP_remake W l1 l2 H G := j_remake_e h (JR_e hR) hW
/-- missing, in both -/
theorem j_missing {l1 : Int} (h : JI n H G) (hR : JR n H G R) (hW : JW H R (fun Q H G => wM_missing Q l1 H G) W) : wP_missing W l1 H G := by
  obtain ⟨⟨hM, _⟩, _, _, _, hO⟩ := id h
  rcases hO with ⟨y1, y2, k14, _, _, k41⟩ | ⟨y1, y2, σ, g, m, nf, Vs, mr0, way, km, N, p1, p2, p3, p4, p5, p6⟩
  · refine zR_functionAt (JI_K h).2.2 l1 (fun hx _ => absurd hx (by omega)) (brT (by decide) (hW _ H G (fun _ => rfl) ?_))
    refine cM_in (fun a b => ?_) (fun _ => ⟨Or.inl rfl, brT rfl (hR _ _ n H G h (by omega) (fun _ => rfl))⟩)
    rw [k41] at b
    exact absurd b (by have : e3_w32 (0 - 1) = -1 := by decide
                       omega)
  refine cP_missing p1 p2 hM p4 p3 (fun x K G2 d => hW x K G2 (fun k => d.1.2.2 0 k (by omega)) (zM_missing p1 (TM0_D p5 d.1) (fun y K2 r => ?_) (fun y => ?_)))
  · have r1 := zRMk_mv r
    exact hR x y n K2 G2 (JI_mk h y1 y2 p1 p5 d p3 r1 (TRS_mv p1.1.2.1 (TRS_D p6 d.1) r)) (by have := d.2.2.2.2; omega) (fun k => by rw [r1.1 0 k (by decide) (by decide)]; exact d.1.2.2 0 k (by omega))
  · exact hR x y n K G2 (JI_mk h y1 y2 p1 p5 d p3 ⟨fun _ _ _ _ => rfl, fun _ _ _ _ _ _ _ => rfl⟩ (TRS_D p6 d.1)) (by have := d.2.2.2.2; omega) (fun k => d.1.2.2 0 k (by omega))
/-- unreached, in both -/
theorem j_unreached {l1 l2 : Int} (h : JI n H G) (hR : JR n H G R) (hW : JW H R (fun Q H G => wM_unreached Q l1 l2 H G) W) : wP_unreached W l1 l2 H G := by
  obtain ⟨⟨hM, _⟩, _, _, _, hO⟩ := id h
  rcases hO with ⟨y1, y2, k14, _, _, k41⟩ | ⟨y1, y2, σ, g, m, nf, Vs, mr0, way, km, N, p1, p2, p3, p4, p5, p6⟩
  · refine zR_functionAt (JI_K h).2.2 l1 (fun hx _ => absurd hx (by omega)) (brT (by decide) (hW _ H G (fun _ => rfl) ?_))
    refine cM_in (fun a b => ?_) (fun _ => ⟨Or.inl rfl, brT rfl (hR _ _ n H G h (by omega) (fun _ => rfl))⟩)
    rw [k41] at b
    exact absurd b (by have : e3_w32 (0 - 1) = -1 := by decide
                       omega)
  refine cP_unreached p1 p2 hM p4 p3 (fun x K G2 d => hW x K G2 (fun k => d.1.2.2 0 k (by omega)) (zM_unreached p1 (TM0_D p5 d.1) (fun y K2 r => ?_) (fun y => ?_)))
  · have r1 := zRMk_mv r
    exact hR x y n K2 G2 (JI_mk h y1 y2 p1 p5 d p3 r1 (TRS_mv p1.1.2.1 (TRS_D p6 d.1) r)) (by have := d.2.2.2.2; omega) (fun k => by rw [r1.1 0 k (by decide) (by decide)]; exact d.1.2.2 0 k (by omega))
  · exact hR x y n K G2 (JI_mk h y1 y2 p1 p5 d p3 ⟨fun _ _ _ _ => rfl, fun _ _ _ _ _ _ _ => rfl⟩ (TRS_D p6 d.1)) (by have := d.2.2.2.2; omega) (fun k => d.1.2.2 0 k (by omega))
end JMK
