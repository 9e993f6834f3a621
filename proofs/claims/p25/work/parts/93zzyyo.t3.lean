/-- what told, guard and bound look at before the first run -/
def E30 (H : e3_H) : Prop := H 40 126 = 0 ∧ (∀ i : Int, 0 ≤ i → i < 7 → H 37 i = 0) ∧ H 34 9 = 0 ∧ H 40 123 = 0 ∧ H 34 11 = 0 ∧ H 40 128 = 0
def E3i (H : e3_H) : Prop := E3s H ∨ E30 H
def F3 (H : e3_H) : Prop := E1 H ∧ E3i H
theorem E3i_eq {H K : e3_H} (h : E3i H) (e : ∀ a k : Int, (a = 34 ∧ (k = 9 ∨ k = 11)) ∨ (37 ≤ a ∧ a ≤ 39) ∨ (a = 40 ∧ 119 ≤ k ∧ k ≤ 128) ∨ a = 137 ∨ a = 138 → K a k = H a k) : E3i K := by
  have e7 : ∀ k : Int, K 37 k = H 37 k := fun k => e 37 k (by omega)
  have e8 : ∀ k : Int, K 38 k = H 38 k := fun k => e 38 k (by omega)
  have e9 : ∀ k : Int, K 39 k = H 39 k := fun k => e 39 k (by omega)
  have m7 : ∀ k : Int, K 137 k = H 137 k := fun k => e 137 k (by omega)
  have m8 : ∀ k : Int, K 138 k = H 138 k := fun k => e 138 k (by omega)
  have e40 : ∀ k : Int, 119 ≤ k → k ≤ 128 → K 40 k = H 40 k := fun k h1 h2 => e 40 k (by omega)
  have q9 : K 34 9 = H 34 9 := e 34 9 (by decide)
  have q11 : K 34 11 = H 34 11 := e 34 11 (by decide)
  rcases h with ⟨⟨o, ⟨c1, c2, c3, c4, c5, c6, c7⟩, ⟨m1, m2, m3, m4, m5, m6, m7', m9⟩⟩, h11, h39⟩ | ⟨z1, z2, z3, z4, z5, z6⟩
  · refine Or.inl ⟨⟨o, ⟨by rw [e7]; exact c1, by rw [e7]; exact c2, by rw [e7]; exact c3, by rw [e7]; exact c4, LGC_eq c5 (e7 4) q9 e8, by rw [e7]; exact c6, by rw [e7]; exact c7⟩, ⟨(e40 119 (by decide) (by decide)).trans m1, (e40 120 (by decide) (by decide)).trans m2, (e40 121 (by decide) (by decide)).trans m3, (e40 122 (by decide) (by decide)).trans m4, LGM_eq m5 (e40 123 (by decide) (by decide)) m7, (e40 124 (by decide) (by decide)).trans m6, (e40 125 (by decide) (by decide)).trans m7', (e40 126 (by decide) (by decide)).trans m9⟩⟩, ?_, fun k k0 k1 => ?_⟩
    · rw [q11, e40 128 (by decide) (by decide)]; exact h11
    · rw [q11] at k1
      rw [e9, m8]
      exact h39 k k0 k1
  · exact Or.inr ⟨(e40 126 (by decide) (by decide)).trans z1, fun i i0 i1 => by rw [e7]; exact z2 i i0 i1, by rw [q9]; exact z3, (e40 123 (by decide) (by decide)).trans z4, by rw [q11]; exact z5, (e40 128 (by decide) (by decide)).trans z6⟩
section T3L
variable {n : Nat} {H : e3_H} {G : e3_G} {R : Int → Int → e3_H → e3_G → Prop} {W : Int → e3_H → e3_G → Prop}
theorem F3_s (h : JI n H G) (hF : F3 H) : ∀ (n2 : Nat) (K : e3_H) (G2 : e3_G), JI n2 K G2 → FRs H K → E3i K → F3 K := fun n2 K G2 hJ f e => ⟨E1_s h hF.1 n2 K G2 hJ f, e⟩
theorem F3_m (h : JI n H G) (hF : F3 H) : ∀ (n2 : Nat) (K : e3_H) (G2 : e3_G), JI n2 K G2 → FRm H K → F3 K := fun n2 K G2 hJ f => ⟨E1_m h hF.1 n2 K G2 hJ f, E3i_eq hF.2 (fun a k ha => by
  by_cases z : a = 40
  · rw [z]; exact f.2 k (by omega) (by omega) (by omega) (by omega) (by omega) (by omega)
  · exact f.1 a k z (by omega))⟩
theorem F3_f (h : JI n H G) (hF : F3 H) : ∀ (n2 : Nat) (K : e3_H) (G2 : e3_G), JI n2 K G2 → FRf H K → F3 K := fun n2 K G2 hJ f => ⟨E1_f h hF.1 n2 K G2 hJ f, E3i_eq hF.2 (fun a k ha => f a k (by omega) (by omega) (by omega))⟩
theorem F3_l (h : JI n H G) (hF : F3 H) : ∀ (n2 : Nat) (K : e3_H) (G2 : e3_G), JI n2 K G2 → (∀ a k : Int, a ≠ 133 → a ≠ 134 → K a k = H a k) → F3 K := fun n2 K G2 hJ f => ⟨E1_l h hF.1 n2 K G2 hJ f, E3i_eq hF.2 (fun a k ha => f a k (by omega) (by omega))⟩
theorem F3_r (h : JI n H G) (hF : F3 H) : ∀ (n2 : Nat) (K : e3_H) (G2 : e3_G), JI n2 K G2 → FRr H K → F3 K := fun n2 K G2 hJ f => ⟨E1_r h hF.1 n2 K G2 hJ f, E3i_eq hF.2 (fun a k ha => by
  by_cases z : a = 40
  · rw [z]; exact f.1.2 k (by omega)
  · exact f.1.1 a k z (by omega))⟩
theorem F3_a (h : JI n H G) (hF : F3 H) : ∀ (n2 : Nat) (K : e3_H) (G2 : e3_G), JI n2 K G2 → FRa H K → F3 K := fun n2 K G2 hJ f => ⟨E1_a h hF.1 n2 K G2 hJ f, E3i_eq hF.2 (fun a k ha => by
  by_cases z : a = 40
  · rw [z]; exact f.1.2 k (by omega)
  · exact f.1.1 a k z (by omega))⟩
theorem F3_v (hF : F3 H) (hR : JF n H G F3 R) : JFe n H G (fun K => E1 K ∧ FRv H K) R := JFe_w (JF_e hR) (fun _ K _ _ hK => ⟨hK.1, E3i_eq hF.2 (fun a k ha => hK.2 a k (by omega) (by omega) (by omega))⟩)
theorem t3_value {l1 l2 : Int} (h : JI n H G) (hF : F3 H) (hR : JF n H G F3 R) (hW : JW H R (fun Q H G => wM_value Q l1 l2 H G) W) : wP_value W l1 l2 H G := f_value h (JF_0 hR h hF) hW
theorem t3_kind {l1 l2 : Int} (h : JI n H G) (hF : F3 H) (hR : JF n H G F3 R) (hW : JW H R (fun Q H G => wM_kind Q l1 l2 H G) W) : wP_kind W l1 l2 H G := f_kind h (JF_0 hR h hF) hW
theorem t3_function {l1 l2 : Int} (h : JI n H G) (hF : F3 H) (hR : JF n H G F3 R) (hW : JW H R (fun Q H G => wM_function Q l1 l2 H G) W) : wP_function W l1 l2 H G := f_function h (JF_0 hR h hF) hW
theorem t3_node {l1 l2 l3 : Int} (h : JI n H G) (hF : F3 H) (hR : JF n H G F3 R) (hW : JW H R (fun Q H G => wM_node Q l1 l2 l3 H G) W) : wP_node W l1 l2 l3 H G := f_node h (JF_0 hR h hF) hW
theorem t3_branch {l1 l2 l3 : Int} (h : JI n H G) (hF : F3 H) (hR : JF n H G F3 R) (hW : JW H R (fun Q H G => wM_branch Q l1 l2 l3 H G) W) : wP_branch W l1 l2 l3 H G := f_branch h (JF_0 hR h hF) hW
theorem t3_kindNamed {l1 : Int} (h : JI n H G) (hF : F3 H) (hR : JF n H G F3 R) (hW : JW H R (fun Q H G => wM_kindNamed Q l1 H G) W) : wP_kindNamed W l1 H G := f_kindNamed h (JF_0 hR h hF) hW
theorem t3_told {l1 : Int} (h : JI n H G) (hF : F3 H) (hR : JF n H G F3 R) (hW : JW H R (fun Q H G => wM_told Q l1 H G) W) : wP_told W l1 H G := f_told h (JF_0 hR h hF) hW
theorem t3_guard {l1 : Int} (h : JI n H G) (hF : F3 H) (hR : JF n H G F3 R) (hW : JW H R (fun Q H G => wM_guard Q l1 H G) W) : wP_guard W l1 H G := f_guard h (JF_0 hR h hF) hW
theorem t3_bound {l1 : Int} (h : JI n H G) (hF : F3 H) (hR : JF n H G F3 R) (hW : JW H R (fun Q H G => wM_bound Q l1 H G) W) : wP_bound W l1 H G := f_bound h (JF_0 hR h hF) hW
theorem t3_count {l1 : Int} (h : JI n H G) (hF : F3 H) (hR : JF n H G F3 R) (hW : JW H R (fun Q H G => wM_count Q l1 H G) W) : wP_count W l1 H G := f_count (JF_0 hR h hF) hW
theorem t3_fault (h : JI n H G) (hF : F3 H) (hR : JF n H G F3 R) (hW : JW H R (fun Q H G => wM_fault Q H G) W) : wP_fault W H G := f_fault (JF_0 hR h hF) hW
theorem t3_alike {l1 l2 : Int} (h : JI n H G) (hF : F3 H) (hR : JF n H G F3 R) (hW : JW H R (fun Q H G => wM_alike Q l1 l2 H G) W) : wP_alike W l1 l2 H G := f_alike h (JF_w hR (F3_l h hF)) hW
theorem t3_feed {x l3 : Int} (h : JI n H G) (hF : F3 H) (hR : JF n H G F3 R) (hW : JW H R (fun Q H G => wM_feed Q x l3 H G) W) : wP_feed W x l3 H G := f_feed h (JFe_w (JF_e hR) (F3_f h hF)) hW
theorem t3_read (h : JI n H G) (hF : F3 H) (hR : JF n H G F3 R) (hW : JW H R (fun Q H G => wM_read Q H G) W) : wP_read W H G := f_read h (JFe_w (JF_e hR) (F3_r h hF)) hW
theorem t3_add (h : JI n H G) (hF : F3 H) (hR : JF n H G F3 R) (hW : JW H R (fun Q H G => wM_add Q H G) W) : wP_add W H G := f_add h (JFe_w (JF_e hR) (F3_a h hF)) hW
theorem t3_remake {l1 l2 : Int} (h : JI n H G) (hF : F3 H) (hR : JF n H G F3 R) (hW : JW H R (fun Q H G => wM_remake Q l1 l2 H G) W) : wP_remake W l1 l2 H G := f_remake h (JF_w hR (F3_m h hF)) hW
theorem t3_missing {l1 : Int} (h : JI n H G) (hF : F3 H) (hR : JF n H G F3 R) (hW : JW H R (fun Q H G => wM_missing Q l1 H G) W) : wP_missing W l1 H G := f_missing h (JF_w hR (F3_m h hF)) hW
theorem t3_unreached {l1 l2 : Int} (h : JI n H G) (hF : F3 H) (hR : JF n H G F3 R) (hW : JW H R (fun Q H G => wM_unreached Q l1 l2 H G) W) : wP_unreached W l1 l2 H G := f_unreached h (JF_w hR (F3_m h hF)) hW
theorem t3_whole {l1 : Int} (h : JI n H G) (hF : F3 H) (hi : e3_i32 l1) (hR : JF n H G F3 R) (hW : JW H R (fun Q H G => wM_whole Q l1 H G) W) : wP_whole W l1 H G := e1_whole h hF.1 hi (F3_v hF hR) hW
theorem t3_truth {l1 : Int} (h : JI n H G) (hF : F3 H) (hR : JF n H G F3 R) (hW : JW H R (fun Q H G => wM_truth Q l1 H G) W) : wP_truth W l1 H G := e1_truth h hF.1 (F3_v hF hR) hW
theorem t3_letters {l1 : Int} (h : JI n H G) (hF : F3 H) (hi : e3_i64 l1) (hR : JF n H G F3 R) (hW : JW H R (fun Q H G => wM_letters Q l1 H G) W) : wP_letters W l1 H G := e1_letters h hF.1 hi (F3_v hF hR) hW
theorem t3_nothing (h : JI n H G) (hF : F3 H) (hR : JF n H G F3 R) (hW : JW H R (fun Q H G => wM_nothing Q H G) W) : wP_nothing W H G := e1_nothing h hF.1 (F3_v hF hR) hW
theorem t3_make {l1 l2 l3 l4 l5 : Int} (h : JI n H G) (hF : F3 H) (hR : JF n H G F3 R) (hW : JW H R (fun Q H G => wM_make Q l1 l2 l3 l4 l5 H G) W) : wP_make W l1 l2 l3 l4 l5 H G := e1_make h hF.1 (F3_v hF hR) hW
theorem t3_sort {l1 l2 l3 l4 : Int} (h : JI n H G) (hF : F3 H) (hR : JF n H G F3 R) (hW : JW H R (fun Q H G => wM_sort Q l1 l2 l3 l4 H G) W) : wP_sort W l1 l2 l3 l4 H G := by
  have hE := hF.1
  have hW' : ∀ x K, zF 34 39 H K → wM_runs (fun y H2 G2 => R x y H2 G2) l1 l2 l3 l4 1 K G → W x K G := fun x K f hr => hW x K G (fun k => f 0 k (by decide)) hr
  obtain ⟨_, _, ⟨hl, hso⟩, ⟨hv, hmh⟩, hTx⟩ := id h
  rcases hTx with ⟨_, _, y3, _, _, y6⟩ | ⟨_, _, σ, g, m, nf, Vs, mr0, way, km, N, p1, p2, p3, p4, p5, p6⟩
  · exact e3_runs0 y3 y6 (hR (-1) (-1) n H G h hF (by omega) (fun _ => rfl)) hW'
  · obtain ⟨σt, mt, kk, D, hTR⟩ := TRX_of p6
    have hTV : ∀ a : Int → Int, TV σ m (mwl H a) := fun a => TV_of h p1 p2 p5 hE.1 (fun b x hb => mwl_ne (by omega)) (mwl_ne (by decide))
    refine e3_runs h hE p1 p2 p5 (Sft_C h p1 p2 p3 p5 hE.1 hl hTR) (fun K0 f0 => Sft_M h p1 p2 p5 hE.1 hl hv p6 hTR f0) (fun f a hf hlt => Sft_ok p1 p2 hTR hTV f a hf hlt) (fun K f s g1 => ?_) (fun x K K2 f s r w e3 => ?_) hW'
    · have JK := JI_s h f s
      exact hR (-1) (-1) n K G JK (F3_s h hF n K G JK (FRs_of f (zR_rf K)) (E3i_eq hF.2 (fun a k ha => g1 a k (by omega)))) (by omega) (fun k => f 0 k (by decide))
    · have JK := JI_r (JI_s h f s) r w
      exact hR x x n K2 G JK (F3_s h hF n K2 G JK (FRs_of f r) (Or.inl e3)) (by omega) (fun k => by rw [r.1 0 k (by decide) (by decide)]; exact f 0 k (by decide))
theorem t3_plain {l1 l2 l3 l4 : Int} (h : JI n H G) (hF : F3 H) (hR : JF n H G F3 R) (hW : JW H R (fun Q H G => wM_plain Q l1 l2 l3 l4 H G) W) : wP_plain W l1 l2 l3 l4 H G := by
  have hE := hF.1
  have hW' : ∀ x K, zF 34 39 H K → wM_runs (fun y H2 G2 => R x y H2 G2) l1 l2 l3 l4 0 K G → W x K G := fun x K f hr => hW x K G (fun k => f 0 k (by decide)) hr
  obtain ⟨_, _, ⟨hl, hso⟩, ⟨hv, hmh⟩, hTx⟩ := id h
  rcases hTx with ⟨_, _, y3, _, _, y6⟩ | ⟨_, _, σ, g, m, nf, Vs, mr0, way, km, N, p1, p2, p3, p4, p5, p6⟩
  · exact e3_runs0 y3 y6 (hR (-1) (-1) n H G h hF (by omega) (fun _ => rfl)) hW'
  · have hTV : ∀ a : Int → Int, TV σ m (mwl H a) := fun a => TV_of h p1 p2 p5 hE.1 (fun b x hb => mwl_ne (by omega)) (mwl_ne (by decide))
    refine e3_runs h hE p1 p2 p5 (Srl_C h p1 p2 p5 hE.1 hl) (fun K0 f0 => Srl_M h p1 p2 p5 hE.1 hl f0) (fun f a hf hlt => Srl_ok p1 hTV f a hf hlt) (fun K f s g1 => ?_) (fun x K K2 f s r w e3 => ?_) hW'
    · have JK := JI_s h f s
      exact hR (-1) (-1) n K G JK (F3_s h hF n K G JK (FRs_of f (zR_rf K)) (E3i_eq hF.2 (fun a k ha => g1 a k (by omega)))) (by omega) (fun k => f 0 k (by decide))
    · have JK := JI_r (JI_s h f s) r w
      exact hR x x n K2 G JK (F3_s h hF n K2 G JK (FRs_of f r) (Or.inl e3)) (by omega) (fun k => by rw [r.1 0 k (by decide) (by decide)]; exact f 0 k (by decide))
/-- told, in both -/
theorem t3_told_e {l1 : Int} (h : JI n H G) (hF : F3 H) (hR : JFe n H G F3 R) (hW : JW H R (fun Q H G => wM_told Q l1 H G) W) : wP_told W l1 H G := by
  have go : ∀ x : Int, R x x H G := fun x => hR x n H G h hF (by omega) (fun _ => rfl)
  have key : ∀ x y : Int, x = y → R x y H G := fun x y e => by rw [← e]; exact go x
  refine ⟨fun z => hW (-1) H G (fun _ => rfl) (cM_in (fun a b => absurd a (by omega)) (fun _ => brT rfl (go (-1)))), fun z => ⟨fun y => ⟨⟨by omega, y⟩, hW (H 37 l1) H G (fun _ => rfl) (cM_in (fun a b => brF (by decide) ?_) (fun nn => absurd ⟨by omega, by omega⟩ nn))⟩, fun y => hW (-1) H G (fun _ => rfl) (cM_in (fun a b => absurd b (by omega)) (fun _ => brT rfl (go (-1))))⟩⟩
  rcases hF.2 with ⟨⟨o, ⟨c1, c2, c3, c4, c5, c6, c7⟩, ⟨m1, m2, m3, m4, m5, m6, m7, m9⟩⟩, _⟩ | ⟨z1, z2, _⟩
  · refine brF (by rw [m9]; decide) ?_
    by_cases q0 : l1 = 0
    · exact brT q0 (key _ _ (by rw [q0, c1, m1]))
    refine brF q0 ?_
    by_cases q1 : l1 = 1
    · exact brT q1 (key _ _ (by rw [q1, c2, m2]))
    refine brF q1 ?_
    by_cases q2 : l1 = 2
    · exact brT q2 (key _ _ (by rw [q2, c3, m3]))
    refine brF q2 ?_
    by_cases q3 : l1 = 3
    · exact brT q3 (key _ _ (by rw [q3, c4, m4]))
    refine brF q3 ?_
    by_cases q4 : l1 = 4
    · exact brT q4 (key _ _ (by rw [q4, c5.1, m5.1]))
    refine brF q4 ?_
    by_cases q5 : l1 = 5
    · exact brT q5 (key _ _ (by rw [q5, c6, m6]))
    · have q6 : l1 = 6 := by omega
      exact brF q5 (key _ _ (by rw [q6, c7, m7]))
  · exact brT z1 (key _ _ (z2 l1 (by omega) (by omega)))
/-- guard, in both -/
theorem t3_guard_e {l1 : Int} (h : JI n H G) (hF : F3 H) (hR : JFe n H G F3 R) (hW : JW H R (fun Q H G => wM_guard Q l1 H G) W) : wP_guard W l1 H G := by
  have go : ∀ x : Int, R x x H G := fun x => hR x n H G h hF (by omega) (fun _ => rfl)
  have key : ∀ x y : Int, x = y → R x y H G := fun x y e => by rw [← e]; exact go x
  have hl : ∃ L : List Int, (H 34 9 = if (L.length : Int) < 32 then (L.length : Int) else 32) ∧ H 40 123 = (L.length : Int) ∧ ∀ i : Int, 0 ≤ i → i < 32 → i < (L.length : Int) → H 38 i = H 137 i := by
    rcases hF.2 with ⟨⟨o, ⟨c1, c2, c3, c4, c5, c6, c7⟩, ⟨m1, m2, m3, m4, m5, m6, m7, m9⟩⟩, _⟩ | ⟨_, _, z3, z4, _⟩
    · refine ⟨o.2.2.2.2.1, c5.2.1, m5.1, fun i i0 i1 i2 => ?_⟩
      obtain ⟨j, rfl⟩ : ∃ j : Nat, i = (j : Int) := ⟨i.toNat, by omega⟩
      have hj : j < o.2.2.2.2.1.length := by omega
      have hs := List.getElem?_eq_getElem hj
      rw [c5.2.2 j _ i1 hs, m5.2 j _ i1 hs]
    · exact ⟨[], z3, z4, fun i i0 _ i2 => by have : i < 0 := i2; omega⟩
  obtain ⟨L, l1', l2', l3'⟩ := hl
  have c0 : 0 ≤ H 34 9 ∧ H 34 9 ≤ 32 := by
    rw [l1']
    split <;> omega
  have ref : ∀ x : Int, (¬ (0 ≤ l1 ∧ l1 < H 34 9) → x = -4) → ((0 ≤ l1 ∧ l1 < H 34 9) → x = H 137 l1) → wM_guard (fun y H2 G2 => R x y H2 G2) l1 H G := fun x q0 q1 => by
    have one : ∀ s : Int, s = H 34 9 → wM_guard_21 (fun y H2 G2 => R x y H2 G2) l1 s 0 l1 H G := fun s hs => by
      unfold wM_guard_21
      rw [hs, e3_w32_id (x := H 34 9 - 1) (by omega) (by omega)]
      refine cM_in (fun a b => brF (by decide) ⟨⟨a, by omega⟩, key _ _ (q1 ⟨a, by omega⟩)⟩) (fun nn => brT rfl (key _ _ (q0 (fun y => nn ⟨y.1, by omega⟩))))
    refine ⟨fun z => one _ ?_, fun z => one _ ?_⟩
    · rw [l2'] at z ⊢
      rw [l1', if_pos z]
    · rw [l2'] at z
      rw [l1', if_neg z]
  refine ⟨fun z => hW (-4) H G (fun _ => rfl) (ref (-4) (fun _ => rfl) (fun y => absurd y.1 (by omega))), fun z => ⟨fun y => ⟨⟨by omega, by omega⟩, hW (H 38 l1) H G (fun _ => rfl) (ref _ (fun nn => absurd ⟨by omega, y⟩ nn) (fun _ => l3' l1 (by omega) (by omega) ?_))⟩, fun y => hW (-4) H G (fun _ => rfl) (ref (-4) (fun _ => rfl) (fun u => absurd u.2 y))⟩⟩
  rw [l1'] at y
  split at y <;> omega
/-- bound, in both -/
theorem t3_bound_e {l1 : Int} (h : JI n H G) (hF : F3 H) (hR : JFe n H G F3 R) (hW : JW H R (fun Q H G => wM_bound Q l1 H G) W) : wP_bound W l1 H G := by
  have go : ∀ x : Int, R x x H G := fun x => hR x n H G h hF (by omega) (fun _ => rfl)
  have key : ∀ x y : Int, x = y → R x y H G := fun x y e => by rw [← e]; exact go x
  have hl : (H 34 11 = H 40 128 ∧ 0 ≤ H 34 11 ∧ H 34 11 ≤ 8) ∧ ∀ k : Int, 0 ≤ k → k < H 34 11 → H 39 k = H 138 k := by
    rcases hF.2 with ⟨_, h11, h39⟩ | ⟨_, _, _, _, z5, z6⟩
    · exact ⟨h11, h39⟩
    · exact ⟨by omega, fun k k0 k1 => by omega⟩
  obtain ⟨⟨b1, b2, b3⟩, b4⟩ := hl
  have ref : ∀ x : Int, (¬ (0 ≤ l1 ∧ l1 < H 34 11) → x = -4) → ((0 ≤ l1 ∧ l1 < H 34 11) → x = H 138 l1) → wM_bound (fun y H2 G2 => R x y H2 G2) l1 H G := fun x q0 q1 => by
    unfold wM_bound
    rw [← b1, e3_w32_id (x := H 34 11 - 1) (by omega) (by omega)]
    exact cM_in (fun a b => brF (by decide) ⟨⟨a, by omega⟩, key _ _ (q1 ⟨a, by omega⟩)⟩) (fun nn => brT rfl (key _ _ (q0 (fun y => nn ⟨y.1, by omega⟩))))
  exact ⟨fun z => hW (-4) H G (fun _ => rfl) (ref (-4) (fun _ => rfl) (fun y => absurd y.1 (by omega))), fun z => ⟨fun y => ⟨⟨by omega, by omega⟩, hW (H 39 l1) H G (fun _ => rfl) (ref _ (fun nn => absurd ⟨by omega, y⟩ nn) (fun u => b4 l1 u.1 u.2))⟩, fun y => hW (-4) H G (fun _ => rfl) (ref (-4) (fun _ => rfl) (fun u => absurd u.2 y))⟩⟩
end T3L
