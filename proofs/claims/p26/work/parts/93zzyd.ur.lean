/-- whether a tree comes to a rule -/
def hitR (R : a_RW) (N : List a_ND) (r : Int) : Prop := ∃ (j : Nat) (d : a_ND) (w : Int × List (Int × Int)), N[j]? = some d ∧ 0 ≤ d.2.1 ∧ R[d.2.1.toNat]? = some w ∧ w.1 = r
section URC
variable {Q : Int → e3_H → e3_G → Prop} {H : e3_H} {G : e3_G} {fu : Int}
theorem zF_rA (h : zFU fu H G) (l1 : Int) (h1 : 0 ≤ l1 ∧ l1 < H fu 5 → zRW (H (H fu 6) l1) H G → Q (H (H fu 6) l1) H G) (h0 : ¬ (0 ≤ l1 ∧ l1 < H fu 5) → Q (-1) H G) : wF_rowAt Q fu l1 H G := by
  obtain ⟨a1, _, _, ⟨g3, g4, g5, g6⟩, _⟩ := h
  by_cases a : l1 < 0
  · exact brT a (h0 (by omega))
  · refine brF a ⟨ga_ob (c := 8) a1.2, ?_⟩
    by_cases b : l1 < H fu 5
    · exact brT b ⟨ga_ob (c := 8) a1.2, ga_oa g5 (by omega) (by omega), h1 ⟨by omega, b⟩ (g6 l1 (by omega) b)⟩
    · exact brF b (h0 (by omega))
theorem vF_comesTo {t : Int} {N : List a_ND} {cx : Int → Int} {cnt : Nat} (h : zTR t H G) (hu : zFU fu H G) (hN : H t 0 = (N.length : Int)) (hT : TC t cx cnt 0 N H) (l2 : Int) (h1 : (∃ (j : Nat) (d : a_ND), N[j]? = some d ∧ (0 ≤ d.2.1 ∧ d.2.1 < H fu 5) ∧ H (H (H (H fu 6) d.2.1) 0) 0 = l2) → Q 1 H G) (h0 : ¬ (∃ (j : Nat) (d : a_ND), N[j]? = some d ∧ (0 ≤ d.2.1 ∧ d.2.1 < H fu 5) ∧ H (H (H (H fu 6) d.2.1) 0) 0 = l2) → Q 0 H G) : wF_comesTo Q fu t l2 H G := by
  obtain ⟨⟨q, q0, _, ⟨p2, q2⟩, _⟩, t2, t3⟩ := h
  have key : ∀ (n j : Nat), j + n = N.length → (∀ (i : Nat) (d : a_ND), i < j → N[i]? = some d → ¬ ((0 ≤ d.2.1 ∧ d.2.1 < H fu 5) ∧ H (H (H (H fu 6) d.2.1) 0) 0 = l2)) → wF_comesTo_2 Q (n + 1) fu t l2 j H G := by
    intro n
    induction n with
    | zero =>
      intro j hj hs
      refine ⟨ga_ob (c := 5) q0, brF (by omega) (h0 (fun z => ?_))⟩
      obtain ⟨i, d, z1, z2, z3⟩ := z
      exact hs i d (by have := (List.getElem?_eq_some_iff.mp z1).1; omega) z1 ⟨z2, z3⟩
    | succ n ih =>
      intro j hj hs
      have hjl : j < N.length := by omega
      have hd : N[j]? = some N[j] := List.getElem?_eq_getElem hjl
      have ht := (hT j _ hd).2.1
      rw [show (0 : Int) + (j : Int) = j by omega] at ht
      have nx : ¬ ((0 ≤ N[j].2.1 ∧ N[j].2.1 < H fu 5) ∧ H (H (H (H fu 6) N[j].2.1) 0) 0 = l2) → wF_comesTo_41 Q (fun l0 l1 l2 l3 H G => wF_comesTo_2 Q (n + 1) l0 l1 l2 l3 H G) fu t l2 j H G := fun hno => by
        show wF_comesTo_2 Q (n + 1) fu t l2 (e3_w32 ((j : Int) + 1)) H G
        rw [w_p1 (by omega)]
        refine ih (j + 1) (by omega) (fun i d hi hid => ?_)
        by_cases z : i = j
        · subst z
          rw [hd] at hid
          cases hid
          exact hno
        · exact hs i d (by omega) hid
      refine ⟨ga_ob (c := 5) q0, brT (by omega) ⟨ga_ob (c := 5) q0, by rw [p2]; exact ga_oa q2 (by omega) (by omega), ga_ob (c := 8) hu.1.2, ?_⟩⟩
      rw [p2, ht]
      refine zF_rA hu _ (fun hr hR => brF (by have := hR.1.1; omega) ⟨ga_ob (c := 11) hR.1.2, ga_ob (c := 9) hR.2.1.1.2, ?_⟩) (fun hr => brT (by decide) (nx (fun z => hr z.1)))
      by_cases z : H (H (H (H fu 6) N[j].2.1) 0) 0 = l2
      · exact brT z (h1 ⟨j, _, hd, hr, z⟩)
      · exact brF z (nx (fun y => z y.2))
  exact ⟨N.length + 1, key N.length 0 (by omega) (fun i d hi => absurd hi (Nat.not_lt_zero _))⟩
end URC
section URU
variable {Q : Int → e3_H → e3_G → Prop} {σ g H : e3_H} {G : e3_G} {m nf : Nat} {Vs : Int → Int → Int → List (Int × Int)} {mr0 : Nat → Nat} {way km : Nat → Int} {N : Nat → List a_ND} {l1 l2 : Int}
theorem cP_unreached2 {k : Nat} {N' : List a_ND} (hP : PXc σ m nf Vs mr0) (hX : TX σ g m nf Vs way km N H G) (hM : MKR H G) (h8 : C8 nf H) (hN : ∀ f : Nat, f < nf → NCt (N f)) (hg : 0 ≤ l1 → l1 < (nf : Int) → gr σ m (RR σ l1.toNat (Vs l1.toNat) false (mr0 l1.toNat)) 0 k [] N')
    (hno : ¬ ((0 ≤ l1 ∧ l1 < (nf : Int)) ∧ 0 ≤ l2 ∧ l2 < σ 70 l1) → Q (-1) H G) (hbad : ((0 ≤ l1 ∧ l1 < (nf : Int)) ∧ 0 ≤ l2 ∧ l2 < σ 70 l1) → 120 < N'.length → ∀ K G2, PDw σ g m nf Vs way km N H G K G2 → Q (-3) K G2)
    (h1 : ((0 ≤ l1 ∧ l1 < (nf : Int)) ∧ 0 ≤ l2 ∧ l2 < σ 70 l1) → N'.length ≤ 120 → ¬ hitR (RR σ l1.toNat (Vs l1.toNat) false (mr0 l1.toNat)) N' (16 * l1 + l2) → ∀ K G2, PDw σ g m nf Vs way km N H G K G2 → Q 1 K G2)
    (h0 : ((0 ≤ l1 ∧ l1 < (nf : Int)) ∧ 0 ≤ l2 ∧ l2 < σ 70 l1) → N'.length ≤ 120 → hitR (RR σ l1.toNat (Vs l1.toNat) false (mr0 l1.toNat)) N' (16 * l1 + l2) → ∀ K G2, PDw σ g m nf Vs way km N H G K G2 → Q 0 K G2) : wP_unreached Q l1 l2 H G := by
  have hS := zSX_of hX hP.1.2.1 hN
  have h3 := hX.1
  refine zR_fA hS l1 (fun hx hfu => brF (by have := hfu.1.1; omega) ?_) (fun z => brT (by decide) (hno (fun y => z (by omega))))
  have hf : l1.toNat < nf := by omega
  have ef : ((l1.toNat : Nat) : Int) = l1 := by omega
  have e3 : H (H 15 l1) 3 = σ 70 l1 := by
    obtain ⟨cx, pn, cnt, mr, A, B, h1, h2, _⟩ := hX.2.2.1 l1.toNat hf
    rw [ef] at h1 h2
    rw [h1.2.2.2.2.1.1, h2]
  by_cases a : l2 < 0
  · exact brT a (hno (fun y => by omega))
  have ob := ga_ob (c := 8) hfu.1.2
  refine brF a ⟨ob, ?_⟩
  by_cases b : l2 < H (H 15 l1) 3
  case neg => exact brF b (hno (fun y => by omega))
  refine brT b ⟨ob, ?_⟩
  have hc : (0 ≤ l1 ∧ l1 < (nf : Int)) ∧ 0 ≤ l2 ∧ l2 < σ 70 l1 := ⟨⟨hx.1, by omega⟩, by omega, by omega⟩
  have hg := hg hx.1 (by omega)
  have hbad := hbad hc
  have h1 := h1 hc
  have h0 := h0 hc
  have hmr : σ 70 (l1.toNat : Nat) = (mr0 l1.toNat : Int) := (hP.2.2.2.2.2.2 l1.toNat hf).1
  obtain ⟨cx, pn, cnt, mr, y1, y2, hDX⟩ := DX_of (hX.2.2.1 l1.toNat hf) ⟨hX.2.1, hP.1.2.2.2.2.1⟩
  rw [ef] at hDX
  have hmr2 : mr = mr0 l1.toNat := by omega
  subst hmr2
  refine cF_allRows hDX (fun M hMK => ?_)
  have := cP_drc (Q := fun x10 H8 G9 => (((x10 : Int) = 0 → Q (-3) H8 G9) ∧ (¬ ((x10 : Int) = 0) → (e3_ob G9 8 (H 15 l1)) ∧ (wF_comesTo (fun x13 H11 G12 => (((x13 : Int) = 0 → (wP_unreached_66 Q 1 H11 G12)) ∧ (¬ ((x13 : Int) = 0) → (wP_unreached_66 Q 0 H11 G12)))) (H 15 l1) (H8 16 1) l2 H8 G9)))) (f := l1.toNat) (w := 0) (N' := N') (π := []) (M := M) hP hX hM h8 hf (fun e he => absurd he (List.not_mem_nil)) trivial hg (by rw [ef]; exact hMK) (fun hn K G2 d1 d2 d3 d4 d5 d6 => brF (by decide) ?_) (fun hn K G2 d1 d2 d3 d6 => brT rfl (hbad hn K G2 ⟨d1, d2, MKR_D hM d3 d1, C8_D hX h8 d1, d6⟩))
  · rw [ef] at this
    exact this
  · have e15 : ∀ x : Int, K 15 x = H 15 x := fun x => d1.2.2 15 x (by decide)
    have hu := (zSX_of d2 hP.1.2.1 hN).2 l1 hx.1 (by rw [d2.1]; omega)
    rw [e15] at hu
    have pd : PDw σ g m nf Vs way km N H G K G2 := ⟨d1, d2, MKR_D hM d3 d1, C8_D hX h8 d1, d6⟩
    obtain ⟨cx2, cnt2, c1, c2, c3, c4, c5, c6⟩ := d4
    have hrow := FY_row (d2.2.2.1 l1.toNat hf) hmr
    have hlen : K (H 15 l1) 5 = ((RR σ l1.toNat (Vs l1.toNat) false (mr0 l1.toNat)).length : Int) := by
      obtain ⟨_, _, _, mr3, y3, _, hDX3⟩ := DX_of (d2.2.2.1 l1.toNat hf) ⟨d2.2.1, hP.1.2.2.2.2.1⟩
      have e : mr3 = mr0 l1.toNat := by omega
      rw [e] at hDX3
      rw [← e15, ← ef]
      exact hDX3.2.2.1.1
    have conv : (∃ (j : Nat) (d : a_ND), N'[j]? = some d ∧ (0 ≤ d.2.1 ∧ d.2.1 < K (H 15 l1) 5) ∧ K (K (K (K (H 15 l1) 6) d.2.1) 0) 0 = l2) ↔ hitR (RR σ l1.toNat (Vs l1.toNat) false (mr0 l1.toNat)) N' (16 * l1 + l2) := by
      constructor
      · rintro ⟨j, d, z1, z2, z3⟩
        have hl : d.2.1.toNat < (RR σ l1.toNat (Vs l1.toNat) false (mr0 l1.toNat)).length := by omega
        have hw := List.getElem?_eq_getElem hl
        obtain ⟨_, r2, _⟩ := hrow _ _ hw
        refine ⟨j, d, _, z1, z2.1, hw, ?_⟩
        rw [r2, ef]
        unfold rnm
        rw [show ((d.2.1.toNat : Nat) : Int) = d.2.1 by omega, e15, z3]
      · rintro ⟨j, d, w, z1, z2, z3, z4⟩
        obtain ⟨r1, r2, _⟩ := hrow _ _ z3
        rw [show ((d.2.1.toNat : Nat) : Int) = d.2.1 by omega, ef] at r1 r2
        unfold rnm at r2
        rw [e15] at r1 r2
        exact ⟨j, d, z1, ⟨z2, r1⟩, by omega⟩
    exact ⟨ga_ob (c := 8) hu.1.2, vF_comesTo d5 hu c3 c6 l2 (fun z => brF (by decide) (h0 hn (conv.mp z) K G2 pd)) (fun z => brT rfl (h1 hn (fun y => z (conv.mpr y)) K G2 pd))⟩
theorem nM_unreached {k : Nat} {N' : List a_ND} (hP : PXc σ m nf Vs mr0) (hT : TM0 σ m nf H) (hg : 0 ≤ l1 → l1 < (nf : Int) → gr σ m (RR σ l1.toNat (Vs l1.toNat) false (mr0 l1.toNat)) 0 k [] N')
    (hno : ¬ ((0 ≤ l1 ∧ l1 < (nf : Int)) ∧ 0 ≤ l2 ∧ l2 < σ 70 l1) → Q (-1) H G) (hbad : ((0 ≤ l1 ∧ l1 < (nf : Int)) ∧ 0 ≤ l2 ∧ l2 < σ 70 l1) → 120 < N'.length → ∀ K, mv 12 H K → Q (-3) K G)
    (h1 : ((0 ≤ l1 ∧ l1 < (nf : Int)) ∧ 0 ≤ l2 ∧ l2 < σ 70 l1) → N'.length ≤ 120 → ¬ hitR (RR σ l1.toNat (Vs l1.toNat) false (mr0 l1.toNat)) N' (16 * l1 + l2) → ∀ K, mv 12 H K → Q 1 K G)
    (h0 : ((0 ≤ l1 ∧ l1 < (nf : Int)) ∧ 0 ≤ l2 ∧ l2 < σ 70 l1) → N'.length ≤ 120 → hitR (RR σ l1.toNat (Vs l1.toNat) false (mr0 l1.toNat)) N' (16 * l1 + l2) → ∀ K, mv 12 H K → Q 0 K G) : wM_unreached Q l1 l2 H G := by
  obtain ⟨p1, ⟨p2, p3⟩, p4, p5, p6, p7, p8⟩ := hP
  obtain ⟨t1, ⟨t2, _⟩, t3⟩ := hT
  have h12 := p1.2.1
  refine cM_in (fun a b => ⟨Or.inr rfl, brF (by decide) ?_⟩) (fun z => ⟨Or.inl rfl, brT rfl (hno (fun y => z (by rw [t3, e3_w32_id (by omega) (by omega)]; omega)))⟩)
  rw [t3, e3_w32_id (by omega) (by omega)] at b
  have hf : l1.toNat < nf := by omega
  have ef : ((l1.toNat : Nat) : Int) = l1 := by omega
  obtain ⟨q1, q2⟩ := p8 l1.toNat hf
  have r70 := (p1.2.2.2.1 l1.toNat (by omega) (by omega)).2.2.1
  rw [ef] at r70
  have e70 : H 70 l1 = σ 70 l1 := t1 70 l1 (by decide) (by decide) (by decide)
  refine ⟨by omega, cM_in (fun c d => brF (by decide) ?_) (fun z => brT rfl (hno (fun y => z (by rw [e70, e3_w32_id (by omega) (by omega)]; omega))))⟩
  rw [e70, e3_w32_id (by omega) (by omega)] at d
  have hF := SFT_of (un := false) p1 p2 p5 p6 hf p7 q2
  have hc : (0 ≤ l1 ∧ l1 < (nf : Int)) ∧ 0 ≤ l2 ∧ l2 < σ 70 l1 := ⟨⟨a, by omega⟩, c, by omega⟩
  have hg := hg a (by omega)
  have hbad := hbad hc
  have h1 := h1 hc
  have h0 := h0 hc
  have := cM_makes (Q := fun x10 H8 G9 => (((x10 : Int) = 0 → Q (-3) H8 G9) ∧ (¬ ((x10 : Int) = 0) → (∃ n, wM_unreached_48 Q n l1 l2 1 0 H8 G9)))) (G := G) (slot := 12) (l4 := 0) (f := (l1.toNat : Nat)) q2 (Or.inr ⟨rfl, rfl⟩) t1 t2 hF (W4_of q2) (by decide) (by decide) hg (fun hn K D w1 w2 w3 w4 w5 w6 w7 => brF (by decide) ?_) (fun hn K w1 => brT rfl (hbad hn K w1))
  · rw [ef] at this
    exact this
  · have hA := RTa_of w6 w7 w2
    have er : e3_w32 (e3_w32 (16 * l1) + l2) = 16 * l1 + l2 := by rw [e3_w32_id (x := 16 * l1) (by omega) (by omega), e3_w32_id (by omega) (by omega)]
    have at3 : ∀ (i : Nat) (d : a_ND), N'[i]? = some d → (K 103 (3600 + i) = 16 * l1 + l2 ↔ ∃ w, 0 ≤ d.2.1 ∧ (RR σ l1.toNat (Vs l1.toNat) false (mr0 l1.toNat))[d.2.1.toNat]? = some w ∧ w.1 = 16 * l1 + l2) := fun i d hi => by
      obtain ⟨_, x2, x3, _⟩ := hA i d hi
      constructor
      · intro z
        by_cases y : d.1 = 1 ∨ d.1 = 2
        · obtain ⟨w, v1, v2, v3⟩ := x2 y
          have v3 : K 103 (3600 + (i : Int)) = w.1 := v3
          exact ⟨w, v2, v1, by omega⟩
        · have v := (x3 y).1
          have v : K 103 (3600 + (i : Int)) = -4 := v
          omega
      · rintro ⟨w, v1, v2, v3⟩
        by_cases y : d.1 = 1 ∨ d.1 = 2
        · obtain ⟨w', u1, u2, u3⟩ := x2 y
          have u1 : (RR σ l1.toNat (Vs l1.toNat) false (mr0 l1.toNat))[d.2.1.toNat]? = some w' := u1
          rw [v2] at u1
          cases u1
          have u3 : K 103 (3600 + (i : Int)) = w.1 := u3
          omega
        · have := (x3 y).2
          omega
    have key : ∀ (dd j : Nat) (l3 : Int), j + dd = N'.length → (l3 = 0 ∨ l3 = 1) → (l3 = 0 → hitR (RR σ l1.toNat (Vs l1.toNat) false (mr0 l1.toNat)) N' (16 * l1 + l2)) → (l3 = 1 → ∀ (i : Nat), i < j → K 103 (3600 + i) ≠ 16 * l1 + l2) → wM_unreached_48 Q (dd + 1) l1 l2 l3 j K G := by
      intro dd
      induction dd with
      | zero =>
        intro j l3 hj h01 hh hn2
        refine brF (by rw [w3]; omega) ?_
        rcases h01 with z | z
        · exact brT z (h0 hn (hh z) K w1)
        · refine brF (by omega) (h1 hn (fun y => ?_) K w1)
          obtain ⟨i, d, w, y1, y2, y3, y4⟩ := y
          exact hn2 z i (by have := (List.getElem?_eq_some_iff.mp y1).1; omega) ((at3 i d y1).mpr ⟨w, y2, y3, y4⟩)
      | succ dd ih =>
        intro j l3 hj h01 hh hn2
        have hjl : j < N'.length := by omega
        have hd := List.getElem?_eq_getElem hjl
        have nx0 : hitR (RR σ l1.toNat (Vs l1.toNat) false (mr0 l1.toNat)) N' (16 * l1 + l2) → wM_unreached_88 Q (fun l1 l2 l3 l4 H G => wM_unreached_48 Q (dd + 1) l1 l2 l3 l4 H G) l1 l2 j K G := fun z => by
          show wM_unreached_48 Q (dd + 1) l1 l2 0 (e3_w32 ((j : Int) + 1)) K G
          rw [w_p1 (by omega)]
          exact ih (j + 1) 0 (by omega) (Or.inl rfl) (fun _ => z) (fun y => absurd y (by decide))
        refine brT (by rw [w3]; omega) ?_
        rcases h01 with z | z
        · exact brT z (nx0 (hh z))
        · refine brF (by omega) ?_
          rw [er, e3_w32_id (x := 3600 + (j : Int)) (by omega) (by omega)]
          refine ⟨by omega, ?_⟩
          by_cases y : K 103 (3600 + (j : Int)) = 16 * l1 + l2
          · obtain ⟨w, v1, v2, v3⟩ := (at3 j _ hd).mp y
            exact brT y (nx0 ⟨j, _, w, hd, v1, v2, v3⟩)
          · refine brF y ?_
            show wM_unreached_48 Q (dd + 1) l1 l2 1 (e3_w32 ((j : Int) + 1)) K G
            rw [w_p1 (by omega)]
            refine ih (j + 1) 1 (by omega) (Or.inr rfl) (fun v => absurd v (by decide)) (fun _ i hi => ?_)
            by_cases v : i = j
            · rw [v]; exact y
            · exact hn2 z i (by omega)
    exact ⟨N'.length + 1, key N'.length 0 1 (by omega) (Or.inr rfl) (fun z => absurd z (by decide)) (fun _ i hi => absurd hi (Nat.not_lt_zero _))⟩
end URU
section JUR
variable {n : Nat} {H : e3_H} {G : e3_G} {R : Int → Int → e3_H → e3_G → Prop} {W : Int → e3_H → e3_G → Prop}
/-- unreached, in both, with equal answers -/
theorem j_unreached_e {l1 l2 : Int} (h : JI n H G) (hR : JRe n H G R) (hW : JW H R (fun Q H G => wM_unreached Q l1 l2 H G) W) : wP_unreached W l1 l2 H G := by
  obtain ⟨⟨hM, _⟩, _, _, _, hO⟩ := id h
  rcases hO with ⟨y1, y2, k14, _, _, k41⟩ | ⟨y1, y2, σ, g, m, nf, Vs, mr0, way, km, N, p1, p2, p3, p4, p5, p6⟩
  · refine zR_functionAt (JI_K h).2.2 l1 (fun hx _ => absurd hx (by omega)) (brT (by decide) (hW _ H G (fun _ => rfl) ?_))
    refine cM_in (fun a b => ?_) (fun _ => ⟨Or.inl rfl, brT rfl (hR _ n H G h (by omega) (fun _ => rfl))⟩)
    rw [k41] at b
    exact absurd b (by have : e3_w32 (0 - 1) = -1 := by decide
                       omega)
  obtain ⟨kk, N', hg⟩ := gr_ex (σ := σ) (m := m) (R := RR σ l1.toNat (Vs l1.toNat) false (mr0 l1.toNat)) (way := 0) _ [] (Nat.le_refl _)
  have fin : ∀ (x : Int) (K : e3_H) (G2 : e3_G), PDw σ g m nf Vs way km N H G K G2 → ∀ K2 : e3_H, mv 12 K K2 → R x x K2 G2 := fun x K G2 d K2 r => by
    have r1 := zRMk_mv r
    exact hR x n K2 G2 (JI_mk h y1 y2 p1 p5 d p3 r1 (TRS_mv p1.1.2.1 (TRS_D p6 d.1) r)) (by have := d.2.2.2.2; omega) (fun k => by rw [r1.1 0 k (by decide) (by decide)]; exact d.1.2.2 0 k (by omega))
  have e0 : ∀ {K : e3_H} {G2 : e3_G}, PDw σ g m nf Vs way km N H G K G2 → ∀ k : Int, K 0 k = H 0 k := fun d k => d.1.2.2 0 k (by omega)
  refine cP_unreached2 p1 p2 hM p4 p3 (fun _ _ => hg) (fun z => hW _ H G (fun _ => rfl) ?_) (fun c hn K G2 d => hW _ K G2 (e0 d) ?_) (fun c hn hh K G2 d => hW _ K G2 (e0 d) ?_) (fun c hn hh K G2 d => hW _ K G2 (e0 d) ?_)
  · exact nM_unreached p1 p5 (fun _ _ => hg) (fun _ => hR _ n H G h (by omega) (fun _ => rfl)) (fun c => absurd c z) (fun c => absurd c z) (fun c => absurd c z)
  · exact nM_unreached p1 (TM0_D p5 d.1) (fun _ _ => hg) (fun z => absurd c z) (fun _ _ K2 r => fin _ K G2 d K2 r) (fun _ z => absurd z (by omega)) (fun _ z => absurd z (by omega))
  · exact nM_unreached p1 (TM0_D p5 d.1) (fun _ _ => hg) (fun z => absurd c z) (fun _ z => absurd z (by omega)) (fun _ _ _ K2 r => fin _ K G2 d K2 r) (fun _ _ z => absurd z hh)
  · exact nM_unreached p1 (TM0_D p5 d.1) (fun _ _ => hg) (fun z => absurd c z) (fun _ z => absurd z (by omega)) (fun _ _ z => absurd hh z) (fun _ _ _ K2 r => fin _ K G2 d K2 r)
end JUR
