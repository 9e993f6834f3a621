/-- codes of places are told by the places -/
theorem cx_un {H : e3_H} {G : e3_G} {fu : Int} {cx cx2 : Int → Int} (h : c_pl H G fu cx) (h2 : c_pl H G fu cx2) : ∀ (n : Nat) (p : Int), p < (n : Int) → 0 ≤ p → p < H fu 7 → cx p = cx2 p := by
  intro n
  induction n with
  | zero => intro p hp h0; omega
  | succ n ih =>
    intro p hp h0 h7
    obtain ⟨c1, c2, c3, c4, c5⟩ := cx_up h ⟨h0, h7⟩
    obtain ⟨d1, d2, d3, d4, d5⟩ := cx_up h2 ⟨h0, h7⟩
    have : cd cx (H (H fu 8) p) = cd cx2 (H (H fu 8) p) := by
      unfold cd
      by_cases z : H (H fu 8) p < 0
      · rw [if_pos z, if_pos z]
      · rw [if_neg z, if_neg z]
        rcases c1 with y | y
        · omega
        · exact ih _ (by omega) y.1 (by omega)
    rw [c3, d3, this]
section CXO
variable {σ g K : e3_H} {G : e3_G} {m nf : Nat} {f : Nat} {Vs : Int → Int → Int → List (Int × Int)} {mr0 : Nat → Nat} {way km : Nat → Int} {N : Nat → List a_ND}
/-- what sorting by a tree needs of the class, of a text that is held -/
theorem CWX_of {cx : Int → Int} {cnt : Nat} (hP : PXc σ m nf Vs mr0) (hX : TX σ g m nf Vs way km N K G) (hf : f < nf) (hV : VR K) (hl : zLX K) (hpl : c_pl K G (K 15 f) cx) (hcn : K (K 15 f) 7 = (cnt : Int)) : CWX σ (K 15 f) (K (K 15 f) 10) cx cnt (N f) (rls σ f (Vs f) false (mr0 f)) K G := by
  obtain ⟨x14, hkd, hFY, hTS, hCT, hTD⟩ := hX
  obtain ⟨cx', cnt', t1, t2, t3, t4, t5, t6⟩ := hTD f hf
  obtain ⟨cx2, pn, cnt2, mr, A, B, h1, h2, h3, h4, h5, h6, h7⟩ := hFY f hf
  obtain ⟨b1, b2, b3, b4, ⟨b5, b6, b7, b8⟩, b9, b10⟩ := h1
  have hm : mr = mr0 f := by have := (hP.2.2.2.2.2.2 f hf).1; omega
  subst hm
  have h74 : ∀ k : Nat, k < mr0 f → 0 ≤ σ 74 (16 * (f : Int) + k) := fun k hk => (b9 k hk).2.1
  have hu1 : ∀ p : Int, 0 ≤ p → p < K (K 15 f) 7 → cx' p = cx p := fun p p0 p1 => cx_un t2 hpl (p.toNat + 1) p (by omega) p0 p1
  have hu2 : ∀ p : Int, 0 ≤ p → p < K (K 15 f) 7 → cx2 p = cx p := fun p p0 p1 => cx_un h4 hpl (p.toNat + 1) p (by omega) p0 p1
  refine ⟨hpl, ⟨hV, hl⟩, ⟨(hTS.2.1 f hf).1, fun j d hj => ?_, t3, hcn⟩, ⟨b1.1, b1.2, rfl⟩, fun i r w V hr => ?_⟩
  · obtain ⟨a1, a2, a3, a4, a5, a6⟩ := t6 j d hj
    refine ⟨a1, a2, ?_, a4, a5, a6⟩
    rcases a3 with z | ⟨z1, z2⟩
    · exact Or.inl z
    · exact Or.inr ⟨⟨z1.1, by omega⟩, by rw [← hu1 _ z1.1 (by omega)]; exact z2⟩
  · have il := (List.getElem?_eq_some_iff.mp hr).1
    have hlen := rls_len2 (Vs := Vs f) (mr0 f) h74
    obtain ⟨k, v, hk, hv, hi, e⟩ := rls_at (mr0 f) i (r, w, V) h74 hr
    obtain ⟨er, e2⟩ := Prod.mk.inj e
    obtain ⟨ew, eV⟩ := Prod.mk.inj e2
    have ev : v = w := ew.symm
    subst ev
    subst er
    subst eV
    obtain ⟨c1, c2, c3⟩ := h7 k v (Or.inl ⟨hk, hv.2⟩) hv.1
    obtain ⟨d1, d2, lo, hi2, L, d3, d4⟩ := b9 k hk
    have hly := d4 v hv.1 hv.2
    obtain ⟨pw1, _, _⟩ := row_pw d3 hly
    obtain ⟨r1, r2, r3, r4, r5⟩ := CT_ru hCT hf k (by omega)
    rw [← hi] at c1 c2 c3
    rw [d1] at r1 r2 r3 r4 r5
    have e0 : K (B + 4 * (i : Int)) 0 = A k := c3.1
    have h56 := d3.1.2.2.2.2.2.1
    have k16 : (16 * (f : Int) + (k : Int)) % 16 = (k : Int) := by omega
    refine ⟨⟨by rw [h6]; omega, by omega, b2.1, b2.2⟩, ?_⟩
    rw [c1, e0]
    refine ⟨⟨c2.1, c2.2.1⟩, c2.2.2.2.1, e0, r5, ⟨r4, h56⟩, ⟨pn, c3.2.2.2.2.2, fun p hp => ?_⟩, r1, by rw [r3, k16], by rw [k16, d1]⟩
    obtain ⟨q1, q2, q3⟩ := pw1 p hp
    refine ⟨⟨q2.1, by omega⟩, ?_⟩
    rw [← hu2 _ q2.1 (by omega), ← q3, g_3_3]
/-- rules of the class, of a text that is held -/
theorem RUX_of (hP : PXc σ m nf Vs mr0) (hX : TX σ g m nf Vs way km N K G) (hS : zSX K G) : RUX σ nf K G := by
  refine ⟨⟨hX.1, hP.1.2.1⟩, hS, fun f k hf hk => ?_⟩
  obtain ⟨x14, hkd, hFY, hTS, hCT, hTD⟩ := hX
  obtain ⟨cx2, pn, cnt2, mr, A, B, h1, h2, h3, h4, h5, h6, h7⟩ := hFY f hf
  obtain ⟨b1, b2, b3, b4, ⟨b5, b6, b7, b8⟩, b9, b10⟩ := h1
  obtain ⟨r1, r2, r3, r4, r5⟩ := CT_ru hCT hf k hk
  have F1 := hP.1.2.2.2.1 f (by omega) (by omega)
  exact ⟨b7, b1.1, r2, r3, ⟨r4, (F1.2.2.2 k (by omega) hk).2.1⟩, r5⟩
/-- calls, of a text that is held -/
theorem CLX_of (hP : PXc σ m nf Vs mr0) (hX : TX σ g m nf Vs way km N K G) : CLX σ m nf := fun f k hf hk => by
  have F1 := hP.1.2.2.2.1 f (by omega) (by omega)
  have J1 := F1.2.2.2 k (by omega) hk
  obtain ⟨g1, g2, g3⟩ := zG_of hP hX f (by omega) (by omega)
  obtain ⟨_, ga, _⟩ := g3 k (by omega) hk
  obtain ⟨r1, ⟨_, r2⟩, _⟩ := CT_ru hX.2.2.2.2.1 hf k hk
  have su := (hP.2.2.1 f hf).2.2 k hk
  refine ⟨fun z => ?_, fun z => ?_, ?_⟩
  · obtain ⟨_, a1, a2, a3⟩ : σ 79 (16 * (f : Int) + k) = 2 ∧ (0 ≤ σ 80 (16 * (f : Int) + k) ∧ σ 80 (16 * (f : Int) + k) < nf) ∧ σ 83 (16 * (f : Int) + k) = σ 68 (σ 80 (16 * (f : Int) + k)) ∧ ∀ j : Int, 0 ≤ j → j < 3 → j < σ 83 (16 * (f : Int) + k) → 0 ≤ σ 84 (3 * (16 * (f : Int) + k) + j) ∧ σ 84 (3 * (16 * (f : Int) + k) + j) < 8 := by
      rcases ga with y | y | y
      · omega
      · omega
      · exact y
    have g68 := (zG_of hP hX _ a1.1 a1.2).1
    refine ⟨a1, a2, g68, fun i hi => ?_⟩
    have j4 := J1.2.2.2 z i (by omega) hi
    have en : (((σ 84 (3 * (16 * (f : Int) + k) + i)).toNat : Nat) : Int) = σ 84 (3 * (16 * (f : Int) + k) + i) := by omega
    have j3 := J1.2.2.1 (σ 84 (3 * (16 * (f : Int) + k) + i)).toNat (by omega)
    rw [en] at j3
    exact ⟨j4, j3, su z i (by omega) hi⟩
  · rcases r2 with y | ⟨_, _, y, y2⟩ | y
    · omega
    · exact ⟨y, y2⟩
    · omega
  · rcases r2 with y | y | y
    · exact Or.inl y.1
    · exact Or.inr (Or.inl y.1)
    · exact Or.inr (Or.inr y.1)
/-- rows by what they visit, of a text that is held -/
theorem RLX_of (hP : PXc σ m nf Vs mr0) (hX : TX σ g m nf Vs way km N K G) (hf : f < nf) : RLX σ f (RR σ f (Vs f) false (mr0 f)) (rls σ f (Vs f) false (mr0 f)) := fun i r T hT => by
  obtain ⟨p1, ⟨p2, p3⟩, p4, p5, p6, p7, p8⟩ := id hP
  obtain ⟨q1, q2⟩ := p8 f hf
  have h74 : ∀ k : Nat, k < mr0 f → 0 ≤ σ 74 (16 * (f : Int) + k) := fun k hk => (q2.2.2.2.2 k hk).1
  unfold RR at hT
  rw [List.getElem?_map] at hT
  cases he : (rls σ f (Vs f) false (mr0 f))[i]? with
  | none => rw [he] at hT; cases hT
  | some e =>
    rw [he] at hT
    have hT : some (e.1, tl σ e.2.2) = some (r, T) := hT
    cases hT
    obtain ⟨k, v, hk, hv, hi, ee⟩ := rls_at (mr0 f) i e h74 he
    subst ee
    have hk2 : (0 : Int) ≤ (k : Int) ∧ (k : Int) < σ 70 f := by omega
    have F1 := p1.2.2.2.1 f (by omega) (by omega)
    have h16 := F1.2.2.1.2
    obtain ⟨r1, _⟩ := CT_ru hX.2.2.2.2.1 hf k hk2.2
    exact ⟨v, Vs f k v, rfl, rfl, VQ_of p1 p2 p5 ⟨by omega, by omega⟩ hk2 hv, NV1_of p3.2 p5 ⟨by omega, by omega⟩ hk2 hv, by show (16 * (f : Int) + k) / 16 = f; omega, GDP_of r1⟩
theorem RLM_of (hP : PXc σ m nf Vs mr0) (hX : TX σ g m nf Vs way km N K G) (hf : f < nf) : RLM σ f (RR σ f (Vs f) false (mr0 f)) (rls σ f (Vs f) false (mr0 f)) := fun i r w V hr => by
  obtain ⟨p1, ⟨p2, p3⟩, p4, p5, p6, p7, p8⟩ := id hP
  obtain ⟨q1, q2⟩ := p8 f hf
  have h74 : ∀ k : Nat, k < mr0 f → 0 ≤ σ 74 (16 * (f : Int) + k) := fun k hk => (q2.2.2.2.2 k hk).1
  have F1 := p1.2.2.2.1 f (by omega) (by omega)
  have h16 := F1.2.2.1.2
  obtain ⟨w1, w2⟩ := W4_of q2 i (r, w, V) hr
  obtain ⟨k, v, hk, hv, hi, ee⟩ := rls_at (mr0 f) i (r, w, V) h74 hr
  cases ee
  obtain ⟨g1, g2, g3⟩ := zG_of hP hX f (by omega) (by omega)
  obtain ⟨z1, _, z3⟩ := g3 k (by omega) (by omega)
  exact ⟨⟨k, Vs f k, rfl, ⟨by omega, by omega⟩, z1, rfl⟩, w1, w2, z3⟩
end CXO
/-- tables and VALUES, of a text that is held -/
theorem TV_of {n : Nat} {σ g H K : e3_H} {G : e3_G} {m nf : Nat} {Vs : Int → Int → Int → List (Int × Int)} {mr0 : Nat → Nat} {way km : Nat → Int} {N : Nat → List a_ND} (hJ : JI n H G) (hP : PXc σ m nf Vs mr0) (hX : TX σ g m nf Vs way km N H G) (hM : TM0 σ m nf H) (hV : VR H) (e : ∀ a k : Int, a = 8 ∨ a = 12 ∨ a = 43 ∨ a = 45 ∨ (26 ≤ a ∧ a ≤ 32) ∨ (128 ≤ a ∧ a ≤ 132) → K a k = H a k) (e9 : K 40 109 = H 40 109) : TV σ m K := by
  have hk : k_inv σ m := hP.1.2.2.2.2.1
  refine ⟨VR_eq hV (fun a k ha => e a k (by omega)) e9 (KS_eq hJ (fun a k ha => e a k (by omega))), hk, hP.2.2.2.2.1, funext fun k => ?_, fun k => ?_, fun k k0 k1 => ?_, ?_⟩
  · rw [e 43 k (by decide)]; exact hM.1 43 k (by decide) (by decide) (by decide)
  · rw [e 45 k (by decide)]; exact hM.1 45 k (by decide) (by decide) (by decide)
  · have ek : ((k.toNat : Nat) : Int) = k := by omega
    have := (hX.2.1.2 k.toNat (by omega)).2.2.1
    rw [ek] at this
    rw [e 12 k (by decide)]
    exact this
  · rw [e 8 0 (by decide)]; exact hX.2.1.1
