section ZT3
variable {σ : e3_H} {m nf f mr0 : Nat} {Vs : Int → Int → Int → List (Int × Int)} {un : Bool}
/-- tests of columns stand at columns -/
theorem T3_of (hF : F_inv σ m nf) (hW : WF σ nf) (hV : VS σ nf Vs) (hf : f < nf) (hM : RM σ f mr0 (Vs f)) : ∀ e, e ∈ rls σ f (Vs f) un mr0 → ∀ p, p ∈ tl σ e.2.2 → (p.2 - 1) / 8 = 0 → p.2 ≤ σ 68 f := by
  have F1 := hF.2.2.2.1 f (by omega) (by omega)
  obtain ⟨m1, m2, m3, m4, m5⟩ := hM
  have h74 : ∀ k : Nat, k < mr0 → 0 ≤ σ 74 (16 * (f : Int) + k) := fun k hk => (m5 k hk).1
  have hRT := RT_of (un := un) hF hW hV hf (fun k hk => h74 k (by omega)) mr0 (by omega)
  intro e he p hp h8
  have hwm : (e.1, tl σ e.2.2) ∈ RR σ f (Vs f) un mr0 := List.mem_map.mpr ⟨e, he, rfl⟩
  have h1 := (hRT _ hwm).1.2.2
  obtain ⟨k, v, k1, k2, k3⟩ := rls_mem mr0 h74 e he
  subst k3
  obtain ⟨lo, l0, L, l1, l2, l3, l4, l5⟩ := hW f (by omega) (by omega) k (by omega) (by omega)
  have hn : ∀ c, c ∈ L → c ≠ -4 := fun c hc => by have := (l3 c hc).1; omega
  have hly := hV f k v (by omega) (by omega) (by omega) (by omega) k2.1 k2.2 L l2 hn
  have hwt : ∀ c, c ∈ L → wt σ 6 (σ 40 16) c ∧ 0 ≤ c := fun c hc => ⟨(l3 c hc).2.2, by have := (l3 c hc).1; omega⟩
  rcases lyC_ty (k := 6) (hi := σ 40 16) (fun c w x V v1 v2 v3 v4 => lyV_ty 6 c w x V v1 v2 v3 v4) L v 1 (Vs f k v) hly hwt (by omega) p (tl_mem.mp hp).1 with ⟨i, c, y1, y2, y3⟩ | ⟨p', y1, y2, y3, _⟩
  · have := (List.getElem?_eq_some_iff.mp y1).1
    have := F1.1.1
    omega
  · have hp' : p' ∈ tl σ (Vs f k v) := tl_mem.mpr ⟨y1, by omega⟩
    have := (h1 p' hp').2.2
    omega
theorem hrg_of (hM : RM σ f mr0 (Vs f)) : ∀ e, e ∈ rls σ f (Vs f) un mr0 → 16 * (f : Int) ≤ e.1 ∧ e.1 < 16 * (f : Int) + σ 70 f := fun e he => by
  obtain ⟨m1, m2, m3, m4, m5⟩ := hM
  obtain ⟨k, v, k1, k2, k3⟩ := rls_mem mr0 (fun k hk => (m5 k hk).1) e he
  rw [k3]
  show 16 * (f : Int) ≤ 16 * (f : Int) + k ∧ 16 * (f : Int) + k < 16 * (f : Int) + σ 70 f
  omega
/-- a made tree has its shape -/
theorem zTN_mk {way b : Int} {D : List (a_PT × Int)} {K : e3_H} (hP : PXc σ m nf Vs (fun _ => mr0)) (hf : f < nf) (hM : RM σ f mr0 (Vs f)) (hb : 0 ≤ b) (htb : tb σ K) (hT : TRM σ m (rwl σ (rls σ f (Vs f) false mr0)) way b D K) : zTN f b D.length K := by
  obtain ⟨p1, ⟨p2, p3⟩, p4, p5, p6, p7, p8⟩ := hP
  exact zTN_of (SFT_of p1 p2 p5 p6 hf p7 hM) hb (T3_of p1 p2 p5 hf hM) (hrg_of hM) (by omega) (htb 68 _ (by decide) (by decide) (by decide)) (htb 70 _ (by decide) (by decide) (by decide)) (fun r => htb 74 r (by decide) (by decide) (by decide)) (fun r => htb 78 r (by decide) (by decide) (by decide)) hT
end ZT3
theorem zTN_k {f b : Int} {n : Nat} {H K : e3_H} (h : zTN f b n H) (e : ∀ a k : Int, 102 ≤ a → a ≤ 110 → b ≤ k → k < b + 120 → K a k = H a k) (e68 : K 68 f = H 68 f) (e70 : K 70 f = H 70 f) (e74 : ∀ r : Int, K 74 r = H 74 r) (e78 : ∀ r : Int, K 78 r = H 78 r) : zTN f b n K := by
  obtain ⟨h1, h2⟩ := h
  refine ⟨h1, fun j hj => ?_⟩
  obtain ⟨a1, ⟨L, c1, c2, c3⟩, a3, a4, a5⟩ := h2 j hj
  have i1 : b ≤ b + (j : Int) := by omega
  have i2 : b + (j : Int) < b + 120 := by omega
  rw [e 107 _ (by decide) (by decide) i1 i2, e 108 _ (by decide) (by decide) i1 i2, e 106 _ (by decide) (by decide) i1 i2, e 105 _ (by decide) (by decide) i1 i2, e 102 _ (by decide) (by decide) i1 i2, e 103 _ (by decide) (by decide) i1 i2, e 104 _ (by decide) (by decide) i1 i2, e68, e70, e74, e78]
  refine ⟨a1, ⟨L, mch_eq _ _ (fun c hc => ?_) c1, c2, c3⟩, a3, a4, a5⟩
  obtain ⟨i, i3, i4⟩ := c3 c hc
  exact e 110 c (by decide) (by decide) (by omega) (by omega)
/-- trees of the reference, each with a node -/
def zMS1 (nf : Nat) (H : e3_H) : Prop := ∀ f : Nat, f < nf → ∃ n : Nat, 1 ≤ n ∧ H 99 f = (n : Int) ∧ zTN f (300 * (f : Int)) n H
/-- what making trees may change in the reference -/
def zRMk (H K : e3_H) : Prop := (∀ a k : Int, a ≠ 40 → a < 86 ∨ 127 < a → K a k = H a k) ∧ ∀ k : Int, k ≠ 61 → k ≠ 65 → k ≠ 71 → k ≠ 93 → k ≠ 99 → k ≠ 105 → K 40 k = H 40 k
theorem zRMk_mv {H K : e3_H} {s : Int} (h : mv s H K) : zRMk H K := ⟨fun a k h1 h2 => h.1 a k h1 (by omega), h.2⟩
theorem zMS1_mv {nf : Nat} {H K : e3_H} (h12 : nf ≤ 12) (h : zMS1 nf H) (hm : mv 12 H K) : zMS1 nf K := fun f hf => by
  obtain ⟨n, n1, n2, n3⟩ := h f hf
  exact ⟨n, n1, by rw [hm.1 99 _ (by decide) (by omega)]; exact n2, zTN_k n3 (fun a k a1 a2 k1 k2 => hm.1 a k (by omega) (by omega)) (hm.1 68 _ (by decide) (Or.inl (by decide))) (hm.1 70 _ (by decide) (Or.inl (by decide))) (fun r => hm.1 74 r (by decide) (Or.inl (by decide))) (fun r => hm.1 78 r (by decide) (Or.inl (by decide)))⟩
/-- trees of the reference, and their nodes -/
def TRS (σ : e3_H) (nf : Nat) (Vs : Int → Int → Int → List (Int × Int)) (mr0 : Nat → Nat) (way km : Nat → Int) (N : Nat → List a_ND) (H : e3_H) : Prop := zMS1 nf H ∧ ∀ f : Nat, f < nf → (H 99 f = ((N f).length : Int) ∧ H 100 f = way f ∧ H 101 f = km f ∧ (N f).length ≤ 120) ∧ RTa (300 * (f : Int)) (RR σ f (Vs f) false (mr0 f)) (N f) H
section ZRK
variable {Q : Int → e3_H → e3_G → Prop} {σ H : e3_H} {G : e3_G} {nf m : Nat} {Vs : Int → Int → Int → List (Int × Int)} {mr0 : Nat → Nat} {way km : Nat → Int} {N0 : Nat → List a_ND}
theorem TRS_mv {K : e3_H} (h12 : nf ≤ 12) (h : TRS σ nf Vs mr0 way km N0 H) (hm : mv 12 H K) : TRS σ nf Vs mr0 way km N0 K := ⟨zMS1_mv h12 h.1 hm, fun f hf => by
  obtain ⟨⟨a, b, c, d⟩, e⟩ := h.2 f hf
  exact ⟨⟨by rw [hm.1 99 _ (by decide) (by omega)]; exact a, by rw [hm.1 100 _ (by decide) (by omega)]; exact b, by rw [hm.1 101 _ (by decide) (by omega)]; exact c, d⟩, RTa_eq e d (fun a k a1 a2 k1 k2 => hm.1 a k (by omega) (by omega))⟩⟩
/-- remake, of the reference, with its answer -/
theorem nM_remake {l1 l2 : Int} {k : Nat} {N : List a_ND} (hP : PXc σ m nf Vs mr0) (hT : TM0 σ m nf H) (hS : TRS σ nf Vs mr0 way km N0 H) (hg : 0 ≤ l1 → l1 < (nf : Int) → gr σ m (RR σ l1.toNat (Vs l1.toNat) false (mr0 l1.toNat)) l2 k [] N) (hno : ¬ ((0 ≤ l1 ∧ l1 < (nf : Int)) ∧ 0 ≤ l2 ∧ l2 ≤ 3) → Q (-1) H G) (hbad : 0 ≤ l1 → l1 < (nf : Int) → 120 < N.length → ∀ K, zRMk H K → TRS σ nf Vs mr0 way km N0 K → Q (-3) K G) (hok : 0 ≤ l1 → l1 < (nf : Int) → N.length ≤ 120 → ∀ K, zRMk H K → TRS σ nf Vs mr0 (fup way l1.toNat l2) (fup km l1.toNat (m : Int)) (fup N0 l1.toNat N) K → Q (N.length : Int) K G) : wM_remake Q l1 l2 H G := by
  obtain ⟨p1, ⟨p2, p3⟩, p4, p5, p6, p7, p8⟩ := id hP
  obtain ⟨t1, ⟨t2, _⟩, t3⟩ := hT
  have h12 := p1.2.1
  refine cM_in (fun a b => ⟨Or.inr rfl, brF (by decide) ?_⟩) (fun z => ⟨Or.inl rfl, brT rfl (hno (fun y => z (by rw [t3, e3_w32_id (by omega) (by omega)]; omega)))⟩)
  rw [t3, e3_w32_id (by omega) (by omega)] at b
  refine cM_in (fun c d => brF (by decide) ?_) (fun z => brT rfl (hno (fun y => z (by omega))))
  have hf : l1.toNat < nf := by omega
  have ef : ((l1.toNat : Nat) : Int) = l1 := by omega
  obtain ⟨q1, q2⟩ := p8 l1.toNat hf
  have hF := SFT_of (un := false) p1 p2 p5 p6 hf p7 q2
  have hg := hg a (by omega)
  have hok := hok a (by omega)
  have hbad := hbad a (by omega)
  have := cM_makes (Q := fun x9 H7 G8 => (((x9 : Int) = 0 → Q (-3) H7 G8) ∧ (¬ ((x9 : Int) = 0) → (∃ n, wM_remake_49 Q n l1 l2 (e3_w32 (300 * (e3_w32 (l1 - 12)))) 0 H7 G8)))) (G := G) (slot := 12) (l4 := 0) (f := (l1.toNat : Nat)) q2 (Or.inr ⟨rfl, rfl⟩) t1 t2 hF (W4_of q2) ⟨c, d⟩ (by decide) hg (fun hn K D w1 w2 w3 w4 w5 w6 w7 => brF (by decide) ?_) (fun hn K w1 => brT rfl (hbad hn K (zRMk_mv w1) (TRS_mv h12 hS w1)))
  · rw [ef] at this
    exact this
  · have tK : tb σ K := fun x y h3 h4 h5 => (w1.1 x y (by omega) (by omega)).trans (t1 x y h3 h4 h5)
    have hz : zTN ((l1.toNat : Nat) : Int) 3600 D.length K := zTN_of hF (by decide) (T3_of p1 p2 p5 hf q2) (hrg_of q2) (by omega) (tK 68 _ (by decide) (by decide) (by decide)) (tK 70 _ (by decide) (by decide) (by decide)) (fun r => tK 74 r (by decide) (by decide) (by decide)) (fun r => tK 78 r (by decide) (by decide) (by decide)) w6
    rw [ef, w2] at hz
    have hra := RTa_of w6 w7 w2
    have hN1 := gr_len _ _ _ hg
    have k10 : K 40 10 = (m : Int) := by rw [w1.2 10 (by decide) (by decide) (by decide) (by decide) (by decide) (by decide)]; exact t2
    refine zM_r49 (n := N.length) ⟨a, by omega⟩ hn w3 (fun K2 f1 f2 f3 f4 => ?_)
    have fr : ∀ x y : Int, x < 86 ∨ 127 < x → K2 x y = K x y := fun x y hx => f1 x y (by omega) (by omega)
    have hS2 := TRS_mv h12 hS w1
    refine hok hn K2 ⟨fun x y h1 h2 => by rw [fr x y h2]; exact w1.1 x y h1 (by omega), fun y h1 h2 h3 h4 h5 h6 => by rw [fr 40 y (by decide)]; exact w1.2 y h1 h2 h3 h4 h5 h6⟩ ⟨fun f' hf' => ?_, fun f' hf' => ?_⟩
    · by_cases z : f' = l1.toNat
      · subst z
        refine ⟨N.length, hN1, by rw [ef]; exact f2, ?_⟩
        rw [ef]
        exact zTN_cp ⟨a, by omega⟩ hz (fr 68 _ (by decide)) (fr 70 _ (by decide)) (fun r => fr 74 r (by decide)) (fun r => fr 78 r (by decide)) f3
      · obtain ⟨n, n1, n2, n3⟩ := hS2.1 f' hf'
        refine ⟨n, n1, by rw [f1 99 _ (by omega) (by omega)]; exact n2, zTN_k n3 (fun x y x1 x2 y1 y2 => f1 x y (by omega) (by omega)) (fr 68 _ (by decide)) (fr 70 _ (by decide)) (fun r => fr 74 r (by decide)) (fun r => fr 78 r (by decide))⟩
    · unfold fup
      by_cases z : f' = l1.toNat
      · subst z
        rw [if_pos rfl, if_pos rfl, if_pos rfl, ef]
        refine ⟨⟨f2, f4.1, by rw [f4.2]; exact k10, hn⟩, ?_⟩
        have := RTa_cp (f := l1) ⟨a, by omega⟩ hn hra f3
        rw [ef] at this
        exact this
      · rw [if_neg z, if_neg z, if_neg z]
        obtain ⟨⟨u1, u2, u3, u4⟩, u5⟩ := hS2.2 f' hf'
        exact ⟨⟨by rw [f1 99 _ (by omega) (by omega)]; exact u1, by rw [f1 100 _ (by omega) (by omega)]; exact u2, by rw [f1 101 _ (by omega) (by omega)]; exact u3, u4⟩, RTa_eq u5 u4 (fun x y x1 x2 y1 y2 => f1 x y (by omega) (by omega))⟩
end ZRK
