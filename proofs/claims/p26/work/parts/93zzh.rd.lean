theorem bt_rg {b t : Int → Int} {n : Nat} (h : x_bt b t n) (k : Nat) (hk : k < n) : (-128 ≤ b k ∧ b k ≤ 127) ∧ 0 ≤ t k := by
  have := h k hk
  unfold x_br at this
  omega
/-- trees behind a read -/
theorem zMS1_TM {σ K : e3_H} {m nf : Nat} {Vs : Int → Int → Int → List (Int × Int)} {mr0 kk : Nat → Nat} {N : Nat → List a_ND} (hP : PX σ m nf Vs mr0 kk N) (hT : TM σ m nf Vs mr0 (fun _ => 0) N K) : zMS1 nf K := fun f hf => by
  obtain ⟨p1, ⟨p2, p3⟩, p4, p5, p6, p7, p8⟩ := hP
  obtain ⟨q1, q2, q3⟩ := p8 f hf
  obtain ⟨⟨t1, _, _⟩, t4⟩ := hT
  obtain ⟨D, d1, d2, d3, d4, d5, _⟩ := t4 f hf
  refine ⟨(N f).length, gr_len _ _ _ q3, d2, ?_⟩
  rw [← d1]
  exact zTN_of (SFT_of (un := false) p1 p2 p5 p6 hf p7 q2) (by omega) (T3_of p1 p2 p5 hf q2) (hrg_of q2) (by omega) (t1 68 _ (by decide) (by decide) (by decide)) (t1 70 _ (by decide) (by decide) (by decide)) (fun r => t1 74 r (by decide) (by decide) (by decide)) (fun r => t1 78 r (by decide) (by decide) (by decide)) d5
/-- trees behind anything that leaves them -/
theorem zMS1_eq {nf : Nat} {H K : e3_H} (h : zMS1 nf H) (e : ∀ a k : Int, (99 ≤ a ∧ a ≤ 110) ∨ a = 68 ∨ a = 70 ∨ a = 74 ∨ a = 78 → K a k = H a k) : zMS1 nf K := fun f hf => by
  obtain ⟨n, n1, n2, n3⟩ := h f hf
  exact ⟨n, n1, by rw [e 99 _ (by omega)]; exact n2, zTN_T n3 (fun a k a1 a2 => e a k (by omega)) (e 68 _ (by omega)) (e 70 _ (by omega)) (fun r => e 74 r (by omega)) (fun r => e 78 r (by omega))⟩
theorem TRS_eq {σ H K : e3_H} {nf : Nat} {Vs : Int → Int → Int → List (Int × Int)} {mr0 : Nat → Nat} {way km : Nat → Int} {N : Nat → List a_ND} (h : TRS σ nf Vs mr0 way km N H) (e : ∀ a k : Int, (99 ≤ a ∧ a ≤ 110) ∨ a = 68 ∨ a = 70 ∨ a = 74 ∨ a = 78 → K a k = H a k) : TRS σ nf Vs mr0 way km N K := ⟨zMS1_eq h.1 e, fun f hf => by
  obtain ⟨⟨a, b, c, d⟩, r⟩ := h.2 f hf
  exact ⟨⟨by rw [e 99 _ (by omega)]; exact a, by rw [e 100 _ (by omega)]; exact b, by rw [e 101 _ (by omega)]; exact c, d⟩, RTa_eq r d (fun a k a1 a2 _ _ => e a k (by omega))⟩⟩
theorem TRS_TM {σ K : e3_H} {m nf : Nat} {Vs : Int → Int → Int → List (Int × Int)} {mr0 kk : Nat → Nat} {N : Nat → List a_ND} (hP : PX σ m nf Vs mr0 kk N) (hT : TM σ m nf Vs mr0 (fun _ => 0) N K) (hN : ∀ f : Nat, f < nf → (N f).length ≤ 120) : TRS σ nf Vs mr0 (fun _ => 0) (fun _ => (m : Int)) N K := ⟨zMS1_TM hP hT, fun f hf => by
  obtain ⟨D, d1, d2, d3, d4, d5, d6⟩ := hT.2 f hf
  exact ⟨⟨d2, d3, d4, hN f hf⟩, RTa_of d5 d6 d1⟩⟩
theorem rls_AK {σ σ2 : e3_H} {m : Nat} (h : AK m σ σ2) (f : Int) (V : Int → Int → List (Int × Int)) (un : Bool) : ∀ k : Nat, rls σ2 f V un k = rls σ f V un k := by
  have e74 := AK_f h 74 (by decide)
  have e78 := AK_f h 78 (by decide)
  intro k
  induction k with
  | zero => rfl
  | succ k ih =>
    unfold rls
    rw [ih, e74, e78]
theorem RR_AK {σ σ2 : e3_H} {m : Nat} (h : AK m σ σ2) (f : Int) (V : Int → Int → List (Int × Int)) (un : Bool) (k : Nat) : RR σ2 f V un k = RR σ f V un k := by
  unfold RR
  rw [rls_AK h]
  unfold tl
  rw [AK_f h 46 (by decide)]
theorem TRS_AK {σ σ2 H : e3_H} {m nf : Nat} {Vs : Int → Int → Int → List (Int × Int)} {mr0 : Nat → Nat} {way km : Nat → Int} {N : Nat → List a_ND} (A : AK m σ σ2) (h : TRS σ nf Vs mr0 way km N H) : TRS σ2 nf Vs mr0 way km N H := ⟨h.1, fun f hf => by
  rw [RR_AK A]
  exact h.2 f hf⟩
theorem zMT_of {σ H : e3_H} {m nf : Nat} {Vs : Int → Int → Int → List (Int × Int)} {mr0 : Nat → Nat} (hP : PXc σ m nf Vs mr0) (hT : TM0 σ m nf H) (hS : zMS1 nf H) : zMT nf H := by
  obtain ⟨p1, _⟩ := hP
  obtain ⟨t1, _, t3⟩ := hT
  refine ⟨p1.2.1, t3, fun f hf => ?_, fun f hf => ?_⟩
  · have F1 := p1.2.2.2.1 f (by omega) (by omega)
    rw [t1 68 _ (by decide) (by decide) (by decide), t1 70 _ (by decide) (by decide) (by decide)]
    exact ⟨F1.1.1, F1.2.2.1⟩
  · obtain ⟨n, _, n2, n3⟩ := hS f hf
    exact ⟨n, n2, n3⟩
theorem zMK_of {σ H : e3_H} {m nf : Nat} {Vs : Int → Int → Int → List (Int × Int)} {mr0 : Nat → Nat} (hP : PXc σ m nf Vs mr0) (hT : TM0 σ m nf H) : zMK H := by
  have hk := hP.1.2.2.2.2.1
  obtain ⟨t1, ⟨t2, _⟩, _⟩ := hT
  have e43 : H 43 = σ 43 := funext fun x => t1 43 x (by decide) (by decide) (by decide)
  refine ⟨m, hk.2.1, t2, by rw [e43]; exact hk.2.2.2.1, fun k k0 k1 => ?_⟩
  have := hk.2.2.2.2 k.toNat (by omega)
  rw [show ((k.toNat : Nat) : Int) = k by omega] at this
  rw [t1 44 k (by decide) (by decide) (by decide)]
  exact ⟨this.1, this.2.1⟩
theorem zKX_of {σ H : e3_H} {m : Nat} (h : c_kd σ m H) (hk : k_inv σ m) : zKX H := by
  refine ⟨by rw [h.1]; have := hk.2.1; omega, fun k k0 k1 => ?_⟩
  rw [h.1] at k1
  have a := (h.2 k.toNat (by omega)).2.2.1
  have b := hk.2.2.2.2 k.toNat (by omega)
  rw [show ((k.toNat : Nat) : Int) = k by omega] at a b
  rw [a]
  exact ⟨b.1, b.2.1⟩
