/-- the reference as its read begins -/
def s_0 (H : e3_H) : e3_H := e3_up (e3_up (e3_up (e3_up (e3_up H 40 10 0) 40 41 0) 40 16 0) 40 11 0) 40 7 0
theorem s_0_ne {H : e3_H} {a k : Int} (h : a ≠ 40 ∨ (k ≠ 10 ∧ k ≠ 41 ∧ k ≠ 16 ∧ k ≠ 11 ∧ k ≠ 7)) : s_0 H a k = H a k := by
  unfold s_0
  rw [e3_up_ne (fun z => by omega), e3_up_ne (fun z => by omega), e3_up_ne (fun z => by omega), e3_up_ne (fun z => by omega), e3_up_ne (fun z => by omega)]
theorem s_0_at {H : e3_H} {k : Int} (h : k = 10 ∨ k = 41 ∨ k = 16 ∨ k = 11 ∨ k = 7) : s_0 H 40 k = 0 := by
  unfold s_0
  rcases h with z | z | z | z | z <;> subst z
  · rw [e3_up_ne (ne_2 (by decide)), e3_up_ne (ne_2 (by decide)), e3_up_ne (ne_2 (by decide)), e3_up_ne (ne_2 (by decide)), e3_up_self]
  · rw [e3_up_ne (ne_2 (by decide)), e3_up_ne (ne_2 (by decide)), e3_up_ne (ne_2 (by decide)), e3_up_self]
  · rw [e3_up_ne (ne_2 (by decide)), e3_up_ne (ne_2 (by decide)), e3_up_self]
  · rw [e3_up_ne (ne_2 (by decide)), e3_up_self]
  · rw [e3_up_self]
/-- the tables of a text that the reference holds -/
def TM0 (σ : e3_H) (m nf : Nat) (K : e3_H) : Prop := tb σ K ∧ (K 40 10 = (m : Int) ∧ K 40 16 = σ 40 16) ∧ K 40 41 = (nf : Int)
/-- a text that the reference holds, as it was read -/
def TM (σ : e3_H) (m nf : Nat) (Vs : Int → Int → Int → List (Int × Int)) (mr0 : Nat → Nat) (way : Nat → Int) (N : Nat → List a_ND) (K : e3_H) : Prop := TM0 σ m nf K ∧ ∀ f : Nat, f < nf → TRf σ m (rls σ f (Vs f) false (mr0 f)) (way f) f (N f) K
/-- what a read of the reference may change -/
def MRf (H K : e3_H) : Prop := (∀ a k : Int, a ≠ 40 → a < 42 ∨ 127 < a → K a k = H a k) ∧ (∀ k : Int, 106 ≤ k → K 40 k = H 40 k) ∧ K 40 1 = 0 ∧ K 40 11 = 0
section CMR
variable {Q : Int → e3_H → e3_G → Prop} {t : Int → Int} {n : Nat} {σ H : e3_H} {G : e3_G}
/-- a fault of the text, in the reference -/
theorem cM_109f {K : e3_H} (h7 : 0 < K 40 7) (hQ : Q (e3_w32 ((-10) - K 40 8)) (e3_up (e3_up (e3_up (e3_up K 40 1 0) 40 9 0) 40 10 0) 40 41 0) G) : wM_read_109 Q K G := by
  intro H1 e1
  have k7 : H1 40 7 = K 40 7 := by rw [e1, e3_up_ne (ne_2 (by decide))]
  have fin : wM_read_160 Q 0 H1 G := by
    refine brF (by rw [k7]; omega) ⟨Or.inl rfl, ?_⟩
    intro H2 e2
    refine brT (by rw [e2]; exact e3_up_self ..) ?_
    intro H3 e3
    intro H4 e4
    have e7 : H4 40 7 = K 40 7 := by rw [e4, e3_up_ne (ne_2 (by decide)), e3, e3_up_ne (ne_2 (by decide)), e2, e3_up_ne (ne_2 (by decide))]; exact k7
    have e8 : H4 40 8 = K 40 8 := by rw [e4, e3_up_ne (ne_2 (by decide)), e3, e3_up_ne (ne_2 (by decide)), e2, e3_up_ne (ne_2 (by decide)), e1, e3_up_ne (ne_2 (by decide))]
    refine brT (by rw [e7]; exact h7) ?_
    show Q _ _ _
    rw [e8, e4, e3, e2, e1]
    exact hQ
  by_cases h : (0 : Int) < H1 40 41
  · exact ⟨1, brT h (brF (by rw [k7]; omega) fin)⟩
  · exact ⟨1, brF h fin⟩
theorem rd_MRf {K0 K K2 : e3_H} (hx : x_N (s_0 H) K0) (hr : rd_fr K0 K) (h : (∀ a k : Int, a ≠ 40 → a < 86 ∨ 127 < a → K2 a k = K a k) ∧ (∀ k : Int, 106 ≤ k → K2 40 k = K 40 k)) (h1 : K2 40 1 = 0) (h11 : K2 40 11 = K 40 11) : MRf H K2 := by
  refine ⟨fun a k a1 a2 => ?_, fun k hk => ?_, h1, ?_⟩
  · rw [h.1 a k a1 (by omega), hr.1 a k a1 (by omega), hx.2 a k (by simp only [List.mem_cons, List.not_mem_nil, or_false]; exact a1), s_0_ne (Or.inl a1)]
  · rw [h.2 k hk, hr.2.1 k (by omega) (by omega) (by omega) (by omega) (by omega) (by omega) (by omega), hx.1 k (by omega), s_0_ne (Or.inr (by omega))]
  · rw [h11, hr.2.1 11 (by omega) (by omega) (by omega) (by omega) (by omega) (by omega) (by omega), hx.1 11 (by omega), s_0_at (by omega)]
/-- read, of the reference -/
theorem cM_read (hn : H 40 1 = (n : Int)) (hn2 : n ≤ 1600) (ht : H 41 = t) (hb : ∀ k : Nat, k < n → 0 ≤ t k) (hσ : ∀ a k : Int, 40 ≤ a → a < 139 → σ a k = s_0 H a k)
    (hno : H 40 9 ≠ 0 → Q (-2) H G)
    (hfl : H 40 9 = 0 → ∀ (q : Int) (K : e3_H), a_text t n σ = .inl q → MRf H K → K 40 9 = 0 → K 40 10 = 0 → K 40 41 = 0 → Q (e3_w32 ((-10) - q)) K G)
    (hok : H 40 9 = 0 → ∀ σ3 : e3_H, a_text t n σ = .inr σ3 → ∃ (m nf : Nat) (Vs : Int → Int → Int → List (Int × Int)) (mr0 kk : Nat → Nat) (N : Nat → List a_ND), PX σ3 m nf Vs mr0 kk N ∧ ((∃ f : Nat, f < nf ∧ 120 < (N f).length) → ∀ K : e3_H, MRf H K → K 40 9 = 0 → K 40 10 = 0 → K 40 41 = 0 → Q (-3) K G) ∧ ((∀ f : Nat, f < nf → (N f).length ≤ 120) → ∀ K : e3_H, MRf H K → K 40 9 = 1 → TM σ3 m nf Vs mr0 (fun _ => 0) N K → Q nf K G)) : wM_read Q H G := by
  by_cases h9 : H 40 9 = 0
  case neg => exact brF h9 (hno h9)
  have hfl := hfl h9
  have hok := hok h9
  refine brT h9 ?_
  intro H1 e1
  intro H2 e2
  intro H3 e3
  intro H4 e4
  have e0 : e3_up H4 40 7 0 = s_0 H := by rw [e4, e3, e2, e1]; rfl
  have h4 : ∀ a k : Int, a ≠ 40 ∨ (k ≠ 10 ∧ k ≠ 41 ∧ k ≠ 16 ∧ k ≠ 11) → H4 a k = H a k := fun a k ha => by
    rw [e4, e3_up_ne (fun z => by omega), e3, e3_up_ne (fun z => by omega), e2, e3_up_ne (fun z => by omega), e1, e3_up_ne (fun z => by omega)]
  refine cM_beginTape (n := n) (t := t) (by rw [h4 40 1 (by omega)]; exact hn) hn2 (by rw [← ht]; funext k; exact h4 41 k (by omega)) hb (fun K0 htk hin h70 hx => ?_)
  rw [e0] at hx
  have hN : r_N σ K0 := fun a k a1 a2 hs => by
    rw [hσ a k a1 a2]
    by_cases h40 : a = 40
    · subst h40
      exact hx.1 k (by unfold r_scr at hs; omega)
    · exact hx.2 a k (by simp only [List.mem_cons, List.not_mem_nil, or_false]; exact h40)
  refine cM_text htk hin hN h70 (by rw [hσ 40 10 (by decide) (by decide)]; exact s_0_at (by omega)) (by rw [hσ 40 16 (by decide) (by decide)]; exact s_0_at (by omega)) (by rw [hσ 40 41 (by decide) (by decide)]; exact s_0_at (by omega)) (fun σ3 ha m' nf' K hF hNK h7 hr => ?_) (fun q ha K h7 h8 hr => ?_)
  · obtain ⟨m, nf, Vs, mr0, kk, N, hP, hbad, hgood⟩ := hok σ3 ha
    obtain ⟨p1, ⟨p2, p3⟩, p4, p5, p6, p7, p8⟩ := id hP
    have htb : tb σ3 K := fun a k a1 a2 a3 => hNK a k (by omega) (by omega) (by unfold r_scr; omega)
    have k10 : K 40 10 = (m : Int) := by rw [r_N_f hNK 10 (by omega)]; exact p1.2.2.2.2.1.1
    have k41 : K 40 41 = (nf : Int) := by rw [r_N_f hNK 41 (by omega)]; exact p1.1
    refine cM_109 (σ := σ3) (Vs := Vs) (mr0 := mr0) (kk := kk) (N := N) p1.2.1 htb k10 k41 h7 (fun f hf => (p8 f hf).2.1) (fun f hf => SFT_of p1 p2 p5 p6 hf p7 (p8 f hf).2.1) (fun f hf => (p8 f hf).2.2) (fun hN2 K2 hm hT => ?_) (fun hN2 K2 hm => ?_)
    · have f2 : ∀ k : Int, k ≠ 61 → k ≠ 65 → k ≠ 71 → k ≠ 93 → k ≠ 99 → k ≠ 105 → k ≠ 1 → k ≠ 9 → K2 40 k = K 40 k := fun k a1 a2 a3 a4 a5 a6 a7 a8 => by rw [hm.2 k a1 a2 a3 a4 a5 a6, e3_up_ne (ne_2 a8), e3_up_ne (ne_2 a7)]
      refine hgood hN2 K2 (rd_MRf hx hr ⟨fun a k a1 a2 => ?_, fun k hk => f2 k (by omega) (by omega) (by omega) (by omega) (by omega) (by omega) (by omega) (by omega)⟩ ?_ (f2 11 (by decide) (by decide) (by decide) (by decide) (by decide) (by decide) (by decide) (by decide))) ?_ ⟨⟨fun a k a1 a2 a3 => ?_, ⟨?_, ?_⟩, ?_⟩, hT⟩
      · rw [hm.1 a k a1 a2, e3_up_ne (ne_1 a1), e3_up_ne (ne_1 a1)]
      · rw [hm.2 1 (by decide) (by decide) (by decide) (by decide) (by decide) (by decide), e3_up_ne (ne_2 (by decide))]; exact e3_up_self ..
      · rw [hm.2 9 (by decide) (by decide) (by decide) (by decide) (by decide) (by decide)]; exact e3_up_self ..
      · rw [hm.1 a k (by omega) (by omega), e3_up_ne (ne_1 (by omega)), e3_up_ne (ne_1 (by omega))]; exact htb a k a1 a2 a3
      · rw [f2 10 (by decide) (by decide) (by decide) (by decide) (by decide) (by decide) (by decide) (by decide)]; exact k10
      · rw [f2 16 (by decide) (by decide) (by decide) (by decide) (by decide) (by decide) (by decide) (by decide)]; exact r_N_f hNK 16 (by omega)
      · rw [f2 41 (by decide) (by decide) (by decide) (by decide) (by decide) (by decide) (by decide) (by decide)]; exact k41
    · have f2 : ∀ k : Int, k ≠ 61 → k ≠ 65 → k ≠ 71 → k ≠ 93 → k ≠ 99 → k ≠ 105 → k ≠ 1 → k ≠ 9 → k ≠ 10 → k ≠ 41 → K2 40 k = K 40 k := fun k a1 a2 a3 a4 a5 a6 a7 a8 a9 a10 => by rw [hm.2 k a1 a2 a3 a4 a5 a6, e3_up_ne (ne_2 a10), e3_up_ne (ne_2 a9), e3_up_ne (ne_2 a8), e3_up_ne (ne_2 a7)]
      refine hbad hN2 K2 (rd_MRf hx hr ⟨fun a k a1 a2 => ?_, fun k hk => f2 k (by omega) (by omega) (by omega) (by omega) (by omega) (by omega) (by omega) (by omega) (by omega) (by omega)⟩ ?_ (f2 11 (by decide) (by decide) (by decide) (by decide) (by decide) (by decide) (by decide) (by decide) (by decide) (by decide))) ?_ ?_ ?_
      · rw [hm.1 a k a1 a2, e3_up_ne (ne_1 a1), e3_up_ne (ne_1 a1), e3_up_ne (ne_1 a1), e3_up_ne (ne_1 a1)]
      · rw [hm.2 1 (by decide) (by decide) (by decide) (by decide) (by decide) (by decide), e3_up_ne (ne_2 (by decide)), e3_up_ne (ne_2 (by decide)), e3_up_ne (ne_2 (by decide))]; exact e3_up_self ..
      · rw [hm.2 9 (by decide) (by decide) (by decide) (by decide) (by decide) (by decide), e3_up_ne (ne_2 (by decide)), e3_up_ne (ne_2 (by decide))]; exact e3_up_self ..
      · rw [hm.2 10 (by decide) (by decide) (by decide) (by decide) (by decide) (by decide), e3_up_ne (ne_2 (by decide))]; exact e3_up_self ..
      · rw [hm.2 41 (by decide) (by decide) (by decide) (by decide) (by decide) (by decide)]; exact e3_up_self ..
  · refine cM_109f h7 ?_
    rw [h8]
    refine hfl q _ ha (rd_MRf hx hr ⟨fun a k a1 a2 => ?_, fun k hk => ?_⟩ ?_ ?_) ?_ ?_ ?_
    · rw [e3_up_ne (ne_1 a1), e3_up_ne (ne_1 a1), e3_up_ne (ne_1 a1), e3_up_ne (ne_1 a1)]
    · rw [e3_up_ne (ne_2 (by omega)), e3_up_ne (ne_2 (by omega)), e3_up_ne (ne_2 (by omega)), e3_up_ne (ne_2 (by omega))]
    · rw [e3_up_ne (ne_2 (by decide)), e3_up_ne (ne_2 (by decide)), e3_up_ne (ne_2 (by decide))]; exact e3_up_self ..
    · rw [e3_up_ne (ne_2 (by decide)), e3_up_ne (ne_2 (by decide)), e3_up_ne (ne_2 (by decide)), e3_up_ne (ne_2 (by decide))]
    · rw [e3_up_ne (ne_2 (by decide)), e3_up_ne (ne_2 (by decide))]; exact e3_up_self ..
    · rw [e3_up_ne (ne_2 (by decide))]; exact e3_up_self ..
    · exact e3_up_self ..
end CMR
