/-- what making a tree, its rows too, may change -/
def mv (slot : Int) (K K2 : e3_H) : Prop := (∀ a k : Int, a ≠ 40 → a < 86 ∨ (99 ≤ a ∧ a ≤ 101 ∧ k ≠ slot) ∨ (102 ≤ a ∧ a ≤ 114 ∧ (k < 300 * slot ∨ 300 * slot + 120 ≤ k)) ∨ 127 < a → K2 a k = K a k) ∧ ∀ k : Int, k ≠ 61 → k ≠ 65 → k ≠ 71 → k ≠ 93 → k ≠ 99 → k ≠ 105 → K2 40 k = K 40 k
theorem mv_tr {slot : Int} {K K2 K3 : e3_H} (h : mv slot K K2) (h2 : mv slot K2 K3) : mv slot K K3 := ⟨fun a k h3 h4 => (h2.1 a k h3 h4).trans (h.1 a k h3 h4), fun k h3 h4 h5 h6 h7 h8 => (h2.2 k h3 h4 h5 h6 h7 h8).trans (h.2 k h3 h4 h5 h6 h7 h8)⟩
section MM2
variable {Q : Int → e3_H → e3_G → Prop} {σ H : e3_H} {G : e3_G} {m mr0 k : Nat} {f way slot l4 : Int} {un : Bool} {Vs : Int → Int → List (Int × Int)} {N : List a_ND}
/-- a tree is made -/
theorem cM_makes (hM : RM σ f mr0 Vs) (hun : un = true ∧ l4 ≠ 0 ∨ un = false ∧ l4 = 0) (htb : tb σ H) (h10 : H 40 10 = (m : Int)) (hF : SFT σ m f (rls σ f Vs un mr0)) (hW4 : ∀ e, e ∈ rls σ f Vs un mr0 → 0 ≤ e.2.1 ∧ e.2.1 < σ 74 e.1) (hway : 0 ≤ way ∧ way ≤ 3) (hsl : 0 ≤ slot ∧ slot < 13) (hgr : gr σ m (rwl σ (rls σ f Vs un mr0)) way k [] N)
    (hok : N.length ≤ 120 → ∀ (K : e3_H) (D : List (a_PT × Int)), mv slot H K → D.length = N.length → K 99 slot = (N.length : Int) → K 100 slot = way → K 101 slot = (m : Int) → TRM σ m (rwl σ (rls σ f Vs un mr0)) way (300 * slot) D K → ZDN σ m (rwl σ (rls σ f Vs un mr0)) way (300 * slot) N D [] [] → Q 1 K G)
    (hbad : 120 < N.length → ∀ K : e3_H, mv slot H K → Q 0 K G) : wM_makes Q slot f way l4 H G := by
  refine cM_layRows hM hun htb (fun K1 m1 t1 r1 => ⟨hsl, ?_⟩)
  intro H4 e4
  refine ⟨hsl, ?_⟩
  intro H6 e6
  rw [show H4 40 10 = (m : Int) by rw [e4, e3_up_ne (ne_1 (by decide)), m1.2 10 (by decide) (by decide) (by decide)]; exact h10] at e6
  intro H8 e8
  intro H9 e9
  rw [e3_w32_id (by omega) (by omega)]
  have x9 : ∀ a k : Int, a ≠ 100 → a ≠ 101 → (a ≠ 40 ∨ k ≠ 93) → a ≠ 115 → H9 a k = K1 a k := fun a k h1 h2 h3 h4 => by rw [e9, e3_up_ne (ne_1 h4), e8, e3_up_ne (fun z => by omega), e6, e3_up_ne (ne_1 h2), e4, e3_up_ne (ne_1 h1)]
  have v93 : H9 40 93 = 1 := by rw [e9, e3_up_ne (ne_1 (by decide)), e8, e3_up_self]
  have v115 : H9 115 0 = -4 := by rw [e9, e3_up_self]
  have v100 : H9 100 slot = way := by rw [e9, e3_up_ne (ne_1 (by decide)), e8, e3_up_ne (ne_1 (by decide)), e6, e3_up_ne (ne_1 (by decide)), e4, e3_up_self]
  have v101 : H9 101 slot = (m : Int) := by rw [e9, e3_up_ne (ne_1 (by decide)), e8, e3_up_ne (ne_1 (by decide)), e6, e3_up_self]
  have hv9 : mv slot H H9 := ⟨fun a j h1 h2 => by
    rw [e9, e3_up_ne (fun z => by omega), e8, e3_up_ne (fun z => by omega), e6, e3_up_ne (fun z => by omega), e4, e3_up_ne (fun z => by omega)]
    exact m1.1 a j h1 (by omega), fun j h1 h2 h3 h4 h5 h6 => by
    rw [x9 40 j (by decide) (by decide) (Or.inr h4) (by decide)]
    exact m1.2 j h1 h2 h3⟩
  have hvw : ∀ K : e3_H, mw (300 * slot) slot H9 K → mv slot H K := fun K hw => mv_tr hv9 ⟨fun a j h1 h2 => hw.1 a j h1 (by omega), fun j h1 h2 h3 h4 h5 h6 => hw.2 j h4 h5 h6⟩
  have htb9 : tb σ H9 := fun a k h3 h4 h5 => (x9 a k (by omega) (by omega) (by omega) (by omega)).trans (t1 a k h3 h4 h5)
  refine ⟨N.length + 1, cM_47 (N0 := N) (f := f) hF hW4 htb9 (by rw [x9 40 10 (by decide) (by decide) (by decide) (by decide), m1.2 10 (by decide) (by decide) (by decide)]; exact h10) (M_rows_eq r1 (fun a y ha => x9 a y (by omega) (by omega) (by omega) (by omega))) hway (by omega) (by omega) hsl (fun hn K D w1 w2 w3 w4 w5 => hok hn K D (hvw K w1) w2 w3 ?_ ?_ w4 w5) (fun hn K w1 => hbad hn K (hvw K w1)) N.length [] [([], -4, H9 116 0, H9 117 0, H9 118 0, H9 119 0)] N H9 rfl (mw_rf _ _ _) v93 ?_ (fun j π par hj => by cases hj) (fun j π par _ hj => by cases hj) (fun n hn => absurd hn (Nat.not_lt_zero _)) (fun a ha => ?_) ⟨k, N, [], by rw [List.append_nil], hgr, rfl⟩ (by show 0 + N.length = _; omega) (by decide) (by show 1 ≤ 300; decide) (fun n π pp hn => by cases hn) ⟨⟨[], rfl, rfl⟩, fun j π par hj => (by cases hj), fun i hi => absurd hi (by show ¬ (-4 : Int) = 300 * slot + (i : Int); omega), trivial⟩⟩
  · rw [w1.1 100 slot (by decide) (by omega)]; exact v100
  · rw [w1.1 101 slot (by decide) (by omega)]; exact v101
  · exact ⟨v115, rfl, rfl, rfl, rfl, trivial⟩
  · rw [List.mem_singleton.mp ha]
    exact ⟨trivial, Or.inl ⟨rfl, rfl⟩⟩
end MM2
