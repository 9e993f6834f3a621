/-- terms and sums of a guard -/
def zT1 (σ : e3_H) (i : Int) : Prop := σ 75 i = 2 → 0 ≤ σ 76 i ∧ σ 76 i < 8
def zS1 (σ : e3_H) (r d : Int) : Prop := zT1 σ (4 * r + 2 * d) ∧ (σ 77 (2 * r + d) = 0 ∨ (a_isop (σ 77 (2 * r + d)) ∧ zT1 σ (4 * r + 2 * d + 1)))
def tvl (σ K : e3_H) (i : Int) : Int := if σ 75 i = 2 then K 129 (K 136 (σ 76 i)) else σ 76 i
/-- what following a tree or rules may change -/
def zT (H K : e3_H) : Prop := (∀ a k : Int, a ≠ 40 → a ≠ 136 → a ≠ 137 → a < 94 ∨ 98 < a → K a k = H a k) ∧ ∀ k : Int, k ≠ 71 → k ≠ 119 → k ≠ 122 → k ≠ 123 → k ≠ 125 → K 40 k = H 40 k
theorem zT_rf (H : e3_H) : zT H H := ⟨fun _ _ _ _ _ _ => rfl, fun _ _ _ _ _ _ => rfl⟩
theorem zT_tr {H K K2 : e3_H} (h : zT H K) (h2 : zT K K2) : zT H K2 := ⟨fun a k h3 h4 h5 h6 => (h2.1 a k h3 h4 h5 h6).trans (h.1 a k h3 h4 h5 h6), fun k h3 h4 h5 h6 h7 => (h2.2 k h3 h4 h5 h6 h7).trans (h.2 k h3 h4 h5 h6 h7)⟩
theorem zT_B {H K : e3_H} (h : zB H K) : zT H K := ⟨fun a k h3 h4 _ h6 => h.1 a k h3 h4 h6, fun k h3 _ _ _ _ => h.2 k h3⟩
theorem zT_up {H K : e3_H} {a k v : Int} (h : zT H K) (ha : a = 137 ∨ (a = 40 ∧ (k = 119 ∨ k = 122 ∨ k = 123 ∨ k = 125))) : zT H (e3_up K a k v) := ⟨fun b j h3 h4 h5 h6 => by rw [e3_up_ne (fun z => by omega)]; exact h.1 b j h3 h4 h5 h6, fun j h3 h4 h5 h6 h7 => by rw [e3_up_ne (fun z => by omega)]; exact h.2 j h3 h4 h5 h6 h7⟩
theorem tb_zT {σ H K : e3_H} (h : tb σ H) (h2 : zT H K) : tb σ K := fun a k h3 h4 h5 => (h2.1 a k (by omega) (by omega) (by omega) (by omega)).trans (h a k h3 h4 h5)
theorem zMV_T {H K : e3_H} (h : zMV H) (f : zT H K) : zMV K := zMV_eq h (fun a k h1 h2 => f.1 a k (by omega) (by omega) (by omega) (by omega)) (f.2 109 (by decide) (by decide) (by decide) (by decide) (by decide)) (by rw [f.2 10 (by decide) (by decide) (by decide) (by decide) (by decide)]; exact Int.le_refl _) (fun k _ _ => f.1 44 k (by decide) (by decide) (by decide) (by decide))
theorem zMK_T {H K : e3_H} (h : zMK H) (f : zT H K) : zMK K := zMK_eq h (fun a k ha => f.1 a k (by omega) (by omega) (by omega) (by omega)) (f.2 10 (by decide) (by decide) (by decide) (by decide) (by decide))
section ZGD
variable {Q : Int → e3_H → e3_G → Prop} {σ H : e3_H} {G : e3_G} {c : Int}
theorem zM_term {i : Int} (htb : tb σ H) (hc : c ≤ 160) (h6 : z6 c H) (hi : 0 ≤ i ∧ i < 768) (h : zT1 σ i) (hQ : Q (tvl σ H i) H G) : wM_term Q i H G := by
  have e75 := htb 75 i (by decide) (by decide) (by decide)
  have e76 := htb 76 i (by decide) (by decide) (by decide)
  unfold tvl at hQ
  refine ⟨hi, ?_⟩
  rw [e75, e76]
  refine ⟨fun z => ⟨hi, h z, by have := h6 _ (h z).1 (h z).2; omega, ?_⟩, fun z => ⟨hi, ?_⟩⟩
  · rw [if_pos z] at hQ; exact hQ
  · rw [if_neg z] at hQ; exact hQ
theorem zM_isThrown {r d : Int} (htb : tb σ H) (hc : c ≤ 160) (h6 : z6 c H) (hr : 0 ≤ r ∧ r < 192) (hd : d = 0 ∨ d = 1) (h : zS1 σ r d) (h1 : Q 1 H G) (h0 : (σ 77 (2 * r + d) = 47 ∨ σ 77 (2 * r + d) = 37 → tvl σ H (4 * r + 2 * d + 1) ≠ 0) → Q 0 H G) : wM_isThrown Q r d H G := by
  have e77 := htb 77 (2 * r + d) (by decide) (by decide) (by decide)
  unfold wM_isThrown
  rw [e3_w32_id (x := 2 * r) (by omega) (by omega), e3_w32_id (x := 2 * r + d) (by omega) (by omega), e77]
  have n23 : (σ 77 (2 * r + d) = 47 ∨ σ 77 (2 * r + d) = 37) → wM_isThrown_23 Q r d H G := fun hop => by
    unfold wM_isThrown_23
    rw [e3_w32_id (x := 4 * r) (by omega) (by omega), e3_w32_id (x := 2 * d) (by omega) (by omega), e3_w32_id (x := 4 * r + 2 * d) (by omega) (by omega), e3_w32_id (x := 4 * r + 2 * d + 1) (by omega) (by omega)]
    have ht : zT1 σ (4 * r + 2 * d + 1) := by
      rcases h.2 with y | y
      · omega
      · exact y.2
    refine zM_term htb hc h6 (by omega) ht ⟨fun _ => ⟨Or.inr rfl, h1⟩, fun z => ⟨Or.inl rfl, h0 (fun _ => z)⟩⟩
  exact ⟨by omega, fun z => n23 (Or.inl z), fun z => ⟨fun y => n23 (Or.inr y), fun y => ⟨Or.inl rfl, h0 (fun t => by rcases t with t | t; exact absurd t z; exact absurd t y)⟩⟩⟩
theorem zM_sum {r d : Int} (htb : tb σ H) (hc : c ≤ 160) (h6 : z6 c H) (hr : 0 ≤ r ∧ r < 192) (hd : d = 0 ∨ d = 1) (h : zS1 σ r d) (hz : σ 77 (2 * r + d) = 47 ∨ σ 77 (2 * r + d) = 37 → tvl σ H (4 * r + 2 * d + 1) ≠ 0) (hQ : ∀ x, Q x H G) : wM_sum Q r d H G := by
  have e77 := htb 77 (2 * r + d) (by decide) (by decide) (by decide)
  unfold wM_sum
  rw [e3_w32_id (x := 2 * r) (by omega) (by omega), e3_w32_id (x := 2 * r + d) (by omega) (by omega), e3_w32_id (x := 4 * r) (by omega) (by omega), e3_w32_id (x := 2 * d) (by omega) (by omega), e3_w32_id (x := 4 * r + 2 * d) (by omega) (by omega), e3_w32_id (x := 4 * r + 2 * d + 1) (by omega) (by omega)]
  refine zM_term htb hc h6 (by omega) h.1 ⟨by omega, ?_⟩
  rw [e77]
  refine ⟨fun _ => hQ _, fun z => ?_⟩
  obtain ⟨o1, o2⟩ : a_isop (σ 77 (2 * r + d)) ∧ zT1 σ (4 * r + 2 * d + 1) := by
    rcases h.2 with y | y
    · exact absurd y z
    · exact y
  refine zM_term htb hc h6 (by omega) o2 ⟨fun _ => hQ _, fun z1 => ⟨fun _ => hQ _, fun z2 => ⟨fun _ => hQ _, fun z3 => ⟨fun y => ⟨hz (Or.inl y), hQ _⟩, fun z4 => ⟨hz (Or.inr ?_), hQ _⟩⟩⟩⟩⟩
  rcases o1 with y | y | y | y | y
  · exact absurd y z1
  · exact absurd y z2
  · exact absurd y z3
  · exact absurd y z4
  · exact y
theorem tvl_eq {K : e3_H} {i : Int} (e : ∀ a k : Int, a = 129 ∨ a = 136 → K a k = H a k) : tvl σ K i = tvl σ H i := by
  unfold tvl
  split
  · rw [e 136 _ (Or.inr rfl), e 129 _ (Or.inl rfl)]
  · rfl
theorem zM_guarded {r : Int} (htb : tb σ H) (hc : c ≤ 160) (h6 : z6 c H) (hr : 0 ≤ r ∧ r < 192) (h0 : zS1 σ r 0) (h1 : zS1 σ r 1) (hn : 0 ≤ H 40 123 ∧ H 40 123 ≤ 1000000) (hQ : ∀ x K, (x = 0 ∨ x = 1 ∨ x = 2) → zT H K → z6 c K → K 40 123 = H 40 123 + 1 → Q x K G) : wM_guarded Q r H G := by
  have n30 : ∀ K, zT H K → K 40 123 = H 40 123 → (∀ k : Int, K 136 k = H 136 k) → wM_guarded_30 Q r K G := fun K f e3 e6 => by
    intro H1 e1
    rw [e3, e3_w32_id (by omega) (by omega)] at e1
    have f1 : zT H H1 := by rw [e1]; exact zT_up f (by omega)
    have c1 : H1 40 123 = H 40 123 + 1 := by rw [e1]; exact e3_up_self ..
    have s1 : z6 c H1 := fun i i0 i1 => by rw [e1, e3_up_ne (ne_1 (by decide)), e6]; exact h6 i i0 i1
    have t1 := tb_zT htb f1
    have fin : ∀ x, (x = 0 ∨ x = 1 ∨ x = 2) → Q x H1 G := fun x hx => hQ x H1 hx f1 s1 c1
    have e78 := t1 78 r (by decide) (by decide) (by decide)
    refine zM_isThrown t1 hc s1 hr (Or.inl rfl) h0 (brF (by decide) (fin 2 (by omega))) (fun z0 => brT rfl (zM_isThrown t1 hc s1 hr (Or.inr rfl) h1 (brF (by decide) (fin 2 (by omega))) (fun z1 => brT rfl ?_)))
    refine zM_sum t1 hc s1 hr (Or.inl rfl) h0 z0 (fun x10 => zM_sum t1 hc s1 hr (Or.inr rfl) h1 z1 (fun x13 => ⟨hr, fun _ => ⟨fun _ => fin 1 (by omega), fun _ => fin 0 (by omega)⟩, fun _ => ⟨fun _ => ⟨fun _ => fin 1 (by omega), fun _ => fin 0 (by omega)⟩, fun _ => ⟨fun _ => fin 1 (by omega), fun _ => fin 0 (by omega)⟩⟩⟩))
  refine ⟨fun z => ⟨by decide, by decide, by omega, fun H1 e1 => ?_⟩, fun z => n30 H (zT_rf H) rfl (fun _ => rfl)⟩
  exact n30 H1 (by rw [e1]; exact zT_up (zT_rf H) (by omega)) (by rw [e1, e3_up_ne (ne_1 (by decide))]) (fun k => by rw [e1, e3_up_ne (ne_1 (by decide))])
/-- a rule of a FUNCTION, for sorting -/
def zRl (σ : e3_H) (f : Int) (k : Int) (V : Int → List (Int × Int)) : Prop := (∃ (hi : Int) (L : List Int), (∀ y : Int, 0 ≤ y → y < hi → 1 ≤ σ 55 y ∧ σ 55 y ≤ 1000) ∧ hi ≤ 1700 ∧ (L.length : Int) = σ 68 f ∧ ach σ (σ 72 (16 * f + k)) L ∧ (∀ x, x ∈ L → (0 ≤ x ∧ x < hi) ∧ wt σ 6 hi x) ∧ wp σ L = σ 74 (16 * f + k) ∧ σ 74 (16 * f + k) ≤ 40 ∧ ∀ w : Int, 0 ≤ w → w < σ 74 (16 * f + k) → lyC (lyV σ 6) σ L w 1 (V w) ∧ nt σ (V w) ≤ 2000 ∧ ∀ p, p ∈ V w → zNX σ p.1) ∧ (σ 78 (16 * f + k) ≠ 0 → zS1 σ (16 * f + k) 0 ∧ zS1 σ (16 * f + k) 1)
theorem zM_binds0 {f k w : Int} {V : Int → List (Int × Int)} (hf : 0 ≤ f ∧ f < 12) (hk : 0 ≤ k ∧ k < 16) (h68 : 1 ≤ σ 68 f ∧ σ 68 f ≤ 3) (hR : zRl σ f k V) (hw : 0 ≤ w ∧ w < σ 74 (16 * f + k)) (htb : tb σ H) (hM : zMV H) (hK : zMK H) (h5 : ∀ i : Int, 0 ≤ i → i < σ 68 f → 0 ≤ H 135 i ∧ H 135 i < H 40 109) (h6 : z6 (H 40 109) H) (hQ : ∀ x K, (x = 0 ∨ x = 1) → zB H K → z6 (H 40 109) K → Q x K G) : wM_binds0 Q (16 * f + k) w H G := by
  obtain ⟨⟨hi, L, r1, r2, r3, r4, r5, r6, r7, r8⟩, _⟩ := hR
  obtain ⟨v1, v2, v3⟩ := r8 w hw.1 hw.2
  have hc := hM.1
  intro H1 e1
  have b1 : zB H H1 := by rw [e1]; exact zB_up (zB_rf H) (by omega)
  have t1 := tb_zB htb b1
  have s1 : z6 (H 40 109) H1 := by rw [e1]; exact z6_up h6 (Or.inl (by decide))
  refine ⟨by omega, ?_⟩
  rw [t1 72 _ (by decide) (by decide) (by decide)]
  have hpos : ∀ y, y ∈ L → 1 ≤ σ 55 y := fun y hy => (r1 y (r5 y hy).1.1 (r5 y hy).1.2).1
  have hT2 := kl_lyT (σ := σ) (hi := hi) (k := 6) (T := []) (V2 := []) rfl L w 1 (V w) v1 (fun y hy => ⟨(r5 y hy).1, (r5 y hy).2, hpos y hy⟩) (by omega) hw.1 (by omega) (by omega) (by
    have e6 : p8 6 = 262144 := by decide
    rw [e6]
    omega)
  rw [List.append_nil, List.append_nil] at hT2
  refine ⟨L.length + 1, zM_6 (σ := σ) (c := H 40 109) (L := L) (T := []) (by decide) (by decide) (by omega) (fun y hy => ⟨⟨(r5 y hy).1.1, by have := (r5 y hy).1.2; omega⟩, r1 y (r5 y hy).1.1 (r5 y hy).1.2⟩) hw.1 (by rw [r6]; exact hw.2) (by omega) (by show 0 + L.length ≤ 2000; omega) L [] _ H1 rfl r4 (fun i y hy => by cases hy) t1 (by rw [e1]; exact e3_up_self ..) trivial s1 ⟨fun _ => ⟨by omega, fun i hi => ?_⟩, fun z => absurd rfl z⟩ (fun K z1 z2 z3 z4 => ?_)⟩
  · rw [e1, e3_up_ne (ne_1 (by decide))]; exact h5 i (by omega) (by omega)
  · rw [List.append_nil] at z4
    refine ⟨(V w).length + 1, zM_18 (hi := hi) (H0 := H) r1 r2 hM hK hQ (V w).length (V w) _ K (Nat.le_refl _) hT2 v3 (fun y hy => ?_) z4 (by rw [z2, kl_len]; show (0 : Int) + L.length = _; omega) v2 (tb_zB t1 z1) (zB_tr b1 z1) z3⟩
    have klx : ∀ (L : List Int) (w x : Int), 1 ≤ x → ∀ y, y ∈ kl σ L w x → 1 ≤ y.2.2 := by
      intro L
      induction L with
      | nil => intro w x _ y hy; exact absurd hy (List.not_mem_nil)
      | cons c l ihl =>
        intro w x hx y hy
        rcases List.mem_cons.mp hy with u | u
        · rw [u]; exact hx
        · exact ihl _ _ (by omega) y u
    exact klx L w _ (by decide) y hy
end ZGD
