/-- the stack, with the VALUES at the places -/
def nSt (H0 K : e3_H) : List (Int × Int × Int) → Prop
  | [] => True
  | e :: T => K 94 T.length = e.1 ∧ K 95 T.length = e.2.1 ∧ K 96 T.length = e.2.2 ∧ K 97 T.length = vt H0 e.2.2 ∧ nSt H0 K T
theorem nSt_eq {H0 K K2 : e3_H} : ∀ T : List (Int × Int × Int), nSt H0 K T → (∀ a k : Int, 94 ≤ a → a ≤ 97 → k < T.length → K2 a k = K a k) → nSt H0 K2 T := by
  intro T
  induction T with
  | nil => intro _ _; exact trivial
  | cons e T ih =>
    intro h he
    obtain ⟨h1, h2, h3, h4, h5⟩ := h
    rw [List.length_cons] at he
    exact ⟨by rw [he _ _ (by decide) (by decide) (by omega)]; exact h1, by rw [he _ _ (by decide) (by decide) (by omega)]; exact h2, by rw [he _ _ (by decide) (by decide) (by omega)]; exact h3, by rw [he _ _ (by decide) (by decide) (by omega)]; exact h4, ih h5 (fun a k h1 h2 h3 => he a k h1 h2 (by omega))⟩
/-- a pattern's NAMES take its VALUE -/
def nm1 (σ H0 : e3_H) (p : Int × Int) (B : Int → Int) : Int → Int := fun i => if σ 54 p.1 = i then vt H0 p.2 else if σ 53 p.1 = i then vt H0 p.2 else B i
def nmf (σ H0 : e3_H) : List (Int × Int) → (Int → Int) → Int → Int
  | [], B => B
  | p :: V, B => nmf σ H0 V (nm1 σ H0 p B)
theorem nmf_app (σ H0 : e3_H) : ∀ (A C : List (Int × Int)) (B : Int → Int), nmf σ H0 (A ++ C) B = nmf σ H0 C (nmf σ H0 A B) := by
  intro A
  induction A with
  | nil => intro C B; rfl
  | cons p A ih => intro C B; exact ih C _
/-- what NAMES hold -/
def n6 (B : Int → Int) (K : e3_H) : Prop := ∀ i : Int, 0 ≤ i → i < 8 → K 136 i = B i
section NBD
variable {σ H0 : e3_H} {G : e3_G}
theorem nM_wait0 {Q : e3_H → e3_G → Prop} {q w x v : Int} {T : List (Int × Int × Int)} {H : e3_H} (h71 : H 40 71 = T.length) (hl : T.length < 2000) (hT : nSt H0 H T) (hv : v = vt H0 x) (hQ : ∀ K, zB H K → K 40 71 = (T.length : Int) + 1 → (∀ a k : Int, a = 98 ∨ a = 136 → K a k = H a k) → nSt H0 K ((q, w, x) :: T) → Q K G) : wM_wait0 Q q w x v H G := by
  refine ⟨by omega, ?_⟩
  intro H1 e1
  have f1 : H1 40 71 = T.length := by rw [e1, e3_up_ne (ne_1 (by decide))]; exact h71
  refine ⟨by omega, ?_⟩
  intro H3 e3
  have f3 : H3 40 71 = T.length := by rw [e3, e3_up_ne (ne_1 (by decide))]; exact f1
  refine ⟨by omega, ?_⟩
  intro H5 e5
  have f5 : H5 40 71 = T.length := by rw [e5, e3_up_ne (ne_1 (by decide))]; exact f3
  refine ⟨by omega, ?_⟩
  intro H7 e7
  have f7 : H7 40 71 = T.length := by rw [e7, e3_up_ne (ne_1 (by decide))]; exact f5
  intro H9 e9
  rw [f7, e3_w32_id (by omega) (by omega)] at e9
  rw [h71] at e1
  rw [f1] at e3
  rw [f3] at e5
  rw [f5] at e7
  have b9 : zB H H9 := by rw [e9, e7, e5, e3, e1]; exact zB_up (zB_up (zB_up (zB_up (zB_up (zB_rf H) (by omega)) (by omega)) (by omega)) (by omega)) (by omega)
  refine hQ H9 b9 (by rw [e9, e3_up_self]) (fun a k ha => ?_) ⟨?_, ?_, ?_, ?_, nSt_eq T hT (fun a k h1 h2 h3 => ?_)⟩
  · rw [e9, e3_up_ne (by omega), e7, e3_up_ne (by omega), e5, e3_up_ne (by omega), e3, e3_up_ne (by omega), e1, e3_up_ne (by omega)]
  · rw [e9, e3_up_ne (by omega), e7, e3_up_ne (by omega), e5, e3_up_ne (by omega), e3, e3_up_ne (by omega), e1, e3_up_self]
  · rw [e9, e3_up_ne (by omega), e7, e3_up_ne (by omega), e5, e3_up_ne (by omega), e3, e3_up_self]
  · rw [e9, e3_up_ne (by omega), e7, e3_up_ne (by omega), e5, e3_up_self]
  · rw [e9, e3_up_ne (by omega), e7, e3_up_self]; exact hv
  · rw [e9, e3_up_ne (by omega), e7, e3_up_ne (by omega), e5, e3_up_ne (by omega), e3, e3_up_ne (by omega), e1, e3_up_ne (by omega)]
/-- VALUES of children -/
def nVL (H0 : e3_H) (l3 l4 : Int) (n : Nat) (H : e3_H) : Prop := (l3 = 0 → n ≤ 3 ∧ ∀ i : Nat, i < n → H 135 i = vt H0 (8 * l3 + 1 + i)) ∧ (l3 ≠ 0 → n ≤ 4 ∧ ∀ i : Nat, i < n → H 132 (4 * l4 + i) = vt H0 (8 * l3 + 1 + i))
theorem nM_46 {Q : e3_H → e3_G → Prop} {l3 l4 : Int} (h3 : 0 ≤ l3 ∧ l3 ≤ 100000000) (h4 : 0 ≤ l4 ∧ l4 < 160) : ∀ (n : Nat) (L : List Int) (w : Int) (T : List (Int × Int × Int)) (H : e3_H), L.length = n → n ≤ 1700 → (∀ (i : Nat) (c : Int), L[i]? = some c → H 98 i = c) → (∀ c, c ∈ L → (0 ≤ c ∧ c < 1700) ∧ 1 ≤ σ 55 c ∧ σ 55 c ≤ 1000) → 0 ≤ w → w < wp σ L → w ≤ 2147483647 → tb σ H → H 40 71 = T.length → T.length + n ≤ 2000 → nSt H0 H T → nVL H0 l3 l4 n H →
    (∀ K, zB H K → K 40 71 = (T.length : Int) + n → (∀ k : Int, K 136 k = H 136 k) → nSt H0 K (kl σ L w (8 * l3 + 1) ++ T) → Q K G) → wM_waitAll_46 Q (n + 1) l3 l4 w ((n : Int) - 1) H G := by
  intro n
  induction n with
  | zero =>
    intro L w T H hn _ _ _ _ _ _ _ h71 _ hT _ hQ
    have hL : L = [] := List.eq_nil_of_length_eq_zero hn
    subst hL
    exact brT (by decide) (hQ H (zB_rf H) (by rw [h71]; omega) (fun _ => rfl) hT)
  | succ n ih =>
    intro L w T H hn hn17 h98 hr w0 w1 w2 htb h71 hlen hT hV hQ
    have hne : L ≠ [] := fun z => by rw [z] at hn; cases hn
    obtain ⟨L1, d, rfl⟩ : ∃ L1 c, L = L1 ++ [c] := ⟨L.dropLast, L.getLast hne, (List.dropLast_concat_getLast hne).symm⟩
    have hn1 : L1.length = n := by rw [List.length_append] at hn; have : L1.length + 1 = n + 1 := hn; omega
    have hc := hr d (List.mem_append_right _ (List.mem_singleton.mpr rfl))
    have hr1 : ∀ y, y ∈ L1 → (0 ≤ y ∧ y < 1700) ∧ 1 ≤ σ 55 y ∧ σ 55 y ≤ 1000 := fun y hy => hr y (List.mem_append_left _ hy)
    have e98 : H 98 n = d := h98 n d (by rw [List.getElem?_append_right (by omega), hn1, Nat.sub_self]; rfl)
    have e55 : H 55 d = σ 55 d := htb 55 d (by decide) (by decide) (by decide)
    have hwp : wp σ (L1 ++ [d]) = wp σ L1 * σ 55 d := wp_snoc L1
    have go : ∀ v : Int, v = vt H0 (8 * l3 + 1 + n) → wM_waitAll_96 Q (fun l3 l4 l6 l7 H G => wM_waitAll_46 Q (n + 1) l3 l4 l6 l7 H G) l3 l4 w n (H 98 n) v H G := fun v hv => by
      rw [e98]
      refine ⟨hc.1, by rw [e55]; omega, ?_⟩
      have d1 := Int.ediv_nonneg w0 (show 0 ≤ σ 55 d by omega)
      have d2 := Int.ediv_le_self (σ 55 d) w0
      have d4 : w / σ 55 d < wp σ L1 := Int.ediv_lt_of_lt_mul (by omega) (by rw [← hwp]; exact w1)
      rw [e55, e3_rem_id ⟨w0, w2⟩ (by omega), e3_w32_id (x := 8 * l3) (by omega) (by omega), e3_w32_id (x := 8 * l3 + n) (by omega) (by omega), e3_w32_id (x := 8 * l3 + n + 1) (by omega) (by omega)]
      refine nM_wait0 h71 (by omega) hT (by rw [hv, show 8 * l3 + 1 + (n : Int) = 8 * l3 + n + 1 by omega]) (fun K m1 m2 m3 m5 => ?_)
      have k55 : K 55 d = σ 55 d := by rw [m1.1 55 d (by decide) (by decide) (by decide)]; exact e55
      refine ⟨hc.1, by rw [k55]; omega, ?_⟩
      rw [k55, e3_div_id ⟨w0, w2⟩ (by omega), e3_w32_id (x := (n : Int) + -1) (by omega) (by omega)]
      refine ih L1 (w / σ 55 d) ((d, w % σ 55 d, 8 * l3 + n + 1) :: T) K hn1 (by omega) (fun i y hy => ?_) hr1 d1 d4 (by omega) (tb_zB htb m1) (by rw [m2, List.length_cons]; omega) (by rw [List.length_cons]; omega) m5 ⟨fun z => ?_, fun z => ?_⟩ (fun K2 z1 z2 z3 z6 => ?_)
      · rw [m3 98 _ (Or.inl rfl)]
        have hlt : i < L1.length := (List.getElem?_eq_some_iff.mp hy).1
        exact h98 i y (by rw [List.getElem?_append_left hlt]; exact hy)
      · refine ⟨by have := (hV.1 z).1; omega, fun i hi => ?_⟩
        rw [m1.1 135 _ (by decide) (by decide) (by decide)]
        exact (hV.1 z).2 i (by omega)
      · refine ⟨by have := (hV.2 z).1; omega, fun i hi => ?_⟩
        rw [m1.1 132 _ (by decide) (by decide) (by decide)]
        exact (hV.2 z).2 i (by omega)
      · refine hQ K2 (zB_tr m1 z1) (by rw [z2, List.length_cons]; omega) (fun k => (z3 k).trans (m3 136 k (Or.inr rfl))) ?_
        rw [kl_snoc hc.2.1 L1 w _ (fun y hy => (hr1 y hy).2.1) w0 w1, List.append_assoc, hn1, show 8 * l3 + 1 + (n : Int) = 8 * l3 + n + 1 by omega]
        exact z6
    rw [show ((n + 1 : Nat) : Int) - 1 = n by omega]
    refine brF (by omega) ⟨⟨by omega, by omega⟩, brF (by omega) ⟨fun z => ?_, fun z => ?_⟩⟩
    · obtain ⟨v1, v2⟩ := hV.1 z
      exact ⟨by omega, go _ (v2 n (by omega))⟩
    · obtain ⟨v1, v2⟩ := hV.2 z
      rw [e3_w32_id (x := 4 * l4) (by omega) (by omega), e3_w32_id (x := 4 * l4 + (n : Int)) (by omega) (by omega)]
      exact ⟨by omega, go _ (v2 n (by omega))⟩
theorem nM_6 {Q : e3_H → e3_G → Prop} {l3 l4 w : Int} {L : List Int} {T : List (Int × Int × Int)} (h3 : 0 ≤ l3 ∧ l3 ≤ 100000000) (h4 : 0 ≤ l4 ∧ l4 < 160) (hL : L.length ≤ 1700) (hr : ∀ c, c ∈ L → (0 ≤ c ∧ c < 1700) ∧ 1 ≤ σ 55 c ∧ σ 55 c ≤ 1000) (w0 : 0 ≤ w) (w1 : w < wp σ L) (w2 : w ≤ 2147483647) (hlen : T.length + L.length ≤ 2000) : ∀ (l A : List Int) (a : Int) (H : e3_H), A ++ l = L → ach σ a l → (∀ (i : Nat) (c : Int), A[i]? = some c → H 98 i = c) → tb σ H → H 40 71 = T.length → nSt H0 H T → nVL H0 l3 l4 L.length H →
    (∀ K, zB H K → K 40 71 = (T.length : Int) + L.length → (∀ k : Int, K 136 k = H 136 k) → nSt H0 K (kl σ L w (8 * l3 + 1) ++ T) → Q K G) → wM_waitAll_6 Q (l.length + 1) w l3 l4 A.length a H G := by
  intro l
  induction l with
  | nil =>
    intro A a H hA ha h98 htb h71 hT hV hQ
    rw [List.append_nil] at hA
    subst hA
    have ha : a = -4 := ha
    refine brT ha ⟨A.length + 1, ?_⟩
    rw [e3_w32_id (x := (A.length : Int) - 1) (by omega) (by omega)]
    exact nM_46 h3 h4 A.length A w T H rfl (by omega) h98 hr w0 w1 w2 htb h71 hlen hT hV hQ
  | cons d l ih =>
    intro A a H hA ha h98 htb h71 hT hV hQ
    have hz : a = d := ha.1
    subst hz
    have hm : a ∈ L := by rw [← hA]; exact List.mem_append_right _ (List.mem_cons_self ..)
    have hc := hr a hm
    have hAl : A.length + (l.length + 1) = L.length := by rw [← hA, List.length_append]; rfl
    refine brF (by omega) ⟨⟨by omega, by omega⟩, ?_⟩
    intro H1 e1
    refine ⟨hc.1, ?_⟩
    have m1 : zB H H1 := by rw [e1]; exact zB_up (zB_rf H) (by omega)
    have e52 : H1 52 a = σ 52 a := (tb_zB htb m1) 52 a (by decide) (by decide) (by decide)
    rw [e52, e3_w32_id (x := (A.length : Int) + 1) (by omega) (by omega)]
    have hal : ((A ++ [a]).length : Int) = (A.length : Int) + 1 := by rw [List.length_append]; rfl
    rw [← hal]
    refine ih (A ++ [a]) _ H1 (by rw [List.append_assoc]; exact hA) ha.2 (fun i y hy => ?_) (tb_zB htb m1) (by rw [e1, e3_up_ne (ne_1 (by decide))]; exact h71) (nSt_eq T hT (fun b k h1 h2 _ => by rw [e1, e3_up_ne (ne_1 (by omega))])) ⟨fun z => ⟨(hV.1 z).1, fun i hi => by rw [e1, e3_up_ne (ne_1 (by decide))]; exact (hV.1 z).2 i hi⟩, fun z => ⟨(hV.2 z).1, fun i hi => by rw [e1, e3_up_ne (ne_1 (by decide))]; exact (hV.2 z).2 i hi⟩⟩ (fun K z1 z2 z3 z4 => hQ K (zB_tr m1 z1) z2 (fun k => by rw [z3 k, e1, e3_up_ne (ne_1 (by decide))]) z4)
    by_cases hi : i < A.length
    · rw [List.getElem?_append_left hi] at hy
      rw [e1, e3_up_ne (fun z => by have := z.2; omega)]
      exact h98 i y hy
    · rw [List.getElem?_append_right (by omega)] at hy
      by_cases hi2 : i = A.length
      · rw [hi2, Nat.sub_self] at hy
        have hy : some a = some y := hy
        cases hy
        rw [e1, hi2, e3_up_self]
      · rw [List.getElem?_eq_none (by show 1 ≤ _; omega)] at hy
        cases hy
theorem nM_notes {Q : e3_H → e3_G → Prop} {q v : Int} {H : e3_H} (htb : tb σ H) (hq : 0 ≤ q ∧ q < 1700) (hn : zNX σ q) (hv : 0 ≤ v) (hQ : ∀ K, (∀ a k : Int, a ≠ 136 → K a k = H a k) → (∀ i : Int, 0 ≤ i → K 136 i = (if σ 54 q = i then v else if σ 53 q = i then v else H 136 i)) → Q K G) : wM_notes Q q v H G := by
  have e53 := htb 53 q (by decide) (by decide) (by decide)
  have e54 := htb 54 q (by decide) (by decide) (by decide)
  have n27 : ∀ K, (∀ a k : Int, a ≠ 136 → K a k = H a k) → (∀ i : Int, 0 ≤ i → K 136 i = (if σ 53 q = i then v else H 136 i)) → wM_notes_27 Q q v K G := fun K f s => by
    have k54 : K 54 q = σ 54 q := (f 54 q (by decide)).trans e54
    refine brF (by omega) ⟨hq, ?_⟩
    rw [k54]
    refine ⟨fun z => hQ K f (fun i i0 => by rw [if_neg (by omega)]; exact s i i0), fun z => ⟨hq, by rcases hn.2 with y | y; exact absurd y z; exact y, fun H2 e2 => ?_⟩⟩
    rw [e2]
    refine hQ _ (fun a k ha => by rw [e3_up_ne (ne_1 ha)]; exact f a k ha) (fun i i0 => ?_)
    by_cases y : σ 54 q = i
    · rw [if_pos y, y, e3_up_self]
    · rw [if_neg y, e3_up_ne (ne_2 (fun t => y t.symm))]; exact s i i0
  refine brF (by omega) ⟨hq, ?_⟩
  rw [e53]
  refine ⟨fun z => n27 H (fun _ _ _ => rfl) (fun i i0 => by rw [if_neg (by omega)]), fun z => ⟨hq, by rcases hn.1 with y | y; exact absurd y z; exact y, fun H2 e2 => ?_⟩⟩
  rw [e2]
  refine n27 _ (fun a k ha => by rw [e3_up_ne (ne_1 ha)]) (fun i i0 => ?_)
  by_cases y : σ 53 q = i
  · rw [if_pos y, y, e3_up_self]
  · rw [if_neg y, e3_up_ne (ne_2 (fun t => y t.symm))]
end NBD
section NBE
variable {σ H0 : e3_H} {G : e3_G} {hi : Int} {m : Nat}
/-- EITHER is followed to the pattern that a way takes -/
theorem nM_30 {Q : Int → e3_H → e3_G → Prop} {p : Int} (h55 : ∀ y : Int, 0 ≤ y → y < hi → 1 ≤ σ 55 y) (hhi : hi ≤ 1700) (hp : 0 ≤ p ∧ p < 2000) : ∀ (k : Nat) (q w x : Int) (V : List (Int × Int)) (H : e3_H) (B : Int → Int), ly1 σ hi k q w x V → 0 ≤ vt H0 x → (∀ e, e ∈ V → zNX σ e.1) → tb σ H → H 40 71 = p → H 97 p = vt H0 x → n6 B H → (∀ k' q' w' V' C K, V = C ++ V' → (∀ e, e ∈ C → σ 46 e.1 = 6) → ly1 σ hi k' q' w' x V' → σ 46 q' ≠ 6 → nt σ V = nt σ V' → (∀ a k : Int, a ≠ 136 → K a k = H a k) → n6 (nmf σ H0 C B) K → Q q' (e3_up K 95 p w') G) → wM_nextPattern_30 Q k q w H G := by
  intro k
  induction k with
  | zero => intro q w x V H B h; exact h.1.elim
  | succ k ih =>
    intro q w x V H B h hvp hN htb h71 h97 h6' hQ
    have h' := h
    obtain ⟨hv', ht, hq, h5, hw, x0, hx⟩ := h'
    refine ⟨⟨hq.1, by omega⟩, ?_⟩
    rw [htb 46 q (by decide) (by decide) (by decide)]
    obtain ⟨L, V1, ⟨a1, a2⟩, e, hv'⟩ := hv'
    obtain ⟨L2, b1, b2, b3, b4, b5, b6⟩ := ht
    have e1 : ∀ y, y ∈ L2 → y ≠ -4 := fun y hy => by have := (b2 y hy).1; omega
    have hLL : L = L2 := ach_inj L L2 _ a2 e1 a1 b1
    subst hLL
    have hpos : ∀ y, y ∈ L → 1 ≤ σ 55 y := fun y hy => h55 y (by have := (b2 y hy).1; omega) (b2 y hy).2.1
    rcases hv' with ⟨h6, A, d, BB, eA, s1, s2, v'⟩ | ⟨h6, hz, hl, hw2, v'⟩
    · refine brT h6 ⟨by rw [h71]; exact hp, ?_⟩
      rw [h71, h97]
      refine nM_notes htb ⟨hq.1, by omega⟩ (hN (q, x) (by rw [e]; exact List.mem_cons_self ..)) hvp (fun K f s => ⟨⟨hq.1, by omega⟩, A.length + 1, ?_⟩)
      have htK : tb σ K := fun a k h3 h4 h5 => (f a k (by omega)).trans (htb a k h3 h4 h5)
      rw [htK 51 q (by decide) (by decide) (by decide)]
      have hm : d ∈ L := by rw [eA]; exact List.mem_append_right _ (List.mem_cons_self ..)
      have ews : σ 55 q = ws σ L := by
        rw [h6] at b3
        rw [b3]
        exact wfL_6 (b5 h6) hpos (by rw [← b3]; exact h5)
      have hle := le_ws L hpos d hm
      have hws : 0 ≤ ws σ A := ws_0 A (fun y hy => hpos y (by rw [eA]; exact List.mem_append_left _ hy))
      refine cM_62 (B := BB) (c := d) htK A _ w (by rw [← eA]; exact a1) (fun y hy => ?_) s1 s2 hw.1 hw.2 ?_
      · rw [← eA] at hy
        exact ⟨⟨by have := (b2 y hy).1; omega, by have := (b2 y hy).2.1; omega⟩, hpos y hy⟩
      · have q8 := p8_1 k
        have hx2 : (x + 1) * (8 * p8 k) ≤ 2097152 := hx
        have hx3 : (x + 1) * p8 k ≤ (x + 1) * (8 * p8 k) := Int.mul_le_mul_of_nonneg_left (by omega) (by omega)
        refine ih d (w - ws σ A) x V1 K (nm1 σ H0 (q, x) B) ⟨v', (b2 d hm).2.2, ⟨by have := (b2 d hm).1; omega, (b2 d hm).2.1⟩, by omega, ⟨by omega, by omega⟩, x0, by omega⟩ hvp (fun y hy => hN y (by rw [e]; exact List.mem_cons_of_mem _ hy)) htK (by rw [f 40 71 (by decide)]; exact h71) (by rw [f 97 p (by decide)]; exact h97) (fun i i0 i1 => ?_) (fun k' q' w' V' C K2 g1 g2 g3 g4 g5 g7 g8 => hQ k' q' w' V' ((q, x) :: C) K2 ?_ ?_ g3 g4 ?_ (fun a j ha => (g7 a j ha).trans (f a j ha)) g8)
        · rw [s i i0, h6' i i0 i1]
          rfl
        · rw [e, g1]
          rfl
        · intro y hy
          rcases List.mem_cons.mp hy with z | z
          · rw [z]; exact h6
          · exact g2 y z
        · rw [e]
          show (if σ 46 q = 6 then 0 else 1) + nt σ V1 = _
          rw [if_pos h6, g5]; omega
    · refine brF h6 ⟨by rw [h71]; exact hp, ?_⟩
      intro H7 e7
      rw [e7, h71]
      exact hQ (k + 1) q w V [] H rfl (fun y hy => absurd hy (List.not_mem_nil)) h h6 rfl (fun _ _ _ => rfl) h6'
/-- patterns are tried -/
theorem nM_18 {Q : Int → e3_H → e3_G → Prop} {f : Int} {V0 : List (Int × Int)} {B0 : Int → Int} (h55 : ∀ y : Int, 0 ≤ y → y < hi → 1 ≤ σ 55 y ∧ σ 55 y ≤ 1000) (hhi : hi ≤ 1700) (hTV : TV σ m H0) (h160 : H0 26 1 ≤ 160) (hcol : ∀ i : Int, 0 ≤ i → i < σ 68 f → oks H0 (H0 135 i) (σ 69 (3 * f + i))) (hVQ : VQ σ f V0) (hyes : (∀ p, p ∈ V0 → fitv σ H0 p.1 (vt H0 p.2)) → ∀ K2, zB H0 K2 → n6 (nmf σ H0 V0 B0) K2 → Q 1 K2 G) (hno : ¬ (∀ p, p ∈ V0 → fitv σ H0 p.1 (vt H0 p.2)) → ∀ K2 A B, V0 = A ++ B → (∀ a, a ∈ A → fitv σ H0 a.1 (vt H0 a.2)) → zB H0 K2 → n6 (nmf σ H0 A B0) K2 → Q 0 K2 G) : ∀ (N : Nat) (V A : List (Int × Int)) (T : List (Int × Int × Int)) (K : e3_H), V0 = A ++ V → (∀ a, a ∈ A → fitv σ H0 a.1 (vt H0 a.2)) → V.length ≤ N → lyT σ hi T V → (∀ e, e ∈ V → zNX σ e.1) → (∀ e, e ∈ T → 1 ≤ e.2.2) → nSt H0 K T → K 40 71 = (T.length : Int) → nt σ V ≤ 2000 → tb σ K → zB H0 K → n6 (nmf σ H0 A B0) K → wM_binds0_18 Q (N + 1) K G := by
  intro N
  induction N with
  | zero =>
    intro V A T K eA hA hN hT _ _ hst h71 hn htb hB h6
    have hV : V = [] := List.eq_nil_of_length_eq_zero (by omega)
    subst hV
    rw [List.append_nil] at eA
    subst eA
    have := lyT_nt _ _ hT
    have h0 : T.length = 0 := by have : (T.length : Int) ≤ 0 := this; omega
    exact brF (by omega) (hyes hA K hB h6)
  | succ N ih =>
    intro V A T K eA hA hN hT hNX hT1 hst h71 hn htb hB h6
    cases T with
    | nil =>
      have hT : V = [] := hT
      rw [hT, List.append_nil] at eA
      subst eA
      exact brF (by rw [h71]; decide) (hyes hA K hB h6)
    | cons e T =>
      have hnT := lyT_nt _ _ hT
      obtain ⟨k, V1, V2, eV, l1, l2⟩ := hT
      obtain ⟨s1, s2, s3, s4, s5⟩ := hst
      have hx1 := hT1 e (List.mem_cons_self ..)
      rw [List.length_cons] at h71 hnT
      have hlen : V.length = V1.length + V2.length := by rw [eV, List.length_append]
      refine brT (by omega) ?_
      intro H1 e1
      rw [h71, e3_w32_id (by omega) (by omega), show (((T.length + 1 : Nat) : Int)) - 1 = T.length by omega] at e1
      have f71 : H1 40 71 = T.length := by rw [e1, e3_up_self]
      have m1 : zB K H1 := by rw [e1]; exact zB_up (zB_rf K) (by omega)
      have at1 : ∀ a y : Int, a ≠ 40 → H1 a y = K a y := fun a y ha => by rw [e1, e3_up_ne (ne_1 ha)]
      refine ⟨by omega, by omega, k, ?_⟩
      rw [f71, at1 94 _ (by decide), at1 95 _ (by decide), s1, s2]
      have okx : oks H0 (vt H0 e.2.2) (σ 47 e.1) := by
        obtain ⟨W, eW⟩ := ly1_hd l1
        exact vis_ok hTV hcol hVQ (A.length + 1) A (e.1, e.2.2) (W ++ V2) (by omega) (by rw [eA, eV, eW]; rfl) hA
      have vr : 0 ≤ vt H0 e.2.2 ∧ vt H0 e.2.2 < 160 := by have := okx.1.1; have := okx.1.2; omega
      refine nM_30 (H0 := H0) (hi := hi) (p := T.length) (fun y y0 y1 => (h55 y y0 y1).1) hhi (by omega) k _ _ _ V1 H1 (nmf σ H0 A B0) l1 vr.1 (fun y hy => hNX y (by rw [eV]; exact List.mem_append_left _ hy)) (tb_zB htb m1) f71 (by rw [at1 97 _ (by decide)]; exact s4) (fun i i0 i1 => by rw [at1 136 _ (by decide)]; exact h6 i i0 i1) (fun k' q' w' V' C K1 gC gC6 g1 g2 g4 g7 g8 => ?_)
      have g5 : V'.length ≤ V1.length := by rw [gC, List.length_append]; omega
      have g6 : ∀ y, y ∈ V' → y ∈ V1 := fun y hy => by rw [gC]; exact List.mem_append_right _ hy
      have hAC : ∀ a, a ∈ A ++ C → fitv σ H0 a.1 (vt H0 a.2) := fun a ha => by
        rcases List.mem_append.mp ha with z | z
        · exact hA a z
        · exact Or.inr (Or.inl (gC6 a z))
      obtain ⟨U, eU⟩ := ly1_hd g1
      subst eU
      generalize eM : e3_up K1 95 (T.length : Int) w' = M
      have bM : zB H0 M := by
        rw [← eM]
        refine zB_up (zB_tr hB (zB_tr m1 ⟨fun a y a1 a2 a3 => g7 a y a2, fun y hy => g7 40 y (by decide)⟩)) (by omega)
      have tM : tb σ M := by
        intro a y h3 h4 h5
        rw [← eM, e3_up_ne (ne_1 (by omega)), g7 a y (by omega), at1 a y (by omega)]
        exact htb a y h3 h4 h5
      have s6M : n6 (nmf σ H0 (A ++ C) B0) M := fun i i0 i1 => by
        rw [← eM, e3_up_ne (ne_1 (by decide)), nmf_app]
        exact g8 i i0 i1
      have eA2 : V0 = (A ++ C) ++ (q', e.2.2) :: (U ++ V2) := by rw [eA, eV, gC, List.append_assoc, List.append_assoc]; rfl
      have okq := vis_ok hTV hcol hVQ ((A ++ C).length + 1) (A ++ C) (q', e.2.2) (U ++ V2) (by omega) eA2 hAC
      have ndq := (hVQ.1 _ _ _ eA2).1
      have M71 : M 40 71 = T.length := by rw [← eM, e3_up_ne (ne_1 (by decide)), g7 40 71 (by decide)]; exact f71
      have M97 : M 97 T.length = vt H0 e.2.2 := by rw [← eM, e3_up_ne (ne_1 (by decide)), g7 97 _ (by decide), at1 97 _ (by decide)]; exact s4
      have M95 : M 95 T.length = w' := by rw [← eM, e3_up_self]
      have M96 : M 96 T.length = e.2.2 := by rw [← eM, e3_up_ne (ne_1 (by decide)), g7 96 _ (by decide), at1 96 _ (by decide)]; exact s3
      have stM : nSt H0 M T := nSt_eq T s5 (fun a y h1 h2 h3 => by
        rw [← eM, e3_up_ne (fun z => by have := z.2; omega), g7 a y (by omega)]
        exact at1 a y (by omega))
      have hq := g1.2.2.1
      have q17 : 0 ≤ q' ∧ q' < 1700 := ⟨hq.1, by omega⟩
      have TM : TV σ m M := by
        obtain ⟨v1, v2, v3, v4, v5, v6, v7⟩ := hTV
        have eb : ∀ a y : Int, a ≠ 40 → a ≠ 136 → a < 94 ∨ 98 < a → M a y = H0 a y := bM.1
        exact ⟨VR_eq v1 (fun a y ha => eb a y (by omega) (by omega) (by omega)) (bM.2 109 (by decide)) ⟨by rw [eb 8 0 (by decide) (by decide) (by decide)]; exact Int.le_refl _, fun y _ _ => eb 12 y (by decide) (by decide) (by decide), fun y _ => eb 43 y (by decide) (by decide) (by decide), fun y _ _ => eb 45 y (by decide) (by decide) (by decide), by rw [v7, v4]; exact v2.2.2.2.1, fun y y0 y1 => by
          rw [v6 y y0 (by omega)]
          have := (v2.2.2.2.2 y.toNat (by omega)).2.1
          rw [show ((y.toNat : Nat) : Int) = y by omega] at this
          exact this⟩, v2, v3, by rw [← v4]; exact funext fun y => eb 43 y (by decide) (by decide) (by decide), fun y => by rw [eb 45 y (by decide) (by decide) (by decide)]; exact v5 y, fun y y0 y1 => by rw [eb 12 y (by decide) (by decide) (by decide)]; exact v6 y y0 y1, by rw [eb 8 0 (by decide) (by decide) (by decide)]; exact v7⟩
      have e28 : ∀ y : Int, M 28 y = H0 28 y := fun y => bM.1 28 y (by decide) (by decide) (by decide)
      have ef : ∀ y z : Int, fitv σ M y z ↔ fitv σ H0 y z := fun y z => by unfold fitv; rw [e28]
      have okM : oks M (vt H0 e.2.2) (σ 47 q') := by
        obtain ⟨⟨o1, o2⟩, o3⟩ := okq
        have e43 : M 43 = H0 43 := funext fun y => bM.1 43 y (by decide) (by decide) (by decide)
        refine ⟨⟨o1, by rw [bM.1 26 1 (by decide) (by decide) (by decide)]; exact o2⟩, ?_⟩
        unfold sOf at o3 ⊢
        rw [bM.1 27 _ (by decide) (by decide) (by decide), e28, e43]
        exact o3
      rw [List.length_cons] at g5
      refine ⟨by rw [M71]; omega, ?_⟩
      rw [M71, M97]
      refine nM_fitsHere TM tM q17 ndq okM (by rw [bM.1 26 1 (by decide) (by decide) (by decide)]; exact h160) (fun hfy => ?_) (fun hfn => brT rfl (hno (fun z => hfn ((ef _ _).mpr (z (q', e.2.2) (by rw [eA2]; exact List.mem_append_right _ (List.mem_cons_self ..))))) M (A ++ C) _ eA2 hAC bM s6M))
      have hfq : fitv σ H0 q' (vt H0 e.2.2) := (ef _ _).mp hfy
      refine brF (by decide) (nM_notes tM q17 (hNX (q', e.2.2) (by rw [eV]; exact List.mem_append_left _ (g6 _ (List.mem_cons_self ..)))) vr.1 (fun P fP sP0 => ⟨q17, ?_⟩))
      have sP : n6 (nmf σ H0 ((A ++ C) ++ [(q', e.2.2)]) B0) P := fun i i0 i1 => by
        rw [sP0 i i0, s6M i i0 i1, nmf_app σ H0 (A ++ C) [(q', e.2.2)] B0]
        rfl
      have hA3 : ∀ a, a ∈ (A ++ C) ++ [(q', e.2.2)] → fitv σ H0 a.1 (vt H0 a.2) := fun a ha => by
        rcases List.mem_append.mp ha with z | z
        · exact hAC a z
        · rw [List.mem_singleton.mp z]; exact hfq
      have eA3 : V0 = ((A ++ C) ++ [(q', e.2.2)]) ++ (U ++ V2) := by rw [eA2, List.append_assoc (A ++ C)]; rfl
      have bP : zB H0 P := zB_tr bM ⟨fun a y a1 a2 a3 => fP a y a2, fun y hy => fP 40 y (by decide)⟩
      have tP : tb σ P := fun a y h3 h4 h5 => (fP a y (by omega)).trans (tM a y h3 h4 h5)
      have P71 : P 40 71 = T.length := (fP 40 71 (by decide)).trans M71
      have stP : nSt H0 P T := nSt_eq T stM (fun a y h1 h2 _ => fP a y (by omega))
      obtain ⟨hvv, ht, _, h5, hw, x0, hx⟩ := g1
      have hntU : nt σ V = 1 + nt σ U + nt σ V2 := by
        rw [eV, nt_app, g4]
        show (if σ 46 q' = 6 then 0 else 1) + nt σ U + nt σ V2 = _
        rw [if_neg g2]
      have hN2 : ∀ y, y ∈ U ++ V2 → zNX σ y.1 := fun y hy => by
        rcases List.mem_append.mp hy with z | z
        · exact hNX y (by rw [eV]; exact List.mem_append_left _ (g6 _ (List.mem_cons_of_mem _ z)))
        · exact hNX y (by rw [eV]; exact List.mem_append_right _ z)
      cases k' with
      | zero => exact hvv.elim
      | succ k' =>
        obtain ⟨L, V1', ⟨a1, a2⟩, eU2, hvv⟩ := hvv
        have eU2 : U = V1' := (List.cons.inj eU2).2
        subst eU2
        obtain ⟨L2, b1, b2, b3, b4, b5, b6⟩ := ht
        have e1' : ∀ y, y ∈ L2 → y ≠ -4 := fun y hy => by have := (b2 y hy).1; omega
        have hLL : L = L2 := ach_inj L L2 _ a2 e1' a1 b1
        subst hLL
        have hpos : ∀ y, y ∈ L → 1 ≤ σ 55 y := fun y hy => (h55 y (by have := (b2 y hy).1; omega) (b2 y hy).2.1).1
        rcases hvv with ⟨z, _⟩ | ⟨_, hz, hl4, hw2, vv⟩
        · exact absurd z g2
        rw [tP 46 q' (by decide) (by decide) (by decide), tP 51 q' (by decide) (by decide) (by decide)]
        have nokids : L = [] → wM_binds0_111 Q (fun H G => wM_binds0_18 Q (N + 1) H G) P G := fun hL => by
          subst hL
          have vv : U = [] := vv
          subst vv
          exact ih V2 ((A ++ C) ++ [(q', e.2.2)]) T P (by rw [eA3]; rfl) hA3 (by omega) l2 (fun y hy => hN2 y hy) (fun y hy => hT1 y (List.mem_cons_of_mem _ hy)) stP P71 (by have : nt σ [] = 0 := rfl; omega) tP bP sP
        refine ⟨fun z5 => ⟨q17, fun z51 => ?_, fun z51 => ⟨q17, by rw [P71]; omega, by rw [P71]; omega, ?_⟩⟩, fun z5 => ?_⟩
        · refine nokids ?_
          cases L with
          | nil => rfl
          | cons c l => exact absurd (a1.1.symm.trans z51) (a2 c (List.mem_cons_self ..))
        · have ewp : σ 55 q' = wp σ L := by
            rw [z5] at b3
            rw [b3]
            exact wfL_5 hpos (by rw [← b3]; exact h5)
          have q8 := p8_1 k'
          have hx2 : (e.2.2 + 1) * (8 * p8 k') ≤ 2097152 := hx
          have hx1' : (e.2.2 + 1) * 1 ≤ (e.2.2 + 1) * (8 * p8 k') := Int.mul_le_mul_of_nonneg_left (by omega) (by omega)
          have hT2 := kl_lyT (k := k') l2 L w' (8 * e.2.2 + 1) U vv (fun c hc => ⟨⟨by have := (b2 c hc).1; omega, (b2 c hc).2.1⟩, (b2 c hc).2.2, hpos c hc⟩) (by omega) hw.1 hw.2 (by omega) (by
            have : (8 * e.2.2 + 1 + (L.length : Int)) * p8 k' ≤ (e.2.2 + 1) * 8 * p8 k' := Int.mul_le_mul_of_nonneg_right (by omega) (by omega)
            rw [Int.mul_assoc] at this
            omega)
          have hnt := lyT_nt _ _ hT2
          rw [List.length_append, kl_len, nt_app] at hnt
          rw [P71, show P 95 T.length = w' from (fP 95 _ (by decide)).trans M95, show P 96 T.length = e.2.2 from (fP 96 _ (by decide)).trans M96]
          refine ⟨L.length + 1, nM_6 (σ := σ) (H0 := H0) (L := L) (T := T) (l4 := vt H0 e.2.2) ⟨x0, by omega⟩ vr (by omega) (fun c hc => ⟨⟨by have := (b2 c hc).1; omega, by have := (b2 c hc).2.1; omega⟩, h55 c (by have := (b2 c hc).1; omega) (b2 c hc).2.1⟩) hw.1 hw2.2 hw.2 (by omega) L [] (σ 51 q') P rfl a1 (fun i c hc => by cases hc) tP P71 stP ⟨fun z => by omega, fun _ => ⟨hl4, fun i hi => ?_⟩⟩ (fun K9 z1 z2 z3 z4 => ?_)⟩
          · have px := hVQ.2 (q', e.2.2) (by rw [eA2]; exact List.mem_append_right _ (List.mem_cons_self ..))
            have px : 1 ≤ e.2.2 ∧ e.2.2 < 2097152 := px
            rw [bP.1 132 _ (by decide) (by decide) (by decide), vt_ch H0 ⟨px.1, by omega⟩ (by omega)]
          · refine ih (U ++ V2) ((A ++ C) ++ [(q', e.2.2)]) _ K9 eA3 hA3 (by rw [List.length_append]; omega) hT2 hN2 (fun y hy => ?_) z4 (by rw [z2, List.length_append, kl_len]; omega) (by rw [nt_app]; omega) (tb_zB tP z1) (zB_tr bP z1) (fun i i0 i1 => by rw [z3 i]; exact sP i i0 i1)
            rcases List.mem_append.mp hy with t | t
            · have klx : ∀ (L : List Int) (w x : Int), 1 ≤ x → ∀ y, y ∈ kl σ L w x → 1 ≤ y.2.2 := by
                intro L
                induction L with
                | nil => intro w x _ y hy; exact absurd hy (List.not_mem_nil)
                | cons c l ihl =>
                  intro w x hx y hy
                  rcases List.mem_cons.mp hy with u | u
                  · rw [u]; exact hx
                  · exact ihl _ _ (by omega) y u
              exact klx L w' _ (by omega) y t
            · exact hT1 y (List.mem_cons_of_mem _ t)
        · refine nokids ?_
          cases L with
          | nil => rfl
          | cons c l => exact absurd (hz (List.cons_ne_nil _ _)) z5
/-- one way of a rule is tried: does it fit, and what NAMES take -/
theorem nM_binds0 {Q : Int → e3_H → e3_G → Prop} {f k w : Int} {V : Int → List (Int × Int)} (hf : 0 ≤ f ∧ f < 12) (hk : 0 ≤ k ∧ k < 16) (h68 : 1 ≤ σ 68 f ∧ σ 68 f ≤ 3) (hR : zRl σ f k V) (hw : 0 ≤ w ∧ w < σ 74 (16 * f + k)) (htb : tb σ H0) (hTV : TV σ m H0) (h160 : H0 26 1 ≤ 160) (hcol : ∀ i : Int, 0 ≤ i → i < σ 68 f → oks H0 (H0 135 i) (σ 69 (3 * f + i))) (hVQ : VQ σ f (V w)) (hyes : (∀ p, p ∈ V w → fitv σ H0 p.1 (vt H0 p.2)) → ∀ K2, zB H0 K2 → n6 (nmf σ H0 (V w) (H0 136)) K2 → Q 1 K2 G) (hno : ¬ (∀ p, p ∈ V w → fitv σ H0 p.1 (vt H0 p.2)) → ∀ K2 A B, V w = A ++ B → (∀ a, a ∈ A → fitv σ H0 a.1 (vt H0 a.2)) → zB H0 K2 → n6 (nmf σ H0 A (H0 136)) K2 → Q 0 K2 G) : wM_binds0 Q (16 * f + k) w H0 G := by
  obtain ⟨⟨hi, L, r1, r2, r3, r4, r5, r6, r7, r8⟩, _⟩ := hR
  obtain ⟨v1, v2, v3⟩ := r8 w hw.1 hw.2
  intro H1 e1
  have b1 : zB H0 H1 := by rw [e1]; exact zB_up (zB_rf H0) (by omega)
  have t1 := tb_zB htb b1
  refine ⟨by omega, ?_⟩
  rw [t1 72 _ (by decide) (by decide) (by decide)]
  have hpos : ∀ y, y ∈ L → 1 ≤ σ 55 y := fun y hy => (r1 y (r5 y hy).1.1 (r5 y hy).1.2).1
  have hT2 := kl_lyT (σ := σ) (hi := hi) (k := 6) (T := []) (V2 := []) rfl L w 1 (V w) v1 (fun y hy => ⟨(r5 y hy).1, (r5 y hy).2, hpos y hy⟩) (by omega) hw.1 (by omega) (by omega) (by
    have e6 : p8 6 = 262144 := by decide
    rw [e6]
    omega)
  rw [List.append_nil, List.append_nil] at hT2
  refine ⟨L.length + 1, nM_6 (σ := σ) (H0 := H0) (L := L) (T := []) (l4 := 0) (by decide) (by decide) (by omega) (fun y hy => ⟨⟨(r5 y hy).1.1, by have := (r5 y hy).1.2; omega⟩, r1 y (r5 y hy).1.1 (r5 y hy).1.2⟩) hw.1 (by rw [r6]; exact hw.2) (by omega) (by show 0 + L.length ≤ 2000; omega) L [] _ H1 rfl r4 (fun i y hy => by cases hy) t1 (by rw [e1]; exact e3_up_self ..) trivial ⟨fun _ => ⟨by omega, fun i hi => ?_⟩, fun z => absurd rfl z⟩ (fun K z1 z2 z3 z4 => ?_)⟩
  · rw [e1, e3_up_ne (ne_1 (by decide)), show 8 * 0 + 1 + (i : Int) = 1 + (i : Int) by omega, vt_col H0 (by omega), show 1 + (i : Int) - 1 = (i : Int) by omega]
  · rw [List.append_nil] at z4
    refine ⟨(V w).length + 1, nM_18 (H0 := H0) (f := f) (V0 := V w) (B0 := H0 136) (hi := hi) r1 r2 hTV h160 hcol hVQ hyes hno (V w).length (V w) [] _ K rfl (fun a ha => absurd ha (List.not_mem_nil)) (Nat.le_refl _) hT2 v3 (fun y hy => ?_) z4 (by rw [z2, kl_len]; show (0 : Int) + L.length = _; omega) v2 (tb_zB t1 z1) (zB_tr b1 z1) (fun i _ _ => by rw [z3 i, e1, e3_up_ne (ne_1 (by decide))]; rfl)⟩
    have klx : ∀ (L : List Int) (w x : Int), 1 ≤ x → ∀ y, y ∈ kl σ L w x → 1 ≤ y.2.2 := by
      intro L
      induction L with
      | nil => intro w x _ y hy; exact absurd hy (List.not_mem_nil)
      | cons c l ihl =>
        intro w x hx y hy
        rcases List.mem_cons.mp hy with u | u
        · rw [u]; exact hx
        · exact ihl _ _ (by omega) y u
    exact klx L w _ (by decide) y hy
end NBE
