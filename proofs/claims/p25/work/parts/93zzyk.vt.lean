/-- a pattern that is visited stands at a part of one visited ahead -/
def vtq (σ : e3_H) (A : List (Int × Int)) (p : Int × Int) : Prop := ∃ (p' : Int × Int) (i : Int), p' ∈ A ∧ σ 46 p'.1 = 5 ∧ p.2 = 8 * p'.2 + 1 + i ∧ (0 ≤ i ∧ i < σ 44 (σ 48 p'.1) ∧ i ≤ 3) ∧ σ 47 p.1 = σ 45 (4 * σ 48 p'.1 + i)
theorem vtq_mono {σ : e3_H} {A B : List (Int × Int)} {p : Int × Int} (h : vtq σ A p) (hs : ∀ y, y ∈ A → y ∈ B) : vtq σ B p := by
  obtain ⟨p', i, h1, h2⟩ := h
  exact ⟨p', i, hs p' h1, h2⟩
section TYQ
variable {σ : e3_H} {hi : Int}
theorem lyC_q {k : Nat} (hR : ∀ c w x V, lyV σ k c w x V → wt σ k hi c → 0 ≤ c → 0 ≤ x → ∀ A p B, V = A ++ p :: B → nod σ p.1 ∧ ((p.2 = x ∧ σ 47 p.1 = σ 47 c) ∨ vtq σ A p)) : ∀ (L : List Int) (w x : Int) (V : List (Int × Int)), lyC (lyV σ k) σ L w x V → (∀ c, c ∈ L → wt σ k hi c ∧ 0 ≤ c) → 0 ≤ x → ∀ A p B, V = A ++ p :: B → nod σ p.1 ∧ ((∃ (i : Nat) (c : Int), L[i]? = some c ∧ p.2 = x + i ∧ σ 47 p.1 = σ 47 c) ∨ vtq σ A p) := by
  intro L
  induction L with
  | nil =>
    intro w x V h _ _ A p B e
    have h : V = [] := h
    rw [h] at e
    have := congrArg List.length e
    rw [List.length_append, List.length_cons] at this
    have e0 : ([] : List (Int × Int)).length = 0 := rfl
    omega
  | cons d l ih =>
    intro w x V h hw hx A p B e
    obtain ⟨V1, V2, e1, v1, v2⟩ := h
    rw [e1] at e
    have hd := hw d (List.mem_cons_self ..)
    rcases spl_app V1 V2 A e with ⟨B1, z⟩ | ⟨A2, z1, z2⟩
    · obtain ⟨n1, y⟩ := hR d _ x V1 v1 hd.1 hd.2 hx A p B1 z
      refine ⟨n1, ?_⟩
      rcases y with ⟨y1, y2⟩ | y
      · exact Or.inl ⟨0, d, rfl, by rw [y1]; omega, y2⟩
      · exact Or.inr y
    · obtain ⟨n1, y⟩ := ih _ (x + 1) V2 v2 (fun c hc => hw c (List.mem_cons_of_mem _ hc)) (by omega) A2 p B z2
      refine ⟨n1, ?_⟩
      rcases y with ⟨i, c, y1, y2, y3⟩ | y
      · exact Or.inl ⟨i + 1, c, y1, by rw [y2]; omega, y3⟩
      · exact Or.inr (vtq_mono y (fun q hq => by rw [z1]; exact List.mem_append_right _ hq))
theorem lyV_q : ∀ (k : Nat) (q w x : Int) (V : List (Int × Int)), lyV σ k q w x V → wt σ k hi q → 0 ≤ q → 0 ≤ x → ∀ A p B, V = A ++ p :: B → nod σ p.1 ∧ ((p.2 = x ∧ σ 47 p.1 = σ 47 q) ∨ vtq σ A p) := by
  intro k
  induction k with
  | zero => intro q w x V h; exact h.elim
  | succ k ih =>
    intro q w x V h ht hq hx A p B eV
    obtain ⟨L, V1, ⟨a1, a2⟩, e, h⟩ := h
    obtain ⟨L2, b1, b2, b3, b4, b5, b6, b7, b8, b9⟩ := ht
    have e1 : ∀ y, y ∈ L2 → y ≠ -4 := fun y hy => by have := (b2 y hy).1; omega
    have hLL : L = L2 := ach_inj L L2 _ a2 e1 a1 b1
    subst hLL
    rw [e] at eV
    cases A with
    | nil =>
      have eV : (q, x) :: V1 = p :: B := eV
      have := (List.cons.inj eV).1
      rw [← this]
      exact ⟨b7, Or.inl ⟨rfl, rfl⟩⟩
    | cons a A =>
      have eV : (q, x) :: V1 = a :: (A ++ p :: B) := eV
      obtain ⟨ea, eV1⟩ := List.cons.inj eV
      have hz : p ∈ V1 := by rw [eV1]; exact List.mem_append_right _ (List.mem_cons_self ..)
      rcases h with ⟨h6, A', c, B', eA, _, _, v⟩ | ⟨h6, h5, hl, _, v⟩
      · have hm : c ∈ L := by rw [eA]; exact List.mem_append_right _ (List.mem_cons_self ..)
        obtain ⟨n1, y⟩ := ih c _ x V1 v (b2 c hm).2.2 (by have := (b2 c hm).1; omega) hx A p B eV1
        refine ⟨n1, ?_⟩
        rcases y with ⟨y1, y2⟩ | y
        · exact Or.inl ⟨y1, by rw [y2]; exact b8.1 h6 c hm⟩
        · exact Or.inr (vtq_mono y (fun q hq => List.mem_cons_of_mem _ hq))
      · have hne : L ≠ [] := fun y => by
          rw [y] at v
          have v : V1 = [] := v
          rw [v] at hz
          exact absurd hz (List.not_mem_nil)
        have h5 := h5 hne
        obtain ⟨n1, y⟩ := lyC_q (k := k) (hi := hi) (fun c w x V v1 v2 v3 v4 => ih c w x V v1 v2 v3 v4) L w (8 * x + 1) V1 v (fun c hc => ⟨(b2 c hc).2.2, by have := (b2 c hc).1; omega⟩) (by omega) A p B eV1
        refine ⟨n1, Or.inr ?_⟩
        rcases y with ⟨i, c, y1, y2, y3⟩ | y
        · have hi4 : i < L.length := (List.getElem?_eq_some_iff.mp y1).1
          have hlen := b9 h5 hne
          refine ⟨(q, x), (i : Int), by rw [ea]; exact List.mem_cons_self .., h5, y2, ⟨by omega, ?_, by omega⟩, ?_⟩
          · show (i : Int) < σ 44 (σ 48 q)
            omega
          · show σ 47 p.1 = σ 45 (4 * σ 48 q + i)
            rw [y3, b8.2 h5 i c y1]
        · exact vtq_mono y (fun q hq => List.mem_cons_of_mem _ hq)
end TYQ
/-- what one way of a rule visits keeps to SORTS -/
def VQ (σ : e3_H) (f : Int) (V : List (Int × Int)) : Prop := (∀ A p B, V = A ++ p :: B → nod σ p.1 ∧ (((0 ≤ p.2 - 1 ∧ p.2 - 1 < σ 68 f ∧ p.2 ≤ 3) ∧ σ 47 p.1 = σ 69 (3 * f + (p.2 - 1))) ∨ vtq σ A p)) ∧ ∀ p, p ∈ V → 1 ≤ p.2 ∧ p.2 < 2097152
theorem VQ_of {σ : e3_H} {m nf : Nat} {Vs : Int → Int → Int → List (Int × Int)} (hF : F_inv σ m nf) (hW : WF σ nf) (hV : VS σ nf Vs) {f k w : Int} (hf : 0 ≤ f ∧ f < (nf : Int)) (hk : 0 ≤ k ∧ k < σ 70 f) (hw : 0 ≤ w ∧ w < σ 74 (16 * f + k)) : VQ σ f (Vs f k w) := by
  have F1 := hF.2.2.2.1 f hf.1 (by omega)
  obtain ⟨lo, l0, L, l1, l2, l3, l4, l5⟩ := hW f hf.1 hf.2 k hk.1 hk.2
  have hn : ∀ c, c ∈ L → c ≠ -4 := fun c hc => by have := (l3 c hc).1; omega
  have hly := hV f k w hf.1 hf.2 hk.1 hk.2 hw.1 hw.2 L l2 hn
  have hwt : ∀ c, c ∈ L → wt σ 6 (σ 40 16) c ∧ 0 ≤ c := fun c hc => ⟨(l3 c hc).2.2, by have := (l3 c hc).1; omega⟩
  have h68 := F1.1.1
  have hr : (16 * f + k) / 16 = f := by have := F1.2.2.1; omega
  have pos : ∀ (n : Nat) (A : List (Int × Int)) (p : Int × Int) (B : List (Int × Int)), A.length < n → Vs f k w = A ++ p :: B → 1 ≤ p.2 := by
    intro n
    induction n with
    | zero => intro A p B h; omega
    | succ n ih =>
      intro A p B hA e
      rcases (lyC_q (k := 6) (hi := σ 40 16) (fun c w x V v1 v2 v3 v4 => lyV_q 6 c w x V v1 v2 v3 v4) L w 1 (Vs f k w) hly hwt (by omega) A p B e).2 with ⟨i, c, y1, y2, y3⟩ | ⟨p', i, h1, h2, h3, h4, _⟩
      · omega
      · obtain ⟨A1, A2, eA⟩ := List.append_of_mem h1
        have hl : A.length = A1.length + (A2.length + 1) := by rw [eA, List.length_append, List.length_cons]
        have := ih A1 p' (A2 ++ p :: B) (by omega) (by rw [e, eA, List.append_assoc]; rfl)
        omega
  refine ⟨fun A p B e => ?_, fun p hp => ?_⟩
  · obtain ⟨n1, y⟩ := lyC_q (k := 6) (hi := σ 40 16) (fun c w x V v1 v2 v3 v4 => lyV_q 6 c w x V v1 v2 v3 v4) L w 1 (Vs f k w) hly hwt (by omega) A p B e
    refine ⟨n1, ?_⟩
    rcases y with ⟨i, c, y1, y2, y3⟩ | y
    · have hi4 : i < L.length := (List.getElem?_eq_some_iff.mp y1).1
      refine Or.inl ⟨⟨by omega, by omega, by omega⟩, ?_⟩
      rw [y3, l5 i c y1, hr, show p.2 - 1 = (i : Int) by omega]
    · exact Or.inr y
  · obtain ⟨A, B, e⟩ := List.append_of_mem hp
    refine ⟨pos (A.length + 1) A p B (by omega) e, ?_⟩
    have y2 := (lyC_m8 (k := 6) (fun c w x V v1 v2 => lyV_m8 6 c w x V v1 v2) L w 1 (Vs f k w) hly (by omega) p hp).2
    have e6 : p8 6 = 262144 := by decide
    rw [e6] at y2
    omega
/-- the VALUE at a place, by its code -/
def vat (H : e3_H) : Nat → Int → Int
  | 0, _ => 0
  | k + 1, x => if (x - 1) / 8 = 0 then (if x - 1 < 3 then H 135 (x - 1) else 0) else H 132 (4 * vat H k ((x - 1) / 8) + (x - 1) % 8)
theorem vat_fu (H : e3_H) : ∀ (k : Nat) (x : Int), 1 ≤ x → x < 8 ^ k → ∀ n : Nat, k ≤ n → vat H n x = vat H k x := by
  intro k
  induction k with
  | zero => intro x h1 h2; rw [Int.pow_zero] at h2; omega
  | succ k ih =>
    intro x h1 h2 n hn
    obtain ⟨n', rfl⟩ : ∃ n', n = n' + 1 := ⟨n - 1, by omega⟩
    rw [Int.pow_succ] at h2
    show (if (x - 1) / 8 = 0 then _ else H 132 (4 * vat H n' ((x - 1) / 8) + (x - 1) % 8)) = (if (x - 1) / 8 = 0 then _ else H 132 (4 * vat H k ((x - 1) / 8) + (x - 1) % 8))
    by_cases z : (x - 1) / 8 = 0
    · rw [if_pos z, if_pos z]
    · rw [if_neg z, if_neg z, ih ((x - 1) / 8) (by omega) (by omega) n' (by omega)]
def vt (H : e3_H) (x : Int) : Int := vat H 12 x
theorem vt_col (H : e3_H) {x : Int} (h : 1 ≤ x ∧ x ≤ 3) : vt H x = H 135 (x - 1) := by
  show (if (x - 1) / 8 = 0 then (if x - 1 < 3 then H 135 (x - 1) else 0) else _) = _
  rw [if_pos (by omega), if_pos (by omega)]
theorem vt_ch (H : e3_H) {y i : Int} (h : 1 ≤ y ∧ y < 2147483647) (hi : 0 ≤ i ∧ i ≤ 7) : vt H (8 * y + 1 + i) = H 132 (4 * vt H y + i) := by
  have e8 : (8 : Int) ^ 11 = 8589934592 := by decide
  show (if (8 * y + 1 + i - 1) / 8 = 0 then _ else H 132 (4 * vat H 11 ((8 * y + 1 + i - 1) / 8) + (8 * y + 1 + i - 1) % 8)) = _
  rw [if_neg (by omega), show (8 * y + 1 + i - 1) / 8 = y by omega, show (8 * y + 1 + i - 1) % 8 = i by omega]
  unfold vt
  rw [vat_fu H 11 y h.1 (by omega) 12 (by decide)]
theorem vt_eq {H K : e3_H} (e : ∀ a k : Int, a = 132 ∨ a = 135 → K a k = H a k) (x : Int) : vt K x = vt H x := by
  have : ∀ (n : Nat) (x : Int), vat K n x = vat H n x := by
    intro n
    induction n with
    | zero => intro x; rfl
    | succ n ih =>
      intro x
      show (if (x - 1) / 8 = 0 then (if x - 1 < 3 then K 135 (x - 1) else 0) else K 132 (4 * vat K n ((x - 1) / 8) + (x - 1) % 8)) = (if (x - 1) / 8 = 0 then (if x - 1 < 3 then H 135 (x - 1) else 0) else H 132 (4 * vat H n ((x - 1) / 8) + (x - 1) % 8))
      rw [ih, e 135 _ (Or.inr rfl), e 132 _ (Or.inl rfl)]
  exact this 12 x
theorem vt_cg {H K : e3_H} (e : ∀ k : Int, K 132 k = H 132 k) (e5 : ∀ k : Int, 0 ≤ k → k < 3 → K 135 k = H 135 k) (x : Int) : vt K x = vt H x := by
  have : ∀ (n : Nat) (x : Int), vat K n x = vat H n x := by
    intro n
    induction n with
    | zero => intro x; rfl
    | succ n ih =>
      intro x
      show (if (x - 1) / 8 = 0 then (if x - 1 < 3 then K 135 (x - 1) else 0) else K 132 (4 * vat K n ((x - 1) / 8) + (x - 1) % 8)) = (if (x - 1) / 8 = 0 then (if x - 1 < 3 then H 135 (x - 1) else 0) else H 132 (4 * vat H n ((x - 1) / 8) + (x - 1) % 8))
      rw [ih, e]
      by_cases z : (x - 1) / 8 = 0
      · rw [if_pos z, if_pos z]
        by_cases y : x - 1 < 3
        · rw [if_pos y, if_pos y]
          exact e5 _ (by omega) y
        · rw [if_neg y, if_neg y]
      · rw [if_neg z, if_neg z]
  exact this 12 x
/-- a VALUE that is there, of a SORT -/
def okv (H : e3_H) (v : Int) : Prop := 0 ≤ v ∧ v < H 26 1
def oks (H : e3_H) (v s : Int) : Prop := okv H v ∧ sOf H (H 27 v) (H 28 v) s = true
theorem oks_part {H : e3_H} (hV : VR H) {v i : Int} (h : okv H v) (h4 : H 27 v = 4) (hi : 0 ≤ i ∧ i < H 30 v) : oks H (H 132 (4 * v + i)) (H 45 (4 * H 28 v + i)) ∧ H 31 (4 * v + i) = H 132 (4 * v + i) := by
  obtain ⟨b1, b2, b3, b4, b5⟩ := (hV.2 v h.1 h.2).2.2.2.2.1 h4
  obtain ⟨⟨c1, c2, c3⟩, c4⟩ := b5 i hi.1 hi.2
  have h2 := h.2
  rw [c1] at c2 c3 c4
  exact ⟨⟨⟨c2, by omega⟩, c4⟩, c1⟩
/-- what tables and VALUES say of one another -/
def TV (σ : e3_H) (m : Nat) (H : e3_H) : Prop := VR H ∧ k_inv σ m ∧ KP σ m ∧ H 43 = σ 43 ∧ (∀ k : Int, H 45 k = σ 45 k) ∧ (∀ k : Int, 0 ≤ k → k < (m : Int) → H 12 k = σ 44 k) ∧ H 8 0 = (m : Int)
/-- a pattern's own test, of a VALUE -/
def fitv (σ H : e3_H) (q v : Int) : Prop := σ 46 q = 0 ∨ σ 46 q = 6 ∨ hld σ q (H 28 v) = true
/-- what a VALUE of a SORT is -/
theorem oks_wh {σ H : e3_H} {m : Nat} (hT : TV σ m H) {v s : Int} (h : oks H v s) : (s < 3 → H 27 v = s) ∧ (3 ≤ s → (H 27 v = 3 ∧ H 28 v = -1) ∨ (H 27 v = 4 ∧ (0 ≤ H 28 v ∧ H 28 v < (m : Int)) ∧ H 30 v = σ 44 (H 28 v))) := by
  obtain ⟨hV, hk, hKP, e43, e45, e12, h8⟩ := hT
  obtain ⟨⟨v0, v1⟩, hs⟩ := h
  have R := hV.2 v v0 v1
  unfold sOf at hs
  refine ⟨fun z => ?_, fun z => ?_⟩
  · rw [if_pos z] at hs
    exact of_decide_eq_true hs
  · rw [if_neg (by omega)] at hs
    rcases Bool.or_eq_true _ _ ▸ hs with y | y
    · have y := of_decide_eq_true y
      exact Or.inl ⟨y, (R.2.2.2.1 y).1⟩
    · have y := of_decide_eq_true (Bool.and_eq_true _ _ ▸ y).1
      obtain ⟨b1, b2, b3, b4, b5⟩ := R.2.2.2.2.1 y
      exact Or.inr ⟨y, ⟨b1.1, by omega⟩, by rw [b4]; exact e12 _ b1.1 (by omega)⟩
/-- what is visited is there, as long as what was visited ahead fits -/
theorem vis_ok {σ H : e3_H} {m : Nat} {f : Int} {V : List (Int × Int)} (hT : TV σ m H) (hA : ∀ i : Int, 0 ≤ i → i < σ 68 f → oks H (H 135 i) (σ 69 (3 * f + i))) (hq : VQ σ f V) : ∀ (n : Nat) (A : List (Int × Int)) (p : Int × Int) (B : List (Int × Int)), A.length < n → V = A ++ p :: B → (∀ a, a ∈ A → fitv σ H a.1 (vt H a.2)) → oks H (vt H p.2) (σ 47 p.1) := by
  intro n
  induction n with
  | zero => intro A p B h; omega
  | succ n ih =>
    intro A p B hl e hf
    have hm : ∀ y, y ∈ A → y ∈ V := fun y hy => by rw [e]; exact List.mem_append_left _ hy
    rcases (hq.1 A p B e).2 with ⟨⟨c0, c1, c3⟩, c2⟩ | ⟨p', i, h1, h2, h3, ⟨i0, i1, i3⟩, h5⟩
    · rw [vt_col H (by omega), c2]
      exact hA _ c0 c1
    · obtain ⟨A1, A2, eA⟩ := List.append_of_mem h1
      have hla : A.length = A1.length + (A2.length + 1) := by rw [eA, List.length_append, List.length_cons]
      have e' : V = A1 ++ p' :: (A2 ++ p :: B) := by rw [e, eA, List.append_assoc]; rfl
      have ok' := ih A1 p' (A2 ++ p :: B) (by omega) e' (fun a ha => hf a (by rw [eA]; exact List.mem_append_left _ ha))
      have nd := (hq.1 A1 p' _ e').1
      have s3 : 3 ≤ σ 47 p'.1 := (nd.2.2.2.2.2.1 h2).1
      have pl := hq.2 p' (hm p' h1)
      have fp : 0 ≤ H 28 (vt H p'.2) ∧ a_of (σ 43) (σ 48 p'.1) 24 (H 28 (vt H p'.2)) = true := by
        rcases hf p' h1 with z | z | z
        · omega
        · omega
        · unfold hld at z
          rw [if_pos h2] at z
          have z := Bool.and_eq_true _ _ ▸ z
          exact ⟨of_decide_eq_true z.1, z.2⟩
      obtain ⟨hV, hk, hKP, e43, e45, e12, h8⟩ := id hT
      rcases (oks_wh hT ok').2 s3 with ⟨_, z⟩ | ⟨z1, z2, z3⟩
      · omega
      · have el := of_part hk.2.2.2.1 hKP (by omega) 24 _ z2.1 z2.2 fp.2
        have pt := (oks_part hV ok'.1 z1 (i := i) ⟨i0, by rw [z3, el]; exact i1⟩).1
        rw [h3, vt_ch H (by omega) (by omega), h5, ← e45, ← el]
        exact pt
section FITV
variable {Q : Int → e3_H → e3_G → Prop} {σ H : e3_H} {G : e3_G} {m : Nat} {q v : Int}
/-- a pattern's own test, in the reference -/
theorem nM_fitsHere (hT : TV σ m H) (htb : tb σ H) (hq : 0 ≤ q ∧ q < 1700) (hn : nod σ q) (hv : oks H v (σ 47 q)) (h160 : H 26 1 ≤ 160) (h1 : fitv σ H q v → Q 1 H G) (h0 : ¬ fitv σ H q v → Q 0 H G) : wM_fitsHere Q q v H G := by
  obtain ⟨w1, w2⟩ := oks_wh hT hv
  obtain ⟨hV, hk, hKP, e43, e45, e12, h8⟩ := id hT
  obtain ⟨n0, n1, n2, n3, n4, n5, n6⟩ := hn
  have R := hV.2 v hv.1.1 hv.1.2
  have vr : 0 ≤ v ∧ v < 160 := by have := hv.1.1; have := hv.1.2; omega
  have y : fitv σ H q v → ((1 : Int) = 0 ∨ (1 : Int) = 1) ∧ Q 1 H G := fun z => ⟨Or.inr rfl, h1 z⟩
  have n : ¬ fitv σ H q v → ((0 : Int) = 0 ∨ (0 : Int) = 1) ∧ Q 0 H G := fun z => ⟨Or.inl rfl, h0 z⟩
  have hd : ∀ k : Int, σ 46 q = k → k ≠ 0 → k ≠ 5 → k ≠ 6 → (fitv σ H q v ↔ (c_lo σ q ≤ H 28 v ∧ H 28 v ≤ c_hi σ q)) := fun k z z0 z5 z6 => by
    unfold fitv hld
    rw [if_neg (by omega), Bool.and_eq_true, decide_eq_true_eq, decide_eq_true_eq]
    constructor
    · rintro (t | t | t)
      · omega
      · omega
      · exact t
    · exact fun t => Or.inr (Or.inr t)
  have t46 := htb 46 q (by decide) (by decide) (by decide)
  have t48 := htb 48 q (by decide) (by decide) (by decide)
  have t49 := htb 49 q (by decide) (by decide) (by decide)
  have t50 := htb 50 q (by decide) (by decide) (by decide)
  unfold wM_fitsHere
  rw [t46, t48, t49, t50]
  refine ⟨hq, fun z => ⟨vr, hq, fun a => ?_, fun a => ⟨vr, hq, fun b => ?_, fun b => ?_⟩⟩, fun z => ⟨vr, hq, fun a => ?_, fun a => ?_⟩, fun z => ⟨vr, hq, fun a => ?_, fun a => ?_⟩, fun z => ⟨vr, fun a => ?_, fun a => ?_⟩, fun z => ⟨vr, fun a => ⟨vr, hq, ?_⟩, fun a => ?_⟩, fun z => ?_⟩
  · have e := hd 1 z (by decide) (by decide) (by decide)
    unfold c_hi c_lo at e
    rw [if_pos (Or.inl z), if_pos z] at e
    have := (R.2.1 (by have := w1 (by have := (n1 z).1; omega); have := (n1 z).1; omega)).1
    exact n (fun t => by have := e.mp t; omega)
  · have e := hd 1 z (by decide) (by decide) (by decide)
    unfold c_hi c_lo at e
    rw [if_pos (Or.inl z), if_pos z] at e
    have := (R.2.1 (by have := w1 (by have := (n1 z).1; omega); have := (n1 z).1; omega)).1
    exact n (fun t => by have := e.mp t; omega)
  · have e := hd 1 z (by decide) (by decide) (by decide)
    unfold c_hi c_lo at e
    rw [if_pos (Or.inl z), if_pos z] at e
    have := (R.2.1 (by have := w1 (by have := (n1 z).1; omega); have := (n1 z).1; omega)).1
    exact y (e.mpr (by omega))
  · have e := hd 2 z (by decide) (by decide) (by decide)
    unfold c_hi c_lo at e
    rw [if_pos (Or.inr (Or.inl z)), if_neg (by omega)] at e
    have := (R.2.1 (by have := w1 (by have := (n2 z).1; omega); have := (n2 z).1; omega)).1
    exact y (e.mpr (by omega))
  · have e := hd 2 z (by decide) (by decide) (by decide)
    unfold c_hi c_lo at e
    rw [if_pos (Or.inr (Or.inl z)), if_neg (by omega)] at e
    have := (R.2.1 (by have := w1 (by have := (n2 z).1; omega); have := (n2 z).1; omega)).1
    exact n (fun t => by have := e.mp t; omega)
  · have e := hd 3 z (by decide) (by decide) (by decide)
    unfold c_hi c_lo at e
    rw [if_neg (by omega), if_pos z, if_neg (by omega)] at e
    have := (R.2.2.1 (by have := w1 (by have := (n3 z).1; omega); have := (n3 z).1; omega)).1
    exact y (e.mpr (by omega))
  · have e := hd 3 z (by decide) (by decide) (by decide)
    unfold c_hi c_lo at e
    rw [if_neg (by omega), if_pos z, if_neg (by omega)] at e
    have := (R.2.2.1 (by have := w1 (by have := (n3 z).1; omega); have := (n3 z).1; omega)).1
    exact n (fun t => by have := e.mp t; omega)
  · have e := hd 4 z (by decide) (by decide) (by decide)
    unfold c_hi c_lo at e
    rw [if_neg (by omega), if_neg (by omega), if_pos z, if_neg (by omega)] at e
    have := R.1.1
    rcases w2 (n4 z) with ⟨u1, u2⟩ | ⟨u1, u2, _⟩
    · exact y (e.mpr (by omega))
    · omega
  · have e := hd 4 z (by decide) (by decide) (by decide)
    unfold c_hi c_lo at e
    rw [if_neg (by omega), if_neg (by omega), if_pos z, if_neg (by omega)] at e
    have := R.1.1
    rcases w2 (n4 z) with ⟨u1, u2⟩ | ⟨u1, u2, _⟩
    · omega
    · exact n (fun t => by have := e.mp t; omega)
  · have r1 := R.1.1
    rcases w2 (n5 z).1 with ⟨u1, u2⟩ | ⟨u1, u2, _⟩
    · omega
    · have b2 := (R.2.2.2.2.1 u1).2.1
      have ek : H 129 v = ((H 129 v).toNat : Int) := by omega
      rw [ek]
      refine cM_isOf (m := m) hk.2.1 (by rw [e43]; exact hk.2.2.2.1) (by omega) (n5 z).2.1 (fun t => brF (by decide) (y ?_)) (fun t => brT rfl (n (fun s => ?_)))
      · rw [← ek, ← b2, e43] at t
        unfold fitv hld
        rw [if_pos z, Bool.and_eq_true, decide_eq_true_eq]
        exact Or.inr (Or.inr ⟨u2.1, t⟩)
      · rw [← ek, ← b2, e43] at t
        unfold fitv hld at s
        rw [if_pos z, Bool.and_eq_true, decide_eq_true_eq, t] at s
        rcases s with s | s | s
        · omega
        · omega
        · exact absurd s.2 (by decide)
  · have r1 := R.1.1
    rcases w2 (n5 z).1 with ⟨u1, u2⟩ | ⟨u1, u2, _⟩
    · refine n (fun s => ?_)
      unfold fitv hld at s
      rw [if_pos z, Bool.and_eq_true, decide_eq_true_eq] at s
      rcases s with s | s | s
      · omega
      · omega
      · omega
    · omega
  · refine h1 ?_
    rcases z with z | z
    · exact Or.inl (by omega)
    · exact Or.inr (Or.inl (by omega))
end FITV
