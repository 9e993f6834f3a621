theorem p83_p (j : Nat) : 1 ≤ p83 j := by
  induction j with
  | zero => decide
  | succ j ih => show 1 ≤ 8 * p83 j; omega
section NST
variable {Q : Int → e3_H → e3_G → Prop} {H : e3_H} {G : e3_G}
/-- the VALUE that stands at a place, in the reference -/
theorem nM_s35 {c : Int} (hc : c ≤ 160) (hv : ∀ i : Int, 0 ≤ i → i < 640 → 0 ≤ H 132 i ∧ H 132 i < c) {x : Int} (h0 : 0 ≤ x) (h1 : x < 2147483647) (hQ : Q (vt H x) H G) : ∀ (i : Nat) (v : Int), i ≤ 10 → 0 ≤ v ∧ v < c → v = vt H (x / p83 i) → 1 ≤ x / p83 i → (∀ j : Nat, j < i → 1 ≤ x / p83 j % 8 ∧ x / p83 j % 8 ≤ 4) → wM_standing_35 Q (i + 1) x v (3 * (i : Int) - 3) H G := by
  intro i
  induction i with
  | zero =>
    intro v _ hv2 e _ _
    have e1 : x / p83 0 = x := by show x / 1 = x; exact Int.ediv_one x
    rw [e1] at e
    rw [e]
    exact brT (by decide) hQ
  | succ i ih =>
    intro v hi hv2 e hp hd
    have pp := p83_p i
    refine brF (by omega) ?_
    rw [show 3 * ((i + 1 : Nat) : Int) - 3 = 3 * (i : Int) by omega, shr_i h0 (by omega) i (by omega)]
    have d1 := Int.ediv_nonneg h0 (show 0 ≤ p83 i by omega)
    have d2 := Int.ediv_le_self (p83 i) h0
    have d3 := hd i (by omega)
    have e8 : x / p83 (i + 1) = x / p83 i / 8 := by
      show x / (8 * p83 i) = x / p83 i / 8
      rw [Int.mul_comm, Int.ediv_ediv_of_nonneg (by omega)]
    rw [e8] at e hp
    have hch := vt_ch H (y := x / p83 i / 8) (i := x / p83 i % 8 - 1) (by omega) (by omega)
    rw [show 8 * (x / p83 i / 8) + 1 + (x / p83 i % 8 - 1) = x / p83 i by omega, ← e, show 4 * v + (x / p83 i % 8 - 1) = 4 * v + x / p83 i % 8 - 1 by omega] at hch
    rw [and_7 d1 (by omega), e3_w32_id (x := 4 * v) (by omega) (by omega), e3_w32_id (x := 4 * v + x / p83 i % 8) (by omega) (by omega), e3_w32_id (x := 4 * v + x / p83 i % 8 - 1) (by omega) (by omega)]
    refine ⟨by omega, ?_⟩
    rw [e3_w32_id (x := 3 * (i : Int) + -3) (by omega) (by omega), show 3 * (i : Int) + -3 = 3 * (i : Int) - 3 by omega]
    exact ih _ (by omega) (hv _ (by omega) (by omega)) hch.symm (by omega) (fun j hj => hd j (by omega))
theorem nM_standing {c m : Int} (hm : m ≤ 3) (hc : c ≤ 160) (hv : ∀ i : Int, 0 ≤ i → i < 640 → 0 ≤ H 132 i ∧ H 132 i < c) {x : Int} (hx : zPL m 11 x) (h1 : x < 2147483647) (ha : ∀ j : Int, 1 ≤ j → j ≤ m → 0 ≤ H 135 (j - 1) ∧ H 135 (j - 1) < c) (hQ : Q (vt H x) H G) : wM_standing Q x H G := by
  have h0 : 0 ≤ x := by have := zPL_pos _ _ hx; omega
  have key : ∀ (k i : Nat) (y : Int), k + i = 11 → zPL m k y → y = x / p83 i → (∀ j : Nat, j < i → 1 ≤ x / p83 j % 8 ∧ x / p83 j % 8 ≤ 4) → wM_standing_4 Q k x y (3 * (i : Int)) H G := by
    intro k
    induction k with
    | zero => intro i y _ h; exact h.elim
    | succ k ih =>
      intro i y hk hy ey hd
      have pp := p83_p i
      rcases hy with ⟨z1, z2⟩ | ⟨z1, z2, z3⟩
      · refine brF (by omega) ?_
        rw [e3_w32_id (x := y - 1) (by omega) (by omega), e3_w32_id (x := 3 * (i : Int) - 3) (by omega) (by omega)]
        exact ⟨by omega, i + 1, nM_s35 hc hv h0 h1 hQ i _ (by omega) (ha y z1 z2) (by rw [← ey, vt_col H (by omega)]) (by rw [← ey]; exact z1) hd⟩
      · have hy2 : y < 2147483647 := by
          have := Int.ediv_le_self (p83 i) h0
          omega
        refine brT (by omega) ?_
        rw [shr_3 (by omega) (by omega), e3_w32_id (x := 3 * (i : Int) + 3) (by omega) (by omega), show 3 * (i : Int) + 3 = 3 * ((i + 1 : Nat) : Int) by omega]
        refine ih (i + 1) (y / 8) (by omega) z3 ?_ (fun j hj => ?_)
        · rw [ey]
          show x / p83 i / 8 = x / (8 * p83 i)
          rw [Int.mul_comm, Int.ediv_ediv_of_nonneg (by omega)]
        · by_cases t : j = i
          · rw [t, ← ey]; exact z2
          · exact hd j (by omega)
  exact ⟨11, key 11 0 x rfl hx (by show x = x / 1; rw [Int.ediv_one]) (fun j hj => absurd hj (Nat.not_lt_zero _))⟩
end NST
/-- does a label lead on, in the reference -/
def rdb (s l : Int) (e : Int × Int) : Bool := if s = 0 then decide (e.1 ≤ l) && decide (l ≤ e.2) else ldb s l e
/-- both find the same -/
def gdl (s l : Int) : List (Int × Int) → Prop
  | [] => True
  | e :: L => ldb s l e = rdb s l e ∧ (ldb s l e = false → gdl s l L)
theorem gdl_ne {s l : Int} (h : s ≠ 0) : ∀ L : List (Int × Int), gdl s l L := by
  intro L
  induction L with
  | nil => exact trivial
  | cons e L ih => exact ⟨by unfold rdb; rw [if_neg h], fun _ => ih⟩
theorem gdl_pts {l : Int} : ∀ (C : List Int) (a : Int), a ≤ l → gdl 0 l (pts a C) := by
  have key : ∀ a c : Int, a ≤ l → ldb 0 l (a, c) = rdb 0 l (a, c) := fun a c h => by
    unfold ldb rdb
    rw [if_pos rfl, if_pos rfl]
    show decide (l ≤ c) = (decide (a ≤ l) && decide (l ≤ c))
    rw [decide_eq_true h, Bool.true_and]
  intro C
  induction C with
  | nil => intro a h; exact ⟨key a _ h, fun _ => trivial⟩
  | cons c C ih =>
    intro a h
    refine ⟨key a c h, fun z => ih (c + 1) ?_⟩
    unfold ldb at z
    rw [if_pos rfl] at z
    have z : ¬ (l ≤ c) := of_decide_eq_false z
    omega
section NIB
variable {Q : Int → e3_H → e3_G → Prop} {H : e3_H} {G : e3_G}
theorem nM_isBranch {n v s : Int} {e : Int × Int} (s0 : 0 ≤ s) (hn : 0 ≤ n ∧ n < 3900) (hv : 0 ≤ v ∧ v < 160) (ho : sOf H (H 27 v) (H 28 v) s = true) (hV : VR1 H v) (hlb : lb4 H n = enc s e) (he : 3 ≤ s → e.2 = -1 ∨ 0 ≤ e.2) (h1 : rdb s (H 28 v) e = true → Q 1 H G) (h0 : rdb s (H 28 v) e = false → Q 0 H G) : wM_isBranch Q n (ndo s) v H G := by
  have y : rdb s (H 28 v) e = true → ((1 : Int) = 0 ∨ (1 : Int) = 1) ∧ Q 1 H G := fun z => ⟨Or.inr rfl, h1 z⟩
  have no : rdb s (H 28 v) e = false → ((0 : Int) = 0 ∨ (0 : Int) = 1) ∧ Q 0 H G := fun z => ⟨Or.inl rfl, h0 z⟩
  obtain ⟨⟨v1, _⟩, v2, v3, v4, v5, _⟩ := hV
  have l1 : H 111 n = (enc s e).1 := by rw [← hlb]; rfl
  have l2 : H 112 n = (enc s e).2.1 := by rw [← hlb]; rfl
  have l3 : H 113 n = (enc s e).2.2.1 := by rw [← hlb]; rfl
  have l4 : H 114 n = (enc s e).2.2.2 := by rw [← hlb]; rfl
  clear hlb h1 h0
  unfold enc at l1 l2 l3 l4
  unfold sOf at ho
  unfold wM_isBranch
  by_cases a0 : s = 0
  · have nd : ndo s = 6 := by unfold ndo; rw [if_pos a0]
    have b : rdb s (H 28 v) e = (decide (e.1 ≤ H 28 v) && decide (H 28 v ≤ e.2)) := by unfold rdb; rw [if_pos a0]
    rw [if_pos a0] at l1 l2
    rw [if_pos (by omega)] at ho
    have w := of_decide_eq_true ho
    have e28 := (v2 (by omega)).1
    rw [nd, l1, l2, ← e28]
    rw [b] at y no
    refine ⟨fun z => absurd z (by decide), fun z => absurd z (by decide), fun z => absurd z (by decide), fun _ => ⟨hv, hn, fun z => ?_, fun z => ⟨hv, hn, fun z2 => ?_, fun z2 => ?_⟩⟩⟩
    · exact no (by rw [decide_eq_false (by show ¬ e.1 ≤ _; have z : H 28 v < e.1 := z; omega), Bool.false_and])
    · exact no (by rw [decide_eq_false (show ¬ H 28 v ≤ e.2 by have z2 : e.2 < H 28 v := z2; omega), Bool.and_false])
    · have z : ¬ H 28 v < e.1 := z
      have z2 : ¬ e.2 < H 28 v := z2
      exact y (by rw [decide_eq_true (show e.1 ≤ H 28 v by omega), decide_eq_true (show H 28 v ≤ e.2 by omega)]; rfl)
  · rw [if_neg a0] at l1 l2 l3 l4
    by_cases a1 : s = 1
    · have nd : ndo s = 4 := by unfold ndo; rw [if_neg a0, if_pos a1]
      have b : rdb s (H 28 v) e = decide (H 28 v = e.2) := by unfold rdb ldb; rw [if_neg a0, if_neg a0, if_neg (by omega)]
      rw [if_pos a1] at l1
      rw [if_pos (by omega)] at ho
      have w := of_decide_eq_true ho
      have e28 := (v2 (by omega)).1
      rw [nd, l1, ← e28]
      rw [b] at y no
      exact ⟨fun z => absurd z (by decide), fun _ => ⟨hn, hv, fun z => y (decide_eq_true z.symm), fun z => no (decide_eq_false (fun t => z t.symm))⟩, fun z => absurd z (by decide), fun z => by omega⟩
    · rw [if_neg a1] at l1 l2 l3 l4
      by_cases a2 : s = 2
      · have nd : ndo s = 5 := by unfold ndo; rw [if_neg a0, if_neg a1, if_pos a2]
        have b : rdb s (H 28 v) e = (decide (H 28 v = e.2) || decide (e.2 = -1)) := by unfold rdb ldb; rw [if_neg a0, if_neg a0, if_pos a2]
        rw [if_pos a2] at l3 l4
        rw [if_pos (by omega)] at ho
        have w := of_decide_eq_true ho
        have e28 := (v3 (by omega)).1
        rw [nd, l3, l4, ← e28]
        rw [b] at y no
        refine ⟨fun z => absurd z (by decide), fun z => absurd z (by decide), fun _ => ⟨hn, fun z => ⟨hn, hv, fun t => ?_, fun t => ?_⟩, fun z => ?_⟩, fun z => by omega⟩
        · by_cases u : e.2 = -1
          · exact y (by rw [decide_eq_true u, Bool.or_true])
          · rw [if_neg u] at t
            exact y (by rw [decide_eq_true (show H 28 v = e.2 from Eq.symm t), Bool.true_or])
        · by_cases u : e.2 = -1
          · rw [if_pos u] at z
            exact absurd (show (1 : Int) = 0 from z) (by decide)
          · rw [if_neg u] at t
            exact no (by rw [decide_eq_false u, decide_eq_false (show ¬ H 28 v = e.2 from fun k => t (Eq.symm k))]; rfl)
        · by_cases u : e.2 = -1
          · exact y (by rw [decide_eq_true u, Bool.or_true])
          · rw [if_neg u] at z
            exact absurd rfl z
      · rw [if_neg a2] at l1
        have nd : ndo s = 3 := by unfold ndo; rw [if_neg a0, if_neg a1, if_neg a2]
        have b : rdb s (H 28 v) e = decide (H 28 v = e.2) := by unfold rdb ldb; rw [if_neg a0, if_neg a0, if_neg a2]
        have he := he (by omega)
        rw [if_neg (by omega)] at ho
        rw [nd, l1, ← v1]
        rw [b] at y no
        refine ⟨fun _ => ⟨hv, fun z => ⟨hn, fun t => ?_, fun t => ?_⟩, fun z => ⟨hn, hv, fun t => ?_, fun t => ?_⟩⟩, fun z => absurd z (by decide), fun z => absurd z (by decide), fun z => by omega⟩
        · have e28 := (v4 z).1
          by_cases u : e.2 = -1
          · exact y (decide_eq_true (by omega))
          · rw [if_neg u] at t
            have t : e.2 = -4 := t
            omega
        · have e28 := (v4 z).1
          by_cases u : e.2 = -1
          · rw [if_pos u] at t
            exact absurd rfl t
          · exact no (decide_eq_false (by omega))
        · have w4 : H 27 v = 4 := by
            rcases Bool.or_eq_true _ _ ▸ ho with k | k
            · exact absurd (of_decide_eq_true k) z
            · exact of_decide_eq_true (Bool.and_eq_true _ _ ▸ k).1
          obtain ⟨c1, c2, _⟩ := v5 w4
          rw [← c2] at t
          by_cases u : e.2 = -1
          · rw [if_pos u] at t
            have t : (-4 : Int) = H 28 v := t
            omega
          · rw [if_neg u] at t
            exact y (decide_eq_true (Eq.symm t))
        · have w4 : H 27 v = 4 := by
            rcases Bool.or_eq_true _ _ ▸ ho with k | k
            · exact absurd (of_decide_eq_true k) z
            · exact of_decide_eq_true (Bool.and_eq_true _ _ ▸ k).1
          obtain ⟨c1, c2, _⟩ := v5 w4
          rw [← c2] at t
          refine no (decide_eq_false (fun k => ?_))
          by_cases u : e.2 = -1
          · omega
          · rw [if_neg u] at t
            exact t (Eq.symm k)
/-- the branch that a VALUE takes, in the reference -/
theorem nM_160 {k6 : Int → e3_H → e3_G → Prop} {s v b : Int} (s0 : 0 ≤ s) (hb : 0 ≤ b ∧ b + 120 ≤ 3900) (hv : 0 ≤ v ∧ v < 160) (ho : sOf H (H 27 v) (H 28 v) s = true) (hV : VR1 H v) : ∀ (L : List (Int × Int)) (C : List Nat) (a : Int), C.length = L.length → mch H a (C.map (fun (c : Nat) => b + (c : Int))) → (∀ (x c : Nat) (e : Int × Int), C[x]? = some c → L[x]? = some e → c < 120 ∧ lb4 H (b + (c : Int)) = enc s e ∧ (3 ≤ s → e.2 = -1 ∨ 0 ≤ e.2)) → gdl s (H 28 v) L → ∀ i : Nat, (fnd s (H 28 v) L i = none → ∀ H1, H1 = e3_up H 40 119 2 → Q (-4) H1 G) → (∀ (i' : Nat) (e : Int × Int), fnd s (H 28 v) L i = some (i', e) → ∀ c : Nat, C[i' - i]? = some c → k6 (b + (c : Int)) H G) → wM_byTree_160 Q k6 (L.length + 1) a (ndo s) v H G := by
  intro L
  induction L with
  | nil =>
    intro C a hl hm _ _ i hno _
    have hC : C = [] := List.eq_nil_of_length_eq_zero hl
    subst hC
    have ha : a = -4 := hm
    exact brT ha (brT ha (hno rfl))
  | cons e L ih =>
    intro C a hl hm hk hg i hno hyes
    cases C with
    | nil => exact absurd hl (by rw [List.length_cons]; exact fun z => absurd (show 0 = L.length + 1 from z) (by omega))
    | cons c C =>
      obtain ⟨hm1, hm2⟩ := hm
      have hm1 : a = b + (c : Int) := hm1
      subst hm1
      obtain ⟨k1, k2, k3⟩ := hk 0 c e rfl rfl
      obtain ⟨g1, g2⟩ := hg
      refine brF (by omega) (nM_isBranch (e := e) s0 ⟨by omega, by omega⟩ hv ho hV k2 k3 (fun hr => brF (by decide) (brF (by omega) ?_)) (fun hr => brT rfl ⟨⟨by omega, by omega⟩, ?_⟩))
      · have hf : fnd s (H 28 v) (e :: L) i = some (i, e) := by
          show (if ldb s (H 28 v) e = true then some (i, e) else fnd s (H 28 v) L (i + 1)) = _
          rw [if_pos (g1.trans hr)]
        exact hyes i e hf c (by rw [Nat.sub_self]; rfl)
      · have hb2 := g1.trans hr
        have hf : fnd s (H 28 v) (e :: L) i = fnd s (H 28 v) L (i + 1) := by
          show (if ldb s (H 28 v) e = true then some (i, e) else fnd s (H 28 v) L (i + 1)) = _
          rw [if_neg (by rw [hb2]; decide)]
        refine ih C (H 110 (b + (c : Int))) (Nat.succ.inj hl) hm2 (fun x c' e' h1 h2 => hk (x + 1) c' e' h1 h2) (g2 hb2) (i + 1) (fun z => hno (hf.trans z)) (fun i' e' z c' hc => hyes i' e' (hf.trans z) c' ?_)
        obtain ⟨j', j1, _⟩ := fnd_at L (i + 1) i' e' z
        rw [show i' - (i + 1) = j' by omega] at hc
        rw [show i' - i = j' + 1 by omega]
        exact hc
end NIB
/-- NAMES hold VALUES that are there -/
theorem nmf_z6 {σ M : e3_H} {c : Int} : ∀ (V : List (Int × Int)) (B : Int → Int), (∀ i : Int, 0 ≤ i → i < 8 → 0 ≤ B i ∧ B i < c) → (∀ p, p ∈ V → 0 ≤ vt M p.2 ∧ vt M p.2 < c) → ∀ i : Int, 0 ≤ i → i < 8 → 0 ≤ nmf σ M V B i ∧ nmf σ M V B i < c := by
  intro V
  induction V with
  | nil => intro B h _; exact h
  | cons p V ih =>
    intro B h hp
    refine ih (nm1 σ M p B) (fun i i0 i1 => ?_) (fun q hq => hp q (List.mem_cons_of_mem _ hq))
    have hh := hp p (List.mem_cons_self ..)
    show 0 ≤ (if σ 54 p.1 = i then vt M p.2 else if σ 53 p.1 = i then vt M p.2 else B i) ∧ (if σ 54 p.1 = i then vt M p.2 else if σ 53 p.1 = i then vt M p.2 else B i) < c
    split
    · exact hh
    · split
      · exact hh
      · exact h i i0 i1
