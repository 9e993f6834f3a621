theorem wk_cg {σ M M2 : e3_H} {m : Nat} {R : a_RW} {way : Int} {Vr : Nat → List (Int × Int)} (h28 : M2 28 = M 28) (hvt : ∀ x : Int, vt M2 x = vt M x) : ∀ (k : Nat) (π : a_PT), wk σ m R way M2 Vr k π = wk σ m R way M Vr k π := by
  have hb : ∀ V : List (Int × Int), nB σ M2 V = nB σ M V := by
    have key : ∀ (V : List (Int × Int)) (B : Int → Int), nmf σ M2 V B = nmf σ M V B := by
      intro V
      induction V with
      | nil => intro B; rfl
      | cons p V ih =>
        intro B
        have : nm1 σ M2 p B = nm1 σ M p B := by
          unfold nm1
          rw [hvt]
        show nmf σ M2 V (nm1 σ M2 p B) = nmf σ M V (nm1 σ M p B)
        rw [this]
        exact ih _
    exact fun V => key V _
  have ht : ∀ B : Int → Int, tvp σ M2 B = tvp σ M B := fun B => by unfold tvp; rw [h28]
  intro k
  induction k with
  | zero => intro π; rfl
  | succ k ih =>
    intro π
    conv => lhs; unfold wk
    conv => rhs; unfold wk
    simp only [h28, hvt, hb, ht, ih]
/-- one letter at one FUNCTION: how it ends (0 a rule, 1 none, 2 no branch, 3 a guard that divides by 0), the rule, how many were asked, the log, what NAMES hold -/
abbrev a_SO : Type := Int × Int × Nat × List Int × (Int → Int)
/-- so it ends in the class -/
def SCo (σ H : e3_H) (fu n3 : Int) (L : List Int) (o : a_SO) (x : Int) (K : e3_H) : Prop := frS H K ∧ K 37 3 = n3 + (o.2.2.1 : Int) ∧ LGC (L ++ o.2.2.2.1) K ∧ ((o.1 = 0 ∧ x = H (H fu 4) (o.2.1 % 16) ∧ (∀ k : Int, 0 ≤ k → k < σ 56 o.2.1 → K 36 k = o.2.2.2.2 k) ∧ K 37 0 = H 37 0) ∨ ((o.1 = 1 ∨ o.1 = 2) ∧ x = -1 ∧ K 37 0 = o.1 ∧ K 37 6 = -4) ∨ (o.1 = 3 ∧ x = -1 ∧ K 37 0 = 3 ∧ K 37 6 = o.2.1 % 16))
/-- and in the reference -/
def SMo (σ H : e3_H) (n3 : Int) (L : List Int) (o : a_SO) (x : Int) (K : e3_H) : Prop := (zT H K ∧ z6 (H 40 109) K) ∧ K 40 122 = n3 + (o.2.2.1 : Int) ∧ LGM (L ++ o.2.2.2.1) K ∧ ((o.1 = 0 ∧ x = o.2.1 ∧ (∀ k : Int, 0 ≤ k → k < σ 56 o.2.1 → K 136 k = o.2.2.2.2 k) ∧ K 40 119 = H 40 119 ∧ K 40 125 = H 40 125) ∨ ((o.1 = 1 ∨ o.1 = 2) ∧ x = -4 ∧ K 40 119 = o.1 ∧ K 40 125 = H 40 125) ∨ (o.1 = 3 ∧ x = -4 ∧ K 40 119 = 3 ∧ K 40 125 = o.2.1 % 16))
/-- what such an end is -/
def SOk (σ H : e3_H) (f : Int) (o : a_SO) : Prop := (o.2.2.1 ≤ 120 ∧ o.2.2.2.1.length ≤ 120) ∧ (o.1 = 0 → (16 * f ≤ o.2.1 ∧ o.2.1 < 16 * f + σ 70 f) ∧ ∀ n : Nat, (n : Int) < σ 56 o.2.1 → oks H (o.2.2.2.2 n) (σ 58 (8 * o.2.1 + n)))
/-- a letter of a FUNCTION -/
def LTk (σ H : e3_H) (f : Int) (a : Int → Int) : Prop := ∀ i : Int, 0 ≤ i → i < σ 68 f → oks H (a i) (σ 69 (3 * f + i))
/-- the letter that is handed over -/
def lth (σ : e3_H) (r : Int) (B a : Int → Int) : Int → Int := fun i => if i < σ 83 r then B (σ 84 (3 * r + i)) else a i
/-- a run: how it ends, answer, calls, asked, log, FUNCTION, rule -/
abbrev a_RO : Type := Int × Int × Int × Int × List Int × Int × Int
def rn (σ M : e3_H) (S : Int → (Int → Int) → a_SO) : Nat → Int → (Int → Int) → Int → Int → List Int → Int → a_RO
  | 0, _, _, c, n3, L, fp => (4, 0, c - 1, n3, L, fp, -4)
  | n + 1, f, a, c, n3, L, _ => if (S f a).1 = 0 then (if σ 79 (S f a).2.1 = 2 then rn σ M S n (σ 80 (S f a).2.1) (lth σ (S f a).2.1 (S f a).2.2.2.2 a) (c + 1) (n3 + ((S f a).2.2.1 : Int)) (L ++ (S f a).2.2.2.1) f else (0, if σ 79 (S f a).2.1 = 1 then M 28 ((S f a).2.2.2.2 (σ 80 (S f a).2.1)) else σ 80 (S f a).2.1, c, n3 + ((S f a).2.2.1 : Int), L ++ (S f a).2.2.2.1, f, (S f a).2.1 % 16)) else ((S f a).1, 0, c, n3 + ((S f a).2.2.1 : Int), L ++ (S f a).2.2.2.1, f, if (S f a).1 = 3 then (S f a).2.1 % 16 else -4)
/-- a run's end, in the class: what told, guard, bound look at -/
def RCo (o : a_RO) (K : e3_H) : Prop := K 37 0 = o.1 ∧ K 37 1 = o.2.1 ∧ K 37 2 = o.2.2.1 ∧ K 37 3 = o.2.2.2.1 ∧ LGC o.2.2.2.2.1 K ∧ K 37 5 = o.2.2.2.2.2.1 ∧ K 37 6 = o.2.2.2.2.2.2
def RM0 (o : a_RO) (K : e3_H) : Prop := K 40 119 = o.1 ∧ K 40 120 = o.2.1 ∧ K 40 121 = o.2.2.1 ∧ K 40 122 = o.2.2.2.1 ∧ LGM o.2.2.2.2.1 K ∧ K 40 124 = o.2.2.2.2.2.1 ∧ K 40 125 = o.2.2.2.2.2.2
def RMo (o : a_RO) (K : e3_H) : Prop := K 40 119 = o.1 ∧ K 40 120 = o.2.1 ∧ K 40 121 = o.2.2.1 ∧ K 40 122 = o.2.2.2.1 ∧ LGM o.2.2.2.2.1 K ∧ K 40 124 = o.2.2.2.2.2.1 ∧ K 40 125 = o.2.2.2.2.2.2 ∧ K 40 126 = 1
/-- NAMES of the first rule, in the class -/
def BDc (σ : e3_H) (o : a_SO) (K : e3_H) : Prop := (o.1 = 0 → K 34 11 = σ 56 o.2.1 ∧ ∀ k : Int, 0 ≤ k → k < σ 56 o.2.1 → K 39 k = o.2.2.2.2 k) ∧ (o.1 ≠ 0 → K 34 11 = 0)
def BDm (σ : e3_H) (o : a_SO) (K : e3_H) : Prop := (o.1 = 0 → K 40 128 = σ 56 o.2.1 ∧ ∀ k : Int, 0 ≤ k → k < σ 56 o.2.1 → K 138 k = o.2.2.2.2 k) ∧ (o.1 ≠ 0 → K 40 128 = 0)
/-- rules of the class, as a run needs them -/
def RUX (σ : e3_H) (nf : Nat) (K : e3_H) (G : e3_G) : Prop := (K 14 3 = (nf : Int) ∧ nf ≤ 12) ∧ zSX K G ∧ ∀ f k : Nat, f < nf → (k : Int) < σ 70 f → 139 ≤ K (K 15 f) 4 ∧ 139 ≤ K 15 f ∧ c_an2 σ (16 * (f : Int) + k) K (K (K (K 15 f) 4) k) ∧ K (K (K (K 15 f) 4) k) 0 = (k : Int) ∧ (K (K (K (K 15 f) 4) k) 4 = σ 56 (16 * (f : Int) + k) ∧ 0 ≤ σ 56 (16 * (f : Int) + k) ∧ σ 56 (16 * (f : Int) + k) ≤ 8) ∧ c_sk (K (K (K 15 f) 4) k) K G
/-- calls hand over what suits -/
def CLX (σ : e3_H) (m nf : Nat) : Prop := ∀ f k : Nat, f < nf → (k : Int) < σ 70 f → (σ 79 (16 * (f : Int) + k) = 2 → (0 ≤ σ 80 (16 * (f : Int) + k) ∧ σ 80 (16 * (f : Int) + k) < (nf : Int)) ∧ σ 83 (16 * (f : Int) + k) = σ 68 (σ 80 (16 * (f : Int) + k)) ∧ (1 ≤ σ 68 (σ 80 (16 * (f : Int) + k)) ∧ σ 68 (σ 80 (16 * (f : Int) + k)) ≤ 3) ∧ ∀ i : Nat, (i : Int) < σ 83 (16 * (f : Int) + k) → (0 ≤ σ 84 (3 * (16 * (f : Int) + k) + i) ∧ σ 84 (3 * (16 * (f : Int) + k) + i) < σ 56 (16 * (f : Int) + k)) ∧ (0 ≤ σ 58 (8 * (16 * (f : Int) + k) + σ 84 (3 * (16 * (f : Int) + k) + i)) ∧ σ 58 (8 * (16 * (f : Int) + k) + σ 84 (3 * (16 * (f : Int) + k) + i)) < 3 + (m : Int)) ∧ a_fit σ (σ 58 (8 * (16 * (f : Int) + k) + σ 84 (3 * (16 * (f : Int) + k) + i))) (σ 69 (3 * σ 80 (16 * (f : Int) + k) + i)) = true) ∧ (σ 79 (16 * (f : Int) + k) = 1 → (0 ≤ σ 80 (16 * (f : Int) + k) ∧ σ 80 (16 * (f : Int) + k) < σ 56 (16 * (f : Int) + k)) ∧ σ 58 (8 * (16 * (f : Int) + k) + σ 80 (16 * (f : Int) + k)) = 0) ∧ (σ 79 (16 * (f : Int) + k) = 0 ∨ σ 79 (16 * (f : Int) + k) = 1 ∨ σ 79 (16 * (f : Int) + k) = 2)
/-- what is handed over is a letter of the FUNCTION that is called -/
theorem lth_ok {σ H : e3_H} {m nf f k : Nat} {B a : Int → Int} (hT : TV σ m H) (hC : CLX σ m nf) (hf : f < nf) (hk : (k : Int) < σ 70 f) (h79 : σ 79 (16 * (f : Int) + k) = 2) (hB : ∀ n : Nat, (n : Int) < σ 56 (16 * (f : Int) + k) → oks H (B n) (σ 58 (8 * (16 * (f : Int) + k) + n))) : LTk σ H (σ 80 (16 * (f : Int) + k)) (lth σ (16 * (f : Int) + k) B a) := fun i i0 i1 => by
  obtain ⟨c1, c2, c3, c4⟩ := (hC f k hf hk).1 h79
  generalize 16 * (f : Int) + (k : Int) = r at *
  have ei : ((i.toNat : Nat) : Int) = i := by omega
  obtain ⟨⟨d1, d2⟩, d3, d4⟩ := c4 i.toNat (by omega)
  rw [ei] at d1 d2 d3 d4
  unfold lth
  rw [if_pos (by omega)]
  have en : (((σ 84 (3 * r + i)).toNat : Nat) : Int) = σ 84 (3 * r + i) := by omega
  have hb := hB (σ 84 (3 * r + i)).toNat (by omega)
  rw [en] at hb
  exact fit_oks hT hb d4 d3
section VRN
variable {Q : Int → e3_H → e3_G → Prop} {R : e3_H → e3_G → Prop} {σ H : e3_H} {G : e3_G} {m nf : Nat}
theorem vR_functionAt {l1 : Int} (h : zSX H G) (hx : 0 ≤ l1 ∧ l1 < H 14 3) (hQ : Q (H 15 l1) H G) : wR_functionAt Q l1 H G := by
  have := h.1
  exact brF (by omega) (brT hx.2 ⟨by omega, hQ⟩)
theorem vS_heldAt {l1 : Int} (h : 0 ≤ l1 ∧ l1 < 8) (hQ : Q (H 36 l1) H G) : wS_heldAt Q l1 H G := brF (by omega) (brT h.2 ⟨h, hQ⟩)
theorem vS_numberHeld {l1 : Int} (hl : zLX H) (h : 0 ≤ l1 ∧ l1 < 8) (hv : okv H (H 36 l1)) (hi : e3_i32 (H 28 (H 36 l1))) (hQ : Q (H 28 (H 36 l1)) H G) : wS_numberHeld Q l1 H G := by
  have a1 := hv.1
  have a2 := hv.2
  have a3 := hl.1
  refine vS_heldAt h (brF (by omega) (brT a2 ⟨Or.inr rfl, brF (by decide) ⟨by omega, ?_⟩⟩))
  show Q (e3_w32 (H 28 (H 36 l1))) H G
  rw [e3_w32_id hi.1 hi.2]
  exact hQ
theorem vS_keepBound {ru n : Int} (hG : zGC G) (hu : 139 ≤ ru ∧ g_at G ru (109, 19)) (h4 : H ru 4 = n ∧ 0 ≤ n ∧ n ≤ 8) (hQ : ∀ K : e3_H, (∀ a x : Int, a ≠ 39 → ¬ (a = 34 ∧ x = 11) → K a x = H a x) → K 34 11 = n → (∀ k : Int, 0 ≤ k → k < 8 → K 39 k = H 36 k) → R K G) : wS_keepBound R ru H G := by
  have fin : ∀ H5 : e3_H, H5 = e3_up H 34 11 n → (e3_co G 36 0 39 0 8) ∧ ∀ H6 : e3_H, H6 = e3_cpy H5 36 0 39 0 8 → R H6 G := fun H5 e5 => by
    refine ⟨⟨by decide, by decide, by decide, by decide, by decide, 8, 8, hG.2.2.2.2.2, hG.2.2.1.2, by decide, by decide⟩, fun H6 e6 => ?_⟩
    have a6 : ∀ b k : Int, b ≠ 39 → H6 b k = H5 b k := fun b k hb => by
      rw [e6]
      show (if b = 39 ∧ _ ∧ _ then _ else _) = _
      rw [if_neg (fun z => hb z.1)]
    refine hQ H6 (fun a x h1 h2 => ?_) ?_ (fun k k0 k1 => ?_)
    · rw [a6 a x h1, e5, e3_up_ne h2]
    · rw [a6 34 11 (by decide), e5, e3_up_self]
    · rw [e6]
      show (if (39 : Int) = 39 ∧ 0 ≤ k ∧ k < 0 + 8 then H5 36 (0 + (k - 0)) else H5 39 k) = _
      rw [if_pos ⟨rfl, k0, by omega⟩, show 0 + (k - 0) = k by omega, e5, e3_up_ne (ne_1 (by decide))]
  refine ⟨ga_ob (c := 9) hu.2, ?_⟩
  rw [h4.1]
  by_cases c : (8 : Int) < n
  · omega
  · exact brF c (fin)
theorem vS_handOver {ru r : Int} {a B : Int → Int} (hsk : c_sk ru H G) (h15 : H ru 15 = σ 83 r ∧ 0 ≤ σ 83 r ∧ σ 83 r ≤ 3) (h18 : H ru 18 = σ 80 r) (h84 : ∀ i : Nat, i < 3 → (i : Int) < σ 83 r → H (ru + 5) i = σ 84 (3 * r + i)) (h8 : ∀ i : Nat, (i : Int) < σ 83 r → 0 ≤ σ 84 (3 * r + i) ∧ σ 84 (3 * r + i) < 8 ∧ H 36 (σ 84 (3 * r + i)) = B (σ 84 (3 * r + i))) (ha : ∀ i : Int, 0 ≤ i → i < 3 → H 35 i = a i) (hQ : ∀ K : e3_H, (∀ b x : Int, b ≠ 35 → ¬ (b = 34 ∧ x = 5) → K b x = H b x) → K 34 5 = σ 80 r → (∀ i : Int, 0 ≤ i → i < 3 → K 35 i = lth σ r B a i) → R K G) : wS_handOver R ru H G := by
  obtain ⟨s1, s2, s3, s4, s5, s6, s7, s8⟩ := hsk
  have o := ga_ob (c := 9) s2
  have key : ∀ (n l : Nat) (K : e3_H), l + n = 3 → (l : Int) ≤ σ 83 r → (∀ b x : Int, b ≠ 35 → K b x = H b x) → (∀ i : Int, 0 ≤ i → i < 3 → K 35 i = if i < (l : Int) then B (σ 84 (3 * r + i)) else a i) → wS_handOver_2 R (n + 1) ru (l : Int) K G := by
    intro n
    induction n with
    | zero =>
      intro l K hl hr f f5
      unfold wS_handOver_2
      rw [f ru 15 (by omega), h15.1]
      refine ⟨o, brF (by omega) ⟨o, fun H1 e1 => ?_⟩⟩
      rw [f ru 18 (by omega), h18] at e1
      refine hQ H1 (fun b x h1 h2 => by rw [e1, e3_up_ne h2]; exact f b x h1) (by rw [e1, e3_up_self]) (fun i i0 i1 => ?_)
      rw [e1, e3_up_ne (ne_1 (by decide)), f5 i i0 i1, if_pos (by omega)]
      unfold lth
      rw [if_pos (by omega)]
    | succ n ih =>
      intro l K hl hr f f5
      unfold wS_handOver_2
      rw [f ru 15 (by omega), h15.1, f ru 16 (by omega), s7.1]
      refine ⟨o, ?_⟩
      by_cases c : (l : Int) < σ 83 r
      · obtain ⟨q1, q2, q3⟩ := h8 l c
        have e84 : K (ru + 5) l = σ 84 (3 * r + l) := by rw [f _ _ (by omega)]; exact h84 l (by omega) c
        rw [e84]
        refine brT c (brT (by omega) ⟨o, ga_oa s7.2 (by omega) (by omega), vS_heldAt ⟨q1, q2⟩ ⟨by omega, fun H7 e7 => ?_⟩⟩)
        rw [e3_w32_id (x := (l : Int) + 1) (by omega) (by omega), show (l : Int) + 1 = ((l + 1 : Nat) : Int) by omega]
        refine ih (l + 1) H7 (by omega) (by omega) (fun b x hb => by rw [e7, e3_up_ne (ne_1 hb)]; exact f b x hb) (fun i i0 i1 => ?_)
        by_cases z : i = (l : Int)
        · rw [z, e7, e3_up_self, if_pos (by omega), f 36 _ (by decide)]
          exact q3
        · rw [e7, e3_up_ne (ne_2 z), f5 i i0 i1]
          by_cases y : i < (l : Int)
          · rw [if_pos y, if_pos (by omega)]
          · rw [if_neg y, if_neg (by omega)]
      · refine brF c ⟨o, fun H1 e1 => ?_⟩
        rw [f ru 18 (by omega), h18] at e1
        refine hQ H1 (fun b x h1 h2 => by rw [e1, e3_up_ne h2]; exact f b x h1) (by rw [e1, e3_up_self]) (fun i i0 i1 => ?_)
        rw [e1, e3_up_ne (ne_1 (by decide)), f5 i i0 i1]
        unfold lth
        have el : (l : Int) = σ 83 r := by omega
        rw [el]
  exact ⟨4, key 3 0 H (by omega) (by omega) (fun _ _ _ => rfl) (fun i i0 i1 => by rw [if_neg (by omega)]; exact ha i i0 i1)⟩
end VRN
