/-- calls and rows are judged -/
def a_fit (σ : e3_H) (s w : Int) : Bool := decide (s = w) || (decide (3 ≤ s) && decide (3 ≤ w) && a_of (σ 43) (w - 3) 24 (s - 3))
def a_jarg (σ : e3_H) (r f : Int) : Nat → Nat → Option Int
  | 0, _ => none
  | rem + 1, k => if a_fit σ (σ 58 (8 * r + σ 84 (3 * r + k))) (σ 69 (3 * f + k)) = true then a_jarg σ r f rem (k + 1) else some (σ 85 (3 * r + k))
def a_jan (σ : e3_H) (r : Int) : Int ⊕ e3_H :=
  if a_fd (σ 67) (σ 81 r) (a_nf σ) = -4 then .inl (σ 82 r) else if σ 83 r ≠ σ 68 (a_fd (σ 67) (σ 81 r) (a_nf σ)) then .inl (σ 82 r)
  else match a_jarg σ r (a_fd (σ 67) (σ 81 r) (a_nf σ)) (σ 68 (a_fd (σ 67) (σ 81 r) (a_nf σ))).toNat 0 with
    | some q => .inl q
    | none => .inr (e3_up σ 80 r (a_fd (σ 67) (σ 81 r) (a_nf σ)))
def a_jru (f : Int) : Nat → Nat → e3_H → Int ⊕ e3_H
  | 0, _, σ => .inr σ
  | rem + 1, k, σ => if σ 79 (16 * f + k) = 2 then (match a_jan σ (16 * f + k) with
      | .inl q => .inl q
      | .inr σ2 => a_jru f rem (k + 1) σ2) else a_jru f rem (k + 1) σ
def a_jfs : Nat → Nat → e3_H → Int ⊕ e3_H
  | 0, _, σ => .inr σ
  | rem + 1, f, σ => match a_jru f (σ 70 f).toNat 0 σ with
    | .inl q => .inl q
    | .inr σ2 => a_jfs rem (f + 1) σ2
def a_rwr (f : Int) : Nat → Nat → e3_H → Int ⊕ e3_H
  | 0, _, σ => .inr σ
  | rem + 1, k, σ => if 40 < σ 71 f + σ 74 (16 * f + k) then .inl (σ 73 (16 * f + k)) else a_rwr f rem (k + 1) (e3_up σ 71 f (σ 71 f + σ 74 (16 * f + k)))
def a_rfs : Nat → Nat → e3_H → Int ⊕ e3_H
  | 0, _, σ => .inr σ
  | rem + 1, f, σ => match a_rwr f (σ 70 f).toNat 0 (e3_up σ 71 f 0) with
    | .inl q => .inl q
    | .inr σ2 => a_rfs rem (f + 1) σ2
def a_judge (σ : e3_H) : Int ⊕ e3_H := match a_jfs (a_nf σ) 0 σ with
  | .inl q => .inl q
  | .inr σ1 => a_rfs (a_nf σ) 0 σ1
section RJ2
variable {H0 : e3_H} {G : e3_G} {n m nf : Nat} {t : Int → Int} {q : Int}
theorem F_inv_up {σ : e3_H} {a j v : Int} (h : F_inv σ m nf) (ha : a = 80 ∨ a = 71) : F_inv (e3_up σ a j v) m nf := by
  obtain ⟨h1, h2, h3, h4, h5⟩ := h
  refine ⟨by rw [e3_up_ne (by omega)]; exact h1, h2, fun x y hx hy he => h3 x y hx hy (by rw [e3_up_ne (by omega), e3_up_ne (by omega)] at he; exact he), fun f f0 f1 => F_one_fr (h4 f f0 f1) (fun b k hk => e3_up_ne (by omega)), p_w_up h5 (by omega)⟩
theorem F_nf {σ : e3_H} (h : F_inv σ m nf) : a_nf σ = nf := by unfold a_nf; rw [h.1]; omega
theorem cM_j68f {Q : e3_H → e3_G → Prop} (h12 : nf ≤ 12) (hQ : ∀ K', r_bd q H0 K' → Q K' G) : ∀ (rem f : Nat) (K : e3_H), f + rem = nf → K 40 41 = nf → r_bd q H0 K → wM_judge_68 Q (rem + 1) f K G := by
  intro rem
  induction rem with
  | zero => intro f K hf h41 hb; exact brF (by rw [h41]; omega) (hQ K hb)
  | succ rem ih =>
    intro f K hf h41 hb
    refine brT (by rw [h41]; omega) ⟨by omega, ?_⟩
    intro H1 e1
    have b1 : r_bd q H0 H1 := by rw [e1]; exact bd_up hb (by omega)
    have g1 : wM_judge_156 Q (fun l1 H G => wM_judge_68 Q (rem + 1) l1 H G) f H1 G := by
      unfold wM_judge_156
      rw [w_p1 (by omega)]
      exact ih (f + 1) H1 (by omega) (by rw [e1, e3_up_ne (by omega)]; exact h41) b1
    exact ⟨1, by omega, fun _ => brF b1.1 g1, fun _ => g1⟩
theorem cM_j12f {Q : e3_H → e3_G → Prop} {k2 : Int → e3_H → e3_G → Prop} {K : e3_H} {f : Nat} {k : Int} (hf : f < 12) (h0 : K 40 7 ≠ 0) (hQ : k2 ((f + 1 : Nat) : Int) K G) (g : Nat) : wM_judge_12 Q k2 (g + 1) f k K G := by
  have g1 : wM_judge_60 Q k2 f K G := by unfold wM_judge_60; rw [w_p1 (by omega)]; exact hQ
  exact ⟨by omega, fun _ => brF h0 g1, fun _ => g1⟩
theorem cM_j2f {Q : e3_H → e3_G → Prop} (h12 : nf ≤ 12) (hQ : ∀ K', r_bd q H0 K' → Q K' G) : ∀ (rem f : Nat) (K : e3_H), f + rem = nf → K 40 41 = nf → r_bd q H0 K → wM_judge_2 Q (rem + 1) f K G := by
  intro rem
  induction rem with
  | zero => intro f K hf h41 hb; exact brF (by rw [h41]; omega) ⟨nf + 1, cM_j68f h12 hQ nf 0 K (by omega) h41 hb⟩
  | succ rem ih =>
    intro f K hf h41 hb
    exact brT (by rw [h41]; omega) ⟨1, cM_j12f (by omega) hb.1 (ih (f + 1) K (by omega) h41 hb) 0⟩
theorem cM_ja65f {Q : e3_H → e3_G → Prop} {K : e3_H} {r f k : Int} (hf : 0 ≤ f ∧ f < 12) (h0 : K 40 7 ≠ 0) (hQ : Q K G) (g : Nat) : wM_judgeAnswer_65 Q (g + 1) r f k K G := ⟨hf, fun _ => brF h0 hQ, fun _ => hQ⟩
theorem cM_jarg {Q : e3_H → e3_G → Prop} {r : Int} {f : Int} {σ K : e3_H} (hr : 0 ≤ r ∧ r < 192) (hf : 0 ≤ f ∧ f < 12) (hN : ∀ a : Int, a = 43 ∨ a = 58 ∨ a = 68 ∨ a = 69 ∨ a = 84 ∨ a = 85 → K a = σ a) (h0 : K 40 7 = 0) (hk : k_inv σ m) (hc : c_ok σ m f) (hj : ∀ k : Nat, (k : Int) < σ 68 f → 0 ≤ σ 84 (3 * r + k) ∧ σ 84 (3 * r + k) < 8 ∧ 0 ≤ σ 58 (8 * r + σ 84 (3 * r + k)) ∧ σ 58 (8 * r + σ 84 (3 * r + k)) < 3 + m) :
    ∀ (rem k : Nat), (k + rem : Int) = σ 68 f → (a_jarg σ r f rem k = none → Q K G) → (∀ q, a_jarg σ r f rem k = some q → ∀ K', r_flt q K K' → Q K' G) → wM_judgeAnswer_65 Q (rem + 1) r f k K G := by
  intro rem
  have hc3 := hc.1
  induction rem with
  | zero =>
    intro k hk1 hok hfl
    refine ⟨hf, ?_⟩
    rw [hN 68 (by omega)]
    exact brF (by omega) (hok rfl)
  | succ rem ih =>
    intro k hk1 hok hfl
    have hm24 := hk.2.1
    obtain ⟨j1, j2, j3, j4⟩ := hj k (by omega)
    have hc2 := hc.2 k (by omega)
    refine ⟨hf, ?_⟩
    rw [hN 68 (by omega), hN 84 (by omega), hN 58 (by omega), hN 69 (by omega), e3_w32_id (x := 3 * r) (by omega) (by omega), e3_w32_id (x := 3 * r + (k : Int)) (by omega) (by omega), e3_w32_id (x := 8 * r) (by omega) (by omega), e3_w32_id (x := 3 * f) (by omega) (by omega), e3_w32_id (x := 3 * f + (k : Int)) (by omega) (by omega), e3_w32_id (x := 8 * r + σ 84 (3 * r + (k : Int))) (by omega) (by omega)]
    have hu : a_jarg σ r f (rem + 1) k = if a_fit σ (σ 58 (8 * r + σ 84 (3 * r + k))) (σ 69 (3 * f + k)) = true then a_jarg σ r f rem (k + 1) else some (σ 85 (3 * r + k)) := rfl
    rw [hu] at hok hfl
    refine brT (by omega) (brT h0 ⟨by omega, by omega, by omega, ?_⟩)
    generalize σ 58 (8 * r + σ 84 (3 * r + (k : Int))) = s at *
    generalize σ 69 (3 * f + (k : Int)) = w at *
    have yes : a_fit σ s w = true → wM_judgeAnswer_150 Q (fun l1 l2 l3 H G => wM_judgeAnswer_65 Q (rem + 1) l1 l2 l3 H G) r f k K G := by
      intro hz
      rw [if_pos hz] at hok hfl
      unfold wM_judgeAnswer_150 wM_judgeAnswer_155
      refine brF (by decide) ?_
      unfold wM_judgeAnswer_177
      rw [w_p1 (by omega)]
      exact ih (k + 1) (by omega) hok hfl
    have no : a_fit σ s w = false → wM_judgeAnswer_154 Q (fun l1 l2 l3 H G => wM_judgeAnswer_65 Q (rem + 1) l1 l2 l3 H G) r f k K G := by
      intro hz
      rw [if_neg (by rw [hz]; decide)] at hfl
      unfold wM_judgeAnswer_154 wM_judgeAnswer_155
      rw [hN 85 (by omega), e3_w32_id (x := 3 * r) (by omega) (by omega), e3_w32_id (x := 3 * r + (k : Int)) (by omega) (by omega)]
      refine brT rfl ⟨by omega, cM_fl h0 (by decide) (fun K' hf2 => ?_)⟩
      unfold wM_judgeAnswer_177
      rw [w_p1 (by omega)]
      exact cM_ja65f hf hf2.1 (hfl _ rfl K' hf2) rem
    refine ⟨fun he => yes ?_, fun he => ⟨fun h3 => no ?_, fun h3 => ⟨fun h4 => no ?_, fun h4 => ?_⟩⟩⟩
    · unfold a_fit; rw [decide_eq_true he]; rfl
    · unfold a_fit; rw [decide_eq_false he, decide_eq_false (show ¬ 3 ≤ s by omega)]; rfl
    · unfold a_fit; rw [decide_eq_false he, decide_eq_false (show ¬ 3 ≤ w by omega), Bool.and_false, Bool.false_and]; rfl
    · rw [e3_w32_id (x := s - 3) (by omega) (by omega), e3_w32_id (x := w - 3) (by omega) (by omega)]
      have es : ((s - 3).toNat : Int) = s - 3 := Int.toNat_of_nonneg (by omega)
      have key := cM_isOf (G := G) (H := K) (m := m) (o := w - 3) (k := (s - 3).toNat) (Q := fun x7 H5 G6 => ((x7 : Int) = 0 → wM_judgeAnswer_154 Q (fun l1 l2 l3 H G => wM_judgeAnswer_65 Q (rem + 1) l1 l2 l3 H G) r f k H5 G6) ∧ (¬ ((x7 : Int) = 0) → wM_judgeAnswer_150 Q (fun l1 l2 l3 H G => wM_judgeAnswer_65 Q (rem + 1) l1 l2 l3 H G) r f k H5 G6)) hk.2.1 (by rw [hN 43 (by omega)]; exact hk.2.2.2.1) (by omega) (by omega)
      rw [es, hN 43 (by omega)] at key
      refine key (fun ht => brF (by decide) (yes ?_)) (fun ht => brT rfl (no ?_))
      · unfold a_fit; rw [ht, decide_eq_true (show 3 ≤ s by omega), decide_eq_true (show 3 ≤ w by omega), Bool.and_true, Bool.and_true, Bool.or_true]
      · unfold a_fit; rw [ht, decide_eq_false he, Bool.and_false]; rfl
theorem cM_judgeAnswer {Q : e3_H → e3_G → Prop} {r : Int} {σ K : e3_H} (hr : 0 ≤ r ∧ r < 192) (hN : r_N σ K) (h0 : K 40 7 = 0) (hF : F_inv σ m nf) (hj : j_inv σ m r) (h79 : σ 79 r = 2) (hfr : f_fr H0 K)
    (hok : ∀ σ2, a_jan σ r = .inr σ2 → ∀ K', r_N σ2 K' → K' 40 7 = 0 → f_fr H0 K' → Q K' G) (hfl : ∀ q, a_jan σ r = .inl q → ∀ K', r_bd q H0 K' → K' 40 41 = nf → Q K' G) : wM_judgeAnswer Q r K G := by
  obtain ⟨h1, h2, h3, h4, h5⟩ := id hF
  have ea := F_nf hF
  unfold a_jan at hok hfl
  rw [ea] at hok hfl
  unfold wM_judgeAnswer
  have e41 : K 40 41 = nf := by rw [r_N_f hN 41 (by omega)]; exact h1
  refine ⟨hr, cM_functionOf e41 h2 ?_⟩
  rw [r_N_at hN 67 (by omega), r_N_at hN 81 (by omega), r_N_at hN 82 (by omega)]
  have hfd := a_fd_rg (σ 67) (σ 81 r) nf
  generalize a_fd (σ 67) (σ 81 r) nf = f at *
  refine ⟨fun hz => ⟨hr, cM_fl h0 (by decide) (fun K' hf => hfl _ (by rw [if_pos hz]) K' (bd_f hfr hf) (by rw [hf.2.2.1 41 (by omega) (by omega)]; exact e41))⟩, fun hz => ⟨hr, ?_⟩⟩
  rw [if_neg hz] at hok hfl
  intro H9 e9
  have hf : 0 ≤ f ∧ f < 12 := by omega
  have N9 : r_N (e3_up σ 80 r f) H9 := by rw [e9]; exact r_N_w _ _ _ hN
  have f9 : f_fr H0 H9 := by rw [e9]; exact f_up hfr (by omega)
  have z9 : H9 40 7 = 0 := by rw [e9, e3_up_ne (by omega)]; exact h0
  have at9 : ∀ a : Int, a = 43 ∨ a = 58 ∨ a = 68 ∨ a = 69 ∨ a = 84 ∨ a = 85 ∨ a = 82 ∨ a = 83 → H9 a = σ a := by
    intro a ha
    funext x
    rw [e9, e3_up_ne (by omega), r_N_at hN a (by omega)]
  have g41 : H9 40 41 = nf := by rw [e9, e3_up_ne (by omega)]; exact e41
  refine ⟨hr, hf, ?_⟩
  rw [at9 83 (by omega), at9 68 (by omega), at9 82 (by omega)]
  have hF1 := h4 f hf.1 (by omega)
  unfold wM_judgeAnswer_63
  refine ⟨fun he => ?_, fun he => ⟨hr, cM_fl z9 (by decide) (fun K' hf2 => ⟨1, cM_ja65f hf hf2.1 (hfl _ (by rw [if_pos he]) K' (bd_f f9 hf2) (by rw [hf2.2.2.1 41 (by omega) (by omega)]; exact g41)) 0⟩)⟩⟩
  rw [if_neg (fun z => z he)] at hok hfl
  have hc1 := hF1.1.1
  have hcn : ((σ 68 f).toNat : Int) = σ 68 f := Int.toNat_of_nonneg hc1.1
  refine ⟨(σ 68 f).toNat + 1, cM_jarg (m := m) hr hf (fun a ha => at9 a (by omega)) z9 h5.1 hF1.1 (fun k hk => ?_) (σ 68 f).toNat 0 (by omega) (fun hn => hok _ (by rw [hn]) H9 N9 z9 f9) (fun q hq K' hf2 => hfl q (by rw [hq]) K' (bd_f f9 hf2) (by rw [hf2.2.2.1 41 (by omega) (by omega)]; exact g41))⟩
  have hk3 : k < 3 := by omega
  have hx := hj.2.2.2 h79 k hk3 (by omega)
  have hy := hj.2.2.1 (σ 84 (3 * r + k)).toNat (by omega)
  rw [Int.toNat_of_nonneg hx.1] at hy
  have := hj.2.1
  omega
end RJ2
