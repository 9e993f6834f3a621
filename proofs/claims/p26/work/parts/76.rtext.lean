def a_knds (t : Int → Int) (n : Nat) : Nat → Nat → e3_H → a_S
  | 0, _, _ => .inl 0
  | g + 1, i, σ => if x_ty t n i = 270 then (match a_knd t n (i + 1) false σ with
      | .inl q => .inl q
      | .inr (j, σ2) => a_knds t n g j σ2) else .inr (i, σ)
def a_funs (t : Int → Int) (n : Nat) : Nat → Nat → e3_H → a_S
  | 0, _, _ => .inl 0
  | g + 1, i, σ => if x_ty t n i = 272 then (match a_fun t n (i + 1) σ with
      | .inl q => .inl q
      | .inr (j, σ2) => a_funs t n g j σ2) else if x_ty t n i = 256 then .inr (i, σ) else .inl (x_sp t n i)
/-- a whole text: a fault's place, or the state -/
def a_text (t : Int → Int) (n : Nat) (σ : e3_H) : Int ⊕ e3_H := match a_knds t n 25 0 σ with
  | .inl q => .inl q
  | .inr (i, σ1) => match a_funs t n 13 i σ1 with
    | .inl q => .inl q
    | .inr (_, σ2) => a_judge σ2
def rd_fr (H K : e3_H) : Prop := (∀ a k : Int, a ≠ 40 → a < 42 ∨ 85 < a → K a k = H a k) ∧ (∀ k : Int, k < 2 ∨ 8 < k → k ≠ 10 → k ≠ 16 → k ≠ 27 → k ≠ 31 → k ≠ 32 → k ≠ 41 → K 40 k = H 40 k) ∧ (0 ≤ H 40 7 → 0 ≤ K 40 7)
theorem rd_k {H K K2 : e3_H} {m : Nat} (h : rd_fr H K) (h2 : k_fr m K K2) : rd_fr H K2 := ⟨fun a k h1 h3 => by rw [h2.1 a k h1 (by omega) (by omega) (by omega) (by omega)]; exact h.1 a k h1 h3, fun k h1 h3 h4 h5 h6 h7 h8 => by rw [h2.2.2.2.1 k h1 h3]; exact h.2.1 k h1 h3 h4 h5 h6 h7 h8, fun hz => h2.2.2.2.2 (h.2.2 hz)⟩
theorem rd_f {H K K2 : e3_H} (h : rd_fr H K) (h2 : f_fr K K2) : rd_fr H K2 := ⟨fun a k h1 h3 => by rw [h2.1 a k h1 (by omega)]; exact h.1 a k h1 h3, fun k h1 h3 h4 h5 h6 h7 h8 => by rw [h2.2.1 k h1 h4 h5 h6 h7 h8]; exact h.2.1 k h1 h3 h4 h5 h6 h7 h8, fun hz => h2.2.2 (h.2.2 hz)⟩
section RX
variable {H0 : e3_H} {G : e3_G} {n : Nat} {t : Int → Int}
theorem F_kn {σ : e3_H} {m : Nat} (hk : k_inv σ m) (h16 : σ 40 16 = 0) (h41 : σ 40 41 = 0) : F_inv σ m 0 := ⟨h41, by omega, fun x y hx => by omega, fun f f0 f1 => by omega, hk, by omega, fun q h0 hq => by omega⟩
theorem cM_r57f {Q : Int → e3_H → e3_G → Prop} {K : e3_H} (h0 : K 40 7 ≠ 0) (hQ : wM_read_109 Q K G) : wM_read_79 Q K G := by
  unfold wM_read_79
  refine brF h0 ?_
  unfold wM_read_98
  exact brF h0 hQ
theorem cM_funs {Q : Int → e3_H → e3_G → Prop} {m : Nat} : ∀ (g i nf : Nat) (σ K : e3_H), r_T t n i m σ K → f_fr H0 K → F_inv σ m nf → g + nf = 13 →
    (∀ j σ2, a_funs t n g i σ = .inr (j, σ2) → ∀ nf2 K', F_inv σ2 m nf2 → r_T t n j m σ2 K' → f_fr H0 K' → wM_read_98 Q K' G) →
    (∀ q, a_funs t n g i σ = .inl q → ∀ K', r_bd q H0 K' → wM_read_109 Q K' G) → wM_read_57 Q (g + 1) K G := by
  intro g
  induction g with
  | zero => intro i nf σ K _ _ hF hg; have := hF.2.1; omega
  | succ g ih =>
    intro i nf σ K h hfr hF hg hok hfl
    refine brT h.1.2.2.2.1 (cM_isWord h.1.1 (by decide) (fun he => brF (by decide) ?_) (fun he => brT rfl ?_))
    · have hu : a_funs t n (g + 1) i σ = (match a_fun t n (i + 1) σ with
        | .inl q => .inl q
        | .inr (j, σ2) => a_funs t n g j σ2) := by
        conv => lhs; unfold a_funs
        rw [if_pos (by omega)]
      rw [hu] at hok hfl
      refine cM_readFunction h ⟨by omega, by omega⟩ hfr hF (fun j σ2 hr K' a b => ?_) (fun q hr K' hb => brF hb.1 (cM_r57f hb.1 (hfl q (by rw [hr]) K' hb)))
      rw [hr] at hok hfl
      obtain ⟨c1, c2, c3⟩ := a_fun_ok hr hF (by have := h.2; omega)
      exact ih j (nf + 1) σ2 K' a b c1 (by omega) hok hfl
    · have hu : a_funs t n (g + 1) i σ = (if x_ty t n i = 256 then .inr (i, σ) else .inl (x_sp t n i : Int)) := by
        conv => lhs; unfold a_funs
        rw [if_neg (by omega)]
      rw [hu] at hok hfl
      unfold wM_read_79
      have hso := r_so h.1.1
      refine brT h.1.2.2.2.1 ⟨fun hz => ?_, fun hz => ?_⟩
      · rw [if_pos (hso.1.mp hz)] at hok
        exact hok i σ rfl nf K hF h hfr
      · rw [if_neg (fun z => hz (hso.1.mpr z))] at hfl
        refine cM_stop h.1.2.2.2.1 (by decide) (fun K' hf => ?_)
        rw [h.1.1.2.2.1] at hf
        unfold wM_read_98
        exact brF hf.1 (hfl _ rfl K' (bd_f hfr hf))
theorem cM_knds {Q : Int → e3_H → e3_G → Prop} : ∀ (g i m : Nat) (σ K : e3_H), r_tk t n i K → r_in t n i → r_N σ K → K 40 7 = 0 → k_inv σ m → σ 40 16 = 0 → σ 40 41 = 0 → rd_fr H0 K → g + m = 25 →
    (∀ j σ2, a_knds t n g i σ = .inr (j, σ2) → ∀ m2 K', k_inv σ2 m2 → F_inv σ2 m2 0 → r_T t n j m2 σ2 K' → rd_fr H0 K' → ∃ n, wM_read_57 Q n K' G) →
    (∀ q, a_knds t n g i σ = .inl q → ∀ K', K' 40 7 ≠ 0 → K' 40 8 = q → rd_fr H0 K' → wM_read_109 Q K' G) → wM_read_34 Q (g + 1) K G := by
  intro g
  induction g with
  | zero => intro i m σ K _ _ _ _ hk _ _ _ hg; have := hk.2.1; omega
  | succ g ih =>
    intro i m σ K h hin hN h0 hk h16 h41 hfr hg hok hfl
    refine brT h0 (cM_isWord h (by decide) (fun he => brF (by decide) ?_) (fun he => brT rfl ?_))
    · have hu : a_knds t n (g + 1) i σ = (match a_knd t n (i + 1) false σ with
        | .inl q => .inl q
        | .inr (j, σ2) => a_knds t n g j σ2) := by
        conv => lhs; unfold a_knds
        rw [if_pos (by omega)]
      rw [hu] at hok hfl
      refine cM_readKind (added := false) rfl h hin ⟨by omega, by omega⟩ hN h0 hk ?_
      unfold r_out
      split
      · rename_i pl hr
        intro K' z1 z2 z3
        exact brF z1 ⟨1, brF z1 (cM_r57f z1 (hfl pl (by rw [hr]) K' z1 z2 (rd_k hfr z3)))⟩
      · rename_i j σ2 hr
        rw [hr] at hok hfl
        intro K' a b c d e f
        have e16 : σ2 40 16 = 0 := by rw [← r_N_f c 16 (by omega), f.2.2.2.1 16 (by omega) (by omega), r_N_f hN 16 (by omega)]; exact h16
        have e41 : σ2 40 41 = 0 := by rw [← r_N_f c 41 (by omega), f.2.2.2.1 41 (by omega) (by omega), r_N_f hN 41 (by omega)]; exact h41
        exact ih j (m + 1) σ2 K' a b c d e e16 e41 (rd_k hfr f) (by omega) hok hfl
    · refine hok i σ ?_ m K hk (F_kn hk h16 h41) ⟨⟨h, hin, hN, h0, hk, by omega, fun q q0 hq => by omega⟩, by omega⟩ hfr
      unfold a_knds
      rw [if_neg (by omega)]
/-- a text is read and judged -/
theorem cM_text {Q : Int → e3_H → e3_G → Prop} {σ K : e3_H} (h : r_tk t n 0 K) (hin : r_in t n 0) (hN : r_N σ K) (h0 : K 40 7 = 0) (h10 : σ 40 10 = 0) (h16 : σ 40 16 = 0) (h41 : σ 40 41 = 0)
    (hok : ∀ σ2, a_text t n σ = .inr σ2 → ∀ m nf K', F_inv σ2 m nf → r_N σ2 K' → K' 40 7 = 0 → rd_fr K K' → wM_read_109 Q K' G)
    (hfl : ∀ q, a_text t n σ = .inl q → ∀ K', 0 < K' 40 7 → K' 40 8 = q → rd_fr K K' → wM_read_109 Q K' G) : ∃ n, wM_read_34 Q n K G := by
  unfold a_text at hok hfl
  have k0 : k_inv σ 0 := ⟨h10, by omega, fun j l hj => by omega, fun k hk => by omega, fun k hk => by omega⟩
  have rf : rd_fr K K := ⟨fun _ _ _ _ => rfl, fun _ _ _ _ _ _ _ _ => rfl, id⟩
  have sg : ∀ K', K' 40 7 ≠ 0 → rd_fr K K' → 0 < K' 40 7 := fun K' z1 z2 => by have := z2.2.2 (by omega); omega
  refine ⟨26, cM_knds 25 0 0 σ K h hin hN h0 k0 h16 h41 rf (by omega) (fun j σ1 hr m K1 hk hF hT hf1 => ?_) (fun q hr K' z1 z2 z3 => hfl q (by rw [hr]) K' (sg K' z1 z3) z2 z3)⟩
  rw [hr] at hok hfl
  simp only at hok hfl
  refine ⟨14, cM_funs (m := m) 13 j 0 σ1 K1 hT (f_rf K1) hF (by omega) (fun j2 σ2 hr2 nf K2 hF2 hT2 hf2 => ?_) (fun q hr2 K' hb => hfl q (by rw [hr2]) K' (sg K' hb.1 (rd_f hf1 hb.2.2)) hb.2.1 (rd_f hf1 hb.2.2))⟩
  simp only [hr2] at hok hfl
  unfold wM_read_98
  refine brT hT2.1.2.2.2.1 (cM_judge (H0 := K2) hT2.1.2.2.1 hT2.1.2.2.2.1 hF2 (f_rf K2) (fun σ3 hj K' a b c => ?_) (fun q hj K' hb => ?_))
  · exact hok σ3 hj m nf K' (a_judge_ok hj hF2).1 a b (rd_f (rd_f hf1 hf2) c)
  · exact hfl q hj K' (sg K' hb.1 (rd_f (rd_f hf1 hf2) hb.2.2)) hb.2.1 (rd_f (rd_f hf1 hf2) hb.2.2)
theorem cM_beginTape {Q : e3_H → e3_G → Prop} {H : e3_H} (hn : H 40 1 = (n : Int)) (hn2 : n ≤ 1600) (ht : H 41 = t) (hb : ∀ k : Nat, k < n → 0 ≤ t k) (hQ : ∀ K, r_tk t n 0 K → r_in t n 0 → K 40 7 = 0 → x_N (e3_up H 40 7 0) K → Q K G) : wM_beginTape Q H G := by
  unfold wM_beginTape
  intro H1 e1 H2 e2
  have x2 : x_N (e3_up H 40 7 0) H2 := by
    rw [e2, e1]
    refine ⟨fun k hk => e3_up_ne (by omega), fun a k ha => ?_⟩
    simp only [List.mem_cons, List.not_mem_nil, or_false] at ha
    exact e3_up_ne (by omega)
  refine cM_next (n := n) (t := t) (p := 0) (by rw [e2, e1, e3_up_ne (by omega), e3_up_ne (by omega)]; exact hn) hn2 (by rw [← ht]; funext k; rw [e2, e1, e3_up_ne (by omega), e3_up_ne (by omega)]) hb (by rw [e2, e3_up_self]; rfl) (by omega) ?_
  intro K hK
  obtain ⟨a, b, c, d⟩ := hK
  have x3 : x_N (e3_up H 40 7 0) K := ⟨fun k hk => (d.1 k hk).trans (x2.1 k hk), fun x k hx => (d.2 x k hx).trans (x2.2 x k hx)⟩
  refine hQ K ⟨?_, ?_, a, b, c⟩ ⟨hn2, hb, fun j hj => by omega⟩ ?_ x3
  · rw [x3.1 1 (by omega), e3_up_ne (by omega)]; exact hn
  · rw [x_N_at x3 41 (by omega), ← ht]; funext k; exact e3_up_ne (by omega)
  · rw [x3.1 7 (by omega), e3_up_self]
end RX
