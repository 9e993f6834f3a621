/-- does a sum divide by 0 -/
def thr (σ : e3_H) (T : Int → Int) (r d : Int) : Bool := (decide (σ 77 (2 * r + d) = 47) || decide (σ 77 (2 * r + d) = 37)) && decide (T (4 * r + 2 * d + 1) = 0)
/-- what a sum is -/
def smv (σ : e3_H) (T : Int → Int) (r d : Int) : Int := if σ 77 (2 * r + d) = 0 then T (4 * r + 2 * d) else if σ 77 (2 * r + d) = 43 then e3_w32 (T (4 * r + 2 * d) + T (4 * r + 2 * d + 1)) else if σ 77 (2 * r + d) = 45 then e3_w32 (T (4 * r + 2 * d) - T (4 * r + 2 * d + 1)) else if σ 77 (2 * r + d) = 42 then e3_w32 (T (4 * r + 2 * d) * T (4 * r + 2 * d + 1)) else if σ 77 (2 * r + d) = 47 then e3_div (T (4 * r + 2 * d)) (T (4 * r + 2 * d + 1)) else e3_rem (T (4 * r + 2 * d)) (T (4 * r + 2 * d + 1))
/-- a guard: 0 not true, 1 true, 2 it divides by 0 -/
def gdv (σ : e3_H) (T : Int → Int) (r : Int) : Int := if thr σ T r 0 = true then 2 else if thr σ T r 1 = true then 2 else if (σ 78 r = 60 ∧ smv σ T r 0 < smv σ T r 1) ∨ (σ 78 r = 62 ∧ smv σ T r 1 < smv σ T r 0) ∨ (σ 78 r ≠ 60 ∧ σ 78 r ≠ 62 ∧ smv σ T r 0 = smv σ T r 1) then 1 else 0
section NGD
variable {Q : Int → e3_H → e3_G → Prop} {σ H : e3_H} {G : e3_G} {c : Int}
theorem nM_isThrown {r d : Int} (htb : tb σ H) (hc : c ≤ 160) (h6 : z6 c H) (hr : 0 ≤ r ∧ r < 192) (hd : d = 0 ∨ d = 1) (h : zS1 σ r d) (h1 : thr σ (tvl σ H) r d = true → Q 1 H G) (h0 : thr σ (tvl σ H) r d = false → Q 0 H G) : wM_isThrown Q r d H G := by
  have e77 := htb 77 (2 * r + d) (by decide) (by decide) (by decide)
  unfold wM_isThrown
  rw [e3_w32_id (x := 2 * r) (by omega) (by omega), e3_w32_id (x := 2 * r + d) (by omega) (by omega), e77]
  unfold thr at h1 h0
  have n23 : (σ 77 (2 * r + d) = 47 ∨ σ 77 (2 * r + d) = 37) → wM_isThrown_23 Q r d H G := fun hop => by
    unfold wM_isThrown_23
    rw [e3_w32_id (x := 4 * r) (by omega) (by omega), e3_w32_id (x := 2 * d) (by omega) (by omega), e3_w32_id (x := 4 * r + 2 * d) (by omega) (by omega), e3_w32_id (x := 4 * r + 2 * d + 1) (by omega) (by omega)]
    have ht : zT1 σ (4 * r + 2 * d + 1) := by
      rcases h.2 with y | y
      · omega
      · exact y.2
    have hb : (decide (σ 77 (2 * r + d) = 47) || decide (σ 77 (2 * r + d) = 37)) = true := by
      rcases hop with y | y
      · rw [decide_eq_true y, Bool.true_or]
      · rw [decide_eq_true y, Bool.or_true]
    rw [hb, Bool.true_and] at h1 h0
    exact zM_term htb hc h6 (by omega) ht ⟨fun z => ⟨Or.inr rfl, h1 (decide_eq_true z)⟩, fun z => ⟨Or.inl rfl, h0 (decide_eq_false z)⟩⟩
  refine ⟨by omega, fun z => n23 (Or.inl z), fun z => ⟨fun y => n23 (Or.inr y), fun y => ⟨Or.inl rfl, h0 ?_⟩⟩⟩
  rw [decide_eq_false z, decide_eq_false y]
  rfl
theorem nM_sum {r d : Int} (htb : tb σ H) (hc : c ≤ 160) (h6 : z6 c H) (hr : 0 ≤ r ∧ r < 192) (hd : d = 0 ∨ d = 1) (h : zS1 σ r d) (hz : thr σ (tvl σ H) r d = false) (hQ : Q (smv σ (tvl σ H) r d) H G) : wM_sum Q r d H G := by
  have e77 := htb 77 (2 * r + d) (by decide) (by decide) (by decide)
  have hz' : σ 77 (2 * r + d) = 47 ∨ σ 77 (2 * r + d) = 37 → tvl σ H (4 * r + 2 * d + 1) ≠ 0 := fun hop z => by
    unfold thr at hz
    rw [decide_eq_true z, Bool.and_true] at hz
    rcases hop with y | y
    · rw [decide_eq_true y, Bool.true_or] at hz; cases hz
    · rw [decide_eq_true y, Bool.or_true] at hz; cases hz
  unfold smv at hQ
  unfold wM_sum
  rw [e3_w32_id (x := 2 * r) (by omega) (by omega), e3_w32_id (x := 2 * r + d) (by omega) (by omega), e3_w32_id (x := 4 * r) (by omega) (by omega), e3_w32_id (x := 2 * d) (by omega) (by omega), e3_w32_id (x := 4 * r + 2 * d) (by omega) (by omega), e3_w32_id (x := 4 * r + 2 * d + 1) (by omega) (by omega)]
  refine zM_term htb hc h6 (by omega) h.1 ⟨by omega, ?_⟩
  rw [e77]
  refine ⟨fun z => by rw [if_pos z] at hQ; exact hQ, fun z => ?_⟩
  rw [if_neg z] at hQ
  obtain ⟨o1, o2⟩ : a_isop (σ 77 (2 * r + d)) ∧ zT1 σ (4 * r + 2 * d + 1) := by
    rcases h.2 with y | y
    · exact absurd y z
    · exact y
  refine zM_term htb hc h6 (by omega) o2 ⟨fun z1 => by rw [if_pos z1] at hQ; exact hQ, fun z1 => ?_⟩
  rw [if_neg z1] at hQ
  refine ⟨fun z2 => by rw [if_pos z2] at hQ; exact hQ, fun z2 => ?_⟩
  rw [if_neg z2] at hQ
  refine ⟨fun z3 => by rw [if_pos z3] at hQ; exact hQ, fun z3 => ?_⟩
  rw [if_neg z3] at hQ
  refine ⟨fun z4 => ⟨hz' (Or.inl z4), by rw [if_pos z4] at hQ; exact hQ⟩, fun z4 => ⟨hz' (Or.inr ?_), by rw [if_neg z4] at hQ; exact hQ⟩⟩
  rcases o1 with y | y | y | y | y
  · exact absurd y z1
  · exact absurd y z2
  · exact absurd y z3
  · exact absurd y z4
  · exact y
/-- the log of guards, one more -/
def lgM (n v : Int) (H : e3_H) : e3_H := e3_up (if n < 32 then e3_up H 137 n v else H) 40 123 (n + 1)
/-- a guard, in the reference -/
theorem nM_guarded {r n : Int} (htb : tb σ H) (hc : c ≤ 160) (h6 : z6 c H) (hr : 0 ≤ r ∧ r < 192) (h0 : zS1 σ r 0) (h1 : zS1 σ r 1) (hn : H 40 123 = n ∧ 0 ≤ n ∧ n ≤ 1000000) (hQ : Q (gdv σ (tvl σ H) r) (lgM n (100 * (r / 16) + r % 16) H) G) : wM_guarded Q r H G := by
  have n30 : ∀ K, (∀ a k : Int, a ≠ 137 → K a k = H a k) → Q (gdv σ (tvl σ H) r) (e3_up K 40 123 (n + 1)) G → wM_guarded_30 Q r K G := fun K f hQ => by
    intro H1 e1
    rw [f 40 123 (by decide), hn.1, e3_w32_id (by omega) (by omega)] at e1
    have f1 : ∀ a k : Int, a ≠ 137 → ¬ (a = 40 ∧ k = 123) → H1 a k = H a k := fun a k h2 h3 => by rw [e1, e3_up_ne h3]; exact f a k h2
    have t1 : tb σ H1 := fun a k a1 a2 a3 => by rw [f1 a k (by omega) (by omega)]; exact htb a k a1 a2 a3
    have s1 : z6 c H1 := fun i i0 i1 => by rw [f1 136 i (by decide) (by omega)]; exact h6 i i0 i1
    have tv : tvl σ H1 = tvl σ H := funext fun i => tvl_eq (fun a k ha => f1 a k (by omega) (by omega))
    have e78 := t1 78 r (by decide) (by decide) (by decide)
    rw [← e1] at hQ
    unfold gdv at hQ
    refine nM_isThrown t1 hc s1 hr (Or.inl rfl) h0 (fun z => brF (by decide) ?_) (fun z0 => brT rfl (nM_isThrown t1 hc s1 hr (Or.inr rfl) h1 (fun z => brF (by decide) ?_) (fun z1 => brT rfl ?_)))
    · rw [tv] at z
      rw [if_pos z] at hQ
      exact hQ
    · rw [tv] at z z0
      rw [if_neg (by rw [z0]; decide), if_pos z] at hQ
      exact hQ
    · refine nM_sum t1 hc s1 hr (Or.inl rfl) h0 z0 (nM_sum t1 hc s1 hr (Or.inr rfl) h1 z1 ?_)
      rw [tv] at z0 z1 ⊢
      rw [if_neg (by rw [z0]; decide), if_neg (by rw [z1]; decide)] at hQ
      rw [e78]
      have yes : ((σ 78 r = 60 ∧ smv σ (tvl σ H) r 0 < smv σ (tvl σ H) r 1) ∨ (σ 78 r = 62 ∧ smv σ (tvl σ H) r 1 < smv σ (tvl σ H) r 0) ∨ (σ 78 r ≠ 60 ∧ σ 78 r ≠ 62 ∧ smv σ (tvl σ H) r 0 = smv σ (tvl σ H) r 1)) → Q 1 H1 G := fun z => by rw [if_pos z] at hQ; exact hQ
      have no : ¬ ((σ 78 r = 60 ∧ smv σ (tvl σ H) r 0 < smv σ (tvl σ H) r 1) ∨ (σ 78 r = 62 ∧ smv σ (tvl σ H) r 1 < smv σ (tvl σ H) r 0) ∨ (σ 78 r ≠ 60 ∧ σ 78 r ≠ 62 ∧ smv σ (tvl σ H) r 0 = smv σ (tvl σ H) r 1)) → Q 0 H1 G := fun z => by rw [if_neg z] at hQ; exact hQ
      exact ⟨hr, fun a => ⟨fun b => yes (Or.inl ⟨a, b⟩), fun b => no (fun z => by rcases z with z | z | z; exact b z.2; omega; exact z.1 a)⟩, fun a => ⟨fun b => ⟨fun d => yes (Or.inr (Or.inl ⟨b, d⟩)), fun d => no (fun z => by rcases z with z | z | z; exact a z.1; exact d z.2; exact z.2.1 b)⟩, fun b => ⟨fun d => yes (Or.inr (Or.inr ⟨a, b, d⟩)), fun d => no (fun z => by rcases z with z | z | z; exact a z.1; exact b z.1; exact d z.2.2)⟩⟩⟩
  unfold lgM at hQ
  have ed : e3_div r 16 = r / 16 := e3_div_id ⟨hr.1, by omega⟩ (by decide)
  have em : e3_rem r 16 = r % 16 := e3_rem_id ⟨hr.1, by omega⟩ (by decide)
  unfold wM_guarded
  rw [hn.1, ed, em, e3_w32_id (x := 100 * (r / 16)) (by omega) (by omega), e3_w32_id (x := 100 * (r / 16) + r % 16) (by omega) (by omega)]
  refine ⟨fun z => ⟨by decide, by decide, by omega, fun H1 e1 => ?_⟩, fun z => ?_⟩
  · rw [if_pos z, ← e1] at hQ
    exact n30 H1 (fun a k ha => by rw [e1, e3_up_ne (ne_1 ha)]) hQ
  · rw [if_neg z] at hQ
    exact n30 H (fun _ _ _ => rfl) hQ
end NGD
