def B40 : Nat := 1099511627776
theorem B40_e : B40 = 2 ^ 40 := rfl
theorem tb_or {M i : Nat} {p : Nat → Prop} [DecidablePred p] (hb : ∀ j : Nat, M.testBit j = decide (j < i ∧ p j)) (hp : p i) (j : Nat) : (M ||| 2 ^ i).testBit j = decide (j < i + 1 ∧ p j) := by
  rw [Nat.testBit_or, hb j, Nat.testBit_two_pow]
  by_cases z : i = j
  · subst z
    rw [decide_eq_true (p := i = i) rfl, Bool.or_true]
    exact (decide_eq_true ⟨Nat.lt_succ_self i, hp⟩).symm
  · rw [decide_eq_false z, Bool.or_false]
    by_cases y : p j
    · by_cases x : j < i
      · rw [decide_eq_true ⟨x, y⟩]; exact (decide_eq_true ⟨Nat.lt_succ_of_lt x, y⟩).symm
      · rw [decide_eq_false (fun t => x t.1)]; exact (decide_eq_false (fun t => by omega)).symm
    · rw [decide_eq_false (fun t => y t.2)]; exact (decide_eq_false (fun t => y t.2)).symm
theorem tb_no {M i : Nat} {p : Nat → Prop} [DecidablePred p] (hb : ∀ j : Nat, M.testBit j = decide (j < i ∧ p j)) (hp : ¬ p i) (j : Nat) : M.testBit j = decide (j < i + 1 ∧ p j) := by
  rw [hb j]
  by_cases y : p j
  · by_cases x : j < i
    · rw [decide_eq_true ⟨x, y⟩]; exact (decide_eq_true ⟨Nat.lt_succ_of_lt x, y⟩).symm
    · rw [decide_eq_false (fun t => x t.1)]
      refine (decide_eq_false (fun t => ?_)).symm
      have : j = i := by omega
      subst this
      exact hp y
  · rw [decide_eq_false (fun t => y t.2)]; exact (decide_eq_false (fun t => y t.2)).symm
theorem tb_shl {M i : Nat} (hM : M < B40) (hi : i < 40) : e3_lor (M : Int) (e3_lshl 1 (i : Int)) = ((M ||| 2 ^ i : Nat) : Int) ∧ M ||| 2 ^ i < B40 := by
  have hM' : M < 2 ^ 40 := B40_e ▸ hM
  have i40 : 2 ^ i < 2 ^ 40 := Nat.pow_lt_pow_right (by decide) hi
  have h4 : (2 : Nat) ^ 40 ≤ 2 ^ 62 := Nat.pow_le_pow_right (by decide) (by decide)
  exact ⟨by rw [m_shl (Nat.lt_trans hi (by decide)), m_or (Nat.lt_of_lt_of_le hM' h4) (Nat.lt_of_lt_of_le i40 h4)], B40_e ▸ Nat.or_lt_two_pow hM' i40⟩
/-- a row without a guard -/
def ung (σ : e3_H) (w : Int × List (Int × Int)) : Bool := decide (σ 78 w.1 = 0)
section CUG
variable {Q : Int → e3_H → e3_G → Prop} {σ g H : e3_H} {G : e3_G} {m : Nat} {pn cx : Int → Int} {cnt : Nat} {R : a_RW} {fu : Int}

/-- rows without a guard, as a path of guards -/
theorem cF_unguarded (hD : DX σ g m pn cx cnt R fu H G) (hu : zFU fu H G) (hr0 : ∀ w, w ∈ R → 0 ≤ w.1) (hQ : ∀ (M : Nat) (π : a_PT), (∀ e, e ∈ π → e.1 = 0) → SP σ m R π → (∀ w, w ∈ R → lv σ w π = ung σ w) → MK R (fun w => lv σ w π) M → Q (M : Int) H G) : wF_unguardedRows Q fu H G := by
  obtain ⟨_, ⟨f1, f2⟩, ⟨f3, f4⟩, ⟨f5, f6⟩, _, f8, f9⟩ := hD
  obtain ⟨_, _, _, ⟨u3, u4, u5, u6⟩, _⟩ := hu
  have ob := ga_ob (c := 8) f2
  have key : ∀ (d i : Nat) (M : Nat) (π : a_PT), i + d = R.length → M < B40 → (∀ e, e ∈ π → e.1 = 0) → SP σ m R π → (∀ j : Nat, M.testBit j = decide (j < i ∧ H (H (H (fu + 3) j) 0) 7 = 0)) → (∀ w : Int × List (Int × Int), lv σ w π = true ↔ ∀ (j : Nat) (v : Int × List (Int × Int)), j < i → R[j]? = some v → H (H (H (fu + 3) j) 0) 7 ≠ 0 → w.1 ≠ v.1) → wF_unguardedRows_4 Q (d + 1) fu (M : Int) i H G := by
    intro d
    induction d with
    | zero =>
      intro i M π hi hM hp hS hb hl
      have hung : ∀ w, w ∈ R → lv σ w π = ung σ w := fun w hw => by
        obtain ⟨j, hj⟩ := List.mem_iff_getElem?.mp hw
        have hjl := (List.getElem?_eq_some_iff.mp hj).1
        have e7 : ∀ (j : Nat) (v : Int × List (Int × Int)), R[j]? = some v → H (H (H (fu + 3) j) 0) 7 = σ 78 v.1 := fun j v hv => (f8 j v hv).2.2.2.2.2.2.2.2.2.2
        unfold ung
        by_cases z : σ 78 w.1 = 0
        · rw [decide_eq_true z]
          refine (hl w).mpr (fun j2 v hj2 hv h72 e => h72 ?_)
          rw [e7 j2 v hv, ← e]
          exact z
        · rw [decide_eq_false z]
          cases hlv : lv σ w π with
          | false => rfl
          | true => exact absurd rfl ((hl w).mp hlv j w (by omega) hj (by rw [e7 j w hj]; exact z))
      refine ⟨ob, brF (by rw [f3]; omega) (hQ M π hp hS hung ⟨B40_e ▸ hM, fun j => ?_⟩)⟩
      rw [hb j]
      cases hz : R[j]? with
      | none =>
        have := List.getElem?_eq_none_iff.mp hz
        exact decide_eq_false (fun z => by omega)
      | some w =>
        have hj := (List.getElem?_eq_some_iff.mp hz).1
        show decide _ = lv σ w π
        by_cases h7 : H (H (H (fu + 3) j) 0) 7 = 0
        · rw [decide_eq_true ⟨by omega, h7⟩]
          refine ((hl w).mpr (fun j2 v hj2 hv h72 e => ?_)).symm
          have := (f9 j j2 w v hz hv).mpr e
          rw [this] at h7
          exact h72 h7
        · rw [decide_eq_false (fun z => h7 z.2)]
          cases hlv : lv σ w π with
          | false => rfl
          | true => exact absurd rfl ((hl w).mp hlv j w (by omega) hz h7)
    | succ d ih =>
      intro i M π hi hM hp hS hb hl
      have hi2 : i < R.length := by omega
      have hi3 : i + 1 + d = R.length := by omega
      have hi4 : i < 40 := by omega
      have hi5 : (i : Int) < H fu 5 := by rw [f3]; omega
      have i0 : (0 : Int) ≤ i := by omega
      have i40 : (i : Int) < ((40 : Nat) : Int) := by omega
      have hRi := List.getElem?_eq_getElem hi2
      have hrw := u6 i i0 hi5
      rw [f5] at hrw
      have f22 : 2 ≤ fu + 3 := by omega
      have wp : e3_w32 ((i : Int) + 1) = ((i + 1 : Nat) : Int) := w_p1 (by omega)
      have oa : e3_oa G 6 (H fu 6) i := by rw [f5]; exact ga_oa f6 f22 ⟨i0, i40⟩
      refine ⟨ob, brT hi5 ⟨ob, oa, by rw [f5]; exact ga_ob (c := 11) hrw.1.2, by rw [f5]; exact ga_ob (c := 9) hrw.2.1.1.2, ?_⟩⟩
      rw [f5]
      refine ⟨ga_ob (c := 9) hrw.2.1.1.2, fun h7 => ⟨Or.inl rfl, brT rfl ?_⟩, fun h7 => ⟨Or.inr rfl, brF (by decide) ?_⟩⟩
      · show wF_unguardedRows_4 Q (d + 1) fu (e3_lor (M : Int) (e3_lshl 1 (i : Int))) (e3_w32 ((i : Int) + 1)) H G
        obtain ⟨s1, s2⟩ := tb_shl hM hi4
        rw [s1, wp]
        refine ih (i + 1) _ π hi3 s2 hp hS (tb_or hb h7) (fun w => ?_)
        rw [hl w]
        refine ⟨fun h j v hj hv h72 => ?_, fun h j v hj hv h72 => h j v (Nat.lt_succ_of_lt hj) hv h72⟩
        by_cases z : j = i
        · subst z; exact absurd h7 h72
        · exact h j v (Nat.lt_of_le_of_ne (Nat.le_of_lt_succ hj) z) hv h72
      · show wF_unguardedRows_4 Q (d + 1) fu (M : Int) (e3_w32 ((i : Int) + 1)) H G
        rw [wp]
        refine ih (i + 1) M ((0, R[i].1, R[i].1) :: π) hi3 hM (fun e he => ?_) ⟨hS, Or.inl ⟨rfl, hr0 _ (List.getElem_mem hi2)⟩⟩ (tb_no hb h7) (fun w => ?_)
        · rcases List.mem_cons.mp he with z | z
          · rw [z]
          · exact hp e z
        · show (lv σ w π && ok1 σ w (0, R[i].1, R[i].1)) = true ↔ _
          have eo : ok1 σ w (0, R[i].1, R[i].1) = decide (w.1 ≠ R[i].1) := rfl
          rw [eo, Bool.and_eq_true, hl w, decide_eq_true_eq]
          refine ⟨fun ⟨a, b⟩ j v hj hv h72 => ?_, fun h => ⟨fun j v hj hv h72 => h j v (Nat.lt_succ_of_lt hj) hv h72, h i _ (Nat.lt_succ_self i) hRi h7⟩⟩
          by_cases z : j = i
          · subst z
            rw [hRi] at hv
            cases hv
            exact b
          · exact a j v (Nat.lt_of_le_of_ne (Nat.le_of_lt_succ hj) z) hv h72
  refine ⟨R.length + 1, key R.length 0 0 [] (Nat.zero_add _) (by decide) (fun e he => absurd he (List.not_mem_nil)) trivial (fun j => ?_) (fun w => ⟨fun _ j v hj => absurd hj (Nat.not_lt_zero _), fun _ => rfl⟩)⟩
  rw [Nat.zero_testBit]
  exact (decide_eq_false (fun t => absurd t.1 (Nat.not_lt_zero _))).symm
theorem zE_hasNone {t : Int} (h : zTR t H G) (hQ : ∀ x, Q x H G) : wE_hasNone Q t H G := by
  obtain ⟨⟨q, q0, ⟨p1, q1⟩, _⟩, t2, t3⟩ := h
  have key : ∀ (n : Nat) (l1 : Int), 0 ≤ l1 → l1 + n = 120 → wE_hasNone_2 Q (n + 1) t l1 H G := by
    intro n
    induction n with
    | zero => intro l1 g0 hn; exact ⟨ga_ob (c := 5) q0, brF (by omega) (hQ _)⟩
    | succ n ih =>
      intro l1 g0 hn
      refine ⟨ga_ob (c := 5) q0, ?_⟩
      by_cases a : l1 < H t 0
      · refine brT a ⟨ga_ob (c := 5) q0, by rw [p1]; exact ga_oa q1 (by omega) (by omega), fun _ => hQ _, fun _ => ?_⟩
        rw [e3_w32_id (by omega) (by omega)]
        exact ih (l1 + 1) (by omega) (by omega)
      · exact brF a (hQ _)
  exact ⟨121, key 120 0 (by omega) (by omega)⟩
theorem zF_comesTo {t : Int} (h : zTR t H G) (hu : zFU fu H G) (l2 : Int) (hQ : ∀ x, Q x H G) : wF_comesTo Q fu t l2 H G := by
  obtain ⟨⟨q, q0, _, ⟨p2, q2⟩, _⟩, t2, t3⟩ := h
  have key : ∀ (n : Nat) (l3 : Int), 0 ≤ l3 → l3 + n = 120 → wF_comesTo_2 Q (n + 1) fu t l2 l3 H G := by
    intro n
    induction n with
    | zero => intro l3 g0 hn; exact ⟨ga_ob (c := 5) q0, brF (by omega) (hQ _)⟩
    | succ n ih =>
      intro l3 g0 hn
      have nx : wF_comesTo_41 Q (fun l0 l1 l2 l3 H G => wF_comesTo_2 Q (n + 1) l0 l1 l2 l3 H G) fu t l2 l3 H G := by
        show wF_comesTo_2 Q (n + 1) fu t l2 (e3_w32 (l3 + 1)) H G
        rw [e3_w32_id (by omega) (by omega)]
        exact ih (l3 + 1) (by omega) (by omega)
      refine ⟨ga_ob (c := 5) q0, ?_⟩
      by_cases a : l3 < H t 0
      · exact brT a ⟨ga_ob (c := 5) q0, by rw [p2]; exact ga_oa q2 (by omega) (by omega), ga_ob (c := 8) hu.1.2, zF_rowAt hu _ (fun _ hR => brF (by have := hR.1.1; omega) ⟨ga_ob (c := 11) hR.1.2, ga_ob (c := 9) hR.2.1.1.2, fun _ => hQ _, fun _ => nx⟩) (brT (by decide) nx)⟩
      · exact brF a (hQ _)
  exact ⟨121, key 120 0 (by omega) (by omega)⟩
end CUG
def fup {α : Type} (w : Nat → α) (f : Nat) (v : α) : Nat → α := fun f' => if f' = f then v else w f'
section CRM
variable {Q : Int → e3_H → e3_G → Prop} {σ g H : e3_H} {G : e3_G} {m nf : Nat} {Vs : Int → Int → Int → List (Int × Int)} {mr0 : Nat → Nat} {way km : Nat → Int} {N : Nat → List a_ND}
/-- a drawn tree is handed over -/
theorem TX_hand {K K4 : e3_H} {f cnt : Nat} {cx : Int → Int} {w : Int} {N' : List a_ND} (hX : TX σ g m nf Vs way km N K G) (hG : GB G) (hf : f < nf) (d1 : K (K 15 f) 7 = (cnt : Int)) (d2 : c_pl K G (K 15 f) cx) (d3 : K (K 16 1) 0 = (N'.length : Int)) (d4 : K (K 16 1) 2 = w) (d5 : K (K 16 1) 3 = (m : Int)) (d6 : TC (K 16 1) cx cnt 0 N' K) (e4 : K4 = e3_up (e3_up K (K 15 f) 10 (K 16 1)) 16 1 (K (K 15 f) 10)) : TX σ g m nf Vs (fup way f w) (fup km f (m : Int)) (fup N f N') K4 G ∧ D2 K G K4 G ∧ TS nf K4 G ∧ K4 15 f = K 15 f ∧ K4 (K 15 f) 10 = K 16 1 ∧ K4 (K 16 1) 0 = (N'.length : Int) := by
  obtain ⟨x1, x2, x3, x4, x5, x6⟩ := id hX
  have hfu : ∀ f : Nat, f < nf → g_at G (K 15 f) (108, 11) := fun f hf => (FY_fu (x3 f hf)).2
  obtain ⟨u1, ⟨u2, u3⟩, u4, u5, u6, u7⟩ := TS_hand hG hfu (by decide) x4 hf e4 (fun f' hf' => (FY_fu (x3 f' hf')).1)
  have tag2 : ∀ t : Int, TRE t K G → ∀ a x : Int, t ≤ a → a ≤ t + 6 → K4 a x = K a x := fun t ht a x a1 a2 => by
    have ta : g_at G a (105, 10) ∨ g_at G a (0, 120) ∨ g_at G a (1, 120) := by
      by_cases hz : a = t
      · rw [hz]; exact Or.inl ht.2.1
      · exact Or.inr (TRE_tag ht ⟨by omega, a2⟩)
    refine u6 a x (Or.inl (fun z => ?_)) (Or.inl (fun z => ?_))
    · rw [z] at ta
      rcases ta with y | y | y <;> exact absurd (Prod.mk.inj (ga_eq y hG.1)).1 (by decide)
    · rw [z] at ta
      rcases ta with y | y | y <;> exact absurd (Prod.mk.inj (ga_eq y (hfu f hf))).1 (by decide)
  have t0 : ∀ x : Int, K4 (K 16 1) x = K (K 16 1) x := fun x => tag2 _ x4.1 _ x (Int.le_refl _) (by omega)
  have u3' := u3
  rw [u4] at u3'
  refine ⟨⟨by rw [u7.2.2 14 3 (by decide)]; exact x1, ckd_eq x2 (fun a k ha => u7.2.2 a k (by omega)), fun f hf => FY_D (x3 f hf) u7, u1, CT_3 x5 (D2_D3 u7), fun f' hf' => ?_⟩, u7, u1, u4 f, u3', by rw [t0]; exact d3⟩
  by_cases hz : f' = f
  · subst hz
    have w1 : fup way f' w f' = w := if_pos rfl
    have w2 : fup km f' (m : Int) f' = m := if_pos rfl
    have w3 : fup N f' N' f' = N' := if_pos rfl
    rw [w1, w2, w3]
    refine ⟨cx, cnt, ?_, ?_, ?_, ?_, ?_, ?_⟩
    · rw [u4, u6 _ 7 (Or.inr (by decide)) (Or.inr (by decide))]; exact d1
    · rw [u4]; exact pl_D d2 u7
    · rw [u3, t0]; exact d3
    · rw [u3, t0]; exact d4
    · rw [u3, t0]; exact d5
    · rw [u3]; exact TC_all d6 (fun a x a1 a2 => tag2 _ x4.1 a x (by omega) a2)
  · have w1 : fup way f w f' = way f' := if_neg hz
    have w2 : fup km f (m : Int) f' = km f' := if_neg hz
    have w3 : fup N f N' f' = N f' := if_neg hz
    rw [w1, w2, w3]
    exact TDf_keep (x6 f' hf') (hfu f' hf') u7 (u5 f' hf' hz) (tag2 _ (x4.2.1 f' hf').1)
theorem C8_D {K : e3_H} {G2 : e3_G} (hX : TX σ g m nf Vs way km N H G) (h : C8 nf H) (hD : D2 H G K G2) : C8 nf K := fun f hf => by
  rw [hD.2.2 15 f (by decide), hD.2.1 _ 7 _ _ (FY_fu (hX.2.2.1 f hf)).2 (okt_d (by decide) (by decide) (by decide) (Or.inr (by decide)))]
  exact h f hf
theorem MKR_D {K : e3_H} {G2 : e3_G} (hM : MKR H G) (hT : TS nf K G2) (hD : D2 H G K G2) : MKR K G2 := TS_MKR hM hT hD.1 (fun j => hD.2.2 1 j (by decide))
/-- what the class is behind a call that draws -/
def PDw (σ g : e3_H) (m nf : Nat) (Vs : Int → Int → Int → List (Int × Int)) (way km : Nat → Int) (N : Nat → List a_ND) (H : e3_H) (G : e3_G) (K : e3_H) (G2 : e3_G) : Prop := D2 H G K G2 ∧ TX σ g m nf Vs way km N K G2 ∧ MKR K G2 ∧ C8 nf K ∧ gz G2 ≤ gz G + 818
theorem PDw_rf (hX : TX σ g m nf Vs way km N H G) (hM : MKR H G) (h8 : C8 nf H) : PDw σ g m nf Vs way km N H G H G := ⟨D2_rf H G, hX, hM, h8, by omega⟩
end CRM
