def c_bad (ru fu q : Int) (H0 : e3_H) (G0 : e3_G) (K : e3_H) (G2 : e3_G) : Prop := K 14 4 ≠ 0 ∧ K 14 5 = q ∧ c_E ru fu H0 G0 K G2
theorem x_mn32 : ((-2147483648 : Int32).toInt) = -2147483648 := by decide
theorem x_mo64 : ((-1 : Int64).toInt) = -1 := by decide
section CL
variable {t : Int → Int} {n s i m : Nat} {ru fu : Int} {σ : e3_H} {cx : Int → Int} {H0 H : e3_H} {G0 G : e3_G}
theorem c_bad_f {K : e3_H} {q : Int} (hM : c_M t n s i m ru fu σ cx H G) (h0 : 139 ≤ H0 ru 5) (hE : c_E ru fu H0 G0 H G) (hf : c_flt q H K) : c_bad ru fu q H0 G0 K G := by
  have hd := c_M_ad hM
  exact ⟨hf.1, hf.2.1, c_E_f hE (by omega) h0 (by omega) hf⟩
theorem cK_canStand {Q : Int → e3_H → e3_G → Prop} {k : Nat} {s0 : Int} (h : c_kd σ m H) (hk : k_inv σ m) (hkm : k < m) (hs : 0 ≤ s0 ∧ s0 < 3 + m) (h1 : 3 ≤ s0 → (a_of (σ 43) (s0 - 3) 24 k || a_of (σ 43) k 24 (s0 - 3)) = true → Q 1 H G) (h0 : s0 < 3 ∨ (a_of (σ 43) (s0 - 3) 24 k || a_of (σ 43) k 24 (s0 - 3)) = false → Q 0 H G) : wK_canStand Q k s0 H G := by
  unfold wK_canStand wK_canStand_31 wK_canStand_27 wK_canStand_32
  refine ⟨fun hz => ⟨Or.inl rfl, h0 (Or.inl hz)⟩, fun hz => ?_⟩
  have hm24 := hk.2.1
  rw [e3_w32_id (x := s0 - 3) (by omega) (by omega)]
  refine cK_isOrUnder (m := m) (g := σ 43) h.1 hk.2.1 hk.2.2.2.1 (fun j hj => (h.2 j hj).2.1) hkm (fun ha => brF (by decide) ⟨Or.inr rfl, h1 (by omega) (by rw [ha]; rfl)⟩) (fun ha => brT rfl ?_)
  have es : ((s0 - 3).toNat : Int) = s0 - 3 := Int.toNat_of_nonneg (by omega)
  rw [← es]
  refine cK_isOrUnder (m := m) (g := σ 43) h.1 hk.2.1 hk.2.2.2.1 (fun j hj => (h.2 j hj).2.1) (by omega) (fun hb => brF (by decide) ⟨Or.inr rfl, h1 (by omega) ?_⟩) (fun hb => brT rfl ⟨Or.inl rfl, h0 (Or.inr ?_)⟩)
  · rw [es] at hb; rw [ha, hb]; rfl
  · rw [es] at hb; rw [ha, hb]; rfl
theorem cR_firstFault {Q : Int → e3_H → e3_G → Prop} {s0 : Int} (h : c_M t n s i m ru fu σ cx H G) (hp : p_inv σ m i) (hn : nm_inv (σ 40 27) m σ) (hs : 0 ≤ s0 ∧ s0 < 3 + m) (hok : a_okp t n s0 i σ = true → Q 0 H G) (hfl : a_okp t n s0 i σ = false → ∀ c, c ≠ 0 → Q c H G) : wR_firstFault Q s0 H G := by
  obtain ⟨h1, h2, h3, h4, h5⟩ := id h
  obtain ⟨n7, n8, n9⟩ := c_now h1
  have hm24 := hp.1.2.1
  unfold wR_firstFault
  rw [n7]
  unfold a_okp at hok hfl
  refine ⟨fun he => ?_, fun he => ?_, fun he => ?_, fun he => ?_, fun he => ?_, fun he => ?_, fun he => ?_, fun he => ?_, fun he => ?_, fun he => ?_, fun he => ?_⟩
  · rw [if_pos (by omega)] at hok; exact hok rfl
  · rw [if_neg (by omega), if_neg (by omega), if_pos (by omega)] at hok hfl
    unfold wR_firstFault_122
    exact ⟨fun hz => hok (decide_eq_true hz), fun hz => hfl (decide_eq_false hz) 5 (by decide)⟩
  · rw [if_pos (by omega)] at hok; exact hok rfl
  · rw [if_neg (by omega), if_pos he] at hok hfl
    rw [n9, h3.1]
    refine ⟨ga_ob (c := 9) h3.2.2.1, cU_nameFault (m := m) (s := s0) h3 hm24 hn hp.2.2.2.1 hok (fun hz => hfl (by rw [hz]; rfl))⟩
  · rw [if_neg (by omega), if_neg (by omega), if_neg (by omega), if_neg (by omega), if_neg (by omega), if_neg (by omega), if_pos he, k_nk hp.1] at hok hfl
    rw [n9]
    refine cK_fnd h2 hp.1 ?_
    have hr := a_fd_rg (σ 42) (x_wo t n i) m
    generalize a_fd (σ 42) (x_wo t n i) m = kd at *
    unfold wR_firstFault_196
    by_cases hz : kd < 0
    · rw [if_pos hz]
      refine brT (by omega) (hfl ?_ 4 (by decide))
      rw [decide_eq_false (show ¬ 0 ≤ kd by omega)]
      rfl
    · rw [if_neg hz]
      refine brF hz ?_
      have ek : (kd.toNat : Int) = kd := Int.toNat_of_nonneg (by omega)
      have d1 : decide (0 ≤ kd) = true := decide_eq_true (by omega)
      rw [d1, Bool.true_and] at hok hfl
      rw [← ek]
      refine cK_canStand h2 hp.1 (by omega) hs (fun h3' hb => brF (by decide) (hok ?_)) (fun hb => brT rfl (hfl ?_ 5 (by decide)))
      · rw [ek] at hb
        rw [decide_eq_true h3', hb]
        rfl
      · rw [ek] at hb
        rcases hb with hb | hb
        · rw [decide_eq_false (show ¬ 3 ≤ s0 by omega)]
          rfl
        · rw [hb, Bool.and_false]
  · rw [if_neg (by omega), if_neg (by omega), if_pos (by omega)] at hok hfl
    unfold wR_firstFault_122
    exact ⟨fun hz => hok (decide_eq_true hz), fun hz => hfl (decide_eq_false hz) 5 (by decide)⟩
  · rw [if_neg (by omega), if_neg (by omega), if_neg (by omega), if_neg (by omega), if_pos he] at hok hfl
    unfold wR_firstFault_144
    exact ⟨fun hz => hok (decide_eq_true hz), fun hz => hfl (decide_eq_false hz) 5 (by decide)⟩
  · rw [if_neg (by omega), if_neg (by omega), if_neg (by omega), if_pos (by omega)] at hok hfl
    unfold wR_firstFault_133
    exact ⟨fun hz => hok (decide_eq_true hz), fun hz => hfl (decide_eq_false hz) 5 (by decide)⟩
  · rw [if_neg (by omega), if_neg (by omega), if_neg (by omega), if_pos (by omega)] at hok hfl
    unfold wR_firstFault_133
    exact ⟨fun hz => hok (decide_eq_true hz), fun hz => hfl (decide_eq_false hz) 5 (by decide)⟩
  · rw [if_neg (by omega), if_neg (by omega), if_neg (by omega), if_neg (by omega), if_neg (by omega), if_pos he] at hok hfl
    unfold wR_firstFault_155
    exact ⟨fun hz => hfl (decide_eq_false (by omega)) 5 (by decide), fun hz => hok (decide_eq_true (by omega))⟩
  · rw [if_neg (by omega), if_neg (by omega), if_neg (by omega), if_neg (by omega), if_neg (by omega), if_neg (by omega), if_neg (by omega)] at hfl
    exact hfl rfl 2 (by decide)
theorem cT_typeBehind {Q : Int → e3_H → e3_G → Prop} {l : Int} (h : c_tk t n s i H) (hl : 0 ≤ l ∧ l ≤ 10) (hQ : ∀ x, Q x H G) : wT_typeBehind Q l H G := by
  obtain ⟨h1, h2, h3, h4, h5, h6, h7, h8, h9, h10⟩ := h
  unfold wT_typeBehind wJ_min_II wJ_min_II_10
  rw [h1, h6, e3_w32_id (x := (i : Int) + l) (by omega) (by omega), e3_w32_id (x := (s : Int) - 1) (by omega) (by omega)]
  exact ⟨fun hz => ⟨by omega, hQ _⟩, fun hz => ⟨by omega, hQ _⟩⟩
theorem cT_worthBehind {Q : Int → e3_H → e3_G → Prop} {l : Int} (h : c_tk t n s i H) (hl : 0 ≤ l ∧ l ≤ 10) (hQ : ∀ x, Q x H G) : wT_worthBehind Q l H G := by
  obtain ⟨h1, h2, h3, h4, h5, h6, h7, h8, h9, h10⟩ := h
  unfold wT_worthBehind wJ_min_II wJ_min_II_10
  rw [h1, h6, e3_w32_id (x := (i : Int) + l) (by omega) (by omega), e3_w32_id (x := (s : Int) - 1) (by omega) (by omega)]
  exact ⟨fun hz => ⟨by omega, hQ _⟩, fun hz => ⟨by omega, hQ _⟩⟩
theorem cR_isTurnedRange {Q : Int → e3_H → e3_G → Prop} (h : c_tk t n s i H) (hQ : ∀ x, Q x H G) : wR_isTurnedRange Q H G := by
  have r76 : ∀ l1 l2 l3 s0 : Int, 0 ≤ l1 → l1 ≤ 1 → l3 = l1 + 2 → 0 ≤ s0 → s0 ≤ 1 → wR_isTurnedRange_76 Q l1 l2 l3 s0 H G := by
    intro l1 l2 l3 s0 a1 a2 a3 a4 a5
    unfold wR_isTurnedRange_76 wR_isTurnedRange_99 wR_isTurnedRange_152
    rw [e3_w32_id (x := l3 + s0) (by omega) (by omega)]
    refine ⟨fun _ => hQ _, fun _ => cT_typeBehind h (by omega) (fun x => ⟨fun _ => cT_worthBehind h (by omega) (fun y => cT_worthBehind h (by omega) (fun z => ⟨fun _ => ⟨Or.inr rfl, hQ _⟩, fun _ => ⟨Or.inl rfl, hQ _⟩⟩)), fun _ => hQ _⟩)⟩
  have r53 : ∀ l1 s0 : Int, 0 ≤ l1 → l1 ≤ 1 → wR_isTurnedRange_53 Q l1 s0 H G := by
    intro l1 s0 a1 a2
    unfold wR_isTurnedRange_53
    rw [e3_w32_id (x := l1 + 2) (by omega) (by omega)]
    exact cT_typeBehind h (by omega) (fun x => ⟨fun _ => r76 _ _ _ _ a1 a2 rfl (by omega) (by omega), fun _ => r76 _ _ _ _ a1 a2 rfl (by omega) (by omega)⟩)
  have r17 : ∀ s0 : Int, 0 ≤ s0 → s0 ≤ 1 → wR_isTurnedRange_17 Q s0 H G := by
    intro s0 a1 a2
    unfold wR_isTurnedRange_17 wR_isTurnedRange_52
    rw [e3_w32_id (x := s0 + 1) (by omega) (by omega)]
    exact cT_typeBehind h (by omega) (fun x => ⟨fun _ => cT_typeBehind h (by omega) (fun y => ⟨fun _ => r53 _ _ a1 a2, fun _ => r53 _ _ a1 a2⟩), fun _ => r53 _ _ a1 a2⟩)
  unfold wR_isTurnedRange
  exact ⟨fun _ => r17 1 (by omega) (by omega), fun _ => r17 0 (by omega) (by omega)⟩
theorem cR_readNumber {Q : Int → e3_H → e3_G → Prop} (h : c_M t n s i m ru fu σ cx H G) (h0 : 139 ≤ H0 ru 5) (hE : c_E ru fu H0 G0 H G) (hok : ∀ j x, a_num t n i = .inr (j, x) → i < j → -1000000000 < x → x < 1000000000 → ∀ K, c_M t n s j m ru fu σ cx K G → x_C H K → Q x K G) (hfl : ∀ q, a_num t n i = .inl q → ∀ K, c_bad ru fu q H0 G0 K G → Q (-2147483648) K G) : wR_readNumber Q H G := by
  have hd := c_M_ad h
  have n7 := (c_now h.1).1
  have main : ∀ (x : Int) (j : Nat) (K : e3_H), (x = 0 ∧ j = i ∧ x_ty t n i ≠ 45) ∨ (x = 1 ∧ j = i + 1 ∧ x_ty t n i = 45) → c_M t n s j m ru fu σ cx K G → x_C H K → wR_readNumber_29 Q x K G := by
    intro x j K hx hK hC
    obtain ⟨k7, k8, k9⟩ := c_now hK.1
    unfold wR_readNumber_29 wR_readNumber_77
    rw [k7, k9, x_mn32]
    refine ⟨fun hz => ?_, fun hz => ?_⟩
    · have hb := x_wo_num hz
      rw [e3_w32_id (x := x_wo t n j) (by omega) (by omega), e3_w32_id (x := -x_wo t n j) (by omega) (by omega)]
      refine cT_stp hK.1 ⟨by omega, by omega⟩ (fun K2 a b => ⟨fun h0' => ?_, fun h0' => ?_⟩)
      · refine hok _ _ ?_ (by omega) (by omega) (by omega) K2 (c_M_s hK a b) (x_C_tr hC b)
        unfold a_num
        rcases hx with ⟨e1, e2, e3⟩ | ⟨e1, e2, e3⟩
        · subst e2; rw [if_neg e3, if_pos hz]
        · omega
      · rcases hx with ⟨e1, e2, e3⟩ | ⟨e1, e2, e3⟩
        · omega
        · subst e2
          refine hok _ _ ?_ (by omega) (by omega) (by omega) K2 (c_M_s hK a b) (x_C_tr hC b)
          unfold a_num
          rw [if_pos e3, if_pos hz]
    · refine cR_failHere hK.1 (by decide) (fun K2 hf => hfl _ ?_ K2 (c_bad_f hK h0 (c_E_C hE (by omega) h0 (by omega) hC) hf))
      unfold a_num
      rcases hx with ⟨e1, e2, e3⟩ | ⟨e1, e2, e3⟩
      · subst e2; rw [if_neg e3, if_neg hz]
      · subst e2; rw [if_pos e3, if_neg hz]
  unfold wR_readNumber wR_readNumber_17
  rw [n7]
  refine ⟨fun he => brF (by decide) (cT_stp h.1 ⟨by omega, by omega⟩ (fun K a b => main 1 (i + 1) K (by omega) (c_M_s h a b) b)), fun he => brT rfl (main 0 i H (by omega) h (x_C_rf H))⟩
/-- a pattern asks for labels from one to another -/
def c_wt (a lo hi : Int) (H K : e3_H) : Prop := K a 0 = 1 ∧ K a 3 = lo ∧ K a 4 = hi ∧ (∀ k : Int, k ≠ 0 → k ≠ 3 → k ≠ 4 → K a k = H a k) ∧ ∀ b k : Int, b ≠ a → K b k = H b k
theorem cA_want {Q : e3_H → e3_G → Prop} {a lo hi : Int} (ha : g_at G a (110, 10)) (hQ : ∀ K, c_wt a lo hi H K → Q K G) : wA_want Q a lo hi H G := by
  have ob := ga_ob (c := 10) ha
  unfold wA_want
  refine ⟨ob, ?_⟩
  intro H1 e1
  refine ⟨ob, ?_⟩
  intro H3 e3
  refine ⟨ob, ?_⟩
  intro H5 e5
  refine hQ H5 ⟨?_, ?_, ?_, fun k k0 k3 k4 => ?_, fun b k hb => ?_⟩
  · rw [e5, e3, e1]; simp (disch := omega) only [e3_up_self, e3_up_ne]
  · rw [e5, e3]; simp (disch := omega) only [e3_up_self, e3_up_ne]
  · rw [e5, e3_up_self]
  · rw [e5, e3, e1]; simp (disch := omega) only [e3_up_self, e3_up_ne]
  · rw [e5, e3, e1]; simp (disch := omega) only [e3_up_self, e3_up_ne]
theorem c_M_wt {a lo hi : Int} {K : e3_H} (h : c_M t n s i m ru fu σ cx H G) (ha : g_at G a (110, 10)) (h139 : 139 ≤ a) (hw : c_wt a lo hi H K) : c_M t n s i m ru fu σ cx K G := by
  have hp := c_M_pa h ha
  have hd := c_M_ad h
  have := c_M_eq (E := []) (K := K) h (fun b k hb => hw.2.2.2.2 b k (by omega))
  rw [List.append_nil] at this
  exact this
end CL
