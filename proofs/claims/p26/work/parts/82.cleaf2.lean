theorem up_up (H : e3_H) (a j v w : Int) : e3_up (e3_up H a j v) a j w = e3_up H a j w := by
  funext b k
  unfold e3_up
  split <;> rfl
/-- one pattern's row and the TOKENS may have changed -/
def c_ob1 (a : Int) (H K : e3_H) : Prop := (∀ b k : Int, b ≠ a → b ≠ 3 → K b k = H b k) ∧ ∀ k : Int, k < 6 → K 3 k = H 3 k
section CW
variable {t : Int → Int} {n s i m : Nat} {ru fu : Int} {σ : e3_H} {cx : Int → Int} {H0 H : e3_H} {G0 G : e3_G} {a : Int}
theorem ob1_wt {K : e3_H} {lo hi : Int} (h3 : 139 ≤ a) (h : c_wt a lo hi H K) : c_ob1 a H K := ⟨fun b k hb _ => h.2.2.2.2 b k hb, fun k _ => h.2.2.2.2 3 k (by omega)⟩
theorem ob1_C {K : e3_H} (h : x_C H K) : c_ob1 a H K := ⟨fun b k _ h3 => h.1 b k (by simp only [List.mem_cons, List.not_mem_nil, or_false]; exact h3), h.2⟩
theorem ob1_tr {K K2 : e3_H} (h : c_ob1 a H K) (h2 : c_ob1 a K K2) : c_ob1 a H K2 := ⟨fun b k h1 h3 => (h2.1 b k h1 h3).trans (h.1 b k h1 h3), fun k hk => (h2.2 k hk).trans (h.2 k hk)⟩
theorem c_E_ob {K : e3_H} (h : c_E ru fu H0 G0 H G) (hr : 139 ≤ ru ∧ ru < G0.length) (hrn : 139 ≤ H0 ru 5 ∧ H0 ru 5 < G0.length) (hf : 139 ≤ fu ∧ fu < G0.length) (ha : G0.length ≤ a) (h2 : c_ob1 a H K) : c_E ru fu H0 G0 K G := by
  obtain ⟨x1, a2, a3, a4, a5, a6, a7, a8, a9, a10, a11⟩ := h
  obtain ⟨b1, b2⟩ := h2
  refine ⟨x1, fun b k z1 z2 z3 z4 z5 z6 z7 z8 => ?_, fun k hk => ?_, fun k k4 k5 => ?_, fun k k4 k5 => ?_, fun k k7 k8 k9 => ?_, ?_, ?_, ?_, ?_, fun k k0 k1 => ?_⟩
  · rw [b1 b k (by omega) z2]; exact a2 b k z1 z2 z3 z4 z5 z6 z7 z8
  · rw [b2 k hk]; exact a3 k hk
  · rw [b1 _ _ (by omega) (by omega)]; exact a4 k k4 k5
  · rw [b1 _ _ (by omega) (by omega)]; exact a5 k k4 k5
  · rw [b1 _ _ (by omega) (by omega)]; exact a6 k k7 k8 k9
  · rw [b1 _ _ (by omega) (by omega)]; exact a7
  · rw [b1 _ _ (by omega) (by omega)]; exact a8
  · rw [b1 _ _ (by omega) (by omega)]; exact a9
  · rw [b1 _ _ (by omega) (by omega)]; exact a10
  · rw [b1 _ _ (by omega) (by omega)]; exact a11 k k0 k1
theorem cR_readRange {Q : Int → e3_H → e3_G → Prop} {p : Int} (h : c_M t n s i m ru fu σ cx H G) (hr : 139 ≤ ru ∧ ru < G0.length) (hrn : 139 ≤ H0 ru 5 ∧ H0 ru 5 < G0.length) (hf : 139 ≤ fu ∧ fu < G0.length) (hE : c_E ru fu H0 G0 H G) (ha : g_at G a (110, 10)) (h139 : 139 ≤ a) (hga : G0.length ≤ a)
    (hok : ∀ j x y, i < j → (∀ σ' : e3_H, a_rng t n p (x_sp t n i) i σ' = .inr (j, e3_up (e3_up σ' 48 p x) 49 p y, p)) → ∀ K, c_M t n s j m ru fu σ cx K G → c_ob1 a H K → K a 0 = 1 → K a 3 = x → K a 4 = y → (∀ k : Int, k ≠ 0 → k ≠ 3 → k ≠ 4 → K a k = H a k) → Q 1 K G)
    (hfl : ∀ q, (∀ σ' : e3_H, a_rng t n p (x_sp t n i) i σ' = .inl q) → ∀ K, c_bad ru fu q H0 G0 K G → Q 0 K G) : wR_readRange Q a H G := by
  have n8 := (c_now h.1).2.1
  have last : ∀ (j : Nat) (x y : Int) (K : e3_H), i < j → (∀ σ' : e3_H, a_rng t n p (x_sp t n i) i σ' = if y < x then .inl (x_sp t n i : Int) else .inr (j, e3_up (e3_up σ' 48 p x) 49 p y, p)) → c_M t n s j m ru fu σ cx K G → x_C H K → wR_readRange_59 Q a (x_sp t n i) x y K G := by
    intro j x y K hij he hK hC
    unfold wR_readRange_59 wR_readRange_84 wR_readRange_89
    refine ⟨ga_ob (c := 10) ha, cA_want ha (fun K2 hw => ⟨fun hz => ?_, fun hz => ⟨Or.inr rfl, ?_⟩⟩)⟩
    · have hE2 := c_E_ob hE hr hrn hf hga (ob1_tr (ob1_C hC) (ob1_wt h139 hw))
      refine cR_failAt (by decide) (fun K3 hf3 => brT rfl ⟨Or.inl rfl, hfl _ (fun σ' => by rw [he, if_pos hz]) K3 (c_bad_f (c_M_wt hK ha h139 hw) hrn.1 hE2 hf3)⟩)
    · refine hok j x y hij (fun σ' => by rw [he, if_neg hz]) K2 (c_M_wt hK ha h139 hw) (ob1_tr (ob1_C hC) (ob1_wt h139 hw)) hw.1 hw.2.1 hw.2.2.1 (fun k k0 k3 k4 => ?_)
      rw [hw.2.2.2.1 k k0 k3 k4]
      exact hC.1 a k (by simp only [List.mem_cons, List.not_mem_nil, or_false]; omega)
  unfold wR_readRange
  rw [n8, x_mn32]
  refine cR_readNumber h hrn.1 hE (fun j x he hij b1 b2 K hK hC => brF (by omega) ?_) (fun q he K hb => brT rfl (hfl q (fun σ' => by unfold a_rng; rw [he]) K hb))
  rw [(c_now hK.1).1]
  refine ⟨fun hd => cT_stp hK.1 ⟨by omega, by omega⟩ (fun K1 a1 c1 => ?_), fun hd => last j x x K hij (fun σ' => ?_) hK hC⟩
  · have hM1 := c_M_s hK a1 c1
    have hC1 := x_C_tr hC c1
    refine cR_readNumber hM1 hrn.1 (c_E_C hE hr.1 hrn.1 hf.1 hC1) (fun j2 y he2 hij2 b3 b4 K2 hK2 hC2 => brF (by omega) (last j2 x y K2 (by omega) (fun σ' => ?_) hK2 (x_C_tr hC1 hC2))) (fun q he2 K2 hb => brT rfl (hfl q (fun σ' => ?_) K2 hb))
    · unfold a_rng
      rw [he]
      simp only [if_pos hd]
      rw [he2]
      simp only [up_up]
    · unfold a_rng
      rw [he]
      simp only [if_pos hd]
      rw [he2]
  · unfold a_rng
    rw [he]
    simp only [if_neg hd]
    rw [if_neg (by omega)]
theorem cR_readConstant {Q : Int → e3_H → e3_G → Prop} (h : c_M t n s i m ru fu σ cx H G) (ha : g_at G a (110, 10)) (h139 : 139 ≤ a) (hnf : x_nf t n i)
    (hQ : ∀ K, c_M t n s (i + 1) m ru fu σ cx K G → c_ob1 a H K → (K a 0 = if x_ty t n i = 261 ∨ x_ty t n i = 278 ∨ x_ty t n i = 279 ∨ x_ty t n i = 280 then 1 else H a 0) → (K a 3 = if x_ty t n i = 261 then x_wo t n i else if x_ty t n i = 278 then 1 else if x_ty t n i = 279 then 0 else if x_ty t n i = 280 then -1 else H a 3) → (K a 4 = if x_ty t n i = 261 then x_wo t n i else if x_ty t n i = 278 then 1 else if x_ty t n i = 279 then 0 else if x_ty t n i = 280 then -1 else H a 4) → (∀ k : Int, k ≠ 0 → k ≠ 3 → k ≠ 4 → K a k = H a k) → Q 1 K G) : wR_readConstant Q a H G := by
  obtain ⟨n7, n8, n9⟩ := c_now h.1
  have ob := ga_ob (c := 10) ha
  have ca : ∀ (K K2 : e3_H) (k : Int), x_C K K2 → K2 a k = K a k := fun K K2 k hC => hC.1 a k (by simp only [List.mem_cons, List.not_mem_nil, or_false]; omega)
  have go : ∀ (lo hi : Int) (K : e3_H), c_wt a lo hi H K → (x_ty t n i = 261 ∨ x_ty t n i = 278 ∨ x_ty t n i = 279 ∨ x_ty t n i = 280) → (lo = if x_ty t n i = 261 then x_wo t n i else if x_ty t n i = 278 then 1 else if x_ty t n i = 279 then 0 else if x_ty t n i = 280 then -1 else H a 3) → (hi = if x_ty t n i = 261 then x_wo t n i else if x_ty t n i = 278 then 1 else if x_ty t n i = 279 then 0 else if x_ty t n i = 280 then -1 else H a 4) → wR_readConstant_100 Q K G := by
    intro lo hi K hw hty e3 e4
    have hM := c_M_wt h ha h139 hw
    unfold wR_readConstant_100
    refine cT_stp hM.1 hnf (fun K2 a2 b2 => hQ K2 (c_M_s hM a2 b2) (ob1_tr (ob1_wt h139 hw) (ob1_C b2)) ?_ ?_ ?_ (fun k k0 k3 k4 => ?_))
    · rw [ca _ _ _ b2, if_pos hty]; exact hw.1
    · rw [ca _ _ _ b2, ← e3]; exact hw.2.1
    · rw [ca _ _ _ b2, ← e4]; exact hw.2.2.1
    · rw [ca _ _ _ b2]; exact hw.2.2.2.1 k k0 k3 k4
  unfold wR_readConstant
  rw [n7, n9, x_mo64]
  refine ⟨fun he => ⟨ob, cA_want ha (fun K hw => go _ _ K hw (by omega) (by rw [if_pos he]) (by rw [if_pos he]))⟩, fun he => ⟨ob, cA_want ha (fun K hw => go _ _ K hw (by omega) (by rw [if_neg (by omega), if_pos he]) (by rw [if_neg (by omega), if_pos he]))⟩, fun he => ⟨ob, cA_want ha (fun K hw => go _ _ K hw (by omega) (by rw [if_neg (by omega), if_neg (by omega), if_pos he]) (by rw [if_neg (by omega), if_neg (by omega), if_pos he]))⟩, fun he => ⟨ob, cA_want ha (fun K hw => go _ _ K hw (by omega) (by rw [if_neg (by omega), if_neg (by omega), if_neg (by omega), if_pos he]) (by rw [if_neg (by omega), if_neg (by omega), if_neg (by omega), if_pos he]))⟩, fun he => ?_⟩
  unfold wR_readConstant_100
  refine cT_stp h.1 hnf (fun K2 a2 b2 => hQ K2 (c_M_s h a2 b2) (ob1_C b2) ?_ ?_ ?_ (fun k k0 k3 k4 => ?_))
  · rw [if_neg (by omega)]; exact ca _ _ _ b2
  · rw [if_neg (by omega), if_neg (by omega), if_neg (by omega), if_neg (by omega)]; exact ca _ _ _ b2
  · rw [if_neg (by omega), if_neg (by omega), if_neg (by omega), if_neg (by omega)]; exact ca _ _ _ b2
  · exact ca _ _ _ b2
theorem binds_rn {s0 v k : Int} {σ2 : e3_H} (h8 : 0 ≤ σ 56 (σ 40 27) ∧ σ 56 (σ 40 27) ≤ 8) (hb : a_binds σ s0 v = some (k, σ2)) : σ2 40 27 = σ 40 27 ∧ σ 56 (σ 40 27) ≤ σ2 56 (σ 40 27) ∧ (∀ j : Int, j < σ 56 (σ 40 27) → a_rn σ2 j = a_rn σ j) ∧ (0 ≤ k ∧ k < σ2 56 (σ 40 27)) ∧ a_rn σ2 k = v ∧ (∀ x : Int, x ≠ 40 → x ≠ 56 → x ≠ 57 → x ≠ 58 → σ2 x = σ x) ∧ ∀ j : Int, j ≠ 31 → σ2 40 j = σ 40 j := by
  have hr := a_no_rg (σ := σ) (v := v) h8
  unfold a_binds at hb
  by_cases hz : a_no σ v < 0
  · rw [if_pos hz] at hb
    by_cases h88 : σ 56 (σ 40 27) = 8
    · rw [if_pos h88] at hb; cases hb
    · rw [if_neg h88] at hb
      have hb1 := Option.some.inj hb
      have ek : σ 56 (σ 40 27) = k := (Prod.mk.inj hb1).1
      have e2 : a_bind1 (a_bind0 σ v) s0 (a_nm σ) = σ2 := (Prod.mk.inj hb1).2
      have q27 : σ2 40 27 = σ 40 27 := by rw [← e2]; unfold a_bind1 a_bind0; simp (disch := omega) only [e3_up_self, e3_up_ne]
      have q56 : σ2 56 (σ 40 27) = σ 56 (σ 40 27) + 1 := by rw [← e2]; unfold a_bind1 a_bind0; simp (disch := omega) only [e3_up_self, e3_up_ne]
      have q57 : ∀ x, σ2 57 x = if x = 8 * σ 40 27 + σ 56 (σ 40 27) then v else σ 57 x := by
        intro x
        rw [← e2]; unfold a_bind1 a_bind0
        rw [e3_up_ne (by omega), e3_up_ne (by omega)]
        by_cases hx : x = 8 * σ 40 27 + σ 56 (σ 40 27)
        · rw [if_pos hx, hx, e3_up_self]
        · rw [if_neg hx, e3_up_ne (by omega), e3_up_ne (by omega)]
      refine ⟨q27, by omega, fun j hj => ?_, by omega, ?_, fun x x1 x2 x3 x4 => ?_, fun j hj => ?_⟩
      · unfold a_rn; rw [q27, q57, if_neg (by omega)]
      · unfold a_rn; rw [q27, q57, if_pos (by omega)]
      · funext y; rw [← e2]; unfold a_bind1 a_bind0; simp (disch := omega) only [e3_up_self, e3_up_ne]
      · rw [← e2]; unfold a_bind1 a_bind0; simp (disch := omega) only [e3_up_self, e3_up_ne]
  · rw [if_neg hz] at hb
    by_cases hbt : b_bit (σ 40 31) (a_no σ v).toNat = true
    · rw [if_pos hbt] at hb; cases hb
    · rw [if_neg hbt] at hb
      have hb1 := Option.some.inj hb
      have ek : a_no σ v = k := (Prod.mk.inj hb1).1
      have e2 : a_bind1 σ s0 (a_no σ v).toNat = σ2 := (Prod.mk.inj hb1).2
      have q27 : σ2 40 27 = σ 40 27 := by rw [← e2]; unfold a_bind1; simp (disch := omega) only [e3_up_self, e3_up_ne]
      have q56 : σ2 56 = σ 56 := by funext x; rw [← e2]; unfold a_bind1; simp (disch := omega) only [e3_up_self, e3_up_ne]
      have q57 : σ2 57 = σ 57 := by funext x; rw [← e2]; unfold a_bind1; simp (disch := omega) only [e3_up_self, e3_up_ne]
      have rn2 : a_rn σ2 = a_rn σ := by unfold a_rn; rw [q27, q57]
      refine ⟨q27, by rw [q56]; omega, fun j _ => by rw [rn2], by rw [q56]; omega, by rw [rn2, ← ek]; omega, fun x x1 x2 x3 x4 => ?_, fun j hj => ?_⟩
      · funext y; rw [← e2]; unfold a_bind1; simp (disch := omega) only [e3_up_self, e3_up_ne]
      · rw [← e2]; unfold a_bind1; simp (disch := omega) only [e3_up_self, e3_up_ne]
theorem cR_readName {Q : Int → e3_H → e3_G → Prop} {s0 : Int} (h : c_M t n s i m ru fu σ cx H G) (hp : p_inv σ m i) (hn : nm_inv (σ 40 27) m σ) (hs : 0 ≤ s0 ∧ s0 < 3 + m) (hr : 139 ≤ ru ∧ ru < G0.length) (hrn : 139 ≤ H0 ru 5 ∧ H0 ru 5 < G0.length) (hf : 139 ≤ fu ∧ fu < G0.length) (hE : c_E ru fu H0 G0 H G)
    (hok : x_ty t n i = 258 → ∀ k σ2, a_binds σ s0 (x_wo t n i) = some (k, σ2) → ∀ K, c_M t n s (i + 1) m ru fu σ2 cx K G → c_E ru fu H0 G0 K G → (∀ b j : Int, b ≠ 3 → b ≠ ru → b ≠ H ru 5 → K b j = H b j) → Q 1 K G)
    (hfl : x_ty t n i ≠ 258 ∨ a_binds σ s0 (x_wo t n i) = none → ∀ K, c_bad ru fu (x_sp t n i) H0 G0 K G → Q 0 K G) : wR_readName Q s0 H G := by
  obtain ⟨n7, n8, n9⟩ := c_now h.1
  have hd := c_M_ad h
  have h3 := h.2.2.1
  have e5 : H ru 5 = H0 ru 5 := hE.2.2.2.2.1 5 (by decide) (by decide)
  unfold wR_readName
  rw [n7]
  refine ⟨fun he => ?_, fun he => cR_failHere h.1 (by decide) (fun K hK => ⟨Or.inl rfl, hfl (Or.inl he) K (c_bad_f h hrn.1 hE hK)⟩)⟩
  rw [h3.1, n9]
  refine ⟨ga_ob (c := 9) h3.2.2.1, cU_nameFault (m := m) (s := s0) h3 hp.1.2.1 hn hp.2.2.2.1 (fun hs2 => brT rfl ?_) (fun hno c hc => brF hc (cR_failHere h.1 hc (fun K hK => ⟨Or.inl rfl, hfl (Or.inr hno) K (c_bad_f h hrn.1 hE hK)⟩)))⟩
  have hb : ∃ k σ2, a_binds σ s0 (x_wo t n i) = some (k, σ2) := by
    cases hz : a_binds σ s0 (x_wo t n i) with
    | none => rw [hz] at hs2; cases hs2
    | some y => exact ⟨y.1, y.2, rfl⟩
  obtain ⟨k, σ2, hb⟩ := hb
  rw [h3.1, n9]
  refine ⟨ga_ob (c := 9) h3.2.2.1, cU_hold h3 hp.1.2.1 hn hp hs hb (fun K hK f1 f2 => ?_)⟩
  obtain ⟨q27, q56, qrn, _, _, qx, q40⟩ := binds_rn hp.2.2.2.1 hb
  have e5' : K ru 5 = H ru 5 := f2 5 (by decide) (by decide)
  have e4 : H ru 4 = σ 56 (σ 40 27) := h3.2.2.2.2.2.1
  have e4' : K ru 4 = σ2 56 (σ 40 27) := by rw [← q27]; exact hK.2.2.2.2.2.1
  have nmx : ∀ k : Int, 0 ≤ k → k < H ru 4 → K (H ru 5) k = H (H ru 5) k := by
    intro k k0 k1
    have a1 := hK.2.2.2.2.2.2.1 k.toNat (by rw [q27]; omega)
    have a2 := h3.2.2.2.2.2.2.1 k.toNat (by omega)
    rw [Int.toNat_of_nonneg k0] at a1 a2
    rw [e5'] at a1
    rw [a1, a2, qrn k (by omega)]
  have hM : c_M t n s i m ru fu σ2 cx K G := by
    have x4 := c_pl_eq (E := []) (K := K) h.2.2.2.1 (fun b j hb2 => f1 b j (by omega) (by omega))
    rw [List.append_nil] at x4
    refine ⟨c_tk_eq h.1 (fun b j hb2 => f1 b j (by omega) (by omega)), ?_, hK, x4, by rw [f1 14 6 (by omega) (by omega)]; exact h.2.2.2.2⟩
    have := ckd_eq (K2 := K) h.2.1 (fun b j hb2 => f1 b j (by omega) (by omega))
    unfold c_kd at this ⊢
    rw [qx 42 (by omega) (by omega) (by omega) (by omega), qx 43 (by omega) (by omega) (by omega) (by omega), qx 44 (by omega) (by omega) (by omega) (by omega), qx 45 (by omega) (by omega) (by omega) (by omega)]
    exact this
  have hE2 : c_E ru fu H0 G0 K G := by
    obtain ⟨x1, a2, a3, a4, a5, a6, a7, a8, a9, a10, a11⟩ := hE
    refine ⟨x1, fun b j z1 z2 z3 z4 z5 z6 z7 z8 => ?_, fun j hj => ?_, fun j k4 k5 => ?_, fun j k4 k5 => ?_, fun j k7 k8 k9 => ?_, ?_, ?_, ?_, ?_, fun j k0 k1 => ?_⟩
    · rw [f1 b j (by omega) (by omega)]; exact a2 b j z1 z2 z3 z4 z5 z6 z7 z8
    · rw [f1 _ _ (by omega) (by omega)]; exact a3 j hj
    · rw [f1 _ _ (by omega) (by omega)]; exact a4 j k4 k5
    · rw [f2 j k4 k5]; exact a5 j k4 k5
    · rw [f1 _ _ (by omega) (by omega)]; exact a6 j k7 k8 k9
    · rw [f1 _ _ (by omega) (by omega)]; exact a7
    · rw [f1 _ _ (by omega) (by omega)]; exact a8
    · rw [f1 _ _ (by omega) (by omega)]; exact a9
    · omega
    · rw [← e5, nmx j k0 (by omega), e5]; exact a11 j k0 k1
  refine cT_stp hM.1 ⟨by omega, by omega⟩ (fun K2 a2 b2 => hok he k σ2 hb K2 (c_M_s hM a2 b2) (c_E_C hE2 hr.1 hrn.1 hf.1 b2) (fun b j y1 y2 y3 => ?_))
  rw [b2.1 b j (by simp only [List.mem_cons, List.not_mem_nil, or_false]; exact y1), f1 b j y2 y3]
end CW
