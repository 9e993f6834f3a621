section CCO
variable {t : Int → Int} {n s m : Nat} {fu : Int}
/-- a column more -/
theorem cF_addColumn {Q : e3_H → e3_G → Prop} {f x : Int} {c : Nat} {σ g H : e3_H} {G : e3_G} (hf : 0 ≤ f ∧ f < 12) (h : c_fs m fu f σ g H G) (h68 : σ 68 f = (c : Int)) (h70 : σ 70 f = 0) (hc : c < 3) (h7 : H fu 7 = (c : Int)) (hQ : ∀ K G2 cx2, c_fs m fu f (a_cl1 σ f x) (g_3 g cx2) K G2 → K fu 7 = (c : Int) + 1 → c_B fu H G K G2 → pot K G2 fu ≤ pot H G fu + 16 → (∀ a k : Int, a = 3 ∨ a = 5 ∨ a = 6 ∨ a = 7 → K a k = H a k) → Q K G2) : wF_addColumn Q fu x H G := by
  obtain ⟨s1, s2, s3, ⟨c1, ⟨c2, c3⟩, c4, c5⟩, ⟨s5, s6, s7, s7b⟩, ⟨s8, s9, s10, s11⟩, s12, s13⟩ := h
  have obf := ga_ob (c := 8) s2.2.1
  have f139 := s2.1
  have ec : ((σ 68 f).toNat : Int) = c := by omega
  rw [ec] at c1
  have hful := ga_lt s2.2.1
  have n2 : H fu 2 ≠ H fu 8 ∧ H fu 2 ≠ H fu 9 := by
    obtain ⟨_, z2, L', z3, z4, z5, z6, _⟩ := s2
    refine ⟨fun z => ?_, fun z => ?_⟩
    · rw [z] at c3; have := (Prod.mk.inj (ga_eq c3 z3.2)).2; omega
    · rw [z] at c3; have := (Prod.mk.inj (ga_eq c3 z4.2)).2; omega
  unfold wF_addColumn wF_addColumn_40
  rw [c1]
  refine ⟨obf, brT (by omega) ⟨obf, obf, ga_oa c3 (by omega) (by omega), ?_⟩⟩
  intro H2 e2
  have u1 : H2 fu 1 = (c : Int) := by rw [e2, e3_up_ne (ne_1 (by omega))]; exact c1
  rw [u1, w_p1 (by omega)]
  refine ⟨obf, obf, ?_⟩
  intro H6 e6
  have k6a : ∀ a y : Int, a ≠ fu → a ≠ H fu 2 → H6 a y = H a y := fun a y y1 y2 => by rw [e6, e3_up_ne (ne_1 y1), e2, e3_up_ne (ne_1 y2)]
  have k6f : ∀ y : Int, y ≠ 1 → H6 fu y = H fu y := fun y hy => by rw [e6, e3_up_ne (fun z => hy z.2), e2, e3_up_ne (ne_1 (by omega))]
  have k61 : H6 fu 1 = ((c + 1 : Nat) : Int) := by rw [e6, e3_up_self]
  have k6c : ∀ y : Int, H6 (H fu 2) y = if y = c then x else H (H fu 2) y := by
    intro y
    rw [e6, e3_up_ne (ne_1 (by omega)), e2]
    by_cases hy : y = c
    · rw [if_pos hy, hy, e3_up_self]
    · rw [if_neg hy, e3_up_ne (fun z => hy z.2)]
  have pl6 : c_pl H6 G fu (g 3) := by
    have := c_pl_eq2 (E := []) (K := H6) s2 (fun a y ha => by
      rcases ha with ⟨z1, z2⟩ | z | z
      · rw [z1]; exact k6f y (by omega)
      · rw [z]; exact k6a _ _ (by omega) (fun w => n2.1 w.symm)
      · rw [z]; exact k6a _ _ (by omega) (fun w => n2.2 w.symm))
    rw [List.append_nil] at this
    exact this
  have v7 : H6 fu 7 = (c : Int) := by rw [k6f 7 (by decide)]; exact h7
  have v8 : H6 fu 8 = H fu 8 := k6f 8 (by decide)
  have v9 : H6 fu 9 = H fu 9 := k6f 9 (by decide)
  rw [k61, show e3_w32 (((c + 1 : Nat) : Int) - 1) = (c : Int) by rw [e3_w32_id (by omega) (by omega)]; omega]
  refine ⟨obf, obf, cF_placeIn pl6 (by omega) (by omega) (by omega) (fun xi K G2 cx2 p1 p2 p3 p4 p5 p6 p7 p8 p9 => ?_)⟩
  rw [v7] at p5 p6 p7
  have cd0 : cd (g 3) (-1) = 0 := by unfold cd; rw [if_pos (by decide)]
  rw [cd0] at p4
  have hxi : xi = c := by
    by_cases hz : xi < c
    · have h1 := p5 xi hz
      have h2 := (c5 xi.toNat (by omega)).2.2
      rw [Int.toNat_of_nonneg p2] at h2
      omega
    · omega
  have hK7 : K fu 7 = (c : Int) + 1 := by omega
  obtain ⟨⟨E, eG⟩, b2, b3, b4, b5⟩ := id p8
  rw [v8, v9] at b2
  rw [v8] at b4
  rw [v9] at b5
  have kf : ∀ y : Int, y ≠ 1 → y ≠ 7 → y ≠ 8 → y ≠ 9 → K fu y = H fu y := fun y y1 y7 y8 y9 => by rw [b3 y y7 y8 y9]; exact k6f y y1
  have ka : ∀ a y : Int, a < G.length → a ≠ fu → a ≠ H fu 2 → a ≠ H fu 8 → a ≠ H fu 9 → K a y = H a y := fun a y y1 y2 y3 y4 y5 => by rw [b2 a y y1 y2 y4 y5]; exact k6a a y y2 y3
  have h4l := ga_lt s7b
  have h2l := ga_lt c3
  have h8l : H fu 8 < G.length ∧ H fu 9 < G.length := by obtain ⟨_, _, L, y3, y4, _⟩ := s2; exact ⟨ga_lt y3.2, ga_lt y4.2⟩
  have m4 : H fu 4 ≠ fu ∧ H fu 4 ≠ H fu 2 ∧ H fu 4 ≠ H fu 8 ∧ H fu 4 ≠ H fu 9 := by
    obtain ⟨_, z2, L', z3, z4, _⟩ := s2
    exact ⟨ga_ne s7b z2 (by decide), ga_ne s7b c3 (by decide), ga_ne s7b z3.2 (by decide), ga_ne s7b z4.2 (by decide)⟩
  have t6 : g_at G (fu + 6) (105, 10) := s13.2.1.2
  have m6 : fu + 6 ≠ H fu 2 ∧ fu + 6 ≠ H fu 8 ∧ fu + 6 ≠ H fu 9 := by
    obtain ⟨_, z2, L', z3, z4, _⟩ := s2
    exact ⟨ga_ne t6 c3 (by decide), ga_ne t6 z3.2 (by decide), ga_ne t6 z4.2 (by decide)⟩
  have e68 : a_cl1 σ f x 68 f = (c : Int) + 1 := by unfold a_cl1; rw [e3_up_self, h68]
  have e68n : (a_cl1 σ f x 68 f).toNat = c + 1 := by rw [e68]; omega
  have erow : ∀ a y : Int, a ≠ 68 → a ≠ 69 → a_cl1 σ f x a y = σ a y := fun a y y1 y2 => by unfold a_cl1; rw [e3_up_ne (ne_1 y1), e3_up_ne (ne_1 y2)]
  refine hQ K G2 cx2 ⟨?_, by rw [g_3_3]; exact p1, ?_, ⟨?_, ?_, ?_, fun c' hc' => ?_⟩, ⟨?_, ?_, ?_⟩, ⟨?_, ?_, ?_, ?_⟩, fun k hk => ?_, ?_⟩ hK7 ?_ ?_ (fun a y ha => ka a y (by omega) (by omega) (by omega) (by omega) (by omega))
  · have := ckd_eq (K2 := K) s1 (fun a y ha => ka a y (by omega) (by omega) (by omega) (by omega) (by omega))
    unfold c_kd at this ⊢
    rw [funext (erow 42 · (by decide) (by decide)), funext (erow 43 · (by decide) (by decide)), funext (erow 44 · (by decide) (by decide)), funext (erow 45 · (by decide) (by decide))]
    exact this
  · rw [ka 14 6 (by omega) (by omega) (by omega) (by omega) (by omega)]; exact s3
  · rw [b3 1 (by decide) (by decide) (by decide), k61, e68n]
  · rw [kf 2 (by decide) (by decide) (by decide) (by decide)]; exact ⟨c2, by rw [eG]; exact ga_app c3⟩
  · rw [e68n]; omega
  · rw [e68n] at hc'
    rw [kf 2 (by decide) (by decide) (by decide) (by decide), b2 _ _ h2l (by omega) n2.1 n2.2, k6c, hK7, g_3_3]
    by_cases hz : c' = c
    · subst hz
      rw [if_pos rfl]
      refine ⟨?_, by omega, by rw [← hxi]; rw [p4]; omega⟩
      show x = a_cl1 σ f x 69 (3 * f + c')
      unfold a_cl1
      rw [e3_up_ne (ne_1 (by decide)), h68, e3_up_self]
    · rw [if_neg (by omega)]
      obtain ⟨x1, x2, x3⟩ := c5 c' (by omega)
      refine ⟨?_, by omega, by rw [p5 _ (by omega)]; exact x3⟩
      show H (H fu 2) c' = a_cl1 σ f x 69 (3 * f + c')
      unfold a_cl1
      rw [e3_up_ne (ne_1 (by decide)), h68, e3_up_ne (fun z => by omega)]
      exact x1
  · rw [kf 0 (by decide) (by decide) (by decide) (by decide), erow 67 _ (by decide) (by decide)]; exact s5
  · rw [kf 3 (by decide) (by decide) (by decide) (by decide), erow 70 _ (by decide) (by decide)]; exact s6
  · rw [kf 4 (by decide) (by decide) (by decide) (by decide)]; exact ⟨s7, by rw [eG]; exact ga_app s7b⟩
  · rw [kf 2 (by decide) (by decide) (by decide) (by decide)]; exact s8
  · rw [kf 4 (by decide) (by decide) (by decide) (by decide)]; exact s9
  · omega
  · omega
  · rw [erow 70 _ (by decide) (by decide), h70] at hk; omega
  · rw [eG]
    exact c_fk_eq s13 (kf 5 (by decide) (by decide) (by decide) (by decide)) (kf 6 (by decide) (by decide) (by decide) (by decide)) (kf 10 (by decide) (by decide) (by decide) (by decide)) (fun y => ka _ y (ga_lt t6) (by omega) m6.1 m6.2.1 m6.2.2)
  · exact ⟨⟨E, eG⟩, fun a y z1 _ _ => ka a y (by omega) (by omega) (by omega) (by omega) (by omega), fun y _ => ka 3 y (by omega) (by omega) (by omega) (by omega) (by omega), fun y _ _ _ => ka 14 y (by omega) (by omega) (by omega) (by omega) (by omega)⟩
  · have : pot H6 G fu = pot H G fu := by unfold pot; rw [v7, v8, h7]
    omega
theorem cR_cls {Q : Int → e3_H → e3_G → Prop} {f : Int} (hf : 0 ≤ f ∧ f < 12) : ∀ (g' ic c : Nat) (σ g H : e3_H) (G : e3_G), g' + c = 4 → c_tk t n s ic H → x_nf t n ic → c_fs m fu f σ g H G → σ 68 f = (c : Int) → σ 70 f = 0 → k_inv σ m → H fu 7 = (c : Int) →
    (∀ j σ2 K2 G2 g2, a_cls t n f g' (ic + 1) σ = .inr (j, σ2) → c_tk t n s j K2 → c_fs m fu f σ2 g2 K2 G2 → c_B fu H G K2 G2 → (∀ a k : Int, a ≠ 3 → g2 a k = g a k) → K2 fu 7 ≤ 3 → pot K2 G2 fu ≤ pot H G fu + 60 * ((j : Int) - ic) → Q 1 K2 G2) →
    (∀ q K2 G2, a_cls t n f g' (ic + 1) σ = .inl q → c_bB fu q H G K2 G2 → gz G2 ≤ pot H G fu + 128 + 60 * ((s : Int) - ic + 1) → Q 0 K2 G2) → wR_readColumns_41 Q (fun l1 H G => wR_readColumns_20 Q g' l1 H G) c H G := by
  intro g'
  induction g' with
  | zero => intro ic c σ g H G hg _ _ hfs h68 _ _; have := hfs.2.2.2.1.2.2.1; omega
  | succ g' ih =>
    intro ic c σ g H G hg htk hnf hfs h68 h70 hk h7 hok hfl
    obtain ⟨s1, s2, s3, s4, _⟩ := id hfs
    have f139 := s2.1
    have c4 := s4.2.2.1
    have his := c_lt htk hnf
    have hu : a_cls t n f (g' + 1) (ic + 1) σ = (match a_sort t n (ic + 1) σ (decide (σ 68 f = 3)) with
      | none => .inl (x_sp t n (ic + 1) : Int)
      | some s => if x_ty t n (ic + 1 + 1) = 44 then a_cls t n f g' (ic + 1 + 2) (a_cl1 σ f s)
        else if x_ty t n (ic + 1 + 1) = 41 then .inr (ic + 1 + 2, a_cl1 σ f s) else .inl (x_sp t n (ic + 1 + 1) : Int)) := rfl
    rw [hu] at hok hfl
    unfold wR_readColumns_41
    refine cT_stp htk hnf (fun K1 a1 b1 => ?_)
    have fs1 := c_fs_C hfs b1
    have B1 := c_B_C (c_B_rf fu H G) b1
    have at1 : ∀ a k : Int, a ≠ 3 → K1 a k = H a k := fun a k ha => b1.1 a k (by simp only [List.mem_cons, List.not_mem_nil, or_false]; exact ha)
    have e7 : K1 fu 7 = (c : Int) := by rw [at1 _ _ (by omega)]; exact h7
    have e8 : K1 fu 8 = H fu 8 := at1 _ _ (by omega)
    have ept : pot K1 G fu = pot H G fu := by unfold pot; rw [e7, e8, h7]
    have gzp : gz G ≤ pot H G fu + 128 := by
      obtain ⟨_, _, L, q3, q4, q5, q6, q7, _⟩ := s2
      unfold pot
      rw [ga_ln q3.2]
      omega
    have none3 : c = 3 → a_sort t n (ic + 1) σ (decide (σ 68 f = 3)) = none := by
      intro hz
      unfold a_sort
      rw [if_pos (decide_eq_true (by omega))]
    have same : c ≠ 3 → a_sort t n (ic + 1) σ (decide (σ 68 f = 3)) = a_sort t n (ic + 1) σ false := by
      intro hz
      rw [decide_eq_false (show ¬ σ 68 f = 3 by omega)]
    have nosort : a_sort t n (ic + 1) σ false = none → a_sort t n (ic + 1) σ (decide (σ 68 f = 3)) = none := by
      intro hz
      by_cases h3 : c = 3
      · exact none3 h3
      · rw [same h3]; exact hz
    refine cR_sortHere a1 fs1.1 hk (fun x hx => ?_) (fun hx K2 hf2 => brT (by decide) (hfl _ K2 G (by rw [nosort hx]) (c_B_f B1 hf2) (by omega)))
    have hr := a_sort_rg hk hx
    refine brF (by omega) ⟨fun h3 => cR_failHere a1 (by decide) (fun K2 hf2 => ⟨Or.inl rfl, hfl _ K2 G (by rw [none3 (by omega)]) (c_B_f B1 hf2) (by omega)⟩), fun h3 => ?_⟩
    have hc3 : c < 3 := by omega
    rw [same (by omega), hx] at hok hfl
    simp only at hok hfl
    have e14 : K1 14 6 = fu := fs1.2.2.1
    rw [e14]
    refine ⟨ga_ob (c := 8) fs1.2.1.2.1, cF_addColumn hf fs1 h68 h70 hc3 e7 (fun K2 G2 cx2 fs2 k7 B2 hpt htks => ?_)⟩
    have tk2 : c_tk t n s (ic + 1) K2 := c_tk_eq a1 htks
    refine cT_stp tk2 hr.2.2.1 (fun K3 a3 b3 => ?_)
    have fs3 := c_fs_C fs2 b3
    have at3 : ∀ a k : Int, a ≠ 3 → K3 a k = K2 a k := fun a k ha => b3.1 a k (by simp only [List.mem_cons, List.not_mem_nil, or_false]; exact ha)
    have q7 : K3 fu 7 = (c : Int) + 1 := by rw [at3 _ _ (by omega)]; exact k7
    have q8 : K3 fu 8 = K2 fu 8 := at3 _ _ (by omega)
    have pt3 : pot K3 G2 fu = pot K2 G2 fu := by unfold pot; rw [q7, q8, k7]
    have B3 := c_B_C (c_B_tr B1 B2) b3
    have his3 : ic + 1 + 1 < s := a3.2.2.2.2.2.2.1
    have gz3 : gz G2 ≤ pot K3 G2 fu + 128 := by
      obtain ⟨_, _, L, z3, z4, z5, z6, z7, _⟩ := fs3.2.1
      unfold pot
      rw [ga_ln z3.2]
      omega
    have e68 : a_cl1 σ f x 68 f = (c : Int) + 1 := by unfold a_cl1; rw [e3_up_self, h68]
    have e70 : a_cl1 σ f x 70 f = 0 := by unfold a_cl1; rw [e3_up_ne (ne_1 (by decide)), e3_up_ne (ne_1 (by decide))]; exact h70
    have kk : k_inv (a_cl1 σ f x) m := by unfold a_cl1; exact k_inv_up (k_inv_up hk (by omega)) (by omega)
    rw [w_p1 (by omega)]
    have last : x_ty t n (ic + 1 + 1) ≠ 44 → wR_readColumns_92 Q K3 G2 := by
      intro hn44
      rw [if_neg hn44] at hok hfl
      unfold wR_readColumns_92
      refine cR_expect a3 (by decide) (fun h41 K4 a4 b4 => ⟨Or.inr rfl, ?_⟩) (fun h41 K4 hf4 => ⟨Or.inl rfl, hfl _ K4 G2 (by rw [if_neg h41]) (c_B_f B3 hf4) (by omega)⟩)
      have at4 : ∀ a k : Int, a ≠ 3 → K4 a k = K3 a k := fun a k ha => b4.1 a k (by simp only [List.mem_cons, List.not_mem_nil, or_false]; exact ha)
      have w7 : K4 fu 7 = K3 fu 7 := at4 _ _ (by omega)
      have w8 : K4 fu 8 = K3 fu 8 := at4 _ _ (by omega)
      have pt4 : pot K4 G2 fu = pot K3 G2 fu := by unfold pot; rw [w7, w8]
      exact hok _ _ K4 G2 (g_3 g cx2) (by rw [if_pos h41]) a4 (c_fs_C fs3 b4) (c_B_C B3 b4) (fun a k ha => g_3_ne _ _ ha) (by omega) (by omega)
    show wR_readColumns_20 Q (g' + 1) ((c + 1 : Nat) : Int) K3 G2
    unfold wR_readColumns_20
    rw [(c_now a3).1]
    refine brF (by omega) (brF (by omega) ⟨fun h44 => ?_, last⟩)
    rw [if_pos h44] at hok hfl
    refine ih (ic + 2) (c + 1) (a_cl1 σ f x) (g_3 g cx2) K3 G2 (by omega) a3 ⟨by show x_ty t n (ic + 1 + 1) ≠ 256; omega, by show x_ty t n (ic + 1 + 1) ≠ 257; omega⟩ fs3 (by rw [e68]; omega) e70 kk (by rw [q7]; omega) (fun j σ2 K4 G4 g4 he tk4 fs4 B4 hg4 k74 hpt4 => hok j σ2 K4 G4 g4 he tk4 fs4 (c_B_tr B3 B4) (fun a k ha => by rw [hg4 a k ha]; exact g_3_ne _ _ ha) k74 (by omega)) (fun q K4 G4 he hb hz => hfl q K4 G4 he ⟨hb.1, hb.2.1, c_B_tr B3 hb.2.2⟩ (by omega))
end CCO
