theorem h_own_mono {r p p2 a k : Int} (hp : p ≤ p2) (h : h_own r p2 a k) : h_own r p a k := h.imp (fun z => ⟨z.1, z.2.1, Int.le_trans hp z.2.2⟩) id
section CFX
variable {t : Int → Int} {n s m : Nat}
theorem a_rules_fr {f : Int} (hf : 0 ≤ f ∧ f < 12) : ∀ (g i : Nat) (σ : e3_H) (j : Nat) (σ2 : e3_H), a_rules t n f g i σ = .inr (j, σ2) → p_w σ m → σ 40 16 ≤ (i : Int) → F_one σ m f → F_lt σ m f → σ 40 16 ≤ σ2 40 16 ∧ ∀ a k : Int, (∀ kk : Int, 0 ≤ kk → kk < 16 → ¬ h_own (16 * f + kk) (σ 40 16) a k) → ¬ (a = 70 ∧ k = f) → σ2 a k = σ a k := by
  intro g
  induction g with
  | zero => intro i σ j σ2 h; cases h
  | succ g ih =>
    intro i σ j σ2 h hp hs hF hL
    unfold a_rules at h
    split at h
    · cases h; exact ⟨Int.le_refl _, fun _ _ _ _ => rfl⟩
    · split at h
      · cases h
      · rename_i j1 σ1 h1
        obtain ⟨c1, c2, c3, c4, c5, c6⟩ := F_rule h1 hp hs hf hF hL
        obtain ⟨b1, b2, b3, b4, b5, b6, b7, b8⟩ := a_rule_ok h1 hp hs hf hF.1 hF.2.1 hF.2.2.1
        obtain ⟨d1, d2⟩ := ih j1 σ1 j σ2 h c3 c4 c1 c2
        have h70 := hF.2.2.1
        refine ⟨by omega, fun a k hk h70' => ?_⟩
        rw [d2 a k (fun kk k0 k1 hz => hk kk k0 k1 (h_own_mono b6 hz)) h70']
        exact b7 a k (hk _ h70.1 b2) h70'
theorem a_fun_fr {i j nf : Nat} {σ σ2 : e3_H} (h : a_fun t n i σ = .inr (j, σ2)) (hF : F_inv σ m nf) (hs : σ 40 16 ≤ (i : Int)) : σ 40 16 ≤ σ2 40 16 ∧ (∀ a : Int, 42 ≤ a → a ≤ 45 → σ2 a = σ a) ∧ ∀ f : Int, 0 ≤ f → f < nf → ∀ a k : Int, ((a = 67 ∨ a = 68 ∨ a = 70) ∧ k = f) ∨ (a = 69 ∧ 3 * f ≤ k ∧ k < 3 * f + 3) ∨ (46 ≤ a ∧ a ≤ 55 ∧ k < σ 40 16) ∨ (∃ k' : Nat, k' < 16 ∧ r_own (16 * f + k') a k) → σ2 a k = σ a k := by
  obtain ⟨h1, h2, h3, h4, h5⟩ := hF
  unfold a_fun at h
  split at h
  · cases h
  split at h
  · cases h
  rename_i hnf
  split at h
  · cases h
  rename_i h12
  split at h
  · cases h
  rw [h1] at h h12
  obtain ⟨n1, n2, n3, n4, n5, n6, n7, n8⟩ := F_new (v := x_wo t n i) h1 h5 h4
  unfold a_fun2 at h
  split at h
  · cases h
  rename_i j1 σ1 hc
  obtain ⟨c1, c2, c3, c4⟩ := a_cls_ok _ _ _ _ _ hc n5.1 n1
  split at h
  · have e70 : σ1 70 nf = 0 := by rw [c4 70 _ (by omega) (by omega)]; exact n3
    have pw1 : p_w σ1 m := by
      have e : ∀ a : Int, a ≠ 68 → a ≠ 69 → σ1 a = a_fnew σ nf (x_wo t n i) a := fun a y1 y2 => funext fun k => c4 a k (by omega) (by omega)
      obtain ⟨q1, q2, q3⟩ := n5
      refine ⟨k_inv_congr q1 (by rw [e 40 (by omega) (by omega)]) (e 42 (by omega) (by omega)) (e 43 (by omega) (by omega)) (e 44 (by omega) (by omega)) (e 45 (by omega) (by omega)), ?_⟩
      rw [e 40 (by omega) (by omega), e 55 (by omega) (by omega)]
      exact ⟨q2, q3⟩
    have e16 : σ1 40 16 = σ 40 16 := by rw [c4 40 16 (by omega) (by omega)]; exact n6
    obtain ⟨d1, d2⟩ := a_rules_fr (m := m) (f := nf) (by omega) _ _ _ _ _ h pw1 (by rw [e16]; omega) ⟨c2, c3, by rw [e70]; omega, fun k k0 hk => by rw [e70] at hk; omega⟩ (fun g g0 g1 => F_one_fr (n4 g g0 g1) (fun a k hk => c4 a k (by omega) (by omega)))
    rw [e16] at d1 d2
    have nw : ∀ a k : Int, a ≠ 40 → ¬ ((a = 67 ∨ a = 68 ∨ a = 70) ∧ k = nf) → a_fnew σ nf (x_wo t n i) a k = σ a k := fun a k y1 y2 => by unfold a_fnew; rw [e3_up_ne (fun z => y2 (by omega)), e3_up_ne (fun z => y2 (by omega)), e3_up_ne (fun z => y2 (by omega)), e3_up_ne (ne_1 y1)]
    refine ⟨d1, fun a a1 a2 => funext fun k => ?_, fun f f0 f1 a k hak => ?_⟩
    · rw [d2 a k (fun kk k0 k1 hz => by unfold h_own at hz; omega) (by omega), c4 a k (by omega) (by omega), nw a k (by omega) (by omega)]
    · rcases hak with z | z | z | ⟨k', k1, z⟩
      · rw [d2 a k (fun kk k0 k1 hz => by unfold h_own at hz; omega) (by omega), c4 a k (by omega) (by omega), nw a k (by omega) (by omega)]
      · rw [d2 a k (fun kk k0 k1 hz => by unfold h_own at hz; omega) (by omega), c4 a k (by omega) (by omega), nw a k (by omega) (by omega)]
      · rw [d2 a k (fun kk k0 k1 hz => by unfold h_own at hz; omega) (by omega), c4 a k (by omega) (by omega), nw a k (by omega) (by omega)]
      · unfold r_own at z
        rw [d2 a k (fun kk k0 k1 hz => by unfold h_own at hz; omega) (by omega), c4 a k (by omega) (by omega), nw a k (by omega) (by omega)]
  · cases h
theorem cR_expectEnd {Q : Int → e3_H → e3_G → Prop} {i : Nat} {H : e3_H} {G : e3_G} (h : c_tk t n s i H) (h1 : x_ty t n i = 256 → Q 1 H G) (h2 : x_ty t n i ≠ 256 → ∀ K, c_flt (x_sp t n i) H K → Q 0 K G) : wR_expect Q 256 H G := by
  unfold wR_expect
  rw [(c_now h).1]
  refine ⟨fun he => ?_, fun he => cR_failHere h (by decide) (fun K hK => ⟨Or.inl rfl, h2 he K hK⟩)⟩
  obtain ⟨t1, t2, t3, t4, t5, t6, t7, t8, t9, t10⟩ := h
  have hi : i + 1 = s := by
    by_cases hz : i + 1 < s
    · exact absurd he (t4 i hz).1
    · omega
  unfold wT_step wT_step_62
  rw [t1, t6, e3_w32_id (x := (i : Int) + 1) (by omega) (by omega)]
  exact brF (by omega) (h1 he)
/-- what reading FUNCTIONS may change -/
def c_Y (H : e3_H) (G : e3_G) (K : e3_H) (G2 : e3_G) : Prop := (∃ E, G2 = G ++ E) ∧ (∀ a k : Int, a < G.length → a ≠ 3 → a ≠ 14 → a ≠ 15 → K a k = H a k) ∧ (∀ k : Int, k < 6 → K 3 k = H 3 k) ∧ ∀ k : Int, k < 3 ∨ 7 < k → K 14 k = H 14 k
def c_bY (q : Int) (H : e3_H) (G : e3_G) (K : e3_H) (G2 : e3_G) : Prop := K 14 4 ≠ 0 ∧ K 14 5 = q ∧ c_Y H G K G2
theorem c_Y_rf (H : e3_H) (G : e3_G) : c_Y H G H G := ⟨⟨[], by rw [List.append_nil]⟩, fun _ _ _ _ _ _ => rfl, fun _ _ => rfl, fun _ _ => rfl⟩
theorem c_Y_Z {nf : Nat} {H K K2 : e3_H} {G G2 G3 : e3_G} (h : c_Y H G K G2) (h2 : c_Z nf K G2 K2 G3) : c_Y H G K2 G3 := by
  obtain ⟨⟨E1, x1⟩, a2, a3, a4⟩ := h
  obtain ⟨⟨E2, y1⟩, b2, b3, b4, _⟩ := h2
  have hl : (G.length : Int) ≤ G2.length := by rw [x1, List.length_append]; omega
  exact ⟨⟨E1 ++ E2, by rw [y1, x1, List.append_assoc]⟩, fun a k z1 z2 z3 z4 => (b2 a k (by omega) z2 z3 z4).trans (a2 a k z1 z2 z3 z4), fun k hk => (b3 k hk).trans (a3 k hk), fun k hk => (b4 k hk).trans (a4 k hk)⟩
theorem c_Y_f {q : Int} {H K K2 : e3_H} {G G2 : e3_G} (h : c_Y H G K G2) (h2 : c_flt q K K2) : c_bY q H G K2 G2 := by
  obtain ⟨a1, a2, a3, a4⟩ := h
  obtain ⟨f1, f2, f3, f4⟩ := h2
  have at2 : ∀ a k : Int, a ≠ 14 → K2 a k = K a k := fun a k ha => f4 a k (by simp only [List.mem_cons, List.not_mem_nil, or_false]; exact ha)
  exact ⟨f1, f2, a1, fun a k z1 z2 z3 z4 => by rw [at2 _ _ z3]; exact a2 a k z1 z2 z3 z4, fun k hk => by rw [at2 _ _ (by decide)]; exact a3 k hk, fun k hk => by rw [f3 k (by omega) (by omega)]; exact a4 k hk⟩
/-- places of all FUNCTIONS -/
def s7 (H : e3_H) : Nat → Int
  | 0 => 0
  | f + 1 => s7 H f + H (H 15 f) 7
theorem s7_eq {H K : e3_H} : ∀ nf : Nat, (∀ f : Nat, f < nf → K (K 15 f) 7 = H (H 15 f) 7) → s7 K nf = s7 H nf := by
  intro nf
  induction nf with
  | zero => intro _; rfl
  | succ f ih => intro h; show s7 K f + K (K 15 f) 7 = s7 H f + H (H 15 f) 7; rw [ih (fun k hk => h k (by omega)), h f (by omega)]
theorem cR_funs {Q : Int → e3_H → e3_G → Prop} {H0 : e3_H} {G0 : e3_G} {i0 : Nat} {P : Int} : ∀ (g' ic nf : Nat) (σ g H : e3_H) (G : e3_G), g' + nf = 13 → c_tk t n s ic H → c_kd σ m H → F_inv σ m nf → σ 40 16 ≤ (ic : Int) → c_FS nf σ g H G → 139 ≤ (G.length : Int) → c_Y H0 G0 H G → i0 ≤ ic → (gz G ≤ P + 400 * ((ic : Int) - i0) ∧ 2 * s7 H nf ≤ (nf : Int) + ((ic : Int) - i0) ∧ 6 * (nf : Int) ≤ (ic : Int) - i0 ∧ ∀ f : Nat, f < nf → (G0.length : Int) ≤ H 15 f) →
    (∀ j σ2 K2 G2 g2 nf2, a_funs t n g' ic σ = .inr (j, σ2) → c_tk t n s j K2 → c_kd σ2 m K2 → F_inv σ2 m nf2 → c_FS nf2 σ2 g2 K2 G2 → 139 ≤ (G2.length : Int) → c_Y H0 G0 K2 G2 → (gz G2 ≤ P + 400 * ((j : Int) - i0) ∧ 2 * s7 K2 nf2 ≤ (nf2 : Int) + ((j : Int) - i0) ∧ 6 * (nf2 : Int) ≤ (j : Int) - i0 ∧ ∀ f : Nat, f < nf2 → (G0.length : Int) ≤ K2 15 f) → wR_checkCalls (fun x6 H4 G5 => (((x6 : Int) = 0 → (wR_readText_126 Q H4 G5)) ∧ (¬ ((x6 : Int) = 0) → (wR_layRows (fun x9 H7 G8 => (((x9 : Int) = 0 → (wR_readText_126 Q H7 G8)) ∧ (¬ ((x9 : Int) = 0) → (wR_readText_127 Q 1 H7 G8)))) H4 G5)))) K2 G2) →
    (∀ q K2 G2, a_funs t n g' ic σ = .inl q → c_bY q H0 G0 K2 G2 → gz G2 ≤ P + 1243 + 400 * ((s : Int) - i0 + 1) → Q 0 K2 G2) → wR_readText_45 Q (g' + 1) 1 nf H G := by
  intro g'
  induction g' with
  | zero => intro ic nf σ g H G hg _ _ hF; have := hF.2.1; omega
  | succ g' ih =>
    intro ic nf σ g H G hg htk hkd hF h16 hFS h139 hY hii hgz hok hfl
    have h12 := hF.2.1
    have his : ic < s := htk.2.2.2.2.2.2.1
    refine brF (by omega) (brF (by decide) ?_)
    rw [(c_now htk).1]
    refine ⟨fun hty => ?_, fun hty => ?_⟩
    · have hu : a_funs t n (g' + 1) ic σ = (match a_fun t n (ic + 1) σ with
        | .inl q => .inl q
        | .inr (j, σ2) => a_funs t n g' j σ2) := by
        conv => lhs; unfold a_funs
        rw [if_pos hty]
        rfl
      rw [hu] at hok hfl
      have bad : ∀ q K2 G2, a_fun t n (ic + 1) σ = .inl q → c_bZ nf q H G K2 G2 → gz G2 ≤ gz G + 1243 + 200 * ((s : Int) - ic + 1) → wR_readText_86 Q (fun l1 l2 H G => wR_readText_45 Q (g' + 1) l1 l2 H G) nf K2 G2 := by
        intro q K2 G2 he hb hz
        have hq := hfl q K2 G2 (by rw [he]) ⟨hb.1, hb.2.1, c_Y_Z hY hb.2.2⟩ (by omega)
        have e94 : wR_readText_94 Q 0 K2 G2 := by
          unfold wR_readText_94 wR_readText_126 wR_readText_127
          exact brT rfl ⟨Or.inl rfl, hq⟩
        unfold wR_readText_86 wR_readText_87
        rw [w_p1 (by omega)]
        exact ⟨fun _ => e94, fun _ => brT rfl e94⟩
      refine cR_fun (g := g) (Qz := fun H4 G5 => wR_readText_86 Q (fun l1 l2 H G => wR_readText_45 Q (g' + 1) l1 l2 H G) nf H4 G5) (Q := fun x6 H4 G5 => (((x6 : Int) = 0 → (wR_readText_86 Q (fun l1 l2 H G => wR_readText_45 Q (g' + 1) l1 l2 H G) nf H4 G5)) ∧ (¬ ((x6 : Int) = 0) → (wR_readText_87 Q (fun l1 l2 H G => wR_readText_45 Q (g' + 1) l1 l2 H G) nf 1 H4 G5)))) htk ⟨by omega, by omega⟩ hkd hF h16 hFS.1 h139 (fun j σ2 K2 G2 g2 he tk2 fs2 Z2 e143 e15 hg2 hz hz7 => brF (by decide) ?_) (fun q K2 G2 he hb hz => ⟨brT rfl (bad q K2 G2 he hb hz), bad q K2 G2 he hb hz⟩)
      · rw [he] at hok hfl
        obtain ⟨c1, c2, c3⟩ := a_fun_ok he hF (by omega)
        obtain ⟨r1, r2, r3⟩ := a_fun_fr he hF (by omega)
        have hlen : (G.length : Int) ≤ G2.length := by obtain ⟨E, e⟩ := Z2.1; rw [e, List.length_append]; omega
        have FS2 : c_FS (nf + 1) σ2 g2 K2 G2 := by
          obtain ⟨⟨z1, z2, z3⟩, z4⟩ := hFS
          refine ⟨⟨by rw [e143]; omega, c1.2.1, fun f hf => ?_⟩, fun f hf => ?_⟩
          · by_cases hfn : f = nf
            · subst hfn
              rw [e15]
              exact ⟨⟨h139, fs2.2.1.2.1⟩, fs2.2.2.2.2.1.1⟩
            · obtain ⟨⟨y1, y2⟩, y3⟩ := z3 f (by omega)
              rw [Z2.2.2.2.2 f (by omega), Z2.2.1 _ _ (ga_lt y2) (by omega) (by omega) (by omega), r3 f (by omega) (by omega) 67 f (Or.inl ⟨Or.inl rfl, rfl⟩)]
              obtain ⟨E, e⟩ := Z2.1
              exact ⟨⟨y1, by rw [e]; exact ga_app y2⟩, y3⟩
          · by_cases hfn : f = nf
            · subst hfn
              rw [e15]
              exact c_fs_fd fs2
            · rw [Z2.2.2.2.2 f (by omega)]
              have hF1 := hF.2.2.2.1 f (by omega) (by omega)
              exact c_fd_keep (by omega) hF1.2.2.1.2 (z4 f (by omega)) Z2.1 Z2.2.1 r1 (r3 f (by omega) (by omega)) hg2
        have e7 : s7 K2 nf = s7 H nf := s7_eq nf (fun f hf => by
          obtain ⟨⟨y1, y2⟩, y3⟩ := hFS.1.2.2 f hf
          rw [Z2.2.2.2.2 f (by omega), Z2.2.1 _ _ (ga_lt y2) (by omega) (by omega) (by omega)])
        have e71 : s7 K2 (nf + 1) = s7 H nf + K2 G.length 7 := by
          show s7 K2 nf + K2 (K2 15 nf) 7 = _
          rw [e7, e15]
        unfold wR_readText_87
        rw [w_p1 (by omega)]
        obtain ⟨hgz1, hgz2, hgz3, hgz4⟩ := hgz
        have hlen0 : (G0.length : Int) ≤ G.length := by obtain ⟨E, e⟩ := hY.1; rw [e, List.length_append]; omega
        have hnew : ∀ f : Nat, f < nf + 1 → (G0.length : Int) ≤ K2 15 f := fun f hf => by
          by_cases hfn : f = nf
          · rw [hfn, e15]; exact hlen0
          · rw [Z2.2.2.2.2 f (by omega)]; exact hgz4 f (by omega)
        exact ih j (nf + 1) σ2 g2 K2 G2 (by omega) tk2 fs2.1 c1 c2 FS2 (by omega) (c_Y_Z hY Z2) (by omega) ⟨by omega, by omega, by omega, hnew⟩ hok hfl
    · have hu : a_funs t n (g' + 1) ic σ = (if x_ty t n ic = 256 then .inr (ic, σ) else .inl (x_sp t n ic : Int)) := by
        conv => lhs; unfold a_funs
        rw [if_neg hty]
      rw [hu] at hok hfl
      unfold wR_readText_94
      refine brF (by decide) (cR_expectEnd htk (fun he => brF (by decide) ?_) (fun he K2 hf2 => brT rfl ?_))
      · exact hok ic σ H G g nf (by rw [if_pos he]) htk hkd hF hFS h139 hY hgz
      · unfold wR_readText_126 wR_readText_127
        exact ⟨Or.inl rfl, hfl _ K2 G (by rw [if_neg he]) (c_Y_f hY hf2) (by omega)⟩
end CFX
