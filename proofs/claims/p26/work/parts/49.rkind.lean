/-- what the lexer and the stack of open patterns keep for themselves -/
def r_scr (a k : Int) : Prop := (a = 40 ∧ ((2 ≤ k ∧ k ≤ 6) ∨ k = 32)) ∨ (59 ≤ a ∧ a ≤ 66)
/-- the reference's tables stand as told -/
def r_N (σ K : e3_H) : Prop := ∀ a k : Int, 40 ≤ a → a < 139 → ¬ r_scr a k → K a k = σ a k
theorem r_N_rf (σ : e3_H) : r_N σ σ := fun _ _ _ _ _ => rfl
theorem r_N_tr {σ K K2 : e3_H} (h : r_N σ K) (h2 : x_N K K2) : r_N σ K2 := by
  intro a k h40 h139 hs
  by_cases ha : a = 40
  · subst ha
    rw [h2.1 k (by unfold r_scr at hs; omega)]
    exact h 40 k h40 h139 hs
  · rw [x_N_at h2 a ha]
    exact h a k h40 h139 hs
theorem r_N_w {σ K : e3_H} (a j v : Int) (h : r_N σ K) : r_N (e3_up σ a j v) (e3_up K a j v) := by
  intro b k h40 h139 hs
  unfold e3_up
  split
  · rfl
  · exact h b k h40 h139 hs
theorem r_N_at {σ K : e3_H} (h : r_N σ K) (a : Int) (ha : 40 < a ∧ a < 139 ∧ ¬ (59 ≤ a ∧ a ≤ 66)) : K a = σ a := funext fun k => h a k (by omega) ha.2.1 (by unfold r_scr; omega)
theorem r_N_f {σ K : e3_H} (h : r_N σ K) (k : Int) (hk : (6 < k ∨ k < 2) ∧ k ≠ 32) : K 40 k = σ 40 k := h 40 k (by omega) (by omega) (by unfold r_scr; omega)
theorem r_N_fl {σ K K2 : e3_H} {pl : Int} (h : r_N σ K) (h2 : r_flt pl K K2) : ∀ a : Int, 40 < a → a < 139 → ¬ (59 ≤ a ∧ a ≤ 66) → K2 a = σ a := by
  intro a h1 h3 h4
  funext k
  rw [h2.2.2.2.1 a k (by simp only [List.mem_cons, List.not_mem_nil, or_false]; omega)]
  exact h a k (by omega) h3 (by unfold r_scr; omega)
def r_out (t : Int → Int) (n m : Nat) (H0 : e3_H) (res : a_P) (Q : e3_H → e3_G → Prop) (G : e3_G) : Prop := match res with
  | .inl pl => ∀ K, K 40 7 ≠ 0 → K 40 8 = pl → k_fr m H0 K → Q K G
  | .inr (j, σ) => ∀ K, r_tk t n j K → r_in t n j → r_N σ K → K 40 7 = 0 → k_inv σ (m + 1) → k_fr m H0 K → Q K G
section RK
variable {H0 K σ : e3_H} {G : e3_G} {n i m : Nat} {t : Int → Int}
theorem cM_readSort {Q : Int → e3_H → e3_G → Prop} {mu : Int} (h : r_tk t n i K) (hin : r_in t n i) (hN : r_N σ K) (hk : k_inv σ m) (h0 : K 40 7 = 0) (hmu : mu = 0 ∨ mu = 1) (hok : ∀ s, a_sort t n i σ (decide (mu = 1)) = some s → ∀ K', r_tk t n (i + 1) K' → x_N K K' → Q s K' G) (hfl : a_sort t n i σ (decide (mu = 1)) = none → ∀ x K', r_flt (x_sp t n i) K K' → Q x K' G) : wM_readSort Q mu K G := by
  have hm : K 40 10 = (m : Int) := by rw [r_N_f hN 10 (by omega), hk.1]
  have e42 : K 42 = σ 42 := r_N_at hN 42 (by decide)
  have e5 := h.2.2.1
  have flt96 : ∀ x K', r_flt (x_sp t n i) K K' → a_sort t n i σ (decide (mu = 1)) = none → wM_readSort_96 Q x K' G := by
    intro x K' hf hn
    unfold wM_readSort_96 wM_readSort_107
    exact brF hf.1 (hfl hn x K' hf)
  have flt82 : ∀ x K', r_flt (x_sp t n i) K K' → a_sort t n i σ (decide (mu = 1)) = none → wM_readSort_82 Q mu x K' G := by
    intro x K' hf hn
    unfold wM_readSort_82
    exact ⟨fun _ => flt96 x K' hf hn, fun _ => cM_failed hf.1 (flt96 x K' hf hn)⟩
  have good : ∀ s, x_nf t n i → (mu = 0 → a_sort t n i σ (decide (mu = 1)) = some s) → wM_readSort_82 Q mu s K G := by
    intro s hnf hs
    unfold wM_readSort_82
    refine ⟨fun hz => ?_, fun hz => ?_⟩
    · unfold wM_readSort_96 wM_readSort_107
      exact brT h0 (cM_nxt h hin hnf (fun K' a b => hok s (hs hz) K' a b))
    · have hn : a_sort t n i σ (decide (mu = 1)) = none := by
        have : mu = 1 := by omega
        unfold a_sort
        rw [if_pos (by rw [this]; rfl)]
      refine cM_fl h0 (by decide) (fun K' hf => ?_)
      rw [e5] at hf
      exact flt96 s K' hf hn
  have nomu : mu = 0 → decide (mu = 1) = false := fun z => by rw [z]; rfl
  have r39 : ¬ (275 ≤ x_ty t n i ∧ x_ty t n i ≤ 277) → ∀ x, wM_readSort_39 Q mu x K G := by
    intro hw x
    unfold wM_readSort_39
    refine ⟨fun h2 => ?_, fun h2 => ?_⟩
    · have hty := (r_so h).2.2.2.1.mp h2
      have e4 := (r_va h (by omega)).1 (by omega) (by omega)
      rw [e4]
      refine cM_kindOf hm hk.2.1 ?_
      rw [e42]
      refine ⟨fun hz => ?_, fun hz => ?_⟩
      · refine cM_fl h0 (by decide) (fun K' hf => ?_)
        rw [e5] at hf
        unfold wM_readSort_71
        refine flt82 _ K' hf ?_
        unfold a_sort
        rw [k_nk hk]
        split
        · rfl
        · rw [if_neg (fun z => z.2 hz)]
      · unfold wM_readSort_71
        have hr := a_fd_rg (σ 42) (x_wo t n i) m
        have hm24 := hk.2.1
        rw [e3_w32_id (by omega) (by omega)]
        refine good _ ⟨by omega, by omega⟩ (fun hz2 => ?_)
        unfold a_sort
        rw [k_nk hk, if_neg (by rw [nomu hz2]; simp), if_neg hw, if_pos ⟨hty, hz⟩]
    · refine cM_stop h0 (by decide) (fun K' hf => ?_)
      rw [e5] at hf
      refine flt82 _ K' hf ?_
      unfold a_sort
      split
      · rfl
      · rw [if_neg (fun z => h2 ((r_so h).2.2.2.1.mpr z.1))]
  unfold wM_readSort
  refine ⟨fun h6 => ?_, fun h6 => r39 (fun z => h6 ((r_so h).2.2.2.2.2.2.1.mpr (by omega))) _⟩
  have hge := (r_so h).2.2.2.2.2.2.1.mp h6
  have e4 := (r_va h (by omega)).2.2.1 hge
  have hd := x_dom2 t n i
  rw [e4]
  refine cM_in (fun a b => brF (by decide) ?_) (fun a => brT rfl (r39 (by omega) _))
  rw [e4, e3_w32_id (x := x_ty t n i - 270) (by omega) (by omega), e3_w32_id (by omega) (by omega)]
  refine good _ ⟨by omega, by omega⟩ (fun hz => ?_)
  unfold a_sort
  rw [if_neg (by rw [nomu hz]; simp), if_pos (by omega)]
  congr 1
  omega
theorem r_fl235 {Q : e3_H → e3_G → Prop} (h0 : K 40 7 ≠ 0) (hQ : Q K G) : wM_readKind_235 Q K G := by
  unfold wM_readKind_235
  exact cM_musted h0 hQ
theorem r_fl229 {Q : e3_H → e3_G → Prop} (h0 : K 40 7 ≠ 0) (hQ : Q K G) : wM_readKind_229 Q K G := by
  unfold wM_readKind_229
  exact cM_musted h0 (r_fl235 h0 hQ)
theorem r_fl142 {Q : e3_H → e3_G → Prop} {l : Int} (h0 : K 40 7 ≠ 0) (hQ : Q K G) : wM_readKind_142 Q l K G := by
  unfold wM_readKind_142
  exact cM_taken h0 (brT rfl (r_fl235 h0 hQ))
theorem r_k235 {Q : e3_H → e3_G → Prop} (h : r_tk t n i K) (hin : r_in t n i) (hN : r_N σ K) (h0 : K 40 7 = 0) (hk : k_inv σ (m + 1)) (hfr : k_fr m H0 K) (ho : r_out t n m H0 (a_knd3 t n (.inr (i, σ))) Q G) : wM_readKind_235 Q K G := by
  unfold wM_readKind_235
  unfold a_knd3 at ho
  simp only at ho
  refine cM_must h hin h0 (by decide) (fun he K' a b => ?_) (fun he K' hf => ?_)
  · rw [if_pos he] at ho
    exact ho K' a (r_in_s hin ⟨by omega, by omega⟩) (r_N_tr hN b) (by rw [x_N_f b 7 (by omega), h0]) hk (k_fr_N hfr b)
  · rw [if_neg he] at ho
    exact ho K' hf.1 hf.2.1 (k_fr_f hfr hf)
theorem r_parts {Q : e3_H → e3_G → Prop} : ∀ (f i : Nat) (σ K : e3_H), r_tk t n i K → r_in t n i → r_N σ K → K 40 7 = 0 → k_inv σ (m + 1) → k_fr m H0 K → 4 - (σ 44 m).toNat < f → r_out t n m H0 (a_knd3 t n (a_pts t n m f i σ)) Q G → wM_readKind_153 Q (f + 1) m 1 K G := by
  intro f
  induction f with
  | zero => intro i σ K _ _ _ _ _ _ hf; omega
  | succ f ih =>
    intro i σ K h hin hN h0 hk hfr hf ho
    have hk5 := hk.2.2.2.2 m (by omega)
    have hm24 := hk.2.1
    have e44 : K 44 m = σ 44 m := by rw [r_N_at hN 44 (by decide)]
    refine brF (by decide) (brT h0 ⟨⟨by omega, by omega⟩, ?_⟩)
    have core : ∀ mu : Int, (mu = 0 ∧ σ 44 m ≠ 4) ∨ (mu = 1 ∧ σ 44 m = 4) → wM_readKind_180 Q (fun l2 l3 H G => wM_readKind_153 Q (f + 1) l2 l3 H G) m mu K G := by
      intro mu hmu
      have hdec : decide (mu = 1) = decide (σ 44 m = 4) := by
        rcases hmu with ⟨a, b⟩ | ⟨a, b⟩
        · rw [a]; simp [b]
        · rw [a, b]; rfl
      unfold wM_readKind_180
      have hu : a_pts t n m (f + 1) i σ = (match a_sort t n i σ (decide (σ 44 m = 4)) with
        | none => .inl (x_sp t n i)
        | some s => if x_ty t n (i + 1) = 44 then a_pts t n m f (i + 2) (a_pt1 σ m s)
          else if x_ty t n (i + 1) = 41 then .inr (i + 2, a_pt1 σ m s) else .inl (x_sp t n (i + 1))) := rfl
      refine cM_readSort h hin hN hk h0 (by omega) (fun s hs K' a b => ?_) (fun hs x K' hfl => ?_)
      · rw [hdec] at hs
        have hr := a_sort_rg hk hs
        have hlt : σ 44 m < 4 := by
          have : ¬ σ 44 m = 4 := by simpa using hr.2.2.2
          omega
        rw [hs] at hu
        simp only at hu
        have N1 : r_N σ K' := r_N_tr hN b
        have fr1 := k_fr_N hfr b
        have f44 : K' 44 m = σ 44 m := by rw [r_N_at N1 44 (by decide)]
        refine brT (by rw [x_N_f b 7 (by omega), h0]) ⟨⟨by omega, by omega⟩, ?_⟩
        rw [f44, e3_w32_id (x := 4 * (m : Int)) (by omega) (by omega), e3_w32_id (x := 4 * (m : Int) + σ 44 m) (by omega) (by omega)]
        refine ⟨⟨by omega, by omega⟩, ?_⟩
        intro H4 e4
        refine ⟨⟨by omega, by omega⟩, ⟨by omega, by omega⟩, ?_⟩
        intro H7 e7
        have g44 : H4 44 m = σ 44 m := by rw [e4, e3_up_ne (by omega), f44]
        rw [g44, e3_w32_id (by omega) (by omega)] at e7
        have N2 : r_N (a_pt1 σ m s) H7 := by
          rw [e7, e4]
          exact r_N_w _ _ _ (r_N_w _ _ _ N1)
        have a2 : r_tk t n (i + 1) H7 := by
          rw [e7, e4]
          exact r_tk_up (r_tk_up a (by omega) (by omega)) (by omega) (by omega)
        have z2 : H7 40 7 = 0 := by rw [e7, e3_up_ne (by omega), e4, e3_up_ne (by omega), x_N_f b 7 (by omega), h0]
        obtain ⟨k2, k3⟩ := k_part hk (by omega) hlt ⟨hr.1, hr.2.1⟩
        have fr2 : k_fr m H0 H7 := by rw [e7, e4]; exact k_fr_up (k_fr_up fr1 (by omega)) (by omega)
        have in2 := r_in_s hin hr.2.2.1
        unfold wM_readKind_219
        refine cM_takes a2 in2 z2 (by decide) (fun he K2 c d => ?_) (fun he => ?_)
        · rw [if_pos he] at hu
          rw [hu] at ho
          exact ih (i + 2) (a_pt1 σ m s) K2 c (r_in_s in2 ⟨by omega, by omega⟩) (r_N_tr N2 d) (by rw [x_N_f d 7 (by omega), z2]) k2 (k_fr_N fr2 d) (by rw [k3]; omega) ho
        · rw [if_neg he] at hu
          refine brT rfl ?_
          unfold wM_readKind_229
          refine cM_must a2 in2 z2 (by decide) (fun he2 K2 c d => ?_) (fun he2 K2 hfl => ?_)
          · rw [if_pos he2] at hu
            rw [hu] at ho
            exact r_k235 c (r_in_s in2 ⟨by omega, by omega⟩) (r_N_tr N2 d) (by rw [x_N_f d 7 (by omega), z2]) k2 (k_fr_N fr2 d) ho
          · rw [if_neg he2] at hu
            rw [hu] at ho
            exact r_fl235 hfl.1 (ho K2 hfl.1 hfl.2.1 (k_fr_f fr2 hfl))
      · rw [hdec] at hs
        rw [hs] at hu
        simp only at hu
        rw [hu] at ho
        refine brF hfl.1 ?_
        unfold wM_readKind_219
        refine cM_taken hfl.1 ?_
        exact brT rfl (r_fl229 hfl.1 (ho K' hfl.1 hfl.2.1 (k_fr_f hfr hfl)))
    rw [e44]
    exact ⟨fun hq => core 1 (Or.inr ⟨rfl, hq⟩), fun hq => core 0 (Or.inl ⟨rfl, hq⟩)⟩
theorem r_k142 {Q : e3_H → e3_G → Prop} (h : r_tk t n i K) (hin : r_in t n i) (hN : r_N σ K) (h0 : K 40 7 = 0) (hk : k_inv σ (m + 1)) (h44 : σ 44 m = 0) (hfr : k_fr m H0 K) (ho : r_out t n m H0 (a_knd2 t n m (.inr (i, σ))) Q G) : wM_readKind_142 Q m K G := by
  unfold wM_readKind_142
  unfold a_knd2 at ho
  simp only at ho
  refine cM_takes h hin h0 (by decide) (fun he K' a b => brF (by decide) ?_) (fun he => brT rfl ?_)
  · rw [if_pos he] at ho
    exact ⟨6, r_parts 5 (i + 1) σ K' a (r_in_s hin ⟨by omega, by omega⟩) (r_N_tr hN b) (by rw [x_N_f b 7 (by omega), h0]) hk (k_fr_N hfr b) (by rw [h44]; decide) ho⟩
  · rw [if_neg he] at ho
    exact r_k235 h hin hN h0 hk hfr ho
theorem r_under {Q : e3_H → e3_G → Prop} {ad : Int} {added : Bool} (had : ad = if added = true then 1 else 0) (h : r_tk t n i K) (hin : r_in t n i) (hnf : x_nf t n i) (hN : r_N σ K) (h0 : K 40 7 = 0) (hk : k_inv σ (m + 1)) (hfr : k_fr m H0 K) (h43 : σ 43 m = -4) (hok : ∀ j σ', a_und t n m (i + 1) added σ = .inr (j, σ') → ∀ K', r_tk t n j K' → r_in t n j → r_N σ' K' → K' 40 7 = 0 → k_inv σ' (m + 1) → k_fr m H0 K' → σ' 44 m = σ 44 m → Q K' G) (hfl : ∀ pl, a_und t n m (i + 1) added σ = .inl pl → ∀ K', K' 40 7 ≠ 0 → K' 40 8 = pl → k_fr m H0 K' → Q K' G) : wM_readUnder Q m ad K G := by
  unfold wM_readUnder
  refine cM_nxt h hin hnf (fun K1 a b => ?_)
  have N1 : r_N σ K1 := r_N_tr hN b
  have fr1 := k_fr_N hfr b
  have in1 := r_in_s hin hnf
  have z1 : K1 40 7 = 0 := by rw [x_N_f b 7 (by omega), h0]
  have hm24 := hk.2.1
  have fail : ∀ pl, a_und t n m (i + 1) added σ = .inl pl → pl = x_sp t n (i + 1) → ∀ K', r_flt (x_sp t n (i + 1)) K1 K' → Q K' G := by
    intro pl e1 e2 K' hf
    subst e2
    exact hfl _ e1 K' hf.1 hf.2.1 (k_fr_f fr1 hf)
  refine ⟨fun h2 => ?_, fun h2 => ?_⟩
  · have hty := (r_so a).2.2.2.1.mp h2
    have e4 := (r_va a (by omega)).1 (by omega) (by omega)
    rw [e4]
    refine cM_kindOf (m := m + 1) (by rw [r_N_f N1 10 (by omega), hk.1]) hk.2.1 ?_
    rw [r_N_at N1 42 (by decide)]
    have hu : a_und t n m (i + 1) added σ = (if a_fd (σ 42) (x_wo t n (i + 1)) (m + 1) = -4 ∨ a_fd (σ 42) (x_wo t n (i + 1)) (m + 1) = m then .inl (x_sp t n (i + 1))
      else if 0 < σ 44 (a_fd (σ 42) (x_wo t n (i + 1)) (m + 1)) ∨ (added = true ∧ a_sl (σ 43) (a_fd (σ 42) (x_wo t n (i + 1)) (m + 1)) (m + 1) = false) then .inl (x_sp t n (i + 1))
      else .inr (i + 1 + 1, e3_up σ 43 m (a_fd (σ 42) (x_wo t n (i + 1)) (m + 1)))) := by
      unfold a_und
      rw [if_neg (fun z => z hty)]
    have hr := a_fd_rg (σ 42) (x_wo t n (i + 1)) (m + 1)
    generalize a_fd (σ 42) (x_wo t n (i + 1)) (m + 1) = u at *
    have f38 : (u = -4 ∨ u = m) → wM_readUnder_38 Q K1 G := by
      intro hz
      rw [if_pos hz] at hu
      unfold wM_readUnder_38 wM_readUnder_94
      refine cM_fl z1 (by decide) (fun K' hf => ?_)
      rw [a.2.2.1] at hf
      exact fail _ hu rfl K' hf
    refine ⟨fun hz => f38 (Or.inl hz), fun hz => ⟨fun hz2 => f38 (Or.inr hz2), fun hz2 => ?_⟩⟩
    rw [if_neg (by omega)] at hu
    have e44 : K1 44 u = σ 44 u := by rw [r_N_at N1 44 (by decide)]
    refine ⟨⟨by omega, by omega⟩, ?_⟩
    have f71 : (0 < σ 44 u ∨ (added = true ∧ a_sl (σ 43) u (m + 1) = false)) → wM_readUnder_71 Q K1 G := by
      intro hz
      rw [if_pos hz] at hu
      unfold wM_readUnder_71 wM_readUnder_94
      refine cM_fl z1 (by decide) (fun K' hf => ?_)
      rw [a.2.2.1] at hf
      exact fail _ hu rfl K' hf
    have f83 : ¬ (0 < σ 44 u ∨ (added = true ∧ a_sl (σ 43) u (m + 1) = false)) → wM_readUnder_83 Q m u K1 G := by
      intro hz3
      rw [if_neg hz3] at hu
      unfold wM_readUnder_83 wM_readUnder_94
      refine ⟨⟨by omega, by omega⟩, ?_⟩
      intro H1 e1
      have N2 : r_N (e3_up σ 43 m u) H1 := by rw [e1]; exact r_N_w _ _ _ N1
      have fr2 : k_fr m H0 H1 := by rw [e1]; exact k_fr_up fr1 (by omega)
      have a2 : r_tk t n (i + 1) H1 := by rw [e1]; exact r_tk_up a (by omega) (by omega)
      refine cM_nxt a2 in1 ⟨by omega, by omega⟩ (fun K2 c d => ?_)
      refine hok _ _ hu K2 c (r_in_s in1 ⟨by omega, by omega⟩) (r_N_tr N2 d) ?_ ?_ (k_fr_N fr2 d) ?_
      · rw [x_N_f d 7 (by omega), e1, e3_up_ne (by omega), z1]
      · obtain ⟨g1, g2, g3, g4, g5⟩ := hk
        refine ⟨by rw [e3_up_ne (by omega), g1], g2, ?_, ?_, ?_⟩
        · intro j l hj hl he
          rw [e3_up_ne (by omega), e3_up_ne (by omega)] at he
          exact g3 j l hj hl he
        · intro k hk2
          by_cases hkm : k = m
          · subst hkm
            rw [e3_up_self]
            exact Or.inr ⟨by omega, by omega⟩
          · rw [e3_up_ne (by omega)]
            exact g4 k hk2
        · intro k hk2
          rw [e3_up_ne (by omega)]
          obtain ⟨q1, q2, q3⟩ := g5 k hk2
          refine ⟨q1, q2, fun x hx => ?_⟩
          rw [e3_up_ne (by omega)]
          exact q3 x hx
      · rw [e3_up_ne (by omega)]
    rw [e44]
    refine ⟨fun hz3 => f71 (Or.inl hz3), fun hz3 => ?_⟩
    cases added with
    | false =>
      rw [if_neg (by simp)] at had
      exact brT had (f83 (fun z => z.elim hz3 (fun q => by cases q.1)))
    | true =>
      rw [if_pos rfl] at had
      refine brF (by omega) ?_
      refine cM_isSealed (m := m + 1) (by rw [r_N_f N1 10 (by omega), hk.1]) hk.2.1 (fun hs => brF (by decide) ?_) (fun hs => brT rfl ?_)
      · rw [r_N_at N1 43 (by decide)] at hs
        exact f83 (fun z => z.elim hz3 (fun q => by rw [hs] at q; cases q.2))
      · rw [r_N_at N1 43 (by decide)] at hs
        exact f71 (Or.inr ⟨rfl, hs⟩)
  · refine cM_stop z1 (by decide) (fun K' hf => ?_)
    rw [a.2.2.1] at hf
    refine fail _ ?_ rfl K' hf
    unfold a_und
    rw [if_pos (fun z => h2 ((r_so a).2.2.2.1.mpr z))]
theorem cM_readKind {Q : e3_H → e3_G → Prop} {ad : Int} {added : Bool} (had : ad = if added = true then 1 else 0) (h : r_tk t n i K) (hin : r_in t n i) (hnf : x_nf t n i) (hN : r_N σ K) (h0 : K 40 7 = 0) (hk : k_inv σ m) (ho : r_out t n m K (a_knd t n (i + 1) added σ) Q G) : wM_readKind Q ad K G := by
  unfold wM_readKind
  refine cM_nxt h hin hnf (fun K1 a b => ?_)
  have in1 := r_in_s hin hnf
  have N1 : r_N σ K1 := r_N_tr hN b
  have fr1 : k_fr m K K1 := k_fr_N (k_fr_rf m K) b
  have z1 : K1 40 7 = 0 := by rw [x_N_f b 7 (by omega), h0]
  have hm24 := hk.2.1
  unfold a_knd at ho
  rw [k_nk hk] at ho
  have flt : ∀ (pl : Int) (K' : e3_H), r_flt pl K1 K' → (∀ K' : e3_H, K' 40 7 ≠ 0 → K' 40 8 = pl → k_fr m K K' → Q K' G) → wM_readKind_64 Q ad K' G := by
    intro pl K' hf hq
    unfold wM_readKind_64
    exact brF hf.1 (hq K' hf.1 hf.2.1 (k_fr_f fr1 hf))
  refine ⟨fun h2 => ?_, fun h2 => ?_⟩
  · have hty := (r_so a).2.2.2.1.mp h2
    rw [if_neg (fun z => z hty)] at ho
    have e4 := (r_va a (by omega)).1 (by omega) (by omega)
    rw [e4]
    refine cM_kindOf (m := m) (by rw [r_N_f N1 10 (by omega), hk.1]) hk.2.1 ?_
    rw [r_N_at N1 42 (by decide)]
    refine ⟨fun hz => ?_, fun hz => ?_⟩
    · rw [if_neg (fun z => z hz)] at ho
      have e10 : K1 40 10 = m := by rw [r_N_f N1 10 (by omega), hk.1]
      rw [e10]
      refine ⟨fun h24 => ?_, fun h24 => ?_⟩
      · rw [if_pos (by omega)] at ho
        refine cM_fl z1 (by decide) (fun K' hf => ?_)
        rw [a.2.2.1] at hf
        exact flt _ K' hf ho
      · rw [if_neg (by omega)] at ho
        unfold wM_readKind_64
        rw [e10]
        refine brT z1 ?_
        rw [e3_w32_id (by omega) (by omega)]
        intro H1 e1
        refine ⟨⟨by omega, by omega⟩, ?_⟩
        intro H2 e2
        refine ⟨⟨by omega, by omega⟩, ?_⟩
        intro H4 e4'
        refine ⟨⟨by omega, by omega⟩, ?_⟩
        intro H6 e6
        have g4 : H1 40 4 = x_wo t n (i + 1) := by rw [e1, e3_up_ne (by omega), e4]
        rw [g4] at e2
        have hk2 := k_new (v := x_wo t n (i + 1)) hk (by omega) hz
        have N2 : r_N (a_new σ m (x_wo t n (i + 1))) H6 := by
          rw [e6, e4', e2, e1]
          unfold a_new
          rw [show ((m + 1 : Nat) : Int) = (m : Int) + 1 by omega]
          exact r_N_w _ _ _ (r_N_w _ _ _ (r_N_w _ _ _ (r_N_w _ _ _ N1)))
        have a2 : r_tk t n (i + 1) H6 := by
          rw [e6, e4', e2, e1]
          exact r_tk_up (r_tk_up (r_tk_up (r_tk_up a (by omega) (by omega)) (by omega) (by omega)) (by omega) (by omega)) (by omega) (by omega)
        obtain ⟨q1, q2, q3, q4, q5, q6, q7⟩ := a_new_at σ m (x_wo t n (i + 1))
        have fr2 : k_fr m K H6 := by
          rw [e6, e4', e2, e1]
          exact k_fr_up (k_fr_up (k_fr_up (k_fr_up fr1 (by omega)) (by omega)) (by omega)) (by omega)
        have z2 : H6 40 7 = 0 := by rw [e6, e3_up_ne (by omega), e4', e3_up_ne (by omega), e2, e3_up_ne (by omega), e1, e3_up_ne (by omega), z1]
        generalize a_new σ m (x_wo t n (i + 1)) = σ2 at *
        refine cM_nxt a2 in1 ⟨by omega, by omega⟩ (fun K3 c d => ?_)
        have in2 := r_in_s in1 (show x_nf t n (i + 1) from ⟨by omega, by omega⟩)
        have N3 : r_N σ2 K3 := r_N_tr N2 d
        have fr3 := k_fr_N fr2 d
        have z3 : K3 40 7 = 0 := by rw [x_N_f d 7 (by omega), z2]
        unfold a_knd1 at ho
        refine cM_isWord c (by decide) (fun he => brF (by decide) ?_) (fun he => brT rfl ?_)
        · rw [if_pos (by omega)] at ho
          refine r_under (H0 := K) had c in2 ⟨by omega, by omega⟩ N3 z3 hk2 fr3 q3 (fun j σ' hr K' c1 c2 c3 c4 c5 c6 c7 => ?_) (fun pl hr K' c1 c2 c3 => ?_)
          · rw [hr] at ho
            exact r_k142 c1 c2 c3 c4 c5 (by rw [c7, q4]) c6 ho
          · rw [hr] at ho
            exact r_fl142 c1 (ho K' c1 c2 c3)
        · rw [if_neg (by omega)] at ho
          cases added with
          | false =>
            rw [if_neg (by simp)] at had ho
            exact brT had (r_k142 c in2 N3 z3 hk2 q4 fr3 ho)
          | true =>
            rw [if_pos rfl] at had ho
            refine brF (by omega) ?_
            refine cM_stop z3 (by decide) (fun K' hf => ?_)
            rw [c.2.2.1] at hf
            exact r_fl142 hf.1 (ho K' hf.1 hf.2.1 (k_fr_f fr3 hf))
    · rw [if_pos hz] at ho
      refine cM_fl z1 (by decide) (fun K' hf => ?_)
      rw [a.2.2.1] at hf
      exact flt _ K' hf ho
  · rw [if_pos (fun z => h2 ((r_so a).2.2.2.1.mpr z))] at ho
    refine cM_stop z1 (by decide) (fun K' hf => ?_)
    rw [a.2.2.1] at hf
    exact flt _ K' hf ho
end RK
