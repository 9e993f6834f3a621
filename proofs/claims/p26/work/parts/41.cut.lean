def x_put (H : e3_H) (s ty fr wo : Int) : e3_H := e3_up (e3_up (e3_up (e3_up H 5 s ty) 6 s fr) 7 s wo) 3 5 (s + 1)
theorem x_nm_bd {b : Int → Int} {p : Nat} : ∀ k : Nat, (∀ i : Nat, i < k → x_fg (b ((p + i : Nat) : Int)) = true) → 0 ≤ x_nm b p k ∧ x_nm b p k < (10 : Int) ^ k := by
  intro k
  induction k with
  | zero => intro _; exact ⟨Int.le_refl _, by show (0 : Int) < 1; omega⟩
  | succ k ih =>
    intro h
    have h1 := ih (fun i hi => h i (by omega))
    have h2 := h k (by omega)
    unfold x_fg at h2
    simp only [Bool.and_eq_true, decide_eq_true_eq] at h2
    show 0 ≤ x_nm b p k * 10 + (b ((p + k : Nat) : Int) - 48) ∧ x_nm b p k * 10 + (b ((p + k : Nat) : Int) - 48) < (10 : Int) ^ (k + 1)
    rw [Int.pow_succ]
    generalize (10 : Int) ^ k = P at *
    omega
theorem x_nm_9 {b : Int → Int} {p k : Nat} (hk : k ≤ 9) (h : ∀ i : Nat, i < k → x_fg (b ((p + i : Nat) : Int)) = true) : 0 ≤ x_nm b p k ∧ x_nm b p k < 1000000000 := by
  have h1 := x_nm_bd k h
  refine ⟨h1.1, ?_⟩
  have : ∀ j : Nat, j ≤ 9 → (10 : Int) ^ j ≤ 1000000000 := by decide
  have := this k hk
  omega
section CT2
variable {H : e3_H} {G : e3_G} {n : Nat}
theorem cT_put {Q : Int → e3_H → e3_G → Prop} {s : Nat} {ty fr to wo : Int} (hs : H 3 5 = (s : Int)) (hs2 : s ≤ 1600) (hQ : Q to (x_put H s ty fr wo) G) : wT_put Q ty fr to wo H G := by
  unfold wT_put wT_put_51
  refine brF (by rw [hs]; omega) ⟨⟨by omega, by omega⟩, ?_⟩
  intro H1 e1
  have a1 : H1 3 5 = s := by rw [e1, hs, e3_up_ne (by omega), hs]
  refine ⟨⟨by omega, by omega⟩, ?_⟩
  intro H3 e3
  have a3 : H3 3 5 = s := by rw [e3, a1, e3_up_ne (by omega), a1]
  refine ⟨⟨by omega, by omega⟩, ?_⟩
  intro H5 e5
  have a5 : H5 3 5 = s := by rw [e5, a3, e3_up_ne (by omega), a3]
  intro H7 e7
  have : H7 = x_put H s ty fr wo := by
    rw [e7, a5, e5, a3, e3, a1, e1, hs, e3_w32_id (by omega) (by omega)]
    rfl
  rw [this]
  exact hQ
theorem cT_number {Q : Int → e3_H → e3_G → Prop} (hn : H 3 1 = (n : Int)) (hn2 : n ≤ 1600) {p : Nat} : ∀ (f k : Nat), n - (p + k) ≤ f → p + k ≤ n → (∀ i : Nat, i < k → x_fg (H 4 ((p + i : Nat) : Int)) = true) → wT_cutNumber_59 Q p ((x_sc x_fg (H 4) n f (p + k) : Nat) : Int) (x_nm (H 4) p (min (x_sc x_fg (H 4) n f (p + k) - p) 9)) H G → ∃ nn, wT_cutNumber_4 Q nn p ((p + k : Nat) : Int) (x_nm (H 4) p (min k 9)) H G := by
  intro f
  induction f with
  | zero =>
    intro k hk hk2 hall hQ
    refine ⟨1, brF (by rw [hn]; omega) ?_⟩
    have e : x_sc x_fg (H 4) n 0 (p + k) = p + k := rfl
    rw [e, show p + k - p = k by omega] at hQ
    exact hQ
  | succ f ih =>
    intro k hk hk2 hall hQ
    by_cases hlt : p + k < n
    · cases hfg : x_fg (H 4 ((p + k : Nat) : Int)) with
      | true =>
        rw [x_sc_yes hlt hfg] at hQ
        obtain ⟨nn, h⟩ := ih (k + 1) (by omega) (by omega) (fun i hi => by
          by_cases hik : i = k
          · subst hik; exact hfg
          · exact hall i (by omega)) hQ
        refine ⟨nn + 1, brT (by rw [hn]; omega) ⟨⟨by omega, by omega⟩, cT_isFigure (fun _ => brF (by decide) ?_) (fun z => by rw [hfg] at z; cases z)⟩⟩
        rw [w_sb (by omega) (by omega), show p + k - p = k by omega]
        have hf2 := hfg
        unfold x_fg at hf2
        simp only [Bool.and_eq_true, decide_eq_true_eq] at hf2
        by_cases h9 : k < 9
        · refine brT (by omega) ⟨⟨by omega, by omega⟩, ?_⟩
          have hb := x_nm_9 (b := H 4) (p := p) (k := k) (by omega) hall
          show wT_cutNumber_4 Q nn p (e3_w32 (((p + k : Nat) : Int) + 1)) _ H G
          rw [w_p1 (by omega), show min k 9 = k by omega]
          have e : e3_w64 (e3_w64 (x_nm (H 4) p k * 10) + e3_w32 (H 4 ((p + k : Nat) : Int) - 48)) = x_nm (H 4) p (min (k + 1) 9) := by
            rw [e3_w32_id (by omega) (by omega), e3_w64_id (x := x_nm (H 4) p k * 10) (by omega) (by omega), e3_w64_id (by omega) (by omega), show min (k + 1) 9 = k + 1 by omega]
            rfl
          rw [e]
          exact h
        · refine brF (by omega) ?_
          show wT_cutNumber_4 Q nn p (e3_w32 (((p + k : Nat) : Int) + 1)) _ H G
          rw [w_p1 (by omega), show min k 9 = min (k + 1) 9 by omega]
          exact h
      | false =>
        rw [x_sc_no (fun z => by rw [hfg] at z; cases z.2), show p + k - p = k by omega] at hQ
        refine ⟨1, brT (by rw [hn]; omega) ⟨⟨by omega, by omega⟩, cT_isFigure (fun z => by rw [hfg] at z; cases z) (fun _ => brT rfl hQ)⟩⟩
    · rw [x_sc_no (fun z => hlt z.1), show p + k - p = k by omega] at hQ
      exact ⟨1, brF (by rw [hn]; omega) hQ⟩
theorem cT_namel {Q : Int → e3_H → e3_G → Prop} (hn : H 3 1 = (n : Int)) (hn2 : n ≤ 1600) {p so : Int} : ∀ (f q : Nat), n - q ≤ f → wT_cutName_42 Q p so ((x_sc x_an (H 4) n f q : Nat) : Int) H G → ∃ nn, wT_cutName_4 Q nn p so (q : Int) H G := by
  intro f
  induction f with
  | zero =>
    intro q hq hQ
    exact ⟨1, brF (by rw [hn]; omega) hQ⟩
  | succ f ih =>
    intro q hq hQ
    by_cases hlt : q < n
    · cases hsm : x_sm (H 4 q) with
      | true =>
        rw [x_sc_yes hlt (by unfold x_an; rw [hsm]; rfl)] at hQ
        obtain ⟨nn, h⟩ := ih (q + 1) (by omega) hQ
        refine ⟨nn + 1, brT (by rw [hn]; omega) ⟨⟨by omega, by omega⟩, cT_isSmall (fun _ => brF (by decide) ?_) (fun z => by rw [hsm] at z; cases z)⟩⟩
        show wT_cutName_4 Q nn p so (e3_w32 ((q : Int) + 1)) H G
        rw [w_p1 (by omega)]
        exact h
      | false =>
        cases hfg : x_fg (H 4 q) with
        | true =>
          rw [x_sc_yes hlt (by unfold x_an; rw [hsm, hfg]; rfl)] at hQ
          obtain ⟨nn, h⟩ := ih (q + 1) (by omega) hQ
          refine ⟨nn + 1, brT (by rw [hn]; omega) ⟨⟨by omega, by omega⟩, cT_isSmall (fun z => by rw [hsm] at z; cases z) (fun _ => brT rfl ⟨⟨by omega, by omega⟩, cT_isFigure (fun _ => brF (by decide) ?_) (fun z => by rw [hfg] at z; cases z)⟩)⟩⟩
          show wT_cutName_4 Q nn p so (e3_w32 ((q : Int) + 1)) H G
          rw [w_p1 (by omega)]
          exact h
        | false =>
          rw [x_sc_no (fun z => by unfold x_an at z; rw [hsm, hfg] at z; cases z.2)] at hQ
          exact ⟨1, brT (by rw [hn]; omega) ⟨⟨by omega, by omega⟩, cT_isSmall (fun z => by rw [hsm] at z; cases z) (fun _ => brT rfl ⟨⟨by omega, by omega⟩, cT_isFigure (fun z => by rw [hfg] at z; cases z) (fun _ => brT rfl hQ)⟩)⟩⟩
    · rw [x_sc_no (fun z => hlt z.1)] at hQ
      exact ⟨1, brF (by rw [hn]; omega) hQ⟩
theorem cT_textl {Q : Int → e3_H → e3_G → Prop} (hn : H 3 1 = (n : Int)) (hn2 : n ≤ 1600) {p : Int} : ∀ (f q : Nat), n - q ≤ f → wT_cutText_30 Q p ((x_sc x_sm (H 4) n f q : Nat) : Int) H G → ∃ nn, wT_cutText_4 Q nn p (q : Int) H G := by
  intro f
  induction f with
  | zero =>
    intro q hq hQ
    exact ⟨1, brF (by rw [hn]; omega) hQ⟩
  | succ f ih =>
    intro q hq hQ
    by_cases hlt : q < n
    · cases hsm : x_sm (H 4 q) with
      | true =>
        rw [x_sc_yes hlt hsm] at hQ
        obtain ⟨nn, h⟩ := ih (q + 1) (by omega) hQ
        refine ⟨nn + 1, brT (by rw [hn]; omega) ⟨⟨by omega, by omega⟩, cT_isSmall (fun _ => brF (by decide) ?_) (fun z => by rw [hsm] at z; cases z)⟩⟩
        rw [w_p1 (by omega)]
        exact h
      | false =>
        rw [x_sc_no (fun z => by rw [hsm] at z; cases z.2)] at hQ
        exact ⟨1, brT (by rw [hn]; omega) ⟨⟨by omega, by omega⟩, cT_isSmall (fun z => by rw [hsm] at z; cases z) (fun _ => brT rfl hQ)⟩⟩
    · rw [x_sc_no (fun z => hlt z.1)] at hQ
      exact ⟨1, brF (by rw [hn]; omega) hQ⟩
end CT2
theorem x_ch {x : Int} (h0 : 0 ≤ x) (h1 : x < 128) : e3_ch x = x := by
  have key : ∀ k : Fin 128, e3_ch ((k.val : Nat) : Int) = (k.val : Int) := by decide +kernel
  have := key ⟨x.toNat, by omega⟩
  simp only at this
  rwa [Int.toNat_of_nonneg h0] at this
theorem x_ix {x : Int} (h0 : 0 ≤ x) (h1 : x < 128) : e3_ix x < 0 ↔ x_sg x = false := by
  have key : ∀ k : Fin 128, (e3_ix ((k.val : Nat) : Int) < 0 ↔ x_sg ((k.val : Nat) : Int) = false) := by decide +kernel
  have := key ⟨x.toNat, by omega⟩
  simp only at this
  rwa [Int.toNat_of_nonneg h0] at this
theorem x_sg_pos {x : Int} (h : x_sg x = true) : 0 < x ∧ x < 128 := by
  unfold x_sg at h
  simp only [Bool.or_eq_true, decide_eq_true_eq] at h
  omega
section CT3
variable {H : e3_H} {G : e3_G} {n : Nat}
/-- one TOKEN is cut -/
theorem cT_cutOne {Q : Int → e3_H → e3_G → Prop} {s p : Nat} (hn : H 3 1 = (n : Int)) (hn2 : n ≤ 1600) (hw : ∀ j : Int, 0 ≤ j → j < 11 → H 1 j = x_wd j) (hb : ∀ k : Nat, k < n → -128 ≤ H 4 k ∧ H 4 k ≤ 127) (hs : H 3 5 = (s : Int)) (hs2 : s ≤ 1600) (hp : p ≤ n) (hQ : Q (((x_tk (H 4) n p).2.1 : Nat) : Int) (x_put H s (x_tk (H 4) n p).1 p (x_tk (H 4) n p).2.2) G) : wT_cutOne Q p H G := by
  unfold wT_cutOne
  by_cases hlt : p < n
  · refine brT (by rw [hn]; omega) ⟨⟨by omega, by omega⟩, ?_⟩
    have hbp := hb p hlt
    have name : ∀ so : Int, so = 258 ∧ x_sm (H 4 p) = true ∨ so = 259 ∧ x_sm (H 4 p) = false ∧ x_up (H 4 p) = true → wT_cutName (fun x H G => Q x H G) p so H G := by
      intro so hso
      unfold wT_cutName
      rw [w_p1 (by omega)]
      refine cT_namel hn hn2 n (p + 1) (by omega) ?_
      have ge := x_sc_ge x_an (H 4) n n (p + 1)
      have le := x_sc_le x_an (H 4) n n (p + 1) (by omega)
      have htk : x_tk (H 4) n p = (if 8 < x_sc x_an (H 4) n n (p + 1) - p then (257, x_sc x_an (H 4) n n (p + 1), 0) else (if x_sm (H 4 p) = true then (if x_wx (x_pk (H 4) p (x_sc x_an (H 4) n n (p + 1) - p)) < 0 then 258 else 270 + x_wx (x_pk (H 4) p (x_sc x_an (H 4) n n (p + 1) - p))) else 259, x_sc x_an (H 4) n n (p + 1), x_pk (H 4) p (x_sc x_an (H 4) n n (p + 1) - p))) := by
        unfold x_tk
        rw [if_neg (by omega), if_pos (by rcases hso with ⟨_, h⟩ | ⟨_, _, h⟩; exact Or.inl h; exact Or.inr h)]
      generalize x_sc x_an (H 4) n n (p + 1) = e at *
      unfold wT_cutName_42
      rw [w_sb (by omega) (by omega)]
      by_cases h8 : 8 < e - p
      · rw [if_pos h8] at htk
        rw [htk] at hQ
        exact brT (by omega) (cT_put hs hs2 hQ)
      · rw [if_neg h8] at htk
        refine brF (by omega) ?_
        have hpk := cT_packed (H := H) (G := G) (p := p) (q := e) (by omega) (by omega) (Q := (fun x6 H4 G5 => (((so : Int) = 258 → (wT_wordOrName (fun x9 H7 G8 => (wT_cutName_86 (fun x H G => Q x H G) p e x6 x9 H7 G8)) x6 H4 G5)) ∧ (¬ ((so : Int) = 258) → (wT_cutName_86 (fun x H G => Q x H G) p e x6 so H4 G5))))) (e - p) 0 (by omega)
        refine hpk ?_
        rcases hso with ⟨h1, h2⟩ | ⟨h1, h2, h3⟩
        · refine brT h1 (cT_word hw ?_)
          rw [h2] at htk
          simp only [if_true] at htk
          rw [htk] at hQ
          exact cT_put hs hs2 hQ
        · subst h1
          refine brF (by decide) ?_
          rw [h2] at htk
          simp only [Bool.false_eq_true, if_false] at htk
          rw [htk] at hQ
          exact cT_put hs hs2 hQ
    refine cT_isSmall (fun hsm => brF (by decide) (name 258 (Or.inl ⟨rfl, hsm⟩))) (fun hsm => brT rfl ?_)
    have rest : x_up (H 4 p) = false → wT_cutOne_63 Q p (H 4 p) H G := by
      intro hup
      unfold wT_cutOne_63
      refine cT_isFigure (fun hfg => brF (by decide) ?_) (fun hfg => brT rfl ?_)
      · unfold wT_cutNumber
        have ge := x_sc_ge x_fg (H 4) n n p
        have htk : x_tk (H 4) n p = (if 9 < x_sc x_fg (H 4) n n p - p then (257, x_sc x_fg (H 4) n n p, x_nm (H 4) p 9) else (260, x_sc x_fg (H 4) n n p, x_nm (H 4) p (x_sc x_fg (H 4) n n p - p))) := by
          unfold x_tk
          rw [if_neg (by omega), if_neg (by rw [hsm, hup]; simp), if_pos hfg]
        have le := x_sc_le x_fg (H 4) n n p (by omega)
        refine cT_number (p := p) hn hn2 n 0 (by omega) (by omega) (fun i hi => by omega) ?_
        show wT_cutNumber_59 _ p ((x_sc x_fg (H 4) n n p : Nat) : Int) (x_nm (H 4) p (min (x_sc x_fg (H 4) n n p - p) 9)) H G
        generalize x_sc x_fg (H 4) n n p = e at *
        unfold wT_cutNumber_59 wT_cutNumber_77
        rw [w_sb (by omega) (by omega)]
        by_cases h9 : 9 < e - p
        · rw [if_pos h9] at htk
          rw [htk] at hQ
          rw [show min (e - p) 9 = 9 by omega]
          exact brT (by omega) (cT_put hs hs2 hQ)
        · rw [if_neg h9] at htk
          rw [htk] at hQ
          rw [show min (e - p) 9 = e - p by omega]
          exact brF (by omega) (cT_put hs hs2 hQ)
      · have sign : (¬ (H 4 p = 39) → ¬ (H 4 p = 46 ∧ p + 1 < n ∧ H 4 ((p + 1 : Nat) : Int) = 46) → wT_cutOne_130 Q p (H 4 p) H G) := by
          intro h39 h46
          have htk : x_tk (H 4) n p = (if x_sg (H 4 p) = true then (H 4 p, p + 1, 0) else (257, p + 1, 0)) := by
            unfold x_tk
            rw [if_neg (by omega), if_neg (by rw [hsm, hup]; simp), if_neg (by rw [hfg]; simp), if_neg h39, if_neg h46]
          unfold wT_cutOne_130 wT_cutOne_148 wT_cutOne_149 wT_cutOne_162
          rw [w_p1 (by omega)]
          by_cases hpos : 0 < H 4 p
          · refine brT hpos ?_
            rw [x_ch (by omega) (by omega)]
            cases hsg : x_sg (H 4 p) with
            | true =>
              rw [hsg] at htk
              simp only [if_true] at htk
              rw [htk] at hQ
              refine brF (by rw [x_ix (by omega) (by omega), hsg]; simp) (brF (by decide) (cT_put hs hs2 hQ))
            | false =>
              rw [hsg] at htk
              simp only [Bool.false_eq_true, if_false] at htk
              rw [htk] at hQ
              exact brT ((x_ix (by omega) (by omega)).mpr hsg) (brT rfl (cT_put hs hs2 hQ))
          · refine brF hpos ?_
            have hsg : x_sg (H 4 p) = false := by
              cases hz : x_sg (H 4 p) with
              | false => rfl
              | true => exact absurd (x_sg_pos hz).1 hpos
            rw [hsg] at htk
            simp only [Bool.false_eq_true, if_false] at htk
            rw [htk] at hQ
            exact brT rfl (cT_put hs hs2 hQ)
        by_cases h39 : H 4 p = 39
        · refine brT h39 ?_
          unfold wT_cutText
          rw [w_p1 (by omega)]
          refine cT_textl hn hn2 n (p + 1) (by omega) ?_
          have ge := x_sc_ge x_sm (H 4) n n (p + 1)
          have le := x_sc_le x_sm (H 4) n n (p + 1) (by omega)
          have htk : x_tk (H 4) n p = (if (x_sc x_sm (H 4) n n (p + 1) < n ∧ H 4 (x_sc x_sm (H 4) n n (p + 1)) = 39) ∧ x_sc x_sm (H 4) n n (p + 1) - p - 1 ≤ 8 then (261, x_sc x_sm (H 4) n n (p + 1) + 1, x_pk (H 4) (p + 1) (x_sc x_sm (H 4) n n (p + 1) - p - 1)) else (257, x_sc x_sm (H 4) n n (p + 1), 0)) := by
            unfold x_tk
            rw [if_neg (by omega), if_neg (by rw [hsm, hup]; simp), if_neg (by rw [hfg]; simp), if_pos h39]
          generalize x_sc x_sm (H 4) n n (p + 1) = e at *
          unfold wT_cutText_30 wT_cutText_53 wT_cutText_54 wT_cutText_69
          rw [w_sb (by omega) (by omega), w_m1 (by omega) (by omega), w_p1 (by omega), w_p1 (by omega)]
          by_cases he : e < n
          · refine brT (by rw [hn]; omega) ⟨⟨by omega, by omega⟩, ?_⟩
            by_cases hq : H 4 e = 39
            · refine brT hq (brF (by decide) ?_)
              by_cases h8 : 8 < e - p - 1
              · rw [if_neg (by omega)] at htk
                rw [htk] at hQ
                exact brT (by omega) (cT_put hs hs2 hQ)
              · rw [if_pos ⟨⟨he, hq⟩, by omega⟩] at htk
                rw [htk] at hQ
                refine brF (by omega) ?_
                have hpk := cT_packed (H := H) (G := G) (p := p + 1) (q := e) (by omega) (by omega) (Q := (fun x3 H1 G2 => (wT_put (fun x6 H4 G5 => Q x6 H4 G5) 261 p ((e + 1 : Nat) : Int) x3 H1 G2))) (e - (p + 1)) 0 (by omega)
                refine hpk ?_
                rw [show e - (p + 1) = e - p - 1 by omega]
                exact cT_put hs hs2 hQ
            · rw [if_neg (fun z => hq z.1.2)] at htk
              rw [htk] at hQ
              exact brF hq (brT rfl (cT_put hs hs2 hQ))
          · rw [if_neg (fun z => he z.1.1)] at htk
            rw [htk] at hQ
            exact brF (by rw [hn]; omega) (brT rfl (cT_put hs hs2 hQ))
        · refine brF h39 ?_
          rw [w_p1 (by omega), w_p2 (by omega)]
          by_cases h46 : H 4 p = 46
          · refine brT h46 ?_
            by_cases hp1 : p + 1 < n
            · refine brT (by rw [hn]; omega) ⟨⟨by omega, by omega⟩, ?_⟩
              by_cases h462 : H 4 ((p + 1 : Nat) : Int) = 46
              · have htk : x_tk (H 4) n p = (262, p + 2, 0) := by
                  unfold x_tk
                  rw [if_neg (by omega), if_neg (by rw [hsm, hup]; simp), if_neg (by rw [hfg]; simp), if_neg h39, if_pos ⟨h46, hp1, h462⟩]
                rw [htk] at hQ
                exact brT h462 (cT_put hs hs2 hQ)
              · exact brF h462 (sign h39 (fun z => h462 z.2.2))
            · exact brF (by rw [hn]; omega) (sign h39 (fun z => hp1 z.2.1))
          · exact brF h46 (sign h39 (fun z => h46 z.1))
    by_cases h65 : H 4 p < 65
    · exact brT h65 (rest (by unfold x_up; simp; omega))
    · refine brF h65 ?_
      by_cases h90 : 90 < H 4 p
      · exact brT h90 (rest (by unfold x_up; simp; omega))
      · exact brF h90 (name 259 (Or.inr ⟨rfl, hsm, by unfold x_up; simp; omega⟩))
  · have htk : x_tk (H 4) n p = (256, p, 0) := by
      unfold x_tk
      rw [if_pos (by omega)]
    rw [htk] at hQ
    exact brF (by rw [hn]; omega) (cT_put hs hs2 hQ)
end CT3
