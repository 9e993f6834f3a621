theorem brT {c A B : Prop} (hc : c) (a : A) : (c → A) ∧ (¬ c → B) := ⟨fun _ => a, fun h => absurd hc h⟩
theorem brF {c A B : Prop} (hc : ¬ c) (b : B) : (c → A) ∧ (¬ c → B) := ⟨fun h => absurd h hc, fun _ => b⟩
theorem w_p1 {p : Nat} (h : p ≤ 1000000) : e3_w32 ((p : Int) + 1) = ((p + 1 : Nat) : Int) := by
  rw [e3_w32_id (by omega) (by omega)]
  omega
theorem w_p2 {p : Nat} (h : p ≤ 1000000) : e3_w32 ((p : Int) + 2) = ((p + 2 : Nat) : Int) := by
  rw [e3_w32_id (by omega) (by omega)]
  omega
theorem w_m1 {p : Nat} (h : p ≤ 1000000) (h1 : 1 ≤ p) : e3_w32 ((p : Int) - 1) = ((p - 1 : Nat) : Int) := by
  rw [e3_w32_id (by omega) (by omega)]
  omega
theorem w_sb {p q : Nat} (h : q ≤ p) (h2 : p ≤ 1000000) : e3_w32 ((p : Int) - (q : Int)) = ((p - q : Nat) : Int) := by
  rw [e3_w32_id (by omega) (by omega)]
  omega
/-- bytes -/
def x_bl (x : Int) : Bool := decide (x = 32) || decide (x = 10)
def x_sm (x : Int) : Bool := decide (97 ≤ x) && decide (x ≤ 122)
def x_fg (x : Int) : Bool := decide (48 ≤ x) && decide (x ≤ 57)
def x_up (x : Int) : Bool := decide (65 ≤ x) && decide (x ≤ 90)
def x_an (x : Int) : Bool := x_sm x || x_fg x
/-- how far bytes of a sort go -/
def x_sc (P : Int → Bool) (b : Int → Int) (n : Nat) : Nat → Nat → Nat
  | 0, p => p
  | f + 1, p => if p < n ∧ P (b (p : Int)) = true then x_sc P b n f (p + 1) else p
theorem x_sc_ge (P : Int → Bool) (b : Int → Int) (n : Nat) : ∀ f p, p ≤ x_sc P b n f p := by
  intro f
  induction f with
  | zero => intro p; exact Nat.le_refl _
  | succ f ih =>
    intro p
    unfold x_sc
    split
    · have := ih (p + 1); omega
    · exact Nat.le_refl _
theorem x_sc_le (P : Int → Bool) (b : Int → Int) (n : Nat) : ∀ f p, p ≤ n → x_sc P b n f p ≤ n := by
  intro f
  induction f with
  | zero => intro p h; exact h
  | succ f ih =>
    intro p h
    unfold x_sc
    split
    · rename_i hc; exact ih (p + 1) (by omega)
    · exact h
theorem x_sc_yes {P : Int → Bool} {b : Int → Int} {n f p : Nat} (h : p < n) (hP : P (b p) = true) : x_sc P b n (f + 1) p = x_sc P b n f (p + 1) := by
  show (if p < n ∧ P (b (p : Int)) = true then x_sc P b n f (p + 1) else p) = _
  rw [if_pos ⟨h, hP⟩]
theorem x_sc_no {P : Int → Bool} {b : Int → Int} {n f p : Nat} (h : ¬ (p < n ∧ P (b p) = true)) : x_sc P b n f p = p := by
  cases f with
  | zero => rfl
  | succ f =>
    show (if p < n ∧ P (b (p : Int)) = true then x_sc P b n f (p + 1) else p) = _
    rw [if_neg h]
theorem x_sc_all (P : Int → Bool) (b : Int → Int) (n : Nat) : ∀ f p k, p ≤ k → k < x_sc P b n f p → k < n ∧ P (b k) = true := by
  intro f
  induction f with
  | zero => intro p k h1 h2; exact absurd h2 (by show ¬ k < p; omega)
  | succ f ih =>
    intro p k h1 h2
    by_cases hc : p < n ∧ P (b (p : Int)) = true
    · rw [x_sc_yes hc.1 hc.2] at h2
      by_cases hk : k = p
      · subst hk; exact hc
      · exact ih (p + 1) k (by omega) h2
    · rw [x_sc_no hc] at h2
      omega
theorem x_sc_congr {P : Int → Bool} {b c : Int → Int} {n : Nat} (h : ∀ k : Nat, k < n → P (b k) = P (c k)) : ∀ f p, x_sc P b n f p = x_sc P c n f p := by
  intro f
  induction f with
  | zero => intro p; rfl
  | succ f ih =>
    intro p
    unfold x_sc
    by_cases hp : p < n
    · rw [h p hp, ih]
    · rw [if_neg (fun z => hp z.1), if_neg (fun z => hp z.1)]
def x_pk (b : Int → Int) (p : Nat) : Nat → Int
  | 0 => 0
  | k + 1 => e3_lor (e3_lshl (x_pk b p k) 8) (b ((p + k : Nat) : Int))
def x_nm (b : Int → Int) (p : Nat) : Nat → Int
  | 0 => 0
  | k + 1 => x_nm b p k * 10 + (b ((p + k : Nat) : Int) - 48)
def x_wx (v : Int) : Int := if v = 1802071652 then 0 else if v = 504363246962 then 1 else if v = 1936683636 then 2 else if v = 26982 then 3 else if v = 24947 then 4 else if v = 512853240933 then 5 else if v = 500136506472 then 6 else if v = 1952807028 then 7 else if v = 1953658213 then 8 else if v = 439721161573 then 9 else if v = 1852796517 then 10 else -1
def x_wd (j : Int) : Int := if j = 0 then 1802071652 else if j = 1 then 504363246962 else if j = 2 then 1936683636 else if j = 3 then 26982 else if j = 4 then 24947 else if j = 5 then 512853240933 else if j = 6 then 500136506472 else if j = 7 then 1952807028 else if j = 8 then 1953658213 else if j = 9 then 439721161573 else 1852796517
def x_sg (x : Int) : Bool := decide (x = 59) || decide (x = 44) || decide (x = 40) || decide (x = 41) || decide (x = 123) || decide (x = 125) || decide (x = 58) || decide (x = 124) || decide (x = 95) || decide (x = 60) || decide (x = 61) || decide (x = 62) || decide (x = 43) || decide (x = 45) || decide (x = 42) || decide (x = 47) || decide (x = 37)
/-- the TOKEN at a place where no blank is: type, behind it, worth -/
abbrev x_T : Type := Int × Nat × Int
def x_tk (b : Int → Int) (n p : Nat) : x_T :=
  if n ≤ p then (256, p, 0)
  else if x_sm (b p) = true ∨ x_up (b p) = true then
    (if 8 < x_sc x_an b n n (p + 1) - p then (257, x_sc x_an b n n (p + 1), 0)
     else (if x_sm (b p) = true then (if x_wx (x_pk b p (x_sc x_an b n n (p + 1) - p)) < 0 then 258 else 270 + x_wx (x_pk b p (x_sc x_an b n n (p + 1) - p))) else 259, x_sc x_an b n n (p + 1), x_pk b p (x_sc x_an b n n (p + 1) - p)))
  else if x_fg (b p) = true then
    (if 9 < x_sc x_fg b n n p - p then (257, x_sc x_fg b n n p, x_nm b p 9) else (260, x_sc x_fg b n n p, x_nm b p (x_sc x_fg b n n p - p)))
  else if b p = 39 then
    (if (x_sc x_sm b n n (p + 1) < n ∧ b (x_sc x_sm b n n (p + 1)) = 39) ∧ x_sc x_sm b n n (p + 1) - p - 1 ≤ 8 then (261, x_sc x_sm b n n (p + 1) + 1, x_pk b (p + 1) (x_sc x_sm b n n (p + 1) - p - 1)) else (257, x_sc x_sm b n n (p + 1), 0))
  else if b p = 46 ∧ p + 1 < n ∧ b ((p + 1 : Nat) : Int) = 46 then (262, p + 2, 0)
  else if x_sg (b p) = true then (b p, p + 1, 0)
  else (257, p + 1, 0)
section CT
variable {H : e3_H} {G : e3_G} {n : Nat}
theorem cT_isSmall {Q : Int → e3_H → e3_G → Prop} {x : Int} (h1 : x_sm x = true → Q 1 H G) (h0 : x_sm x = false → Q 0 H G) : wT_isSmall Q x H G := by
  unfold x_sm at h1 h0
  unfold wT_isSmall wT_isSmall_16 wT_isSmall_17
  refine ⟨fun h => ⟨Or.inl rfl, h0 (by simp; omega)⟩, fun h => ⟨fun h2 => ⟨Or.inl rfl, h0 (by simp; omega)⟩, fun h2 => ⟨Or.inr rfl, h1 (by simp; omega)⟩⟩⟩
theorem cT_isFigure {Q : Int → e3_H → e3_G → Prop} {x : Int} (h1 : x_fg x = true → Q 1 H G) (h0 : x_fg x = false → Q 0 H G) : wT_isFigure Q x H G := by
  unfold x_fg at h1 h0
  unfold wT_isFigure wT_isFigure_16 wT_isFigure_17
  refine ⟨fun h => ⟨Or.inl rfl, h0 (by simp; omega)⟩, fun h => ⟨fun h2 => ⟨Or.inl rfl, h0 (by simp; omega)⟩, fun h2 => ⟨Or.inr rfl, h1 (by simp; omega)⟩⟩⟩
theorem cT_blanks {Q : Int → e3_H → e3_G → Prop} (hn : H 3 1 = (n : Int)) (hn2 : n ≤ 1600) : ∀ (f p : Nat), n - p ≤ f → Q ((x_sc x_bl (H 4) n f p : Nat) : Int) H G → ∃ k, wT_behindBlanks_2 Q k p H G := by
  intro f
  induction f with
  | zero =>
    intro p hp hQ
    exact ⟨1, brF (by rw [hn]; omega) hQ⟩
  | succ f ih =>
    intro p hp hQ
    by_cases hlt : p < n
    · by_cases h32 : H 4 p = 32
      · rw [x_sc_yes hlt (by unfold x_bl; simp [h32])] at hQ
        obtain ⟨k, hk⟩ := ih (p + 1) (by omega) hQ
        refine ⟨k + 1, brT (by rw [hn]; omega) ⟨⟨by omega, by omega⟩, brT h32 ?_⟩⟩
        show wT_behindBlanks_2 Q k (e3_w32 ((p : Int) + 1)) H G
        rw [w_p1 (by omega)]
        exact hk
      · by_cases h10 : H 4 p = 10
        · rw [x_sc_yes hlt (by unfold x_bl; simp [h10])] at hQ
          obtain ⟨k, hk⟩ := ih (p + 1) (by omega) hQ
          refine ⟨k + 1, brT (by rw [hn]; omega) ⟨⟨by omega, by omega⟩, brF h32 ⟨⟨by omega, by omega⟩, brT h10 ?_⟩⟩⟩
          show wT_behindBlanks_2 Q k (e3_w32 ((p : Int) + 1)) H G
          rw [w_p1 (by omega)]
          exact hk
        · rw [x_sc_no (by unfold x_bl; simp [h32, h10])] at hQ
          exact ⟨1, brT (by rw [hn]; omega) ⟨⟨by omega, by omega⟩, brF h32 ⟨⟨by omega, by omega⟩, brF h10 hQ⟩⟩⟩
    · rw [x_sc_no (fun z => hlt z.1)] at hQ
      exact ⟨1, brF (by rw [hn]; omega) hQ⟩
theorem cT_packed {Q : Int → e3_H → e3_G → Prop} {p q : Nat} (hq : q ≤ 1600) (hpq : p ≤ q) : ∀ (f k : Nat), p + k + f = q → Q (x_pk (H 4) p (q - p)) H G → ∃ nn, wT_packed_5 Q nn (q : Int) (x_pk (H 4) p k) ((p + k : Nat) : Int) H G := by
  intro f
  induction f with
  | zero =>
    intro k hk hQ
    have : k = q - p := by omega
    subst this
    exact ⟨1, brF (by omega) hQ⟩
  | succ f ih =>
    intro k hk hQ
    obtain ⟨nn, h⟩ := ih (k + 1) (by omega) hQ
    refine ⟨nn + 1, brT (by omega) ⟨⟨by omega, by omega⟩, ?_⟩⟩
    rw [w_p1 (by omega)]
    exact h
theorem cT_word {Q : Int → e3_H → e3_G → Prop} {v : Int} (hw : ∀ j : Int, 0 ≤ j → j < 11 → H 1 j = x_wd j) (hQ : Q (if x_wx v < 0 then 258 else 270 + x_wx v) H G) : wT_wordOrName Q v H G := by
  have key : ∀ (f j : Nat), j + f = 11 → (∀ i : Nat, i < j → x_wd i ≠ v) → ∃ nn, wT_wordOrName_2 Q nn v (j : Int) H G := by
    intro f
    induction f with
    | zero =>
      intro j hj hne
      have hj : j = 11 := by omega
      subst hj
      refine ⟨1, brF (by omega) ?_⟩
      have e : x_wx v = -1 := by
        have e0 := hne 0 (by omega)
        have e1 := hne 1 (by omega)
        have e2 := hne 2 (by omega)
        have e3 := hne 3 (by omega)
        have e4 := hne 4 (by omega)
        have e5 := hne 5 (by omega)
        have e6 := hne 6 (by omega)
        have e7 := hne 7 (by omega)
        have e8 := hne 8 (by omega)
        have e9 := hne 9 (by omega)
        have e10 := hne 10 (by omega)
        simp only [x_wd] at e0 e1 e2 e3 e4 e5 e6 e7 e8 e9 e10
        unfold x_wx
        rw [if_neg (fun z => e0 z.symm), if_neg (fun z => e1 z.symm), if_neg (fun z => e2 z.symm), if_neg (fun z => e3 z.symm), if_neg (fun z => e4 z.symm), if_neg (fun z => e5 z.symm), if_neg (fun z => e6 z.symm), if_neg (fun z => e7 z.symm), if_neg (fun z => e8 z.symm), if_neg (fun z => e9 z.symm), if_neg (fun z => e10 z.symm)]
      rw [e] at hQ
      exact hQ
    | succ f ih =>
      intro j hj hne
      by_cases hv : x_wd j = v
      · refine ⟨1, brT (by omega) ⟨⟨by omega, by omega⟩, brT (by rw [hw j (by omega) (by omega)]; exact hv) ?_⟩⟩
        have e : x_wx v = j := by
          match j, hj, hv with
          | 0, _, hv => rw [← hv]; rfl
          | 1, _, hv => rw [← hv]; rfl
          | 2, _, hv => rw [← hv]; rfl
          | 3, _, hv => rw [← hv]; rfl
          | 4, _, hv => rw [← hv]; rfl
          | 5, _, hv => rw [← hv]; rfl
          | 6, _, hv => rw [← hv]; rfl
          | 7, _, hv => rw [← hv]; rfl
          | 8, _, hv => rw [← hv]; rfl
          | 9, _, hv => rw [← hv]; rfl
          | 10, _, hv => rw [← hv]; rfl
          | j + 11, hj, _ => omega
        rw [e, if_neg (by omega)] at hQ
        rw [e3_w32_id (by omega) (by omega)]
        exact hQ
      · obtain ⟨nn, h⟩ := ih (j + 1) (by omega) (fun i hi => by
          by_cases hij : i = j
          · subst hij; exact hv
          · exact hne i (by omega))
        refine ⟨nn + 1, brT (by omega) ⟨⟨by omega, by omega⟩, brF (by rw [hw j (by omega) (by omega)]; exact hv) ?_⟩⟩
        rw [w_p1 (by omega)]
        exact h
  exact key 11 0 (by omega) (fun i hi => by omega)
end CT
