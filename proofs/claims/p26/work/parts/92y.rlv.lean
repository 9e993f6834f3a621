/-- does a test stand for a part, as the reference asks it -/
def hr (σ : e3_H) (q : Int) (v : Int × Int) : Bool := if σ 46 q = 1 then decide (σ 48 q ≤ v.1) && decide (v.2 ≤ σ 49 q) else hld σ q v.2
theorem pts_lo : ∀ (l : List Int) (a : Int) (v : Int × Int), l.Pairwise (· < ·) → (∀ c, c ∈ l → a ≤ c) → v ∈ pts a l → a ≤ v.1 := by
  intro l
  induction l with
  | nil => intro a v _ _ h; have h : v ∈ [(a, 2147483647)] := h; rw [List.mem_singleton.mp h]; exact Int.le_refl _
  | cons c l ih =>
    intro a v hp ha h
    obtain ⟨h1, h2⟩ := List.pairwise_cons.mp hp
    have hac := ha c (List.mem_cons_self ..)
    rcases List.mem_cons.mp h with z | z
    · rw [z]; exact Int.le_refl _
    · have := ih (c + 1) v h2 (fun d hd => by have := h1 d hd; omega) z
      omega
theorem pts_ok : ∀ (l : List Int) (a : Int) (v : Int × Int), l.Pairwise (· < ·) → (∀ c, c ∈ l → a ≤ c ∧ c < 2147483647) → a ≤ 2147483647 → v ∈ pts a l → v.1 ≤ v.2 ∧ ∀ c, c ∈ l → c < v.2 → c < v.1 := by
  intro l
  induction l with
  | nil => intro a v _ _ ha h; have h : v ∈ [(a, 2147483647)] := h; rw [List.mem_singleton.mp h]; exact ⟨ha, fun c hc => absurd hc (List.not_mem_nil)⟩
  | cons c l ih =>
    intro a v hp ha hm h
    obtain ⟨h1, h2⟩ := List.pairwise_cons.mp hp
    have hac := ha c (List.mem_cons_self ..)
    have hl : ∀ d, d ∈ l → c + 1 ≤ d ∧ d < 2147483647 := fun d hd => ⟨by have := h1 d hd; omega, (ha d (List.mem_cons_of_mem _ hd)).2⟩
    rcases List.mem_cons.mp h with z | z
    · rw [z]
      refine ⟨hac.1, fun d hd hdc => ?_⟩
      have hdc : d < c := hdc
      rcases List.mem_cons.mp hd with y | y
      · omega
      · have := h1 d y; omega
    · obtain ⟨i1, i2⟩ := ih (c + 1) v h2 hl (by omega) z
      refine ⟨i1, fun d hd hdv => ?_⟩
      rcases List.mem_cons.mp hd with y | y
      · have := pts_lo l (c + 1) v h2 (fun d hd => (hl d hd).1) z
        omega
      · exact i2 d y hdv
section RLV
variable {σ : e3_H} {m : Nat} {R : a_RW} {f : Int}
theorem cuts_sub : ∀ (Q l : List Int) (x : Int), x ∈ l → x ∈ cuts σ Q l := by
  intro Q
  induction Q with
  | nil => intro l x h; exact h
  | cons q Q ih => intro l x h; exact ih _ x ((cin_mem _ x).mpr (Or.inr ((cin_mem _ x).mpr (Or.inr h))))
theorem cuts_has {q : Int} : ∀ (Q l : List Int), q ∈ Q → σ 48 q - 1 ∈ cuts σ Q l := by
  intro Q
  induction Q with
  | nil => intro l h; exact absurd h (List.not_mem_nil)
  | cons a Q ih =>
    intro l h
    rcases List.mem_cons.mp h with z | z
    · rw [z]; exact cuts_sub Q _ _ ((cin_mem _ _).mpr (Or.inr ((cin_mem _ _).mpr (Or.inl rfl))))
    · exact ih _ z
theorem ltq_in {π : a_PT} {x q : Int} {w : Int × List (Int × Int)} (hw : w ∈ R) (hl : lv σ w π = true) (hq : tq w.2 x = some q) : q ∈ ltq σ π x R := by
  obtain ⟨A, B, e⟩ := List.append_of_mem hw
  rw [e, ltq_app]
  refine List.mem_append_right _ ?_
  show q ∈ ltq σ π x ([w] ++ B)
  rw [ltq_app, ltq_some hl hq]
  exact List.mem_append_left _ (List.mem_singleton.mpr rfl)
/-- the part that a label of WHOLES tells -/
theorem lbs_pts {π : a_PT} {x q : Int} {v : Int × Int} (hR : RT σ f R) (hv : v ∈ lbs σ m R π x (σ 47 q)) (h47 : σ 47 q = 0) (hs : ∀ w, w ∈ R → lv σ w π = true → ∀ q', (q', x) ∈ w.2 → σ 47 q' = σ 47 q) : v.1 ≤ v.2 ∧ ∀ c, c ∈ cuts σ (ltq σ π x R) [] → c < v.2 → c < v.1 := by
  unfold lbs at hv
  rw [if_pos h47] at hv
  refine pts_ok _ _ v (cuts_srt _ _ List.Pairwise.nil) (fun c hc => ?_) (by decide) hv
  rcases cuts_mem _ _ _ hc with y | ⟨q', y1, y2⟩
  · exact absurd y (List.not_mem_nil)
  · obtain ⟨w, w1, w2, w3⟩ := ltq_mem R q' y1
    obtain ⟨n1, n2, _⟩ := (hR w w1).2.2 (q', x) w3
    have h0 := hs w w1 w2 q' w3
    have h46 := (nod_0 n1 n2).1 (by show σ 47 q' = 0; omega)
    have hb := n1.2.1 h46
    have hb1 : -999999999 ≤ σ 48 q' ∧ σ 48 q' ≤ 999999999 := hb.2.1
    have hb2 : -999999999 ≤ σ 49 q' ∧ σ 49 q' ≤ 999999999 := hb.2.2
    omega
theorem hr_hld {π : a_PT} {x q : Int} {v : Int × Int} (hR : RT σ f R) (hn : nod σ q) (hv : v ∈ lbs σ m R π x (σ 47 q)) (hs : ∀ w, w ∈ R → lv σ w π = true → ∀ q', (q', x) ∈ w.2 → σ 47 q' = σ 47 q) (h : hr σ q v = true) : hld σ q v.2 = true := by
  unfold hr at h
  split at h
  · rename_i h1
    have hb := hn.2.1 h1
    have hp := (lbs_pts hR hv hb.1 hs).1
    rw [Bool.and_eq_true] at h
    have a1 := of_decide_eq_true h.1
    have a2 := of_decide_eq_true h.2
    unfold hld
    rw [if_neg (by omega)]
    have e1 : c_lo σ q = σ 48 q := by unfold c_lo; rw [if_pos (by omega)]
    have e2 : c_hi σ q = σ 49 q := by unfold c_hi; rw [if_pos h1]
    rw [e1, e2, decide_eq_true (by omega), decide_eq_true a2]
    rfl
  · exact h
theorem hld_hr {π : a_PT} {x q : Int} {v : Int × Int} {w : Int × List (Int × Int)} (hR : RT σ f R) (hw : w ∈ R) (hl : lv σ w π = true) (hq : (q, x) ∈ w.2) (hv : v ∈ lbs σ m R π x (σ 47 q)) (hs : ∀ w, w ∈ R → lv σ w π = true → ∀ q', (q', x) ∈ w.2 → σ 47 q' = σ 47 q) (h : hld σ q v.2 = true) : hr σ q v = true := by
  obtain ⟨pw, _, nd⟩ := hR w hw
  obtain ⟨n1, n2, _⟩ := nd (q, x) hq
  have n1 : nod σ q := n1
  unfold hr
  split
  · rename_i h1
    have hb := n1.2.1 h1
    have hp := (lbs_pts hR hv hb.1 hs).2 (σ 48 q - 1) (cuts_has _ _ (ltq_in hw hl (tq_of w.2 (q, x) pw hq)))
    unfold hld at h
    rw [if_neg (by omega)] at h
    have e1 : c_lo σ q = σ 48 q := by unfold c_lo; rw [if_pos (by omega)]
    have e2 : c_hi σ q = σ 49 q := by unfold c_hi; rw [if_pos h1]
    rw [e1, e2, Bool.and_eq_true] at h
    have a1 := of_decide_eq_true h.1
    have a2 := of_decide_eq_true h.2
    rw [decide_eq_true (by omega), decide_eq_true a2]
    rfl
  · exact h
/-- possible rows stand as the reference asks -/
theorem lv_hr (hR : RT σ f R) {w : Int × List (Int × Int)} (hw : w ∈ R) : ∀ π : a_PT, SP σ m R π → lv σ w π = true → ∀ p, p ∈ w.2 → ∀ v, kn π p.2 = some v → hr σ p.1 v = true := by
  obtain ⟨pw, _, nd⟩ := hR w hw
  intro π
  induction π with
  | nil => intro _ _ p _ v h; cases h
  | cons e π ih =>
    intro hS hl p hp v hv
    have hl2 := hl
    have hl : (lv σ w π && ok1 σ w e) = true := hl
    rw [Bool.and_eq_true] at hl
    have hv2 := hv
    unfold kn at hv
    split at hv
    · rename_i hz
      cases hv
      have hpx := (nd p hp).2.2
      rcases hS.2 with ⟨z, _⟩ | ⟨_, z, s, z0, z1, z2, _⟩
      · omega
      · have h47 := z2 w hw hl.1 p.1 (by rw [hz]; exact hp)
        have hh := lv_hld pw (fun p hp => by have := (nd p hp).2.2; omega) (e :: π) hl2 p hp e.2 hv2
        rw [← h47, hz] at z1
        exact hld_hr (x := p.2) (w := w) hR hw hl.1 hp z1 (fun w' h1 h2 q' h3 => by rw [h47]; exact z2 w' h1 h2 q' (by rw [hz]; exact h3)) hh
    · exact ih hS.1 hl.1 p hp v hv
/-- rows that stand as the reference asks are possible -/
theorem hr_lv (hR : RT σ f R) {w : Int × List (Int × Int)} (hw : w ∈ R) : ∀ π : a_PT, SP σ m R π → psd w.1 π = false → (∀ p, p ∈ w.2 → ∀ v, kn π p.2 = some v → hr σ p.1 v = true) → lv σ w π = true := by
  obtain ⟨pw, _, nd⟩ := hR w hw
  intro π
  induction π with
  | nil => intro _ _ _; rfl
  | cons e π ih =>
    intro hS hp h
    have hp : ((decide (e.1 = 0) && decide (e.2.1 = w.1)) || psd w.1 π) = false := hp
    rw [Bool.or_eq_false_iff] at hp
    have hl := ih hS.1 hp.2 (fun p hpm v hv => h p hpm v (kn_mono hS (nd p hpm).2.2 hv))
    show (lv σ w π && ok1 σ w e) = true
    rw [hl, Bool.true_and]
    unfold ok1
    split
    · rename_i h0
      have h1 := hp.1
      rw [decide_eq_true h0, Bool.true_and] at h1
      have := of_decide_eq_false h1
      exact decide_eq_true (fun z => this z.symm)
    · rename_i h0
      split
      · rfl
      · rename_i q hq
        have hm := tq_mem _ _ _ hq
        have hkn : kn (e :: π) e.1 = some e.2 := by unfold kn; rw [if_pos rfl]
        have hh := h (q, e.1) hm e.2 hkn
        rcases hS.2 with ⟨z, _⟩ | ⟨_, z, s, z0, z1, z2, _⟩
        · exact absurd z h0
        · have h47 := z2 w hw hl q hm
          rw [← h47] at z1
          exact hr_hld (x := e.1) hR (nd (q, e.1) hm).1 z1 (fun w' h1 h2 q' h3 => by rw [h47]; exact z2 w' h1 h2 q' h3) hh
end RLV
