section GSM
variable {σ : e3_H} {m : Nat} {R : a_RW} {way : Int} {π0 : a_PT}
theorem kn_0 {x : Int} (hx : x ≠ 0) : ∀ π : a_PT, (∀ e, e ∈ π → e.1 = 0) → kn π x = none := by
  intro π
  induction π with
  | nil => intro _; rfl
  | cons e π ih =>
    intro h0
    have e1 := h0 e (List.mem_cons_self ..)
    show (if e.1 = x then some e.2 else kn π x) = none
    rw [if_neg (by omega)]
    exact ih (fun e he => h0 e (List.mem_cons_of_mem _ he))
theorem kn_app (h0 : ∀ e, e ∈ π0 → e.1 = 0) {x : Int} (hx : x ≠ 0) : ∀ ρ : a_PT, kn (ρ ++ π0) x = kn ρ x := by
  intro ρ
  induction ρ with
  | nil => exact kn_0 hx π0 h0
  | cons e ρ ih =>
    show (if e.1 = x then some e.2 else kn (ρ ++ π0) x) = (if e.1 = x then some e.2 else kn ρ x)
    rw [ih]
theorem ask_app (h0 : ∀ e, e ∈ π0 → e.1 = 0) {x : Int} (hx : x ≠ 0) (ρ : a_PT) : ask (ρ ++ π0) x = ask ρ x := by
  unfold ask
  rw [kn_app h0 hx ρ]
  by_cases z : (x - 1) / 8 = 0
  · rw [decide_eq_true z, Bool.true_or, Bool.true_or]
  · rw [kn_app h0 z ρ]
theorem lv_app {w : Int × List (Int × Int)} : ∀ ρ : a_PT, lv σ w (ρ ++ π0) = (lv σ w ρ && lv σ w π0) := by
  intro ρ
  induction ρ with
  | nil => exact (Bool.true_and _).symm
  | cons e ρ ih =>
    show (lv σ w (ρ ++ π0) && ok1 σ w e) = ((lv σ w ρ && ok1 σ w e) && lv σ w π0)
    rw [ih]
    cases lv σ w ρ <;> cases ok1 σ w e <;> cases lv σ w π0 <;> rfl
theorem lv_ung {w : Int × List (Int × Int)} (h : lv σ w π0 = ung σ w) (ρ : a_PT) : lv σ w (ρ ++ π0) = (lv σ w ρ && ung σ w) := by rw [lv_app, h]
theorem ltq_apg (x : Int) (ρ : a_PT) : ∀ R : a_RW, (∀ w, w ∈ R → lv σ w π0 = ung σ w) → ltq σ (ρ ++ π0) x R = ltq σ ρ x (R.filter (ung σ)) := by
  intro R
  induction R with
  | nil => intro _; rfl
  | cons w R ih =>
    intro hl
    have ih := ih (fun v hv => hl v (List.mem_cons_of_mem _ hv))
    have e := lv_ung (hl w (List.mem_cons_self ..)) ρ
    conv => lhs; unfold ltq
    rw [e, ih]
    cases hu : ung σ w with
    | false => rw [List.filter_cons_of_neg (by rw [hu]; decide), Bool.and_false, if_neg (by decide), List.nil_append]
    | true => rw [List.filter_cons_of_pos hu, Bool.and_true]; rfl
theorem lbs_app (hl : ∀ w, w ∈ R → lv σ w π0 = ung σ w) (ρ : a_PT) (x s : Int) : lbs σ m R (ρ ++ π0) x s = lbs σ m (R.filter (ung σ)) ρ x s := by
  unfold lbs
  rw [ltq_apg x ρ R hl]
theorem wor_app (hl : ∀ w, w ∈ R → lv σ w π0 = ung σ w) (ρ : a_PT) (q x : Int) (t : Nat) : wor σ m R (ρ ++ π0) way q x t = wor σ m (R.filter (ung σ)) ρ way q x t := by
  unfold wor
  rw [ltq_apg x ρ R hl, lbs_app hl]
theorem cho_app (h0 : ∀ e, e ∈ π0 → e.1 = 0) (hl : ∀ w, w ∈ R → lv σ w π0 = ung σ w) (ρ : a_PT) : ∀ (T : List (Int × Int)) (t : Nat) (c : Option (Int × Int)) (b : Int), (∀ p, p ∈ T → p.2 ≠ 0) → cho σ m R (ρ ++ π0) way T t c b = cho σ m (R.filter (ung σ)) ρ way T t c b := by
  intro T
  induction T with
  | nil => intro t c b _; rfl
  | cons p T ih =>
    intro t c b hp
    have ih := fun t c b => ih t c b (fun p h => hp p (List.mem_cons_of_mem _ h))
    show (if ask (ρ ++ π0) p.2 = true ∧ (c = none ∨ b < wor σ m R (ρ ++ π0) way p.1 p.2 t) then cho σ m R (ρ ++ π0) way T (t + 1) (some p) (wor σ m R (ρ ++ π0) way p.1 p.2 t) else cho σ m R (ρ ++ π0) way T (t + 1) c b) = (if ask ρ p.2 = true ∧ (c = none ∨ b < wor σ m (R.filter (ung σ)) ρ way p.1 p.2 t) then cho σ m (R.filter (ung σ)) ρ way T (t + 1) (some p) (wor σ m (R.filter (ung σ)) ρ way p.1 p.2 t) else cho σ m (R.filter (ung σ)) ρ way T (t + 1) c b)
    rw [ask_app h0 (hp p (List.mem_cons_self ..)) ρ, wor_app hl, ih, ih]
theorem fst_app (ρ : a_PT) : ∀ (R : a_RW) (i i' : Nat), (∀ w, w ∈ R → lv σ w π0 = ung σ w) → (fst σ (ρ ++ π0) R i = none ∧ fst σ ρ (R.filter (ung σ)) i' = none) ∨ ∃ (j j' : Nat) (w : Int × List (Int × Int)), fst σ (ρ ++ π0) R i = some (j, w) ∧ fst σ ρ (R.filter (ung σ)) i' = some (j', w) ∧ w ∈ R ∧ ung σ w = true := by
  intro R
  induction R with
  | nil => intro i i' _; exact Or.inl ⟨rfl, rfl⟩
  | cons w R ih =>
    intro i i' hl
    have ih := fun i i' => ih i i' (fun v hv => hl v (List.mem_cons_of_mem _ hv))
    have e := lv_ung (hl w (List.mem_cons_self ..)) ρ
    have sk : lv σ w (ρ ++ π0) = false → fst σ (ρ ++ π0) (w :: R) i = fst σ (ρ ++ π0) R (i + 1) := fun z => by
      show (if lv σ w (ρ ++ π0) = true then some (i, w) else fst σ (ρ ++ π0) R (i + 1)) = _
      rw [z, if_neg (by decide)]
    cases hu : ung σ w with
    | false =>
      rw [hu, Bool.and_false] at e
      rw [sk e, List.filter_cons_of_neg (by rw [hu]; decide)]
      rcases ih (i + 1) i' with z | ⟨j, j', v, a, b, c, d⟩
      · exact Or.inl z
      · exact Or.inr ⟨j, j', v, a, b, List.mem_cons_of_mem _ c, d⟩
    | true =>
      rw [hu, Bool.and_true] at e
      rw [List.filter_cons_of_pos hu]
      cases hv : lv σ w ρ with
      | false =>
        rw [hv] at e
        have sk2 : fst σ ρ (w :: R.filter (ung σ)) i' = fst σ ρ (R.filter (ung σ)) (i' + 1) := by
          show (if lv σ w ρ = true then some (i', w) else fst σ ρ (R.filter (ung σ)) (i' + 1)) = _
          rw [hv, if_neg (by decide)]
        rw [sk e, sk2]
        rcases ih (i + 1) (i' + 1) with z | ⟨j, j', v, a, b, c, d⟩
        · exact Or.inl z
        · exact Or.inr ⟨j, j', v, a, b, List.mem_cons_of_mem _ c, d⟩
      | true =>
        rw [hv] at e
        refine Or.inr ⟨i, i', w, ?_, ?_, List.mem_cons_self .., hu⟩
        · show (if lv σ w (ρ ++ π0) = true then some (i, w) else fst σ (ρ ++ π0) R (i + 1)) = _
          rw [e, if_pos rfl]
        · show (if lv σ w ρ = true then some (i', w) else fst σ ρ (R.filter (ung σ)) (i' + 1)) = _
          rw [hv, if_pos rfl]
/-- the tree of the rows without a guard: all rows with the guards behind, or those rows alone -/
theorem gr_ung (h0 : ∀ e, e ∈ π0 → e.1 = 0) (hl : ∀ w, w ∈ R → lv σ w π0 = ung σ w) (hp : ∀ w, w ∈ R → ∀ p, p ∈ w.2 → p.2 ≠ 0) : ∀ (k : Nat) (ρ : a_PT) (N : List a_ND), gr σ m R way k (ρ ++ π0) N → ∃ N', gr σ m (R.filter (ung σ)) way k ρ N' ∧ N'.map (·.1) = N.map (·.1) := by
  intro k
  induction k with
  | zero => intro ρ N h; exact h.elim
  | succ k ih =>
    intro ρ N h
    unfold gr at h
    rcases fst_app ρ R 0 0 hl with ⟨f1, f2⟩ | ⟨j, j', ⟨r, T⟩, f1, f2, hw, hu⟩
    · rw [f1] at h
      simp only at h
      subst h
      refine ⟨[(0, -1, -1, 0, lab ρ, 1)], ?_, rfl⟩
      unfold gr
      rw [f2]
      first | done | rfl
    · rw [f1] at h
      simp only at h
      have ec := cho_app (m := m) (way := way) h0 hl ρ T 0 none 0 (hp _ hw)
      cases hc : cho σ m (R.filter (ung σ)) ρ way T 0 none 0 with
      | none =>
        rw [ec, hc] at h
        simp only at h
        rcases h with ⟨a, b⟩ | ⟨a, _⟩
        · subst b
          refine ⟨[(1, (j' : Int), -1, 0, lab ρ, 1)], ?_, rfl⟩
          unfold gr
          rw [f2]
          simp only
          rw [hc]
          exact Or.inl ⟨a, by trivial⟩
        · exact absurd (of_decide_eq_true hu) a
      | some u =>
        obtain ⟨q, x⟩ := u
        rw [ec, hc] at h
        simp only at h
        obtain ⟨N1, a, b⟩ := h
        rw [lbs_app hl] at a b
        have key : ∀ (l : List (Int × Int)) (N1 : List a_ND), grs (gr σ m R way k) (ρ ++ π0) x l N1 → ∃ N2, grs (gr σ m (R.filter (ung σ)) way k) ρ x l N2 ∧ N2.map (·.1) = N1.map (·.1) := by
          intro l
          induction l with
          | nil => intro N1 h; have h : N1 = [] := h; exact ⟨[], rfl, by rw [h]⟩
          | cons e l ihl =>
            intro N1 h
            obtain ⟨A, B, e1, e2, e3⟩ := h
            obtain ⟨A', a1, a2⟩ := ih ((x, e.1, e.2) :: ρ) A e2
            obtain ⟨B', b1, b2⟩ := ihl B e3
            exact ⟨A' ++ B', ⟨A', B', rfl, a1, b1⟩, by rw [e1, List.map_append, List.map_append, a2, b2]⟩
        obtain ⟨N2, c1, c2⟩ := key _ _ a
        refine ⟨(ndo (σ 47 q), -1, x, ((lbs σ m (R.filter (ung σ)) ρ x (σ 47 q)).length : Int), lab ρ, 1 + (N2.length : Int)) :: N2, ?_, by rw [b, List.map_cons, List.map_cons, c2]⟩
        unfold gr
        rw [f2]
        simp only
        rw [hc]
        exact ⟨N2, c1, rfl⟩
theorem RR_ung {f : Int} {Vs : Int → Int → List (Int × Int)} : ∀ m : Nat, RR σ f Vs true m = (RR σ f Vs false m).filter (ung σ) := by
  intro m
  induction m with
  | zero => rfl
  | succ k ih =>
    have hf : rls σ f Vs false (k + 1) = rls σ f Vs false k ++ rlr f k Vs (σ 74 (16 * f + k)).toNat := by
      show rls σ f Vs false k ++ (if false = true ∧ σ 78 (16 * f + k) ≠ 0 then [] else rlr f k Vs (σ 74 (16 * f + k)).toNat) = _
      rw [if_neg (by simp)]
    have hr : ∀ w, w ∈ (rlr f k Vs (σ 74 (16 * f + k)).toNat).map (fun e => (e.1, tl σ e.2.2)) → w.1 = 16 * f + k := fun w hw => by
      obtain ⟨e, he, h2⟩ := List.mem_map.mp hw
      unfold rlr at he
      obtain ⟨v, _, h3⟩ := List.mem_map.mp he
      rw [← h2, ← h3]
    unfold RR at ih ⊢
    rw [hf, List.map_append, List.filter_append, ← ih]
    by_cases z : σ 78 (16 * f + k) = 0
    · have ht : rls σ f Vs true (k + 1) = rls σ f Vs true k ++ rlr f k Vs (σ 74 (16 * f + k)).toNat := by
        show rls σ f Vs true k ++ (if true = true ∧ σ 78 (16 * f + k) ≠ 0 then [] else rlr f k Vs (σ 74 (16 * f + k)).toNat) = _
        rw [if_neg (fun y => y.2 z)]
      rw [ht, List.map_append, (List.filter_eq_self (p := ung σ)).mpr (fun (w : Int × List (Int × Int)) hw => show decide (σ 78 w.1 = 0) = true from decide_eq_true (by rw [hr w hw]; exact z))]
    · have ht : rls σ f Vs true (k + 1) = rls σ f Vs true k := by
        show rls σ f Vs true k ++ (if true = true ∧ σ 78 (16 * f + k) ≠ 0 then [] else rlr f k Vs (σ 74 (16 * f + k)).toNat) = _
        rw [if_pos ⟨rfl, z⟩, List.append_nil]
      rw [ht, List.filter_eq_nil_iff.mpr (fun w hw y => z (by rw [← hr w hw]; exact of_decide_eq_true y)), List.append_nil]
end GSM
section MSC
variable {Q : Int → e3_H → e3_G → Prop} {σ g H : e3_H} {G : e3_G} {m nf : Nat} {Vs : Int → Int → Int → List (Int × Int)} {mr0 : Nat → Nat} {way km : Nat → Int} {N : Nat → List a_ND} {l1 : Int}
theorem vE_hasNone {t : Int} {N : List a_ND} {cx : Int → Int} {cnt : Nat} (h : zTR t H G) (hN : H t 0 = (N.length : Int)) (hT : TC t cx cnt 0 N H) (h1 : (0 : Int) ∈ N.map (·.1) → Q 1 H G) (h0 : (0 : Int) ∉ N.map (·.1) → Q 0 H G) : wE_hasNone Q t H G := by
  obtain ⟨⟨q, q0, ⟨p1, q1⟩, _⟩, t2, t3⟩ := h
  have key : ∀ (n j : Nat), j + n = N.length → (∀ (i : Nat) (d : a_ND), i < j → N[i]? = some d → d.1 ≠ 0) → wE_hasNone_2 Q (n + 1) t j H G := by
    intro n
    induction n with
    | zero =>
      intro j hj hs
      refine ⟨ga_ob (c := 5) q0, brF (by omega) (h0 (fun z => ?_))⟩
      obtain ⟨d, z1, z2⟩ := List.mem_map.mp z
      obtain ⟨i, hi⟩ := List.mem_iff_getElem?.mp z1
      exact hs i d (by have := (List.getElem?_eq_some_iff.mp hi).1; omega) hi z2
    | succ n ih =>
      intro j hj hs
      have hjl : j < N.length := by omega
      have hd : N[j]? = some N[j] := List.getElem?_eq_getElem hjl
      have ht := (hT j _ hd).1
      rw [show (0 : Int) + (j : Int) = j by omega] at ht
      refine ⟨ga_ob (c := 5) q0, brT (by omega) ⟨ga_ob (c := 5) q0, by rw [p1]; exact ga_oa q1 (by omega) (by omega), ?_⟩⟩
      rw [p1, ht]
      by_cases z : N[j].1 = 0
      · exact brT z (h1 (List.mem_map.mpr ⟨N[j], List.getElem_mem hjl, z⟩))
      · refine brF z ?_
        rw [w_p1 (by omega)]
        refine ih (j + 1) (by omega) (fun i d hi hid => ?_)
        by_cases y : i = j
        · subst y
          rw [hd] at hid
          cases hid
          exact z
        · exact hs i d (by omega) hid
  exact ⟨N.length + 1, key N.length 0 (by omega) (fun i d hi => absurd hi (Nat.not_lt_zero _))⟩
theorem cP_missing2 (hP : PXc σ m nf Vs mr0) (hX : TX σ g m nf Vs way km N H G) (hM : MKR H G) (h8 : C8 nf H) (hN : ∀ f : Nat, f < nf → NCt (N f)) (hno : ¬ (0 ≤ l1 ∧ l1 < (nf : Int)) → Q (-1) H G)
    (hbad : 0 ≤ l1 ∧ l1 < (nf : Int) → ∀ (k : Nat) (N' : List a_ND), gr σ m (RR σ (l1.toNat : Nat) (Vs (l1.toNat : Nat)) true (mr0 l1.toNat)) 0 k [] N' → 120 < N'.length → ∀ K G2, PDw σ g m nf Vs way km N H G K G2 → Q (-3) K G2)
    (h1 : 0 ≤ l1 ∧ l1 < (nf : Int) → ∀ (k : Nat) (N' : List a_ND), gr σ m (RR σ (l1.toNat : Nat) (Vs (l1.toNat : Nat)) true (mr0 l1.toNat)) 0 k [] N' → N'.length ≤ 120 → (0 : Int) ∈ N'.map (·.1) → ∀ K G2, PDw σ g m nf Vs way km N H G K G2 → Q 1 K G2)
    (h0 : 0 ≤ l1 ∧ l1 < (nf : Int) → ∀ (k : Nat) (N' : List a_ND), gr σ m (RR σ (l1.toNat : Nat) (Vs (l1.toNat : Nat)) true (mr0 l1.toNat)) 0 k [] N' → N'.length ≤ 120 → (0 : Int) ∉ N'.map (·.1) → ∀ K G2, PDw σ g m nf Vs way km N H G K G2 → Q 0 K G2) : wP_missing Q l1 H G := by
  have hS := zSX_of hX hP.1.2.1 hN
  have h3 := hX.1
  refine zR_fA hS l1 (fun hx hfu => brF (by have := hfu.1.1; omega) ?_) (fun z => brT (by decide) (hno (fun y => z (by omega))))
  have ob := ga_ob (c := 8) hfu.1.2
  refine ⟨ob, ?_⟩
  have hf : l1.toNat < nf := by omega
  have ef : ((l1.toNat : Nat) : Int) = l1 := by omega
  have hc : 0 ≤ l1 ∧ l1 < (nf : Int) := by omega
  have hbad := hbad hc
  have h1 := h1 hc
  have h0 := h0 hc
  obtain ⟨cx, pn, cnt, mr, y1, y2, hDX⟩ := DX_of (hX.2.2.1 l1.toNat hf) ⟨hX.2.1, hP.1.2.2.2.2.1⟩
  have hmr : mr = mr0 l1.toNat := by have := (hP.2.2.2.2.2.2 l1.toNat hf).1; omega
  subst hmr
  have h74 : ∀ k : Nat, (k : Int) < σ 70 (l1.toNat : Nat) → 0 ≤ σ 74 (16 * ((l1.toNat : Nat) : Int) + k) := fun k hk => by
    obtain ⟨cx, pn, cnt, mm, A, B, ⟨_, _, _, _, _, b9, _⟩, h2, _⟩ := hX.2.2.1 l1.toNat hf
    exact (b9 k (by omega)).2.1
  have hr := RT_of (un := false) hP.1 hP.2.1.1 hP.2.2.2.1 hf h74 (mr0 l1.toNat) (by omega)
  have hDX' := hDX
  rw [ef] at hDX'
  have hr' := hr
  rw [ef] at hr'
  refine cF_unguarded hDX' hfu (fun w hw => (hr' w hw).2.2.1) (fun M π e1 e2 e3 hMK => ?_)
  obtain ⟨kk, N', hgr⟩ := gr_ex (σ := σ) (m := m) (R := RR σ (l1.toNat : Nat) (Vs (l1.toNat : Nat)) false (mr0 l1.toNat)) (way := 0) _ π (Nat.le_refl _)
  obtain ⟨N2, g1, g2⟩ := gr_ung (R := RR σ (l1.toNat : Nat) (Vs (l1.toNat : Nat)) false (mr0 l1.toNat)) (π0 := π) e1 (by rw [ef]; exact e3) (fun w hw p hp => by have := ((hr w hw).1.2.2 p hp).2.2; omega) kk [] N' hgr
  rw [← RR_ung] at g1
  have gl : N2.length = N'.length := by rw [← List.length_map (f := (·.1)), g2, List.length_map]
  have := cP_drc (Q := fun x9 H7 G8 => (((x9 : Int) = 0 → Q (-3) H7 G8) ∧ (¬ ((x9 : Int) = 0) → (e3_ob G8 5 (H7 16 1)) ∧ (wE_hasNone (fun x12 H10 G11 => (((x12 : Int) = 0 → (wP_missing_52 Q 0 H10 G11)) ∧ (¬ ((x12 : Int) = 0) → (wP_missing_52 Q 1 H10 G11)))) (H7 16 1) H7 G8)))) (f := l1.toNat) (w := 0) (N' := N') (π := π) (M := M) hP hX hM h8 hf e1 (by rw [ef]; exact e2) hgr (by rw [ef]; exact hMK) (fun hn K G2 d1 d2 d3 d4 d5 d6 => brF (by decide) ?_) (fun hn K G2 d1 d2 d3 d6 => brT rfl (hbad kk N2 g1 (by omega) K G2 ⟨d1, d2, MKR_D hM d3 d1, C8_D hX h8 d1, d6⟩))
  · rw [ef] at this
    exact this
  · have pd : PDw σ g m nf Vs way km N H G K G2 := ⟨d1, d2, MKR_D hM d3 d1, C8_D hX h8 d1, d6⟩
    obtain ⟨cx2, cnt2, c1, c2, c3, c4, c5, c6⟩ := d4
    exact ⟨ga_ob (c := 5) d3.1.2.1, vE_hasNone d5 c3 c6 (fun z => brF (by decide) (h1 kk N2 g1 (by omega) (by rw [g2]; exact z) K G2 pd)) (fun z => brT rfl (h0 kk N2 g1 (by omega) (by rw [g2]; exact z) K G2 pd))⟩
theorem nM_missing {k : Nat} {N' : List a_ND} (hP : PXc σ m nf Vs mr0) (hT : TM0 σ m nf H) (hg : 0 ≤ l1 → l1 < (nf : Int) → gr σ m (RR σ (l1.toNat : Nat) (Vs (l1.toNat : Nat)) true (mr0 l1.toNat)) 0 k [] N') (hno : ¬ (0 ≤ l1 ∧ l1 < (nf : Int)) → Q (-1) H G)
    (hbad : 0 ≤ l1 ∧ l1 < (nf : Int) → 120 < N'.length → ∀ K, mv 12 H K → Q (-3) K G)
    (h1 : 0 ≤ l1 ∧ l1 < (nf : Int) → N'.length ≤ 120 → (0 : Int) ∈ N'.map (·.1) → ∀ K, mv 12 H K → Q 1 K G)
    (h0 : 0 ≤ l1 ∧ l1 < (nf : Int) → N'.length ≤ 120 → (0 : Int) ∉ N'.map (·.1) → ∀ K, mv 12 H K → Q 0 K G) : wM_missing Q l1 H G := by
  obtain ⟨p1, ⟨p2, p3⟩, p4, p5, p6, p7, p8⟩ := hP
  obtain ⟨t1, ⟨t2, _⟩, t3⟩ := hT
  have h12 := p1.2.1
  refine cM_in (fun a b => ⟨Or.inr rfl, brF (by decide) ?_⟩) (fun z => ⟨Or.inl rfl, brT rfl (hno (fun y => z (by rw [t3, e3_w32_id (by omega) (by omega)]; omega)))⟩)
  rw [t3, e3_w32_id (by omega) (by omega)] at b
  have hf : l1.toNat < nf := by omega
  have ef : ((l1.toNat : Nat) : Int) = l1 := by omega
  have hc : 0 ≤ l1 ∧ l1 < (nf : Int) := by omega
  have hg := hg hc.1 hc.2
  have hbad := hbad hc
  have h1 := h1 hc
  have h0 := h0 hc
  obtain ⟨q1, q2⟩ := p8 l1.toNat hf
  have hF := SFT_of (un := true) p1 p2 p5 p6 hf p7 q2
  have := cM_makes (Q := fun x6 H4 G5 => (((x6 : Int) = 0 → Q (-3) H4 G5) ∧ (¬ ((x6 : Int) = 0) → (∃ n, wM_missing_29 Q n 0 0 H4 G5)))) (G := G) (slot := 12) (l4 := 1) (f := (l1.toNat : Nat)) q2 (Or.inl ⟨rfl, by decide⟩) t1 t2 hF (W4_of q2) (by decide) (by decide) hg (fun hn K D w1 w2 w3 w4 w5 w6 w7 => brF (by decide) ?_) (fun hn K w1 => brT rfl (hbad hn K w1))
  · rw [ef] at this
    exact this
  · have hA := RTa_of w6 w7 w2
    have at2 : ∀ (i : Nat) (d : a_ND), N'[i]? = some d → K 102 (3600 + i) = d.1 := fun i d hi => (hA i d hi).1.1
    have key : ∀ (dd j : Nat) (l2 : Int), j + dd = N'.length → (l2 = 0 ∨ l2 = 1) → (l2 = 1 → (0 : Int) ∈ N'.map (·.1)) → (l2 = 0 → ∀ (i : Nat) (d : a_ND), i < j → N'[i]? = some d → d.1 ≠ 0) → wM_missing_29 Q (dd + 1) l2 j K G := by
      intro dd
      induction dd with
      | zero =>
        intro j l2 hj h01 hh hs
        refine brF (by rw [w3]; omega) ?_
        rcases h01 with z | z
        · refine brT z (h0 hn (fun y => ?_) K w1)
          obtain ⟨d, y1, y2⟩ := List.mem_map.mp y
          obtain ⟨i, hi⟩ := List.mem_iff_getElem?.mp y1
          exact hs z i d (by have := (List.getElem?_eq_some_iff.mp hi).1; omega) hi y2
        · exact brF (by omega) (h1 hn (hh z) K w1)
      | succ dd ih =>
        intro j l2 hj h01 hh hs
        have hjl : j < N'.length := by omega
        have hd := List.getElem?_eq_getElem hjl
        have nx1 : (0 : Int) ∈ N'.map (·.1) → wM_missing_57 Q (fun l2 l3 H G => wM_missing_29 Q (dd + 1) l2 l3 H G) j K G := fun z => by
          show wM_missing_29 Q (dd + 1) 1 (e3_w32 ((j : Int) + 1)) K G
          rw [w_p1 (by omega)]
          exact ih (j + 1) 1 (by omega) (Or.inr rfl) (fun _ => z) (fun y => absurd y (by decide))
        refine brT (by rw [w3]; omega) ?_
        rcases h01 with z | z
        · refine brT z ?_
          rw [e3_w32_id (x := 3600 + (j : Int)) (by omega) (by omega), at2 j _ hd]
          refine ⟨by omega, ?_⟩
          by_cases y : N'[j].1 = 0
          · exact brT y (nx1 (List.mem_map.mpr ⟨N'[j], List.getElem_mem hjl, y⟩))
          · refine brF y ?_
            show wM_missing_29 Q (dd + 1) 0 (e3_w32 ((j : Int) + 1)) K G
            rw [w_p1 (by omega)]
            refine ih (j + 1) 0 (by omega) (Or.inl rfl) (fun v => absurd v (by decide)) (fun _ i d hi hid => ?_)
            by_cases v : i = j
            · subst v
              rw [hd] at hid
              cases hid
              exact y
            · exact hs z i d (by omega) hid
        · exact brF (by omega) (nx1 (hh z))
    exact ⟨N'.length + 1, key N'.length 0 0 (by omega) (Or.inl rfl) (fun z => absurd z (by decide)) (fun _ i d hi => absurd hi (Nat.not_lt_zero _))⟩
end MSC
section JMS
variable {n : Nat} {H : e3_H} {G : e3_G} {R : Int → Int → e3_H → e3_G → Prop} {W : Int → e3_H → e3_G → Prop}
/-- missing, in both, with equal answers -/
theorem j_missing_e {l1 : Int} (h : JI n H G) (hR : JRe n H G R) (hW : JW H R (fun Q H G => wM_missing Q l1 H G) W) : wP_missing W l1 H G := by
  obtain ⟨⟨hM, _⟩, _, _, _, hO⟩ := id h
  rcases hO with ⟨y1, y2, k14, _, _, k41⟩ | ⟨y1, y2, σ, g, m, nf, Vs, mr0, way, km, N, p1, p2, p3, p4, p5, p6⟩
  · refine zR_functionAt (JI_K h).2.2 l1 (fun hx _ => absurd hx (by omega)) (brT (by decide) (hW _ H G (fun _ => rfl) ?_))
    refine cM_in (fun a b => ?_) (fun _ => ⟨Or.inl rfl, brT rfl (hR _ n H G h (by omega) (fun _ => rfl))⟩)
    rw [k41] at b
    exact absurd b (by have : e3_w32 (0 - 1) = -1 := by decide
                       omega)
  have fin : ∀ (x : Int) (K : e3_H) (G2 : e3_G), PDw σ g m nf Vs way km N H G K G2 → ∀ K2 : e3_H, mv 12 K K2 → R x x K2 G2 := fun x K G2 d K2 r => by
    have r1 := zRMk_mv r
    exact hR x n K2 G2 (JI_mk h y1 y2 p1 p5 d p3 r1 (TRS_mv p1.1.2.1 (TRS_D p6 d.1) r)) (by have := d.2.2.2.2; omega) (fun k => by rw [r1.1 0 k (by decide) (by decide)]; exact d.1.2.2 0 k (by omega))
  have e0 : ∀ {K : e3_H} {G2 : e3_G}, PDw σ g m nf Vs way km N H G K G2 → ∀ k : Int, K 0 k = H 0 k := fun d k => d.1.2.2 0 k (by omega)
  refine cP_missing2 p1 p2 hM p4 p3 (fun z => hW _ H G (fun _ => rfl) ?_) (fun c k N' hg hn K G2 d => hW _ K G2 (e0 d) ?_) (fun c k N' hg hn hh K G2 d => hW _ K G2 (e0 d) ?_) (fun c k N' hg hn hh K G2 d => hW _ K G2 (e0 d) ?_)
  · exact nM_missing (k := 0) (N' := []) p1 p5 (fun a b => absurd ⟨a, b⟩ z) (fun _ => hR _ n H G h (by omega) (fun _ => rfl)) (fun c => absurd c z) (fun c => absurd c z) (fun c => absurd c z)
  · exact nM_missing p1 (TM0_D p5 d.1) (fun _ _ => hg) (fun z => absurd c z) (fun _ _ K2 r => fin _ K G2 d K2 r) (fun _ z => absurd z (by omega)) (fun _ z => absurd z (by omega))
  · exact nM_missing p1 (TM0_D p5 d.1) (fun _ _ => hg) (fun z => absurd c z) (fun _ z => absurd z (by omega)) (fun _ _ _ K2 r => fin _ K G2 d K2 r) (fun _ _ z => absurd hh z)
  · exact nM_missing p1 (TM0_D p5 d.1) (fun _ _ => hg) (fun z => absurd c z) (fun _ z => absurd z (by omega)) (fun _ _ z => absurd z hh) (fun _ _ _ K2 r => fin _ K G2 d K2 r)
end JMS
