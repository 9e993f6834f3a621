/-- what the maker's table of known labels is -/
def DA (ka t : Int) (G : e3_G) (kl : Nat) : Prop := (24 ≤ ka ∧ g_at G ka (1, kl)) ∧ (16 ≤ kl ∧ kl ≤ 1000000) ∧ (ka = 24 ∨ 139 ≤ ka) ∧ ka ≠ t + 6
/-- what drawing leaves as it was -/
def DR (t : Int) (H : e3_H) (G : e3_G) (K : e3_H) (G2 : e3_G) (cnt : Nat) : Prop := (∀ a x : Int, a < G.length → a ≠ 16 → a ≠ 25 → a ≠ H 16 4 → a ≠ t → ¬ (t + 1 ≤ a ∧ a ≤ t + 6) → K a x = H a x) ∧ (∀ x : Int, x ≠ 2 → x ≠ 3 → x ≠ 4 → x ≠ 6 → x ≠ 7 → K 16 x = H 16 x) ∧ ((G2 = G ∧ K 16 4 = H 16 4 ∧ (cnt : Int) ≤ e3_ln G (H 16 4)) ∨ (G2 = G ++ [(1, cnt)] ∧ K 16 4 = G.length ∧ e3_ln G (H 16 4) < cnt)) ∧ ∀ x : Int, 4 ≤ x → K t x = H t x
theorem cJ_fill {Q : e3_H → e3_G → Prop} {H : e3_H} {G : e3_G} {ka v : Int} {kl : Nat} (h : 2 ≤ ka ∧ g_at G ka (1, kl)) (hkl : kl ≤ 1000000) (hQ : ∀ K, (∀ a x : Int, a ≠ ka → K a x = H a x) → (∀ p : Int, 0 ≤ p → p < kl → K ka p = v) → Q K G) : wJ_fill_AJJ Q ka v H G := by
  have key : ∀ (d j : Nat) (K : e3_H), j + d = kl → (∀ a x : Int, a ≠ ka → K a x = H a x) → (∀ p : Int, 0 ≤ p → p < j → K ka p = v) → wJ_fill_AJJ_6 Q (d + 1) ka v j kl K G := by
    intro d
    induction d with
    | zero =>
      intro j K hj h1 h2
      exact brF (by omega) (hQ K h1 (fun p p0 p1 => h2 p p0 (by omega)))
    | succ d ih =>
      intro j K hj h1 h2
      refine brT (by omega) ⟨ga_oa h.2 h.1 ⟨by omega, by omega⟩, ?_⟩
      intro H1 e1
      rw [e3_w32_id (x := (j : Int) + 1) (by omega) (by omega)]
      refine ih (j + 1) H1 (by omega) (fun a x ha => by rw [e1, e3_up_ne (ne_1 ha)]; exact h1 a x ha) (fun p p0 p1 => ?_)
      by_cases hp : p = j
      · rw [hp, e1, e3_up_self]
      · rw [e1, e3_up_ne (fun z => hp z.2)]
        exact h2 p p0 (by omega)
  unfold wJ_fill_AJJ
  rw [ga_ln h.2]
  exact ⟨⟨h.1, by omega, kl, h.2.2⟩, kl + 1, key kl 0 H (by omega) (fun _ _ _ => rfl) (fun p p0 p1 => by omega)⟩
section CDR
variable {σ g : e3_H} {m : Nat} {pn cx : Int → Int} {cnt : Nat} {R : a_RW} {fu way t : Int}
/-- the table is filled, the tree cleared, the tree grows -/
theorem cD_32 {Q : Int → e3_H → e3_G → Prop} {H : e3_H} {G : e3_G} {k M kl : Nat} {π : a_PT} {N : List a_ND} {f : Int} (hG : GB G) (hD : DX σ g m pn cx cnt R fu H G) (h2 : H 16 2 = fu) (h3 : H 16 3 = way) (h1 : H 16 1 = t) (hT : TRE t H G) (hA : DA (H 16 4) t G kl) (hcl : cnt ≤ kl) (hRT : RT σ f R) (hKP : KP σ m) (h47 : ∀ w, w ∈ R → ∀ p, p ∈ w.2 → σ 47 p.1 ≤ 100) (hr0 : ∀ w, w ∈ R → 0 ≤ w.1) (hπ : ∀ e, e ∈ π → e.1 = 0) (hSP : SP σ m R π) (hgr : gr σ m R way k π N) (hM : MK R (fun w => lv σ w π) M)
    (hok : N.length ≤ 120 → ∀ K : e3_H, (∀ a x : Int, a ≠ 16 → a ≠ 25 → a ≠ H 16 4 → a ≠ t → ¬ (t + 1 ≤ a ∧ a ≤ t + 6) → K a x = H a x) → (∀ x : Int, x ≠ 6 → x ≠ 7 → K 16 x = H 16 x) → (∀ x : Int, 4 ≤ x → K t x = H t x) → K t 0 = (N.length : Int) → K t 2 = way → K t 3 = H 8 0 → TC t cx cnt 0 N K → Q 1 K G)
    (hbad : 120 < N.length → ∀ K : e3_H, (∀ a x : Int, a ≠ 16 → a ≠ 25 → a ≠ H 16 4 → a ≠ t → ¬ (t + 1 ≤ a ∧ a ≤ t + 6) → K a x = H a x) → (∀ x : Int, x ≠ 6 → x ≠ 7 → K 16 x = H 16 x) → (∀ x : Int, 4 ≤ x → K t x = H t x) → Q 0 K G) : wD_draw_32 Q way (M : Int) H G := by
  obtain ⟨⟨k1, k2⟩, k3, k4, k5⟩ := hA
  obtain ⟨t0, t1, tr⟩ := id hT
  have ob5 := ga_ob (c := 5) t1
  have nka : ∀ a : Int, t + 1 ≤ a → a ≤ t + 6 → a ≠ H 16 4 := fun a z1 z2 z3 => by
    obtain ⟨u2, v2, w2, x2, y2, z2'⟩ := tr
    have m1 := ga_ne k2 u2.2 (by decide)
    have m2 := ga_ne k2 v2.2 (by decide)
    have m3 := ga_ne k2 w2.2 (by decide)
    have m4 := ga_ne k2 x2.2 (by decide)
    have m5 := ga_ne k2 y2.2 (by decide)
    omega
  have nkt : H 16 4 ≠ t := ga_ne k2 t1 (by decide)
  refine cJ_fill ⟨by omega, k2⟩ k3.2 (fun K1 f1 f2 => ?_)
  intro H4 e4
  intro H5 e5
  have at5 : ∀ a x : Int, a ≠ 16 → H5 a x = K1 a x := fun a x ha => by rw [e5, e3_up_ne (ne_1 ha), e4, e3_up_ne (ne_1 ha)]
  have at516 : ∀ x : Int, x ≠ 6 → x ≠ 7 → H5 16 x = H 16 x := fun x h6 h7 => by rw [e5, e3_up_ne (fun z => h7 z.2), e4, e3_up_ne (fun z => h6 z.2)]; exact f1 16 x (by omega)
  rw [at516 1 (by decide) (by decide), h1, at5 8 0 (by decide), f1 8 0 (by omega)]
  refine ⟨ob5, ob5, ?_⟩
  intro C1 c1
  refine ⟨ob5, ?_⟩
  intro C3 c3
  refine ⟨ob5, ?_⟩
  intro C5 c5
  refine ⟨ob5, ?_⟩
  intro C7 c7
  have at7 : ∀ a x : Int, a ≠ t → C7 a x = H5 a x := fun a x ha => by rw [c7, e3_up_ne (ne_1 ha), c5, e3_up_ne (ne_1 ha), c3, e3_up_ne (ne_1 ha), c1, e3_up_ne (ne_1 ha)]
  have at7t : ∀ x : Int, 4 ≤ x → C7 t x = H t x := fun x hx => by
    rw [c7, e3_up_ne (by omega), c5, e3_up_ne (by omega), c3, e3_up_ne (by omega), c1, e3_up_ne (by omega), at5 t x (by omega)]
    exact f1 t x (fun z => nkt z.symm)
  have base : ∀ a x : Int, a ≠ 16 → a ≠ H 16 4 → a ≠ t → C7 a x = H a x := fun a x h6 h7 h8 => by rw [at7 a x h8, at5 a x h6]; exact f1 a x h7
  have b16 : ∀ x : Int, x ≠ 6 → x ≠ 7 → C7 16 x = H 16 x := fun x h6 h7 => by rw [at7 16 x (by omega)]; exact at516 x h6 h7
  have T7 : TRE t C7 G := by
    obtain ⟨r1, r2, ⟨a1, a2⟩, ⟨b1, b2⟩, ⟨c1', c2⟩, ⟨d1, d2⟩, ⟨e1, e2⟩, ⟨g1, g2⟩⟩ := id hT
    exact ⟨r1, r2, ⟨by rw [at7t _ (by decide)]; exact a1, a2⟩, ⟨by rw [at7t _ (by decide)]; exact b1, b2⟩, ⟨by rw [at7t _ (by decide)]; exact c1', c2⟩, ⟨by rw [at7t _ (by decide)]; exact d1, d2⟩, ⟨by rw [at7t _ (by decide)]; exact e1, e2⟩, ⟨by rw [at7t _ (by decide)]; exact g1, g2⟩⟩
  have hDF : DF G H C7 := by
    refine ⟨fun a x ha => base a x (by omega) (by omega) (by omega), fun a x c n hb h4 h5 h6 h7 => base a x (fun z => ?_) (fun z => ?_) (fun z => ?_)⟩
    · rw [z] at hb; have e := ga_eq hb hG.1; cases e; exact h4 rfl
    · rw [z] at hb; have e := ga_eq hb k2; cases e; exact h7 ⟨rfl, k3.1⟩
    · rw [z] at hb; have e := ga_eq hb t1; cases e; exact h5 rfl
  have hkn : ∀ (π : a_PT), (∀ e, e ∈ π → e.1 = 0) → ∀ x : Int, 1 ≤ x → kn π x = none := by
    intro π
    induction π with
    | nil => intro _ x _; rfl
    | cons e π ih =>
      intro hz x hx
      unfold kn
      rw [if_neg (by have := hz e (List.mem_cons_self ..); omega)]
      exact ih (fun e' he' => hz e' (List.mem_cons_of_mem _ he')) x hx
  have hcp := hD.2.2.2.2.1.2.2
  have h7c := hD.2.2.2.2.1.1
  have D7 : DK π cx cnt C7 G := by
    have e4' : C7 16 4 = H 16 4 := b16 4 (by decide) (by decide)
    refine ⟨kl, by rw [e4']; exact ⟨k1, k2⟩, ⟨hcl, k3.1, k3.2⟩, by rw [e4']; exact k4, fun p p0 p1 => ?_⟩
    rw [e4', at7 _ p nkt, at5 _ p (by omega), f2 p p0 (by omega), i64_min]
    have hpos := cx_pos hcp p.toNat (by omega)
    rw [Int.toNat_of_nonneg p0] at hpos
    unfold kv
    rw [hkn π hπ _ hpos]
  have c00 : C7 t 0 = ((0 : Nat) : Int) := by rw [c7, e3_up_ne (fun z => absurd z.2 (by decide)), c5, e3_up_ne (fun z => absurd z.2 (by decide)), c3, e3_up_ne (fun z => absurd z.2 (by decide)), c1, e3_up_self]; rfl
  have c02 : C7 t 2 = way := by rw [c7, e3_up_ne (fun z => absurd z.2 (by decide)), c5, e3_up_self]
  have c03 : C7 t 3 = H 8 0 := by rw [c7, e3_up_self]
  have S7 : GS σ g m pn cx cnt R fu way t G π 0 1 0 C7 := ⟨DX_0 hD hDF, ⟨by rw [b16 2 (by decide) (by decide)]; exact h2, by rw [b16 3 (by decide) (by decide)]; exact h3, by rw [b16 1 (by decide) (by decide)]; exact h1, by rw [b16 4 (by decide) (by decide)]; exact k5⟩, D7, T7, by rw [at7 16 6 (by omega), e5, e3_up_ne (fun z => absurd z.2 (by decide)), e4, e3_up_self]; rfl, by rw [at7 16 7 (by omega), e5, e3_up_self]; rfl, c00⟩
  have hlab : lab π = 0 := by
    cases π with
    | nil => rfl
    | cons e π => show (if e.1 = 0 then 0 else e.2.2) = 0; rw [if_pos (hπ e (List.mem_cons_self ..))]
  have conv : ∀ K, GF t 0 0 C7 K → (∀ a x : Int, a ≠ 16 → a ≠ 25 → a ≠ H 16 4 → a ≠ t → ¬ (t + 1 ≤ a ∧ a ≤ t + 6) → K a x = H a x) ∧ (∀ x : Int, x ≠ 6 → x ≠ 7 → K 16 x = H 16 x) ∧ (∀ x : Int, 4 ≤ x → K t x = H t x) := fun K hK => ⟨fun a x q1 q2 q3 q4 q5 => (hK.1 a x q1 q2 q4 q5).trans (base a x q1 q3 q4), fun x q1 q2 => (hK.2.1 x q1 q2).trans (b16 x q1 q2), fun x q1 => (hK.2.2.2.1 x (by omega)).trans (at7t x q1)⟩
  have hrowP : ∀ w, w ∈ R → w.2.Pairwise (fun a b => a.2 ≠ b.2) ∧ ∀ p, p ∈ w.2 → 1 ≤ p.2 := fun w hw => ⟨(hRT w hw).1, fun p hp => ((hRT w hw).2.2 p hp).2.2⟩
  have := cD_grow (g := g) (pn := pn) (cx := cx) (cnt := cnt) (fu := fu) (way := way) (t := t) hG hRT hKP h47 hr0 123 k π N M (fun w => lv σ w π) 1 1 0 0 C7 (fun x11 H9 G10 => ((x11 : Int) = 0 ∨ x11 = 1) ∧ Q x11 H9 G10) hgr hSP hM (fun w hw => ?_) (fun w hw hb => lvp_of π hb) S7 ⟨by omega, by omega, by omega⟩ ⟨by omega, by omega⟩ (by omega) (fun hle K hk => ⟨Or.inr rfl, ?_⟩) (fun hgt K hk => ⟨Or.inl rfl, ?_⟩)
  · rw [hlab] at this
    exact this
  · show (lv σ w π && posb σ π w.2) = lv σ w π
    cases hlv : lv σ w π with
    | false => rfl
    | true =>
      rw [Bool.true_and]
      exact (posb_iff w.2).mpr (lv_hld (hrowP w hw).1 (fun p hp => by have := (hrowP w hw).2 p hp; omega) π hlv)
  · obtain ⟨o1, o2, o3, o4, o5⟩ := hk
    obtain ⟨v1, v2, v3⟩ := conv K o1
    exact hok (by omega) K v1 v2 v3 (by rw [o4]; omega) (by rw [o1.2.2.2.1 2 (by decide)]; exact c02) (by rw [o1.2.2.2.1 3 (by decide)]; exact c03) o5
  · obtain ⟨v1, v2, v3⟩ := conv K hk
    exact hbad (by omega) K v1 v2 v3
/-- a tree is drawn -/
theorem cD_draw {Q : Int → e3_H → e3_G → Prop} {H : e3_H} {G : e3_G} {k M kl : Nat} {π : a_PT} {N : List a_ND} {f : Int} (hG : GB G) (h139 : 139 ≤ (G.length : Int)) (hD : DX σ g m pn cx cnt R fu H G) (h1 : H 16 1 = t) (hT : TRE t H G) (hA : DA (H 16 4) t G kl) (hRT : RT σ f R) (hKP : KP σ m) (h47 : ∀ w, w ∈ R → ∀ p, p ∈ w.2 → σ 47 p.1 ≤ 100) (hr0 : ∀ w, w ∈ R → 0 ≤ w.1) (hπ : ∀ e, e ∈ π → e.1 = 0) (hSP : SP σ m R π) (hgr : gr σ m R way k π N) (hM : MK R (fun w => lv σ w π) M)
    (hok : N.length ≤ 120 → ∀ (K : e3_H) (G2 : e3_G), DR t H G K G2 cnt → K t 0 = (N.length : Int) → K t 2 = way → K t 3 = H 8 0 → TC t cx cnt 0 N K → Q 1 K G2)
    (hbad : 120 < N.length → ∀ (K : e3_H) (G2 : e3_G), DR t H G K G2 cnt → Q 0 K G2) : wD_draw Q fu way (M : Int) H G := by
  obtain ⟨⟨k1, k2⟩, k3, k4, k5⟩ := id hA
  obtain ⟨t0, t1, tr⟩ := id hT
  have lt := ga_lt t1
  have lka := ga_lt k2
  have lt6 : t + 6 < G.length := ga_lt tr.2.2.2.2.2.2
  have h7 := hD.2.2.2.2.1.1
  have hcn := hD.2.2.2.2.1.2.1
  have obf := ga_ob (c := 8) hD.2.1.2
  have lfu := ga_lt hD.2.1.2
  have f139 := hD.2.1.1
  intro H1 e1
  intro H2 e2
  have at2 : ∀ a x : Int, a ≠ 16 → H2 a x = H a x := fun a x ha => by rw [e2, e3_up_ne (ne_1 ha), e1, e3_up_ne (ne_1 ha)]
  have at216 : ∀ x : Int, x ≠ 2 → x ≠ 3 → H2 16 x = H 16 x := fun x q1 q2 => by rw [e2, e3_up_ne (fun z => q2 z.2), e1, e3_up_ne (fun z => q1 z.2)]
  have c2 : H2 16 2 = fu := by rw [e2, e3_up_ne (fun z => absurd z.2 (by decide)), e1, e3_up_self]
  have c3 : H2 16 3 = way := by rw [e2, e3_up_self]
  have c4 : H2 16 4 = H 16 4 := at216 4 (by decide) (by decide)
  have c1 : H2 16 1 = t := by rw [at216 1 (by decide) (by decide)]; exact h1
  have hDF2 : DF G H H2 := by
    refine ⟨fun a x ha => at2 a x (by omega), fun a x c n hb h4 _ _ _ => at2 a x (fun z => ?_)⟩
    rw [z] at hb; have e := ga_eq hb hG.1; cases e; exact h4 rfl
  rw [c4, at2 fu 7 (by omega), h7, ga_ln k2]
  refine ⟨⟨by omega, by omega, kl, k2.2⟩, obf, fun hz => ⟨obf, ⟨by omega, by omega⟩, ?_⟩, fun hz => ?_⟩
  · intro H5 G6 e5 g6
    intro H9 e9
    subst g6
    have at9 : ∀ a x : Int, a ≠ 16 → a < G.length → H9 a x = H a x := fun a x ha hl => by rw [e9, e3_up_ne (ne_1 ha), e5, nw_ne (by omega)]; exact at2 a x ha
    have at916 : ∀ x : Int, x ≠ 4 → H9 16 x = H2 16 x := fun x q1 => by rw [e9, e3_up_ne (fun z => q1 z.2), e5, nw_ne (by omega)]
    have d4 : H9 16 4 = (G.length : Int) := by rw [e9, e3_up_self]
    have hDF9 : DF G H H9 := by
      refine ⟨fun a x ha => at9 a x (by omega) (by omega), fun a x c n hb h4 _ _ _ => at9 a x (fun z => ?_) (ga_lt hb)⟩
      rw [z] at hb; have e := ga_eq hb hG.1; cases e; exact h4 rfl
    have T9 : TRE t H9 (G ++ [(1, cnt)]) := by
      obtain ⟨r1, r2, ⟨a1, a2⟩, ⟨b1, b2⟩, ⟨c1', c2'⟩, ⟨d1, d2⟩, ⟨e1', e2'⟩, ⟨g1, g2⟩⟩ := id hT
      have e : ∀ x : Int, H9 t x = H t x := fun x => at9 t x (by omega) lt
      exact ⟨r1, ga_app r2, ⟨by rw [e]; exact a1, ga_app a2⟩, ⟨by rw [e]; exact b1, ga_app b2⟩, ⟨by rw [e]; exact c1', ga_app c2'⟩, ⟨by rw [e]; exact d1, ga_app d2⟩, ⟨by rw [e]; exact e1', ga_app e2'⟩, ⟨by rw [e]; exact g1, ga_app g2⟩⟩
    have A9 : DA (H9 16 4) t (G ++ [(1, cnt)]) cnt := by
      rw [d4]
      exact ⟨⟨by omega, ga_new⟩, ⟨by omega, by omega⟩, Or.inr h139, by omega⟩
    have conv : ∀ K, (∀ a x : Int, a ≠ 16 → a ≠ 25 → a ≠ H9 16 4 → a ≠ t → ¬ (t + 1 ≤ a ∧ a ≤ t + 6) → K a x = H9 a x) → (∀ x : Int, x ≠ 6 → x ≠ 7 → K 16 x = H9 16 x) → (∀ x : Int, 4 ≤ x → K t x = H9 t x) → DR t H G K (G ++ [(1, cnt)]) cnt := fun K q1 q2 q3 => ⟨fun a x a1 a2 a3 a4 a5 a6 => by rw [q1 a x a2 a3 (by omega) a5 a6]; exact at9 a x a2 a1, fun x a1 a2 a3 a4 a5 => by rw [q2 x a4 a5, at916 x a3]; exact at216 x a1 a2, Or.inr ⟨rfl, by rw [q2 4 (by decide) (by decide)]; exact d4, by rw [ga_ln k2]; exact hz⟩, fun x a1 => by rw [q3 x a1]; exact at9 t x (by omega) lt⟩
    have hG9 : GB (G ++ [(1, cnt)]) := ⟨ga_app hG.1, ga_app hG.2⟩
    exact cD_32 (kl := cnt) (f := f) hG9 (DX_keep hD hDF9) (by rw [at916 2 (by decide)]; exact c2) (by rw [at916 3 (by decide)]; exact c3) (by rw [at916 1 (by decide)]; exact c1) T9 A9 (Nat.le_refl _) hRT hKP h47 hr0 hπ hSP hgr hM (fun hle K q1 q2 q3 q4 q5 q6 q7 => hok hle K _ (conv K q1 q2 q3) q4 q5 (by rw [q6]; exact at9 8 0 (by decide) (by omega)) q7) (fun hgt K q1 q2 q3 => hbad hgt K _ (conv K q1 q2 q3))
  · have T2 : TRE t H2 G := TRE_eq hT (fun x _ => at2 t x (by omega))
    have conv : ∀ K, (∀ a x : Int, a ≠ 16 → a ≠ 25 → a ≠ H2 16 4 → a ≠ t → ¬ (t + 1 ≤ a ∧ a ≤ t + 6) → K a x = H2 a x) → (∀ x : Int, x ≠ 6 → x ≠ 7 → K 16 x = H2 16 x) → (∀ x : Int, 4 ≤ x → K t x = H2 t x) → DR t H G K G cnt := fun K q1 q2 q3 => ⟨fun a x _ a2 a3 a4 a5 a6 => by rw [q1 a x a2 a3 (by rw [c4]; exact a4) a5 a6]; exact at2 a x a2, fun x a1 a2 a3 a4 a5 => by rw [q2 x a4 a5]; exact at216 x a1 a2, Or.inl ⟨rfl, by rw [q2 4 (by decide) (by decide)]; exact c4, by rw [ga_ln k2]; omega⟩, fun x a1 => by rw [q3 x a1]; exact at2 t x (by omega)⟩
    exact cD_32 (kl := kl) (f := f) hG (DX_0 hD hDF2) c2 c3 c1 T2 (by rw [c4]; exact hA) (by omega) hRT hKP h47 hr0 hπ hSP hgr hM (fun hle K q1 q2 q3 q4 q5 q6 q7 => hok hle K _ (conv K q1 q2 q3) q4 q5 (by rw [q6]; exact at2 8 0 (by decide)) q7) (fun hgt K q1 q2 q3 => hbad hgt K _ (conv K q1 q2 q3))
end CDR
