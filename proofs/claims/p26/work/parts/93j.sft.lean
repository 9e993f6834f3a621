section RGE
variable {σ : e3_H} {hi : Int}
theorem lyC_rg {k : Nat} (hR : ∀ c w x V, lyV σ k c w x V → wt σ k hi c → (0 ≤ c ∧ c < hi) → ∀ p, p ∈ V → 0 ≤ p.1 ∧ p.1 < hi) : ∀ (L : List Int) (w x : Int) (V : List (Int × Int)), lyC (lyV σ k) σ L w x V → (∀ c, c ∈ L → wt σ k hi c ∧ (0 ≤ c ∧ c < hi)) → ∀ p, p ∈ V → 0 ≤ p.1 ∧ p.1 < hi := by
  intro L
  induction L with
  | nil => intro w x V h _ p hp; have h : V = [] := h; rw [h] at hp; exact absurd hp (List.not_mem_nil)
  | cons d l ih =>
    intro w x V h hw p hp
    obtain ⟨V1, V2, e, v1, v2⟩ := h
    rw [e] at hp
    have hd := hw d (List.mem_cons_self ..)
    rcases List.mem_append.mp hp with z | z
    · exact hR d _ x V1 v1 hd.1 hd.2 p z
    · exact ih _ (x + 1) V2 v2 (fun c hc => hw c (List.mem_cons_of_mem _ hc)) p z
theorem lyV_rg : ∀ (k : Nat) (q w x : Int) (V : List (Int × Int)), lyV σ k q w x V → wt σ k hi q → (0 ≤ q ∧ q < hi) → ∀ p, p ∈ V → 0 ≤ p.1 ∧ p.1 < hi := by
  intro k
  induction k with
  | zero => intro q w x V h; exact h.elim
  | succ k ih =>
    intro q w x V h ht hq p hp
    obtain ⟨L, V1, ⟨a1, a2⟩, e, h⟩ := h
    obtain ⟨L2, b1, b2, b3⟩ := ht
    have e1 : ∀ y, y ∈ L2 → y ≠ -4 := fun y hy => by have := (b2 y hy).1; omega
    have hLL : L = L2 := ach_inj L L2 _ a2 e1 a1 b1
    subst hLL
    rw [e] at hp
    rcases List.mem_cons.mp hp with z | z
    · rw [z]; exact hq
    · rcases h with ⟨h6, A, c, B, eA, _, _, v⟩ | ⟨h6, h5, hl, _, v⟩
      · have hm : c ∈ L := by rw [eA]; exact List.mem_append_right _ (List.mem_cons_self ..)
        exact ih c _ x V1 v (b2 c hm).2.2 ⟨by have := (b2 c hm).1; omega, (b2 c hm).2.1⟩ p z
      · exact lyC_rg (k := k) (fun c w x V v1 v2 v3 => ih c w x V v1 v2 v3) L w (8 * x + 1) V1 v (fun c hc => ⟨(b2 c hc).2.2, by have := (b2 c hc).1; omega, (b2 c hc).2.1⟩) p z
end RGE
theorem nt_len {σ : e3_H} : ∀ V : List (Int × Int), nt σ V = ((V.filter (fun p => decide (σ 46 p.1 ≠ 6))).length : Int) := by
  intro V
  induction V with
  | nil => rfl
  | cons p l ih =>
    show (if σ 46 p.1 = 6 then 0 else 1) + nt σ l = _
    rw [List.filter_cons, ih]
    by_cases hz : σ 46 p.1 = 6
    · rw [if_pos hz, if_neg (fun z => (of_decide_eq_true z) hz)]; omega
    · rw [if_neg hz, if_pos (decide_eq_true hz), List.length_cons]; omega
theorem nt_le {σ g : e3_H} {V : List (Int × Int)} {pn : Int → Int} {cnt : Nat} (h : PW σ V) (hp : ∀ p, p ∈ V → (0 ≤ pn p.1 ∧ pn p.1 < cnt) ∧ g 3 (pn p.1) = p.2) : nt σ V ≤ cnt := by
  rw [nt_len]
  have h2 : (V.filter (fun p => decide (σ 46 p.1 ≠ 6))).Pairwise (fun a b => σ 46 a.1 ≠ 6 → σ 46 b.1 ≠ 6 → a.2 ≠ b.2) := List.Pairwise.sublist List.filter_sublist h
  have h3 : ((V.filter (fun p => decide (σ 46 p.1 ≠ 6))).map (fun p => pn p.1)).Pairwise (fun a b => a ≠ b) := by
    rw [List.pairwise_map]
    refine List.Pairwise.imp_of_mem (fun {x y} hx hy hr e => ?_) h2
    obtain ⟨x1, x2⟩ := List.mem_filter.mp hx
    obtain ⟨y1, y2⟩ := List.mem_filter.mp hy
    exact hr (of_decide_eq_true x2) (of_decide_eq_true y2) (by rw [← (hp x x1).2, ← (hp y y1).2, e])
  have := pig cnt _ (fun x hx => by
    obtain ⟨p, p1, p2⟩ := List.mem_map.mp hx
    rw [← p2]
    exact (hp p (List.mem_filter.mp p1).1).1) h3
  rw [List.length_map] at this
  omega
theorem rsum_k {σ : e3_H} {f : Int} : ∀ (m k : Nat), k < m → (∀ j : Nat, j < m → 0 ≤ σ 74 (16 * f + j)) → σ 74 (16 * f + k) ≤ rsum σ f m := by
  intro m
  induction m with
  | zero => intro k hk; omega
  | succ m ih =>
    intro k hk h
    show _ ≤ rsum σ f m + σ 74 (16 * f + m)
    have h0 : 0 ≤ rsum σ f m := by
      have : ∀ j : Nat, j ≤ m → 0 ≤ rsum σ f j := by
        intro j
        induction j with
        | zero => intro _; exact Int.le_refl _
        | succ j ihj =>
          intro hj
          show 0 ≤ rsum σ f j + σ 74 (16 * f + j)
          have := ihj (by omega)
          have := h j (by omega)
          omega
      exact this m (Nat.le_refl _)
    have hm := h m (by omega)
    by_cases hz : k = m
    · rw [hz]; omega
    · have := ih k (by omega) (fun j hj => h j (by omega))
      omega
theorem rls_mem {σ : e3_H} {f : Int} {Vs : Int → Int → List (Int × Int)} {un : Bool} : ∀ mr : Nat, (∀ k : Nat, k < mr → 0 ≤ σ 74 (16 * f + k)) → ∀ e, e ∈ rls σ f Vs un mr → ∃ (k : Nat) (v : Int), k < mr ∧ (0 ≤ v ∧ v < σ 74 (16 * f + k)) ∧ e = (16 * f + k, v, Vs k v) := by
  intro mr
  induction mr with
  | zero => intro _ e he; exact absurd he (List.not_mem_nil)
  | succ mr ih =>
    intro h74 e he
    have he : e ∈ rls σ f Vs un mr ++ (if un = true ∧ σ 78 (16 * f + mr) ≠ 0 then [] else rlr f mr Vs (σ 74 (16 * f + mr)).toNat) := he
    rcases List.mem_append.mp he with z | z
    · obtain ⟨k, v, a, b, c⟩ := ih (fun k hk => h74 k (by omega)) e z
      exact ⟨k, v, by omega, b, c⟩
    · split at z
      · exact absurd z (List.not_mem_nil)
      · unfold rlr at z
        obtain ⟨v, v1, v2⟩ := List.mem_map.mp z
        rw [List.mem_range] at v1
        have := h74 mr (by omega)
        exact ⟨mr, v, by omega, ⟨by omega, by omega⟩, v2.symm⟩
section SFO
variable {σ g K : e3_H} {G : e3_G} {m nf f mr0 : Nat} {Vs : Int → Int → Int → List (Int × Int)} {un : Bool}
/-- what the reference needs to lay rows -/
theorem RM_of (hF : F_inv σ m nf) (hW : WF σ nf) (hV : VS σ nf Vs) (hf : f < nf) (h16 : σ 40 16 ≤ 1700) (hm : σ 70 f = mr0) (hY : FY σ g Vs f K G) (hc : K (K 15 f) 7 ≤ 806) : RM σ f mr0 (Vs f) := by
  have F1 := hF.2.2.2.1 f (by omega) (by omega)
  have h12 := hF.2.1
  have hpw := hF.2.2.2.2
  have h70 := F1.2.2.1
  obtain ⟨cx, pn, cnt, m', A, B, ⟨b1, b2, b3, b4, b5, b9, b10⟩, y2, _⟩ := hY
  have hmm : m' = mr0 := by omega
  subst hmm
  refine ⟨by omega, hm, by omega, b10, fun k hk => ?_⟩
  obtain ⟨d1, d2, lo, hi2, L', d3, d4⟩ := b9 k hk
  obtain ⟨lo2, l0, L, l1, l2, l3, l4, l5⟩ := hW f (by omega) (by omega) k (by omega) (by omega)
  have hn : ∀ c, c ∈ L → c ≠ -4 := fun c hc => by have := (l3 c hc).1; omega
  have h55 : ∀ c, c ∈ L → 1 ≤ σ 55 c := fun c hc => (hpw.2.2 c (by have := (l3 c hc).1; omega) (l3 c hc).2.1).1
  have h74 := rsum_k m' k hk (fun j hj => (b9 j hj).2.1)
  refine ⟨d2, σ 40 16, L, fun y y0 y1 => hpw.2.2 y y0 y1, h16, by have := F1.1.1; omega, l2, fun x hx => ⟨⟨by have := (l3 x hx).1; omega, (l3 x hx).2.1⟩, (l3 x hx).2.2⟩, ?_, fun w w0 w1 => ⟨hV f k w (by omega) (by omega) (by omega) (by omega) w0 w1 L l2 hn, ?_, ?_⟩⟩
  · have := wf_5 L 1 (by omega) h55 (by rw [← l4]; omega)
    rw [l4, this, Int.one_mul]
  · obtain ⟨pw1, pw2, pw3⟩ := row_pw d3 (d4 w w0 w1)
    have := nt_le (g := g_3 g cx) (pn := pn) (rule_PW d3.2.2.2.2.2.1.1 (d4 w w0 w1)) (fun p hp => (pw1 p hp).2)
    omega
  · obtain ⟨pw1, pw2, pw3⟩ := row_pw d3 (d4 w w0 w1)
    have := tl_len (σ := σ) (Vs f k w)
    omega
/-- rows as the reference sifts them -/
theorem SFT_of (hF : F_inv σ m nf) (hW : WF σ nf) (hV : VS σ nf Vs) (hKP : KP σ m) (hf : f < nf) (h16 : σ 40 16 ≤ 1700) (hM : RM σ f mr0 (Vs f)) : SFT σ m f (rls σ f (Vs f) un mr0) := by
  have F1 := hF.2.2.2.1 f (by omega) (by omega)
  have h12 := hF.2.1
  have hki := hF.2.2.2.2.1
  have h70 := F1.2.2.1
  obtain ⟨m1, m2, m3, m4, m5⟩ := hM
  have h74 : ∀ k : Nat, k < mr0 → 0 ≤ σ 74 (16 * (f : Int) + k) := fun k hk => (m5 k hk).1
  have hRT := RT_of (un := un) hF hW hV hf (fun k hk => h74 k (by omega)) mr0 (by omega)
  have row : ∀ e, e ∈ rls σ f (Vs f) un mr0 → TYRo σ f (tl σ e.2.2) ∧ (0 ≤ e.1 ∧ e.1 < 192) ∧ ∀ p, p ∈ tl σ e.2.2 → (0 ≤ p.1 ∧ p.1 < 1700) ∧ (p.2 - 1) % 8 < 4 ∧ p.2 < 2147483647 := fun e he => by
    obtain ⟨k, v, k1, k2, k3⟩ := rls_mem mr0 h74 e he
    subst k3
    obtain ⟨lo, l0, L, l1, l2, l3, l4, l5⟩ := hW f (by omega) (by omega) k (by omega) (by omega)
    have hn : ∀ c, c ∈ L → c ≠ -4 := fun c hc => by have := (l3 c hc).1; omega
    have hly := hV f k v (by omega) (by omega) (by omega) (by omega) k2.1 k2.2 L l2 hn
    have hL3 : L.length ≤ 4 := by have := F1.1.1; omega
    have hwt : ∀ c, c ∈ L → wt σ 6 (σ 40 16) c ∧ 0 ≤ c := fun c hc => ⟨(l3 c hc).2.2, by have := (l3 c hc).1; omega⟩
    have hr : (16 * (f : Int) + k) / 16 = f := by omega
    refine ⟨TYRo_of hL3 hr hly hwt l5, by show 0 ≤ 16 * (f : Int) + k ∧ 16 * (f : Int) + k < 192; omega, fun p hp => ?_⟩
    have hp2 := (tl_mem.mp hp).1
    have h1 := lyC_rg (k := 6) (hi := σ 40 16) (fun c w x V v1 v2 v3 => lyV_rg 6 c w x V v1 v2 v3) L v 1 (Vs f k v) hly (fun c hc => ⟨(hwt c hc).1, (hwt c hc).2, (l3 c hc).2.1⟩) p hp2
    exact ⟨⟨h1.1, by omega⟩, m8_of hL3 hly p hp2⟩
  refine ⟨fun w hw => (hRT w hw).1, fun w hw => ?_, hki, hKP, ?_, fun e he => ⟨(row e he).2.1, fun p hp => ?_⟩⟩
  · obtain ⟨e, e1, e2⟩ := List.mem_map.mp hw
    rw [← e2]
    exact (row e e1).1
  · have := rls_len (σ := σ) (f := f) (Vs := Vs f) (un := un) mr0 h74
    omega
  · have hwm : (e.1, tl σ e.2.2) ∈ rwl σ (rls σ f (Vs f) un mr0) := List.mem_map.mpr ⟨e, he, rfl⟩
    obtain ⟨r1, r2⟩ := (row e he).2.2 p hp
    exact ⟨r1, (hRT _ hwm).2.1 p hp, r2⟩
end SFO
