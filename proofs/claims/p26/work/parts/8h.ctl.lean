def c_bF (fu q : Int) (H : e3_H) (G : e3_G) (K : e3_H) (G2 : e3_G) : Prop := K 14 4 ≠ 0 ∧ K 14 5 = q ∧ c_F fu H G K G2
section CTL
variable {t : Int → Int} {n s m : Nat} {ru fu : Int} {H : e3_H} {G : e3_G} {σ0 g R0 : e3_H} {ic : Nat} {σc gc Kc : e3_H} {Gc : e3_G} {l : List Int} {li la : Int}
theorem c_M_ru {i : Nat} {σ : e3_H} {cx : Int → Int} {H : e3_H} {G : e3_G} {j v : Int} (h : c_M t n s i m ru fu σ cx H G) (hj : j ≠ 4 ∧ j ≠ 5 ∧ j ≠ 6) : c_M t n s i m ru fu σ cx (e3_up H ru j v) G := by
  have hd := c_M_ad h
  obtain ⟨m1, m2, m3, m4, m5⟩ := h
  have x4 := c_pl_eq (E := []) (K := e3_up H ru j v) m4 (fun a k ha => e3_up_ne (by omega))
  rw [List.append_nil] at x4
  obtain ⟨q1, q2, q3, q4, q5, q6, q7, q8, q9⟩ := m3
  have e5 : (e3_up H ru j v) ru 5 = H ru 5 := e3_up_ne (by omega)
  refine ⟨c_tk_eq m1 (fun a k ha => e3_up_ne (by omega)), ckd_eq m2 (fun a k ha => e3_up_ne (by omega)), ⟨by rw [e3_up_ne (by omega)]; exact q1, q2, q3, by rw [e5]; exact q4, by rw [e5]; exact q5, by rw [e3_up_ne (by omega)]; exact q6, fun k hk => ?_, by rw [e3_up_ne (by omega)]; exact q8, q9⟩, x4, by rw [e3_up_ne (by omega)]; exact m5⟩
  rw [e5, e3_up_ne (by omega)]
  exact q7 k hk
theorem wy_rg {x y : Int} (h : c_wy x y) : 1 ≤ y ∧ y ≤ 1000 := by
  obtain ⟨⟨a, b⟩, c⟩ := h
  rw [c]
  split <;> omega
/-- a pattern becomes the rule's next -/
theorem c_tp_link {q : Int} {c : Nat} (h : c_tp t n s m ru fu H G σ0 g R0 ic σc gc Kc Gc l li la) (hq : σ0 40 16 ≤ q ∧ q < σc 40 16) (hlq : li < q) (h52 : σc 52 q = -4) (hcl : c = 0 ↔ li = -4) (hc1 : gc 1 q = if li = -4 then 1 else gc 1 li + 1) (hc2 : gc 2 q = 1) :
    c_tp t n s m ru fu H G σ0 g R0 ic (a_col1 σc c li q) gc (if la < 0 then e3_up Kc ru 2 (gc 0 q) else e3_up Kc la 8 (gc 0 q)) Gc (l ++ [gc 0 q]) q (gc 0 q) := by
  obtain ⟨o1, ⟨o2, o2b, o2c, o2d⟩, ⟨o3, o4, o5, o6, o7, o7b⟩, ⟨o8, o9⟩, ⟨o10, o11⟩, o12, o13, ⟨o14, o15, o16⟩⟩ := h
  obtain ⟨s1, s2, ⟨s3, s3b⟩, ⟨s4, s4b⟩, ⟨s5, s5b⟩, ⟨s6, s6b⟩, ⟨s7, s7b⟩, ⟨s8, s8b⟩⟩ := id o2d
  have hd := c_M_ad o1
  have h74 := wy_rg o14
  have hqa := (o8 q hq.1 hq.2).1
  have hqb := (o8 q hq.1 hq.2).2
  have hqpa := c_M_pa o1 hqa.1.2.1
  have n8 : Kc (gc 0 q) 8 = -1 := by rw [hqa.2.2.2.1.1, h52]; rfl
  obtain ⟨c1, c2, c3, c4, c5⟩ := a_col1_ok (r := σ0 40 27) (p0 := 0) (c := c) (last := li) (p := q) o3 (by rw [o7]; exact h74) (by omega) o7 (fun z => by
    rcases o12 with ⟨y1, y2, y3⟩ | ⟨y1, ⟨y2, y3, _⟩, _⟩
    · exact absurd (hcl.mpr y2) z
    · omega)
  have xrow : ∀ a k : Int, a ≠ 52 → a ≠ 72 → a ≠ 74 → a_col1 σc c li q a k = σc a k := by
    intro a k y1 y2 y3
    unfold a_col1 a_mulr
    rw [e3_up_ne (by omega)]
    split <;> rw [e3_up_ne (by omega)]
  have xσ : ∀ {K : e3_H}, c_M t n s ic m ru fu σc (gc 3) K Gc → c_M t n s ic m ru fu (a_col1 σc c li q) (gc 3) K Gc := fun hM => c_M_σ hM (funext fun y => xrow _ _ (by omega) (by omega) (by omega)) (funext fun y => xrow _ _ (by omega) (by omega) (by omega)) (funext fun y => xrow _ _ (by omega) (by omega) (by omega)) (funext fun y => xrow _ _ (by omega) (by omega) (by omega)) (xrow _ _ (by omega) (by omega) (by omega)) (xrow _ _ (by omega) (by omega) (by omega)) (funext fun y => xrow _ _ (by omega) (by omega) (by omega)) (funext fun y => xrow _ _ (by omega) (by omega) (by omega)) (funext fun y => xrow _ _ (by omega) (by omega) (by omega))
  have x56 : a_col1 σc c li q 56 (σ0 40 27) = σc 56 (σ0 40 27) := xrow _ _ (by omega) (by omega) (by omega)
  have xrn : ∀ k : Int, 0 ≤ k → k < σc 56 (σ0 40 27) → a_col1 σc c li q 57 (8 * σ0 40 27 + k) = σc 57 (8 * σ0 40 27 + k) := fun k _ _ => xrow _ _ (by omega) (by omega) (by omega)
  have hgr : ∀ a k : Int, 0 ≤ a → a ≤ 2 → k < σc 40 16 → gc a k = gc a k := fun _ _ _ _ _ => rfl
  have nm' : nm_inv (σ0 40 27) m (a_col1 σc c li q) := (nm_eq o4 (xrow _ _ (by omega) (by omega) (by omega)) (funext fun y => xrow _ _ (by omega) (by omega) (by omega)) (funext fun y => xrow _ _ (by omega) (by omega) (by omega))).1
  have hmem : ∀ c ∈ l ++ [gc 0 q], ∃ q' : Int, σ0 40 16 ≤ q' ∧ q' < σc 40 16 ∧ gc 0 q' = c := by
    intro c hc
    rcases List.mem_append.mp hc with hc | hc
    · exact o11 c hc
    · rw [List.mem_singleton] at hc
      exact ⟨q, hq.1, hq.2, hc.symm⟩
  have i55 : ∀ k : Int, a_col1 σc c li q 55 k = σc 55 k := fun k => xrow _ _ (by omega) (by omega) (by omega)
  have i74 : a_col1 σc c li q 74 (σ0 40 27) = if 1000 < σc 74 (σ0 40 27) * σc 55 q then 1000 else σc 74 (σ0 40 27) * σc 55 q := by
    unfold a_col1 a_mulr
    by_cases hz : c = 0
    · simp only [if_pos hz]
      simp (disch := omega) only [e3_up_self, e3_up_ne]
      rw [o7, e3_up_self]
    · simp only [if_neg hz]
      simp (disch := omega) only [e3_up_self, e3_up_ne]
      rw [o7, e3_up_self]
  have ways : ∀ K4 : e3_H, (∀ c : Int, K4 c 9 = Kc c 9) → c_wy (wys K4 1 (l ++ [gc 0 q])) (a_col1 σc c li q 74 (σ0 40 27)) := by
    intro K4 h9
    rw [wys_snoc, h9, wys_eq (H := Kc) l 1 (fun c _ => h9 c), i74]
    exact wy_mul o14 hqa.2.2.2.2
  have ne5 : ∀ j : Int, 1 ≤ j → j ≤ 6 → ∀ a : Int, g_at Gc a (110, 10) → a ≠ ru + j := by
    intro j j1 j6 a ha
    have hj : j = 1 ∨ j = 2 ∨ j = 3 ∨ j = 4 ∨ j = 5 ∨ j = 6 := by omega
    rcases hj with hj | hj | hj | hj | hj | hj <;> subst hj
    · exact ga_ne ha s3b (by decide)
    · exact ga_ne ha s4b (by decide)
    · exact ga_ne ha s5b (by decide)
    · exact ga_ne ha s6b (by decide)
    · exact ga_ne ha s7b (by decide)
    · exact ga_ne ha s8b (by decide)
  rcases o12 with ⟨z1, z2, z3⟩ | ⟨⟨l', z1, z1b⟩, ⟨z2, z3, z4, z5, z6⟩, ⟨z7, z8, z9, z10, z11⟩⟩
  · subst z1 z2 z3
    have hc0 : c = 0 := hcl.mpr rfl
    rw [if_pos (by decide)]
    rw [if_pos rfl] at hc1
    have kne : ∀ b k : Int, ¬ (b = ru ∧ k = 2) → (e3_up Kc ru 2 (gc 0 q)) b k = Kc b k := fun b k hz => e3_up_ne hz
    have i72 : a_col1 σc c (-4) q 72 (σ0 40 27) = q := by
      unfold a_col1 a_mulr
      simp only [if_pos hc0]
      rw [o7, e3_up_ne (by omega), e3_up_self]
    have i52 : ∀ k, a_col1 σc c (-4) q 52 k = σc 52 k := by
      intro k
      unfold a_col1 a_mulr
      simp only [if_pos hc0]
      rw [e3_up_ne (by omega), e3_up_ne (by omega)]
    have e7 : (e3_up Kc ru 2 (gc 0 q)) fu 7 = Kc fu 7 := kne _ _ (by omega)
    refine ⟨xσ (c_M_ru o1 (by omega)), ⟨c_F_up o2 o2c (by omega), o2b, o2c, ?_⟩, ⟨c1, nm', by rw [c3]; exact o5, by rw [c3]; exact o6, c4, o7b⟩, ⟨fun q' q0 q1 => ?_, fun q' q2 y1 y2 y3 => o9 q' q2 y1 y2 (by rw [c3] at y3; exact y3)⟩, ⟨?_, by rw [c3]; exact hmem⟩, Or.inr ⟨⟨[], rfl, fun c hc => (List.not_mem_nil hc).elim⟩, ⟨hq.1, by rw [c3]; exact hq.2, rfl, by rw [i52]; exact h52, hc2⟩, ⟨?_, ?_, ?_, ?_, ?_⟩⟩, o13, ⟨ways _ (fun c => kne _ _ (by omega)), fun k k2 k3 k4 k6 => ?_, fun j k j2 j6 => ?_⟩⟩
    · exact ⟨s1, s2, ⟨by rw [kne _ _ (by omega)]; exact s3, s3b⟩, ⟨by rw [kne _ _ (by omega)]; exact s4, s4b⟩, ⟨by rw [kne _ _ (by omega)]; exact s5, s5b⟩, ⟨by rw [kne _ _ (by omega)]; exact s6, s6b⟩, ⟨by rw [kne _ _ (by omega)]; exact s7, s7b⟩, ⟨by rw [kne _ _ (by omega)]; exact s8, s8b⟩⟩
    · rw [c3] at q1 ⊢
      have hpa := c_M_pa o1 (o8 q' q0 q1).1.1.2.1
      rw [e7]
      exact ⟨c_pt_keep (o8 q' q0 q1).1 ⟨[], by rw [List.append_nil]⟩ (fun a a1 a2 => by
        by_cases hz : a = 52
        · subst hz; exact i52 q'
        · exact xrow a q' hz (by omega) (by omega)) xrn (by rw [x56]; omega) hgr (fun _ _ _ => rfl) (by omega) q1 (by omega) (fun k => kne _ _ (by omega)), (o8 q' q0 q1).2⟩
    · rw [e3_up_self]
      refine ⟨rfl, ?_⟩
      show (e3_up Kc ru 2 (gc 0 q)) (gc 0 q) 8 < 0
      rw [kne _ _ (by omega), n8]
      decide
    · rw [i72, e3_up_self]
    · rw [i72]; exact hq.1
    · rw [i72, c3]; exact hq.2
    · rw [i72]; exact hc1
    · rw [i72]; exact hc2
    · rw [kne _ _ (by omega)]; exact o15 k k2 k3 k4 k6
    · rw [kne _ _ (by omega)]; exact o16 j k j2 j6
  · have hli : li ≠ -4 := by omega
    have hc0 : ¬ c = 0 := fun z => hli (hcl.mp z)
    rw [if_neg hli] at hc1
    have hla := (o8 li z2 z3)
    have gl : g_at Gc la (110, 10) := by rw [← z4]; exact hla.1.1.2.1
    have hla2 := hla.2
    rw [z4] at hla2
    have hlb := o9 li q z2 hlq hq.2
    rw [z4] at hlb
    rw [if_neg (by omega)]
    have hpa := c_M_pa o1 gl
    have kne : ∀ b k : Int, ¬ (b = la ∧ k = 8) → (e3_up Kc la 8 (gc 0 q)) b k = Kc b k := fun b k hz => e3_up_ne hz
    have i72 : ∀ k, a_col1 σc c li q 72 k = σc 72 k := by
      intro k
      unfold a_col1 a_mulr
      simp only [if_neg hc0]
      rw [e3_up_ne (by omega), e3_up_ne (by omega)]
    have i52 : a_col1 σc c li q 52 li = q := by
      unfold a_col1 a_mulr
      simp only [if_neg hc0]
      rw [e3_up_ne (by omega), e3_up_self]
    have i52' : ∀ k, k ≠ li → a_col1 σc c li q 52 k = σc 52 k := by
      intro k hk
      unfold a_col1 a_mulr
      simp only [if_neg hc0]
      rw [e3_up_ne (by omega), e3_up_ne (by omega)]
    have e7 : (e3_up Kc la 8 (gc 0 q)) fu 7 = Kc fu 7 := kne _ _ (by omega)
    refine ⟨xσ (c_M_up o1 gl (by omega)), ⟨c_F_up o2 o2c (by omega), o2b, o2c, ?_⟩, ⟨c1, nm', by rw [c3]; exact o5, by rw [c3]; exact o6, c4, o7b⟩, ⟨fun q' q0 q1 => ?_, fun q' q2 y1 y2 y3 => o9 q' q2 y1 y2 (by rw [c3] at y3; exact y3)⟩, ⟨?_, by rw [c3]; exact hmem⟩, Or.inr ⟨⟨l, rfl, fun c hc => ?_⟩, ⟨hq.1, by rw [c3]; exact hq.2, rfl, by rw [i52' q (by omega)]; exact h52, hc2⟩, ⟨?_, ?_, ?_, ?_, ?_⟩⟩, o13, ⟨ways _ (fun c => kne _ _ (by omega)), fun k k2 k3 k4 k6 => ?_, fun j k j2 j6 => ?_⟩⟩
    · exact ⟨s1, s2, ⟨by rw [kne _ _ (by omega)]; exact s3, s3b⟩, ⟨by rw [kne _ _ (by omega)]; exact s4, s4b⟩, ⟨by rw [kne _ _ (by omega)]; exact s5, s5b⟩, ⟨by rw [kne _ _ (by omega)]; exact s6, s6b⟩, ⟨by rw [kne _ _ (by omega)]; exact s7, s7b⟩, ⟨by rw [kne _ _ (by omega)]; exact s8, s8b⟩⟩
    · rw [c3] at q1 ⊢
      rw [e7]
      refine ⟨?_, (o8 q' q0 q1).2⟩
      by_cases hz : q' = li
      · subst hz
        obtain ⟨p1, p2, p3, p4, p5⟩ := (o8 q' q0 q1).1
        refine ⟨c_p0_keep p1 ⟨[], by rw [List.append_nil]⟩ (fun a a1 a2 => xrow a q' (by omega) (by omega) (by omega)) xrn (by rw [x56]; omega) rfl rfl (fun _ _ _ => rfl) (by omega) (fun k hk => kne _ _ (by omega)), c_pa_keep p2 (xrow 54 q' (by omega) (by omega) (by omega)) xrn (by rw [x56]; omega) rfl (kne _ _ (by omega)), c_l1_keep p3 (xrow 46 q' (by omega) (by omega) (by omega)) (xrow 51 q' (by omega) (by omega) (by omega)) hgr q1 (by omega) (kne _ _ (by omega)), ⟨?_, Or.inr ⟨?_, ?_, ?_, ?_⟩⟩, ?_⟩
        · rw [z4, e3_up_self, i52, c_lk_q (by omega)]
        · rw [i52]; exact hlq
        · rw [i52]; exact hq.2
        · rw [i52, z6]; exact hc1
        · rw [i52, z6]; exact hc2
        · rw [kne _ _ (by omega), i55]; exact p5
      · have hne : gc 0 q' ≠ la := by
          rw [← z4]
          rcases Int.lt_or_gt_of_ne hz with hy | hy
          · have := o9 q' li q0 hy z3; omega
          · have := o9 li q' z2 hy q1; omega
        exact c_pt_keep (o8 q' q0 q1).1 ⟨[], by rw [List.append_nil]⟩ (fun a a1 a2 => by
          by_cases hz2 : a = 52
          · subst hz2; exact i52' q' hz
          · exact xrow a q' hz2 (by omega) (by omega)) xrn (by rw [x56]; omega) hgr (fun _ _ _ => rfl) (by omega) q1 (by omega) (fun k => kne _ _ (by omega))
    · rw [kne _ 2 (by omega), z1]
      rw [z1] at o10
      refine chn_snoc l' _ o10 (fun c hc => kne _ _ (by have := z1b c hc; omega)) (by rw [e3_up_self]) ?_
      rw [kne _ _ (by omega), n8]
      decide
    · rw [z1] at hc
      rcases List.mem_append.mp hc with hc | hc
      · have := z1b c hc; omega
      · rw [List.mem_singleton] at hc; omega
    · rw [i72, kne _ _ (by omega)]; exact z7
    · rw [i72]; exact z8
    · rw [i72, c3]; exact z9
    · rw [i72]; exact z10
    · rw [i72]; exact z11
    · rw [kne _ _ (by omega)]; exact o15 k k2 k3 k4 k6
    · rw [kne _ _ (by have := ne5 j (by omega) j6 la gl; omega)]; exact o16 j k j2 j6
end CTL
