section CBR
variable {t : Int → Int} {n s m : Nat} {ru fu : Int} {σ g H K : e3_H} {G : e3_G} {i : Nat} {s0 x fl0 : Int} {QQ : Int → e3_H → e3_G → Prop}
theorem c_E_al {e : Nat × Nat} (hM : c_M t n s i m ru fu σ (g 3) H G) (hK : ∀ b k : Int, b ≠ G.length → K b k = H b k) : c_E ru fu H G K (G ++ [e]) := by
  have hd := c_M_ad hM
  refine ⟨⟨[e], rfl⟩, fun b k z1 _ _ _ _ _ _ _ => hK b k (by omega), fun k _ => hK 3 k (by omega), fun k _ _ => hK 14 k (by omega), fun k _ _ => hK ru k (by omega), fun k _ _ _ => hK fu k (by omega), Or.inl (hK fu 8 (by omega)), Or.inl (hK fu 9 (by omega)), by rw [hK fu 7 (by omega)]; omega, by rw [hK ru 4 (by omega)]; omega, fun k _ _ => hK _ k (by omega)⟩
theorem c_M_al {e : Nat × Nat} (hM : c_M t n s i m ru fu σ (g 3) H G) (hK : ∀ b k : Int, b ≠ G.length → K b k = H b k) : c_M t n s i m ru fu σ (g 3) K (G ++ [e]) := by
  have hd := c_M_ad hM
  exact c_M_eq hM (fun b k hb => hK b k (by omega))
theorem at_row (σ : e3_H) (kd s A T : Int) : (a_at (a_npat σ kd s) (σ 40 16) A T) 46 (σ 40 16) = kd ∧ (a_at (a_npat σ kd s) (σ 40 16) A T) 48 (σ 40 16) = A ∧ (a_at (a_npat σ kd s) (σ 40 16) A T) 49 (σ 40 16) = 0 ∧ (a_at (a_npat σ kd s) (σ 40 16) A T) 50 (σ 40 16) = T ∧ (a_at (a_npat σ kd s) (σ 40 16) A T) 53 (σ 40 16) = -4 ∧ (∀ a k : Int, a ≠ 40 → a < 46 ∨ 55 < a → (a_at (a_npat σ kd s) (σ 40 16) A T) a k = σ a k) ∧ (∀ k : Int, k ≠ 16 → (a_at (a_npat σ kd s) (σ 40 16) A T) 40 k = σ 40 k) := by
  unfold a_at a_npat
  refine ⟨?_, ?_, ?_, ?_, ?_, fun a k h1 h2 => ?_, fun k h1 => ?_⟩
  all_goals simp (disch := omega) only [e3_up_self, e3_up_ne]
theorem c_M_at {j : Nat} {σ1 : e3_H} {cx : Int → Int} (h : c_M t n s j m ru fu σ cx K G) (h1 : ∀ a k : Int, a ≠ 40 → a < 46 ∨ 55 < a → σ1 a k = σ a k) (h2 : ∀ k : Int, k ≠ 16 → σ1 40 k = σ 40 k) : c_M t n s j m ru fu σ1 cx K G := c_M_σ h (funext fun y => h1 _ _ (by omega) (by omega)) (funext fun y => h1 _ _ (by omega) (by omega)) (funext fun y => h1 _ _ (by omega) (by omega)) (funext fun y => h1 _ _ (by omega) (by omega)) (h2 _ (by omega)) (h2 _ (by omega)) (funext fun y => h1 _ _ (by omega) (by omega)) (funext fun y => h1 _ _ (by omega) (by omega)) (funext fun y => h1 _ _ (by omega) (by omega))
/-- how a pattern without anything hanging on it ends -/
def c_lf (t : Int → Int) (n s m : Nat) (ru fu : Int) (σ g H : e3_H) (G : e3_G) (i : Nat) (s0 x : Int) (QQ : Int → e3_H → e3_G → Prop) : Prop := (∀ j σ1 K', a_beg t n s0 false i σ = .inr (j, σ1, false) → c_M t n s j m ru fu σ1 (g 3) K' (G ++ [(110, 10)]) → c_E ru fu H G K' (G ++ [(110, 10)]) → K' fu 7 = H fu 7 → K' fu 8 = H fu 8 → c_rw σ1 (σ 40 27) s0 x G.length (σ 40 16) K' → K' G.length 9 = 1 → QQ 1 K' (G ++ [(110, 10)])) ∧ ∀ q K', a_beg t n s0 false i σ = .inl q → c_bad ru fu q H G K' (G ++ [(110, 10)]) → QQ 0 K' (G ++ [(110, 10)])
theorem cR_bRange (hM : c_M t n s i m ru fu σ (g 3) H G) (hK : ∀ b k : Int, b ≠ G.length → K b k = H b k) (hf : c_fresh G.length s0 x K) (hokp : a_okp t n s0 i σ = true) (hty : x_ty t n i = 260 ∨ x_ty t n i = 45) (hq : c_lf t n s m ru fu σ g H G i s0 x QQ) : wR_readRange QQ G.length K (G ++ [(110, 10)]) := by
  have hd := c_M_ad hM
  have ga : g_at (G ++ [(110, 10)]) (G.length : Int) (110, 10) := ga_new
  have MK := c_M_al (e := (110, 10)) hM hK
  have EK := c_E_al (e := (110, 10)) hM hK
  have beg : a_beg t n s0 false i σ = (match a_rng t n (σ 40 16) (x_sp t n i) i (a_at (a_npat σ 1 s0) (σ 40 16) 0 0) with
    | .inl q => .inl q
    | .inr (j, σ2, _) => .inr (j, σ2, false)) := by
    unfold a_beg
    rw [if_neg (by rw [hokp]; simp), if_neg (by omega), if_pos hty]
    rfl
  obtain ⟨f0, f1, f2, f3, f4, f5, f6, f7, f8, f9⟩ := hf
  obtain ⟨r1, r2, r3, r4, r5, r6, r7⟩ := at_row σ 1 s0 0 0
  refine cR_readRange (p := σ 40 16) MK hd.1 hd.2.1 hd.2.2.1 EK ga (by omega) (by omega) (fun j x' y hij hall K' M' ob e0 e3 e4 ek => ?_) (fun q hall K' hb => hq.2 q K' (by rw [beg, hall]) hb)
  refine hq.1 j _ K' (by rw [beg, hall]) (c_M_at M' (fun a k h1 h2 => ?_) (fun k h1 => ?_)) (c_E_ob EK hd.1 hd.2.1 hd.2.2.1 (by omega) ob) ?_ ?_ ⟨?_, ?_, ?_, ?_, ?_, ?_, Or.inl ?_, ?_, ?_, ?_⟩ ?_
  · rw [e3_up_ne (by omega), e3_up_ne (by omega)]; exact r6 a k h1 h2
  · rw [e3_up_ne (by omega), e3_up_ne (by omega)]; exact r7 k h1
  · rw [ob.1 _ _ (by omega) (by omega)]; exact hK _ _ (by omega)
  · rw [ob.1 _ _ (by omega) (by omega)]; exact hK _ _ (by omega)
  · rw [e0, e3_up_ne (by omega), e3_up_ne (by omega), r1]; rfl
  · rw [ek 1 (by decide) (by decide) (by decide)]; exact f1
  · rw [ek 2 (by decide) (by decide) (by decide)]; exact f2
  · unfold c_lo
    rw [e3, show (e3_up (e3_up (a_at (a_npat σ 1 s0) (σ 40 16) 0 0) 48 (σ 40 16) x') 49 (σ 40 16) y) 46 (σ 40 16) = 1 by rw [e3_up_ne (by omega), e3_up_ne (by omega)]; exact r1, if_pos (Or.inl rfl), e3_up_ne (by omega), e3_up_self]
  · unfold c_hi
    rw [e4, show (e3_up (e3_up (a_at (a_npat σ 1 s0) (σ 40 16) 0 0) 48 (σ 40 16) x') 49 (σ 40 16) y) 46 (σ 40 16) = 1 by rw [e3_up_ne (by omega), e3_up_ne (by omega)]; exact r1, if_pos rfl, e3_up_self]
  · rw [ek 5 (by decide) (by decide) (by decide), e3_up_ne (by omega), e3_up_ne (by omega), r5]; exact f5
  · rw [e3_up_ne (by omega), e3_up_ne (by omega)]; exact r5
  · rw [ek 6 (by decide) (by decide) (by decide)]; exact f6
  · rw [ek 7 (by decide) (by decide) (by decide)]; exact f7
  · rw [ek 8 (by decide) (by decide) (by decide)]; exact f8
  · rw [ek 9 (by decide) (by decide) (by decide)]; exact f9
theorem cR_bConst (hM : c_M t n s i m ru fu σ (g 3) H G) (hK : ∀ b k : Int, b ≠ G.length → K b k = H b k) (hf : c_fresh G.length s0 x K) (hokp : a_okp t n s0 i σ = true) (hty : ¬ x_ty t n i = 40 ∧ ¬ x_ty t n i = 45 ∧ ¬ x_ty t n i = 258 ∧ ¬ x_ty t n i = 259 ∧ ¬ x_ty t n i = 260) (hq : c_lf t n s m ru fu σ g H G i s0 x QQ) : wR_readConstant QQ G.length K (G ++ [(110, 10)]) := by
  have hd := c_M_ad hM
  have ga : g_at (G ++ [(110, 10)]) (G.length : Int) (110, 10) := ga_new
  have MK := c_M_al (e := (110, 10)) hM hK
  have EK := c_E_al (e := (110, 10)) hM hK
  obtain ⟨f0, f1, f2, f3, f4, f5, f6, f7, f8, f9⟩ := hf
  have hcs : x_ty t n i = 95 ∨ x_ty t n i = 278 ∨ x_ty t n i = 279 ∨ x_ty t n i = 261 ∨ x_ty t n i = 280 := by
    have h := hokp
    unfold a_okp at h
    by_cases c1 : x_ty t n i = 95
    · omega
    rw [if_neg (by omega), if_neg (by omega), if_neg (by omega)] at h
    by_cases c2 : x_ty t n i = 278 ∨ x_ty t n i = 279
    · omega
    rw [if_neg c2] at h
    by_cases c3 : x_ty t n i = 261
    · omega
    rw [if_neg c3] at h
    by_cases c4 : x_ty t n i = 280
    · omega
    rw [if_neg c4, if_neg (by omega)] at h
    cases h
  have beg : a_beg t n s0 false i σ = (if x_ty t n i = 278 then .inr (i + 1, a_at (a_npat σ 2 s0) (σ 40 16) 1 0, false)
      else if x_ty t n i = 279 then .inr (i + 1, a_at (a_npat σ 2 s0) (σ 40 16) 0 0, false)
      else if x_ty t n i = 261 then .inr (i + 1, a_at (a_npat σ 3 s0) (σ 40 16) 0 (x_wo t n i), false)
      else if x_ty t n i = 280 then .inr (i + 1, a_at (a_npat σ 4 s0) (σ 40 16) 0 0, false)
      else .inr (i + 1, a_at (a_npat σ 0 s0) (σ 40 16) 0 0, false)) := by
    unfold a_beg
    rw [if_neg (by rw [hokp]; simp), if_neg hty.2.2.1, if_neg (by omega)]
    simp only [if_neg hty.2.2.2.1, if_neg hty.1]
  refine cR_readConstant MK ga (by omega) ⟨by omega, by omega⟩ (fun K' M' ob e0 e3 e4 ek => ?_)
  have fin : ∀ kd A T : Int, a_beg t n s0 false i σ = .inr (i + 1, a_at (a_npat σ kd s0) (σ 40 16) A T, false) → K' G.length 0 = c_wh kd → K' G.length 3 = (if kd = 1 ∨ kd = 2 ∨ kd = 5 then A else if kd = 3 then T else if kd = 4 then -1 else 0) → K' G.length 4 = (if kd = 1 then 0 else if kd = 1 ∨ kd = 2 ∨ kd = 5 then A else if kd = 3 then T else if kd = 4 then -1 else 0) → QQ 1 K' (G ++ [(110, 10)]) := by
    intro kd A T hb g0 g3 g4
    obtain ⟨r1, r2, r3, r4, r5, r6, r7⟩ := at_row σ kd s0 A T
    refine hq.1 _ _ K' hb (c_M_at M' r6 r7) (c_E_ob EK hd.1 hd.2.1 hd.2.2.1 (by omega) ob) ?_ ?_ ⟨?_, ?_, ?_, ?_, ?_, ?_, Or.inl r5, ?_, ?_, ?_⟩ ?_
    · rw [ob.1 _ _ (by omega) (by omega)]; exact hK _ _ (by omega)
    · rw [ob.1 _ _ (by omega) (by omega)]; exact hK _ _ (by omega)
    · rw [r1]; exact g0
    · rw [ek 1 (by decide) (by decide) (by decide)]; exact f1
    · rw [ek 2 (by decide) (by decide) (by decide)]; exact f2
    · unfold c_lo; rw [r1, r2, r4]; exact g3
    · unfold c_hi c_lo; rw [r1, r2, r3, r4]; exact g4
    · rw [ek 5 (by decide) (by decide) (by decide), r5]; exact f5
    · rw [ek 6 (by decide) (by decide) (by decide)]; exact f6
    · rw [ek 7 (by decide) (by decide) (by decide)]; exact f7
    · rw [ek 8 (by decide) (by decide) (by decide)]; exact f8
    · rw [ek 9 (by decide) (by decide) (by decide)]; exact f9
  rcases hcs with hz | hz | hz | hz | hz
  · refine fin 0 0 0 ?_ ?_ ?_ ?_
    · rw [beg, if_neg (by omega), if_neg (by omega), if_neg (by omega), if_neg (by omega)]
    · rw [e0, if_neg (by omega)]; exact f0
    · rw [e3, if_neg (by omega), if_neg (by omega), if_neg (by omega), if_neg (by omega)]; exact f3
    · rw [e4, if_neg (by omega), if_neg (by omega), if_neg (by omega), if_neg (by omega)]; exact f4
  · refine fin 2 1 0 ?_ ?_ ?_ ?_
    · rw [beg, if_pos hz]
    · rw [e0, if_pos (by omega)]; rfl
    · rw [e3, if_neg (by omega), if_pos hz]; rfl
    · rw [e4, if_neg (by omega), if_pos hz]; rfl
  · refine fin 2 0 0 ?_ ?_ ?_ ?_
    · rw [beg, if_neg (by omega), if_pos hz]
    · rw [e0, if_pos (by omega)]; rfl
    · rw [e3, if_neg (by omega), if_neg (by omega), if_pos hz]; rfl
    · rw [e4, if_neg (by omega), if_neg (by omega), if_pos hz]; rfl
  · refine fin 3 0 (x_wo t n i) ?_ ?_ ?_ ?_
    · rw [beg, if_neg (by omega), if_neg (by omega), if_pos hz]
    · rw [e0, if_pos (by omega)]; rfl
    · rw [e3, if_pos hz]; rfl
    · rw [e4, if_pos hz]; rfl
  · refine fin 4 0 0 ?_ ?_ ?_ ?_
    · rw [beg, if_neg (by omega), if_neg (by omega), if_neg (by omega), if_pos hz]
    · rw [e0, if_pos (by omega)]; rfl
    · rw [e3, if_neg (by omega), if_neg (by omega), if_neg (by omega), if_pos hz]; rfl
    · rw [e4, if_neg (by omega), if_neg (by omega), if_neg (by omega), if_pos hz]; rfl
theorem cR_bName (hM : c_M t n s i m ru fu σ (g 3) H G) (hp : p_inv σ m i) (h16 : σ 40 16 ≤ (i : Int)) (hn : nm_inv (σ 40 27) m σ) (hs : 0 ≤ s0 ∧ s0 < 3 + m) (hK : ∀ b k : Int, b ≠ G.length → K b k = H b k) (hf : c_fresh G.length s0 x K) (hokp : a_okp t n s0 i σ = true) (hty : x_ty t n i = 258) (hq : c_lf t n s m ru fu σ g H G i s0 x QQ) : ∀ H12 : e3_H, H12 = e3_up K G.length 5 (K 3 9) → wR_readName QQ s0 H12 (G ++ [(110, 10)]) := by
  have hd := c_M_ad hM
  have ga : g_at (G ++ [(110, 10)]) (G.length : Int) (110, 10) := ga_new
  have MK := c_M_al (e := (110, 10)) hM hK
  have EK := c_E_al (e := (110, 10)) hM hK
  obtain ⟨f0, f1, f2, f3, f4, f5, f6, f7, f8, f9⟩ := hf
  have n9 := (c_now MK.1).2.2
  rw [n9]
  intro H12 e12
  have beg : a_beg t n s0 false i σ = (match a_binds (a_npat σ 0 s0) s0 (x_wo t n i) with
    | none => .inl (x_sp t n i : Int)
    | some (k, σ2) => .inr (i + 1, a_at (e3_up σ2 53 (σ 40 16) k) (σ 40 16) 0 0, false)) := by
    unfold a_beg
    rw [if_neg (by rw [hokp]; simp), if_pos hty]
    rfl
  have x1 : ∀ a k : Int, a ≠ 40 → a < 46 ∨ 55 < a → a_npat σ 0 s0 a k = σ a k := by
    intro a k h1 h2
    unfold a_npat
    simp (disch := omega) only [e3_up_self, e3_up_ne]
  have x2 : ∀ k : Int, k ≠ 16 → a_npat σ 0 s0 40 k = σ 40 k := by
    intro k h1
    unfold a_npat
    simp (disch := omega) only [e3_up_self, e3_up_ne]
  have M12 : c_M t n s i m ru fu (a_npat σ 0 s0) (g 3) H12 (G ++ [(110, 10)]) := by rw [e12]; exact c_M_at (c_M_up MK ga (by omega)) x1 x2
  have E12 : c_E ru fu H G H12 (G ++ [(110, 10)]) := by rw [e12]; exact c_E_up EK (by omega) (by omega) (by omega) (by omega) (by omega)
  have nmN : nm_inv (a_npat σ 0 s0 40 27) m (a_npat σ 0 s0) := by rw [x2 27 (by omega)]; exact (nm_eq hn (x2 31 (by omega)) (funext fun y => x1 56 y (by omega) (by omega)) (funext fun y => x1 58 y (by omega) (by omega))).1
  have r5 : H12 ru 5 = H ru 5 := by rw [e12, e3_up_ne (by omega)]; exact hK _ _ (by omega)
  refine cR_readName M12 (p_npat_inv hp h16) nmN hs hd.1 hd.2.1 hd.2.2.1 E12 (fun _ k σ2 hb K2 M2 E2 ff => ?_) (fun hz K2 hb => ?_)
  · rw [hb] at beg
    simp only at beg
    obtain ⟨q27, q56, qrn, qk, qv, qx, q40⟩ := binds_rn (p_npat_inv (kd := 0) (s := s0) hp h16).2.2.2.1 hb
    rw [r5] at ff
    have fK : ∀ b k : Int, b ≠ 3 → b ≠ ru → b ≠ H ru 5 → ¬ (b = G.length ∧ k = 5) → K2 b k = K b k := fun b k h1 h2 h3 h4 => by rw [ff b k h1 h2 h3, e12, e3_up_ne h4]
    have nrow : ∀ a : Int, 46 ≤ a → a ≤ 55 → a ≠ 48 → a ≠ 50 → a ≠ 53 → (a_at (e3_up σ2 53 (σ 40 16) k) (σ 40 16) 0 0) a (σ 40 16) = a_npat σ 0 s0 a (σ 40 16) := by
      intro a a1 a2 a3 a4 a5
      unfold a_at
      rw [e3_up_ne (by omega), e3_up_ne (by omega), e3_up_ne (by omega), qx a (by omega) (by omega) (by omega) (by omega)]
    have row : ∀ a k' : Int, a < 46 ∨ 55 < a → (a_at (e3_up σ2 53 (σ 40 16) k) (σ 40 16) 0 0) a k' = σ2 a k' := by
      intro a k' h1
      unfold a_at
      rw [e3_up_ne (by omega), e3_up_ne (by omega), e3_up_ne (by omega)]
    have n46 : a_npat σ 0 s0 46 (σ 40 16) = 0 := by unfold a_npat; simp (disch := omega) only [e3_up_self, e3_up_ne]
    have w46 : (a_at (e3_up σ2 53 (σ 40 16) k) (σ 40 16) 0 0) 46 (σ 40 16) = 0 := by rw [nrow 46 (by omega) (by omega) (by omega) (by omega) (by omega)]; exact n46
    have w53 : (a_at (e3_up σ2 53 (σ 40 16) k) (σ 40 16) 0 0) 53 (σ 40 16) = k := by unfold a_at; simp (disch := omega) only [e3_up_self, e3_up_ne]
    have K5 : K2 G.length 5 = x_wo t n i := by rw [ff _ _ (by omega) (by omega) (by omega), e12, e3_up_self]
    refine hq.1 _ _ K2 beg (c_M_σ M2 (funext fun y => row _ _ (by omega)) (funext fun y => row _ _ (by omega)) (funext fun y => row _ _ (by omega)) (funext fun y => row _ _ (by omega)) (row _ _ (by omega)) (row _ _ (by omega)) (funext fun y => row _ _ (by omega)) (funext fun y => row _ _ (by omega)) (funext fun y => row _ _ (by omega))) E2 ?_ ?_ ⟨?_, ?_, ?_, ?_, ?_, ?_, Or.inr ?_, ?_, ?_, ?_⟩ ?_
    · rw [fK _ _ (by omega) (by omega) (by omega) (by omega)]; exact hK _ _ (by omega)
    · rw [fK _ _ (by omega) (by omega) (by omega) (by omega)]; exact hK _ _ (by omega)
    · rw [fK _ _ (by omega) (by omega) (by omega) (by omega), w46]; exact f0
    · rw [fK _ _ (by omega) (by omega) (by omega) (by omega)]; exact f1
    · rw [fK _ _ (by omega) (by omega) (by omega) (by omega)]; exact f2
    · rw [fK _ _ (by omega) (by omega) (by omega) (by omega)]; unfold c_lo; rw [w46]; exact f3
    · rw [fK _ _ (by omega) (by omega) (by omega) (by omega)]; unfold c_hi c_lo; rw [w46]; exact f4
    · rw [K5, w53]
      unfold c_nam
      rw [if_neg (by omega), row 57 _ (by omega), ← qv]
      unfold a_rn
      rw [q27, x2 27 (by omega)]
    · rw [w53, row 56 _ (by omega)]
      rw [x2 27 (by omega)] at qk
      exact qk
    · rw [fK _ _ (by omega) (by omega) (by omega) (by omega)]; exact f6
    · rw [fK _ _ (by omega) (by omega) (by omega) (by omega)]; exact f7
    · rw [fK _ _ (by omega) (by omega) (by omega) (by omega)]; exact f8
    · rw [fK _ _ (by omega) (by omega) (by omega) (by omega)]; exact f9
  · rcases hz with hz | hz
    · exact absurd hty hz
    · rw [hz] at beg
      exact hq.2 _ K2 beg hb
end CBR
