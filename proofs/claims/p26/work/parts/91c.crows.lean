/-- the Rows of a FUNCTION, up to row w0 of rule k0 -/
def c_rws (f fu B : Int) (cnt : Nat) (A : Int → Int) (Vs : Int → Int → List (Int × Int)) (σ g : e3_H) (pn : Int → Int) (k0 : Nat) (w0 : Int) (K : e3_H) (G : e3_G) : Prop := ∀ (k : Nat) (w : Int), (k < k0 ∧ w < σ 74 (16 * f + k) ∨ k = k0 ∧ w < w0) → 0 ≤ w → K (fu + 3) (rsum σ f k + w) = B + 4 * (rsum σ f k + w) ∧ O_ob (B + 4 * (rsum σ f k + w)) (A k) cnt K G ∧ c_row (B + 4 * (rsum σ f k + w)) (A k) cnt (Vs k w) σ g pn K
theorem O_ob_eq {R ru : Int} {cnt : Nat} {H K : e3_H} {G E : e3_G} (h : O_ob R ru cnt H G) (e : ∀ x : Int, K R x = H R x) : O_ob R ru cnt K (G ++ E) := by
  obtain ⟨o1, o2, o3, ⟨o4, o5⟩, ⟨o6, o7⟩, ⟨o8, o9⟩⟩ := h
  exact ⟨o1, ga_app o2, by rw [e]; exact o3, ⟨by rw [e]; exact o4, ga_app o5⟩, ⟨by rw [e]; exact o6, ga_app o7⟩, ⟨by rw [e]; exact o8, ga_app o9⟩⟩
theorem gz_ro {cnt : Nat} {G : e3_G} : gz (G ++ g_ro cnt) = gz G + (61 + 2 * (cnt : Int)) := by
  rw [gz_app]
  show gz G + ((5 : Nat) + 12 + ((8 : Nat) + 12 + ((cnt : Nat) + 12 + ((cnt : Nat) + 12 + 0)))) = _
  omega
section CROWS
variable {σ g : e3_H} {pn : Int → Int} {cnt m : Nat} {f fu : Int} {A : Int → Int} {Vs : Int → Int → List (Int × Int)} {H0 : e3_H} {G0 : e3_G}
/-- while rows are laid -/
def RI (σ g : e3_H) (pn : Int → Int) (cnt : Nat) (f fu : Int) (A : Int → Int) (Vs : Int → Int → List (Int × Int)) (H0 : e3_H) (G0 : e3_G) (k : Nat) (w : Int) (K : e3_H) (G : e3_G) : Prop := (∀ b x : Int, b < G0.length → b ≠ fu → b ≠ fu + 3 → K b x = H0 b x) ∧ (∀ x : Int, x ≠ 5 → K fu x = H0 fu x) ∧ K fu 5 = rsum σ f k + w ∧ (∃ E, G = G0 ++ E) ∧ (G.length : Int) = G0.length + 4 * (rsum σ f k + w) ∧ gz G = gz G0 + (rsum σ f k + w) * (61 + 2 * (cnt : Int)) ∧ c_rws f fu (G0.length : Int) cnt A Vs σ g pn k w K G
/-- what all rows of a FUNCTION read -/
def RB (σ g : e3_H) (pn : Int → Int) (cnt m : Nat) (f fu : Int) (A : Int → Int) (Vs : Int → Int → List (Int × Int)) (H : e3_H) (G : e3_G) : Prop := (139 ≤ fu ∧ g_at G fu (108, 11)) ∧ (H fu 6 = fu + 3 ∧ g_at G (fu + 3) (6, 40)) ∧ H fu 7 = cnt ∧ cnt ≤ 100000 ∧ (H fu 3 = m ∧ m ≤ 16 ∧ (139 ≤ H fu 4 ∧ g_at G (H fu 4) (5, 16))) ∧ (∀ k : Nat, k < m → H (H fu 4) k = A k ∧ 0 ≤ σ 74 (16 * f + k) ∧ ∃ (lo hi : Int) (L : List Int), FRu σ g pn cnt (16 * f + k) (A k) H G lo hi L ∧ ∀ w : Int, 0 ≤ w → w < σ 74 (16 * f + k) → lyC (lyV σ 6) σ L w 1 (Vs k w)) ∧ rsum σ f m ≤ 40
theorem cF_24 {Q : e3_H → e3_G → Prop} {k7 : Int → Int → e3_H → e3_G → Prop} {k : Nat} (hB : RB σ g pn cnt m f fu A Vs H0 G0) (hk : k < m) (hQ : ∀ (K : e3_H) (G : e3_G), RI σ g pn cnt f fu A Vs H0 G0 (k + 1) 0 K G → k7 fu ((k : Int) + 1) K G) : ∀ (d : Nat) (w : Int) (K : e3_H) (G : e3_G), w + d = σ 74 (16 * f + k) → 0 ≤ w → RI σ g pn cnt f fu A Vs H0 G0 k w K G → wF_layRows_24 Q k7 (d + 1) fu k (A k) w K G := by
  have hB2 := hB
  obtain ⟨b1, b2, b3, b4, ⟨b5, b6, b7, b8⟩, b9, b10⟩ := hB2
  obtain ⟨c1, c3, lo, hi, L, c2, c4⟩ := b9 k hk
  have s1 := rsum_0 (fun k hk => (b9 k hk).2.1) (m - (k + 1)) (k + 1) (by omega)
  have s0 := rsum_0 (fun k hk => (b9 k hk).2.1) (m - k) k (by omega)
  have e1 : rsum σ f (k + 1) = rsum σ f k + σ 74 (16 * f + k) := rfl
  have lf := ga_lt b1.2
  have lf3 := ga_lt b2.2
  intro d
  induction d with
  | zero =>
    intro w K G hd w0 hI
    obtain ⟨i1, i2, i3, ⟨E, i4⟩, i5, i6, i7⟩ := hI
    have hF : FRu σ g pn cnt (16 * f + k) (A k) K (G0 ++ E) lo hi L := FRu_eq c2 (fun b x hb => by
      obtain ⟨c, n', t1, t2, t3⟩ := hb
      exact i1 b x (ga_lt t1) (ga_ne t1 b1.2 t2) (ga_ne t1 b2.2 t3))
    rw [← i4] at hF
    refine ⟨ga_ob (c := 9) hF.1.1, brF (by rw [hF.2.2.1.1]; omega) ?_⟩
    show k7 fu (e3_w32 ((k : Int) + 1)) K G
    rw [e3_w32_id (x := (k : Int) + 1) (by omega) (by omega)]
    have hz : rsum σ f (k + 1) + 0 = rsum σ f k + w := by omega
    refine hQ K G ⟨i1, i2, by rw [hz]; exact i3, ⟨E, i4⟩, by rw [hz]; exact i5, by rw [hz]; exact i6, fun k' w' h w0' => i7 k' w' ?_ w0'⟩
    rcases h with ⟨x1, x2⟩ | ⟨_, x2⟩
    · by_cases hkk : k' < k
      · exact Or.inl ⟨hkk, x2⟩
      · have : k' = k := by omega
        subst this
        exact Or.inr ⟨rfl, by omega⟩
    · omega
  | succ d ih =>
    intro w K G hd w0 hI
    obtain ⟨i1, i2, i3, ⟨E, i4⟩, i5, i6, i7⟩ := hI
    have hF : FRu σ g pn cnt (16 * f + k) (A k) K (G0 ++ E) lo hi L := FRu_eq c2 (fun b x hb => by
      obtain ⟨c, n', t1, t2, t3⟩ := hb
      exact i1 b x (ga_lt t1) (ga_ne t1 b1.2 t2) (ga_ne t1 b2.2 t3))
    rw [← i4] at hF
    have gf : g_at G fu (108, 11) := by rw [i4]; exact ga_app b1.2
    have gf3 : g_at G (fu + 3) (6, 40) := by rw [i4]; exact ga_app b2.2
    refine cF_row (V := Vs k w) ⟨b1.1, gf⟩ ⟨by rw [i2 6 (by decide)]; exact b2.1, gf3⟩ (by rw [i2 7 (by decide)]; exact b3) i3 (by omega) hF b4 ⟨w0, by omega⟩ (by omega) (c4 w w0 (by omega)) ?_
    intro K2 k1 k2 k3 k4 k5 kO kr
    have hz : rsum σ f k + (w + 1) = rsum σ f k + w + 1 := by omega
    refine ih (w + 1) K2 _ (by omega) (by omega) ⟨fun b x hb h1 h2 => (k1 b x (by omega) h1 h2).trans (i1 b x hb h1 h2), fun x hx => (k2 x hx).trans (i2 x hx), by rw [k3]; omega, ⟨E ++ g_ro cnt, by rw [i4, List.append_assoc]⟩, ?_, ?_, ?_⟩
    · rw [List.length_append]
      show (((G.length + 4 : Nat)) : Int) = _
      omega
    · rw [gz_ro, i6, hz, Int.add_mul (rsum σ f k + w) 1, Int.one_mul]
      omega
    · intro k' w' h w0'
      by_cases hn : k' = k ∧ w' = w
      · obtain ⟨x1, x2⟩ := hn
        subst x1
        subst x2
        rw [← i5]
        exact ⟨k5, kO, kr⟩
      · have hlt : rsum σ f k' + w' < rsum σ f k + w ∧ 0 ≤ rsum σ f k' := by
          rcases h with ⟨x1, x2⟩ | ⟨x1, x2⟩
          · have hs := (rsum_0 (m := k) (fun j hj => (b9 j (by omega)).2.1) (k - (k' + 1)) (k' + 1) (by omega)).2
            have h0 := (rsum_0 (m := k) (fun j hj => (b9 j (by omega)).2.1) (k - k') k' (by omega)).1
            have e2 : rsum σ f (k' + 1) = rsum σ f k' + σ 74 (16 * f + k') := rfl
            omega
          · subst x1
            have : w' ≠ w := fun z => hn ⟨rfl, z⟩
            omega
        obtain ⟨j1, j2, j3⟩ := i7 k' w' (by
          rcases h with x | ⟨x1, x2⟩
          · exact Or.inl x
          · subst x1
            have : w' ≠ w := fun z => hn ⟨rfl, z⟩
            exact Or.inr ⟨rfl, by omega⟩) w0'
        have ef : ∀ b x : Int, (G0.length : Int) + 4 * (rsum σ f k' + w') ≤ b → b ≤ (G0.length : Int) + 4 * (rsum σ f k' + w') + 3 → K2 b x = K b x := fun b x h1 h2 => k1 b x (by omega) (by omega) (by omega)
        exact ⟨by rw [k4 _ (by omega)]; exact j1, O_ob_eq j2 (fun x => ef _ x (by omega) (by omega)), c_row_eq j3 ef⟩
theorem cF_7 {Q : e3_H → e3_G → Prop} (hB : RB σ g pn cnt m f fu A Vs H0 G0) (hQ : ∀ (K : e3_H) (G : e3_G), RI σ g pn cnt f fu A Vs H0 G0 m 0 K G → Q K G) : ∀ (d k : Nat) (K : e3_H) (G : e3_G), k + d = m → RI σ g pn cnt f fu A Vs H0 G0 k 0 K G → wF_layRows_7 Q (d + 1) fu k K G := by
  have hB2 := hB
  obtain ⟨b1, b2, b3, b4, ⟨b5, b6, b7, b8⟩, b9, b10⟩ := hB2
  intro d
  induction d with
  | zero =>
    intro k K G hd hI
    have hd : k = m := hd
    subst hd
    obtain ⟨E, i4⟩ := hI.2.2.2.1
    refine ⟨ga_ob (c := 8) (by rw [i4]; exact ga_app b1.2), brF (by rw [hI.2.1 3 (by decide), b5]; omega) (hQ K G hI)⟩
  | succ d ih =>
    intro k K G hd hI
    obtain ⟨E, i4⟩ := hI.2.2.2.1
    have ob : e3_ob G 8 fu := ga_ob (c := 8) (by rw [i4]; exact ga_app b1.2)
    have e4 : K fu 4 = H0 fu 4 := hI.2.1 4 (by decide)
    have hk : k < m := by omega
    have eA : K (H0 fu 4) k = A k := by
      rw [hI.1 _ _ (ga_lt b8) (ga_ne b8 b1.2 (by decide)) (ga_ne b8 b2.2 (by decide))]
      exact (b9 k hk).1
    refine ⟨ob, brT (by rw [hI.2.1 3 (by decide), b5]; omega) ⟨ob, ?_, ?_⟩⟩
    · rw [e4, i4]
      exact ga_oa (ga_app b8) (by omega) ⟨by omega, by omega⟩
    · rw [e4, eA]
      have h0 := (b9 k hk).2.1
      exact ⟨(σ 74 (16 * f + k)).toNat + 1, cF_24 hB hk (fun K2 G2 h2 => by
        have := ih (k + 1) K2 G2 (by omega) h2
        rw [Int.natCast_add] at this
        exact this) _ 0 K G (by omega) (Int.le_refl _) hI⟩
/-- all Rows of a FUNCTION are laid -/
theorem cF_layRows {Q : e3_H → e3_G → Prop} (hB : RB σ g pn cnt m f fu A Vs H0 G0) (hQ : ∀ (K : e3_H) (G : e3_G), RI σ g pn cnt f fu A Vs H0 G0 m 0 K G → Q K G) : wF_layRows Q fu H0 G0 := by
  have hB2 := hB
  obtain ⟨b1, b2, b3, b4, ⟨b5, b6, b7, b8⟩, b9, b10⟩ := hB2
  refine ⟨ga_ob (c := 8) b1.2, ?_⟩
  intro H1 e1
  refine ⟨m + 1, cF_7 hB hQ m 0 H1 G0 (by omega) ⟨fun b x _ h1 _ => by rw [e1, e3_up_ne (ne_1 h1)], fun x hx => by rw [e1, e3_up_ne (fun z => hx z.2)], by rw [e1, e3_up_self]; rfl, ⟨[], (List.append_nil _).symm⟩, by show _ = (G0.length : Int) + 4 * (0 + 0); omega, by show gz G0 = gz G0 + (0 + 0) * _; omega, fun k w h w0 => by omega⟩⟩
end CROWS
