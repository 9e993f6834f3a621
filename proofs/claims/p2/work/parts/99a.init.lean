/-- the memory behind both constructors -/
def w0o : List (List Int) := [[], [], [3, 8, 14, 16, 26, 34, 0, 0, 0], [4, 0, 5, 6, 7, 0, 0, 0, 0, 0], [], [], [], [], [0, 9, 10, 11, 12, 13], [], [], [], [], [], [3, 8, 15, 0, 0, 0, -1, -1], [], [8, 17, -1, 0, 24, 25, 0, 0], [0, 0, 0, 0, 18, 19, 20, 21, 22, 23], [], [], [], [], [], [], [], [], [8, 0, 27, 28, 29, 30, 31, 32, 33], [], [], [], [], [], [], [], [14, 8, 26, 35, 36, 0, 0, 37, 38, 0, 39, 0], [], [], [], [], [], [41, 0, 0, 0, 0, 0, 0, 0, 0, 0, 0, 0, 42, 43, 44, 45, 0, 46, 47, 48, 49, 50, 51, 52, 53, 54, 55, 0, 56, 57, 58, 0, 0, 59, 60, 61, 62, 63, 64, 65, 66, 0, 67, 68, 69, 70, 71, 72, 73, 74, 75, 76, 77, 78, 79, 80, 81, 82, 83, 84, 85, 0, 86, 87, 88, 0, 89, 90, 91, 92, 93, 0, 94, 95, 96, 97, 98, 99, 100, 101, 102, 103, 104, 105, 106, 107, 108, 109, 110, 111, 112, 113, 114, 0, 115, 116, 117, 118, 119, 0, 120, 121, 122, 123, 124, 0, 125, 126, 127, 0, 128, 129, 130, 131, 132, 133, 134, 135, 136, 0, 0, 0, 0, 0, 0, 0, 0, 137, 0, 138], [], [], [], [], [], [], [], [], [], [], [], [], [], [], [], [], [], [], [], [], [], [], [], [], [], [], [], [], [], [], [], [], [], [], [], [], [], [], [], [], [], [], [], [], [], [], [], [], [], [], [], [], [], [], [], [], [], [], [], [], [], [], [], [], [], [], [], [], [], [], [], [], [], [], [], [], [], [], [], [], [], [], [], [], [], [], [], [], [], [], [], [], [], [], [], [], [], []]
def w0 (xs : Nat → Int32) : e3_H := fun a k => if a = 0 then (xs k.toNat).toInt else if a = 1 then (tb_words k.toNat).toInt else if a = 15 then -1 else (w0o.getD a.toNat []).getD k.toNat 0
theorem w0_H (L : Nat) (xs : Nat → Int32) : rn_H = (((wG0 L).drop 2).zipIdx 2).map (fun q => e3_c (fun ci => wFc.getD ci []) q.1 (w0 xs (q.2 : Int))) := rfl
theorem w0_rg : ∀ l, l ∈ w0o → ∀ v, v ∈ l → (-1 : Int) ≤ v ∧ v ≤ 200 := by decide +kernel
theorem w0_gd {l : List Int} (h : ∀ v, v ∈ l → (-1 : Int) ≤ v ∧ v ≤ 200) (k : Nat) : (-1 : Int) ≤ l.getD k 0 ∧ l.getD k 0 ≤ 200 := by
  rw [List.getD_eq_getElem?_getD]
  cases hk : l[k]? with
  | none => exact ⟨by decide, by decide⟩
  | some v => exact h v (List.mem_of_getElem? hk)
theorem w0_sm (xs : Nat → Int32) {a : Int} (ha : 2 ≤ a) (k : Int) : (-1 : Int) ≤ w0 xs a k ∧ w0 xs a k ≤ 200 := by
  unfold w0
  rw [if_neg (by omega), if_neg (by omega)]
  split
  · exact ⟨by decide, by decide⟩
  · rw [List.getD_eq_getElem?_getD]
    cases hk : w0o[a.toNat]? with
    | none => exact w0_gd (fun v hv => by cases hv) _
    | some l => exact w0_gd (w0_rg l (List.mem_of_getElem? hk)) _
theorem w0_ok {c : Nat} {x : Int} (hc : c < 3) (h1 : -1 ≤ x) (h2 : x ≤ 200) : e3_ok (c, x) := by
  match c, hc with
  | 0, _ => exact ⟨by omega, by omega⟩
  | 1, _ => exact ⟨by omega, by omega⟩
  | 2, _ => exact h1
theorem w0_sc (L : Nat) (xs : Nat → Int32) (g : Nat × Nat) (k : Nat) : e3_sc (fun ci => wFc.getD ci []) g k < 3 := by
  unfold e3_sc
  split
  · decide
  · split
    · decide
    · split
      · decide
      · cases hk : (wFc.getD (g.1 - 100) [])[k]? with
        | none => decide
        | some c => exact (wZ L xs).2.1 (g.1 - 100) c (List.mem_of_getElem? hk)
theorem w0_ct : ∀ (ci : Fin 13) (kf : Fin 130), (match tb_lk wCTl ci.val kf.val with
    | some (A, v) => decide (2 ≤ A) && decide ((if A = 15 then -1 else (w0o.getD A.toNat []).getD kf.val 0) = v) && decide (((wG0 0)[A.toNat]?.map Prod.fst) = some (100 + ci.val))
    | none => true) = true := by decide +kernel
theorem w0_cl : ∀ i, i < 13 → (wCTl.getD i []).length ≤ 130 := by decide +kernel
theorem w0_G (L : Nat) {n : Nat} (h : 1 ≤ n) : (wG0 L)[n]? = (wG0 0)[n]? := by
  match n, h with
  | n + 1, _ => rfl
theorem w0_g2 : ∀ g, g ∈ wG0 0 → 100 ≤ g.1 → g.2 = (wFc.getD (g.1 - 100) []).length := by decide +kernel
theorem w0_R (L : Nat) (xs : Nat → Int32) : e3_R (wB L xs) (w0 xs) (wG0 L) rn_H := by
  refine ⟨rfl, rfl, fun i g hg => ?_, fun i g hg k hk => ?_, fun i g hg => hg, fun ci kf A v h => ?_, fun i g hi hg => ?_, fun i g hg h100 => ?_⟩
  · match i, hg with
    | 0, hg =>
      cases hg
      show some (Sum.inl (0, L, Sum.inl xs) : am_E) = some (Sum.inl (0, L, Sum.inl (fun j => Int32.ofInt (xs j).toInt)))
      rw [show (fun j => Int32.ofInt (xs j).toInt) = xs from funext fun j => Int32.ofInt_toInt (xs j)]
    | 1, hg =>
      cases hg
      show some (Sum.inl (1, 11, Sum.inr (Sum.inl tb_words)) : am_E) = some (Sum.inl (1, 11, Sum.inr (Sum.inl (fun j => Int64.ofInt (tb_words j).toInt))))
      rw [show (fun j => Int64.ofInt (tb_words j).toInt) = tb_words from funext fun j => Int64.ofInt_toInt (tb_words j)]
    | i + 2, hg =>
      show rn_H[i]? = some (e3_c (fun ci => wFc.getD ci []) g (w0 xs ((i + 2 : Nat) : Int)))
      rw [w0_H L xs, List.getElem?_map, List.getElem?_zipIdx, List.getElem?_drop, Nat.add_comm 2 i, hg]
      rw [Nat.add_comm 2 i]
      rfl
  · match i, hg with
    | 0, hg => cases hg; exact e3_rg32 _
    | 1, hg => cases hg; exact e3_rg64 _
    | i + 2, hg => exact w0_ok (w0_sc L xs g k) (w0_sm xs (by omega) _).1 (w0_sm xs (by omega) _).2
  · have h : tb_lk wCTl ci kf = some (A, v) := h
    obtain ⟨l, hl, hi⟩ := tb_lk_ok h
    have c13 : ci < 13 := (List.getElem?_eq_some_iff.mp hl).1
    have k130 : kf < 130 := by
      have a := w0_cl ci c13
      have b := (List.getElem?_eq_some_iff.mp hi).1
      rw [List.getD_eq_getElem?_getD, hl] at a
      exact Nat.lt_of_lt_of_le b a
    have key := w0_ct ⟨ci, c13⟩ ⟨kf, k130⟩
    simp only [h, Bool.and_eq_true, decide_eq_true_eq] at key
    obtain ⟨⟨k1, k2⟩, k3⟩ := key
    refine ⟨by omega, ?_, ?_⟩
    · unfold w0
      rw [if_neg (by omega), if_neg (by omega)]
      exact k2
    · rw [w0_G L (by omega)]
      cases hg : (wG0 0)[A.toNat]? with
      | none => rw [hg] at k3; cases k3
      | some g =>
        rw [hg] at k3
        have e : g.1 = 100 + ci := Option.some.inj k3
        exact ⟨g.2, by rw [← e]⟩
  · match i, hi, hg with
    | 0, _, hg => cases hg; show 0 < 2; decide
    | 1, _, hg => cases hg; show 1 < 2; decide
  · match i, hg with
    | 0, hg => cases hg; exact absurd h100 (by decide)
    | i + 1, hg =>
      rw [w0_G L (by omega)] at hg
      exact w0_g2 g (List.mem_of_getElem? hg) h100
theorem w0_wd : ∀ j : Fin 11, (tb_words j.val).toInt = x_wd (j.val : Int) := by decide +kernel
/-- both programs at the start -/
theorem w0_J (L : Nat) (xs : Nat → Int32) : JI 0 (w0 xs) (wG0 L) := by
  have z31 : ∀ i : Int, w0 xs 31 i = 0 := fun _ => rfl
  have z30 : ∀ i : Int, w0 xs 30 i = 0 := fun _ => rfl
  have z132 : ∀ i : Int, w0 xs 132 i = 0 := fun _ => rfl
  have z136 : ∀ i : Int, w0 xs 136 i = 0 := fun _ => rfl
  have z109 : w0 xs 40 109 = 0 := rfl
  refine ⟨⟨⟨by show (139 : Int) ≤ ((wG0 L).length : Int); exact Int.le_refl 139, ⟨⟨by decide, rfl⟩, by decide, rfl⟩, ⟨Or.inl rfl, ⟨by decide, rfl⟩, ⟨rfl, by decide, rfl⟩, ⟨rfl, by decide, rfl⟩, ⟨rfl, by decide, rfl⟩, ⟨rfl, by decide, rfl⟩, ⟨rfl, by decide, rfl⟩, rfl, by decide, rfl⟩, ⟨16, ⟨by decide, by decide, rfl⟩, ⟨by decide, by decide⟩, Or.inl rfl, by decide⟩, fun j j0 j1 => ?_⟩, ⟨by decide, rfl⟩, ⟨by decide, rfl⟩, ⟨by decide, rfl⟩, ⟨by decide, rfl⟩, by decide, rfl⟩, ⟨⟨rfl, rfl⟩, by decide, fun k hk => absurd hk (Nat.not_lt_zero _)⟩, ⟨⟨⟨by decide, by decide⟩, fun i _ _ => by rw [z31]; decide, fun i _ _ => by rw [z30]; decide⟩, ⟨⟨by decide, by decide⟩, by decide⟩⟩, ⟨⟨⟨by decide, by decide⟩, fun i _ _ => by rw [z132]; exact ⟨by decide, Or.inr rfl⟩, fun v v0 v1 => by rw [z109] at v1; omega⟩, ⟨fun i _ _ => by rw [z136]; exact ⟨by decide, Or.inr rfl⟩, by decide, by decide, by decide⟩⟩, Or.inl ⟨rfl, rfl, rfl, rfl, rfl, rfl⟩⟩
  have := w0_wd ⟨j.toNat, by omega⟩
  simp only at this
  rw [show ((j.toNat : Nat) : Int) = j by omega] at this
  show (tb_words j.toNat).toInt = _
  exact this
theorem w0_gz : gz ((wG0 0).drop 1) ≤ 300000 := by decide +kernel
theorem gz_nn : ∀ G : e3_G, 0 ≤ gz G
  | [] => Int.le_refl 0
  | e :: G => by
    have := gz_nn G
    show 0 ≤ (e.2 : Int) + 12 + gz G
    omega
theorem gz_map : ∀ (G : e3_G) (zs : List Nat), zs = G.map Prod.snd → (zs.sum : Int) + 12 * (zs.length : Int) = gz G
  | [], _, h => by rw [h]; rfl
  | e :: G, zs, h => by
    have := gz_map G _ rfl
    rw [h]
    show (((e.2 + (G.map Prod.snd).sum : Nat)) : Int) + 12 * (((G.map Prod.snd).length + 1 : Nat) : Int) = (e.2 : Int) + 12 + gz G
    omega
/-- the weight of a heap, by its tags -/
theorem e3_sz {B : e3_B} {H : e3_H} {G : e3_G} {h : List am_E} (hR : e3_R B H G h) : (am_sl h : Int) + 12 * (h.length : Int) ≤ gz G := by
  obtain ⟨r1, r2, r3, r4, r5, r6, r7, r8⟩ := hR
  have e : h.map am_sz = (G.drop 2).map Prod.snd := by
    apply List.ext_getElem?
    intro i
    rw [List.getElem?_map, List.getElem?_map, List.getElem?_drop]
    cases hg : G[2 + i]? with
    | none =>
      have a := List.getElem?_eq_none_iff.mp hg
      rw [List.getElem?_eq_none (by omega)]
      rfl
    | some g =>
      have a := r3 (2 + i) g hg
      unfold am_at at a
      rw [if_neg (by omega), r1, show 2 + i - 2 = i by omega] at a
      rw [a]
      show some (am_sz (e3_c B.2.2.1 g (H ((2 + i : Nat) : Int)))) = some g.2
      unfold e3_c
      split
      · rfl
      · split
        · rfl
        · split
          · rfl
          · show some ((B.2.2.1 (g.1 - 100)).mapIdx _).length = _
            rw [List.length_mapIdx, ← r8 (2 + i) g hg (by omega)]
  have s := gz_map (G.drop 2) (h.map am_sz) e
  rw [List.length_map] at s
  have t := gz_app (G.take 2) (G.drop 2)
  rw [List.take_append_drop] at t
  have u := gz_nn (G.take 2)
  have v : am_sl h = (h.map am_sz).sum := rfl
  rw [v]
  omega
/-- the law's run, as the own machine has it -/
theorem w_all (L : Nat) (xs : Nat → Int32) (hL : L ≤ 3072) : ∃ h2 : List am_E, am_ev tbT (tb_ro L xs) 2048 84000 0 0 [(0, .ref 0)] [] [] (some (.int 1)) h2 ∧ h2.length ≤ 600000 ∧ am_sl h2 ≤ 7302250 := by
  have g0 : gz (wG0 L) ≤ 304000 := by
    have a := w0_gz
    have b : gz (wG0 L) = (L : Int) + 12 + gz ((wG0 0).drop 1) := rfl
    omega
  have key := sLaw_law_18 L xs (fun x _ G => x = 1 ∧ gz G ≤ gz (wG0 L) + 3522560) 513 0 (w0 xs) (wG0 L) (j_law (B := gz (wG0 L)) hL (fun _ G hz => ⟨rfl, hz⟩) 513 0 0 0 (w0 xs) (wG0 L) (by decide) (w0_J L xs) (by omega) (by omega) (by omega))
  obtain ⟨r, H2, G2, h2, a, b, c, d⟩ := key [(3, .int 0), (2, .ref 40), (1, .ref 2), (0, .ref 0)] rn_H (fun i c x hi hc => ?_) (fun v hv => by cases hv) (w0_R L xs)
  · obtain ⟨x, rfl, rfl, hz⟩ := d
    have a2 := am_ev_mono a (f2 := 2048) (w2 := 84000) (by decide) (by decide)
    obtain ⟨r2, h3, hev, hP⟩ := rn_begin L xs (fun r h => r = some (.int 1) ∧ h = h2) ⟨_, h2, a2, ⟨rfl, rfl⟩⟩
    obtain ⟨rfl, rfl⟩ := hP
    have s := e3_sz b
    exact ⟨h3, hev, by omega, by omega⟩
  · match i, hi with
    | 0, hi => cases hi; exact ⟨by show (-1 : Int) ≤ 0; decide, rfl⟩
    | 1, hi => cases hi; exact ⟨by show (-1 : Int) ≤ 2; decide, rfl⟩
    | 2, hi => cases hi; exact ⟨by show (-1 : Int) ≤ 40; decide, rfl⟩
    | 3, hi => cases hi; exact ⟨e3_z32, rfl⟩
    | i + 4, hi => cases hi
