def tb_words : Nat → Int64 := fun j => match j with
  | 0 => 1802071652
  | 1 => 504363246962
  | 2 => 1936683636
  | 3 => 26982
  | 4 => 24947
  | 5 => 512853240933
  | 6 => 500136506472
  | 7 => 1952807028
  | 8 => 1953658213
  | 9 => 439721161573
  | 10 => 1852796517
  | _ => 0
def tb_ro (L : Nat) (xs : Nat → Int32) : List am_E := [.inl (0, L, .inl xs), .inl (1, 11, .inr (.inl tb_words))]
def wFc : List (List Nat) := [[2, 2, 2, 2, 2, 2, 0, 0, 0], [2, 0, 2, 2, 2, 0, 0, 0, 0, 1], [0, 2, 2, 2, 2, 2], [2, 2, 2, 0, 0, 0, 2, 2], [2, 2, 2, 0, 2, 2, 0, 0], [0, 0, 0, 0, 2, 2, 2, 2, 2, 2], [2, 0, 2, 2, 2, 2, 2, 2, 2], [2, 2, 2, 2, 2, 0, 0, 2, 2, 0, 2, 0], [1, 0, 2, 0, 2, 0, 2, 0, 2, 2, 2], [0, 0, 2, 0, 0, 2, 1, 0, 2, 2, 2, 0, 0, 1, 0, 0, 2, 2, 0], [0, 0, 0, 1, 1, 1, 1, 2, 2, 0], [2, 0, 2, 2, 2], [2, 0, 0, 0, 1, 0, 0, 0, 0, 0, 0, 0, 2, 2, 2, 2, 0, 2, 2, 2, 2, 2, 2, 2, 2, 2, 2, 0, 2, 2, 2, 0, 0, 2, 2, 2, 2, 2, 2, 2, 2, 0, 2, 2, 2, 2, 2, 2, 2, 2, 2, 2, 2, 2, 2, 2, 2, 2, 2, 2, 2, 0, 2, 2, 2, 0, 2, 2, 2, 2, 2, 0, 2, 2, 2, 2, 2, 2, 2, 2, 2, 2, 2, 2, 2, 2, 2, 2, 2, 2, 2, 2, 2, 0, 2, 2, 2, 2, 2, 0, 2, 2, 2, 2, 2, 0, 2, 2, 2, 0, 2, 2, 2, 2, 2, 2, 2, 2, 2, 0, 0, 0, 0, 0, 0, 0, 0, 2, 0, 2]]
def wCTl : List (List (Option (Int × Int))) := [[some (2, 3), some (2, 8), some (2, 14), some (2, 16), some (2, 26), some (2, 34)], [some (3, 4), none, some (3, 5), some (3, 6), some (3, 7)], [none, some (8, 9), some (8, 10), some (8, 11), some (8, 12), some (8, 13)], [some (14, 3), some (14, 8), some (14, 15)], [some (16, 8), none, none, none, none, some (16, 25)], [], [some (26, 8), none, some (26, 27), some (26, 28), some (26, 29), some (26, 30), some (26, 31), some (26, 32), some (26, 33)], [some (34, 14), some (34, 8), some (34, 26), some (34, 35), some (34, 36), none, none, some (34, 37), some (34, 38), none, some (34, 39)], [], [], [], [], [some (40, 41), none, none, none, none, none, none, none, none, none, none, none, some (40, 42), some (40, 43), some (40, 44), some (40, 45), none, some (40, 46), some (40, 47), some (40, 48), some (40, 49), some (40, 50), some (40, 51), some (40, 52), some (40, 53), some (40, 54), some (40, 55), none, some (40, 56), some (40, 57), some (40, 58), none, none, some (40, 59), some (40, 60), some (40, 61), some (40, 62), some (40, 63), some (40, 64), some (40, 65), some (40, 66), none, some (40, 67), some (40, 68), some (40, 69), some (40, 70), some (40, 71), some (40, 72), some (40, 73), some (40, 74), some (40, 75), some (40, 76), some (40, 77), some (40, 78), some (40, 79), some (40, 80), some (40, 81), some (40, 82), some (40, 83), some (40, 84), some (40, 85), none, some (40, 86), some (40, 87), some (40, 88), none, some (40, 89), some (40, 90), some (40, 91), some (40, 92), some (40, 93), none, some (40, 94), some (40, 95), some (40, 96), some (40, 97), some (40, 98), some (40, 99), some (40, 100), some (40, 101), some (40, 102), some (40, 103), some (40, 104), some (40, 105), some (40, 106), some (40, 107), some (40, 108), some (40, 109), some (40, 110), some (40, 111), some (40, 112), some (40, 113), some (40, 114), none, some (40, 115), some (40, 116), some (40, 117), some (40, 118), some (40, 119), none, some (40, 120), some (40, 121), some (40, 122), some (40, 123), some (40, 124), none, some (40, 125), some (40, 126), some (40, 127), none, some (40, 128), some (40, 129), some (40, 130), some (40, 131), some (40, 132), some (40, 133), some (40, 134), some (40, 135), some (40, 136), none, none, none, none, none, none, none, none, some (40, 137), none, some (40, 138)]]
def wG0 (L : Nat) : e3_G := [(0, L), (1, 11), (100, 9), (101, 10), (2, 1600), (0, 1601), (0, 1601), (1, 1601), (102, 6), (1, 24), (0, 24), (3, 24), (0, 24), (0, 96), (103, 8), (4, 12), (104, 8), (105, 10), (0, 120), (0, 120), (0, 120), (0, 120), (0, 120), (1, 120), (1, 16), (1, 201), (106, 9), (0, 160), (1, 160), (0, 160), (0, 160), (0, 640), (0, 160), (0, 4), (107, 12), (0, 3), (0, 8), (0, 7), (0, 32), (0, 8), (112, 130), (0, 1600), (1, 24), (0, 24), (0, 24), (0, 96), (0, 1700), (0, 1700), (0, 1700), (0, 1700), (1, 1700), (0, 1700), (0, 1700), (0, 1700), (0, 1700), (0, 1700), (0, 192), (1, 1536), (0, 1536), (0, 8), (0, 8), (0, 8), (0, 8), (0, 8), (0, 8), (3, 8), (0, 64), (1, 12), (0, 12), (0, 36), (0, 12), (0, 12), (0, 192), (0, 192), (0, 192), (0, 768), (0, 768), (0, 384), (0, 192), (0, 192), (0, 192), (1, 192), (0, 192), (0, 192), (0, 576), (0, 576), (0, 40), (0, 40), (0, 41), (0, 33000), (0, 33000), (0, 33000), (3, 33000), (3, 40), (0, 2000), (0, 2000), (0, 2000), (0, 2000), (0, 1700), (0, 13), (0, 13), (0, 13), (0, 3900), (0, 3900), (0, 3900), (0, 3900), (0, 3900), (0, 3900), (0, 3900), (0, 3900), (0, 3900), (0, 3900), (0, 3900), (1, 3900), (3, 3900), (0, 400), (0, 400), (0, 400), (1, 400), (3, 400), (0, 100), (0, 100), (1, 100), (3, 100), (1, 100), (0, 300), (0, 300), (3, 192), (0, 160), (0, 160), (1, 160), (0, 160), (0, 640), (0, 300), (0, 300), (0, 3), (0, 8), (0, 32), (0, 8)]
def wB (L : Nat) (xs : Nat → Int32) : e3_B := (tbT, tb_ro L xs, (fun ci => wFc.getD ci []), (fun ci kf => tb_lk wCTl ci kf), wG0 L)
theorem w_gd {α : Type} {l : List (List α)} {i : Nat} (h : l.length ≤ i) : l.getD i [] = [] := by
  rw [List.getD_eq_getElem?_getD, List.getElem?_eq_none h]
  rfl
theorem wZ (L : Nat) (xs : Nat → Int32) : e3_Z (wB L xs) := by
  refine ⟨fun ci => ?_, fun ci => ?_, fun t y h => ?_, fun t C h => ?_⟩
  · rcases Nat.lt_or_ge ci 13 with h | h
    · have key : ∀ k : Fin 13, tb_dfs.getD k.val [] = (wFc.getD k.val []).map e3_dv := by decide +kernel
      exact key ⟨ci, h⟩
    · show tb_dfs.getD ci [] = (wFc.getD ci []).map e3_dv
      rw [w_gd (l := tb_dfs) (show tb_dfs.length ≤ ci from h), w_gd (l := wFc) (show wFc.length ≤ ci from h)]
      rfl
  · rcases Nat.lt_or_ge ci 13 with h | h
    · have key : ∀ k : Fin 13, ∀ c ∈ wFc.getD k.val [], c < 3 := by decide +kernel
      exact key ⟨ci, h⟩
    · intro c hc
      have hc : c ∈ wFc.getD ci [] := hc
      rw [w_gd (l := wFc) (show wFc.length ≤ ci from h)] at hc
      cases hc
  · have : t < tb_ty.length := (List.getElem?_eq_some_iff.mp h).1
    have e : tb_ty.length = 8 := rfl
    omega
  · match t, h with
    | 0, h => cases h
    | 1, h => cases h
    | 2, h => cases h
    | 3, h => cases h
    | t + 4, _ => omega
def e3_ix (c : Int) : Int := match ([59, 44, 40, 41, 123, 125, 58, 124, 95, 60, 61, 62, 43, 45, 42, 47, 37] : List Int).findIdx? (fun q => q == c) with
  | some k => (k : Int)
  | none => -1
theorem w_fx (z : Int32) : ∀ l : List Int32, (l.map Int32.toInt).findIdx? (fun q => q == z.toInt) = l.findIdx? (fun q => q == z) := by
  intro l
  induction l with
  | nil => rfl
  | cons a l ih =>
    rw [List.map_cons, List.findIdx?_cons, List.findIdx?_cons, ih]
    by_cases h : a = z
    · subst h
      simp
    · have h2 : ¬ a.toInt = z.toInt := fun k => h (Int32.toInt_inj.mp k)
      simp [h, h2]
theorem w_ixl : ([59, 44, 40, 41, 123, 125, 58, 124, 95, 60, 61, 62, 43, 45, 42, 47, 37] : List Int) = am_ixl.map Int32.toInt := by decide +kernel
theorem w_ix (x : Int) : e3_i32 (e3_ix (e3_ch x)) ∧ Int32.ofInt (e3_ix (e3_ch x)) = am_ix (Int32.ofInt x) := by
  have key : ([59, 44, 40, 41, 123, 125, 58, 124, 95, 60, 61, 62, 43, 45, 42, 47, 37] : List Int).findIdx? (fun q => q == e3_ch x) = am_ixl.findIdx? (fun q => q == ((Int32.ofInt x).toUInt32 % 65536).toInt32) := by
    rw [w_ixl]
    exact w_fx _ am_ixl
  unfold e3_ix am_ix
  rw [key]
  cases h : am_ixl.findIdx? (fun q => q == ((Int32.ofInt x).toUInt32 % 65536).toInt32) with
  | none => exact ⟨⟨by decide, by decide⟩, rfl⟩
  | some k =>
    have hk : k < 17 := by
      obtain ⟨h1, _⟩ := List.findIdx?_eq_some_iff_getElem.mp h
      exact h1
    refine ⟨⟨?_, ?_⟩, rfl⟩
    · show (-2147483648 : Int) ≤ (k : Int)
      omega
    · show (k : Int) ≤ 2147483647
      omega
/-- the String constant SIGNS and its indexOf -/
theorem w_six (L : Nat) (xs : Nat → Int32) {f w : Nat} {H : e3_H} {G : e3_G} {Q : Option e3_V → e3_H → e3_G → Prop} {x : Int} {lv : List e3_V} (hf : 8 ≤ f) (hw : 400 ≤ w) (hl : lv[2]? = some (0, x)) (K : e3_Ev (wB L xs) f w 16 141 lv [(0, e3_ix (e3_ch x))] H G Q) : e3_Ev (wB L xs) f w 16 134 lv [] H G Q := by
  intro lvA h hL hS hR
  obtain ⟨w1, w2⟩ := w_ix x
  obtain ⟨r, H2, G2, h2, a, b, c, d⟩ := K lvA h hL (e3_S_cons.mpr ⟨w1, hS⟩) hR
  refine ⟨r, H2, G2, h2, ?_, b, c, d⟩
  have hld : am_ld lvA 2 = some (.int (Int32.ofInt x)) := (hL 2 0 x hl (by decide)).2
  have a' : am_ev (wB L xs).1 (wB L xs).2.1 f w 16 (134 + 7) lvA (.int (am_ix (Int32.ofInt x)) :: []) h (r.map e3_v) h2 := by
    rw [← w2]
    exact a
  refine am_ev_sq (i := .ldc 65) (len := 2) (M := tbM16) rfl rfl rfl rfl rfl rfl ?_ hf hw (by decide) a'
  show (match am_ml tbT 16 65, am_ld lvA 2 with
    | some (_, 6, _), some (.int x) => some (am_ix x)
    | _, _ => none) = _
  rw [hld]
  rfl
