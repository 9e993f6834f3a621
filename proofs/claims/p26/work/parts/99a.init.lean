/-- the memory behind both constructors -/
def w0o : List (List Int) := [[], [], [3, 8, 14, 16, 26, 34, 0, 0, 0], [4, 0, 5, 6, 7, 0, 0, 0, 0, 0], [], [], [], [], [0, 9, 10, 11, 12, 13], [], [], [], [], [], [3, 8, 15, 0, 0, 0, -1, -1], [], [8, 17, -1, 0, 24, 25, 0, 0], [0, 0, 0, 0, 18, 19, 20, 21, 22, 23], [], [], [], [], [], [], [], [], [8, 0, 27, 28, 29, 30, 31, 32, 33], [], [], [], [], [], [], [], [14, 8, 26, 35, 36, 0, 0, 37, 38, 0, 39, 0], [], [], [], [], [], [41, 0, 0, 0, 0, 0, 0, 0, 0, 0, 0, 0, 42, 43, 44, 45, 0, 46, 47, 48, 49, 50, 51, 52, 53, 54, 55, 0, 56, 57, 58, 0, 0, 59, 60, 61, 62, 63, 64, 65, 66, 0, 67, 68, 69, 70, 71, 72, 73, 74, 75, 76, 77, 78, 79, 80, 81, 82, 83, 84, 85, 0, 86, 87, 88, 0, 89, 90, 91, 92, 93, 0, 94, 95, 96, 97, 98, 99, 100, 101, 102, 103, 104, 105, 106, 107, 108, 109, 110, 111, 112, 113, 114, 0, 115, 116, 117, 118, 119, 0, 120, 121, 122, 123, 124, 0, 125, 126, 127, 0, 128, 129, 130, 131, 132, 133, 134, 135, 136, 0, 0, 0, 0, 0, 0, 0, 0, 137, 0, 138], [], [], [], [], [], [], [], [], [], [], [], [], [], [], [], [], [], [], [], [], [], [], [], [], [], [], [], [], [], [], [], [], [], [], [], [], [], [], [], [], [], [], [], [], [], [], [], [], [], [], [], [], [], [], [], [], [], [], [], [], [], [], [], [], [], [], [], [], [], [], [], [], [], [], [], [], [], [], [], [], [], [], [], [], [], [], [], [], [], [], [], [], [], [], [], [], [], []]
def w0 (xs : Nat → Int32) : e3_H := fun a k => if a = 0 then (xs k.toNat).toInt else if a = 1 then (tb_words k.toNat).toInt else if a = 15 then -1 else (w0o.getD a.toNat []).getD k.toNat 0
abbrev wF : Nat → List Nat := fun ci => wFc.getD ci []
theorem e3_z0 {F : Nat → List Nat} {t n : Nat} {φ : Int → Int} (h1 : t ≠ 1) (h4 : t < 4) (h : ∀ j : Int, φ j = 0) : (.inl (t, n, .inl (fun _ => 0)) : am_E) = e3_c F (t, n) φ := by
  have e : φ = fun _ => 0 := funext h
  unfold e3_c
  rw [if_neg h1, if_pos h4, e]
  rfl
theorem e3_z1 {F : Nat → List Nat} {n : Nat} {φ : Int → Int} (h : ∀ j : Int, φ j = 0) : (.inl (1, n, .inr (.inl (fun _ => 0))) : am_E) = e3_c F (1, n) φ := by
  have e : φ = fun _ => 0 := funext h
  unfold e3_c
  rw [if_pos rfl, e]
  rfl
theorem e3_z4 {F : Nat → List Nat} {t n : Nat} {φ : Int → Int} (h4 : 4 ≤ t) (h9 : t < 100) (h : ∀ j : Int, φ j = -1) : (.inl (t, n, .inr (.inr (.inr (.inr (fun _ => none))))) : am_E) = e3_c F (t, n) φ := by
  have e : φ = fun _ => -1 := funext h
  unfold e3_c
  rw [if_neg (show ¬ t = 1 by omega), if_neg (show ¬ t < 4 by omega), if_pos h9, e]
  rfl
theorem e3_zo {F : Nat → List Nat} {c ci n : Nat} {φ : Int → Int} {l : List Value} (hc : c = 100 + ci) (h : (F ci).mapIdx (fun k c => e3_v (c, φ (k : Int))) = l) : (.inr (ci, l) : am_E) = e3_c F (c, n) φ := by
  subst hc
  unfold e3_c
  rw [if_neg (show ¬ 100 + ci = 1 by omega), if_neg (show ¬ 100 + ci < 4 by omega), if_neg (show ¬ 100 + ci < 100 by omega)]
  show _ = (Sum.inr (100 + ci - 100, (F (100 + ci - 100)).mapIdx (fun k c => e3_v (c, φ (k : Int)))) : am_E)
  rw [Nat.add_sub_cancel_left, h]
def w1 (a k : Int) : Int := if a = 15 then -1 else (w0o.getD a.toNat []).getD k.toNat 0
theorem w0_1 (xs : Nat → Int32) {a : Int} (ha : 2 ≤ a) : w0 xs a = w1 a := by
  funext k
  unfold w0 w1
  rw [if_neg (by omega), if_neg (by omega)]
def w0_Z (xs : Nat → Int32) : Nat → e3_G → List am_E → Prop
  | k, g :: gs, c :: cs => c = e3_c wF g (w0 xs (k : Int)) ∧ w0_Z xs (k + 1) gs cs
  | _, [], [] => True
  | _, _, _ => False
theorem w0_zat (xs : Nat → Int32) : ∀ (gs : e3_G) (cs : List am_E) (k : Nat), w0_Z xs k gs cs → ∀ (i : Nat) (g : Nat × Nat), gs[i]? = some g → cs[i]? = some (e3_c wF g (w0 xs ((k + i : Nat) : Int)))
  | [], _, _, _, _, _, h => by cases h
  | g :: gs, [], _, hz, _, _, _ => hz.elim
  | g :: gs, c :: cs, k, hz, 0, g2, h => by
    cases h
    rw [hz.1]
    rfl
  | g :: gs, c :: cs, k, hz, i + 1, g2, h => by
    have := w0_zat xs gs cs (k + 1) hz.2 i g2 h
    rw [show k + (i + 1) = k + 1 + i by omega]
    exact this
theorem w0_c0 (xs : Nat → Int32) : rn_c0 = e3_c wF (100, 9) (w0 xs ((2 : Nat) : Int)) := by
  rw [w0_1 xs (by decide)]
  exact e3_zo (ci := 0) rfl (by decide +kernel)
theorem w0_c1 (xs : Nat → Int32) : rn_c1 = e3_c wF (101, 10) (w0 xs ((3 : Nat) : Int)) := by
  rw [w0_1 xs (by decide)]
  exact e3_zo (ci := 1) rfl (by decide +kernel)
theorem w0_c2 (xs : Nat → Int32) : rn_c2 = e3_c wF (2, 1600) (w0 xs ((4 : Nat) : Int)) := e3_z0 (by decide) (by decide) (fun _ => rfl)
theorem w0_c3 (xs : Nat → Int32) : rn_c3 = e3_c wF (0, 1601) (w0 xs ((5 : Nat) : Int)) := e3_z0 (by decide) (by decide) (fun _ => rfl)
theorem w0_c4 (xs : Nat → Int32) : rn_c4 = e3_c wF (0, 1601) (w0 xs ((6 : Nat) : Int)) := e3_z0 (by decide) (by decide) (fun _ => rfl)
theorem w0_c5 (xs : Nat → Int32) : rn_c5 = e3_c wF (1, 1601) (w0 xs ((7 : Nat) : Int)) := e3_z1 (fun _ => rfl)
theorem w0_c6 (xs : Nat → Int32) : rn_c6 = e3_c wF (102, 6) (w0 xs ((8 : Nat) : Int)) := by
  rw [w0_1 xs (by decide)]
  exact e3_zo (ci := 2) rfl (by decide +kernel)
theorem w0_c7 (xs : Nat → Int32) : rn_c7 = e3_c wF (1, 24) (w0 xs ((9 : Nat) : Int)) := e3_z1 (fun _ => rfl)
theorem w0_c8 (xs : Nat → Int32) : rn_c8 = e3_c wF (0, 24) (w0 xs ((10 : Nat) : Int)) := e3_z0 (by decide) (by decide) (fun _ => rfl)
theorem w0_c9 (xs : Nat → Int32) : rn_c9 = e3_c wF (3, 24) (w0 xs ((11 : Nat) : Int)) := e3_z0 (by decide) (by decide) (fun _ => rfl)
theorem w0_c10 (xs : Nat → Int32) : rn_c10 = e3_c wF (0, 24) (w0 xs ((12 : Nat) : Int)) := e3_z0 (by decide) (by decide) (fun _ => rfl)
theorem w0_c11 (xs : Nat → Int32) : rn_c11 = e3_c wF (0, 96) (w0 xs ((13 : Nat) : Int)) := e3_z0 (by decide) (by decide) (fun _ => rfl)
theorem w0_c12 (xs : Nat → Int32) : rn_c12 = e3_c wF (103, 8) (w0 xs ((14 : Nat) : Int)) := by
  rw [w0_1 xs (by decide)]
  exact e3_zo (ci := 3) rfl (by decide +kernel)
theorem w0_c13 (xs : Nat → Int32) : rn_c13 = e3_c wF (4, 12) (w0 xs ((15 : Nat) : Int)) := e3_z4 (by decide) (by decide) (fun _ => rfl)
theorem w0_c14 (xs : Nat → Int32) : rn_c14 = e3_c wF (104, 8) (w0 xs ((16 : Nat) : Int)) := by
  rw [w0_1 xs (by decide)]
  exact e3_zo (ci := 4) rfl (by decide +kernel)
theorem w0_c15 (xs : Nat → Int32) : rn_c15 = e3_c wF (105, 10) (w0 xs ((17 : Nat) : Int)) := by
  rw [w0_1 xs (by decide)]
  exact e3_zo (ci := 5) rfl (by decide +kernel)
theorem w0_c16 (xs : Nat → Int32) : rn_c16 = e3_c wF (0, 120) (w0 xs ((18 : Nat) : Int)) := e3_z0 (by decide) (by decide) (fun _ => rfl)
theorem w0_c17 (xs : Nat → Int32) : rn_c17 = e3_c wF (0, 120) (w0 xs ((19 : Nat) : Int)) := e3_z0 (by decide) (by decide) (fun _ => rfl)
theorem w0_c18 (xs : Nat → Int32) : rn_c18 = e3_c wF (0, 120) (w0 xs ((20 : Nat) : Int)) := e3_z0 (by decide) (by decide) (fun _ => rfl)
theorem w0_c19 (xs : Nat → Int32) : rn_c19 = e3_c wF (0, 120) (w0 xs ((21 : Nat) : Int)) := e3_z0 (by decide) (by decide) (fun _ => rfl)
theorem w0_c20 (xs : Nat → Int32) : rn_c20 = e3_c wF (0, 120) (w0 xs ((22 : Nat) : Int)) := e3_z0 (by decide) (by decide) (fun _ => rfl)
theorem w0_c21 (xs : Nat → Int32) : rn_c21 = e3_c wF (1, 120) (w0 xs ((23 : Nat) : Int)) := e3_z1 (fun _ => rfl)
theorem w0_c22 (xs : Nat → Int32) : rn_c22 = e3_c wF (1, 16) (w0 xs ((24 : Nat) : Int)) := e3_z1 (fun _ => rfl)
theorem w0_c23 (xs : Nat → Int32) : rn_c23 = e3_c wF (1, 201) (w0 xs ((25 : Nat) : Int)) := e3_z1 (fun _ => rfl)
theorem w0_c24 (xs : Nat → Int32) : rn_c24 = e3_c wF (106, 9) (w0 xs ((26 : Nat) : Int)) := by
  rw [w0_1 xs (by decide)]
  exact e3_zo (ci := 6) rfl (by decide +kernel)
theorem w0_c25 (xs : Nat → Int32) : rn_c25 = e3_c wF (0, 160) (w0 xs ((27 : Nat) : Int)) := e3_z0 (by decide) (by decide) (fun _ => rfl)
theorem w0_c26 (xs : Nat → Int32) : rn_c26 = e3_c wF (1, 160) (w0 xs ((28 : Nat) : Int)) := e3_z1 (fun _ => rfl)
theorem w0_c27 (xs : Nat → Int32) : rn_c27 = e3_c wF (0, 160) (w0 xs ((29 : Nat) : Int)) := e3_z0 (by decide) (by decide) (fun _ => rfl)
theorem w0_c28 (xs : Nat → Int32) : rn_c28 = e3_c wF (0, 160) (w0 xs ((30 : Nat) : Int)) := e3_z0 (by decide) (by decide) (fun _ => rfl)
theorem w0_c29 (xs : Nat → Int32) : rn_c29 = e3_c wF (0, 640) (w0 xs ((31 : Nat) : Int)) := e3_z0 (by decide) (by decide) (fun _ => rfl)
theorem w0_c30 (xs : Nat → Int32) : rn_c30 = e3_c wF (0, 160) (w0 xs ((32 : Nat) : Int)) := e3_z0 (by decide) (by decide) (fun _ => rfl)
theorem w0_c31 (xs : Nat → Int32) : rn_c31 = e3_c wF (0, 4) (w0 xs ((33 : Nat) : Int)) := e3_z0 (by decide) (by decide) (fun _ => rfl)
theorem w0_c32 (xs : Nat → Int32) : rn_c32 = e3_c wF (107, 12) (w0 xs ((34 : Nat) : Int)) := by
  rw [w0_1 xs (by decide)]
  exact e3_zo (ci := 7) rfl (by decide +kernel)
theorem w0_c33 (xs : Nat → Int32) : rn_c33 = e3_c wF (0, 3) (w0 xs ((35 : Nat) : Int)) := e3_z0 (by decide) (by decide) (fun _ => rfl)
theorem w0_c34 (xs : Nat → Int32) : rn_c34 = e3_c wF (0, 8) (w0 xs ((36 : Nat) : Int)) := e3_z0 (by decide) (by decide) (fun _ => rfl)
theorem w0_c35 (xs : Nat → Int32) : rn_c35 = e3_c wF (0, 7) (w0 xs ((37 : Nat) : Int)) := e3_z0 (by decide) (by decide) (fun _ => rfl)
theorem w0_c36 (xs : Nat → Int32) : rn_c36 = e3_c wF (0, 32) (w0 xs ((38 : Nat) : Int)) := e3_z0 (by decide) (by decide) (fun _ => rfl)
theorem w0_c37 (xs : Nat → Int32) : rn_c37 = e3_c wF (0, 8) (w0 xs ((39 : Nat) : Int)) := e3_z0 (by decide) (by decide) (fun _ => rfl)
theorem w0_c38 (xs : Nat → Int32) : rn_c38 = e3_c wF (112, 130) (w0 xs ((40 : Nat) : Int)) := by
  rw [w0_1 xs (by decide)]
  exact e3_zo (ci := 12) rfl (by decide +kernel)
theorem w0_c39 (xs : Nat → Int32) : rn_c39 = e3_c wF (0, 1600) (w0 xs ((41 : Nat) : Int)) := e3_z0 (by decide) (by decide) (fun _ => rfl)
theorem w0_c40 (xs : Nat → Int32) : rn_c40 = e3_c wF (1, 24) (w0 xs ((42 : Nat) : Int)) := e3_z1 (fun _ => rfl)
theorem w0_c41 (xs : Nat → Int32) : rn_c41 = e3_c wF (0, 24) (w0 xs ((43 : Nat) : Int)) := e3_z0 (by decide) (by decide) (fun _ => rfl)
theorem w0_c42 (xs : Nat → Int32) : rn_c42 = e3_c wF (0, 24) (w0 xs ((44 : Nat) : Int)) := e3_z0 (by decide) (by decide) (fun _ => rfl)
theorem w0_c43 (xs : Nat → Int32) : rn_c43 = e3_c wF (0, 96) (w0 xs ((45 : Nat) : Int)) := e3_z0 (by decide) (by decide) (fun _ => rfl)
theorem w0_c44 (xs : Nat → Int32) : rn_c44 = e3_c wF (0, 1700) (w0 xs ((46 : Nat) : Int)) := e3_z0 (by decide) (by decide) (fun _ => rfl)
theorem w0_c45 (xs : Nat → Int32) : rn_c45 = e3_c wF (0, 1700) (w0 xs ((47 : Nat) : Int)) := e3_z0 (by decide) (by decide) (fun _ => rfl)
theorem w0_c46 (xs : Nat → Int32) : rn_c46 = e3_c wF (0, 1700) (w0 xs ((48 : Nat) : Int)) := e3_z0 (by decide) (by decide) (fun _ => rfl)
theorem w0_c47 (xs : Nat → Int32) : rn_c47 = e3_c wF (0, 1700) (w0 xs ((49 : Nat) : Int)) := e3_z0 (by decide) (by decide) (fun _ => rfl)
theorem w0_c48 (xs : Nat → Int32) : rn_c48 = e3_c wF (1, 1700) (w0 xs ((50 : Nat) : Int)) := e3_z1 (fun _ => rfl)
theorem w0_c49 (xs : Nat → Int32) : rn_c49 = e3_c wF (0, 1700) (w0 xs ((51 : Nat) : Int)) := e3_z0 (by decide) (by decide) (fun _ => rfl)
theorem w0_c50 (xs : Nat → Int32) : rn_c50 = e3_c wF (0, 1700) (w0 xs ((52 : Nat) : Int)) := e3_z0 (by decide) (by decide) (fun _ => rfl)
theorem w0_c51 (xs : Nat → Int32) : rn_c51 = e3_c wF (0, 1700) (w0 xs ((53 : Nat) : Int)) := e3_z0 (by decide) (by decide) (fun _ => rfl)
theorem w0_c52 (xs : Nat → Int32) : rn_c52 = e3_c wF (0, 1700) (w0 xs ((54 : Nat) : Int)) := e3_z0 (by decide) (by decide) (fun _ => rfl)
theorem w0_c53 (xs : Nat → Int32) : rn_c53 = e3_c wF (0, 1700) (w0 xs ((55 : Nat) : Int)) := e3_z0 (by decide) (by decide) (fun _ => rfl)
theorem w0_c54 (xs : Nat → Int32) : rn_c54 = e3_c wF (0, 192) (w0 xs ((56 : Nat) : Int)) := e3_z0 (by decide) (by decide) (fun _ => rfl)
theorem w0_c55 (xs : Nat → Int32) : rn_c55 = e3_c wF (1, 1536) (w0 xs ((57 : Nat) : Int)) := e3_z1 (fun _ => rfl)
theorem w0_c56 (xs : Nat → Int32) : rn_c56 = e3_c wF (0, 1536) (w0 xs ((58 : Nat) : Int)) := e3_z0 (by decide) (by decide) (fun _ => rfl)
theorem w0_c57 (xs : Nat → Int32) : rn_c57 = e3_c wF (0, 8) (w0 xs ((59 : Nat) : Int)) := e3_z0 (by decide) (by decide) (fun _ => rfl)
theorem w0_c58 (xs : Nat → Int32) : rn_c58 = e3_c wF (0, 8) (w0 xs ((60 : Nat) : Int)) := e3_z0 (by decide) (by decide) (fun _ => rfl)
theorem w0_c59 (xs : Nat → Int32) : rn_c59 = e3_c wF (0, 8) (w0 xs ((61 : Nat) : Int)) := e3_z0 (by decide) (by decide) (fun _ => rfl)
theorem w0_c60 (xs : Nat → Int32) : rn_c60 = e3_c wF (0, 8) (w0 xs ((62 : Nat) : Int)) := e3_z0 (by decide) (by decide) (fun _ => rfl)
theorem w0_c61 (xs : Nat → Int32) : rn_c61 = e3_c wF (0, 8) (w0 xs ((63 : Nat) : Int)) := e3_z0 (by decide) (by decide) (fun _ => rfl)
theorem w0_c62 (xs : Nat → Int32) : rn_c62 = e3_c wF (0, 8) (w0 xs ((64 : Nat) : Int)) := e3_z0 (by decide) (by decide) (fun _ => rfl)
theorem w0_c63 (xs : Nat → Int32) : rn_c63 = e3_c wF (3, 8) (w0 xs ((65 : Nat) : Int)) := e3_z0 (by decide) (by decide) (fun _ => rfl)
theorem w0_c64 (xs : Nat → Int32) : rn_c64 = e3_c wF (0, 64) (w0 xs ((66 : Nat) : Int)) := e3_z0 (by decide) (by decide) (fun _ => rfl)
theorem w0_c65 (xs : Nat → Int32) : rn_c65 = e3_c wF (1, 12) (w0 xs ((67 : Nat) : Int)) := e3_z1 (fun _ => rfl)
theorem w0_c66 (xs : Nat → Int32) : rn_c66 = e3_c wF (0, 12) (w0 xs ((68 : Nat) : Int)) := e3_z0 (by decide) (by decide) (fun _ => rfl)
theorem w0_c67 (xs : Nat → Int32) : rn_c67 = e3_c wF (0, 36) (w0 xs ((69 : Nat) : Int)) := e3_z0 (by decide) (by decide) (fun _ => rfl)
theorem w0_c68 (xs : Nat → Int32) : rn_c68 = e3_c wF (0, 12) (w0 xs ((70 : Nat) : Int)) := e3_z0 (by decide) (by decide) (fun _ => rfl)
theorem w0_c69 (xs : Nat → Int32) : rn_c69 = e3_c wF (0, 12) (w0 xs ((71 : Nat) : Int)) := e3_z0 (by decide) (by decide) (fun _ => rfl)
theorem w0_c70 (xs : Nat → Int32) : rn_c70 = e3_c wF (0, 192) (w0 xs ((72 : Nat) : Int)) := e3_z0 (by decide) (by decide) (fun _ => rfl)
theorem w0_c71 (xs : Nat → Int32) : rn_c71 = e3_c wF (0, 192) (w0 xs ((73 : Nat) : Int)) := e3_z0 (by decide) (by decide) (fun _ => rfl)
theorem w0_c72 (xs : Nat → Int32) : rn_c72 = e3_c wF (0, 192) (w0 xs ((74 : Nat) : Int)) := e3_z0 (by decide) (by decide) (fun _ => rfl)
theorem w0_c73 (xs : Nat → Int32) : rn_c73 = e3_c wF (0, 768) (w0 xs ((75 : Nat) : Int)) := e3_z0 (by decide) (by decide) (fun _ => rfl)
theorem w0_c74 (xs : Nat → Int32) : rn_c74 = e3_c wF (0, 768) (w0 xs ((76 : Nat) : Int)) := e3_z0 (by decide) (by decide) (fun _ => rfl)
theorem w0_c75 (xs : Nat → Int32) : rn_c75 = e3_c wF (0, 384) (w0 xs ((77 : Nat) : Int)) := e3_z0 (by decide) (by decide) (fun _ => rfl)
theorem w0_c76 (xs : Nat → Int32) : rn_c76 = e3_c wF (0, 192) (w0 xs ((78 : Nat) : Int)) := e3_z0 (by decide) (by decide) (fun _ => rfl)
theorem w0_c77 (xs : Nat → Int32) : rn_c77 = e3_c wF (0, 192) (w0 xs ((79 : Nat) : Int)) := e3_z0 (by decide) (by decide) (fun _ => rfl)
theorem w0_c78 (xs : Nat → Int32) : rn_c78 = e3_c wF (0, 192) (w0 xs ((80 : Nat) : Int)) := e3_z0 (by decide) (by decide) (fun _ => rfl)
theorem w0_c79 (xs : Nat → Int32) : rn_c79 = e3_c wF (1, 192) (w0 xs ((81 : Nat) : Int)) := e3_z1 (fun _ => rfl)
theorem w0_c80 (xs : Nat → Int32) : rn_c80 = e3_c wF (0, 192) (w0 xs ((82 : Nat) : Int)) := e3_z0 (by decide) (by decide) (fun _ => rfl)
theorem w0_c81 (xs : Nat → Int32) : rn_c81 = e3_c wF (0, 192) (w0 xs ((83 : Nat) : Int)) := e3_z0 (by decide) (by decide) (fun _ => rfl)
theorem w0_c82 (xs : Nat → Int32) : rn_c82 = e3_c wF (0, 576) (w0 xs ((84 : Nat) : Int)) := e3_z0 (by decide) (by decide) (fun _ => rfl)
theorem w0_c83 (xs : Nat → Int32) : rn_c83 = e3_c wF (0, 576) (w0 xs ((85 : Nat) : Int)) := e3_z0 (by decide) (by decide) (fun _ => rfl)
theorem w0_c84 (xs : Nat → Int32) : rn_c84 = e3_c wF (0, 40) (w0 xs ((86 : Nat) : Int)) := e3_z0 (by decide) (by decide) (fun _ => rfl)
theorem w0_c85 (xs : Nat → Int32) : rn_c85 = e3_c wF (0, 40) (w0 xs ((87 : Nat) : Int)) := e3_z0 (by decide) (by decide) (fun _ => rfl)
theorem w0_c86 (xs : Nat → Int32) : rn_c86 = e3_c wF (0, 41) (w0 xs ((88 : Nat) : Int)) := e3_z0 (by decide) (by decide) (fun _ => rfl)
theorem w0_c87 (xs : Nat → Int32) : rn_c87 = e3_c wF (0, 33000) (w0 xs ((89 : Nat) : Int)) := e3_z0 (by decide) (by decide) (fun _ => rfl)
theorem w0_c88 (xs : Nat → Int32) : rn_c88 = e3_c wF (0, 33000) (w0 xs ((90 : Nat) : Int)) := e3_z0 (by decide) (by decide) (fun _ => rfl)
theorem w0_c89 (xs : Nat → Int32) : rn_c89 = e3_c wF (0, 33000) (w0 xs ((91 : Nat) : Int)) := e3_z0 (by decide) (by decide) (fun _ => rfl)
theorem w0_c90 (xs : Nat → Int32) : rn_c90 = e3_c wF (3, 33000) (w0 xs ((92 : Nat) : Int)) := e3_z0 (by decide) (by decide) (fun _ => rfl)
theorem w0_c91 (xs : Nat → Int32) : rn_c91 = e3_c wF (3, 40) (w0 xs ((93 : Nat) : Int)) := e3_z0 (by decide) (by decide) (fun _ => rfl)
theorem w0_c92 (xs : Nat → Int32) : rn_c92 = e3_c wF (0, 2000) (w0 xs ((94 : Nat) : Int)) := e3_z0 (by decide) (by decide) (fun _ => rfl)
theorem w0_c93 (xs : Nat → Int32) : rn_c93 = e3_c wF (0, 2000) (w0 xs ((95 : Nat) : Int)) := e3_z0 (by decide) (by decide) (fun _ => rfl)
theorem w0_c94 (xs : Nat → Int32) : rn_c94 = e3_c wF (0, 2000) (w0 xs ((96 : Nat) : Int)) := e3_z0 (by decide) (by decide) (fun _ => rfl)
theorem w0_c95 (xs : Nat → Int32) : rn_c95 = e3_c wF (0, 2000) (w0 xs ((97 : Nat) : Int)) := e3_z0 (by decide) (by decide) (fun _ => rfl)
theorem w0_c96 (xs : Nat → Int32) : rn_c96 = e3_c wF (0, 1700) (w0 xs ((98 : Nat) : Int)) := e3_z0 (by decide) (by decide) (fun _ => rfl)
theorem w0_c97 (xs : Nat → Int32) : rn_c97 = e3_c wF (0, 13) (w0 xs ((99 : Nat) : Int)) := e3_z0 (by decide) (by decide) (fun _ => rfl)
theorem w0_c98 (xs : Nat → Int32) : rn_c98 = e3_c wF (0, 13) (w0 xs ((100 : Nat) : Int)) := e3_z0 (by decide) (by decide) (fun _ => rfl)
theorem w0_c99 (xs : Nat → Int32) : rn_c99 = e3_c wF (0, 13) (w0 xs ((101 : Nat) : Int)) := e3_z0 (by decide) (by decide) (fun _ => rfl)
theorem w0_c100 (xs : Nat → Int32) : rn_c100 = e3_c wF (0, 3900) (w0 xs ((102 : Nat) : Int)) := e3_z0 (by decide) (by decide) (fun _ => rfl)
theorem w0_c101 (xs : Nat → Int32) : rn_c101 = e3_c wF (0, 3900) (w0 xs ((103 : Nat) : Int)) := e3_z0 (by decide) (by decide) (fun _ => rfl)
theorem w0_c102 (xs : Nat → Int32) : rn_c102 = e3_c wF (0, 3900) (w0 xs ((104 : Nat) : Int)) := e3_z0 (by decide) (by decide) (fun _ => rfl)
theorem w0_c103 (xs : Nat → Int32) : rn_c103 = e3_c wF (0, 3900) (w0 xs ((105 : Nat) : Int)) := e3_z0 (by decide) (by decide) (fun _ => rfl)
theorem w0_c104 (xs : Nat → Int32) : rn_c104 = e3_c wF (0, 3900) (w0 xs ((106 : Nat) : Int)) := e3_z0 (by decide) (by decide) (fun _ => rfl)
theorem w0_c105 (xs : Nat → Int32) : rn_c105 = e3_c wF (0, 3900) (w0 xs ((107 : Nat) : Int)) := e3_z0 (by decide) (by decide) (fun _ => rfl)
theorem w0_c106 (xs : Nat → Int32) : rn_c106 = e3_c wF (0, 3900) (w0 xs ((108 : Nat) : Int)) := e3_z0 (by decide) (by decide) (fun _ => rfl)
theorem w0_c107 (xs : Nat → Int32) : rn_c107 = e3_c wF (0, 3900) (w0 xs ((109 : Nat) : Int)) := e3_z0 (by decide) (by decide) (fun _ => rfl)
theorem w0_c108 (xs : Nat → Int32) : rn_c108 = e3_c wF (0, 3900) (w0 xs ((110 : Nat) : Int)) := e3_z0 (by decide) (by decide) (fun _ => rfl)
theorem w0_c109 (xs : Nat → Int32) : rn_c109 = e3_c wF (0, 3900) (w0 xs ((111 : Nat) : Int)) := e3_z0 (by decide) (by decide) (fun _ => rfl)
theorem w0_c110 (xs : Nat → Int32) : rn_c110 = e3_c wF (0, 3900) (w0 xs ((112 : Nat) : Int)) := e3_z0 (by decide) (by decide) (fun _ => rfl)
theorem w0_c111 (xs : Nat → Int32) : rn_c111 = e3_c wF (1, 3900) (w0 xs ((113 : Nat) : Int)) := e3_z1 (fun _ => rfl)
theorem w0_c112 (xs : Nat → Int32) : rn_c112 = e3_c wF (3, 3900) (w0 xs ((114 : Nat) : Int)) := e3_z0 (by decide) (by decide) (fun _ => rfl)
theorem w0_c113 (xs : Nat → Int32) : rn_c113 = e3_c wF (0, 400) (w0 xs ((115 : Nat) : Int)) := e3_z0 (by decide) (by decide) (fun _ => rfl)
theorem w0_c114 (xs : Nat → Int32) : rn_c114 = e3_c wF (0, 400) (w0 xs ((116 : Nat) : Int)) := e3_z0 (by decide) (by decide) (fun _ => rfl)
theorem w0_c115 (xs : Nat → Int32) : rn_c115 = e3_c wF (0, 400) (w0 xs ((117 : Nat) : Int)) := e3_z0 (by decide) (by decide) (fun _ => rfl)
theorem w0_c116 (xs : Nat → Int32) : rn_c116 = e3_c wF (1, 400) (w0 xs ((118 : Nat) : Int)) := e3_z1 (fun _ => rfl)
theorem w0_c117 (xs : Nat → Int32) : rn_c117 = e3_c wF (3, 400) (w0 xs ((119 : Nat) : Int)) := e3_z0 (by decide) (by decide) (fun _ => rfl)
theorem w0_c118 (xs : Nat → Int32) : rn_c118 = e3_c wF (0, 100) (w0 xs ((120 : Nat) : Int)) := e3_z0 (by decide) (by decide) (fun _ => rfl)
theorem w0_c119 (xs : Nat → Int32) : rn_c119 = e3_c wF (0, 100) (w0 xs ((121 : Nat) : Int)) := e3_z0 (by decide) (by decide) (fun _ => rfl)
theorem w0_c120 (xs : Nat → Int32) : rn_c120 = e3_c wF (1, 100) (w0 xs ((122 : Nat) : Int)) := e3_z1 (fun _ => rfl)
theorem w0_c121 (xs : Nat → Int32) : rn_c121 = e3_c wF (3, 100) (w0 xs ((123 : Nat) : Int)) := e3_z0 (by decide) (by decide) (fun _ => rfl)
theorem w0_c122 (xs : Nat → Int32) : rn_c122 = e3_c wF (1, 100) (w0 xs ((124 : Nat) : Int)) := e3_z1 (fun _ => rfl)
theorem w0_c123 (xs : Nat → Int32) : rn_c123 = e3_c wF (0, 300) (w0 xs ((125 : Nat) : Int)) := e3_z0 (by decide) (by decide) (fun _ => rfl)
theorem w0_c124 (xs : Nat → Int32) : rn_c124 = e3_c wF (0, 300) (w0 xs ((126 : Nat) : Int)) := e3_z0 (by decide) (by decide) (fun _ => rfl)
theorem w0_c125 (xs : Nat → Int32) : rn_c125 = e3_c wF (3, 192) (w0 xs ((127 : Nat) : Int)) := e3_z0 (by decide) (by decide) (fun _ => rfl)
theorem w0_c126 (xs : Nat → Int32) : rn_c126 = e3_c wF (0, 160) (w0 xs ((128 : Nat) : Int)) := e3_z0 (by decide) (by decide) (fun _ => rfl)
theorem w0_c127 (xs : Nat → Int32) : rn_c127 = e3_c wF (0, 160) (w0 xs ((129 : Nat) : Int)) := e3_z0 (by decide) (by decide) (fun _ => rfl)
theorem w0_c128 (xs : Nat → Int32) : rn_c128 = e3_c wF (1, 160) (w0 xs ((130 : Nat) : Int)) := e3_z1 (fun _ => rfl)
theorem w0_c129 (xs : Nat → Int32) : rn_c129 = e3_c wF (0, 160) (w0 xs ((131 : Nat) : Int)) := e3_z0 (by decide) (by decide) (fun _ => rfl)
theorem w0_c130 (xs : Nat → Int32) : rn_c130 = e3_c wF (0, 640) (w0 xs ((132 : Nat) : Int)) := e3_z0 (by decide) (by decide) (fun _ => rfl)
theorem w0_c131 (xs : Nat → Int32) : rn_c131 = e3_c wF (0, 300) (w0 xs ((133 : Nat) : Int)) := e3_z0 (by decide) (by decide) (fun _ => rfl)
theorem w0_c132 (xs : Nat → Int32) : rn_c132 = e3_c wF (0, 300) (w0 xs ((134 : Nat) : Int)) := e3_z0 (by decide) (by decide) (fun _ => rfl)
theorem w0_c133 (xs : Nat → Int32) : rn_c133 = e3_c wF (0, 3) (w0 xs ((135 : Nat) : Int)) := e3_z0 (by decide) (by decide) (fun _ => rfl)
theorem w0_c134 (xs : Nat → Int32) : rn_c134 = e3_c wF (0, 8) (w0 xs ((136 : Nat) : Int)) := e3_z0 (by decide) (by decide) (fun _ => rfl)
theorem w0_c135 (xs : Nat → Int32) : rn_c135 = e3_c wF (0, 32) (w0 xs ((137 : Nat) : Int)) := e3_z0 (by decide) (by decide) (fun _ => rfl)
theorem w0_c136 (xs : Nat → Int32) : rn_c136 = e3_c wF (0, 8) (w0 xs ((138 : Nat) : Int)) := e3_z0 (by decide) (by decide) (fun _ => rfl)
set_option maxRecDepth 100000 in
set_option maxHeartbeats 4000000 in
theorem w0_zz (L : Nat) (xs : Nat → Int32) : w0_Z xs 2 ((wG0 L).drop 2) rn_H := ⟨w0_c0 xs, w0_c1 xs, w0_c2 xs, w0_c3 xs, w0_c4 xs, w0_c5 xs, w0_c6 xs, w0_c7 xs, w0_c8 xs, w0_c9 xs, w0_c10 xs, w0_c11 xs, w0_c12 xs, w0_c13 xs, w0_c14 xs, w0_c15 xs, w0_c16 xs, w0_c17 xs, w0_c18 xs, w0_c19 xs, w0_c20 xs, w0_c21 xs, w0_c22 xs, w0_c23 xs, w0_c24 xs, w0_c25 xs, w0_c26 xs, w0_c27 xs, w0_c28 xs, w0_c29 xs, w0_c30 xs, w0_c31 xs, w0_c32 xs, w0_c33 xs, w0_c34 xs, w0_c35 xs, w0_c36 xs, w0_c37 xs, w0_c38 xs, w0_c39 xs, w0_c40 xs, w0_c41 xs, w0_c42 xs, w0_c43 xs, w0_c44 xs, w0_c45 xs, w0_c46 xs, w0_c47 xs, w0_c48 xs, w0_c49 xs, w0_c50 xs, w0_c51 xs, w0_c52 xs, w0_c53 xs, w0_c54 xs, w0_c55 xs, w0_c56 xs, w0_c57 xs, w0_c58 xs, w0_c59 xs, w0_c60 xs, w0_c61 xs, w0_c62 xs, w0_c63 xs, w0_c64 xs, w0_c65 xs, w0_c66 xs, w0_c67 xs, w0_c68 xs, w0_c69 xs, w0_c70 xs, w0_c71 xs, w0_c72 xs, w0_c73 xs, w0_c74 xs, w0_c75 xs, w0_c76 xs, w0_c77 xs, w0_c78 xs, w0_c79 xs, w0_c80 xs, w0_c81 xs, w0_c82 xs, w0_c83 xs, w0_c84 xs, w0_c85 xs, w0_c86 xs, w0_c87 xs, w0_c88 xs, w0_c89 xs, w0_c90 xs, w0_c91 xs, w0_c92 xs, w0_c93 xs, w0_c94 xs, w0_c95 xs, w0_c96 xs, w0_c97 xs, w0_c98 xs, w0_c99 xs, w0_c100 xs, w0_c101 xs, w0_c102 xs, w0_c103 xs, w0_c104 xs, w0_c105 xs, w0_c106 xs, w0_c107 xs, w0_c108 xs, w0_c109 xs, w0_c110 xs, w0_c111 xs, w0_c112 xs, w0_c113 xs, w0_c114 xs, w0_c115 xs, w0_c116 xs, w0_c117 xs, w0_c118 xs, w0_c119 xs, w0_c120 xs, w0_c121 xs, w0_c122 xs, w0_c123 xs, w0_c124 xs, w0_c125 xs, w0_c126 xs, w0_c127 xs, w0_c128 xs, w0_c129 xs, w0_c130 xs, w0_c131 xs, w0_c132 xs, w0_c133 xs, w0_c134 xs, w0_c135 xs, w0_c136 xs, trivial⟩
theorem w0_rg : ∀ l, l ∈ w0o → ∀ v, v ∈ l → (-1 : Int) ≤ v ∧ v ≤ 200 := by decide +kernel
theorem w0_gd {l : List Int} (h : ∀ v, v ∈ l → (-1 : Int) ≤ v ∧ v ≤ 200) (k : Nat) : (-1 : Int) ≤ l.getD k 0 ∧ l.getD k 0 ≤ 200 := by
  rw [List.getD_eq_getElem?_getD]
  cases hk : l[k]? with
  | none => exact ⟨by decide, by decide⟩
  | some v => exact h v (List.mem_of_getElem? hk)
theorem w0_l (n : Nat) : ∀ v, v ∈ w0o.getD n [] → (-1 : Int) ≤ v ∧ v ≤ 200 := by
  intro v hv
  rw [List.getD_eq_getElem?_getD] at hv
  cases hk : w0o[n]? with
  | none => rw [hk] at hv; cases hv
  | some l => rw [hk] at hv; exact w0_rg l (List.mem_of_getElem? hk) v hv
theorem w0_sm (xs : Nat → Int32) {a : Int} (ha : 2 ≤ a) (k : Int) : (-1 : Int) ≤ w0 xs a k ∧ w0 xs a k ≤ 200 := by
  unfold w0
  rw [if_neg (by omega), if_neg (by omega)]
  split
  · exact ⟨by decide, by decide⟩
  · exact w0_gd (w0_l _) _
theorem w0_ok {c : Nat} {x : Int} (hc : c < 3) (h1 : -1 ≤ x) (h2 : x ≤ 200) : e3_ok (c, x) := by
  match c, hc with
  | 0, _ => exact ⟨by omega, by omega⟩
  | 1, _ => exact ⟨by omega, by omega⟩
  | 2, _ => exact h1
theorem w0_sc (L : Nat) (xs : Nat → Int32) (g : Nat × Nat) (k : Nat) : e3_sc (fun ci => wFc.getD ci []) g k < 3 := by
  unfold e3_sc
  split
  · decide
  · split
    · decide
    · split
      · decide
      · cases hk : (wFc.getD (g.1 - 100) [])[k]? with
        | none => decide
        | some c => exact (wZ L xs).2.1 (g.1 - 100) c (List.mem_of_getElem? hk)
theorem w0_ct : ∀ (ci : Fin 13) (kf : Fin 130), (match tb_lk wCTl ci.val kf.val with
    | some (A, v) => decide (2 ≤ A) && decide ((if A = 15 then -1 else (w0o.getD A.toNat []).getD kf.val 0) = v) && decide (((wG0 0)[A.toNat]?.map Prod.fst) = some (100 + ci.val))
    | none => true) = true := by decide +kernel
theorem w0_cl : ∀ i, i < 13 → (wCTl.getD i []).length ≤ 130 := by decide +kernel
theorem w0_G (L : Nat) {n : Nat} (h : 1 ≤ n) : (wG0 L)[n]? = (wG0 0)[n]? := by
  match n, h with
  | n + 1, _ => rfl
theorem w0_g2 : ∀ g, g ∈ wG0 0 → 100 ≤ g.1 → g.2 = (wFc.getD (g.1 - 100) []).length := by decide +kernel
set_option maxRecDepth 100000 in
set_option maxHeartbeats 4000000 in
theorem w0_R (L : Nat) (xs : Nat → Int32) : e3_R (wB L xs) (w0 xs) (wG0 L) rn_H := by
  refine ⟨rfl, rfl, fun i g hg => ?_, fun i g hg k hk => ?_, fun i g hg => hg, fun ci kf A v h => ?_, fun i g hi hg => ?_, fun i g hg h100 => ?_⟩
  · match i, hg with
    | 0, hg =>
      cases hg
      show some (Sum.inl (0, L, Sum.inl xs) : am_E) = some (Sum.inl (0, L, Sum.inl (fun j => Int32.ofInt (xs j).toInt)))
      rw [show (fun j => Int32.ofInt (xs j).toInt) = xs from funext fun j => Int32.ofInt_toInt (xs j)]
    | 1, hg =>
      cases hg
      show some (Sum.inl (1, 11, Sum.inr (Sum.inl tb_words)) : am_E) = some (Sum.inl (1, 11, Sum.inr (Sum.inl (fun j => Int64.ofInt (tb_words j).toInt))))
      rw [show (fun j => Int64.ofInt (tb_words j).toInt) = tb_words from funext fun j => Int64.ofInt_toInt (tb_words j)]
    | i + 2, hg =>
      show rn_H[i]? = some (e3_c wF g (w0 xs ((i + 2 : Nat) : Int)))
      have := w0_zat xs _ _ 2 (w0_zz L xs) i g (by rw [List.getElem?_drop, Nat.add_comm 2 i]; exact hg)
      rw [Nat.add_comm 2 i] at this
      exact this
  · match i, hg with
    | 0, hg => cases hg; exact e3_rg32 _
    | 1, hg => cases hg; exact e3_rg64 _
    | i + 2, hg => exact w0_ok (w0_sc L xs g k) (w0_sm xs (by omega) _).1 (w0_sm xs (by omega) _).2
  · have h : tb_lk wCTl ci kf = some (A, v) := h
    obtain ⟨l, hl, hi⟩ := tb_lk_ok h
    have c13 : ci < 13 := (List.getElem?_eq_some_iff.mp hl).1
    have k130 : kf < 130 := by
      have a := w0_cl ci c13
      have b := (List.getElem?_eq_some_iff.mp hi).1
      rw [List.getD_eq_getElem?_getD, hl] at a
      exact Nat.lt_of_lt_of_le b a
    have key := w0_ct ⟨ci, c13⟩ ⟨kf, k130⟩
    simp only [h, Bool.and_eq_true, decide_eq_true_eq] at key
    obtain ⟨⟨k1, k2⟩, k3⟩ := key
    refine ⟨by omega, ?_, ?_⟩
    · unfold w0
      rw [if_neg (by omega), if_neg (by omega)]
      exact k2
    · rw [w0_G L (by omega)]
      cases hg : (wG0 0)[A.toNat]? with
      | none => rw [hg] at k3; cases k3
      | some g =>
        rw [hg] at k3
        have e : g.1 = 100 + ci := Option.some.inj k3
        exact ⟨g.2, by rw [← e]⟩
  · match i, hi, hg with
    | 0, _, hg => cases hg; show 0 < 2; decide
    | 1, _, hg => cases hg; show 1 < 2; decide
  · match i, hg with
    | 0, hg => cases hg; exact absurd h100 (by show ¬ 100 ≤ 0; decide)
    | i + 1, hg =>
      rw [w0_G L (by omega)] at hg
      exact w0_g2 g (List.mem_of_getElem? hg) h100
theorem w0_wd : ∀ j : Fin 11, (tb_words j.val).toInt = x_wd (j.val : Int) := by decide +kernel
set_option maxRecDepth 100000 in
/-- both programs at the start -/
theorem w0_J (L : Nat) (xs : Nat → Int32) : JI 0 (w0 xs) (wG0 L) := by
  have z31 : ∀ i : Int, w0 xs 31 i = 0 := fun _ => rfl
  have z30 : ∀ i : Int, w0 xs 30 i = 0 := fun _ => rfl
  have z132 : ∀ i : Int, w0 xs 132 i = 0 := fun _ => rfl
  have z136 : ∀ i : Int, w0 xs 136 i = 0 := fun _ => rfl
  have z109 : w0 xs 40 109 = 0 := rfl
  have z26 : w0 xs 26 1 = 0 := rfl
  have z349 : w0 xs 34 9 = 0 := rfl
  have z3411 : w0 xs 34 11 = 0 := rfl
  have z123 : w0 xs 40 123 = 0 := rfl
  have z128 : w0 xs 40 128 = 0 := rfl
  have tre : TRE 17 (w0 xs) (wG0 L) := ⟨Or.inl rfl, ⟨by decide, rfl⟩, ⟨rfl, by decide, rfl⟩, ⟨rfl, by decide, rfl⟩, ⟨rfl, by decide, rfl⟩, ⟨rfl, by decide, rfl⟩, ⟨rfl, by decide, rfl⟩, rfl, by decide, rfl⟩
  have dka : DA 24 17 (wG0 L) 16 := ⟨⟨by decide, by decide, rfl⟩, ⟨by decide, by decide⟩, Or.inl rfl, by decide⟩
  refine ⟨⟨⟨?_, ⟨⟨by decide, rfl⟩, by decide, rfl⟩, tre, ⟨16, dka⟩, fun j j0 j1 => ?_⟩, ⟨by decide, rfl⟩, ⟨by decide, rfl⟩, ⟨by decide, rfl⟩, ⟨by decide, rfl⟩, by decide, rfl⟩, ⟨⟨rfl, rfl⟩, by decide, fun k hk => absurd hk (Nat.not_lt_zero _)⟩, ⟨⟨by rw [z26]; decide, fun i _ _ => by rw [z31]; decide, fun i _ _ => by rw [z30]; decide⟩, by rw [z349]; decide, by rw [z3411]; decide⟩, ⟨⟨by rw [z109]; decide, fun i _ _ => by rw [z132]; exact ⟨by decide, Or.inr rfl⟩, fun v v0 v1 => by rw [z109] at v1; omega⟩, fun i _ _ => by rw [z136]; exact ⟨by decide, Or.inr rfl⟩, by rw [z123]; decide, by rw [z128]; decide, by rw [z128]; decide⟩, Or.inl ⟨rfl, rfl, rfl, rfl, rfl, rfl⟩⟩
  · exact Int.le_refl 139
  have := w0_wd ⟨j.toNat, by omega⟩
  simp only at this
  rw [show ((j.toNat : Nat) : Int) = j by omega] at this
  show (tb_words j.toNat).toInt = _
  exact this
theorem w0_E1 (xs : Nat → Int32) : E1 (w0 xs) := by
  have z26 : w0 xs 26 1 = 0 := rfl
  have z109 : w0 xs 40 109 = 0 := rfl
  have z8 : w0 xs 8 0 = 0 := rfl
  have z27 : w0 xs 2 7 = 0 := rfl
  have z11 : w0 xs 40 11 = 0 := rfl
  refine ⟨⟨by rw [z26, z109], fun v v0 v1 => by rw [z26] at v1; omega⟩, ?_⟩
  unfold LT
  rw [z8, z27, z11]
  decide
theorem w0_i32 (xs : Nat → Int32) (k : Int) : e3_i32 (w0 xs 0 k) := e3_rg32 (xs k.toNat)
theorem w0_gz : gz ((wG0 0).drop 1) ≤ 300000 := by decide +kernel
theorem gz_nn : ∀ G : e3_G, 0 ≤ gz G
  | [] => Int.le_refl 0
  | e :: G => by
    have := gz_nn G
    show 0 ≤ (e.2 : Int) + 12 + gz G
    omega
theorem gz_map : ∀ (G : e3_G) (zs : List Nat), zs = G.map Prod.snd → (zs.sum : Int) + 12 * (zs.length : Int) = gz G
  | [], _, h => by rw [h]; rfl
  | e :: G, zs, h => by
    have := gz_map G _ rfl
    rw [h]
    show (((e.2 + (G.map Prod.snd).sum : Nat)) : Int) + 12 * (((G.map Prod.snd).length + 1 : Nat) : Int) = (e.2 : Int) + 12 + gz G
    omega
/-- the weight of a heap, by its tags -/
theorem e3_sz {B : e3_B} {H : e3_H} {G : e3_G} {h : List am_E} (hR : e3_R B H G h) : (am_sl h : Int) + 12 * (h.length : Int) ≤ gz G := by
  obtain ⟨r1, r2, r3, r4, r5, r6, r7, r8⟩ := hR
  have e : h.map am_sz = (G.drop 2).map Prod.snd := by
    apply List.ext_getElem?
    intro i
    rw [List.getElem?_map, List.getElem?_map, List.getElem?_drop]
    cases hg : G[2 + i]? with
    | none =>
      have a := List.getElem?_eq_none_iff.mp hg
      rw [List.getElem?_eq_none (by omega)]
      rfl
    | some g =>
      have a := r3 (2 + i) g hg
      unfold am_at at a
      rw [if_neg (by omega), r1, show 2 + i - 2 = i by omega] at a
      rw [a]
      show some (am_sz (e3_c B.2.2.1 g (H ((2 + i : Nat) : Int)))) = some g.2
      unfold e3_c
      split
      · rfl
      · split
        · rfl
        · split
          · rfl
          · show some ((B.2.2.1 (g.1 - 100)).mapIdx _).length = _
            rw [List.length_mapIdx, ← r8 (2 + i) g hg (by omega)]
  have s := gz_map (G.drop 2) (h.map am_sz) e
  rw [List.length_map] at s
  have t := gz_app (G.take 2) (G.drop 2)
  rw [List.take_append_drop] at t
  have u := gz_nn (G.take 2)
  have v : am_sl h = (h.map am_sz).sum := rfl
  rw [v]
  omega
/-- the law's run, as the own machine has it -/
theorem w_all (L : Nat) (xs : Nat → Int32) (hL : L ≤ 3072) : ∃ h2 : List am_E, am_ev tbT (tb_ro L xs) 2048 84000 0 0 [(0, .ref 0)] [] [] (some (.int 1)) h2 ∧ h2.length ≤ 600000 ∧ am_sl h2 ≤ 7302250 := by
  have g0 : gz (wG0 L) ≤ 304000 := by
    have a := w0_gz
    have b : gz (wG0 L) = (L : Int) + 12 + gz ((wG0 0).drop 1) := rfl
    omega
  have key := sLaw_law_18 L xs (fun x _ G => x = 1 ∧ gz G ≤ gz (wG0 L) + 3522560) 513 0 (w0 xs) (wG0 L) (j_law (B := gz (wG0 L)) hL (fun _ G hz => ⟨rfl, hz⟩) 513 0 0 0 (w0 xs) (wG0 L) (by decide) (w0_J L xs) (w0_E1 xs) (w0_i32 xs) (by omega) (by omega) (by omega))
  have hl : e3_L [(2, 0), (2, 2), (2, 40), (0, 0)] [(3, .int 0), (2, .ref 40), (1, .ref 2), (0, .ref 0)] := fun i c x hi hc => by
    match i, hi with
    | 0, hi => cases hi; exact ⟨by show (-1 : Int) ≤ 0; decide, rfl⟩
    | 1, hi => cases hi; exact ⟨by show (-1 : Int) ≤ 2; decide, rfl⟩
    | 2, hi => cases hi; exact ⟨by show (-1 : Int) ≤ 40; decide, rfl⟩
    | 3, hi => cases hi; exact ⟨e3_z32, rfl⟩
    | i + 4, hi => cases hi
  obtain ⟨r, H2, G2, h2, a, b, c, d⟩ := key [(3, .int 0), (2, .ref 40), (1, .ref 2), (0, .ref 0)] rn_H hl (fun v hv => by cases hv) (w0_R L xs)
  obtain ⟨x, rfl, rfl, hz⟩ := d
  have a2 := am_ev_mono a (f2 := 2048) (w2 := 84000) (by decide) (by decide)
  obtain ⟨r2, h3, hev, hP⟩ := rn_begin L xs (fun r h => r = some (.int 1) ∧ h = h2) ⟨_, h2, a2, ⟨rfl, rfl⟩⟩
  obtain ⟨rfl, rfl⟩ := hP
  have s := e3_sz b
  exact ⟨h3, hev, by omega, by omega⟩
