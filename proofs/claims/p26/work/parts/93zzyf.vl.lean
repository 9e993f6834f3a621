theorem x_ushr {x : Int} (h : 0 ≤ x ∧ x < 2147483648) : e3_ushr x 1 = x / 2 ∧ e3_ushr x 2 = x / 4 ∧ e3_ushr x 4 = x / 16 ∧ e3_ushr x 8 = x / 256 ∧ e3_ushr x 16 = x / 65536 := by
  have key : ∀ (s : Int) (m : Nat), (∀ T : Int32, ((T.toUInt32 >>> ((Int32.ofInt s).toUInt32 &&& Int32.toUInt32 31)).toInt32).toBitVec = T.toBitVec >>> m) → e3_ushr x s = ((x.toNat / 2 ^ m : Nat) : Int) := by
    intro s m h2
    show (((Int32.ofInt x).toUInt32 >>> ((Int32.ofInt s).toUInt32 &&& Int32.toUInt32 31)).toInt32).toInt = _
    show (((Int32.ofInt x).toUInt32 >>> ((Int32.ofInt s).toUInt32 &&& Int32.toUInt32 31)).toInt32).toBitVec.toInt = _
    rw [h2]
    have e2 : (Int32.ofInt x).toBitVec = BitVec.ofInt 32 x := rfl
    have h1 : ((BitVec.ofInt 32 x) >>> m).toNat = x.toNat / 2 ^ m := by
      rw [BitVec.toNat_ushiftRight, BitVec.toNat_ofInt, Nat.shiftRight_eq_div_pow]
      congr 1
      omega
    have hlt : x.toNat / 2 ^ m ≤ x.toNat := Nat.div_le_self _ _
    rw [e2, BitVec.toInt_eq_toNat_of_lt (by rw [h1]; omega), h1]
  refine ⟨?_, ?_, ?_, ?_, ?_⟩
  · rw [key 1 1 (fun T => rfl)]; show ((x.toNat / 2 : Nat) : Int) = x / 2; omega
  · rw [key 2 2 (fun T => rfl)]; show ((x.toNat / 4 : Nat) : Int) = x / 4; omega
  · rw [key 4 4 (fun T => rfl)]; show ((x.toNat / 16 : Nat) : Int) = x / 16; omega
  · rw [key 8 8 (fun T => rfl)]; show ((x.toNat / 256 : Nat) : Int) = x / 256; omega
  · rw [key 16 16 (fun T => rfl)]; show ((x.toNat / 65536 : Nat) : Int) = x / 65536; omega
/-- a byte of a text -/
theorem tB_eq {x : Int} (hx : e3_i64 x) {i : Nat} (hi : i < 8) : tB x i = x % 18446744073709551616 / 256 ^ i % 256 := by
  have key : ∀ (s : Int) (m p : Nat), 2 ^ m = p → 2 ≤ p → (∀ T : Int64, ((T.toUInt64 >>> ((Int32.ofInt s).toInt64.toUInt64 &&& Int64.toUInt64 63)).toInt64).toBitVec = T.toBitVec >>> m) → e3_lushr x s = (((x % 18446744073709551616).toNat / p : Nat) : Int) := by
    intro s m p hp p2 h2
    show (((Int64.ofInt x).toUInt64 >>> ((Int32.ofInt s).toInt64.toUInt64 &&& Int64.toUInt64 63)).toInt64).toInt = _
    show (((Int64.ofInt x).toUInt64 >>> ((Int32.ofInt s).toInt64.toUInt64 &&& Int64.toUInt64 63)).toInt64).toBitVec.toInt = _
    rw [h2]
    have e2 : (Int64.ofInt x).toBitVec = BitVec.ofInt 64 x := rfl
    have h1 : ((BitVec.ofInt 64 x) >>> m).toNat = (x % 18446744073709551616).toNat / p := by
      rw [BitVec.toNat_ushiftRight, BitVec.toNat_ofInt, Nat.shiftRight_eq_div_pow, hp]
      congr 1
    have hlt : (x % 18446744073709551616).toNat / p ≤ (x % 18446744073709551616).toNat / 2 := Nat.div_le_div_left p2 (by decide)
    have hr : (x % 18446744073709551616).toNat < 18446744073709551616 := by omega
    rw [e2, BitVec.toInt_eq_toNat_of_lt (by rw [h1]; omega), h1]
  have e0 : e3_lushr x (8 * ((0 : Nat) : Int)) = x := by
    have h0 : ∀ T : Int64, ((T.toUInt64 >>> ((Int32.ofInt (8 * ((0 : Nat) : Int))).toInt64.toUInt64 &&& Int64.toUInt64 63)).toInt64).toBitVec = T.toBitVec >>> 0 := fun T => rfl
    show (((Int64.ofInt x).toUInt64 >>> ((Int32.ofInt (8 * ((0 : Nat) : Int))).toInt64.toUInt64 &&& Int64.toUInt64 63)).toInt64).toInt = _
    show (((Int64.ofInt x).toUInt64 >>> ((Int32.ofInt (8 * ((0 : Nat) : Int))).toInt64.toUInt64 &&& Int64.toUInt64 63)).toInt64).toBitVec.toInt = _
    rw [h0, BitVec.ushiftRight_zero]
    exact e3_of64 hx
  have hu : e3_i64 (e3_lushr x (8 * (i : Int))) := e3_rg64 _
  unfold tB
  rw [x_land255 hu, e3_w32_id (by omega) (by omega)]
  clear hu
  match i, hi with
  | 0, _ => rw [e0]; show x % 256 = x % 18446744073709551616 / 1 % 256; omega
  | 1, _ => rw [key _ 8 256 rfl (by decide) (fun T => rfl)]; show (((x % 18446744073709551616).toNat / 256 : Nat) : Int) % 256 = x % 18446744073709551616 / 256 % 256; omega
  | 2, _ => rw [key _ 16 65536 rfl (by decide) (fun T => rfl)]; show (((x % 18446744073709551616).toNat / 65536 : Nat) : Int) % 256 = x % 18446744073709551616 / 65536 % 256; omega
  | 3, _ => rw [key _ 24 16777216 rfl (by decide) (fun T => rfl)]; show (((x % 18446744073709551616).toNat / 16777216 : Nat) : Int) % 256 = x % 18446744073709551616 / 16777216 % 256; omega
  | 4, _ => rw [key _ 32 4294967296 rfl (by decide) (fun T => rfl)]; show (((x % 18446744073709551616).toNat / 4294967296 : Nat) : Int) % 256 = x % 18446744073709551616 / 4294967296 % 256; omega
  | 5, _ => rw [key _ 40 1099511627776 rfl (by decide) (fun T => rfl)]; show (((x % 18446744073709551616).toNat / 1099511627776 : Nat) : Int) % 256 = x % 18446744073709551616 / 1099511627776 % 256; omega
  | 6, _ => rw [key _ 48 281474976710656 rfl (by decide) (fun T => rfl)]; show (((x % 18446744073709551616).toNat / 281474976710656 : Nat) : Int) % 256 = x % 18446744073709551616 / 281474976710656 % 256; omega
  | 7, _ => rw [key _ 56 72057594037927936 rfl (by decide) (fun T => rfl)]; show (((x % 18446744073709551616).toNat / 72057594037927936 : Nat) : Int) % 256 = x % 18446744073709551616 / 72057594037927936 % 256; omega
/-- how large a text is, by its letters -/
theorem tS_val {b : Nat → Int} {u : Int} (hb : ∀ i : Nat, i < 8 → b i = u / 256 ^ i % 256) (hu : 0 ≤ u ∧ u < 18446744073709551616) : ∀ j : Nat, j ≤ 8 → (tS b j).1 = 1 → ((tS b j).2 = 0 → u / 256 ^ (8 - j) = 0) ∧ ∀ c : Nat, (tS b j).2 = (c : Int) + 1 → 97 * 256 ^ c ≤ u / 256 ^ (8 - j) ∧ u / 256 ^ (8 - j) < 123 * 256 ^ c := by
  have e1 : ∀ j : Nat, j < 8 → u / 256 ^ (8 - j) = u / 256 ^ (7 - j) / 256 := by
    intro j hj
    match j, hj with
    | 0, _ => show u / 18446744073709551616 = u / 72057594037927936 / 256; omega
    | 1, _ => show u / 72057594037927936 = u / 281474976710656 / 256; omega
    | 2, _ => show u / 281474976710656 = u / 1099511627776 / 256; omega
    | 3, _ => show u / 1099511627776 = u / 4294967296 / 256; omega
    | 4, _ => show u / 4294967296 = u / 16777216 / 256; omega
    | 5, _ => show u / 16777216 = u / 65536 / 256; omega
    | 6, _ => show u / 65536 = u / 256 / 256; omega
    | 7, _ => show u / 256 = u / 1 / 256; omega
  intro j
  induction j with
  | zero =>
    intro _ _
    refine ⟨fun _ => ?_, fun c z => ?_⟩
    · show u / 18446744073709551616 = 0
      omega
    · have z : (0 : Int) = (c : Int) + 1 := z
      omega
  | succ j ih =>
    intro hj h1
    rw [tS_s] at h1
    have hc : (tS b j).1 = 1 ∧ ((97 ≤ b (7 - j) ∧ b (7 - j) ≤ 122) ∨ (b (7 - j) = 0 ∧ (tS b j).2 = 0)) := by
      by_cases z : (tS b j).1 = 1 ∧ ((97 ≤ b (7 - j) ∧ b (7 - j) ≤ 122) ∨ (b (7 - j) = 0 ∧ (tS b j).2 = 0))
      · exact z
      · rw [if_neg z] at h1
        exact absurd h1 (by decide)
    obtain ⟨g1, g2⟩ := hc
    obtain ⟨i0, i1⟩ := ih (by omega) g1
    have eb := hb (7 - j) (by omega)
    have rg := tS_rg b j
    rw [e1 j (by omega)] at i0 i1
    rw [tS_n, show 8 - (j + 1) = 7 - j by omega]
    generalize u / 256 ^ (7 - j) = V at i0 i1 eb
    generalize b (7 - j) = B at eb g2
    generalize (tS b j).2 = C at i0 i1 rg g2
    clear h1 ih e1 hb g1
    rcases g2 with g2 | g2
    · rw [if_neg (by omega)]
      refine ⟨fun z => by omega, fun c z => ?_⟩
      match c, z with
      | 0, z =>
        have := i0 (by omega)
        show 97 * 1 ≤ V ∧ V < 123 * 1
        omega
      | d + 1, z =>
        have := i1 d (by omega)
        rw [Int.pow_succ]
        generalize (256 : Int) ^ d = P at this
        omega
    · rw [if_pos g2.1]
      have := i0 g2.2
      exact ⟨fun _ => by omega, fun c z => by omega⟩
theorem tx_rg {x : Int} (hx : e3_i64 x) (ht : (tS (tB x) 8).1 = 1) : ((tS (tB x) 8).2 = 0 → x = 0) ∧ ∀ c : Nat, (tS (tB x) 8).2 = (c : Int) + 1 → c < 8 ∧ 97 * 256 ^ c ≤ x ∧ x < 123 * 256 ^ c := by
  have h := tS_val (b := tB x) (u := x % 18446744073709551616) (fun i hi => tB_eq hx hi) (by omega) 8 (by omega) ht
  have rg := tS_rg (tB x) 8
  have e8 : x % 18446744073709551616 / 256 ^ (8 - 8) = x % 18446744073709551616 := by
    show x % 18446744073709551616 / 1 = _
    omega
  rw [e8] at h
  have hx1 := hx.1
  have hx2 := hx.2
  obtain ⟨h0, h1⟩ := h
  refine ⟨fun z => by have := h0 z; omega, fun c z => ?_⟩
  have c8 : c < 8 := by omega
  obtain ⟨a, b⟩ := h1 c z
  have top : ∀ c : Nat, c < 8 → (123 : Int) * 256 ^ c ≤ 8863084066665136128 := by
    intro c hc
    match c, hc with
    | 0, _ => show (123 : Int) * 1 ≤ _; omega
    | 1, _ => show (123 : Int) * 256 ≤ _; omega
    | 2, _ => show (123 : Int) * 65536 ≤ _; omega
    | 3, _ => show (123 : Int) * 16777216 ≤ _; omega
    | 4, _ => show (123 : Int) * 4294967296 ≤ _; omega
    | 5, _ => show (123 : Int) * 1099511627776 ≤ _; omega
    | 6, _ => show (123 : Int) * 281474976710656 ≤ _; omega
    | 7, _ => show (123 : Int) * 72057594037927936 ≤ _; omega
  have t := top c c8
  generalize (123 : Int) * 256 ^ c = A at b t ⊢
  generalize (97 : Int) * 256 ^ c = B at a ⊢
  have ex : x % 18446744073709551616 = x := by omega
  rw [ex] at a b
  exact ⟨c8, a, b⟩
section VWO
variable {Q : Int → e3_H → e3_G → Prop} {H : e3_H} {G : e3_G}
theorem vJ_48 {y l1 z : Int} (hy : 97 ≤ y ∧ y ≤ 122) (hl : 6 ≤ l1 ∧ l1 ≤ 31) (hz : l1 - 6 = z) (hQ : Q z H G) : wJ_numberOfLeadingZeros1_48 Q y l1 H G := by
  have a := (x_ushr (x := y) (by omega)).2.2.1
  have b := (x_ushr (x := y / 16) (by omega)).2.1
  have c := (x_ushr (x := 1) (by omega)).1
  refine brF (by omega) ?_
  rw [a, e3_w32_id (x := l1 + (-4)) (by omega) (by omega)]
  refine brF (by omega) ?_
  rw [b, e3_w32_id (x := l1 + (-4) + (-2)) (by omega) (by omega), show y / 16 / 4 = 1 by omega]
  show Q (e3_w32 (l1 + (-4) + (-2) - e3_ushr 1 1)) H G
  rw [c, e3_w32_id (by omega) (by omega), show l1 + (-4) + (-2) - 1 / 2 = z by omega]
  exact hQ
theorem vJ_nlz1 {y : Int} (d : Nat) (hd : d < 4) (hy : 97 * 256 ^ d ≤ y ∧ y < 123 * 256 ^ d) (hQ : Q (25 - 8 * (d : Int)) H G) : wJ_numberOfLeadingZeros1 Q y H G := by
  match d, hd, hy, hQ with
  | 0, _, hy, hQ =>
    have hy : (97 : Int) * 1 ≤ y ∧ y < 123 * 1 := hy
    exact brT (by omega) (brT (by omega) (brT (by omega) (vJ_48 (by omega) (by omega) (by omega) hQ)))
  | 1, _, hy, hQ =>
    have hy : (97 : Int) * 256 ≤ y ∧ y < 123 * 256 := hy
    refine brT (by omega) (brT (by omega) (brF (by omega) ?_))
    rw [(x_ushr (x := y) (by omega)).2.2.2.1, e3_w32_id (x := 31 + (-8)) (by omega) (by omega)]
    exact vJ_48 (by omega) (by omega) (by omega) hQ
  | 2, _, hy, hQ =>
    have hy : (97 : Int) * 65536 ≤ y ∧ y < 123 * 65536 := hy
    refine brT (by omega) (brF (by omega) ?_)
    rw [(x_ushr (x := y) (by omega)).2.2.2.2, e3_w32_id (x := 31 + (-16)) (by omega) (by omega)]
    exact brT (by omega) (vJ_48 (by omega) (by omega) (by omega) hQ)
  | 3, _, hy, hQ =>
    have hy : (97 : Int) * 16777216 ≤ y ∧ y < 123 * 16777216 := hy
    refine brT (by omega) (brF (by omega) ?_)
    rw [(x_ushr (x := y) (by omega)).2.2.2.2, e3_w32_id (x := 31 + (-16)) (by omega) (by omega)]
    refine brF (by omega) ?_
    rw [(x_ushr (x := y / 65536) (by omega)).2.2.2.1, e3_w32_id (x := 31 + (-16) + (-8)) (by omega) (by omega)]
    exact vJ_48 (by omega) (by omega) (by omega) hQ
theorem vJ_nlz {x : Int} (c : Nat) (hc : c < 8) (hx : 97 * 256 ^ c ≤ x ∧ x < 123 * 256 ^ c) (hQ : Q (57 - 8 * (c : Int)) H G) : wJ_numberOfLeadingZeros Q x H G := by
  have sh : 0 ≤ x ∧ x < 9223372036854775808 → e3_lushr x 32 = x / 4294967296 := fun h => by
    have := x_lushr h (i := 4) (by decide)
    rw [show e3_w32 (8 * ((4 : Nat) : Int)) = 32 by decide] at this
    exact this
  have lo : ∀ d : Nat, d < 4 → (97 * 256 ^ d ≤ x ∧ x < 123 * 256 ^ d) → x < 2147483648 → 0 ≤ x → d = c → wJ_numberOfLeadingZeros Q x H G := fun d hd hy hb h0 e => by
    subst e
    have s := sh (by omega)
    refine brT (by rw [s]; rw [e3_w32_id (by omega) (by omega)]; omega) ?_
    rw [e3_w32_id (x := x) (by omega) (by omega)]
    refine vJ_nlz1 d hd hy ?_
    show Q (e3_w32 (32 + (25 - 8 * (d : Int)))) H G
    rw [e3_w32_id (by omega) (by omega), show 32 + (25 - 8 * (d : Int)) = 57 - 8 * (d : Int) by omega]
    exact hQ
  have up : ∀ d : Nat, d < 4 → (97 * 256 ^ d ≤ x / 4294967296 ∧ x / 4294967296 < 123 * 256 ^ d) → 97 ≤ x / 4294967296 → x < 9223372036854775808 → d + 4 = c → wJ_numberOfLeadingZeros Q x H G := fun d hd hy hb h0 e => by
    subst e
    have s := sh (by omega)
    refine brF (by rw [s]; rw [e3_w32_id (by omega) (by omega)]; omega) ?_
    rw [s, e3_w32_id (x := x / 4294967296) (by omega) (by omega)]
    refine vJ_nlz1 d hd hy ?_
    show Q (25 - 8 * (d : Int)) H G
    rw [show 25 - 8 * (d : Int) = 57 - 8 * ((d + 4 : Nat) : Int) by omega]
    exact hQ
  clear sh
  match c, hc, hx, lo, up with
  | 0, _, hx, lo, _ =>
    have hy : (97 : Int) * 1 ≤ x ∧ x < 123 * 1 := hx
    exact lo 0 (by decide) hx (by omega) (by omega) rfl
  | 1, _, hx, lo, _ =>
    have hy : (97 : Int) * 256 ≤ x ∧ x < 123 * 256 := hx
    exact lo 1 (by decide) hx (by omega) (by omega) rfl
  | 2, _, hx, lo, _ =>
    have hy : (97 : Int) * 65536 ≤ x ∧ x < 123 * 65536 := hx
    exact lo 2 (by decide) hx (by omega) (by omega) rfl
  | 3, _, hx, lo, _ =>
    have hy : (97 : Int) * 16777216 ≤ x ∧ x < 123 * 16777216 := hx
    exact lo 3 (by decide) hx (by omega) (by omega) rfl
  | 4, _, hx, _, up =>
    have hy : (97 : Int) * 4294967296 ≤ x ∧ x < 123 * 4294967296 := hx
    exact up 0 (by decide) (show (97 : Int) * 1 ≤ x / 4294967296 ∧ x / 4294967296 < 123 * 1 by omega) (by omega) (by omega) rfl
  | 5, _, hx, _, up =>
    have hy : (97 : Int) * 1099511627776 ≤ x ∧ x < 123 * 1099511627776 := hx
    exact up 1 (by decide) (show (97 : Int) * 256 ≤ x / 4294967296 ∧ x / 4294967296 < 123 * 256 by omega) (by omega) (by omega) rfl
  | 6, _, hx, _, up =>
    have hy : (97 : Int) * 281474976710656 ≤ x ∧ x < 123 * 281474976710656 := hx
    exact up 2 (by decide) (show (97 : Int) * 65536 ≤ x / 4294967296 ∧ x / 4294967296 < 123 * 65536 by omega) (by omega) (by omega) rfl
  | 7, _, hx, _, up =>
    have hy : (97 : Int) * 72057594037927936 ≤ x ∧ x < 123 * 72057594037927936 := hx
    exact up 3 (by decide) (show (97 : Int) * 16777216 ≤ x / 4294967296 ∧ x / 4294967296 < 123 * 16777216 by omega) (by omega) (by omega) rfl
theorem vJ_n0 (hQ : Q 64 H G) : wJ_numberOfLeadingZeros Q 0 H G := by
  have s : e3_lushr 0 32 = 0 := by decide +kernel
  refine brT (by rw [s]; decide) (brF (by decide) (brT (by decide) ?_))
  exact hQ
/-- the worth of a VALUE, in the class, is what the reference keeps -/
theorem vL_worth {v : Int} (h : 0 ≤ v ∧ v < 160) (h8 : H 8 0 ≤ 24) (hv : VR1 H v) (hQ : Q (H 129 v) H G) : wL_worth Q v H G := by
  obtain ⟨a1, a2, a3, a4, a5, a6, a7⟩ := hv
  refine ⟨h, fun z => ⟨h, ?_⟩, fun z => ?_, fun z => ⟨h, ?_⟩⟩
  · obtain ⟨b1, b2, b3, b4⟩ := a3 z
    obtain ⟨t0, t1⟩ := tx_rg b4 b2
    have rg := tS_rg (tB (H 28 v)) 8
    rw [b3] at hQ
    by_cases k0 : (tS (tB (H 28 v)) 8).2 = 0
    · rw [k0] at hQ
      rw [t0 k0]
      refine vJ_n0 ⟨by decide, ?_⟩
      rw [show e3_div (e3_w32 (71 - 64)) 8 = 0 by decide +kernel]
      exact hQ
    · obtain ⟨c, hc⟩ : ∃ c : Nat, (tS (tB (H 28 v)) 8).2 = (c : Int) + 1 := ⟨((tS (tB (H 28 v)) 8).2 - 1).toNat, by omega⟩
      obtain ⟨c8, r1, r2⟩ := t1 c hc
      have dv : ∀ c : Nat, c < 8 → e3_div (e3_w32 (71 - (57 - 8 * (c : Int)))) 8 = (c : Int) + 1 := by decide +kernel
      refine vJ_nlz c c8 ⟨r1, r2⟩ ⟨by decide, ?_⟩
      rw [dv c c8, ← hc]
      exact hQ
  · rw [(a4 z).2.1] at hQ
    exact hQ
  · by_cases y : H 27 v = 4
    · obtain ⟨b1, b2, _⟩ := a5 y
      rw [e3_w32_id (by omega) (by omega), b2]
      exact hQ
    · obtain ⟨b1, b2, b3⟩ := a2 (by omega)
      rw [e3_w32_id b3.1 b3.2, b1]
      exact hQ
/-- what value answers -/
def rvl (H : e3_H) (l1 l2 : Int) : Int := if l2 = 0 then H 128 l1 else if l2 = 1 then H 129 l1 else if l2 = 2 then H 131 l1 else if (3 ≤ l2 ∧ l2 ≤ 6) ∧ H 128 l1 = 4 ∧ l2 - 3 < H 44 (H 129 l1) then H 132 (4 * l1 + (l2 - 3)) else -4
theorem vP_value {l1 l2 : Int} (hi : e3_i32 l2) (hv : 0 ≤ l1 ∧ l1 < H 26 1) (h26 : H 26 1 ≤ 160) (h8 : H 8 0 ≤ 24) (hV : VR1 H l1) (hk : H 27 l1 = 4 → H 12 (H 28 l1) = H 44 (H 129 l1) ∧ H 44 (H 129 l1) ≤ 4) (hQ : Q (rvl H l1 l2) H G) : wP_value Q l1 l2 H G := by
  have q : ∀ x, rvl H l1 l2 = x → Q x H G := fun x e => e ▸ hQ
  have hi1 := hi.1
  have hi2 := hi.2
  have a1 := hV.1
  refine brF (by omega) (brT hv.2 ⟨Or.inr rfl, brF (by decide) ?_⟩)
  refine ⟨fun z => ⟨by omega, q _ ?_⟩, fun z => vL_worth (by omega) h8 hV (q _ ?_), fun z => ⟨by omega, q _ ?_⟩, fun z => ⟨fun y => q _ ?_, fun y => ?_⟩⟩
  · unfold rvl; rw [if_pos z, a1.1]
  · unfold rvl; rw [if_neg (by omega), if_pos z]
  · unfold rvl; rw [if_neg (by omega), if_neg (by omega), if_pos z, a1.2.1]
  · unfold rvl; rw [if_neg (by omega), if_neg (by omega), if_neg (by omega), if_neg (fun w => by omega)]
  · rw [e3_w32_id (x := l2 - 3) (by omega) (by omega)]
    refine brF (by omega) (brT hv.2 (brF (by omega) ⟨by omega, fun lt => brF (by decide) ?_, fun ge => brT rfl (q _ ?_)⟩))
    · have h4 : H 27 l1 = 4 := by
        by_cases w : H 27 l1 = 4
        · exact w
        · have := (hV.2.2.2.2.2.1 w).1
          omega
      obtain ⟨b1, b2, b3, b4, b5⟩ := hV.2.2.2.2.1 h4
      obtain ⟨k1, k2⟩ := hk h4
      have ei : e3_w32 (e3_w32 (l1 * 4) + (l2 - 3)) = 4 * l1 + (l2 - 3) := by rw [e3_w32_id (x := l1 * 4) (by omega) (by omega), e3_w32_id (by omega) (by omega)]; omega
      rw [ei]
      refine ⟨by omega, q _ ?_⟩
      unfold rvl
      rw [if_neg (by omega), if_neg (by omega), if_neg (by omega), if_pos ⟨by omega, by omega, by omega⟩]
      exact (b5 (l2 - 3) (by omega) lt).1.1.symm
    · unfold rvl
      rw [if_neg (by omega), if_neg (by omega), if_neg (by omega), if_neg (fun w => ?_)]
      have h4 : H 27 l1 = 4 := by omega
      obtain ⟨b1, b2, b3, b4, b5⟩ := hV.2.2.2.2.1 h4
      have := hk h4
      omega
theorem nM_value {l1 l2 : Int} (hv : 0 ≤ l1 ∧ l1 < H 40 109) (h9 : H 40 109 ≤ 160) (hk : H 128 l1 = 4 → (0 ≤ H 129 l1 ∧ H 129 l1 < 24) ∧ H 44 (H 129 l1) ≤ 4) (hQ : Q (rvl H l1 l2) H G) : wM_value Q l1 l2 H G := by
  have q : ∀ x, rvl H l1 l2 = x → Q x H G := fun x e => e ▸ hQ
  refine cM_in (fun _ _ => ⟨Or.inr rfl, brF (by decide) ?_⟩) (fun w => absurd ⟨hv.1, by rw [e3_w32_id (by omega) (by omega)]; omega⟩ w)
  refine cM_in (fun a b => brF (by decide) ?_) (fun w => brT rfl (q _ ?_))
  · refine ⟨fun z => ⟨by omega, q _ ?_⟩, fun z => ⟨by omega, q _ ?_⟩, fun z => ⟨by omega, q _ ?_⟩, fun z => ⟨by omega, fun h4 => ⟨by omega, (hk h4).1, ?_⟩, fun h4 => q _ ?_⟩⟩
    · unfold rvl; rw [if_pos z]
    · unfold rvl; rw [if_neg (by omega), if_pos z]
    · unfold rvl; rw [if_neg (by omega), if_neg (by omega), if_pos z]
    · have k2 := (hk h4).2
      rw [e3_w32_id (x := l2 - 3) (by omega) (by omega), e3_w32_id (x := 4 * l1) (by omega) (by omega), e3_w32_id (x := 4 * l1 + l2) (by omega) (by omega), e3_w32_id (x := 4 * l1 + l2 - 3) (by omega) (by omega)]
      refine ⟨fun lt => ⟨by omega, q _ ?_⟩, fun ge => q _ ?_⟩
      · unfold rvl
        rw [if_neg (by omega), if_neg (by omega), if_neg (by omega), if_pos ⟨by omega, h4, lt⟩, show 4 * l1 + (l2 - 3) = 4 * l1 + l2 - 3 by omega]
      · unfold rvl
        rw [if_neg (by omega), if_neg (by omega), if_neg (by omega), if_neg (fun w => ge w.2.2)]
    · unfold rvl
      rw [if_neg (by omega), if_neg (by omega), if_neg (by omega), if_neg (fun w => h4 w.2.1)]
  · unfold rvl
    rw [if_neg (by omega), if_neg (by omega), if_neg (by omega), if_neg (fun y => by omega)]
end VWO
/-- value, in both -/
theorem e1_value_e {n : Nat} {H : e3_H} {G : e3_G} {R : Int → Int → e3_H → e3_G → Prop} {W : Int → e3_H → e3_G → Prop} {l1 l2 : Int} (h : JI n H G) (hE : E1 H) (hi : e3_i32 l2) (hR : JFe n H G E1 R) (hW : JW H R (fun Q H G => wM_value Q l1 l2 H G) W) : wP_value W l1 l2 H G := by
  have go : ∀ x : Int, R x x H G := fun x => hR x n H G h hE (by omega) (fun _ => rfl)
  obtain ⟨σ, m, hd, hk, ht, h10⟩ := JI_kd h
  have h26 := h.2.2.1.1.1
  have hc := hE.1.1
  have hm := hk.2.1
  have h8 := hd.1
  by_cases hv : 0 ≤ l1 ∧ l1 < H 26 1
  case neg => exact zL_has l1 (fun z => absurd z hv) (brT rfl (hW (-4) H G (fun _ => rfl) (zM_isValue h.2.2.2.1.1 l1 (fun z => absurd (by rw [hc]; exact z) hv) (brT rfl (go _)))))
  have hV := hE.1.2 l1 hv.1 hv.2
  have kk : H 27 l1 = 4 → (0 ≤ H 28 l1 ∧ H 28 l1 < 24) ∧ H 28 l1 = H 129 l1 ∧ H 12 (H 28 l1) = H 44 (H 28 l1) ∧ H 44 (H 28 l1) ≤ 4 := fun h4 => by
    obtain ⟨b1, b2, b3, b4, b5⟩ := hV.2.2.2.2.1 h4
    have c := (hd.2 (H 28 l1).toNat (by omega)).2.2.1
    have d := (hk.2.2.2.2 (H 28 l1).toNat (by omega)).2.1
    rw [show (((H 28 l1).toNat : Nat) : Int) = H 28 l1 by omega] at c d
    rw [c, ht 44 _ (by decide) (by decide)]
    exact ⟨by omega, b2, rfl, d⟩
  refine vP_value hi hv (by omega) (by omega) hV (fun h4 => ?_) (hW _ H G (fun _ => rfl) (nM_value (by omega) (by omega) (fun h4 => ?_) (go _)))
  · obtain ⟨b1, b2, b3, b4⟩ := kk h4
    rw [← b2]
    exact ⟨b3, b4⟩
  · obtain ⟨b1, b2, b3, b4⟩ := kk (by rw [hV.1.1]; exact h4)
    rw [← b2]
    exact ⟨b1, b4⟩
