/-- eight bytes as one long -/
def lb (B : Nat → Int) : Nat → Int
  | 0 => 0
  | k + 1 => lb B k + B k * 256 ^ k
def lb_ok (B : Nat → Int) : Prop := ∀ k : Nat, k < 8 → 0 ≤ B k ∧ B k ≤ 28
theorem lb8 (B : Nat → Int) : lb B 8 = B 0 + B 1 * 256 + B 2 * 65536 + B 3 * 16777216 + B 4 * 4294967296 + B 5 * 1099511627776 + B 6 * 281474976710656 + B 7 * 72057594037927936 := by
  show 0 + B 0 * 256 ^ 0 + B 1 * 256 ^ 1 + B 2 * 256 ^ 2 + B 3 * 256 ^ 3 + B 4 * 256 ^ 4 + B 5 * 256 ^ 5 + B 6 * 256 ^ 6 + B 7 * 256 ^ 7 = _
  omega
theorem lb_rg {B : Nat → Int} (h : lb_ok B) : 0 ≤ lb B 8 ∧ lb B 8 < 2305843009213693952 := by
  rw [lb8]
  have := h 0 (by omega); have := h 1 (by omega); have := h 2 (by omega); have := h 3 (by omega); have := h 4 (by omega); have := h 5 (by omega); have := h 6 (by omega); have := h 7 (by omega)
  omega
theorem lb_at {B : Nat → Int} (h : lb_ok B) {i : Nat} (hi : i < 8) : lb B 8 / 256 ^ i % 256 = B i := by
  have q0 := h 0 (by omega); have q1 := h 1 (by omega); have q2 := h 2 (by omega); have q3 := h 3 (by omega); have q4 := h 4 (by omega); have q5 := h 5 (by omega); have q6 := h 6 (by omega); have q7 := h 7 (by omega)
  rw [lb8]
  match i, hi with
  | 0, _ => show _ / (1 : Int) % 256 = _; omega
  | 1, _ => show _ / (256 : Int) % 256 = _; omega
  | 2, _ => show _ / (65536 : Int) % 256 = _; omega
  | 3, _ => show _ / (16777216 : Int) % 256 = _; omega
  | 4, _ => show _ / (4294967296 : Int) % 256 = _; omega
  | 5, _ => show _ / (1099511627776 : Int) % 256 = _; omega
  | 6, _ => show _ / (281474976710656 : Int) % 256 = _; omega
  | 7, _ => show _ / (72057594037927936 : Int) % 256 = _; omega
theorem lb_inj {B C : Nat → Int} (h : lb_ok B) (h2 : lb_ok C) : lb B 8 = lb C 8 ↔ ∀ k : Nat, k < 8 → B k = C k := by
  refine ⟨fun he k hk => ?_, fun he => ?_⟩
  · rw [← lb_at h hk, ← lb_at h2 hk, he]
  · rw [lb8, lb8, he 0 (by omega), he 1 (by omega), he 2 (by omega), he 3 (by omega), he 4 (by omega), he 5 (by omega), he 6 (by omega), he 7 (by omega)]
theorem x_lushr {x : Int} (h : 0 ≤ x ∧ x < 9223372036854775808) {i : Nat} (hi : i < 8) : e3_lushr x (e3_w32 (8 * (i : Int))) = x / 256 ^ i := by
  have key : ∀ (s : Int) (m : Nat), m ≤ 56 → (∀ T : Int64, ((T.toUInt64 >>> ((Int32.ofInt s).toInt64.toUInt64 &&& Int64.toUInt64 63)).toInt64).toBitVec = T.toBitVec >>> m) → e3_lushr x s = ((x.toNat / 2 ^ m : Nat) : Int) := by
    intro s m hm h2
    show (((Int64.ofInt x).toUInt64 >>> ((Int32.ofInt s).toInt64.toUInt64 &&& Int64.toUInt64 63)).toInt64).toInt = _
    show (((Int64.ofInt x).toUInt64 >>> ((Int32.ofInt s).toInt64.toUInt64 &&& Int64.toUInt64 63)).toInt64).toBitVec.toInt = _
    rw [h2]
    have e2 : (Int64.ofInt x).toBitVec = BitVec.ofInt 64 x := rfl
    have h1 : ((BitVec.ofInt 64 x) >>> m).toNat = x.toNat / 2 ^ m := by
      rw [BitVec.toNat_ushiftRight, BitVec.toNat_ofInt, Nat.shiftRight_eq_div_pow]
      congr 1
      omega
    have hlt : x.toNat / 2 ^ m ≤ x.toNat := Nat.div_le_self _ _
    rw [e2, BitVec.toInt_eq_toNat_of_lt (by rw [h1]; omega), h1]
  have e : ((x.toNat : Nat) : Int) = x := Int.toNat_of_nonneg h.1
  match i, hi with
  | 0, _ => rw [key _ 0 (by omega) (fun T => rfl)]; show ((x.toNat / 1 : Nat) : Int) = x / 1; omega
  | 1, _ => rw [key _ 8 (by omega) (fun T => rfl)]; show ((x.toNat / 256 : Nat) : Int) = x / 256; omega
  | 2, _ => rw [key _ 16 (by omega) (fun T => rfl)]; show ((x.toNat / 65536 : Nat) : Int) = x / 65536; omega
  | 3, _ => rw [key _ 24 (by omega) (fun T => rfl)]; show ((x.toNat / 16777216 : Nat) : Int) = x / 16777216; omega
  | 4, _ => rw [key _ 32 (by omega) (fun T => rfl)]; show ((x.toNat / 4294967296 : Nat) : Int) = x / 4294967296; omega
  | 5, _ => rw [key _ 40 (by omega) (fun T => rfl)]; show ((x.toNat / 1099511627776 : Nat) : Int) = x / 1099511627776; omega
  | 6, _ => rw [key _ 48 (by omega) (fun T => rfl)]; show ((x.toNat / 281474976710656 : Nat) : Int) = x / 281474976710656; omega
  | 7, _ => rw [key _ 56 (by omega) (fun T => rfl)]; show ((x.toNat / 72057594037927936 : Nat) : Int) = x / 72057594037927936; omega
/-- a byte is read -/
theorem lb_get {B : Nat → Int} (h : lb_ok B) {i : Nat} (hi : i < 8) : e3_land (e3_lushr (lb B 8) (e3_w32 (8 * (i : Int)))) 255 = B i := by
  have hr := lb_rg h
  have hu : e3_i64 (e3_lushr (lb B 8) (e3_w32 (8 * (i : Int)))) := e3_rg64 _
  rw [x_land255 hu, x_lushr (by omega) hi, lb_at h hi]
theorem x_lshl {v : Int} (hv : 0 ≤ v ∧ v ≤ 28) {i : Nat} (hi : i < 8) : e3_lshl v (e3_w32 (8 * (i : Int))) = v * 256 ^ i := by
  have key : ∀ (s : Int) (m : Nat), m ≤ 56 → (((Int32.ofInt s).toInt64 &&& 63).toBitVec.smod 64).toNat = m → e3_lshl v s = ((v.toNat * 2 ^ m : Nat) : Int) := by
    intro s m hm h2
    show (Int64.ofInt v <<< ((Int32.ofInt s).toInt64 &&& 63)).toInt = _
    show (Int64.ofInt v <<< ((Int32.ofInt s).toInt64 &&& 63)).toBitVec.toInt = _
    rw [Int64.toBitVec_shiftLeft, BitVec.shiftLeft_eq', h2]
    have e2 : (Int64.ofInt v).toBitVec = BitVec.ofInt 64 v := rfl
    have hp : 2 ^ m ≤ 72057594037927936 := by
      have := Nat.pow_le_pow_right (show 0 < 2 by omega) hm
      exact this
    have hb : v.toNat * 2 ^ m ≤ 28 * 72057594037927936 := Nat.mul_le_mul (by omega) hp
    have h1 : ((BitVec.ofInt 64 v) <<< m).toNat = v.toNat * 2 ^ m := by
      rw [BitVec.toNat_shiftLeft, BitVec.toNat_ofInt, Nat.shiftLeft_eq]
      have : (v % ((2 ^ 64 : Nat) : Int)).toNat = v.toNat := by omega
      rw [this]
      exact Nat.mod_eq_of_lt (by omega)
    rw [e2, BitVec.toInt_eq_toNat_of_lt (by rw [h1]; omega), h1]
  have e : ((v.toNat : Nat) : Int) = v := Int.toNat_of_nonneg hv.1
  match i, hi with
  | 0, _ => rw [key _ 0 (by omega) (by decide +kernel), show (2 : Nat) ^ 0 = 1 from rfl, show (256 : Int) ^ 0 = 1 from rfl]; omega
  | 1, _ => rw [key _ 8 (by omega) (by decide +kernel), show (2 : Nat) ^ 8 = 256 from rfl, show (256 : Int) ^ 1 = 256 from rfl]; omega
  | 2, _ => rw [key _ 16 (by omega) (by decide +kernel), show (2 : Nat) ^ 16 = 65536 from rfl, show (256 : Int) ^ 2 = 65536 from rfl]; omega
  | 3, _ => rw [key _ 24 (by omega) (by decide +kernel), show (2 : Nat) ^ 24 = 16777216 from rfl, show (256 : Int) ^ 3 = 16777216 from rfl]; omega
  | 4, _ => rw [key _ 32 (by omega) (by decide +kernel), show (2 : Nat) ^ 32 = 4294967296 from rfl, show (256 : Int) ^ 4 = 4294967296 from rfl]; omega
  | 5, _ => rw [key _ 40 (by omega) (by decide +kernel), show (2 : Nat) ^ 40 = 1099511627776 from rfl, show (256 : Int) ^ 5 = 1099511627776 from rfl]; omega
  | 6, _ => rw [key _ 48 (by omega) (by decide +kernel), show (2 : Nat) ^ 48 = 281474976710656 from rfl, show (256 : Int) ^ 6 = 281474976710656 from rfl]; omega
  | 7, _ => rw [key _ 56 (by omega) (by decide +kernel), show (2 : Nat) ^ 56 = 72057594037927936 from rfl, show (256 : Int) ^ 7 = 72057594037927936 from rfl]; omega
theorem n_or {m hi lo v : Nat} (hlo : lo < 2 ^ m) (hv : v < 256) : (2 ^ (m + 8) * hi + lo) ||| (v * 2 ^ m) = 2 ^ (m + 8) * hi + lo + v * 2 ^ m := by
  have h1 : lo < 2 ^ (m + 8) := by rw [Nat.pow_add]; omega
  have h2 : 2 ^ m * v + lo < 2 ^ (m + 8) := by
    rw [Nat.pow_add]
    have : 2 ^ m * v + 2 ^ m ≤ 2 ^ m * 256 := by rw [← Nat.mul_succ]; exact Nat.mul_le_mul_left _ (by omega)
    omega
  have a1 : 2 ^ (m + 8) * hi + lo = 2 ^ (m + 8) * hi ||| lo := Nat.two_pow_add_eq_or_of_lt h1 hi
  have a2 : 2 ^ m * v + lo = 2 ^ m * v ||| lo := Nat.two_pow_add_eq_or_of_lt hlo v
  have a3 : 2 ^ (m + 8) * hi + (2 ^ m * v + lo) = 2 ^ (m + 8) * hi ||| (2 ^ m * v + lo) := Nat.two_pow_add_eq_or_of_lt h2 hi
  have a4 : (2 ^ (m + 8) * hi + lo) ||| (v * 2 ^ m) = 2 ^ (m + 8) * hi + (2 ^ m * v + lo) := by
    rw [a1, a3, a2, Nat.mul_comm v, Nat.or_assoc, Nat.or_comm lo]
  rw [a4, Nat.mul_comm v]
  omega
theorem x_lor {x y : Int} (hx : 0 ≤ x ∧ x < 2305843009213693952) (hy : 0 ≤ y ∧ y < 4611686018427387904) : e3_lor x y = ((x.toNat ||| y.toNat : Nat) : Int) := by
  show ((Int64.ofInt x) ||| (Int64.ofInt y)).toInt = _
  show ((Int64.ofInt x).toBitVec ||| (Int64.ofInt y).toBitVec).toInt = _
  have e1 : (Int64.ofInt x).toBitVec = BitVec.ofInt 64 x := rfl
  have e2 : (Int64.ofInt y).toBitVec = BitVec.ofInt 64 y := rfl
  have h1 : ((BitVec.ofInt 64 x) ||| (BitVec.ofInt 64 y)).toNat = (x.toNat ||| y.toNat) := by
    rw [BitVec.toNat_or, BitVec.toNat_ofInt, BitVec.toNat_ofInt]
    have g1 : (x % ((2 ^ 64 : Nat) : Int)).toNat = x.toNat := by omega
    have g2 : (y % ((2 ^ 64 : Nat) : Int)).toNat = y.toNat := by omega
    rw [g1, g2]
  have hlt : (x.toNat ||| y.toNat) < 2 ^ 62 := Nat.or_lt_two_pow (by omega) (by omega)
  rw [e1, e2, BitVec.toInt_eq_toNat_of_lt (by rw [h1]; omega), h1]
theorem lb_or {x v : Int} (hx : 0 ≤ x ∧ x < 2305843009213693952) (hv : 0 ≤ v ∧ v ≤ 28) {i : Nat} (hi : i < 8) (h0 : x / 256 ^ i % 256 = 0) : e3_lor x (e3_lshl v (e3_w32 (8 * (i : Int)))) = x + v * 256 ^ i := by
  rw [x_lshl hv hi]
  have key : ∀ (m : Nat) (c : Int), ((2 ^ m : Nat) : Int) = c → 1 ≤ c → c ≤ 72057594037927936 → x / c % 256 = 0 → e3_lor x (v * c) = x + v * c := by
    intro m c hc h1 h2 h3
    have hvc : v * c ≤ 28 * 72057594037927936 := Int.mul_le_mul hv.2 h2 (by omega) (by omega)
    have hvc0 : 0 ≤ v * c := Int.mul_nonneg hv.1 (by omega)
    rw [x_lor hx ⟨hvc0, by omega⟩]
    have ey : (v * c).toNat = v.toNat * 2 ^ m := by
      have : ((v.toNat * 2 ^ m : Nat) : Int) = v * c := by
        rw [Int.natCast_mul, hc, Int.toNat_of_nonneg hv.1]
      omega
    have ex : x.toNat = 2 ^ (m + 8) * (x.toNat / 2 ^ (m + 8)) + x.toNat % 2 ^ m := by
      have e1 : x.toNat / 2 ^ m % 256 = 0 := by
        have : ((x.toNat / 2 ^ m % 256 : Nat) : Int) = x / c % 256 := by
          rw [Int.natCast_emod, Int.natCast_ediv, hc, Int.toNat_of_nonneg hx.1]
          rfl
        omega
      have e2 : x.toNat / 2 ^ (m + 8) = x.toNat / 2 ^ m / 256 := by rw [Nat.pow_add, Nat.div_div_eq_div_mul]
      have e3 : x.toNat / 2 ^ m = 256 * (x.toNat / 2 ^ m / 256) := by omega
      have e4 := Nat.div_add_mod x.toNat (2 ^ m)
      rw [e2, Nat.pow_add, Nat.mul_assoc, show (2 : Nat) ^ 8 = 256 from rfl, ← e3]
      exact e4.symm
    have hlo : x.toNat % 2 ^ m < 2 ^ m := Nat.mod_lt _ (Nat.pow_pos (by omega))
    rw [ey]
    have hn := n_or (m := m) (hi := x.toNat / 2 ^ (m + 8)) (lo := x.toNat % 2 ^ m) (v := v.toNat) hlo (by omega)
    rw [← ex] at hn
    rw [hn, Int.natCast_add, Int.toNat_of_nonneg hx.1, Int.natCast_mul, hc, Int.toNat_of_nonneg hv.1]
  match i, hi, h0 with
  | 0, _, h0 => exact key 0 1 rfl (by omega) (by omega) h0
  | 1, _, h0 => exact key 8 256 rfl (by omega) (by omega) h0
  | 2, _, h0 => exact key 16 65536 rfl (by omega) (by omega) h0
  | 3, _, h0 => exact key 24 16777216 rfl (by omega) (by omega) h0
  | 4, _, h0 => exact key 32 4294967296 rfl (by omega) (by omega) h0
  | 5, _, h0 => exact key 40 1099511627776 rfl (by omega) (by omega) h0
  | 6, _, h0 => exact key 48 281474976710656 rfl (by omega) (by omega) h0
  | 7, _, h0 => exact key 56 72057594037927936 rfl (by omega) (by omega) h0
/-- a byte that is 0 is set -/
theorem lb_set {B : Nat → Int} (h : lb_ok B) {i : Nat} (hi : i < 8) {v : Int} (hv : 0 ≤ v ∧ v ≤ 28) (h0 : B i = 0) : e3_lor (lb B 8) (e3_lshl v (e3_w32 (8 * (i : Int)))) = lb (fun k => if k = i then v else B k) 8 := by
  have hr := lb_rg h
  rw [lb_or hr hv hi (by rw [lb_at h hi]; exact h0), lb8, lb8]
  match i, hi, h0 with
  | 0, _, h0 => show _ + v * (1 : Int) = v + B 1 * 256 + B 2 * 65536 + B 3 * 16777216 + B 4 * 4294967296 + B 5 * 1099511627776 + B 6 * 281474976710656 + B 7 * 72057594037927936; omega
  | 1, _, h0 => show _ + v * (256 : Int) = B 0 + v * 256 + B 2 * 65536 + B 3 * 16777216 + B 4 * 4294967296 + B 5 * 1099511627776 + B 6 * 281474976710656 + B 7 * 72057594037927936; omega
  | 2, _, h0 => show _ + v * (65536 : Int) = B 0 + B 1 * 256 + v * 65536 + B 3 * 16777216 + B 4 * 4294967296 + B 5 * 1099511627776 + B 6 * 281474976710656 + B 7 * 72057594037927936; omega
  | 3, _, h0 => show _ + v * (16777216 : Int) = B 0 + B 1 * 256 + B 2 * 65536 + v * 16777216 + B 4 * 4294967296 + B 5 * 1099511627776 + B 6 * 281474976710656 + B 7 * 72057594037927936; omega
  | 4, _, h0 => show _ + v * (4294967296 : Int) = B 0 + B 1 * 256 + B 2 * 65536 + B 3 * 16777216 + v * 4294967296 + B 5 * 1099511627776 + B 6 * 281474976710656 + B 7 * 72057594037927936; omega
  | 5, _, h0 => show _ + v * (1099511627776 : Int) = B 0 + B 1 * 256 + B 2 * 65536 + B 3 * 16777216 + B 4 * 4294967296 + v * 1099511627776 + B 6 * 281474976710656 + B 7 * 72057594037927936; omega
  | 6, _, h0 => show _ + v * (281474976710656 : Int) = B 0 + B 1 * 256 + B 2 * 65536 + B 3 * 16777216 + B 4 * 4294967296 + B 5 * 1099511627776 + v * 281474976710656 + B 7 * 72057594037927936; omega
  | 7, _, h0 => show _ + v * (72057594037927936 : Int) = B 0 + B 1 * 256 + B 2 * 65536 + B 3 * 16777216 + B 4 * 4294967296 + B 5 * 1099511627776 + B 6 * 281474976710656 + v * 72057594037927936; omega
