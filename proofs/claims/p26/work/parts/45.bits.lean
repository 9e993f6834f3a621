theorem x_b_eq {x : Int} (hx : e3_i32 x) : e3_b x = (x + 128) % 256 - 128 := by
  show ((Int32.ofInt x).toInt8.toInt32).toInt = _
  rw [Int8.toInt_toInt32, Int32.toInt_toInt8, e3_of32 hx]
  unfold Int.bmod
  simp only
  split <;> omega
theorem x_land255 {u : Int} (hu : e3_i64 u) : e3_land u 255 = u % 256 := by
  show ((Int64.ofInt u) &&& (Int64.ofInt 255)).toInt = _
  show ((Int64.ofInt u).toBitVec &&& (Int64.ofInt 255).toBitVec).toInt = _
  have e1 : (Int64.ofInt 255).toBitVec = BitVec.ofNat 64 (2 ^ 8 - 1) := rfl
  have e2 : (Int64.ofInt u).toBitVec = BitVec.ofInt 64 u := rfl
  have h1 : ((BitVec.ofInt 64 u) &&& BitVec.ofNat 64 (2 ^ 8 - 1)).toNat = (u % 18446744073709551616).toNat % 256 := by
    rw [BitVec.toNat_and, BitVec.toNat_ofInt, BitVec.toNat_ofNat]
    have : (2 ^ 8 - 1) % 2 ^ 64 = 2 ^ 8 - 1 := by decide
    rw [this, Nat.and_two_pow_sub_one_eq_mod]
    rfl
  rw [e1, e2, BitVec.toInt_eq_toNat_of_lt (by rw [h1]; omega), h1]
  omega
theorem x_lsh {x : Int} {k : Nat} (hk : k < 8) : e3_land (e3_lshr x (e3_w32 (8 * (k : Int)))) 255 = e3_land (e3_lushr x (e3_w32 (8 * (k : Int)))) 255 := by
  have key : ∀ (s : Int) (m : Nat), m ≤ 56 → (∀ T : Int64, (T >>> ((Int32.ofInt s).toInt64 &&& 63)).toBitVec = T.toBitVec.sshiftRight m) → (∀ T : Int64, ((T.toUInt64 >>> ((Int32.ofInt s).toInt64.toUInt64 &&& Int64.toUInt64 63)).toInt64).toBitVec = T.toBitVec >>> m) → e3_land (e3_lshr x s) 255 = e3_land (e3_lushr x s) 255 := by
    intro s m hm h1 h2
    show ((Int64.ofInt (Int64.ofInt x >>> ((Int32.ofInt s).toInt64 &&& 63)).toInt) &&& (Int64.ofInt 255)).toInt = ((Int64.ofInt (((Int64.ofInt x).toUInt64 >>> ((Int32.ofInt s).toInt64.toUInt64 &&& Int64.toUInt64 63)).toInt64).toInt) &&& (Int64.ofInt 255)).toInt
    rw [Int64.ofInt_toInt, Int64.ofInt_toInt]
    congr 1
    rw [← Int64.toBitVec_inj]
    show (Int64.ofInt x >>> ((Int32.ofInt s).toInt64 &&& 63)).toBitVec &&& (Int64.ofInt 255).toBitVec = (((Int64.ofInt x).toUInt64 >>> ((Int32.ofInt s).toInt64.toUInt64 &&& Int64.toUInt64 63)).toInt64).toBitVec &&& (Int64.ofInt 255).toBitVec
    rw [h1, h2]
    apply BitVec.eq_of_getLsbD_eq
    intro i hi
    rw [BitVec.getLsbD_and, BitVec.getLsbD_and, BitVec.getLsbD_sshiftRight, BitVec.getLsbD_ushiftRight]
    by_cases h : i < 8
    · have h3 : ¬ 64 ≤ i := by omega
      have h4 : m + i < 64 := by omega
      simp [h3, h4]
    · have : (Int64.ofInt 255).toBitVec.getLsbD i = false := by
        have e : (Int64.ofInt 255).toBitVec = BitVec.ofNat 64 (2 ^ 8 - 1) := rfl
        rw [e, BitVec.getLsbD_ofNat, Nat.testBit_two_pow_sub_one]
        simp [h]
      rw [this, Bool.and_false, Bool.and_false]
  match k, hk with
  | 0, _ => exact key _ 0 (by omega) (fun T => rfl) (fun T => rfl)
  | 1, _ => exact key _ 8 (by omega) (fun T => rfl) (fun T => rfl)
  | 2, _ => exact key _ 16 (by omega) (fun T => rfl) (fun T => rfl)
  | 3, _ => exact key _ 24 (by omega) (fun T => rfl) (fun T => rfl)
  | 4, _ => exact key _ 32 (by omega) (fun T => rfl) (fun T => rfl)
  | 5, _ => exact key _ 40 (by omega) (fun T => rfl) (fun T => rfl)
  | 6, _ => exact key _ 48 (by omega) (fun T => rfl) (fun T => rfl)
  | 7, _ => exact key _ 56 (by omega) (fun T => rfl) (fun T => rfl)
def x_br (c r : Int) : Prop := (0 ≤ c ∧ c ≤ 127 ∧ r = c) ∨ (-128 ≤ c ∧ c < 0 ∧ r = c + 256)
/-- a byte of a word, as class and reference keep it -/
theorem x_byte {x : Int} {k : Nat} (hk : k < 8) : x_br (e3_b (e3_b (e3_w32 (e3_lushr x (e3_w32 (8 * (k : Int))))))) (e3_w32 (e3_land (e3_lshr x (e3_w32 (8 * (k : Int)))) 255)) := by
  rw [x_lsh hk]
  have hu : e3_i64 (e3_lushr x (e3_w32 (8 * (k : Int)))) := e3_rg64 _
  generalize e3_lushr x (e3_w32 (8 * (k : Int))) = u at hu
  rw [x_land255 hu, x_b_eq (e3_w32_ok u), x_b_eq (x := (e3_w32 u + 128) % 256 - 128) ⟨by omega, by omega⟩]
  unfold x_br e3_w32
  omega
def x_bt (b t : Int → Int) (n : Nat) : Prop := ∀ k : Nat, k < n → x_br (b k) (t k)
section BT
variable {b t : Int → Int} {n : Nat}
theorem x_br_P {c r : Int} (h : x_br c r) : x_sm c = x_sm r ∧ x_fg c = x_fg r ∧ x_up c = x_up r ∧ x_bl c = x_bl r ∧ x_sg c = x_sg r ∧ (c = 39 ↔ r = 39) ∧ (c = 46 ↔ r = 46) := by
  rcases h with ⟨h1, h2, h3⟩ | ⟨h1, h2, h3⟩
  · subst h3
    exact ⟨rfl, rfl, rfl, rfl, rfl, Iff.rfl, Iff.rfl⟩
  · have a1 : x_sm c = false := by unfold x_sm; simp; omega
    have a2 : x_fg c = false := by unfold x_fg; simp; omega
    have a3 : x_up c = false := by unfold x_up; simp; omega
    have a4 : x_bl c = false := by unfold x_bl; simp; omega
    have a5 : x_sg c = false := by
      cases hz : x_sg c with
      | false => rfl
      | true => have := x_sg_pos hz; omega
    have b1 : x_sm r = false := by unfold x_sm; simp; omega
    have b2 : x_fg r = false := by unfold x_fg; simp; omega
    have b3 : x_up r = false := by unfold x_up; simp; omega
    have b4 : x_bl r = false := by unfold x_bl; simp; omega
    have b5 : x_sg r = false := by
      cases hz : x_sg r with
      | false => rfl
      | true => have := x_sg_pos hz; omega
    rw [a1, a2, a3, a4, a5, b1, b2, b3, b4, b5]
    exact ⟨rfl, rfl, rfl, rfl, rfl, by omega, by omega⟩
theorem x_br_eq {c r : Int} (h : x_br c r) (hp : 0 ≤ c) : c = r := by
  unfold x_br at h
  omega
theorem x_pk_eq {p : Nat} : ∀ m : Nat, (∀ i : Nat, i < m → b ((p + i : Nat) : Int) = t ((p + i : Nat) : Int)) → x_pk b p m = x_pk t p m := by
  intro m
  induction m with
  | zero => intro _; rfl
  | succ m ih =>
    intro h
    show e3_lor (e3_lshl (x_pk b p m) 8) (b ((p + m : Nat) : Int)) = e3_lor (e3_lshl (x_pk t p m) 8) (t ((p + m : Nat) : Int))
    rw [ih (fun i hi => h i (by omega)), h m (by omega)]
theorem x_nm_eq {p : Nat} : ∀ m : Nat, (∀ i : Nat, i < m → b ((p + i : Nat) : Int) = t ((p + i : Nat) : Int)) → x_nm b p m = x_nm t p m := by
  intro m
  induction m with
  | zero => intro _; rfl
  | succ m ih =>
    intro h
    show x_nm b p m * 10 + (b ((p + m : Nat) : Int) - 48) = x_nm t p m * 10 + (t ((p + m : Nat) : Int) - 48)
    rw [ih (fun i hi => h i (by omega)), h m (by omega)]
theorem x_an_pos {x : Int} (h : x_an x = true) : 0 ≤ x := by
  unfold x_an x_sm x_fg at h
  simp only [Bool.or_eq_true, Bool.and_eq_true, decide_eq_true_eq] at h
  omega
theorem x_tk_eq (h : x_bt b t n) (p : Nat) : x_tk b n p = x_tk t n p := by
  have hsm : ∀ k : Nat, k < n → x_sm (b k) = x_sm (t k) := fun k hk => (x_br_P (h k hk)).1
  have hfg : ∀ k : Nat, k < n → x_fg (b k) = x_fg (t k) := fun k hk => (x_br_P (h k hk)).2.1
  have han : ∀ k : Nat, k < n → x_an (b k) = x_an (t k) := fun k hk => by unfold x_an; rw [hsm k hk, hfg k hk]
  by_cases hp : p < n
  · obtain ⟨q1, q2, q3, q4, q5, q6, q7⟩ := x_br_P (h p hp)
    have s1 := x_sc_congr han n (p + 1)
    have s2 := x_sc_congr hfg n p
    have s3 := x_sc_congr hsm n (p + 1)
    have eq : ∀ k : Nat, k < n → 0 ≤ b k → b k = t k := fun k hk h0 => x_br_eq (h k hk) h0
    unfold x_tk
    have hnp : ¬ n ≤ p := by omega
    rw [q1, q3, q2, s1, s2, s3, if_neg hnp, if_neg hnp]
    by_cases c1 : x_sm (t p) = true ∨ x_up (t p) = true
    · have e : x_pk b p (x_sc x_an t n n (p + 1) - p) = x_pk t p (x_sc x_an t n n (p + 1) - p) := by
        refine x_pk_eq _ (fun i hi => ?_)
        by_cases hi0 : i = 0
        · subst hi0
          refine eq _ (by omega) ?_
          rw [← q1, ← q3] at c1
          unfold x_sm x_up at c1
          simp only [Bool.and_eq_true, decide_eq_true_eq] at c1
          show 0 ≤ b ((p : Nat) : Int)
          omega
        · have := x_sc_all x_an t n n (p + 1) (p + i) (by omega) (by omega)
          refine eq _ this.1 ?_
          rw [← han _ this.1] at this
          exact x_an_pos this.2
      rw [if_pos c1, if_pos c1, e]
    rw [if_neg c1, if_neg c1]
    by_cases c2 : x_fg (t p) = true
    · have ea : ∀ m, m ≤ x_sc x_fg t n n p - p → x_nm b p m = x_nm t p m := by
        intro m hm
        refine x_nm_eq _ (fun i hi => ?_)
        have := x_sc_all x_fg t n n p (p + i) (by omega) (by omega)
        refine eq _ this.1 ?_
        rw [← hfg _ this.1] at this
        have h2 := this.2
        unfold x_fg at h2
        simp only [Bool.and_eq_true, decide_eq_true_eq] at h2
        omega
      rw [if_pos c2, if_pos c2]
      by_cases c3 : 9 < x_sc x_fg t n n p - p
      · rw [if_pos c3, if_pos c3, ea 9 (by omega)]
      · rw [if_neg c3, if_neg c3, ea _ (Nat.le_refl _)]
    rw [if_neg c2, if_neg c2]
    by_cases c3 : b p = 39
    · rw [if_pos c3, if_pos (q6.mp c3)]
      have e : x_pk b (p + 1) (x_sc x_sm t n n (p + 1) - p - 1) = x_pk t (p + 1) (x_sc x_sm t n n (p + 1) - p - 1) := by
        refine x_pk_eq _ (fun i hi => ?_)
        have := x_sc_all x_sm t n n (p + 1) (p + 1 + i) (by omega) (by omega)
        refine eq _ this.1 ?_
        rw [← hsm _ this.1] at this
        have h2 := this.2
        unfold x_sm at h2
        simp only [Bool.and_eq_true, decide_eq_true_eq] at h2
        omega
      rw [e]
      by_cases c4 : x_sc x_sm t n n (p + 1) < n
      · have := (x_br_P (h _ c4)).2.2.2.2.2.1
        by_cases c5 : b (x_sc x_sm t n n (p + 1)) = 39
        · have c6 := this.mp c5
          simp only [c4, c5, c6]
        · have c6 : ¬ t (x_sc x_sm t n n (p + 1)) = 39 := fun z => c5 (this.mpr z)
          rw [if_neg (fun z => c5 z.1.2), if_neg (fun z => c6 z.1.2)]
      · rw [if_neg (fun z => c4 z.1.1), if_neg (fun z => c4 z.1.1)]
    rw [if_neg c3, if_neg (fun z => c3 (q6.mpr z))]
    by_cases c4 : b p = 46 ∧ p + 1 < n ∧ b ((p + 1 : Nat) : Int) = 46
    · have c5 := (x_br_P (h (p + 1) c4.2.1)).2.2.2.2.2.2
      rw [if_pos c4, if_pos ⟨q7.mp c4.1, c4.2.1, c5.mp c4.2.2⟩]
    · have c4' : ¬ (t p = 46 ∧ p + 1 < n ∧ t ((p + 1 : Nat) : Int) = 46) := fun z => c4 ⟨q7.mpr z.1, z.2.1, ((x_br_P (h (p + 1) z.2.1)).2.2.2.2.2.2).mpr z.2.2⟩
      rw [if_neg c4, if_neg c4', q5]
      by_cases c5 : x_sg (t p) = true
      · rw [if_pos c5, if_pos c5, eq p hp (by have := (x_sg_pos (by rw [q5]; exact c5) : 0 < b p ∧ b p < 128); omega)]
      · rw [if_neg c5, if_neg c5]
  · unfold x_tk
    rw [if_pos (by omega), if_pos (by omega)]
theorem x_ps_eq (h : x_bt b t n) : ∀ i : Nat, x_ps b n i = x_ps t n i := by
  have hbl : ∀ k : Nat, k < n → x_bl (b k) = x_bl (t k) := fun k hk => (x_br_P (h k hk)).2.2.2.1
  intro i
  induction i with
  | zero => rfl
  | succ i ih =>
    show (x_tk b n (x_sk b n (x_ps b n i))).2.1 = (x_tk t n (x_sk t n (x_ps t n i))).2.1
    rw [ih, x_tk_eq h]
    unfold x_sk
    rw [x_sc_congr hbl]
theorem x_sp_eq (h : x_bt b t n) (i : Nat) : x_sp b n i = x_sp t n i := by
  have hbl : ∀ k : Nat, k < n → x_bl (b k) = x_bl (t k) := fun k hk => (x_br_P (h k hk)).2.2.2.1
  unfold x_sp x_sk
  rw [x_ps_eq h, x_sc_congr hbl]
theorem x_ty_eq (h : x_bt b t n) (i : Nat) : x_ty b n i = x_ty t n i := by
  unfold x_ty
  rw [x_sp_eq h, x_tk_eq h]
theorem x_wo_eq (h : x_bt b t n) (i : Nat) : x_wo b n i = x_wo t n i := by
  unfold x_wo
  rw [x_sp_eq h, x_tk_eq h]
end BT
