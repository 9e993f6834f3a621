/-- bits of a small number -/
def b_bit (b : Int) (k : Nat) : Bool := decide (b / 2 ^ k % 2 = 1)
def b_set (b : Int) (k : Nat) : Int := if b_bit b k = true then b else b + 2 ^ k
theorem b_fin : ∀ (b : Fin 256) (k : Fin 8), (e3_and (e3_shr ((b.val : Nat) : Int) ((k.val : Nat) : Int)) 1 = 1 ↔ b_bit ((b.val : Nat) : Int) k.val = true) ∧ (e3_and (e3_shr ((b.val : Nat) : Int) ((k.val : Nat) : Int)) 1 = 0 ↔ b_bit ((b.val : Nat) : Int) k.val = false) ∧ e3_or ((b.val : Nat) : Int) (e3_shl 1 ((k.val : Nat) : Int)) = b_set ((b.val : Nat) : Int) k.val ∧ 0 ≤ b_set ((b.val : Nat) : Int) k.val ∧ b_set ((b.val : Nat) : Int) k.val < 256 := by decide +kernel
theorem b_ok {b : Int} {k : Nat} (hb : 0 ≤ b ∧ b < 256) (hk : k < 8) : (e3_and (e3_shr b (k : Int)) 1 = 1 ↔ b_bit b k = true) ∧ (e3_and (e3_shr b (k : Int)) 1 = 0 ↔ b_bit b k = false) ∧ e3_or b (e3_shl 1 (k : Int)) = b_set b k ∧ 0 ≤ b_set b k ∧ b_set b k < 256 := by
  have := b_fin ⟨b.toNat, by omega⟩ ⟨k, hk⟩
  simp only at this
  rw [Int.toNat_of_nonneg hb.1] at this
  exact this
theorem b_set_fin : ∀ (b : Fin 256) (k j : Fin 8), b_bit (b_set ((b.val : Nat) : Int) k.val) j.val = (b_bit ((b.val : Nat) : Int) j.val || decide (j.val = k.val)) := by decide +kernel
theorem b_set_bit {b : Int} {k j : Nat} (hb : 0 ≤ b ∧ b < 256) (hk : k < 8) (hj : j < 8) : b_bit (b_set b k) j = (b_bit b j || decide (j = k)) := by
  have := b_set_fin ⟨b.toNat, by omega⟩ ⟨k, hk⟩ ⟨j, hj⟩
  simp only at this
  rw [Int.toNat_of_nonneg hb.1] at this
  exact this
theorem b_bit_eq {b c : Int} {k : Nat} (h : b_bit b k = b_bit c k) : b / 2 ^ k % 2 = c / 2 ^ k % 2 := by
  unfold b_bit at h
  have h1 : b / 2 ^ k % 2 = 0 ∨ b / 2 ^ k % 2 = 1 := by omega
  have h2 : c / 2 ^ k % 2 = 0 ∨ c / 2 ^ k % 2 = 1 := by omega
  rcases h1 with h1 | h1 <;> rcases h2 with h2 | h2
  · rw [h1, h2]
  · rw [h1, h2] at h; simp at h
  · rw [h1, h2] at h; simp at h
  · rw [h1, h2]
theorem b_ext {b c : Int} (hb : 0 ≤ b ∧ b < 256) (hc : 0 ≤ c ∧ c < 256) (h : ∀ k : Nat, k < 8 → b_bit b k = b_bit c k) : b = c := by
  have h0 : b / 1 % 2 = c / 1 % 2 := b_bit_eq (h 0 (by omega))
  have h1 : b / 2 % 2 = c / 2 % 2 := b_bit_eq (h 1 (by omega))
  have h2 : b / 4 % 2 = c / 4 % 2 := b_bit_eq (h 2 (by omega))
  have h3 : b / 8 % 2 = c / 8 % 2 := b_bit_eq (h 3 (by omega))
  have h4 : b / 16 % 2 = c / 16 % 2 := b_bit_eq (h 4 (by omega))
  have h5 : b / 32 % 2 = c / 32 % 2 := b_bit_eq (h 5 (by omega))
  have h6 : b / 64 % 2 = c / 64 % 2 := b_bit_eq (h 6 (by omega))
  have h7 : b / 128 % 2 = c / 128 % 2 := b_bit_eq (h 7 (by omega))
  omega
/-- outcome with a pattern: where the fault is, or the next TOKEN, the tables, the pattern -/
abbrev a_R : Type := Int ⊕ (Nat × e3_H × Int)
/-- the NAMES of the rule that is read -/
def a_rn (σ : e3_H) : Int → Int := fun k => σ 57 (8 * σ 40 27 + k)
def a_nm (σ : e3_H) : Nat := (σ 56 (σ 40 27)).toNat
def a_no (σ : e3_H) (v : Int) : Int := a_fd (a_rn σ) v (a_nm σ)
def a_bind0 (σ : e3_H) (v : Int) : e3_H := e3_up (e3_up σ 56 (σ 40 27) (σ 56 (σ 40 27) + 1)) 57 (8 * σ 40 27 + σ 56 (σ 40 27)) v
def a_bind1 (σ : e3_H) (s : Int) (k : Nat) : e3_H := e3_up (e3_up σ 58 (8 * σ 40 27 + k) s) 40 31 (b_set (σ 40 31) k)
/-- a NAME is bound -/
def a_binds (σ : e3_H) (s v : Int) : Option (Int × e3_H) :=
  if a_no σ v < 0 then (if σ 56 (σ 40 27) = 8 then none else some (σ 56 (σ 40 27), a_bind1 (a_bind0 σ v) s (a_nm σ)))
  else if b_bit (σ 40 31) (a_no σ v).toNat = true then none else some (a_no σ v, a_bind1 σ s (a_no σ v).toNat)
def a_npat (σ : e3_H) (kd s : Int) : e3_H := e3_up (e3_up (e3_up (e3_up (e3_up (e3_up (e3_up (e3_up (e3_up (e3_up (e3_up σ 40 16 (σ 40 16 + 1)) 46 (σ 40 16) kd) 47 (σ 40 16) s) 48 (σ 40 16) 0) 49 (σ 40 16) 0) 50 (σ 40 16) 0) 51 (σ 40 16) (-4)) 52 (σ 40 16) (-4)) 53 (σ 40 16) (-4)) 54 (σ 40 16) (-4)) 55 (σ 40 16) 1
def a_at (σ : e3_H) (p A T : Int) : e3_H := e3_up (e3_up σ 48 p A) 50 p T
/-- a number with its sign: the fault's place, or the next TOKEN and the number -/
def a_num (t : Int → Int) (n i : Nat) : Int ⊕ (Nat × Int) :=
  if x_ty t n i = 45 then (if x_ty t n (i + 1) = 260 then .inr (i + 2, -x_wo t n (i + 1)) else .inl (x_sp t n (i + 1)))
  else if x_ty t n i = 260 then .inr (i + 1, x_wo t n i) else .inl (x_sp t n i)
def a_rng (t : Int → Int) (n : Nat) (p pl : Int) (i : Nat) (σ : e3_H) : a_R := match a_num t n i with
  | .inl q => .inl q
  | .inr (j, x) => if x_ty t n j = 262 then (match a_num t n (j + 1) with
      | .inl q => .inl q
      | .inr (j2, y) => if y < x then .inl pl else .inr (j2, e3_up (e3_up (e3_up σ 48 p x) 49 p x) 49 p y, p))
    else .inr (j, e3_up (e3_up σ 48 p x) 49 p x, p)
def a_into (σ : e3_H) (into last q : Int) : e3_H :=
  if last = -4 then e3_up (e3_up σ 51 into q) 55 into (σ 55 q)
  else e3_up (e3_up σ 52 last q) 55 into (if 1000 < (if σ 46 into = 5 then σ 55 into * σ 55 q else σ 55 into + σ 55 q) then 1000 else (if σ 46 into = 5 then σ 55 into * σ 55 q else σ 55 into + σ 55 q))
def a_as (t : Int → Int) (n : Nat) (r : a_R) : a_R := match r with
  | .inl q => .inl q
  | .inr (i, σ, p) => if x_ty t n i = 274 then (if x_ty t n (i + 1) = 258 then (match a_binds σ (σ 47 p) (x_wo t n (i + 1)) with
      | none => .inl (x_sp t n (i + 1))
      | some (k, σ2) => .inr (i + 2, e3_up σ2 54 p k, p)) else .inl (x_sp t n (i + 1))) else .inr (i, σ, p)
/-- can a pattern of a SORT begin with this TOKEN -/
def a_okp (t : Int → Int) (n : Nat) (s : Int) (i : Nat) (σ : e3_H) : Bool :=
  if x_ty t n i = 95 ∨ x_ty t n i = 40 then true
  else if x_ty t n i = 258 then (a_binds σ s (x_wo t n i)).isSome
  else if x_ty t n i = 260 ∨ x_ty t n i = 45 then decide (s = 0)
  else if x_ty t n i = 278 ∨ x_ty t n i = 279 then decide (s = 1)
  else if x_ty t n i = 261 then decide (s = 2)
  else if x_ty t n i = 280 then decide (3 ≤ s)
  else if x_ty t n i = 259 then decide (0 ≤ a_fd (σ 42) (x_wo t n i) (a_nk σ)) && decide (3 ≤ s) && (a_of (σ 43) (s - 3) 24 (a_fd (σ 42) (x_wo t n i) (a_nk σ)) || a_of (σ 43) (a_fd (σ 42) (x_wo t n i) (a_nk σ)) 24 (s - 3))
  else false
def a_kids (t : Int → Int) (n : Nat) (g : Int → Nat → e3_H → a_R) (p kd : Int) : Nat → Nat → Int → Nat → e3_H → a_R
  | 0, _, _, _, _ => .inl 0
  | rem + 1, j, last, i, σ => match g (σ 45 (4 * kd + j)) i σ with
    | .inl q => .inl q
    | .inr (i2, σ2, q) => if rem = 0 then (if x_ty t n i2 = 41 then .inr (i2 + 1, a_into σ2 p last q, p) else .inl (x_sp t n i2))
      else if x_ty t n i2 = 44 then a_kids t n g p kd rem (j + 1) q (i2 + 1) (a_into σ2 p last q) else .inl (x_sp t n i2)
/-- does an alternative bind otherwise than the first one -/
def a_unl (σ : e3_H) (b0 fst : Int) (srt : Nat → Int) : Nat → Bool
  | 0 => decide (σ 40 31 ≠ fst)
  | k + 1 => a_unl σ b0 fst srt k || (b_bit (σ 40 31) k && !(b_bit b0 k) && decide (srt k ≠ σ 58 (8 * σ 40 27 + k)))
def a_srt (σ : e3_H) (srt : Nat → Int) : Nat → e3_H
  | 0 => σ
  | k + 1 => e3_up (a_srt σ srt k) 58 (8 * σ 40 27 + k) (srt k)
def a_alts (t : Int → Int) (n : Nat) (g : Bool → Nat → e3_H → a_R) (p pl b0 : Int) : Nat → Nat → Int → Int → (Nat → Int) → Bool → Nat → e3_H → a_R
  | 0, _, _, _, _, _, _, _ => .inl 0
  | rem + 1, j, last, fst, srt, un, i, σ => match g (decide (j = 6)) i σ with
    | .inl q => .inl q
    | .inr (i2, σ2, q) =>
      if x_ty t n i2 = 124 then a_alts t n g p pl b0 rem (j + 1) q (if j = 0 then a_into σ2 p last q 40 31 else fst) (if j = 0 then (fun k => a_into σ2 p last q 58 (8 * σ2 40 27 + k)) else srt) (if j = 0 then false else un || a_unl (a_into σ2 p last q) b0 fst srt 8) (i2 + 1) (e3_up (a_into σ2 p last q) 40 31 b0)
      else if x_ty t n i2 = 41 then (if (if j = 0 then false else un || a_unl (a_into σ2 p last q) b0 fst srt 8) = true then .inl pl
        else .inr (i2 + 1, a_srt (e3_up (a_into σ2 p last q) 40 31 (if j = 0 then a_into σ2 p last q 40 31 else fst)) (if j = 0 then (fun k => a_into σ2 p last q 58 (8 * σ2 40 27 + k)) else srt) 8, p))
      else .inl (x_sp t n i2)
/-- a pattern: fuel, SORT, within how many others, no pattern may be here any more -/
def a_pat (t : Int → Int) (n : Nat) : Nat → Int → Nat → Bool → Nat → e3_H → a_R
  | 0, _, _, _, _, _ => .inl 0
  | f + 1, s, d, mu, i, σ =>
    if a_okp t n s i σ = false ∨ mu = true ∨ 6 ≤ d then .inl (x_sp t n i)
    else a_as t n (
      if x_ty t n i = 258 then (match a_binds (a_npat σ 0 s) s (x_wo t n i) with
        | none => .inl (x_sp t n i)
        | some (k, σ2) => .inr (i + 1, a_at (e3_up σ2 53 (σ 40 16) k) (σ 40 16) 0 0, σ 40 16))
      else if x_ty t n i = 260 ∨ x_ty t n i = 45 then a_rng t n (σ 40 16) (x_sp t n i) i (a_at (a_npat σ 1 s) (σ 40 16) 0 0)
      else if x_ty t n i = 278 then .inr (i + 1, a_at (a_npat σ 2 s) (σ 40 16) 1 0, σ 40 16)
      else if x_ty t n i = 279 then .inr (i + 1, a_at (a_npat σ 2 s) (σ 40 16) 0 0, σ 40 16)
      else if x_ty t n i = 261 then .inr (i + 1, a_at (a_npat σ 3 s) (σ 40 16) 0 (x_wo t n i), σ 40 16)
      else if x_ty t n i = 280 then .inr (i + 1, a_at (a_npat σ 4 s) (σ 40 16) 0 0, σ 40 16)
      else if x_ty t n i = 259 then (if x_ty t n (i + 1) = 40 then
          (if σ 44 (a_fd (σ 42) (x_wo t n i) (a_nk σ)) = 0 then .inl (x_sp t n (i + 1))
           else a_kids t n (fun s2 i2 σ2 => a_pat t n f s2 (d + 1) false i2 σ2) (σ 40 16) (a_fd (σ 42) (x_wo t n i) (a_nk σ)) (σ 44 (a_fd (σ 42) (x_wo t n i) (a_nk σ))).toNat 0 (-4) (i + 2) (a_at (a_npat σ 5 s) (σ 40 16) (a_fd (σ 42) (x_wo t n i) (a_nk σ)) 0))
        else .inr (i + 1, a_at (a_npat σ 5 s) (σ 40 16) (a_fd (σ 42) (x_wo t n i) (a_nk σ)) 0, σ 40 16))
      else if x_ty t n i = 40 then a_alts t n (fun mu2 i2 σ2 => a_pat t n f s (d + 1) mu2 i2 σ2) (σ 40 16) (x_sp t n i) (σ 40 31) 7 0 (-4) 0 (fun _ => 0) false (i + 1) (a_at (a_npat σ 6 s) (σ 40 16) 0 0)
      else .inr (i + 1, a_at (a_npat σ 0 s) (σ 40 16) 0 0, σ 40 16))
