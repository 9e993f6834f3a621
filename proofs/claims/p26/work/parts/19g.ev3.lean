def e3_Ev (B : e3_B) (f w m pc : Nat) (lv st : List e3_V) (H : e3_H) (G : e3_G) (Q : Option e3_V → e3_H → e3_G → Prop) : Prop :=
  ∀ (lvA : List (Nat × Value)) (h : List am_E), e3_L lv lvA → e3_S st → e3_R B H G h → ∃ (r : Option e3_V) (H2 : e3_H) (G2 : e3_G) (h2 : List am_E), am_ev B.1 B.2.1 f w m pc lvA (st.map e3_v) h (r.map e3_v) h2 ∧ e3_R B H2 G2 h2 ∧ (∀ v, r = some v → e3_ok v) ∧ Q r H2 G2
abbrev e3_C : Type := Nat × List e3_V × List e3_V × e3_H × e3_G
def e3_dvd (i : Instr) (pc : Nat) (lv st : List e3_V) : Option (e3_X × Prop) := match i, st with
  | .idiv, (0, y) :: (0, x) :: r => some ((pc + 1, lv, (0, e3_div x y) :: r), y ≠ 0)
  | .irem, (0, y) :: (0, x) :: r => some ((pc + 1, lv, (0, e3_rem x y) :: r), y ≠ 0)
  | _, _ => none
def e3_run (B : e3_B) (m nL : Nat) : List Nat → Nat → List e3_V → List e3_V → e3_H → e3_G → Option (e3_C × Prop)
  | [], pc, lv, st, H, G => some ((pc, lv, st, H, G), True)
  | o :: os, pc, lv, st, H, G => match am_in B.1 m pc with
    | some (i, _) => (match o with
      | 0 => (match e3_p nL i pc lv st with
        | some (pc2, lv2, st2) => e3_run B m nL os pc2 lv2 st2 H G
        | none => none)
      | 1 => (match e3_dvd i pc lv st with
        | some ((pc2, lv2, st2), p) => (match e3_run B m nL os pc2 lv2 st2 H G with
          | some (q, P) => some (q, p ∧ P)
          | none => none)
        | none => none)
      | o + 2 => (match e3_m B m o i st H G with
        | some (st2, H2, G2, p) => (match e3_run B m nL os (pc + am_ln i) lv st2 H2 G2 with
          | some (q, P) => some (q, p ∧ P)
          | none => none)
        | none => none))
    | none => none
section E3E
variable {B : e3_B} {f w m pc : Nat} {lv st : List e3_V} {H : e3_H} {G : e3_G} {Q : Option e3_V → e3_H → e3_G → Prop} {M : am_M}
theorem e3_mono {Q2 : Option e3_V → e3_H → e3_G → Prop} (K : e3_Ev B f w m pc lv st H G Q2) (hQ : ∀ r H2 G2, Q2 r H2 G2 → Q r H2 G2) : e3_Ev B f w m pc lv st H G Q := by
  intro lvA h hL hS hR
  obtain ⟨r, H2, G2, h2, a, b, c, d⟩ := K lvA h hL hS hR
  exact ⟨r, H2, G2, h2, a, b, c, hQ _ _ _ d⟩
theorem e3_wid {f1 w1 : Nat} (K : e3_Ev B f1 w1 m pc lv st H G Q) (hf : f1 ≤ f) (hw : w1 ≤ w) : e3_Ev B f w m pc lv st H G Q := by
  intro lvA h hL hS hR
  obtain ⟨r, H2, G2, h2, a, b, c, d⟩ := K lvA h hL hS hR
  exact ⟨r, H2, G2, h2, am_ev_mono a hf hw, b, c, d⟩
def e3_fg (bs : List Bool) (lv : List e3_V) : List e3_V := List.zipWith (fun b v => if b then v else (3, 0)) bs lv
theorem e3_fgt (bs : List Bool) (K : e3_Ev B f w m pc (e3_fg bs lv) st H G Q) : e3_Ev B f w m pc lv st H G Q := by
  intro lvA h hL hS hR
  refine K lvA h ?_ hS hR
  intro i c x hi hc
  unfold e3_fg at hi
  rw [List.getElem?_zipWith] at hi
  split at hi
  · rename_i b v hb hv
    cases hi2 : b with
    | true =>
      rw [hi2] at hi
      simp only [if_true, Option.some.injEq] at hi
      rw [hi] at hv
      exact hL i c x hv hc
    | false =>
      rw [hi2] at hi
      simp only [Bool.false_eq_true, if_false, Option.some.injEq] at hi
      cases hi
      omega
  · cases hi
theorem e3_pk {i : Instr} {len : Nat} (hi : am_in B.1 m pc = some (i, len)) (hM : am_mt B.1 m = some M) {pc2 : Nat} {lv2 st2 : List e3_V} (hp : e3_p M.2.2.1 i pc lv st = some (pc2, lv2, st2)) (K : e3_Ev B f w m pc2 lv2 st2 H G Q) : e3_Ev B f w m pc lv st H G Q := by
  intro lvA h hL hS hR
  obtain ⟨⟨lvA2, h1, h2, h3⟩, h4⟩ := e3_p_ok (lvA := lvA) hp hL hS
  obtain ⟨r, H2, G2, h2', a, b, c, d⟩ := K lvA2 h h2 h3 hR
  exact ⟨r, H2, G2, h2', am_ev_pu hi hM (h4 _ _) h1 a, b, c, d⟩
theorem e3_dk {i : Instr} {len : Nat} (hi : am_in B.1 m pc = some (i, len)) (hM : am_mt B.1 m = some M) {pc2 : Nat} {lv2 st2 : List e3_V} {p : Prop} (hp : e3_dvd i pc lv st = some ((pc2, lv2, st2), p)) (hP : p) (K : e3_Ev B f w m pc2 lv2 st2 H G Q) : e3_Ev B f w m pc lv st H G Q := by
  intro lvA h hL hS hR
  have z : ∀ y : Int, e3_ok (0, y) → y ≠ 0 → ¬ Int32.ofInt y = 0 := by
    intro y hy h0 h1
    rw [show (0 : Int32) = Int32.ofInt 0 from rfl, e3_eq32 hy e3_z32] at h1
    exact h0 h1
  unfold e3_dvd at hp
  split at hp
  · rename_i y x r
    cases hp
    obtain ⟨k1, k2⟩ := e3_S_cons.mp hS
    obtain ⟨k3, k4⟩ := e3_S_cons.mp k2
    obtain ⟨r0, H2, G2, h2', a, b, c, d⟩ := K lvA h hL (e3_S_cons.mpr ⟨(e3_g2 _ x y).2, k4⟩) hR
    refine ⟨r0, H2, G2, h2', am_ev_pu hi hM rfl ?_ a, b, c, d⟩
    show (if Int32.ofInt y = 0 then none else some (pc + 1, lvA, Value.int (Int32.ofInt x / Int32.ofInt y) :: r.map e3_v)) = some (pc + 1, lvA, Value.int (Int32.ofInt (e3_div x y)) :: r.map e3_v)
    rw [if_neg (z y k1 hP), (e3_g2 _ x y).1]
  · rename_i y x r
    cases hp
    obtain ⟨k1, k2⟩ := e3_S_cons.mp hS
    obtain ⟨k3, k4⟩ := e3_S_cons.mp k2
    obtain ⟨r0, H2, G2, h2', a, b, c, d⟩ := K lvA h hL (e3_S_cons.mpr ⟨(e3_g2 _ x y).2, k4⟩) hR
    refine ⟨r0, H2, G2, h2', am_ev_pu hi hM rfl ?_ a, b, c, d⟩
    show (if Int32.ofInt y = 0 then none else some (pc + 1, lvA, Value.int (Int32.ofInt x - Int32.ofInt x / Int32.ofInt y * Int32.ofInt y) :: r.map e3_v)) = some (pc + 1, lvA, Value.int (Int32.ofInt (e3_rem x y)) :: r.map e3_v)
    rw [if_neg (z y k1 hP), (e3_g2 _ x y).1]
  · cases hp
theorem e3_mk {i : Instr} {len : Nat} (hZ : e3_Z B) (hi : am_in B.1 m pc = some (i, len)) (hM : am_mt B.1 m = some M) {o : Nat} {st2 : List e3_V} {H2 : e3_H} {G2 : e3_G} {p : Prop} (hp : e3_m B m o i st H G = some (st2, H2, G2, p)) (hP : p) (K : e3_Ev B f w m (pc + am_ln i) lv st2 H2 G2 Q) : e3_Ev B f w m pc lv st H G Q := by
  intro lvA h hL hS hR
  obtain ⟨⟨h2, h1, h3, h4⟩, h5, h6⟩ := e3_m_ok hZ hp hP hR hS
  obtain ⟨r, H3, G3, h2', a, b, c, d⟩ := K lvA h2 hL h4 h3
  exact ⟨r, H3, G3, h2', am_ev_hp hi hM (h5 _ _) (h6 _ _ _ _) h1 a, b, c, d⟩
/-- steps at once -/
theorem e3_k (hZ : e3_Z B) (hM : am_mt B.1 m = some M) {os : List Nat} : ∀ {pc : Nat} {lv st : List e3_V} {H : e3_H} {G : e3_G} {pc2 : Nat} {lv2 st2 : List e3_V} {H2 : e3_H} {G2 : e3_G} {P : Prop}, e3_run B m M.2.2.1 os pc lv st H G = some ((pc2, lv2, st2, H2, G2), P) → P → e3_Ev B f w m pc2 lv2 st2 H2 G2 Q → e3_Ev B f w m pc lv st H G Q := by
  induction os with
  | nil =>
    intro pc lv st H G pc2 lv2 st2 H2 G2 P hr hP K
    cases hr
    exact K
  | cons o os ih =>
    intro pc lv st H G pc2 lv2 st2 H2 G2 P hr hP K
    unfold e3_run at hr
    split at hr
    · rename_i i len hi
      split at hr
      · split at hr
        · rename_i pc3 lv3 st3 hp
          exact e3_pk hi hM hp (ih hr hP K)
        · cases hr
      · split at hr
        · rename_i pc3 lv3 st3 p hp
          split at hr
          · rename_i q P2 hr2
            cases hr
            exact e3_dk hi hM hp hP.1 (ih hr2 hP.2 K)
          · cases hr
        · cases hr
      · rename_i o2
        split at hr
        · rename_i st3 H3 G3 p hp
          split at hr
          · rename_i q P2 hr2
            cases hr
            exact e3_mk hZ hi hM hp hP.1 (ih hr2 hP.2 K)
          · cases hr
        · cases hr
    · cases hr
/-- forks -/
def e3_cd (i : Instr) (pc : Nat) (st : List e3_V) : Option (Prop × Nat × Nat × List e3_V) := match i with
  | .ifCond .eq off => (match st, am_jp pc off with | (0, x) :: r, some t => some (x = 0, t, pc + 3, r) | _, _ => none)
  | .ifCond .ne off => (match st, am_jp pc off with | (0, x) :: r, some t => some (x = 0, pc + 3, t, r) | _, _ => none)
  | .ifCond .lt off => (match st, am_jp pc off with | (0, x) :: r, some t => some (x < 0, t, pc + 3, r) | _, _ => none)
  | .ifCond .ge off => (match st, am_jp pc off with | (0, x) :: r, some t => some (x < 0, pc + 3, t, r) | _, _ => none)
  | .ifCond .gt off => (match st, am_jp pc off with | (0, x) :: r, some t => some (0 < x, t, pc + 3, r) | _, _ => none)
  | .ifCond .le off => (match st, am_jp pc off with | (0, x) :: r, some t => some (0 < x, pc + 3, t, r) | _, _ => none)
  | .if_icmp .eq off => (match st, am_jp pc off with | (0, y) :: (0, x) :: r, some t => some (x = y, t, pc + 3, r) | _, _ => none)
  | .if_icmp .ne off => (match st, am_jp pc off with | (0, y) :: (0, x) :: r, some t => some (x = y, pc + 3, t, r) | _, _ => none)
  | .if_icmp .lt off => (match st, am_jp pc off with | (0, y) :: (0, x) :: r, some t => some (x < y, t, pc + 3, r) | _, _ => none)
  | .if_icmp .ge off => (match st, am_jp pc off with | (0, y) :: (0, x) :: r, some t => some (x < y, pc + 3, t, r) | _, _ => none)
  | .if_icmp .gt off => (match st, am_jp pc off with | (0, y) :: (0, x) :: r, some t => some (y < x, t, pc + 3, r) | _, _ => none)
  | .if_icmp .le off => (match st, am_jp pc off with | (0, y) :: (0, x) :: r, some t => some (y < x, pc + 3, t, r) | _, _ => none)
  | .ifnull off => (match st, am_jp pc off with | (2, x) :: r, some t => some (x < 0, t, pc + 3, r) | _, _ => none)
  | .ifnonnull off => (match st, am_jp pc off with | (2, x) :: r, some t => some (x < 0, pc + 3, t, r) | _, _ => none)
  | .if_acmp .eq off => (match st, am_jp pc off with | (2, y) :: (2, x) :: r, some t => some (x = y, t, pc + 3, r) | _, _ => none)
  | .if_acmp .ne off => (match st, am_jp pc off with | (2, y) :: (2, x) :: r, some t => some (x = y, pc + 3, t, r) | _, _ => none)
  | _ => none
theorem e3_brG {i : Instr} {len : Nat} (hi : am_in B.1 m pc = some (i, len)) (hM : am_mt B.1 m = some M) {t : Nat} {r : List e3_V} (hr : e3_S st → e3_S r) (hrt : ∀ (ret : Option FieldType) (s : List Value), am_rt ret i s = none) (hpu : e3_S st → ∀ lvA, am_pu M.2.2.1 i pc lvA (st.map e3_v) = some (t, lvA, r.map e3_v)) (K : e3_Ev B f w m t lv r H G Q) : e3_Ev B f w m pc lv st H G Q := by
  intro lvA h hL hS hR
  obtain ⟨r0, H2, G2, h2', a, b, c, d⟩ := K lvA h hL (hr hS) hR
  exact ⟨r0, H2, G2, h2', am_ev_pu hi hM (hrt _ _) (hpu hS lvA) a, b, c, d⟩
theorem e3_tl1 {v : e3_V} {r : List e3_V} (h : e3_S (v :: r)) : e3_S r := (e3_S_cons.mp h).2
theorem e3_tl2 {v u : e3_V} {r : List e3_V} (h : e3_S (v :: u :: r)) : e3_S r := (e3_S_cons.mp (e3_S_cons.mp h).2).2
theorem e3_nl {x : Int} (h : e3_ok (2, x)) : (x < 0 → e3_v (2, x) = .null) ∧ (¬ x < 0 → e3_v (2, x) = .ref x.toNat) := ⟨fun z => by show (if x < 0 then Value.null else Value.ref x.toNat) = _; rw [if_pos z], fun z => by show (if x < 0 then Value.null else Value.ref x.toNat) = _; rw [if_neg z]⟩
theorem e3_eq0 {x : Int} (h : e3_ok (0, x)) : Int32.ofInt x = 0 ↔ x = 0 := e3_eq32 h e3_z32
theorem e3_lt0 {x : Int} (h : e3_ok (0, x)) : Int32.ofInt x < 0 ↔ x < 0 := e3_lt32 h e3_z32
theorem e3_0lt {x : Int} (h : e3_ok (0, x)) : 0 < Int32.ofInt x ↔ 0 < x := e3_lt32 e3_z32 h
theorem e3_0le {x : Int} (h : e3_ok (0, x)) : 0 ≤ Int32.ofInt x ↔ 0 ≤ x := e3_le32 e3_z32 h
theorem e3_le0 {x : Int} (h : e3_ok (0, x)) : Int32.ofInt x ≤ 0 ↔ x ≤ 0 := e3_le32 h e3_z32
theorem e3_br {i : Instr} {len t1 t2 : Nat} {c c2 : Prop} {r : List e3_V} (hi : am_in B.1 m pc = some (i, len)) (hM : am_mt B.1 m = some M) (hc : e3_cd i pc st = some (c, t1, t2, r)) (hcc : c ↔ c2) (K1 : c2 → e3_Ev B f w m t1 lv r H G Q) (K2 : ¬ c2 → e3_Ev B f w m t2 lv r H G Q) : e3_Ev B f w m pc lv st H G Q := by
  have K1 : c → e3_Ev B f w m t1 lv r H G Q := fun z => K1 (hcc.mp z)
  have K2 : ¬ c → e3_Ev B f w m t2 lv r H G Q := fun z => K2 (fun y => z (hcc.mpr y))
  clear hcc
  unfold e3_cd at hc
  split at hc
  · split at hc
    · rename_i x r t hj
      cases hc
      by_cases hq : x = 0
      · refine e3_brG hi hM e3_tl1 (fun _ _ => rfl) (fun hS lvA => ?_) (K1 hq)
        have k1 := (e3_S_cons.mp hS).1
        simp only [am_pu, List.map_cons, e3_v, hj]
        rw [if_pos ((e3_eq0 k1).mpr (by omega))]
      · refine e3_brG hi hM e3_tl1 (fun _ _ => rfl) (fun hS lvA => ?_) (K2 hq)
        have k1 := (e3_S_cons.mp hS).1
        simp only [am_pu, List.map_cons, e3_v, hj]
        rw [if_neg (fun q => absurd ((e3_eq0 k1).mp q) (by omega))]
    · cases hc
  · split at hc
    · rename_i x r t hj
      cases hc
      by_cases hq : x = 0
      · refine e3_brG hi hM e3_tl1 (fun _ _ => rfl) (fun hS lvA => ?_) (K1 hq)
        have k1 := (e3_S_cons.mp hS).1
        simp only [am_pu, List.map_cons, e3_v, hj]
        rw [if_pos ((e3_eq0 k1).mpr (by omega))]
      · refine e3_brG hi hM e3_tl1 (fun _ _ => rfl) (fun hS lvA => ?_) (K2 hq)
        have k1 := (e3_S_cons.mp hS).1
        simp only [am_pu, List.map_cons, e3_v, hj]
        rw [if_neg (fun q => absurd ((e3_eq0 k1).mp q) (by omega))]
    · cases hc
  · split at hc
    · rename_i x r t hj
      cases hc
      by_cases hq : x < 0
      · refine e3_brG hi hM e3_tl1 (fun _ _ => rfl) (fun hS lvA => ?_) (K1 hq)
        have k1 := (e3_S_cons.mp hS).1
        simp only [am_pu, List.map_cons, e3_v, hj]
        rw [if_pos ((e3_lt0 k1).mpr (by omega))]
      · refine e3_brG hi hM e3_tl1 (fun _ _ => rfl) (fun hS lvA => ?_) (K2 hq)
        have k1 := (e3_S_cons.mp hS).1
        simp only [am_pu, List.map_cons, e3_v, hj]
        rw [if_neg (fun q => absurd ((e3_lt0 k1).mp q) (by omega))]
    · cases hc
  · split at hc
    · rename_i x r t hj
      cases hc
      by_cases hq : x < 0
      · refine e3_brG hi hM e3_tl1 (fun _ _ => rfl) (fun hS lvA => ?_) (K1 hq)
        have k1 := (e3_S_cons.mp hS).1
        simp only [am_pu, List.map_cons, e3_v, hj]
        rw [if_neg (fun q => absurd ((e3_0le k1).mp q) (by omega))]
      · refine e3_brG hi hM e3_tl1 (fun _ _ => rfl) (fun hS lvA => ?_) (K2 hq)
        have k1 := (e3_S_cons.mp hS).1
        simp only [am_pu, List.map_cons, e3_v, hj]
        rw [if_pos ((e3_0le k1).mpr (by omega))]
    · cases hc
  · split at hc
    · rename_i x r t hj
      cases hc
      by_cases hq : 0 < x
      · refine e3_brG hi hM e3_tl1 (fun _ _ => rfl) (fun hS lvA => ?_) (K1 hq)
        have k1 := (e3_S_cons.mp hS).1
        simp only [am_pu, List.map_cons, e3_v, hj]
        rw [if_pos ((e3_0lt k1).mpr (by omega))]
      · refine e3_brG hi hM e3_tl1 (fun _ _ => rfl) (fun hS lvA => ?_) (K2 hq)
        have k1 := (e3_S_cons.mp hS).1
        simp only [am_pu, List.map_cons, e3_v, hj]
        rw [if_neg (fun q => absurd ((e3_0lt k1).mp q) (by omega))]
    · cases hc
  · split at hc
    · rename_i x r t hj
      cases hc
      by_cases hq : 0 < x
      · refine e3_brG hi hM e3_tl1 (fun _ _ => rfl) (fun hS lvA => ?_) (K1 hq)
        have k1 := (e3_S_cons.mp hS).1
        simp only [am_pu, List.map_cons, e3_v, hj]
        rw [if_neg (fun q => absurd ((e3_le0 k1).mp q) (by omega))]
      · refine e3_brG hi hM e3_tl1 (fun _ _ => rfl) (fun hS lvA => ?_) (K2 hq)
        have k1 := (e3_S_cons.mp hS).1
        simp only [am_pu, List.map_cons, e3_v, hj]
        rw [if_pos ((e3_le0 k1).mpr (by omega))]
    · cases hc
  · split at hc
    · rename_i y x r t hj
      cases hc
      by_cases hq : x = y
      · refine e3_brG hi hM e3_tl2 (fun _ _ => rfl) (fun hS lvA => ?_) (K1 hq)
        have k1 := (e3_S_cons.mp hS).1
        have k3 := (e3_S_cons.mp (e3_S_cons.mp hS).2).1
        simp only [am_pu, List.map_cons, e3_v, hj]
        rw [if_pos ((e3_eq32 k3 k1).mpr (by omega))]
      · refine e3_brG hi hM e3_tl2 (fun _ _ => rfl) (fun hS lvA => ?_) (K2 hq)
        have k1 := (e3_S_cons.mp hS).1
        have k3 := (e3_S_cons.mp (e3_S_cons.mp hS).2).1
        simp only [am_pu, List.map_cons, e3_v, hj]
        rw [if_neg (fun q => absurd ((e3_eq32 k3 k1).mp q) (by omega))]
    · cases hc
  · split at hc
    · rename_i y x r t hj
      cases hc
      by_cases hq : x = y
      · refine e3_brG hi hM e3_tl2 (fun _ _ => rfl) (fun hS lvA => ?_) (K1 hq)
        have k1 := (e3_S_cons.mp hS).1
        have k3 := (e3_S_cons.mp (e3_S_cons.mp hS).2).1
        simp only [am_pu, List.map_cons, e3_v, hj]
        rw [if_pos ((e3_eq32 k3 k1).mpr (by omega))]
      · refine e3_brG hi hM e3_tl2 (fun _ _ => rfl) (fun hS lvA => ?_) (K2 hq)
        have k1 := (e3_S_cons.mp hS).1
        have k3 := (e3_S_cons.mp (e3_S_cons.mp hS).2).1
        simp only [am_pu, List.map_cons, e3_v, hj]
        rw [if_neg (fun q => absurd ((e3_eq32 k3 k1).mp q) (by omega))]
    · cases hc
  · split at hc
    · rename_i y x r t hj
      cases hc
      by_cases hq : x < y
      · refine e3_brG hi hM e3_tl2 (fun _ _ => rfl) (fun hS lvA => ?_) (K1 hq)
        have k1 := (e3_S_cons.mp hS).1
        have k3 := (e3_S_cons.mp (e3_S_cons.mp hS).2).1
        simp only [am_pu, List.map_cons, e3_v, hj]
        rw [if_pos ((e3_lt32 k3 k1).mpr (by omega))]
      · refine e3_brG hi hM e3_tl2 (fun _ _ => rfl) (fun hS lvA => ?_) (K2 hq)
        have k1 := (e3_S_cons.mp hS).1
        have k3 := (e3_S_cons.mp (e3_S_cons.mp hS).2).1
        simp only [am_pu, List.map_cons, e3_v, hj]
        rw [if_neg (fun q => absurd ((e3_lt32 k3 k1).mp q) (by omega))]
    · cases hc
  · split at hc
    · rename_i y x r t hj
      cases hc
      by_cases hq : x < y
      · refine e3_brG hi hM e3_tl2 (fun _ _ => rfl) (fun hS lvA => ?_) (K1 hq)
        have k1 := (e3_S_cons.mp hS).1
        have k3 := (e3_S_cons.mp (e3_S_cons.mp hS).2).1
        simp only [am_pu, List.map_cons, e3_v, hj]
        rw [if_neg (fun q => absurd ((e3_le32 k1 k3).mp q) (by omega))]
      · refine e3_brG hi hM e3_tl2 (fun _ _ => rfl) (fun hS lvA => ?_) (K2 hq)
        have k1 := (e3_S_cons.mp hS).1
        have k3 := (e3_S_cons.mp (e3_S_cons.mp hS).2).1
        simp only [am_pu, List.map_cons, e3_v, hj]
        rw [if_pos ((e3_le32 k1 k3).mpr (by omega))]
    · cases hc
  · split at hc
    · rename_i y x r t hj
      cases hc
      by_cases hq : y < x
      · refine e3_brG hi hM e3_tl2 (fun _ _ => rfl) (fun hS lvA => ?_) (K1 hq)
        have k1 := (e3_S_cons.mp hS).1
        have k3 := (e3_S_cons.mp (e3_S_cons.mp hS).2).1
        simp only [am_pu, List.map_cons, e3_v, hj]
        rw [if_pos ((e3_lt32 k1 k3).mpr (by omega))]
      · refine e3_brG hi hM e3_tl2 (fun _ _ => rfl) (fun hS lvA => ?_) (K2 hq)
        have k1 := (e3_S_cons.mp hS).1
        have k3 := (e3_S_cons.mp (e3_S_cons.mp hS).2).1
        simp only [am_pu, List.map_cons, e3_v, hj]
        rw [if_neg (fun q => absurd ((e3_lt32 k1 k3).mp q) (by omega))]
    · cases hc
  · split at hc
    · rename_i y x r t hj
      cases hc
      by_cases hq : y < x
      · refine e3_brG hi hM e3_tl2 (fun _ _ => rfl) (fun hS lvA => ?_) (K1 hq)
        have k1 := (e3_S_cons.mp hS).1
        have k3 := (e3_S_cons.mp (e3_S_cons.mp hS).2).1
        simp only [am_pu, List.map_cons, e3_v, hj]
        rw [if_neg (fun q => absurd ((e3_le32 k3 k1).mp q) (by omega))]
      · refine e3_brG hi hM e3_tl2 (fun _ _ => rfl) (fun hS lvA => ?_) (K2 hq)
        have k1 := (e3_S_cons.mp hS).1
        have k3 := (e3_S_cons.mp (e3_S_cons.mp hS).2).1
        simp only [am_pu, List.map_cons, e3_v, hj]
        rw [if_pos ((e3_le32 k3 k1).mpr (by omega))]
    · cases hc
  · split at hc
    · rename_i x r t hj
      cases hc
      by_cases hq : x < 0
      · refine e3_brG hi hM e3_tl1 (fun _ _ => rfl) (fun hS lvA => ?_) (K1 hq)
        have k1 := (e3_S_cons.mp hS).1
        rw [List.map_cons, (e3_nl k1).1 hq]
        simp only [am_pu, hj]
      · refine e3_brG hi hM e3_tl1 (fun _ _ => rfl) (fun hS lvA => ?_) (K2 hq)
        have k1 := (e3_S_cons.mp hS).1
        rw [List.map_cons, (e3_nl k1).2 hq]
        simp only [am_pu, hj]
    · cases hc
  · split at hc
    · rename_i x r t hj
      cases hc
      by_cases hq : x < 0
      · refine e3_brG hi hM e3_tl1 (fun _ _ => rfl) (fun hS lvA => ?_) (K1 hq)
        have k1 := (e3_S_cons.mp hS).1
        rw [List.map_cons, (e3_nl k1).1 hq]
        simp only [am_pu, hj]
      · refine e3_brG hi hM e3_tl1 (fun _ _ => rfl) (fun hS lvA => ?_) (K2 hq)
        have k1 := (e3_S_cons.mp hS).1
        rw [List.map_cons, (e3_nl k1).2 hq]
        simp only [am_pu, hj]
    · cases hc
  · split at hc
    · rename_i y x r t hj
      cases hc
      by_cases hq : x = y
      · refine e3_brG hi hM e3_tl2 (fun _ _ => rfl) (fun hS lvA => ?_) (K1 hq)
        have k1 := (e3_S_cons.mp hS).1
        have k3 := (e3_S_cons.mp (e3_S_cons.mp hS).2).1
        have k5 : (-1 : Int) ≤ y := k1
        have k6 : (-1 : Int) ≤ x := k3
        rw [List.map_cons, List.map_cons]
        by_cases hx : x < 0
        · by_cases hy : y < 0
          · rw [(e3_nl k1).1 hy, (e3_nl k3).1 hx]
            first | (exfalso; omega) | simp only [am_pu, hj]
          · rw [(e3_nl k1).2 hy, (e3_nl k3).1 hx]
            first | (exfalso; omega) | simp only [am_pu, hj]
        · by_cases hy : y < 0
          · rw [(e3_nl k1).1 hy, (e3_nl k3).2 hx]
            first | (exfalso; omega) | simp only [am_pu, hj]
          · rw [(e3_nl k1).2 hy, (e3_nl k3).2 hx]
            simp only [am_pu, hj]
            first | rw [if_pos (show x.toNat = y.toNat by omega)] | rw [if_neg (show ¬ x.toNat = y.toNat by omega)]
      · refine e3_brG hi hM e3_tl2 (fun _ _ => rfl) (fun hS lvA => ?_) (K2 hq)
        have k1 := (e3_S_cons.mp hS).1
        have k3 := (e3_S_cons.mp (e3_S_cons.mp hS).2).1
        have k5 : (-1 : Int) ≤ y := k1
        have k6 : (-1 : Int) ≤ x := k3
        rw [List.map_cons, List.map_cons]
        by_cases hx : x < 0
        · by_cases hy : y < 0
          · rw [(e3_nl k1).1 hy, (e3_nl k3).1 hx]
            first | (exfalso; omega) | simp only [am_pu, hj]
          · rw [(e3_nl k1).2 hy, (e3_nl k3).1 hx]
            first | (exfalso; omega) | simp only [am_pu, hj]
        · by_cases hy : y < 0
          · rw [(e3_nl k1).1 hy, (e3_nl k3).2 hx]
            first | (exfalso; omega) | simp only [am_pu, hj]
          · rw [(e3_nl k1).2 hy, (e3_nl k3).2 hx]
            simp only [am_pu, hj]
            first | rw [if_pos (show x.toNat = y.toNat by omega)] | rw [if_neg (show ¬ x.toNat = y.toNat by omega)]
    · cases hc
  · split at hc
    · rename_i y x r t hj
      cases hc
      by_cases hq : x = y
      · refine e3_brG hi hM e3_tl2 (fun _ _ => rfl) (fun hS lvA => ?_) (K1 hq)
        have k1 := (e3_S_cons.mp hS).1
        have k3 := (e3_S_cons.mp (e3_S_cons.mp hS).2).1
        have k5 : (-1 : Int) ≤ y := k1
        have k6 : (-1 : Int) ≤ x := k3
        rw [List.map_cons, List.map_cons]
        by_cases hx : x < 0
        · by_cases hy : y < 0
          · rw [(e3_nl k1).1 hy, (e3_nl k3).1 hx]
            first | (exfalso; omega) | simp only [am_pu, hj]
          · rw [(e3_nl k1).2 hy, (e3_nl k3).1 hx]
            first | (exfalso; omega) | simp only [am_pu, hj]
        · by_cases hy : y < 0
          · rw [(e3_nl k1).1 hy, (e3_nl k3).2 hx]
            first | (exfalso; omega) | simp only [am_pu, hj]
          · rw [(e3_nl k1).2 hy, (e3_nl k3).2 hx]
            simp only [am_pu, hj]
            first | rw [if_pos (show x.toNat = y.toNat by omega)] | rw [if_neg (show ¬ x.toNat = y.toNat by omega)]
      · refine e3_brG hi hM e3_tl2 (fun _ _ => rfl) (fun hS lvA => ?_) (K2 hq)
        have k1 := (e3_S_cons.mp hS).1
        have k3 := (e3_S_cons.mp (e3_S_cons.mp hS).2).1
        have k5 : (-1 : Int) ≤ y := k1
        have k6 : (-1 : Int) ≤ x := k3
        rw [List.map_cons, List.map_cons]
        by_cases hx : x < 0
        · by_cases hy : y < 0
          · rw [(e3_nl k1).1 hy, (e3_nl k3).1 hx]
            first | (exfalso; omega) | simp only [am_pu, hj]
          · rw [(e3_nl k1).2 hy, (e3_nl k3).1 hx]
            first | (exfalso; omega) | simp only [am_pu, hj]
        · by_cases hy : y < 0
          · rw [(e3_nl k1).1 hy, (e3_nl k3).2 hx]
            first | (exfalso; omega) | simp only [am_pu, hj]
          · rw [(e3_nl k1).2 hy, (e3_nl k3).2 hx]
            simp only [am_pu, hj]
            first | rw [if_pos (show x.toNat = y.toNat by omega)] | rw [if_neg (show ¬ x.toNat = y.toNat by omega)]
    · cases hc
  · cases hc
end E3E
