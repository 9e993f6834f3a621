def e3_ft (ty : FieldType) (c : Nat) (x : Int) : Option Prop := match ty with
  | .int => if Nat.beq c 0 then some True else none
  | .long => if Nat.beq c 1 then some True else none
  | .boolean => if Nat.beq c 0 then some (x = 0 ∨ x = 1) else none
  | .object _ => if Nat.beq c 2 then some True else none
  | .array _ => if Nat.beq c 2 then some True else none
  | _ => none
theorem e3_fit2 {ty : FieldType} {x : Int} (h1 : ∀ a, am_fit ty (.ref a) = true) (h2 : am_fit ty .null = true) : am_fit ty (e3_v (2, x)) = true := by
  show am_fit ty (if x < 0 then Value.null else Value.ref x.toNat) = true
  split
  · exact h2
  · exact h1 _
theorem e3_ft_ok {ty : FieldType} {c : Nat} {x : Int} {p : Prop} (h : e3_ft ty c x = some p) (hp : p) : am_fit ty (e3_v (c, x)) = true := by
  unfold e3_ft at h
  split at h
  · split at h
    · rename_i hc
      rw [Nat.eq_of_beq_eq_true hc]
      rfl
    · cases h
  · split at h
    · rename_i hc
      rw [Nat.eq_of_beq_eq_true hc]
      rfl
    · cases h
  · split at h
    · rename_i hc
      rw [Nat.eq_of_beq_eq_true hc]
      cases h
      rcases hp with rfl | rfl
      · rfl
      · rfl
    · cases h
  · split at h
    · rename_i hc
      rw [Nat.eq_of_beq_eq_true hc]
      exact e3_fit2 (fun _ => rfl) rfl
    · cases h
  · split at h
    · rename_i hc
      rw [Nat.eq_of_beq_eq_true hc]
      exact e3_fit2 (fun _ => rfl) rfl
    · cases h
  · cases h
abbrev e3_Y : Type := List e3_V × e3_H × e3_G × Prop
def e3_gf (B : e3_B) (m o idx : Nat) (st : List e3_V) (H : e3_H) (G : e3_G) : Option e3_Y := match st with
  | (2, a) :: r => (match am_fl B.1 m idx with
    | some (ci, kf, _, _) => (match (B.2.2.1 ci)[kf]? with
      | some c => (match o with
        | 0 => if e3_tg B.2.2.2.2 a (100 + ci) then some ((c, H a kf) :: r, H, G, True) else none
        | 1 => some ((c, H a kf) :: r, H, G, e3_ob G ci a)
        | _ => (match B.2.2.2.1 ci kf with
          | some (A, v) => if e3_eq a A then some ((c, v) :: r, H, G, True) else none
          | none => none))
      | none => none)
    | none => none)
  | _ => none
def e3_pf (B : e3_B) (m o idx : Nat) (st : List e3_V) (H : e3_H) (G : e3_G) : Option e3_Y := match st with
  | (c, x) :: (2, a) :: r => (match am_fl B.1 m idx with
    | some (ci, kf, ty, md) => (match (B.2.2.1 ci)[kf]?, e3_ft ty c x, B.2.2.2.1 ci kf with
      | some c2, some p, none => if Nat.beq c c2 && (Nat.beq md 0 || Nat.beq md 2) then (match o with
        | 0 => if e3_tg B.2.2.2.2 a (100 + ci) then some (r, e3_up H a kf x, G, p) else none
        | _ => some (r, e3_up H a kf x, G, e3_ob G ci a ∧ p)) else none
      | _, _, _ => none)
    | none => none)
  | _ => none
def e3_tgn (G0 : e3_G) (a : Int) : Option (Nat × Nat) := match a with
  | .ofNat n => G0[n]?
  | _ => none
def e3_ald (B : e3_B) (lo hi k o : Nat) (st : List e3_V) (H : e3_H) (G : e3_G) : Option e3_Y := match st with
  | (0, i) :: (2, a) :: r => (match o with
    | 0 => (match e3_tgn B.2.2.2.2 a with
      | some (c, n) => if Nat.ble lo c && Nat.ble c hi then some ((k, H a i) :: r, H, G, 0 ≤ i ∧ i < (n : Int)) else none
      | none => none)
    | t + 1 => if Nat.ble lo t && Nat.ble t hi then some ((k, H a i) :: r, H, G, e3_oa G t a i) else none)
  | _ => none
def e3_aal (B : e3_B) (o : Nat) (st : List e3_V) (H : e3_H) (G : e3_G) : Option e3_Y := match st with
  | (0, i) :: (2, a) :: r => (match o with
    | 0 => (match e3_tgn B.2.2.2.2 a with
      | some (c, n) => (match (am_ty B.1)[c]? with
        | some (.object _) => some ((2, H a i) :: r, H, G, 0 ≤ i ∧ i < (n : Int))
        | _ => none)
      | none => none)
    | t + 1 => (match (am_ty B.1)[t]? with
      | some (.object _) => some ((2, H a i) :: r, H, G, e3_oa G t a i)
      | _ => none))
  | _ => none
def e3_ast (B : e3_B) (k o : Nat) (st : List e3_V) (H : e3_H) (G : e3_G) : Option e3_Y := match st with
  | (c, x) :: (0, i) :: (2, a) :: r => if Nat.beq c k then (match o with
    | 0 => (match e3_tgn B.2.2.2.2 a with
      | some (t, n) => if Nat.beq t k && Nat.ble 2 a.toNat then some (r, e3_up H a i x, G, 0 ≤ i ∧ i < (n : Int)) else none
      | none => none)
    | _ => some (r, e3_up H a i x, G, e3_oa G k a i)) else none
  | _ => none
def e3_bas (B : e3_B) (st : List e3_V) (H : e3_H) (G : e3_G) : Option e3_Y := match st with
  | (0, x) :: (0, i) :: (2, a) :: r => (match e3_tgn B.2.2.2.2 a with
    | some (2, n) => some (r, e3_up H a i (e3_b x), G, 0 ≤ i ∧ i < (n : Int))
    | some (3, n) => some (r, e3_up H a i (e3_and x 1), G, 0 ≤ i ∧ i < (n : Int))
    | _ => none)
  | _ => none
def e3_cj (B : e3_B) (C : String) : Nat := (am_cl B.1).findIdx (fun q => q.1 == C)
def e3_aas (B : e3_B) (o : Nat) (st : List e3_V) (H : e3_H) (G : e3_G) : Option e3_Y := match st with
  | (2, x) :: (0, i) :: (2, a) :: r => (match o with
    | 0 => (match e3_tgn B.2.2.2.2 a with
      | some (t, n) => (match (am_ty B.1)[t]? with
        | some (.object C) => if Nat.blt (e3_cj B C) (am_cl B.1).length then some (r, e3_up H a i x, G, (0 ≤ i ∧ i < (n : Int)) ∧ (x < 0 ∨ e3_ob G (e3_cj B C) x)) else none
        | _ => none)
      | none => none)
    | t + 1 => (match (am_ty B.1)[t]? with
      | some (.object C) => if Nat.blt (e3_cj B C) (am_cl B.1).length then some (r, e3_up H a i x, G, e3_oa G t a i ∧ (x < 0 ∨ e3_ob G (e3_cj B C) x)) else none
      | _ => none))
  | _ => none
def e3_ln (G : e3_G) (a : Int) : Int := (((G[a.toNat]?).getD (0, 0)).2 : Int)
def e3_aln (B : e3_B) (o : Nat) (st : List e3_V) (H : e3_H) (G : e3_G) : Option e3_Y := match st with
  | (2, a) :: r => (match o with
    | 0 => (match e3_tgn B.2.2.2.2 a with
      | some (t, n) => (match (am_ty B.1)[t]? with
        | some _ => some ((0, (n : Int)) :: r, H, G, (n : Int) ≤ 2147483647)
        | none => none)
      | none => none)
    | t + 1 => (match (am_ty B.1)[t]? with
      | some _ => some ((0, e3_ln G a) :: r, H, G, 2 ≤ a ∧ e3_ln G a ≤ 2147483647 ∧ ∃ n, G[a.toNat]? = some (t, n))
      | none => none))
  | _ => none
def e3_new (B : e3_B) (m idx : Nat) (st : List e3_V) (H : e3_H) (G : e3_G) : Option e3_Y := match am_kl B.1 m idx with
  | some (ci, _) => (match (am_cl B.1)[ci]? with
    | some _ => some ((2, (G.length : Int)) :: st, e3_nw H (G.length : Int) (e3_dz (B.2.2.1 ci)), G ++ [(100 + ci, (B.2.2.1 ci).length)], True)
    | none => none)
  | none => none
def e3_na (y : ArrayType) (st : List e3_V) (H : e3_H) (G : e3_G) : Option e3_Y := match st with
  | (0, n) :: r => (match am_nad y with
    | some (t, _, _) => some ((2, (G.length : Int)) :: r, e3_nw H (G.length : Int) (fun _ => 0), G ++ [(t, n.toNat)], 0 ≤ n ∧ n ≤ 1000000)
    | none => none)
  | _ => none
def e3_nq (B : e3_B) (m idx : Nat) (st : List e3_V) (H : e3_H) (G : e3_G) : Option e3_Y := match st with
  | (0, n) :: r => (match am_kl B.1 m idx with
    | some (_, t) => (match (am_ty B.1)[t]? with
      | some (.object _) => some ((2, (G.length : Int)) :: r, e3_nw H (G.length : Int) (fun _ => -1), G ++ [(t, n.toNat)], 0 ≤ n ∧ n ≤ 1000000)
      | _ => none)
    | none => none)
  | _ => none
def e3_cs (B : e3_B) (m idx : Nat) (st : List e3_V) (H : e3_H) (G : e3_G) : Option e3_Y := match am_cs B.1 m idx with
  | some (.int x) => some ((0, x.toInt) :: st, H, G, True)
  | some (.long x) => some ((1, x.toInt) :: st, H, G, True)
  | some (.ref a) => some ((2, (a : Int)) :: st, H, G, True)
  | _ => none
def e3_m (B : e3_B) (m o : Nat) (i : Instr) (st : List e3_V) (H : e3_H) (G : e3_G) : Option e3_Y := match i with
  | .getfield idx => e3_gf B m o idx st H G
  | .putfield idx => e3_pf B m o idx st H G
  | .iaload => e3_ald B 0 0 0 o st H G
  | .laload => e3_ald B 1 1 1 o st H G
  | .baload => e3_ald B 2 3 0 o st H G
  | .aaload => e3_aal B o st H G
  | .iastore => e3_ast B 0 o st H G
  | .lastore => e3_ast B 1 o st H G
  | .bastore => e3_bas B st H G
  | .aastore => e3_aas B o st H G
  | .arraylength => e3_aln B o st H G
  | .new idx => e3_new B m idx st H G
  | .newarray y => e3_na y st H G
  | .anewarray idx => e3_nq B m idx st H G
  | .ldc idx => (match am_cs B.1 m idx with | some (.int _) => e3_cs B m idx st H G | _ => none)
  | .ldc2_w idx => (match am_cs B.1 m idx with | some (.long _) => e3_cs B m idx st H G | _ => none)
  | .ldc_w idx => (match am_cs B.1 m idx with | some (.int _) => e3_cs B m idx st H G | _ => none)
  | .getstatic idx => (match am_cs B.1 m idx with | some (.ref _) => e3_cs B m idx st H G | _ => none)
  | _ => none
theorem e3_tgn_ok {G0 : e3_G} {a : Int} {g : Nat × Nat} (h : e3_tgn G0 a = some g) : 0 ≤ a ∧ G0[a.toNat]? = some g := by
  unfold e3_tgn at h
  split at h
  · rename_i n
    exact ⟨Int.natCast_nonneg n, h⟩
  · cases h
def e3_M (B : e3_B) (m : Nat) (i : Instr) (st : List e3_V) (h : List am_E) (st2 : List e3_V) (H2 : e3_H) (G2 : e3_G) : Prop := ∃ h2, am_hp B.1 B.2.1 m i (st.map e3_v) h = some (st2.map e3_v, h2) ∧ e3_R B H2 G2 h2 ∧ e3_S st2
section E3S
variable {B : e3_B} {H H2 : e3_H} {G G2 : e3_G} {h : List am_E} {st st2 : List e3_V} {m o : Nat} {p : Prop}
theorem e3_ref {a : Int} (ha : 0 ≤ a) : e3_v (2, a) = .ref a.toNat := by
  show (if a < 0 then Value.null else Value.ref a.toNat) = _
  rw [if_neg (by omega)]
theorem e3_gf_ok {idx : Nat} (hh : e3_gf B m o idx st H G = some (st2, H2, G2, p)) (hp : p) (hR : e3_R B H G h) (hS : e3_S st) : e3_M B m (.getfield idx) st h st2 H2 G2 := by
  unfold e3_gf at hh
  split at hh
  · rename_i a r
    split at hh
    · rename_i ci kf ty md hfl
      split at hh
      · rename_i c hc
        have core : e3_ob G ci a → e3_M B m (.getfield idx) ((2, a) :: r) h ((c, H a kf) :: r) H G := by
          intro ho
          have h2 := e3_ob_2 hR ho
          obtain ⟨h0, n, hg⟩ := id ho
          have hdy := e3_R_dy hR h2 hg
          rw [e3_c_obj] at hdy
          refine ⟨h, ?_, hR, e3_S_cons.mpr ⟨e3_R_fld hR ho hc, (e3_S_cons.mp hS).2⟩⟩
          show am_gf B.1 B.2.1 m idx (e3_v (2, a) :: r.map e3_v) h = _
          rw [e3_ref h0]
          unfold am_gf
          simp only [hfl, hdy, if_true, List.getElem?_mapIdx, hc, Option.map_some, List.map_cons]
        split at hh
        · split at hh
          · rename_i ht
            cases hh
            obtain ⟨t1, n, t2⟩ := e3_tg_ok ht
            exact core ⟨t1, n, hR.2.2.2.2.1 _ _ t2⟩
          · cases hh
        · cases hh
          exact core hp
        · split at hh
          · rename_i A v hct
            split at hh
            · rename_i he
              cases hh
              have := e3_eq_ok he
              subst this
              obtain ⟨s1, s2, s3⟩ := hR.2.2.2.2.2.1 ci kf a _ hct
              have := core ⟨s1, s3⟩
              rw [s2] at this
              exact this
            · cases hh
          · cases hh
      · cases hh
    · cases hh
  · cases hh
theorem e3_pf_ok {idx : Nat} (hh : e3_pf B m o idx st H G = some (st2, H2, G2, p)) (hp : p) (hR : e3_R B H G h) (hS : e3_S st) : e3_M B m (.putfield idx) st h st2 H2 G2 := by
  unfold e3_pf at hh
  split at hh
  · rename_i c x a r
    split at hh
    · rename_i ci kf ty md hfl
      split at hh
      · rename_i c2 p2 hc hft hct
        split at hh
        · rename_i hcc
          simp only [Bool.and_eq_true, Bool.or_eq_true] at hcc
          have hcc1 := Nat.eq_of_beq_eq_true hcc.1
          subst hcc1
          have hmd : md = 0 ∨ md = 2 := hcc.2.imp Nat.eq_of_beq_eq_true Nat.eq_of_beq_eq_true
          obtain ⟨k1, k2⟩ := e3_S_cons.mp hS
          have core : e3_ob G ci a → p2 → e3_M B m (.putfield idx) ((c, x) :: (2, a) :: r) h r (e3_up H a kf x) G := by
            intro ho hp2
            have h2 := e3_ob_2 hR ho
            obtain ⟨h0, n, hg⟩ := id ho
            have hdy := e3_R_dy hR h2 hg
            rw [e3_c_obj] at hdy
            have hkl : kf < (B.2.2.1 ci).length := (List.getElem?_eq_some_iff.mp hc).1
            have hn := hR.2.2.2.2.2.2.2 a.toNat _ hg (by simp)
            simp only at hn
            have e0 : 100 + ci - 100 = ci := by omega
            rw [e0] at hn
            refine ⟨am_up B.2.1 h a.toNat (.inr (ci, ((B.2.2.1 ci).mapIdx (fun k c => e3_v (c, H a (k : Int)))).set kf (e3_v (c, x)))), ?_, ?_, (e3_S_cons.mp k2).2⟩
            · show am_pf B.1 B.2.1 m idx (e3_v (c, x) :: e3_v (2, a) :: r.map e3_v) h = _
              rw [e3_ref h0]
              unfold am_pf
              simp only [hfl, hdy]
              rw [if_pos ⟨trivial, by rw [List.length_mapIdx]; exact hkl, e3_ft_ok hft hp2, hmd⟩]
            · refine e3_R_set hR h2 (by omega) hg (by show (kf : Int) < n; omega) (by rw [Int.toNat_natCast, e3_sc_obj hc]; exact k1) ?_ ?_
              · rw [e3_c_obj]
                congr 2
                apply List.ext_getElem?
                intro j
                rw [List.getElem?_mapIdx]
                by_cases hj : kf = j
                · subst hj
                  rw [List.getElem?_set_self (by rw [List.length_mapIdx]; exact hkl), hc, Option.map_some, e3_up_self]
                · rw [List.getElem?_set_ne hj, List.getElem?_mapIdx]
                  congr 1
                  funext c3
                  rw [e3_up_ne (by omega)]
              · rintro ci2 kf2 A v hct2 ⟨rfl, hk⟩
                have hk2 : kf2 = kf := by omega
                subst hk2
                obtain ⟨s1, s2, n2, s3⟩ := hR.2.2.2.2.2.1 ci2 kf2 A v hct2
                rw [hg] at s3
                have s4 := (Prod.mk.inj (Option.some.inj s3)).1
                have : ci2 = ci := by omega
                subst this
                rw [hct] at hct2
                cases hct2
          split at hh
          · split at hh
            · rename_i ht
              cases hh
              obtain ⟨t1, n, t2⟩ := e3_tg_ok ht
              exact core ⟨t1, n, hR.2.2.2.2.1 _ _ t2⟩ hp
            · cases hh
          · cases hh
            exact core hp.1 hp.2
        · cases hh
      · cases hh
    · cases hh
  · cases hh
theorem e3_noct (hR : e3_R B H G h) {a j : Int} {g : Nat × Nat} (ha : 0 ≤ a) (hg : G[a.toNat]? = some g) (h100 : g.1 < 100) : ∀ ci kf A v, B.2.2.2.1 ci kf = some (A, v) → ¬ (A = a ∧ (kf : Int) = j) := by
  rintro ci kf A v hct ⟨rfl, hk⟩
  obtain ⟨s1, s2, n2, s3⟩ := hR.2.2.2.2.2.1 ci kf A v hct
  rw [hg] at s3
  have s4 := Option.some.inj s3
  rw [s4] at h100
  simp only at h100
  omega
theorem e3_ge2 (hR : e3_R B H G h) {a : Int} {g : Nat × Nat} (ha : 0 ≤ a) (hg : G[a.toNat]? = some g) (h2 : 2 ≤ g.1) : 2 ≤ a := by
  rcases Int.lt_or_le a 2 with h3 | h3
  · have := hR.2.2.2.2.2.2.1 a.toNat _ (by omega) hg
    omega
  · exact h3
theorem e3_ald_ok {lo hi k : Nat} (hh : e3_ald B lo hi k o st H G = some (st2, H2, G2, p)) (hp : p) (hS : e3_S st) (hR : e3_R B H G h) : ∃ (i a : Int) (r : List e3_V) (c n : Nat), st = (0, i) :: (2, a) :: r ∧ st2 = (k, H a i) :: r ∧ H2 = H ∧ G2 = G ∧ 0 ≤ a ∧ G[a.toNat]? = some (c, n) ∧ 0 ≤ i ∧ i < n ∧ lo ≤ c ∧ c ≤ hi := by
  unfold e3_ald at hh
  split at hh
  · rename_i i a r
    split at hh
    · split at hh
      · rename_i c n ht
        split at hh
        · rename_i hc
          simp only [Bool.and_eq_true] at hc
          cases hh
          obtain ⟨t1, t2⟩ := e3_tgn_ok ht
          exact ⟨i, a, r, c, n, rfl, rfl, rfl, rfl, t1, hR.2.2.2.2.1 _ _ t2, hp.1, hp.2, Nat.le_of_ble_eq_true hc.1, Nat.le_of_ble_eq_true hc.2⟩
        · cases hh
      · cases hh
    · rename_i t
      split at hh
      · rename_i hc
        simp only [Bool.and_eq_true] at hc
        cases hh
        obtain ⟨p1, p2, n, p3, p4⟩ := hp
        exact ⟨i, a, r, t, n, rfl, rfl, rfl, rfl, by omega, p3, p2, p4, Nat.le_of_ble_eq_true hc.1, Nat.le_of_ble_eq_true hc.2⟩
      · cases hh
  · cases hh
theorem e3_ial_ok (hh : e3_ald B 0 0 0 o st H G = some (st2, H2, G2, p)) (hp : p) (hR : e3_R B H G h) (hS : e3_S st) : e3_M B m .iaload st h st2 H2 G2 := by
  obtain ⟨i, a, r, c, n, rfl, rfl, rfl, rfl, ha, hg, h0, h1, hl, hu⟩ := e3_ald_ok hh hp hS hR
  have hc : c = 0 := by omega
  subst hc
  obtain ⟨k1, k2⟩ := e3_S_cons.mp hS
  have hat := e3_R_at hR ha hg
  rw [e3_c_int (by omega) (by omega)] at hat
  have hel := e3_R_el hR ha hg h0 h1
  refine ⟨h, ?_, hR, e3_S_cons.mpr ⟨hel, (e3_S_cons.mp k2).2⟩⟩
  show am_ial B.2.1 (.int (Int32.ofInt i) :: e3_v (2, a) :: r.map e3_v) h = _
  rw [e3_ref ha]
  unfold am_ial
  simp only [hat]
  rw [if_pos ⟨trivial, e3_iin k1 h0 h1⟩, e3_clamp k1, Int.toNat_of_nonneg h0]
  rfl
theorem e3_lal_ok (hh : e3_ald B 1 1 1 o st H G = some (st2, H2, G2, p)) (hp : p) (hR : e3_R B H G h) (hS : e3_S st) : e3_M B m .laload st h st2 H2 G2 := by
  obtain ⟨i, a, r, c, n, rfl, rfl, rfl, rfl, ha, hg, h0, h1, hl, hu⟩ := e3_ald_ok hh hp hS hR
  have hc : c = 1 := by omega
  subst hc
  obtain ⟨k1, k2⟩ := e3_S_cons.mp hS
  have hat := e3_R_at hR ha hg
  rw [e3_c_long] at hat
  have hel := e3_R_el hR ha hg h0 h1
  refine ⟨h, ?_, hR, e3_S_cons.mpr ⟨hel, (e3_S_cons.mp k2).2⟩⟩
  show am_lal B.2.1 (.int (Int32.ofInt i) :: e3_v (2, a) :: r.map e3_v) h = _
  rw [e3_ref ha]
  unfold am_lal
  simp only [hat]
  rw [if_pos ⟨trivial, e3_iin k1 h0 h1⟩, e3_clamp k1, Int.toNat_of_nonneg h0]
  rfl
theorem e3_bal_ok (hh : e3_ald B 2 3 0 o st H G = some (st2, H2, G2, p)) (hp : p) (hR : e3_R B H G h) (hS : e3_S st) : e3_M B m .baload st h st2 H2 G2 := by
  obtain ⟨i, a, r, c, n, rfl, rfl, rfl, rfl, ha, hg, h0, h1, hl, hu⟩ := e3_ald_ok hh hp hS hR
  obtain ⟨k1, k2⟩ := e3_S_cons.mp hS
  have hat := e3_R_dy hR (e3_ge2 hR ha hg hl) hg
  rw [e3_c_int (by omega) (by omega)] at hat
  have hel := e3_R_el hR ha hg h0 h1
  rw [e3_sc_int (by omega) (by omega)] at hel
  refine ⟨h, ?_, hR, e3_S_cons.mpr ⟨hel, (e3_S_cons.mp k2).2⟩⟩
  show am_bal B.2.1 (.int (Int32.ofInt i) :: e3_v (2, a) :: r.map e3_v) h = _
  rw [e3_ref ha]
  unfold am_bal
  simp only [hat]
  rw [if_pos ⟨by omega, e3_iin k1 h0 h1⟩, e3_clamp k1, Int.toNat_of_nonneg h0]
  rfl
theorem e3_rf_v (x : Int) : va_rf (e3_rf x) = e3_v (2, x) := by
  show va_rf (if x < 0 then none else some x.toNat) = (if x < 0 then Value.null else Value.ref x.toNat)
  split <;> rfl
theorem e3_aal_ok (hZ : e3_Z B) (hh : e3_aal B o st H G = some (st2, H2, G2, p)) (hp : p) (hR : e3_R B H G h) (hS : e3_S st) : e3_M B m .aaload st h st2 H2 G2 := by
  unfold e3_aal at hh
  split at hh
  · rename_i i a r
    obtain ⟨k1, k2⟩ := e3_S_cons.mp hS
    have core : ∀ (c n : Nat) (C : String), (am_ty B.1)[c]? = some (.object C) → 0 ≤ a → G[a.toNat]? = some (c, n) → 0 ≤ i → i < n → e3_M B m .aaload ((0, i) :: (2, a) :: r) h ((2, H a i) :: r) H G := by
      intro c n C hty ha hg h0 h1
      have h4 := hZ.2.2.2 _ _ hty
      have h100 := hZ.2.2.1 _ _ hty
      have hat := e3_R_dy hR (e3_ge2 hR ha hg (by show 2 ≤ c; omega)) hg
      rw [e3_c_ref h4 h100] at hat
      have hel := e3_R_el hR ha hg h0 h1
      rw [e3_sc_ref h4 h100] at hel
      refine ⟨h, ?_, hR, e3_S_cons.mpr ⟨hel, (e3_S_cons.mp k2).2⟩⟩
      show am_aal B.1 B.2.1 (.int (Int32.ofInt i) :: e3_v (2, a) :: r.map e3_v) h = _
      rw [e3_ref ha]
      unfold am_aal
      simp only [hat, hty]
      rw [if_pos (e3_iin k1 h0 h1), e3_clamp k1, Int.toNat_of_nonneg h0, e3_rf_v]
      rfl
    split at hh
    · split at hh
      · rename_i c n ht
        split at hh
        · rename_i C hty
          cases hh
          obtain ⟨t1, t2⟩ := e3_tgn_ok ht
          exact core c n C hty t1 (hR.2.2.2.2.1 _ _ t2) hp.1 hp.2
        · cases hh
      · cases hh
    · rename_i t
      split at hh
      · rename_i C hty
        cases hh
        obtain ⟨p1, p2, n, p3, p4⟩ := hp
        exact core t n C hty (by omega) p3 p2 p4
      · cases hh
  · cases hh
theorem e3_ias_ok (hh : e3_ast B 0 o st H G = some (st2, H2, G2, p)) (hp : p) (hR : e3_R B H G h) (hS : e3_S st) : e3_M B m .iastore st h st2 H2 G2 := by
  unfold e3_ast at hh
  split at hh
  · rename_i c x i a r
    split at hh
    · rename_i hck
      have := Nat.eq_of_beq_eq_true hck
      subst this
      obtain ⟨k1, k2⟩ := e3_S_cons.mp hS
      obtain ⟨k3, k4⟩ := e3_S_cons.mp k2
      have core : ∀ n : Nat, 2 ≤ a → G[a.toNat]? = some (0, n) → 0 ≤ i → i < n → e3_M B m .iastore ((0, x) :: (0, i) :: (2, a) :: r) h r (e3_up H a i x) G := by
        intro n ha hg h0 h1
        have hat := e3_R_dy hR ha hg
        rw [e3_c_int (by omega) (by omega)] at hat
        refine ⟨am_up B.2.1 h a.toNat (.inl (0, n, .inl (upd (fun j => Int32.ofInt (H a (j : Int))) i.toNat (Int32.ofInt x)))), ?_, ?_, (e3_S_cons.mp k4).2⟩
        · show am_ias B.2.1 (.int (Int32.ofInt x) :: .int (Int32.ofInt i) :: e3_v (2, a) :: r.map e3_v) h = _
          rw [e3_ref (by omega)]
          unfold am_ias
          simp only [hat]
          rw [if_pos ⟨trivial, e3_iin k3 h0 h1⟩, e3_clamp k3]
        · refine e3_R_set hR ha h0 hg h1 (by rw [e3_sc_int (by omega) (by omega)]; exact k1) ?_ (e3_noct hR (by omega) hg (by show 0 < 100; omega))
          rw [e3_c_int (by omega) (by omega)]
          congr 4
          funext j
          unfold upd
          by_cases hj : j = i.toNat
          · rw [if_pos hj, hj, Int.toNat_of_nonneg h0, e3_up_self]
          · rw [if_neg hj, e3_up_ne (by omega)]
      split at hh
      · split at hh
        · rename_i t n ht
          split at hh
          · rename_i hc
            simp only [Bool.and_eq_true] at hc
            have := Nat.eq_of_beq_eq_true hc.1
            subst this
            cases hh
            obtain ⟨t1, t2⟩ := e3_tgn_ok ht
            have := Nat.le_of_ble_eq_true hc.2
            exact core n (by omega) (hR.2.2.2.2.1 _ _ t2) hp.1 hp.2
          · cases hh
        · cases hh
      · cases hh
        obtain ⟨p1, p2, n, p3, p4⟩ := hp
        exact core n p1 p3 p2 p4
    · cases hh
  · cases hh
theorem e3_las_ok (hh : e3_ast B 1 o st H G = some (st2, H2, G2, p)) (hp : p) (hR : e3_R B H G h) (hS : e3_S st) : e3_M B m .lastore st h st2 H2 G2 := by
  unfold e3_ast at hh
  split at hh
  · rename_i c x i a r
    split at hh
    · rename_i hck
      have := Nat.eq_of_beq_eq_true hck
      subst this
      obtain ⟨k1, k2⟩ := e3_S_cons.mp hS
      obtain ⟨k3, k4⟩ := e3_S_cons.mp k2
      have core : ∀ n : Nat, 2 ≤ a → G[a.toNat]? = some (1, n) → 0 ≤ i → i < n → e3_M B m .lastore ((1, x) :: (0, i) :: (2, a) :: r) h r (e3_up H a i x) G := by
        intro n ha hg h0 h1
        have hat := e3_R_dy hR ha hg
        rw [e3_c_long] at hat
        refine ⟨am_up B.2.1 h a.toNat (.inl (1, n, .inr (.inl (vp_updL (fun j => Int64.ofInt (H a (j : Int))) i.toNat (Int64.ofInt x))))), ?_, ?_, (e3_S_cons.mp k4).2⟩
        · show am_las B.2.1 (.long (Int64.ofInt x) :: .int (Int32.ofInt i) :: e3_v (2, a) :: r.map e3_v) h = _
          rw [e3_ref (by omega)]
          unfold am_las
          simp only [hat]
          rw [if_pos ⟨trivial, e3_iin k3 h0 h1⟩, e3_clamp k3]
        · refine e3_R_set hR ha h0 hg h1 (by rw [e3_sc_long]; exact k1) ?_ (e3_noct hR (by omega) hg (by show 1 < 100; omega))
          rw [e3_c_long]
          congr 5
          funext j
          unfold vp_updL
          by_cases hj : j = i.toNat
          · rw [if_pos hj, hj, Int.toNat_of_nonneg h0, e3_up_self]
          · rw [if_neg hj, e3_up_ne (by omega)]
      split at hh
      · split at hh
        · rename_i t n ht
          split at hh
          · rename_i hc
            simp only [Bool.and_eq_true] at hc
            have := Nat.eq_of_beq_eq_true hc.1
            subst this
            cases hh
            obtain ⟨t1, t2⟩ := e3_tgn_ok ht
            have := Nat.le_of_ble_eq_true hc.2
            exact core n (by omega) (hR.2.2.2.2.1 _ _ t2) hp.1 hp.2
          · cases hh
        · cases hh
      · cases hh
        obtain ⟨p1, p2, n, p3, p4⟩ := hp
        exact core n p1 p3 p2 p4
    · cases hh
  · cases hh
theorem e3_bas_ok (hh : e3_bas B st H G = some (st2, H2, G2, p)) (hp : p) (hR : e3_R B H G h) (hS : e3_S st) : e3_M B m .bastore st h st2 H2 G2 := by
  unfold e3_bas at hh
  split at hh
  · rename_i x i a r
    obtain ⟨k1, k2⟩ := e3_S_cons.mp hS
    obtain ⟨k3, k4⟩ := e3_S_cons.mp k2
    have core : ∀ (t n : Nat) (x2 : Int), (t = 2 ∧ Int32.ofInt x2 = (Int32.ofInt x).toInt8.toInt32 ∨ t = 3 ∧ Int32.ofInt x2 = Int32.ofInt x &&& 1) → e3_i32 x2 → 0 ≤ a → G[a.toNat]? = some (t, n) → 0 ≤ i → i < n → e3_M B m .bastore ((0, x) :: (0, i) :: (2, a) :: r) h r (e3_up H a i x2) G := by
      intro t n x2 ht hx2 ha hg h0 h1
      have ha2 := e3_ge2 hR ha hg (by show 2 ≤ t; omega)
      have hat := e3_R_dy hR ha2 hg
      rw [e3_c_int (by omega) (by omega)] at hat
      refine ⟨am_up B.2.1 h a.toNat (.inl (t, n, .inl (upd (fun j => Int32.ofInt (H a (j : Int))) i.toNat (Int32.ofInt x2)))), ?_, ?_, (e3_S_cons.mp k4).2⟩
      · show am_bas B.2.1 (.int (Int32.ofInt x) :: .int (Int32.ofInt i) :: e3_v (2, a) :: r.map e3_v) h = _
        rw [e3_ref ha]
        unfold am_bas
        simp only [hat]
        rw [if_pos (e3_iin k3 h0 h1), e3_clamp k3]
        rcases ht with ⟨rfl, e⟩ | ⟨rfl, e⟩
        · rw [if_pos rfl, e]
        · rw [if_neg (by omega), if_pos rfl, e]
      · refine e3_R_set hR ha2 h0 hg h1 (by rw [e3_sc_int (by omega) (by omega)]; exact hx2) ?_ (e3_noct hR ha hg (by show t < 100; omega))
        rw [e3_c_int (by omega) (by omega)]
        congr 4
        funext j
        unfold upd
        by_cases hj : j = i.toNat
        · rw [if_pos hj, hj, Int.toNat_of_nonneg h0, e3_up_self]
        · rw [if_neg hj, e3_up_ne (by omega)]
    split at hh
    · rename_i n ht
      cases hh
      obtain ⟨t1, t2⟩ := e3_tgn_ok ht
      exact core 2 n _ (Or.inl ⟨rfl, (e3_g1 _ x).1⟩) (e3_g1 _ x).2 t1 (hR.2.2.2.2.1 _ _ t2) hp.1 hp.2
    · rename_i n ht
      cases hh
      obtain ⟨t1, t2⟩ := e3_tgn_ok ht
      exact core 3 n _ (Or.inr ⟨rfl, (e3_g2 _ x 1).1⟩) (e3_g2 _ x 1).2 t1 (hR.2.2.2.2.1 _ _ t2) hp.1 hp.2
    · cases hh
  · cases hh
theorem e3_aas_ok (hZ : e3_Z B) (hh : e3_aas B o st H G = some (st2, H2, G2, p)) (hp : p) (hR : e3_R B H G h) (hS : e3_S st) : e3_M B m .aastore st h st2 H2 G2 := by
  unfold e3_aas at hh
  split at hh
  · rename_i x i a r
    obtain ⟨k1, k2⟩ := e3_S_cons.mp hS
    obtain ⟨k3, k4⟩ := e3_S_cons.mp k2
    have core : ∀ (t n : Nat) (C : String), (am_ty B.1)[t]? = some (.object C) → 0 ≤ a → G[a.toNat]? = some (t, n) → 0 ≤ i → i < n → (x < 0 ∨ (e3_ob G (e3_cj B C) x ∧ e3_cj B C < (am_cl B.1).length)) → e3_M B m .aastore ((2, x) :: (0, i) :: (2, a) :: r) h r (e3_up H a i x) G := by
      intro t n C hty ha hg h0 h1 hx
      have h4 := hZ.2.2.2 _ _ hty
      have h100 := hZ.2.2.1 _ _ hty
      have ha2 := e3_ge2 hR ha hg (by show 2 ≤ t; omega)
      have hat := e3_R_dy hR ha2 hg
      rw [e3_c_ref h4 h100] at hat
      refine ⟨am_up B.2.1 h a.toNat (.inl (t, n, .inr (.inr (.inr (.inr (va_up (fun j => e3_rf (H a (j : Int))) i.toNat (e3_rf x))))))), ?_, ?_, (e3_S_cons.mp k4).2⟩
      · show am_aas B.1 B.2.1 (e3_v (2, x) :: .int (Int32.ofInt i) :: e3_v (2, a) :: r.map e3_v) h = _
        rw [e3_ref ha]
        rcases hx with hx | ⟨ho, hlt⟩
        · have e1 : e3_v (2, x) = .null := by show (if x < 0 then Value.null else Value.ref x.toNat) = _; rw [if_pos hx]
          have e2 : e3_rf x = none := by unfold e3_rf; rw [if_pos hx]
          rw [e1, e2]
          unfold am_aas
          simp only [hat, hty]
          rw [if_pos (e3_iin k3 h0 h1), e3_clamp k3]
        · have hx2 := e3_ob_2 hR ho
          obtain ⟨hx0, n2, hg2⟩ := id ho
          have e2 : e3_rf x = some x.toNat := by unfold e3_rf; rw [if_neg (by omega)]
          have hdx := e3_R_dy hR hx2 hg2
          rw [e3_c_obj] at hdx
          have hcl : (am_cl B.1)[e3_cj B C]? = some ((am_cl B.1)[e3_cj B C]'hlt) := List.getElem?_eq_getElem hlt
          have hC : C = ((am_cl B.1)[e3_cj B C]'hlt).1 := by
            have h9 : List.findIdx (fun q : vw_C => q.1 == C) (am_cl B.1) < (am_cl B.1).length := hlt
            have := List.findIdx_getElem (w := h9)
            simp only [beq_iff_eq] at this
            exact this.symm
          rw [e3_ref hx0, e2]
          unfold am_aas
          simp only [hat, hdx, hty, hcl]
          rw [if_pos ⟨hC, e3_iin k3 h0 h1⟩, e3_clamp k3]
      · refine e3_R_set hR ha2 h0 hg h1 (by rw [e3_sc_ref h4 h100]; exact k1) ?_ (e3_noct hR ha hg (by show t < 100; omega))
        rw [e3_c_ref h4 h100]
        congr 7
        funext j
        unfold va_up
        by_cases hj : j = i.toNat
        · rw [if_pos hj, hj, Int.toNat_of_nonneg h0, e3_up_self]
        · rw [if_neg hj, e3_up_ne (by omega)]
    split at hh
    · split at hh
      · rename_i t n ht
        split at hh
        · rename_i C hty
          split at hh
          · rename_i hb
            cases hh
            obtain ⟨t1, t2⟩ := e3_tgn_ok ht
            exact core t n C hty t1 (hR.2.2.2.2.1 _ _ t2) hp.1.1 hp.1.2 (hp.2.imp id (fun z => ⟨z, by simpa [Nat.blt_eq] using hb⟩))
          · cases hh
        · cases hh
      · cases hh
    · rename_i t
      split at hh
      · rename_i C hty
        split at hh
        · rename_i hb
          cases hh
          obtain ⟨⟨p1, p2, n, p3, p4⟩, p5⟩ := hp
          exact core t n C hty (by omega) p3 p2 p4 (p5.imp id (fun z => ⟨z, by simpa [Nat.blt_eq] using hb⟩))
        · cases hh
      · cases hh
  · cases hh
theorem e3_natc {n : Nat} (h : (n : Int) ≤ 2147483647) : e3_v (0, (n : Int)) = .int (Int32.ofNat n) := by
  show Value.int (Int32.ofInt (n : Int)) = _
  rw [Int32.ofInt_eq_ofNat]
theorem e3_aln_ok (hZ : e3_Z B) (hh : e3_aln B o st H G = some (st2, H2, G2, p)) (hp : p) (hR : e3_R B H G h) (hS : e3_S st) : e3_M B m .arraylength st h st2 H2 G2 := by
  unfold e3_aln at hh
  split at hh
  · rename_i a r
    obtain ⟨k1, k2⟩ := e3_S_cons.mp hS
    have core : ∀ (t n : Nat) (y : FieldType), (am_ty B.1)[t]? = some y → 0 ≤ a → G[a.toNat]? = some (t, n) → (n : Int) ≤ 2147483647 → e3_M B m .arraylength ((2, a) :: r) h ((0, (n : Int)) :: r) H G := by
      intro t n y hty ha hg hn
      have h100 := hZ.2.2.1 _ _ hty
      have hat := e3_R_at hR ha hg
      refine ⟨h, ?_, hR, e3_S_cons.mpr ⟨⟨by omega, hn⟩, k2⟩⟩
      show am_aln B.1 B.2.1 (e3_v (2, a) :: r.map e3_v) h = some (e3_v (0, (n : Int)) :: r.map e3_v, h)
      rw [e3_ref ha, e3_natc hn]
      have : ∃ x, e3_c B.2.2.1 (t, n) (H a) = .inl (t, n, x) := by
        unfold e3_c
        simp only
        split
        · rename_i h1
          subst h1
          exact ⟨_, rfl⟩
        · split
          · exact ⟨_, rfl⟩
          · exact ⟨_, rfl⟩
      obtain ⟨x, hx⟩ := this
      rw [hx] at hat
      unfold am_aln
      simp only [hat, hty]
    split at hh
    · split at hh
      · rename_i t n ht
        split at hh
        · rename_i y hty
          cases hh
          obtain ⟨t1, t2⟩ := e3_tgn_ok ht
          exact core t n y hty t1 (hR.2.2.2.2.1 _ _ t2) hp
        · cases hh
      · cases hh
    · rename_i t
      split at hh
      · rename_i y hty
        cases hh
        obtain ⟨p1, p2, n, p3⟩ := hp
        have e : e3_ln G a = (n : Int) := by unfold e3_ln; rw [p3]; rfl
        rw [e] at p2 ⊢
        exact core t n y hty (by omega) p3 p2
      · cases hh
  · cases hh
theorem e3_new_ok (hZ : e3_Z B) {idx : Nat} (hh : e3_new B m idx st H G = some (st2, H2, G2, p)) (hR : e3_R B H G h) (hS : e3_S st) : e3_M B m (.new idx) st h st2 H2 G2 := by
  unfold e3_new at hh
  split at hh
  · rename_i ci t hkl
    split at hh
    · rename_i q hcl
      cases hh
      refine ⟨h ++ [.inr (ci, am_df B.1 ci)], ?_, ?_, e3_S_cons.mpr ⟨by show (-1 : Int) ≤ (G.length : Int); omega, hS⟩⟩
      · show am_new B.1 B.2.1 m idx (st.map e3_v) h = some (e3_v (2, (G.length : Int)) :: st.map e3_v, _)
        rw [e3_ref (by omega)]
        unfold am_new
        simp only [hkl, hcl]
        rw [hR.1, Int.toNat_natCast, hR.2.1]
      · refine e3_R_push hR ?_ ?_ ?_
        · rw [e3_c_obj, hZ.1]
          congr 2
          apply List.ext_getElem?
          intro j
          rw [List.getElem?_mapIdx, List.getElem?_map]
          cases hc : (B.2.2.1 ci)[j]? with
          | none => rfl
          | some c =>
            show some (e3_dv c) = some (e3_v (c, e3_dz (B.2.2.1 ci) (j : Int)))
            unfold e3_dv e3_dz
            rw [Int.toNat_natCast, hc]
            by_cases h2 : c = 2
            · subst h2; rfl
            · rw [if_neg h2, if_neg (by simpa using h2)]
        · intro k hk
          have hk : k < (B.2.2.1 ci).length := hk
          obtain ⟨c, hc⟩ : ∃ c, (B.2.2.1 ci)[k]? = some c := ⟨(B.2.2.1 ci)[k], List.getElem?_eq_getElem hk⟩
          rw [e3_sc_obj hc]
          have h3 := hZ.2.1 ci c (List.mem_of_getElem? hc)
          unfold e3_dz
          rw [Int.toNat_natCast, hc]
          match c, h3 with
          | 0, _ => rw [if_neg (by simp)]; exact e3_z32
          | 1, _ => rw [if_neg (by simp)]; exact ⟨by omega, by omega⟩
          | 2, _ => rw [if_pos rfl]; show (-1 : Int) ≤ -1; omega
        · intro _
          show (B.2.2.1 ci).length = (B.2.2.1 (100 + ci - 100)).length
          rw [show 100 + ci - 100 = ci by omega]
    · cases hh
  · cases hh
theorem e3_na_ok {y : ArrayType} (hh : e3_na y st H G = some (st2, H2, G2, p)) (hp : p) (hR : e3_R B H G h) (hS : e3_S st) : e3_M B m (.newarray y) st h st2 H2 G2 := by
  unfold e3_na at hh
  split at hh
  · rename_i n r
    obtain ⟨k1, k2⟩ := e3_S_cons.mp hS
    split at hh
    · rename_i t ft x hnad
      cases hh
      have hx : ∃ (_ : t < 4), (.inl (t, n.toNat, x) : am_E) = e3_c B.2.2.1 (t, n.toNat) (fun _ => 0) := by
        cases y <;> cases hnad
        · exact ⟨by omega, rfl⟩
        · exact ⟨by omega, rfl⟩
        · exact ⟨by omega, rfl⟩
        · exact ⟨by omega, rfl⟩
      obtain ⟨h4, hx⟩ := hx
      refine ⟨h ++ [.inl (t, n.toNat, x)], ?_, ?_, e3_S_cons.mpr ⟨by show (-1 : Int) ≤ (G.length : Int); omega, k2⟩⟩
      · show am_na y B.2.1 (.int (Int32.ofInt n) :: r.map e3_v) h = some (e3_v (2, (G.length : Int)) :: r.map e3_v, _)
        rw [e3_ref (by omega)]
        unfold am_na
        simp only [hnad]
        rw [e3_clamp k1, if_pos ⟨by rw [show (0 : Int32) = Int32.ofInt 0 from rfl, e3_lt32 k1 e3_z32]; omega, by omega⟩, hR.1, Int.toNat_natCast, hR.2.1]
      · refine e3_R_push hR hx ?_ ?_
        · intro k hk
          by_cases h1 : t = 1
          · subst h1
            exact (show e3_i64 0 from ⟨by omega, by omega⟩)
          · rw [e3_sc_int h1 h4]
            exact e3_z32
        · intro h100
          have h100 : 100 ≤ t := h100
          omega
    · cases hh
  · cases hh
theorem e3_nq_ok (hZ : e3_Z B) {idx : Nat} (hh : e3_nq B m idx st H G = some (st2, H2, G2, p)) (hp : p) (hR : e3_R B H G h) (hS : e3_S st) : e3_M B m (.anewarray idx) st h st2 H2 G2 := by
  unfold e3_nq at hh
  split at hh
  · rename_i n r
    obtain ⟨k1, k2⟩ := e3_S_cons.mp hS
    split at hh
    · rename_i ci t hkl
      split at hh
      · rename_i C hty
        cases hh
        have h4 := hZ.2.2.2 _ _ hty
        have h100 := hZ.2.2.1 _ _ hty
        refine ⟨h ++ [.inl (t, n.toNat, .inr (.inr (.inr (.inr (fun _ => none)))))], ?_, ?_, e3_S_cons.mpr ⟨by show (-1 : Int) ≤ (G.length : Int); omega, k2⟩⟩
        · show am_nq B.1 B.2.1 m idx (.int (Int32.ofInt n) :: r.map e3_v) h = some (e3_v (2, (G.length : Int)) :: r.map e3_v, _)
          rw [e3_ref (by omega)]
          unfold am_nq
          simp only [hkl, hty]
          rw [e3_clamp k1, if_pos ⟨by rw [show (0 : Int32) = Int32.ofInt 0 from rfl, e3_lt32 k1 e3_z32]; omega, by omega⟩, hR.1, Int.toNat_natCast, hR.2.1]
        · refine e3_R_push hR ?_ ?_ ?_
          · rw [e3_c_ref h4 h100]
            rfl
          · intro k hk
            rw [e3_sc_ref h4 h100]
            show (-1 : Int) ≤ -1
            omega
          · intro h5
            have h5 : 100 ≤ t := h5
            omega
      · cases hh
    · cases hh
  · cases hh
theorem e3_m_ok (hZ : e3_Z B) {i : Instr} (hh : e3_m B m o i st H G = some (st2, H2, G2, p)) (hp : p) (hR : e3_R B H G h) (hS : e3_S st) : e3_M B m i st h st2 H2 G2 ∧ (∀ (ret : Option FieldType) (s : List Value), am_rt ret i s = none) ∧ ∀ (nL pc : Nat) (lvA : List (Nat × Value)) (s : List Value), am_pu nL i pc lvA s = none := by
  unfold e3_m at hh
  split at hh
  · exact ⟨e3_gf_ok hh hp hR hS, fun _ _ => rfl, fun _ _ _ _ => rfl⟩
  · exact ⟨e3_pf_ok hh hp hR hS, fun _ _ => rfl, fun _ _ _ _ => rfl⟩
  · exact ⟨e3_ial_ok hh hp hR hS, fun _ _ => rfl, fun _ _ _ _ => rfl⟩
  · exact ⟨e3_lal_ok hh hp hR hS, fun _ _ => rfl, fun _ _ _ _ => rfl⟩
  · exact ⟨e3_bal_ok hh hp hR hS, fun _ _ => rfl, fun _ _ _ _ => rfl⟩
  · exact ⟨e3_aal_ok hZ hh hp hR hS, fun _ _ => rfl, fun _ _ _ _ => rfl⟩
  · exact ⟨e3_ias_ok hh hp hR hS, fun _ _ => rfl, fun _ _ _ _ => rfl⟩
  · exact ⟨e3_las_ok hh hp hR hS, fun _ _ => rfl, fun _ _ _ _ => rfl⟩
  · exact ⟨e3_bas_ok hh hp hR hS, fun _ _ => rfl, fun _ _ _ _ => rfl⟩
  · exact ⟨e3_aas_ok hZ hh hp hR hS, fun _ _ => rfl, fun _ _ _ _ => rfl⟩
  · exact ⟨e3_aln_ok hZ hh hp hR hS, fun _ _ => rfl, fun _ _ _ _ => rfl⟩
  · exact ⟨e3_new_ok hZ hh hR hS, fun _ _ => rfl, fun _ _ _ _ => rfl⟩
  · exact ⟨e3_na_ok hh hp hR hS, fun _ _ => rfl, fun _ _ _ _ => rfl⟩
  · exact ⟨e3_nq_ok hZ hh hp hR hS, fun _ _ => rfl, fun _ _ _ _ => rfl⟩
  · split at hh
    · rename_i x hx
      unfold e3_cs at hh
      rw [hx] at hh
      cases hh
      refine ⟨⟨h, ?_, hR, e3_S_cons.mpr ⟨e3_rg32 x, hS⟩⟩, fun _ _ => rfl, fun _ _ _ _ => rfl⟩
      show am_ldc B.1 m _ (st.map e3_v) h = some (.int (Int32.ofInt x.toInt) :: st.map e3_v, h)
      unfold am_ldc
      rw [hx, Int32.ofInt_toInt]
    · cases hh
  · split at hh
    · rename_i x hx
      unfold e3_cs at hh
      rw [hx] at hh
      cases hh
      refine ⟨⟨h, ?_, hR, e3_S_cons.mpr ⟨e3_rg64 x, hS⟩⟩, fun _ _ => rfl, fun _ _ _ _ => rfl⟩
      show am_ldw B.1 m _ (st.map e3_v) h = some (.long (Int64.ofInt x.toInt) :: st.map e3_v, h)
      unfold am_ldw
      rw [hx, Int64.ofInt_toInt]
    · cases hh
  · split at hh
    · rename_i x hx
      unfold e3_cs at hh
      rw [hx] at hh
      cases hh
      refine ⟨⟨h, ?_, hR, e3_S_cons.mpr ⟨e3_rg32 x, hS⟩⟩, fun _ _ => rfl, fun _ _ _ _ => rfl⟩
      show am_ldc B.1 m _ (st.map e3_v) h = some (.int (Int32.ofInt x.toInt) :: st.map e3_v, h)
      unfold am_ldc
      rw [hx, Int32.ofInt_toInt]
    · cases hh
  · split at hh
    · rename_i a hx
      unfold e3_cs at hh
      rw [hx] at hh
      cases hh
      refine ⟨⟨h, ?_, hR, e3_S_cons.mpr ⟨by show (-1 : Int) ≤ (a : Int); omega, hS⟩⟩, fun _ _ => rfl, fun _ _ _ _ => rfl⟩
      show am_gs B.1 m _ (st.map e3_v) h = some (e3_v (2, (a : Int)) :: st.map e3_v, h)
      unfold am_gs
      rw [hx, e3_ref (by omega)]
      rfl
    · cases hh
  · cases hh
end E3S
