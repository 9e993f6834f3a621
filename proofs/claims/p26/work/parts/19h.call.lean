def e3_ct (st : List e3_V) : Nat := (st.map (fun v => if Nat.beq v.1 1 then 2 else 1)).sum
theorem e3_cat (v : e3_V) : (e3_v v).category = if Nat.beq v.1 1 then 2 else 1 := by
  obtain ⟨c, x⟩ := v
  by_cases h : c = 1
  · subst h; rfl
  · rw [e3_cat1 h]
    have : Nat.beq c 1 = false := by
      cases hb : Nat.beq c 1 with
      | false => rfl
      | true => exact absurd (Nat.eq_of_beq_eq_true hb) h
    simp only [this]
    rfl
theorem e3_ct_ok (st : List e3_V) : am_ct (st.map e3_v) = e3_ct st := by
  unfold am_ct e3_ct
  rw [List.map_map]
  congr 1
  apply List.map_congr_left
  intro v _
  exact e3_cat v
def e3_al0 : List e3_V → List e3_V
  | [] => []
  | (c, x) :: r => if Nat.beq c 1 then (c, x) :: (3, 0) :: e3_al0 r else (c, x) :: e3_al0 r
def e3_ar (nL : Nat) (as : List e3_V) : List e3_V := e3_al0 as ++ List.replicate (nL - (e3_al0 as).length) (3, 0)
theorem e3_al0_ok : ∀ (as : List e3_V) (k : Nat), e3_S as → ∀ (i c : Nat) (x : Int), (e3_al0 as)[i]? = some (c, x) → c < 3 → e3_ok (c, x) ∧ am_ld (lv_args k (as.map e3_v)) (k + i) = some (e3_v (c, x)) := by
  intro as
  induction as with
  | nil => intro k hS i c x h hc; cases h
  | cons v as ih =>
    intro k hS i c x h hc
    obtain ⟨k1, k2⟩ := e3_S_cons.mp hS
    obtain ⟨d, y⟩ := v
    have hcat := e3_cat (d, y)
    rw [List.map_cons]
    unfold lv_args
    have hd : am_ld ((k, e3_v (d, y)) :: lv_args (if (e3_v (d, y)).category = 2 then k + 2 else k + 1) (as.map e3_v)) k = some (e3_v (d, y)) := by
      unfold am_ld
      rw [List.find?_cons]
      simp
    have tl : ∀ j, j ≠ k → am_ld ((k, e3_v (d, y)) :: lv_args (if (e3_v (d, y)).category = 2 then k + 2 else k + 1) (as.map e3_v)) j = am_ld (lv_args (if (e3_v (d, y)).category = 2 then k + 2 else k + 1) (as.map e3_v)) j := by
      intro j hj
      unfold am_ld
      rw [List.find?_cons]
      have : (k == j) = false := by simp; omega
      simp only [this]
    unfold e3_al0 at h
    cases hb : Nat.beq d 1 with
    | true =>
      rw [hb] at h
      simp only [hb, if_true] at hcat
      simp only [if_true] at h
      match i, h with
      | 0, h =>
        cases h
        exact ⟨k1, hd⟩
      | 1, h => cases h; omega
      | i + 2, h =>
        rw [tl _ (by omega), hcat]
        simp only [if_true]
        have h2 := ih (k + 2) k2 i c x h hc
        rw [show k + (i + 2) = k + 2 + i by omega]
        exact h2
    | false =>
      rw [hb] at h
      simp only [hb, Bool.false_eq_true, if_false] at hcat
      simp only [Bool.false_eq_true, if_false] at h
      match i, h with
      | 0, h =>
        cases h
        exact ⟨k1, hd⟩
      | i + 1, h =>
        rw [tl _ (by omega), hcat]
        have h2 := ih (k + 1) k2 i c x h hc
        rw [show k + (i + 1) = k + 1 + i by omega]
        exact h2
theorem e3_ar_ok {nL : Nat} {as : List e3_V} (hS : e3_S as) : e3_L (e3_ar nL as) (lv_args 0 (as.map e3_v)) := by
  intro i c x h hc
  unfold e3_ar at h
  rcases Nat.lt_or_ge i (e3_al0 as).length with h1 | h1
  · rw [List.getElem?_append_left h1] at h
    have := e3_al0_ok as 0 hS i c x h hc
    rwa [Nat.zero_add] at this
  · rw [List.getElem?_append_right h1, List.getElem?_replicate] at h
    split at h
    · cases h
      omega
    · cases h
def e3_ca (B : e3_B) (m o : Nat) (i : Instr) (st : List e3_V) (G : e3_G) : Option (Nat × am_M × List e3_V × List e3_V × Prop) := match i with
  | .invokestatic idx => (match am_ml B.1 m idx with
    | some (k, 0, _) => (match am_mt B.1 k with
      | some M => if Nat.ble M.2.2.2.2 st.length && Nat.ble (e3_ct (st.drop M.2.2.2.2)) 8 then some (k, M, (st.take M.2.2.2.2).reverse, st.drop M.2.2.2.2, True) else none
      | none => none)
    | _ => none)
  | .invokevirtual idx => (match am_ml B.1 m idx with
    | some (k, 1, ci) => (match am_mt B.1 k with
      | some M => (match st.drop M.2.2.2.2 with
        | (2, a) :: rest => if Nat.ble M.2.2.2.2 st.length && Nat.ble (e3_ct rest) 8 then (match o with
          | 0 => if e3_tg B.2.2.2.2 a (100 + ci) then some (k, M, (2, a) :: (st.take M.2.2.2.2).reverse, rest, True) else none
          | _ => some (k, M, (2, a) :: (st.take M.2.2.2.2).reverse, rest, e3_ob G ci a)) else none
        | _ => none)
      | none => none)
    | _ => none)
  | .invokespecial idx => (match am_ml B.1 m idx with
    | some (k, kd, _) => if Nat.beq kd 2 || Nat.beq kd 3 then (match am_mt B.1 k with
      | some M => (match st.drop M.2.2.2.2 with
        | (2, a) :: rest => if Nat.ble M.2.2.2.2 st.length && Nat.ble (e3_ct rest) 8 then some (k, M, (2, a) :: (st.take M.2.2.2.2).reverse, rest, 0 ≤ a) else none
        | _ => none)
      | none => none) else none
    | _ => none)
  | _ => none
section E3C
variable {B : e3_B} {f w m pc : Nat} {lv st : List e3_V} {H : e3_H} {G : e3_G} {Q : Option e3_V → e3_H → e3_G → Prop} {M : am_M} {h : List am_E}
theorem e3_S_drop {st : List e3_V} (h : e3_S st) (n : Nat) : e3_S (st.drop n) := fun v hv => h v (List.mem_of_mem_drop hv)
theorem e3_S_take {st : List e3_V} (h : e3_S st) (n : Nat) : e3_S (st.take n).reverse := fun v hv => h v (List.mem_of_mem_take (List.mem_reverse.mp hv))
theorem e3_ca_ok {o k : Nat} {i : Instr} {M2 : am_M} {as rest : List e3_V} {p : Prop} (hc : e3_ca B m o i st G = some (k, M2, as, rest, p)) (hp : p) (hR : e3_R B H G h) (hS : e3_S st) : am_ca B.1 B.2.1 m i (st.map e3_v) h = some (k, M2, as.map e3_v, rest.map e3_v) ∧ e3_S as ∧ e3_S rest ∧ (∀ (ret : Option FieldType) (s : List Value), am_rt ret i s = none) ∧ (∀ (nL pc : Nat) (lvA : List (Nat × Value)) (s : List Value), am_pu nL i pc lvA s = none) ∧ (∀ (s : List Value) (h : List am_E), am_hp B.1 B.2.1 m i s h = none) := by
  unfold e3_ca at hc
  split at hc
  · rename_i idx
    split at hc
    · rename_i k2 x hml
      split at hc
      · rename_i M3 hM3
        split at hc
        · rename_i hb
          simp only [Bool.and_eq_true] at hb
          cases hc
          refine ⟨?_, e3_S_take hS _, e3_S_drop hS _, fun _ _ => rfl, fun _ _ _ _ => rfl, fun _ _ => rfl⟩
          unfold am_ca
          simp only [hml, hM3]
          rw [if_pos ⟨by rw [List.length_map]; exact Nat.le_of_ble_eq_true hb.1, by rw [← List.map_drop, e3_ct_ok]; exact Nat.le_of_ble_eq_true hb.2⟩]
          rw [← List.map_drop, ← List.map_take, ← List.map_reverse]
        · cases hc
      · cases hc
    · cases hc
  · rename_i idx
    split at hc
    · rename_i k2 ci hml
      split at hc
      · rename_i M3 hM3
        split at hc
        · rename_i a r hdr
          split at hc
          · rename_i hb
            simp only [Bool.and_eq_true] at hb
            have hSd : e3_S ((2, a) :: r) := by rw [← hdr]; exact e3_S_drop hS _
            obtain ⟨k1, k3⟩ := e3_S_cons.mp hSd
            have core : e3_ob G ci a → am_ca B.1 B.2.1 m (.invokevirtual idx) (st.map e3_v) h = some (k2, M3, ((2, a) :: (st.take M3.2.2.2.2).reverse).map e3_v, r.map e3_v) := by
              intro ho
              have h2 := e3_ob_2 hR ho
              obtain ⟨h0, n, hg⟩ := id ho
              have hdy := e3_R_dy hR h2 hg
              rw [e3_c_obj] at hdy
              unfold am_ca
              simp only [hml, hM3]
              rw [← List.map_drop, hdr, List.map_cons, e3_ref h0]
              simp only [hdy]
              rw [if_pos ⟨trivial, by rw [List.length_map]; exact Nat.le_of_ble_eq_true hb.1, by rw [e3_ct_ok]; exact Nat.le_of_ble_eq_true hb.2⟩]
              rw [List.map_cons, e3_ref h0, ← List.map_take, ← List.map_reverse]
            split at hc
            · split at hc
              · rename_i ht
                cases hc
                obtain ⟨t1, n, t2⟩ := e3_tg_ok ht
                exact ⟨core ⟨t1, n, hR.2.2.2.2.1 _ _ t2⟩, e3_S_cons.mpr ⟨k1, e3_S_take hS _⟩, k3, fun _ _ => rfl, fun _ _ _ _ => rfl, fun _ _ => rfl⟩
              · cases hc
            · cases hc
              exact ⟨core hp, e3_S_cons.mpr ⟨k1, e3_S_take hS _⟩, k3, fun _ _ => rfl, fun _ _ _ _ => rfl, fun _ _ => rfl⟩
          · cases hc
        · cases hc
      · cases hc
    · cases hc
  · rename_i idx
    split at hc
    · rename_i k2 kd ci hml
      split at hc
      · rename_i hkd
        simp only [Bool.or_eq_true] at hkd
        have hkd2 : kd = 2 ∨ kd = 3 := hkd.imp Nat.eq_of_beq_eq_true Nat.eq_of_beq_eq_true
        split at hc
        · rename_i M3 hM3
          split at hc
          · rename_i a r hdr
            split at hc
            · rename_i hb
              simp only [Bool.and_eq_true] at hb
              cases hc
              have hSd : e3_S ((2, a) :: rest) := by rw [← hdr]; exact e3_S_drop hS _
              obtain ⟨k1, k3⟩ := e3_S_cons.mp hSd
              refine ⟨?_, e3_S_cons.mpr ⟨k1, e3_S_take hS _⟩, k3, fun _ _ => rfl, fun _ _ _ _ => rfl, fun _ _ => rfl⟩
              unfold am_ca
              simp only [hml, hM3]
              rw [if_pos hkd2, ← List.map_drop, hdr, List.map_cons, e3_ref hp]
              simp only
              rw [if_pos ⟨by rw [List.length_map]; exact Nat.le_of_ble_eq_true hb.1, by rw [e3_ct_ok]; exact Nat.le_of_ble_eq_true hb.2⟩]
              rw [List.map_cons, e3_ref hp, ← List.map_take, ← List.map_reverse]
            · cases hc
          · cases hc
        · cases hc
      · cases hc
    · cases hc
  · cases hc
theorem e3_call {o k f1 w1 : Nat} {i : Instr} {len : Nat} {M2 : am_M} {as rest : List e3_V} {p : Prop} (hi : am_in B.1 m pc = some (i, len)) (hM : am_mt B.1 m = some M) (hc : e3_ca B m o i st G = some (k, M2, as, rest, p)) (hp : p) (hf : f1 + 1 ≤ f) (hw : w1 + (19 + M2.2.2.1) ≤ w) (hct : e3_ct as ≤ M2.2.2.1) (K : e3_Ev B f1 w1 k 0 (e3_ar M2.2.2.1 as) [] H G (fun r H2 G2 => e3_Ev B f w m (pc + 3) lv (r.toList ++ rest) H2 G2 Q)) : e3_Ev B f w m pc lv st H G Q := by
  intro lvA h hL hS hR
  obtain ⟨c1, c2, c3, c4, c5, c6⟩ := e3_ca_ok hc hp hR hS
  obtain ⟨r, H2, G2, h2, a1, a2, a3, a4⟩ := K (lv_args 0 (as.map e3_v)) h (e3_ar_ok c2) (fun v hv => by cases hv) hR
  have hS2 : e3_S (r.toList ++ rest) := by
    intro v hv
    rcases List.mem_append.mp hv with hv | hv
    · exact a3 v (by simpa using hv)
    · exact c3 v hv
  obtain ⟨r0, H3, G3, h3, b1, b2, b3, b4⟩ := a4 lvA h2 hL hS2 a2
  have e : (r.toList ++ rest).map e3_v = (r.map e3_v).toList ++ rest.map e3_v := by cases r <;> rfl
  rw [e] at b1
  exact ⟨r0, H3, G3, h3, am_ev_call hi hM (c4 _ _) (c5 _ _ _ _) (c6 _ _) c1 hf hw (by rw [e3_ct_ok]; exact hct) a1 b1, b2, b3, b4⟩
theorem e3_reti {x : Int} {len : Nat} (hi : am_in B.1 m pc = some (.ireturn, len)) (hM : am_mt B.1 m = some M) (hr : M.2.2.2.1 = some .int) (hQ : Q (some (0, x)) H G) : e3_Ev B f w m pc lv [(0, x)] H G Q := by
  intro lvA h hL hS hR
  refine ⟨some (0, x), H, G, h, am_ev_ret hi hM ?_, hR, fun v hv => by cases hv; exact (e3_S_cons.mp hS).1, hQ⟩
  rw [hr]
  rfl
theorem e3_retb {x : Int} {len : Nat} (hi : am_in B.1 m pc = some (.ireturn, len)) (hM : am_mt B.1 m = some M) (hr : M.2.2.2.1 = some .boolean) (hb : x = 0 ∨ x = 1) (hQ : Q (some (0, x)) H G) : e3_Ev B f w m pc lv [(0, x)] H G Q := by
  intro lvA h hL hS hR
  refine ⟨some (0, x), H, G, h, am_ev_ret hi hM ?_, hR, fun v hv => by cases hv; exact (e3_S_cons.mp hS).1, hQ⟩
  rw [hr]
  rcases hb with rfl | rfl
  · rfl
  · rfl
theorem e3_retl {x : Int} {len : Nat} (hi : am_in B.1 m pc = some (.lreturn, len)) (hM : am_mt B.1 m = some M) (hr : M.2.2.2.1 = some .long) (hQ : Q (some (1, x)) H G) : e3_Ev B f w m pc lv [(1, x)] H G Q := by
  intro lvA h hL hS hR
  refine ⟨some (1, x), H, G, h, am_ev_ret hi hM ?_, hR, fun v hv => by cases hv; exact (e3_S_cons.mp hS).1, hQ⟩
  rw [hr]
  rfl
def e3_rt (t : Option FieldType) : Bool := match t with
  | some (.object _) => true
  | some (.array _) => true
  | _ => false
theorem e3_reta {x : Int} {len : Nat} (hi : am_in B.1 m pc = some (.areturn, len)) (hM : am_mt B.1 m = some M) (hr : e3_rt M.2.2.2.1 = true) (hQ : Q (some (2, x)) H G) : e3_Ev B f w m pc lv [(2, x)] H G Q := by
  intro lvA h hL hS hR
  refine ⟨some (2, x), H, G, h, am_ev_ret hi hM ?_, hR, fun v hv => by cases hv; exact (e3_S_cons.mp hS).1, hQ⟩
  show am_rt M.2.2.2.1 .areturn [e3_v (2, x)] = some (some (e3_v (2, x)))
  have e : e3_v (2, x) = if x < 0 then Value.null else Value.ref x.toNat := rfl
  rw [e]
  unfold e3_rt at hr
  split at hr
  · rename_i ht
    rw [ht]
    split <;> rfl
  · rename_i ht
    rw [ht]
    split <;> rfl
  · cases hr
theorem e3_retv {len : Nat} (hi : am_in B.1 m pc = some (.return_, len)) (hM : am_mt B.1 m = some M) (hr : M.2.2.2.1 = none) (hQ : Q none H G) : e3_Ev B f w m pc lv [] H G Q := by
  intro lvA h hL hS hR
  refine ⟨none, H, G, h, am_ev_ret hi hM ?_, hR, (fun v hv => (by cases hv)), hQ⟩
  rw [hr]
  rfl
/-- Object.<init> -/
theorem e3_oi {idx len x y : Nat} {a : Int} {r : List e3_V} (hi : am_in B.1 m pc = some (.invokespecial idx, len)) (hM : am_mt B.1 m = some M) (hml : am_ml B.1 m idx = some (x, 4, y)) (ha : 0 ≤ a) (hf : 1 ≤ f) (hw : e3_ct r + 12 ≤ w) (K : e3_Ev B f w m (pc + 3) lv r H G Q) : e3_Ev B f w m pc lv ((2, a) :: r) H G Q := by
  intro lvA h hL hS hR
  obtain ⟨r0, H3, G3, h3, b1, b2, b3, b4⟩ := K lvA h hL (e3_tl1 hS) hR
  refine ⟨r0, H3, G3, h3, am_ev_nv hi hM rfl rfl rfl ?_ b1, b2, b3, b4⟩
  rw [List.map_cons, e3_ref ha]
  unfold am_nv
  simp only [hml]
  rw [if_pos ⟨hf, by rw [e3_ct_ok]; exact hw⟩]
def e3_cpy (H : e3_H) (a0 sp a dp n : Int) : e3_H := fun b k => if b = a ∧ dp ≤ k ∧ k < dp + n then H a0 (sp + (k - dp)) else H b k
/-- System.arraycopy of ints -/
theorem e3_cp {idx len x y n0 n1 : Nat} {n dp a sp a0 : Int} {r : List e3_V} (hi : am_in B.1 m pc = some (.invokestatic idx, len)) (hM : am_mt B.1 m = some M) (hml : am_ml B.1 m idx = some (x, 5, y)) (ha : 2 ≤ a) (ha0 : 2 ≤ a0) (hg : G[a.toNat]? = some (0, n1)) (hg0 : G[a0.toNat]? = some (0, n0)) (hsp : 0 ≤ sp) (hdp : 0 ≤ dp) (hn : 0 ≤ n) (h1 : sp + n ≤ n0) (h2 : dp + n ≤ n1) (hf : 1 ≤ f) (hw : e3_ct r + (nativeFrameWords "java/lang/System" "arraycopy" 5 + 11) ≤ w) (K : e3_Ev B f w m (pc + 3) lv r (e3_cpy H a0 sp a dp n) G Q) : e3_Ev B f w m pc lv ((0, n) :: (0, dp) :: (2, a) :: (0, sp) :: (2, a0) :: r) H G Q := by
  intro lvA h hL hS hR
  obtain ⟨k1, s1⟩ := e3_S_cons.mp hS
  obtain ⟨k2, s2⟩ := e3_S_cons.mp s1
  obtain ⟨k3, s3⟩ := e3_S_cons.mp s2
  obtain ⟨k4, s4⟩ := e3_S_cons.mp s3
  obtain ⟨k5, s5⟩ := e3_S_cons.mp s4
  have hd := e3_R_dy hR ha hg
  have hd0 := e3_R_dy hR ha0 hg0
  rw [e3_c_int (by omega) (by omega)] at hd hd0
  have hR2 : e3_R B (e3_cpy H a0 sp a dp n) G (am_up B.2.1 h a.toNat (.inl (0, n1, .inl (va_cpy (fun j => Int32.ofInt (H a0 (j : Int))) (fun j => Int32.ofInt (H a (j : Int))) sp.toNat dp.toNat n.toNat)))) := by
    have hnoct : ∀ j : Int, ∀ ci kf A v, B.2.2.2.1 ci kf = some (A, v) → ¬ (A = a ∧ (kf : Int) = j) := fun j => e3_noct hR (by omega) hg (by show 0 < 100; omega)
    obtain ⟨r1, r2, r3, r4, r5, r6, r7, r8⟩ := hR
    have hlt : a.toNat < G.length := (List.getElem?_eq_some_iff.mp hg).1
    refine ⟨r1, ?_, ?_, ?_, r5, ?_, r7, r8⟩
    · unfold am_up
      rw [List.length_set]
      exact r2
    · intro i g2 hg2
      by_cases hi : a.toNat = i
      · subst hi
        rw [hg] at hg2
        cases hg2
        unfold am_at am_up
        rw [if_neg (by rw [r1]; omega), r1, List.getElem?_set_self (by omega), Int.toNat_of_nonneg (by omega), e3_c_int (by omega) (by omega)]
        congr 5
        funext j
        unfold va_cpy e3_cpy
        by_cases hj : dp.toNat ≤ j ∧ j < dp.toNat + n.toNat
        · rw [if_pos hj, if_pos ⟨rfl, by omega, by omega⟩]
          have e : ((sp.toNat + (j - dp.toNat) : Nat) : Int) = sp + ((j : Int) - dp) := by omega
          show Int32.ofInt (H a0 ((sp.toNat + (j - dp.toNat) : Nat) : Int)) = _
          rw [e]
        · rw [if_neg hj, if_neg (by omega)]
      · have h1 := r3 i g2 hg2
        have e : e3_cpy H a0 sp a dp n (i : Int) = H i := by
          funext k
          unfold e3_cpy
          rw [if_neg (by omega)]
        rw [e]
        unfold am_at at h1 ⊢
        unfold am_up
        split
        · rename_i hlt2
          rw [if_pos hlt2] at h1
          exact h1
        · rename_i hlt2
          rw [if_neg hlt2] at h1
          rw [List.getElem?_set_ne (by rw [r1] at hlt2 ⊢; omega)]
          exact h1
    · intro i g2 hg2 k hk
      unfold e3_cpy
      split
      · rename_i hq
        have hi : a.toNat = i := by omega
        subst hi
        rw [hg] at hg2
        cases hg2
        rw [e3_sc_int (by omega) (by omega)]
        have h3 := r4 a0.toNat _ hg0 (sp + ((k : Int) - dp)).toNat (by show (sp + ((k : Int) - dp)).toNat < n0; omega)
        rw [e3_sc_int (by omega) (by omega), Int.toNat_of_nonneg (by omega), Int.toNat_of_nonneg (by omega)] at h3
        exact h3
      · exact r4 i g2 hg2 k hk
    · intro ci kf A v hc
      obtain ⟨t1, t2, t3⟩ := r6 ci kf A v hc
      refine ⟨t1, ?_, t3⟩
      unfold e3_cpy
      rw [if_neg (fun z => hnoct kf ci kf A v hc ⟨z.1, rfl⟩)]
      exact t2
  obtain ⟨r0, H3, G3, h3, b1, b2, b3, b4⟩ := K lvA _ hL s5 hR2
  refine ⟨r0, H3, G3, h3, am_ev_nv hi hM rfl rfl rfl ?_ b1, b2, b3, b4⟩
  rw [List.map_cons, List.map_cons, List.map_cons, List.map_cons, List.map_cons, e3_ref (a := a) (by omega), e3_ref (a := a0) (by omega)]
  show am_nv B.1 B.2.1 f w m (.invokestatic idx) (.int (Int32.ofInt n) :: .int (Int32.ofInt dp) :: .ref a.toNat :: .int (Int32.ofInt sp) :: .ref a0.toNat :: r.map e3_v) h = _
  unfold am_nv
  simp only [hml, hd, hd0]
  rw [e3_clamp k1, e3_clamp k2, e3_clamp k4, if_pos ⟨trivial, trivial, by rw [e3_lt0 k4]; omega, by rw [e3_lt0 k2]; omega, by rw [e3_lt0 k1]; omega, by omega, by omega, hf, by rw [e3_ct_ok]; exact hw⟩]
/-- switches -/
def e3_swt (i : Instr) (pc : Nat) (x : Int) : Option Nat := match i with
  | .tableswitch d lo hi offs => if x < lo ∨ hi < x then am_jp pc d else (match offs[(x - lo).toNat]? with | some off => am_jp pc off | none => none)
  | .lookupswitch d ps => if (ps.toList.zip (ps.toList.drop 1)).all (fun q => decide (q.1.1 < q.2.1)) = true then am_jp pc (Op.lookupswitch.offset ps.toList d x) else none
  | _ => none
theorem e3_sw {i : Instr} {len t : Nat} {x y : Int} {r : List e3_V} (hi : am_in B.1 m pc = some (i, len)) (hM : am_mt B.1 m = some M) (hxy : x = y) (ht : e3_swt i pc y = some t) (K : e3_Ev B f w m t lv r H G Q) : e3_Ev B f w m pc lv ((0, x) :: r) H G Q := by
  subst hxy
  unfold e3_swt at ht
  split at ht
  · rename_i d lo hi2 offs
    refine e3_brG hi hM e3_tl1 (fun _ _ => rfl) (fun hS lvA => ?_) K
    have k1 := (e3_S_cons.mp hS).1
    simp only [am_pu, List.map_cons, e3_v, e3_of32 k1]
    split at ht
    · rename_i hq
      rw [if_pos hq, ht]
    · rename_i hq
      rw [if_neg hq]
      split at ht
      · rename_i off ho
        rw [ho]
        simp only [ht]
      · cases ht
  · rename_i d ps
    refine e3_brG hi hM e3_tl1 (fun _ _ => rfl) (fun hS lvA => ?_) K
    have k1 := (e3_S_cons.mp hS).1
    simp only [am_pu, List.map_cons, e3_v, e3_of32 k1]
    split at ht
    · rename_i hq
      rw [if_pos hq, ht]
    · cases ht
  · cases ht
theorem e3_swdt {d lo hi x : Int} {offs : Array Int} {pc : Nat} (h : x < lo ∨ hi < x) : e3_swt (.tableswitch d lo hi offs) pc x = am_jp pc d := by
  show (if x < lo ∨ hi < x then am_jp pc d else _) = _
  rw [if_pos h]
theorem e3_swdl {d x : Int} {ps : Array (Int × Int)} {pc : Nat} (hs : (ps.toList.zip (ps.toList.drop 1)).all (fun q => decide (q.1.1 < q.2.1)) = true) (h : ∀ q ∈ ps.toList, q.1 ≠ x) : e3_swt (.lookupswitch d ps) pc x = am_jp pc d := by
  show (if _ = true then am_jp pc (Op.lookupswitch.offset ps.toList d x) else none) = _
  rw [if_pos hs, Op.lookupswitch.offset_none]
  rw [List.find?_eq_none]
  intro q hq
  have := h q hq
  simpa using this
theorem e3_cmp_lt {x y : Int} : e3_cmp x y < 0 ↔ x < y := by unfold e3_cmp; split; omega; split <;> omega
theorem e3_cmp_eq {x y : Int} : e3_cmp x y = 0 ↔ x = y := by unfold e3_cmp; split; omega; split <;> omega
theorem e3_cmp_gt {x y : Int} : 0 < e3_cmp x y ↔ y < x := by unfold e3_cmp; split; omega; split <;> omega
end E3C
