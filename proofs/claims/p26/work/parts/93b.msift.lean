/-- what sifting may change -/
def ms (K K2 : e3_H) : Prop := ∀ a k : Int, a ≠ 92 → a ≠ 93 → K2 a k = K a k
theorem ms_rf (K : e3_H) : ms K K := fun _ _ _ _ => rfl
theorem ms_up {K K2 : e3_H} {a k v : Int} (h : ms K K2) (ha : a = 92 ∨ a = 93) : ms K (e3_up K2 a k v) := fun b j h3 h4 => by rw [e3_up_ne (fun z => by omega)]; exact h b j h3 h4
/-- what is known of rows and tests -/
def FLD1 (σ : e3_H) (π : a_PT) (i : Nat) (e : Int × Int × List (Int × Int)) (K : e3_H) : Prop := K 93 i = (if lv σ (e.1, tl σ e.2.2) π = true then 1 else 0) ∧ (lv σ (e.1, tl σ e.2.2) π = true → ∀ (j : Nat) (p : Int × Int), (tl σ e.2.2)[j]? = some p → K 92 (K 88 i + j) = if (kn π p.2).isSome = true then 1 else 0)
def FLD (σ : e3_H) (RL : List (Int × Int × List (Int × Int))) (π : a_PT) (K : e3_H) : Prop := ∀ (i : Nat) (e : Int × Int × List (Int × Int)), RL[i]? = some e → FLD1 σ π i e K
def fi (σ : e3_H) (π : a_PT) (R : a_RW) : Int := match fst σ π R 0 with
  | none => -4
  | some (i, _) => (i : Int)
theorem fst_snoc {σ : e3_H} {π : a_PT} {w : Int × List (Int × Int)} : ∀ (A : a_RW) (i : Nat), fst σ π (A ++ [w]) i = match fst σ π A i with
    | some v => some v
    | none => if lv σ w π = true then some (i + A.length, w) else none := by
  intro A
  induction A with
  | nil => intro i; rfl
  | cons a A ih =>
    intro i
    show (if lv σ a π = true then some (i, a) else fst σ π (A ++ [w]) (i + 1)) = match (if lv σ a π = true then some (i, a) else fst σ π A (i + 1)) with
      | some v => some v
      | none => if lv σ w π = true then some (i + (A.length + 1), w) else none
    by_cases h : lv σ a π = true
    · rw [if_pos h, if_pos h]
    · rw [if_neg h, if_neg h, ih (i + 1), show i + 1 + A.length = i + (A.length + 1) by omega]
theorem fi_snoc {σ : e3_H} {π : a_PT} {w : Int × List (Int × Int)} {A : a_RW} : fi σ π (A ++ [w]) = if fi σ π A = -4 ∧ lv σ w π = true then (A.length : Int) else fi σ π A := by
  unfold fi
  rw [fst_snoc]
  cases h : fst σ π A 0 with
  | some v =>
    obtain ⟨i, v⟩ := v
    show (i : Int) = if (i : Int) = -4 ∧ lv σ w π = true then (A.length : Int) else (i : Int)
    rw [if_neg (fun z => by have := z.1; omega)]
  | none =>
    show (match (if lv σ w π = true then some (0 + A.length, w) else none) with
      | none => (-4 : Int)
      | some (i, _) => (i : Int)) = if (-4 : Int) = -4 ∧ lv σ w π = true then (A.length : Int) else -4
    by_cases hl : lv σ w π = true
    · rw [if_pos hl, if_pos ⟨rfl, hl⟩]
      show ((0 + A.length : Nat) : Int) = _
      omega
    · rw [if_neg hl, if_neg (fun z => hl z.2)]
/-- rows lie one behind the other -/
theorem M_rows_le {σ H : e3_H} {RL : List (Int × Int × List (Int × Int))} (hM : M_rows σ H RL) : ∀ (i j : Nat), i ≤ j → j ≤ RL.length → H 88 i ≤ H 88 j := by
  intro i j
  induction j with
  | zero => intro h _; rw [show i = 0 by omega]; exact Int.le_refl _
  | succ j ih =>
    intro h hj
    by_cases hz : i = j + 1
    · rw [hz]; exact Int.le_refl _
    · have h1 := ih (by omega) (by omega)
      obtain ⟨e, he⟩ : ∃ e, RL[j]? = some e := ⟨RL[j]'(by omega), List.getElem?_eq_getElem (by omega)⟩
      have h2 := (hM.2.2.2.2 j e he).2.2.2.1
      rw [show ((j + 1 : Nat) : Int) = (j : Int) + 1 by omega, h2]
      omega
section MSF
variable {Q : Int → e3_H → e3_G → Prop} {σ H : e3_H} {G : e3_G} {m : Nat} {f : Int} {RL : List (Int × Int × List (Int × Int))} {π : a_PT} {L : List (Int × Int)}
/-- rows as the reference sifts them -/
def SFT (σ : e3_H) (m : Nat) (f : Int) (RL : List (Int × Int × List (Int × Int))) : Prop := RT σ f (rwl σ RL) ∧ (∀ w, w ∈ rwl σ RL → TYRo σ f w.2) ∧ k_inv σ m ∧ KP σ m ∧ RL.length ≤ 40 ∧ ∀ e, e ∈ RL → (0 ≤ e.1 ∧ e.1 < 192) ∧ ∀ p, p ∈ tl σ e.2.2 → (0 ≤ p.1 ∧ p.1 < 1700) ∧ σ 47 p.1 ≤ 100 ∧ (p.2 - 1) % 8 < 4 ∧ p.2 < 2147483647
theorem cM_sift (hF : SFT σ m f RL) (htb : tb σ H) (hM : M_rows σ H RL) (hA : KA L H) (hL : L.length ≤ 300) (hKL : KL σ (rwl σ RL) H π L) (hO : ∀ r : Int, 0 ≤ r → r < 192 → H 127 r = if psd r π = true then 1 else 0) (hS : SP σ m (rwl σ RL) π) (hQ : ∀ K, ms H K → FLD σ RL π K → Q (fi σ π (rwl σ RL)) K G) : wM_sift Q H G := by
  obtain ⟨hR, hRo, hk, hKP, h40, hE⟩ := hF
  have rows : ∀ (RL2 RL1 : List (Int × Int × List (Int × Int))) (K : e3_H), RL = RL1 ++ RL2 → ms H K → (∀ (i : Nat) (e : Int × Int × List (Int × Int)), RL1[i]? = some e → FLD1 σ π i e K) → wM_sift_5 Q (RL2.length + 1) (fi σ π (rwl σ RL1)) RL1.length K G := by
    intro RL2
    induction RL2 with
    | nil =>
      intro RL1 K e hm hf
      rw [List.append_nil] at e
      subst e
      exact brF (by rw [hm 40 61 (by decide) (by decide), hM.1]; omega) (hQ K hm hf)
    | cons e0 RL2 ih =>
      intro RL1 K e hm hf
      have hlen : RL.length = RL1.length + (RL2.length + 1) := by rw [e, List.length_append]; rfl
      have hget : RL[RL1.length]? = some e0 := by rw [e, List.getElem?_append_right (Nat.le_refl _), Nat.sub_self]; rfl
      have hmem : e0 ∈ RL := by rw [e]; exact List.mem_append_right _ (List.mem_cons_self ..)
      have hwm : (e0.1, tl σ e0.2.2) ∈ rwl σ RL := List.mem_map.mpr ⟨e0, hmem, rfl⟩
      have eapp : rwl σ (RL1 ++ [e0]) = rwl σ RL1 ++ [(e0.1, tl σ e0.2.2)] := by unfold rwl; rw [List.map_append]; rfl
      have hrl : (rwl σ RL1).length = RL1.length := by unfold rwl; rw [List.length_map]
      obtain ⟨r1, r2, ⟨r3, r4⟩, r5, r6⟩ := hM.2.2.2.2 RL1.length e0 hget
      have h806 := hM.2.2.2.1
      obtain ⟨x1, x2⟩ := hE e0 hmem
      have i0 : (0 : Int) ≤ RL1.length ∧ (RL1.length : Int) < 40 := by omega
      -- the row is done
      have next : ∀ K2 : e3_H, ms H K2 → (∀ (i : Nat) (e : Int × Int × List (Int × Int)), RL1[i]? = some e → FLD1 σ π i e K2) → FLD1 σ π RL1.length e0 K2 → wM_sift_113 Q (fun l1 l2 H G => wM_sift_5 Q (RL2.length + 1) l1 l2 H G) (fi σ π (rwl σ RL1)) RL1.length K2 G := fun K2 m2 f2 f3 => by
        have go : wM_sift_5 Q (RL2.length + 1) (fi σ π (rwl σ (RL1 ++ [e0]))) (e3_w32 ((RL1.length : Int) + 1)) K2 G := by
          rw [e3_w32_id (by omega) (by omega)]
          have := ih (RL1 ++ [e0]) K2 (by rw [List.append_assoc]; exact e) m2 (fun i e' he => by
            by_cases hi : i < RL1.length
            · rw [List.getElem?_append_left hi] at he
              exact f2 i e' he
            · rw [List.getElem?_append_right (by omega)] at he
              have h0 : i - RL1.length < 1 := (List.getElem?_eq_some_iff.mp he).1
              have hi2 : i = RL1.length := by omega
              rw [hi2, Nat.sub_self] at he
              have he : some e0 = some e' := he
              cases he
              rw [hi2]
              exact f3)
          rw [List.length_append] at this
          exact this
        rw [eapp, fi_snoc, hrl] at go
        refine ⟨fun h4 => ⟨i0, fun h5 => ?_, fun h5 => ?_⟩, fun h4 => ?_⟩
        · rw [f3.1] at h5
          have hl : ¬ lv σ (e0.1, tl σ e0.2.2) π = true := fun z => by rw [if_pos z] at h5; omega
          rw [if_neg (fun z => hl z.2)] at go
          exact go
        · rw [f3.1] at h5
          have hl : lv σ (e0.1, tl σ e0.2.2) π = true := by
            cases hz : lv σ (e0.1, tl σ e0.2.2) π with
            | true => rfl
            | false => rw [hz, if_neg (by decide)] at h5; exact absurd rfl h5
          rw [if_pos ⟨h4, hl⟩] at go
          exact go
        · rw [if_neg (fun z => h4 z.1)] at go
          exact go
      -- a row that is not possible
      have dead : ∀ (n : Nat) (l3 : Int) (K2 : e3_H), ms H K2 → (∀ (i : Nat) (e : Int × Int × List (Int × Int)), RL1[i]? = some e → FLD1 σ π i e K2) → K2 93 RL1.length = 0 → lv σ (e0.1, tl σ e0.2.2) π = false → wM_sift_45 Q (fun l1 l2 H G => wM_sift_5 Q (RL2.length + 1) l1 l2 H G) (n + 1) (fi σ π (rwl σ RL1)) RL1.length l3 K2 G := fun n l3 K2 m2 f2 h93 hl => by
        have nx := next K2 m2 f2 ⟨by rw [h93, if_neg (by rw [hl]; decide)], fun z => by rw [hl] at z; cases z⟩
        exact ⟨by rw [e3_w32_id (by omega) (by omega)]; omega, fun _ => ⟨i0, brT h93 nx⟩, fun _ => nx⟩
      -- its tests
      have tests : ∀ (T2 T1 : List (Int × Int)) (K2 : e3_H), tl σ e0.2.2 = T1 ++ T2 → psd e0.1 π = false → ms H K2 → (∀ (i : Nat) (e : Int × Int × List (Int × Int)), RL1[i]? = some e → FLD1 σ π i e K2) → K2 93 RL1.length = 1 → (∀ p, p ∈ T1 → ∀ v, kn π p.2 = some v → hr σ p.1 v = true) → (∀ (j : Nat) (p : Int × Int), T1[j]? = some p → K2 92 (H 88 RL1.length + j) = if (kn π p.2).isSome = true then 1 else 0) → wM_sift_45 Q (fun l1 l2 H G => wM_sift_5 Q (RL2.length + 1) l1 l2 H G) (T2.length + 2) (fi σ π (rwl σ RL1)) RL1.length (H 88 RL1.length + T1.length) K2 G := by
        intro T2
        induction T2 with
        | nil =>
          intro T1 K2 eT hp m2 f2 h93 hh h92
          rw [List.append_nil] at eT
          have hl : lv σ (e0.1, tl σ e0.2.2) π = true := hr_lv hR hwm π hS hp (fun p hpm v hv => hh p (by rw [← eT]; exact hpm) v hv)
          refine ⟨by rw [e3_w32_id (by omega) (by omega)]; omega, fun h => ?_, fun _ => next K2 m2 f2 ⟨by rw [h93, if_pos hl], fun _ j p hp => by rw [m2 88 _ (by decide) (by decide)]; rw [eT] at hp; exact h92 j p hp⟩⟩
          exfalso
          rw [m2 88 _ (by decide) (by decide), e3_w32_id (by omega) (by omega), r5, eT] at h
          omega
        | cons p T2 ihT =>
          intro T1 K2 eT hp m2 f2 h93 hh h92
          have hTl : (tl σ e0.2.2).length = T1.length + (T2.length + 1) := by rw [eT, List.length_append]; rfl
          have hpj : (tl σ e0.2.2)[T1.length]? = some p := by rw [eT, List.getElem?_append_right (Nat.le_refl _), Nat.sub_self]; rfl
          have hpm : p ∈ tl σ e0.2.2 := List.mem_of_getElem? hpj
          obtain ⟨t1, t2, t3⟩ := r6 T1.length p hpj
          have ht : 0 ≤ H 88 RL1.length + (T1.length : Int) ∧ H 88 RL1.length + (T1.length : Int) < 33000 := by omega
          obtain ⟨nd1, nd2, nd3⟩ := (hR _ hwm).2.2 p hpm
          refine ⟨by rw [e3_w32_id (by omega) (by omega)]; omega, brT (by rw [m2 88 _ (by decide) (by decide), e3_w32_id (by omega) (by omega), r5]; omega) ⟨i0, brF (by rw [h93]; decide) ?_⟩⟩
          have hSO : ∀ v, kn π p.2 = some v → ∃ π1, (∃ A0 : a_PT, π = A0 ++ (p.2, v.1, v.2) :: π1) ∧ 0 ≤ σ 47 p.1 ∧ v ∈ lbs σ m (rwl σ RL) π1 p.2 (σ 47 p.1) ∧ (∀ w, w ∈ rwl σ RL → lv σ w π1 = true → ∀ q', (q', p.2) ∈ w.2 → σ 47 q' = σ 47 p.1) := fun v hv => SO hR hRo hk.2.2.2.1 hKP hk.2.1 hwm (A := T1) (B := T2) (q := p.1) (x := p.2) eT π hS (fun p' hp' h5 v' hv' => by
            have := hh p' hp' v' hv'
            unfold hr at this
            rw [if_neg (by omega)] at this
            exact this) v hv
          have htb2 : tb σ K2 := fun a k h3 h4 h5 => (m2 a k (by omega) (by omega)).trans (htb a k h3 h4 h5)
          have hA2 : KA L K2 := ⟨by rw [m2 40 105 (by decide) (by decide)]; exact hA.1, fun i q hq => by rw [m2 125 _ (by decide) (by decide), m2 126 _ (by decide) (by decide)]; exact hA.2 i q hq⟩
          have hKL2 : KL σ (rwl σ RL) K2 π L := KL_eq (fun a k h1 h2 => m2 a k (by omega) (by omega)) π L hKL
          -- what follows a test
          have keep : ∀ (K3 : e3_H), (∀ (k : Int), k ≠ RL1.length → K3 93 k = K2 93 k) → (∀ k : Int, k ≠ H 88 RL1.length + (T1.length : Int) → K3 92 k = K2 92 k) → ms H K3 → ∀ (i : Nat) (e : Int × Int × List (Int × Int)), RL1[i]? = some e → FLD1 σ π i e K3 := fun K3 k1 k2 k3 i e' he => by
            have hi : i < RL1.length := (List.getElem?_eq_some_iff.mp he).1
            obtain ⟨y1, y2⟩ := f2 i e' he
            refine ⟨by rw [k1 _ (by omega)]; exact y1, fun hl j q hq => ?_⟩
            have hgi : RL[i]? = some e' := by rw [e, List.getElem?_append_left hi]; exact he
            have hjl : j < (tl σ e'.2.2).length := (List.getElem?_eq_some_iff.mp hq).1
            have hrow := (hM.2.2.2.2 i e' hgi).2.2.2.1
            have hle := M_rows_le hM (i + 1) RL1.length (by omega) (by omega)
            rw [show ((i + 1 : Nat) : Int) = (i : Int) + 1 by omega] at hle
            have e88 : K3 88 i = K2 88 i := by rw [k3 88 _ (by decide) (by decide), m2 88 _ (by decide) (by decide)]
            have f88 : K2 88 i = H 88 i := m2 88 _ (by decide) (by decide)
            rw [e88, k2 _ (by rw [f88]; omega)]
            exact y2 hl j q hq
          have step : ∀ (x5 a b : Int) (K3 : e3_H), K3 = e3_up (e3_up K2 92 (H 88 RL1.length + (T1.length : Int)) a) 93 RL1.length b → (a = if (kn π p.2).isSome = true then 1 else 0) → b = 1 → (∀ v, kn π p.2 = some v → hr σ p.1 v = true) → wM_sift_45 Q (fun l1 l2 H G => wM_sift_5 Q (RL2.length + 1) l1 l2 H G) (T2.length + 2) (fi σ π (rwl σ RL1)) RL1.length (e3_w32 (H 88 RL1.length + (T1.length : Int) + 1)) K3 G := fun x5 a b K3 e3 ha hb hhr => by
            rw [e3_w32_id (by omega) (by omega)]
            have m3 : ms H K3 := by rw [e3]; exact ms_up (ms_up m2 (Or.inl rfl)) (Or.inr rfl)
            have g93 : ∀ k : Int, k ≠ RL1.length → K3 93 k = K2 93 k := fun k hk => by rw [e3, e3_up_ne (fun z => hk z.2), e3_up_ne (ne_1 (by decide))]
            have g92 : ∀ k : Int, k ≠ H 88 RL1.length + (T1.length : Int) → K3 92 k = K2 92 k := fun k hk => by rw [e3, e3_up_ne (ne_1 (by decide)), e3_up_ne (fun z => hk z.2)]
            have := ihT (T1 ++ [p]) K3 (by rw [List.append_assoc]; exact eT) hp m3 (keep K3 g93 g92 m3) (by rw [e3, e3_up_self]; exact hb) (fun p' hp' v hv => by
              rcases List.mem_append.mp hp' with y | y
              · exact hh p' y v hv
              · rw [List.mem_singleton.mp y] at hv ⊢
                exact hhr v hv) (fun j q hq => by
              by_cases hj : j < T1.length
              · rw [List.getElem?_append_left hj] at hq
                rw [g92 _ (by omega)]
                exact h92 j q hq
              · rw [List.getElem?_append_right (by omega)] at hq
                have h0 : j - T1.length < 1 := (List.getElem?_eq_some_iff.mp hq).1
                have hj2 : j = T1.length := by omega
                rw [hj2, Nat.sub_self] at hq
                have hq : some p = some q := hq
                cases hq
                rw [hj2, e3, e3_up_ne (ne_1 (by decide)), e3_up_self]
                exact ha)
            rw [List.length_append] at this
            rw [show H 88 RL1.length + ((T1.length + [p].length : Nat) : Int) = H 88 RL1.length + (T1.length : Int) + 1 by show _ + ((T1.length + 1 : Nat) : Int) = _; omega] at this
            exact this
          refine cM_stands (m := m) (f := f) (π := π) (L := L) ht (by rw [m2 89 _ (by decide) (by decide)]; exact t1) (by rw [m2 90 _ (by decide) (by decide)]; exact t2) (by rw [m2 91 _ (by decide) (by decide)]; exact t3) (x2 p hpm).1 nd3 hA2 hL hKL2 htb2 hS hR hk nd1 nd2 hSO (fun hv => ?_) (fun v hv hh1 => ?_) (fun v hv hh1 => ?_)
          · refine brF (by decide) ⟨ht, ?_⟩
            intro K3 e3
            rw [and_1.1] at e3
            refine brF (by decide) ⟨i0, ?_⟩
            intro K4 e4
            rw [and_1.2] at e4
            exact step 0 0 1 K4 (by rw [e4, e3]) (by rw [hv]; rfl) rfl (fun v hv2 => by rw [hv] at hv2; cases hv2)
          · refine brT rfl ⟨ht, ?_⟩
            intro K3 e3
            rw [and_1.2] at e3
            refine brF (by decide) ⟨i0, ?_⟩
            intro K4 e4
            rw [and_1.2] at e4
            exact step 1 1 1 K4 (by rw [e4, e3]) (by rw [hv]; rfl) rfl (fun v' hv2 => by rw [hv] at hv2; cases hv2; exact hh1)
          · refine brF (by decide) ⟨ht, ?_⟩
            intro K3 e3
            rw [and_1.1] at e3
            refine brT rfl ⟨i0, ?_⟩
            intro K4 e4
            rw [and_1.1] at e4
            have m4 : ms H K4 := by rw [e4, e3]; exact ms_up (ms_up m2 (Or.inl rfl)) (Or.inr rfl)
            refine dead (T2.length + 1) _ K4 m4 (keep K4 (fun k hk => by rw [e4, e3_up_ne (fun z => hk z.2), e3, e3_up_ne (ne_1 (by decide))]) (fun k hk => by rw [e4, e3_up_ne (ne_1 (by decide)), e3, e3_up_ne (fun z => hk z.2)]) m4) (by rw [e4, e3_up_self]) ?_
            cases hz : lv σ (e0.1, tl σ e0.2.2) π with
            | false => rfl
            | true =>
              have := lv_hr hR hwm π hS hz p hpm v hv
              rw [hh1] at this
              cases this
      refine brT (by rw [hm 40 61 (by decide) (by decide), hM.1]; omega) ⟨i0, ?_⟩
      rw [hm 86 _ (by decide) (by decide), r1]
      refine ⟨x1, ?_⟩
      rw [hm 127 _ (by decide) (by decide), hO _ x1.1 x1.2]
      have pre : ∀ (v : Int) (K2 : e3_H), K2 = e3_up K 93 RL1.length v → ∀ (i : Nat) (e : Int × Int × List (Int × Int)), RL1[i]? = some e → FLD1 σ π i e K2 := fun v K2 e2 i e' he => by
        have hi : i < RL1.length := (List.getElem?_eq_some_iff.mp he).1
        obtain ⟨y1, y2⟩ := hf i e' he
        refine ⟨by rw [e2, e3_up_ne (fun z => by have := z.2; omega)]; exact y1, fun hl j q hq => ?_⟩
        rw [e2, e3_up_ne (ne_1 (by decide)), e3_up_ne (ne_1 (by decide))]
        exact y2 hl j q hq
      refine ⟨fun h => ?_, fun h => ?_⟩
      · refine ⟨i0, ?_⟩
        intro K2 e2
        rw [and_1.2] at e2
        have m2 : ms H K2 := by rw [e2]; exact ms_up hm (Or.inr rfl)
        refine ⟨by omega, (tl σ e0.2.2).length + 2, ?_⟩
        have hp : psd e0.1 π = false := by
          cases hz : psd e0.1 π with
          | false => rfl
          | true => rw [hz, if_pos rfl] at h; cases h
        have := tests (tl σ e0.2.2) [] K2 rfl hp m2 (pre 1 K2 e2) (by rw [e2, e3_up_self]) (fun p hp => absurd hp (List.not_mem_nil)) (fun j p hp => by cases hp)
        rw [m2 88 _ (by decide) (by decide)]
        rw [show H 88 RL1.length + (([] : List (Int × Int)).length : Int) = H 88 RL1.length by show _ + (0 : Int) = _; omega] at this
        exact this
      · refine ⟨i0, ?_⟩
        intro K2 e2
        rw [and_1.1] at e2
        have m2 : ms H K2 := by rw [e2]; exact ms_up hm (Or.inr rfl)
        refine ⟨by omega, 1, dead 0 _ K2 m2 (pre 0 K2 e2) (by rw [e2, e3_up_self]) ?_⟩
        cases hz : lv σ (e0.1, tl σ e0.2.2) π with
        | false => rfl
        | true =>
          have := lv_psd π hz
          have this : psd e0.1 π = false := this
          rw [this, if_neg (by decide)] at h
          exact absurd rfl h
  exact ⟨RL.length + 1, rows RL [] H rfl (ms_rf H) (fun i e he => by cases he)⟩
end MSF
