theorem FLD_mb {σ H K : e3_H} {RL : List (Int × Int × List (Int × Int))} {π : a_PT} (h : FLD σ RL π H) (hm : mb H K) : FLD σ RL π K := fun i e he => by
  obtain ⟨h1, h2⟩ := h i e he
  refine ⟨by rw [hm.1 93 _ (by decide) (by decide)]; exact h1, fun hl j p hp => ?_⟩
  rw [hm.1 92 _ (by decide) (by decide), hm.1 88 _ (by decide) (by decide)]
  exact h2 hl j p hp
theorem M_rows_mb {σ H K : e3_H} {RL : List (Int × Int × List (Int × Int))} (h : M_rows σ H RL) (hm : mb H K) : M_rows σ K RL := M_rows_eq h (fun a y ha => by
  rcases ha with z | z
  · exact hm.1 a y (by omega) (by omega)
  · rw [z.1]; exact hm.2 y (by omega))
section MAS
variable {Q : Int → e3_H → e3_G → Prop} {σ H : e3_H} {G : e3_G} {m : Nat} {f : Int} {RL : List (Int × Int × List (Int × Int))} {π : a_PT}
/-- the branches of a place that can be asked at -/
theorem cM_lay {Q : e3_H → e3_G → Prop} (hF : SFT σ m f RL) (htb : tb σ H) (h10 : H 40 10 = (m : Int)) (hM : M_rows σ H RL) (hS : SP σ m (rwl σ RL) π) (hfl : FLD σ RL π H) {e0 : Int × Int × List (Int × Int)} (hmem : e0 ∈ RL) (hl : lv σ (e0.1, tl σ e0.2.2) π = true) {p : Int × Int} (hp : p ∈ tl σ e0.2.2) (ha : ask π p.2 = true) (hQ : ∀ K, BRL ((lbs σ m (rwl σ RL) π p.2 (σ 47 p.1)).map (enc (σ 47 p.1))) K → mb H K → Q K G) : wM_layBranches Q p.2 (σ 47 p.1) H G := by
  obtain ⟨hR, hRo, hk, hKP, h40, hE⟩ := hF
  have hwm : (e0.1, tl σ e0.2.2) ∈ rwl σ RL := List.mem_map.mpr ⟨e0, hmem, rfl⟩
  have hkn : kn π p.2 = none := by
    unfold ask at ha
    rw [Bool.and_eq_true] at ha
    cases hz : kn π p.2 with
    | none => rfl
    | some v => rw [hz] at ha; exact absurd ha.1 (fun y => by cases y)
  refine cM_layBranches (m := m) (π := π) htb h10 hk hM h40 (fun i e he => ?_) (fun e he => ?_) ⟨((hR _ hwm).2.2 p hp).1.1, ((hE e0 hmem).2 p hp).2.1⟩ (fun w hw hlw q hq => ?_) hQ
  · obtain ⟨f1, f2⟩ := hfl i e he
    refine ⟨f1, fun hl2 j q hq hx => ?_⟩
    rw [f2 hl2 j q hq, hx, hkn]
    rfl
  · have hwm2 : (e.1, tl σ e.2.2) ∈ rwl σ RL := List.mem_map.mpr ⟨e, he, rfl⟩
    obtain ⟨a1, a2, a3⟩ := hR _ hwm2
    exact ⟨a1, fun q hq => ⟨((hE e he).2 q hq).1, (a3 q hq).1, (a3 q hq).2.1⟩⟩
  · exact SH hR hS hk.2.2.2.1 hKP hk.2.1 ha hw hwm hlw hl hq hp
/-- the test to ask for -/
theorem cM_asksAt {way : Int} (hF : SFT σ m f RL) (htb : tb σ H) (h10 : H 40 10 = (m : Int)) (hM : M_rows σ H RL) (hS : SP σ m (rwl σ RL) π) (hfl : FLD σ RL π H) (hway : 0 ≤ way ∧ way ≤ 3) {i0 : Nat} {e0 : Int × Int × List (Int × Int)} (hget : RL[i0]? = some e0) (hl : lv σ (e0.1, tl σ e0.2.2) π = true)
    (hQ : ∀ (K : e3_H) (l3 : Int), mb H K → (match cho σ m (rwl σ RL) π way (tl σ e0.2.2) 0 none 0 with
      | none => l3 = -4
      | some p => ∃ t : Nat, (tl σ e0.2.2)[t]? = some p ∧ l3 = H 88 i0 + t) → Q l3 K G) : wM_asksAt Q i0 way H G := by
  obtain ⟨hR, hRo, hk, hKP, h40, hE⟩ := id hF
  have hmem := List.mem_of_getElem? hget
  have hwm : (e0.1, tl σ e0.2.2) ∈ rwl σ RL := List.mem_map.mpr ⟨e0, hmem, rfl⟩
  obtain ⟨pw, ty, nd⟩ := hR _ hwm
  have hi : i0 < RL.length := (List.getElem?_eq_some_iff.mp hget).1
  obtain ⟨r1, r2, ⟨r3, r4⟩, r5, r6⟩ := hM.2.2.2.2 i0 e0 hget
  have h806 := hM.2.2.2.1
  have h92 := (hfl i0 e0 hget).2 hl
  have hrl : (rwl σ RL).length = RL.length := by unfold rwl; rw [List.length_map]
  have h8 : ∀ w, w ∈ rwl σ RL → ∀ p, p ∈ w.2 → (p.2 - 1) % 8 < 4 := fun w hw p hp => by
    obtain ⟨e, e1, e2⟩ := List.mem_map.mp hw
    rw [← e2] at hp
    exact ((hE e e1).2 p hp).2.2.1
  have key : ∀ (T2 T1 : List (Int × Int)) (c : Option (Int × Int)) (b l3 l4 : Int) (K : e3_H), tl σ e0.2.2 = T1 ++ T2 → mb H K → (match c with
      | none => l3 = -4
      | some p => ∃ t : Nat, (tl σ e0.2.2)[t]? = some p ∧ l3 = H 88 i0 + t) → (way ≠ 3 → l4 = b) → (way = 3 → c ≠ none → b < T1.length) → (way = 0 → b = 0) → cho σ m (rwl σ RL) π way T2 T1.length c b = cho σ m (rwl σ RL) π way (tl σ e0.2.2) 0 none 0 → wM_asksAt_14 Q (T2.length + 1) i0 way l3 l4 (H 88 i0 + T1.length) K G := by
    intro T2
    induction T2 with
    | nil =>
      intro T1 c b l3 l4 K eT hm hc _ _ _ he
      rw [List.append_nil] at eT
      have he : c = cho σ m (rwl σ RL) π way (tl σ e0.2.2) 0 none 0 := he
      refine ⟨by rw [e3_w32_id (by omega) (by omega)]; omega, brF (by rw [hm.1 88 _ (by decide) (by decide), e3_w32_id (by omega) (by omega), r5, eT]; omega) (hQ K l3 hm ?_)⟩
      rw [← he]
      exact hc
    | cons p T2 ih =>
      intro T1 c b l3 l4 K eT hm hc h4 h3 h0 he
      have hTl : (tl σ e0.2.2).length = T1.length + (T2.length + 1) := by rw [eT, List.length_append]; rfl
      have hpj : (tl σ e0.2.2)[T1.length]? = some p := by rw [eT, List.getElem?_append_right (Nat.le_refl _), Nat.sub_self]; rfl
      have hpm : p ∈ tl σ e0.2.2 := List.mem_of_getElem? hpj
      obtain ⟨t1, t2, t3⟩ := r6 T1.length p hpj
      have ht : 0 ≤ H 88 i0 + (T1.length : Int) ∧ H 88 i0 + (T1.length : Int) < 33000 := by omega
      obtain ⟨nd1, nd2, nd3⟩ := nd p hpm
      obtain ⟨x1, x2, x3, x4⟩ := (hE e0 hmem).2 p hpm
      have i41 : (0 : Int) ≤ i0 ∧ (i0 : Int) < 41 := by omega
      have nx : ∀ (c' : Option (Int × Int)) (b' l3' l4' : Int) (K2 : e3_H), mb H K2 → (match c' with
        | none => l3' = -4
        | some p => ∃ t : Nat, (tl σ e0.2.2)[t]? = some p ∧ l3' = H 88 i0 + t) → (way ≠ 3 → l4' = b') → (way = 3 → c' ≠ none → b' < (T1.length : Int) + 1) → (way = 0 → b' = 0) → cho σ m (rwl σ RL) π way T2 (T1.length + 1) c' b' = cho σ m (rwl σ RL) π way (tl σ e0.2.2) 0 none 0 → wM_asksAt_14 Q (T2.length + 1) i0 way l3' l4' (e3_w32 (H 88 i0 + (T1.length : Int) + 1)) K2 G := fun c' b' l3' l4' K2 m2 a1 a2 a3 a4 a5 => by
        rw [e3_w32_id (by omega) (by omega)]
        have := ih (T1 ++ [p]) c' b' l3' l4' K2 (by rw [List.append_assoc]; exact eT) m2 a1 a2 (fun y z => by
          have := a3 y z
          rw [List.length_append]
          show b' < ((T1.length + 1 : Nat) : Int)
          omega) a4 (by rw [List.length_append]; exact a5)
        rw [List.length_append] at this
        rw [show H 88 i0 + ((T1.length + [p].length : Nat) : Int) = H 88 i0 + (T1.length : Int) + 1 by show _ + ((T1.length + 1 : Nat) : Int) = _; omega] at this
        exact this
      have hcho : cho σ m (rwl σ RL) π way (p :: T2) T1.length c b = if ask π p.2 = true ∧ (c = none ∨ b < wor σ m (rwl σ RL) π way p.1 p.2 T1.length) then cho σ m (rwl σ RL) π way T2 (T1.length + 1) (some p) (wor σ m (rwl σ RL) π way p.1 p.2 T1.length) else cho σ m (rwl σ RL) π way T2 (T1.length + 1) c b := rfl
      rw [hcho] at he
      -- not asked
      have skip : ask π p.2 = false → wM_asksAt_151 Q (fun l1 l2 l3 l4 l5 H G => wM_asksAt_14 Q (T2.length + 1) l1 l2 l3 l4 l5 H G) i0 way l3 l4 (H 88 i0 + T1.length) 0 K G := fun ha => by
        rw [if_neg (fun z => by rw [ha] at z; exact absurd z.1 (by decide))] at he
        exact brT rfl (nx c b l3 l4 K hm hc h4 (fun y z => by have := h3 y z; omega) h0 he)
      have skip91 : ask π p.2 = false → wM_asksAt_91 Q (fun l1 l2 l3 l4 l5 H G => wM_asksAt_14 Q (T2.length + 1) l1 l2 l3 l4 l5 H G) i0 way l3 l4 (H 88 i0 + T1.length) 0 K G := fun ha => ⟨i41, 1, ⟨fun _ => brT rfl (skip ha), fun _ => skip ha⟩⟩
      -- the worth is told
      have w259 : ask π p.2 = true → ∀ (K2 : e3_H) (l7 : Int), mb H K2 → (way ≠ 3 → l7 = wor σ m (rwl σ RL) π way p.1 p.2 T1.length) → wM_asksAt_259 Q (fun l1 l2 l3 l4 l5 H G => wM_asksAt_14 Q (T2.length + 1) l1 l2 l3 l4 l5 H G) i0 way l3 l4 (H 88 i0 + T1.length) l7 K2 G := fun ha K2 l7 m2 hw => by
        have take : (c = none ∨ b < wor σ m (rwl σ RL) π way p.1 p.2 T1.length) → wM_asksAt_281 Q (fun l1 l2 l3 l4 l5 H G => wM_asksAt_14 Q (T2.length + 1) l1 l2 l3 l4 l5 H G) i0 way (H 88 i0 + T1.length) l7 K2 G := fun hcb => by
          rw [if_pos ⟨ha, hcb⟩] at he
          refine nx (some p) (wor σ m (rwl σ RL) π way p.1 p.2 T1.length) _ l7 K2 m2 ⟨T1.length, hpj, rfl⟩ hw (fun y _ => ?_) (fun y => ?_) he
          · unfold wor
            rw [if_neg (by omega), if_neg (by omega), if_pos y]
            omega
          · unfold wor
            rw [if_neg (by omega), if_neg (by omega), if_neg (by omega)]
        have leave : ¬ (c = none ∨ b < wor σ m (rwl σ RL) π way p.1 p.2 T1.length) → wM_asksAt_288 Q (fun l1 l2 l3 l4 l5 H G => wM_asksAt_14 Q (T2.length + 1) l1 l2 l3 l4 l5 H G) i0 way l3 l4 (H 88 i0 + T1.length) K2 G := fun hcb => by
          rw [if_neg (fun z => hcb z.2)] at he
          exact nx c b l3 l4 K2 m2 hc h4 (fun y z => by have := h3 y z; omega) h0 he
        refine ⟨fun z => take ?_, fun z => ?_⟩
        · cases c with
          | none => exact Or.inl rfl
          | some p' =>
            obtain ⟨t, _, t2⟩ := hc
            omega
        · have hcn : c ≠ none := fun y => by rw [y] at hc; exact z hc
          refine ⟨fun y => take (Or.inr ?_), fun y => ⟨fun z2 => ⟨fun z3 => take (Or.inr ?_), fun z3 => leave (fun z4 => ?_)⟩, fun z2 => leave (fun z4 => ?_)⟩⟩
          · have := h3 y hcn
            unfold wor
            rw [if_neg (by omega), if_neg (by omega), if_pos y]
            exact this
          · rw [← hw y, ← h4 y]; exact z3
          · rcases z4 with z4 | z4
            · exact hcn z4
            · rw [← hw y, ← h4 y] at z4; exact z3 z4
          · rcases z4 with z4 | z4
            · exact hcn z4
            · have hb0 := h0 (by omega)
              unfold wor at z4
              rw [if_neg (by omega), if_neg (by omega), if_neg (by omega)] at z4
              omega
      -- asked
      have asked : ask π p.2 = true → wM_asksAt_151 Q (fun l1 l2 l3 l4 l5 H G => wM_asksAt_14 Q (T2.length + 1) l1 l2 l3 l4 l5 H G) i0 way l3 l4 (H 88 i0 + T1.length) 1 K G := fun ha => by
        have hkn : kn π p.2 = none := by
          have ha2 := ha
          unfold ask at ha2
          rw [Bool.and_eq_true] at ha2
          cases hz : kn π p.2 with
          | none => rfl
          | some v => rw [hz] at ha2; exact absurd ha2.1 (fun y => by cases y)
        have hMK := M_rows_mb hM hm
        have hfK := FLD_mb hfl hm
        have k90 : K 90 (H 88 i0 + (T1.length : Int)) = p.2 := by rw [hm.1 90 _ (by decide) (by decide)]; exact t2
        have k91 : K 91 (H 88 i0 + (T1.length : Int)) = p.1 := by rw [hm.1 91 _ (by decide) (by decide)]; exact t3
        refine brF (by decide) ⟨fun hw1 => ?_, fun hw1 => ⟨fun hw2 => ?_, fun hw2 => ?_⟩⟩
        · -- how many rows look there
          have cnt : ∀ (RL2 RL1 : List (Int × Int × List (Int × Int))), RL = RL1 ++ RL2 → wM_asksAt_170 Q (fun l1 l2 l3 l4 l5 H G => wM_asksAt_14 Q (T2.length + 1) l1 l2 l3 l4 l5 H G) (RL2.length + 1) i0 way l3 l4 (H 88 i0 + T1.length) ((ltq σ π p.2 (rwl σ RL1)).length : Int) RL1.length K G := by
            intro RL2
            induction RL2 with
            | nil =>
              intro RL1 e
              rw [List.append_nil] at e
              subst e
              refine brF (by rw [hMK.1]; omega) (w259 ha K _ hm (fun _ => ?_))
              unfold wor
              rw [if_pos hw1]
            | cons e1 RL2 ih2 =>
              intro RL1 e
              have hlen : RL.length = RL1.length + (RL2.length + 1) := by rw [e, List.length_append]; rfl
              have hget1 : RL[RL1.length]? = some e1 := by rw [e, List.getElem?_append_right (Nat.le_refl _), Nat.sub_self]; rfl
              have hmem1 := List.mem_of_getElem? hget1
              have hwm1 : (e1.1, tl σ e1.2.2) ∈ rwl σ RL := List.mem_map.mpr ⟨e1, hmem1, rfl⟩
              have eapp : rwl σ (RL1 ++ [e1]) = rwl σ RL1 ++ [(e1.1, tl σ e1.2.2)] := by unfold rwl; rw [List.map_append]; rfl
              have hlq := ltq_len (σ := σ) (π := π) (x := p.2) (rwl σ RL1)
              have hrl1 : (rwl σ RL1).length = RL1.length := by unfold rwl; rw [List.length_map]
              have go : ∀ d : Int, ((ltq σ π p.2 (rwl σ RL1)).length : Int) + d = ((ltq σ π p.2 (rwl σ (RL1 ++ [e1]))).length : Int) → 0 ≤ d → d ≤ 1 → wM_asksAt_212 Q (fun l1 l2 l3 l4 l5 H G => wM_asksAt_14 Q (T2.length + 1) l1 l2 l3 l4 l5 H G) (fun l1 l2 l3 l4 l5 l7 l8 H G => wM_asksAt_170 Q (fun l1 l2 l3 l4 l5 H G => wM_asksAt_14 Q (T2.length + 1) l1 l2 l3 l4 l5 H G) (RL2.length + 1) l1 l2 l3 l4 l5 l7 l8 H G) i0 way l3 l4 (H 88 i0 + T1.length) RL1.length d (ltq σ π p.2 (rwl σ RL1)).length K G := fun d hd d0 d1 => by
                show wM_asksAt_170 Q (fun l1 l2 l3 l4 l5 H G => wM_asksAt_14 Q (T2.length + 1) l1 l2 l3 l4 l5 H G) (RL2.length + 1) i0 way l3 l4 (H 88 i0 + T1.length) (e3_w32 (((ltq σ π p.2 (rwl σ RL1)).length : Int) + d)) (e3_w32 ((RL1.length : Int) + 1)) K G
                rw [e3_w32_id (by omega) (by omega), e3_w32_id (by omega) (by omega), hd]
                have := ih2 (RL1 ++ [e1]) (by rw [List.append_assoc]; exact e)
                rw [List.length_append] at this
                exact this
              refine brT (by rw [hMK.1]; omega) ⟨by omega, ?_⟩
              rw [(hfK RL1.length e1 hget1).1]
              by_cases hlv : lv σ (e1.1, tl σ e1.2.2) π = true
              · rw [if_pos hlv]
                refine brF (by decide) ⟨ht, ?_⟩
                rw [k90]
                refine cM_isLeft hMK h40 hget1 (hfK RL1.length e1 hget1) hlv (fun hq _ => ?_) (fun hq => ?_)
                · obtain ⟨q, hq⟩ := hq
                  refine brF (by decide) (go 1 ?_ (by decide) (by decide))
                  rw [eapp, ltq_app, ltq_some hlv (tq_of _ (q, p.2) (hR _ hwm1).1 hq), List.length_append]
                  show _ = ((_ + 1 : Nat) : Int)
                  omega
                · refine brT rfl (go 0 ?_ (by decide) (by decide))
                  rw [eapp, ltq_app, ltq_none (Or.inr ?_), List.append_nil]
                  · omega
                  · cases hz : tq (tl σ e1.2.2) p.2 with
                    | none => rfl
                    | some q => exact absurd (tq_mem _ _ _ hz) (hq hkn q)
              · rw [if_neg hlv]
                have hlf : lv σ (e1.1, tl σ e1.2.2) π = false := by
                  cases hz : lv σ (e1.1, tl σ e1.2.2) π with
                  | true => exact absurd hz hlv
                  | false => rfl
                refine brT rfl (go 0 ?_ (by decide) (by decide))
                rw [eapp, ltq_app, ltq_none (Or.inl hlf), List.append_nil]
                omega
          exact ⟨RL.length + 1, cnt RL [] rfl⟩
        · refine ⟨ht, ht, ?_⟩
          rw [k90, k91]
          refine ⟨x1, ?_⟩
          rw [hm.1 47 _ (by decide) (by decide), htb 47 _ (by decide) (by decide) (by decide)]
          refine cM_lay hF (tb_mb htb hm) (by rw [hm.2 10 (by decide)]; exact h10) hMK hS hfK hmem hl hpm ha (fun K2 k1 k2 => w259 ha K2 _ (mb_tr hm k2) (fun _ => ?_))
          have hlb := lbs_len (σ := σ) (m := m) (R := rwl σ RL) (π := π) (x := p.2) (s := σ 47 p.1) (by omega) hk.2.1
          rw [k1.1, List.length_map, e3_w32_id (by omega) (by omega)]
          unfold wor
          rw [if_neg hw1, if_pos hw2]
        · refine w259 ha K 0 hm (fun h => ?_)
          unfold wor
          rw [if_neg hw1, if_neg hw2, if_neg h]
      have asked91 : ask π p.2 = true → wM_asksAt_91 Q (fun l1 l2 l3 l4 l5 H G => wM_asksAt_14 Q (T2.length + 1) l1 l2 l3 l4 l5 H G) i0 way l3 l4 (H 88 i0 + T1.length) 1 K G := fun ha => by
        have dup : ∀ (B A : List (Int × Int)), T1 = A ++ B → wM_asksAt_99 Q (fun l1 l2 l3 l4 l5 H G => wM_asksAt_14 Q (T2.length + 1) l1 l2 l3 l4 l5 H G) (B.length + 1) i0 way l3 l4 (H 88 i0 + T1.length) 1 (H 88 i0 + A.length) K G := by
          intro B
          induction B with
          | nil =>
            intro A eA
            rw [List.append_nil] at eA
            rw [← eA]
            exact brF (by omega) (asked ha)
          | cons u B ihB =>
            intro A eA
            have hAl : T1.length = A.length + (B.length + 1) := by rw [eA, List.length_append]; rfl
            have huj : (tl σ e0.2.2)[A.length]? = some u := by rw [eT, eA, List.append_assoc, List.getElem?_append_right (Nat.le_refl _), Nat.sub_self]; rfl
            obtain ⟨u1, u2, u3⟩ := r6 A.length u huj
            have hne : u.2 ≠ p.2 := by
              rw [eT] at pw
              have pw : (T1 ++ p :: T2).Pairwise (fun a b => a.2 ≠ b.2) := pw
              exact (List.pairwise_append.mp pw).2.2 u (by rw [eA]; exact List.mem_append_right _ (List.mem_cons_self ..)) p (List.mem_cons_self ..)
            have go : wM_asksAt_138 Q (fun l1 l2 l3 l4 l5 H G => wM_asksAt_14 Q (T2.length + 1) l1 l2 l3 l4 l5 H G) (fun l1 l2 l3 l4 l5 l6 l7 H G => wM_asksAt_99 Q (fun l1 l2 l3 l4 l5 H G => wM_asksAt_14 Q (T2.length + 1) l1 l2 l3 l4 l5 H G) (B.length + 1) l1 l2 l3 l4 l5 l6 l7 H G) i0 way l3 l4 (H 88 i0 + T1.length) (H 88 i0 + A.length) K G := by
              show wM_asksAt_99 Q (fun l1 l2 l3 l4 l5 H G => wM_asksAt_14 Q (T2.length + 1) l1 l2 l3 l4 l5 H G) (B.length + 1) i0 way l3 l4 (H 88 i0 + T1.length) 1 (e3_w32 (H 88 i0 + (A.length : Int) + 1)) K G
              rw [e3_w32_id (by omega) (by omega)]
              have := ihB (A ++ [u]) (by rw [List.append_assoc]; exact eA)
              rw [List.length_append] at this
              rw [show H 88 i0 + ((A.length + [u].length : Nat) : Int) = H 88 i0 + (A.length : Int) + 1 by show _ + ((A.length + 1 : Nat) : Int) = _; omega] at this
              exact this
            refine brT (by omega) (brF (by decide) ⟨by omega, fun _ => ⟨by omega, ht, brF ?_ go⟩, fun _ => go⟩)
            rw [hm.1 90 _ (by decide) (by decide), hm.1 90 _ (by decide) (by decide), u2, t2]
            exact hne
        refine ⟨i41, T1.length + 1, ?_⟩
        rw [hm.1 88 _ (by decide) (by decide)]
        have := dup T1 [] rfl
        rw [show H 88 i0 + (([] : List (Int × Int)).length : Int) = H 88 i0 by show _ + (0 : Int) = _; omega] at this
        exact this
      have anc : ask π p.2 = true → ∀ (N : Nat) (y : Int), 0 ≤ y → y ≤ N → y < 2147483648 → (y = 0 ∨ kn π y ≠ none) → wM_asksAt_55 Q (fun l1 l2 l3 l4 l5 H G => wM_asksAt_14 Q (T2.length + 1) l1 l2 l3 l4 l5 H G) (N + 1) i0 way l3 l4 (H 88 i0 + T1.length) 1 y K G := fun ha => by
        intro N
        induction N with
        | zero =>
          intro y y0 y1 _ _
          exact brF (by omega) (asked91 ha)
        | succ N ihN =>
          intro y y0 y1 y2 hy
          refine ⟨fun h => brF (by decide) ?_, fun _ => asked91 ha⟩
          have hkn : kn π y ≠ none := by
            rcases hy with z | z
            · omega
            · exact z
          obtain ⟨v, hv⟩ := Option.ne_none_iff_exists'.mp hkn
          obtain ⟨u1, u2⟩ := kn_up h8 π y v hS (by omega) hv
          refine cM_isLeft (M_rows_mb hM hm) h40 hget (FLD_mb hfl hm i0 e0 hget) hl (fun _ hz => absurd hz hkn) (fun _ => brT rfl ?_)
          show wM_asksAt_55 Q _ (N + 1) i0 way l3 l4 (H 88 i0 + T1.length) 1 (e3_shr y 3) K G
          rw [shr_3 y0 y2]
          refine ihN (y / 8) (by omega) (by omega) (by omega) ?_
          rw [show y / 8 = (y - 1) / 8 by omega]
          exact u2
      refine ⟨by rw [e3_w32_id (by omega) (by omega)]; omega, brT (by rw [hm.1 88 _ (by decide) (by decide), e3_w32_id (by omega) (by omega), r5]; omega) ⟨ht, ?_⟩⟩
      rw [hm.1 92 _ (by decide) (by decide), h92 T1.length p hpj]
      have sh : e3_shr (K 90 (H 88 i0 + (T1.length : Int))) 3 = (p.2 - 1) / 8 := by
        rw [hm.1 90 _ (by decide) (by decide), t2, shr_3 (by omega) (by omega)]
        omega
      cases hkn : kn π p.2 with
      | some v =>
        have ha : ask π p.2 = false := by
          unfold ask
          rw [hkn]
          rfl
        refine brF (by rw [if_pos (show (some v).isSome = true from rfl)]; decide) ⟨ht, 1, ?_⟩
        exact ⟨fun _ => brT rfl (skip91 ha), fun _ => skip91 ha⟩
      | none =>
        refine brT rfl ⟨ht, ?_⟩
        rw [sh]
        by_cases hy : (p.2 - 1) / 8 = 0 ∨ kn π ((p.2 - 1) / 8) ≠ none
        · have ha : ask π p.2 = true := by
            unfold ask
            rw [hkn]
            show (decide ((p.2 - 1) / 8 = 0) || (kn π ((p.2 - 1) / 8)).isSome) = true
            rcases hy with z | z
            · rw [decide_eq_true z]; rfl
            · obtain ⟨v, hv⟩ := Option.ne_none_iff_exists'.mp z
              rw [hv, Bool.or_eq_true]
              exact Or.inr rfl
          exact ⟨((p.2 - 1) / 8).toNat + 1, anc ha ((p.2 - 1) / 8).toNat ((p.2 - 1) / 8) (by omega) (by omega) (by omega) hy⟩
        · have hy0 : (p.2 - 1) / 8 ≠ 0 := fun z => hy (Or.inl z)
          have hyk : kn π ((p.2 - 1) / 8) = none := by
            cases hz : kn π ((p.2 - 1) / 8) with
            | none => rfl
            | some v => exact absurd (Or.inr (by rw [hz]; exact fun z => by cases z)) hy
          have ha : ask π p.2 = false := by
            unfold ask
            rw [hkn, hyk, decide_eq_false hy0]
            rfl
          have hpar : ∃ q, (q, (p.2 - 1) / 8) ∈ tl σ e0.2.2 := by
            rcases ty p hpm with ⟨z, _⟩ | ⟨p', z1, z2, z3, _⟩
            · exact absurd z hy0
            · exact ⟨p'.1, by rw [z3]; exact z1⟩
          refine ⟨2, brT (by omega) (brF (by decide) ?_)⟩
          refine cM_isLeft (M_rows_mb hM hm) h40 hget (FLD_mb hfl hm i0 e0 hget) hl (fun _ _ => brF (by decide) ?_) (fun z => absurd hpar (fun y => by
            obtain ⟨q, hq⟩ := y
            exact z hyk q hq))
          exact ⟨fun _ => brT rfl (skip91 ha), fun _ => skip91 ha⟩
  refine ⟨by omega, (tl σ e0.2.2).length + 1, ?_⟩
  have := key (tl σ e0.2.2) [] none 0 (-4) 0 H rfl (mb_rf H) rfl (fun _ => rfl) (fun _ z => absurd rfl z) (fun _ => rfl) rfl
  rw [show H 88 i0 + (([] : List (Int × Int)).length : Int) = H 88 i0 by show _ + (0 : Int) = _; omega] at this
  exact this
end MAS
