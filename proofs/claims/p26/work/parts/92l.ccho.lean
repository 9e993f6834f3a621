section CHO
variable {σ g : e3_H} {m : Nat} {pn cx : Int → Int} {cnt : Nat} {R : a_RW} {fu : Int} {H : e3_H} {G : e3_G} {π : a_PT} {fr : Nat}
theorem DK_LF {K : e3_H} (h : DK π cx cnt H G) (hF : LF fr H K) : DK π cx cnt K G := by
  obtain ⟨kl, ⟨k1, k2⟩, k3, k4, k5⟩ := h
  have e4 : K 16 4 = H 16 4 := hF.1 16 4 (by decide) (by decide)
  refine ⟨kl, by rw [e4]; exact ⟨k1, k2⟩, k3, by rw [e4]; exact k4, fun p p0 p1 => ?_⟩
  rw [e4, hF.1 _ p (by omega) (by omega)]
  exact k5 p p0 p1
theorem cD_rowsAt {Q : Int → e3_H → e3_G → Prop} {M : Nat} {p : Int} (hD : DX σ g m pn cx cnt R fu H G) (hf : H 16 2 = fu) (hM : MK R (fun w => lv σ w π) M) (hp : 0 ≤ p ∧ p < cnt) (hQ : Q ((ltq σ π (cx p) R).length : Int) H G) : wD_rowsAt Q p (M : Int) H G := by
  have h40 := hD.2.2.1.2
  have ob : e3_ob G 8 (H 16 2) := by rw [hf]; exact ga_ob (c := 8) hD.2.1.2
  have key : ∀ (R2 R1 : a_RW), R = R1 ++ R2 → wD_rowsAt_6 Q (R2.length + 1) p (M : Int) ((ltq σ π (cx p) R1).length : Int) R1.length H G := by
    intro R2
    induction R2 with
    | nil =>
      intro R1 e
      rw [List.append_nil] at e
      subst e
      exact ⟨ob, brF (by rw [hf, hD.2.2.1.1]; omega) hQ⟩
    | cons w R2 ih =>
      intro R1 e
      have hlen : R.length = R1.length + (R2.length + 1) := by rw [e, List.length_append]; rfl
      have hw : R[R1.length]? = some w := by rw [e, List.getElem?_append_right (Nat.le_refl _), Nat.sub_self]; rfl
      have hl2 := ltq_len (σ := σ) (π := π) (x := cx p) R1
      have next : ∀ l4 : Int, l4 = ((ltq σ π (cx p) (R1 ++ [w])).length : Int) → wD_rowsAt_32 Q (fun l1 l2 l4 l5 H G => wD_rowsAt_6 Q (R2.length + 1) l1 l2 l4 l5 H G) p (M : Int) l4 R1.length H G := fun l4 e4 => by
        show wD_rowsAt_6 Q (R2.length + 1) p (M : Int) l4 (e3_w32 ((R1.length : Int) + 1)) H G
        rw [e3_w32_id (x := (R1.length : Int) + 1) (by omega) (by omega), e4]
        have := ih (R1 ++ [w]) (by rw [List.append_assoc]; exact e)
        rw [List.length_append (as := R1)] at this
        exact this
      refine ⟨ob, brT (by rw [hf, hD.2.2.1.1]; omega) ?_⟩
      refine cD_testAt hD hf hM hp hw (fun hb q hq hm => ?_) (fun hz => brT (by decide) (next _ ?_))
      · have hb : lv σ w π = true := hb
        have hx := (hD.2.2.2.2.2.1 _ w hw).2.2.2.2.2.2.2.2.1 (q, cx p) hm
        have x0 : 139 ≤ g 0 q := hx.1.1
        refine brF (by omega) (next _ ?_)
        rw [e3_w32_id (by omega) (by omega), ltq_app, ltq_some hb hq, List.length_append]
        show _ = (((ltq σ π (cx p) R1).length + 1 : Nat) : Int)
        omega
      · rw [ltq_app, ltq_none hz, List.append_nil]
  exact ⟨R.length + 1, key R [] rfl⟩
theorem ltq_has {x q : Int} {w : Int × List (Int × Int)} (hw : w ∈ R) (hl : lv σ w π = true) (hq : tq w.2 x = some q) : ltq σ π x R ≠ [] := by
  obtain ⟨A, B, e⟩ := List.append_of_mem hw
  rw [e, ltq_app]
  intro z
  have h2 := (List.append_eq_nil_iff.mp z).2
  have h3 : ltq σ π x ([w] ++ B) = [] := h2
  rw [ltq_app, ltq_some hl hq] at h3
  cases h3
theorem cD_worthOf {Q : Int → e3_H → e3_G → Prop} {M t : Nat} {way q : Int} {w : Int × List (Int × Int)} (hG : GB G) (hD : DX σ g m pn cx cnt R fu H G) (hf : H 16 2 = fu) (hway : H 16 3 = way) (hM : MK R (fun w => lv σ w π) M) (hw : w ∈ R) (hl : lv σ w π = true) (hpw : w.2.Pairwise (fun a b => a.2 ≠ b.2)) {x : Int} (hm : (q, x) ∈ w.2) (hx : DXp σ g pn cx cnt H G (q, x)) (h47 : σ 47 q ≤ 100) (hfr : H 16 6 = (fr : Int)) (hfr2 : fr ≤ 119) (hsh : ∀ v, v ∈ R → lv σ v π = true → ∀ q', (q', x) ∈ v.2 → σ 47 q' = σ 47 q) (hQ : ∀ K, LF fr H K → K 16 6 = (fr : Int) → Q (wor σ m R π way q x t) K G) : wD_worthOf Q (pn q) t (M : Int) H G := by
  have hcx : cx (pn q) = x := hx.2.2.2.2.2.1
  have hp : 0 ≤ pn q ∧ pn q < cnt := hx.2.2.2.2.1
  unfold wor at hQ
  refine ⟨fun h1 => ?_, fun h2 => ?_, fun h3 => ?_, fun h4 => ?_⟩
  · rw [if_pos (by omega)] at hQ
    refine cD_rowsAt hD hf hM hp ?_
    rw [hcx]
    exact hQ H (LF_rf fr H) hfr
  · rw [if_neg (by omega), if_pos (by omega)] at hQ
    refine cD_pushLabels (f := 0) (s := σ 47 q) hG hD hf hM hp hfr hfr2 ⟨hx.2.2.2.2.2.2.2.2.1.1, h47⟩ (by rw [hcx]; exact hsh) (by rw [hcx]; exact ltq_has hw hl (tq_of w.2 (q, x) hpw hm)) (fun K b f => ?_)
    intro H7 e7
    rw [hcx] at b
    have hb6 := b.1
    rw [List.length_map] at hb6
    have e6 : K 16 6 - H 16 6 = ((lbs σ m R π x (σ 47 q)).length : Int) := by rw [hfr, hb6]; omega
    have hlen : (lbs σ m R π x (σ 47 q)).length ≤ 200000 := by
      have h1 := congrArg List.length (lbs_snd (σ := σ) (m := m) (R := R) (π := π) (x := x) (s := σ 47 q))
      rw [List.length_map, List.length_append] at h1
      have h2 := accL_len (σ := σ) (s := σ 47 q) (ltq σ π x R)
      have h3 := ltq_len (σ := σ) (π := π) (x := x) R
      have h4 := hD.2.2.1.2
      have h5 := lvs_len (σ := σ) (m := m) (s := σ 47 q) m
      have h6 := hD.1.2.2.1
      have h7 : (tlb σ m (σ 47 q)).length ≤ 26 := by
        unfold tlb
        split
        · show 1 ≤ 26; omega
        · split
          · show 2 ≤ 26; omega
          · split
            · show 1 ≤ 26; omega
            · show (List.map _ _).length + 1 ≤ 26; rw [List.length_map]; omega
      omega
    rw [e6, e3_w32_id (x := ((lbs σ m R π x (σ 47 q)).length : Int)) (by omega) (by omega), e3_w32_id (by omega) (by omega)]
    refine hQ H7 ⟨fun a y ha hy => ?_, fun y hy => ?_⟩ (by rw [e7, e3_up_self]; exact hfr)
    · rw [e7, e3_up_ne (fun z => hy z)]
      exact f.1 a y ha hy
    · rw [e7, e3_up_ne (ne_1 (by decide))]
      exact f.2 y hy
  · rw [if_neg (by omega), if_neg (by omega), if_pos (by omega)] at hQ
    exact hQ H (LF_rf fr H) hfr
  · rw [if_neg (by omega), if_neg (by omega), if_neg (by omega)] at hQ
    exact hQ H (LF_rf fr H) hfr
/-- the place to ask at -/
theorem cD_chosen {Q : Int → e3_H → e3_G → Prop} {M i : Nat} {way : Int} {w : Int × List (Int × Int)} (hG : GB G) (hD : DX σ g m pn cx cnt R fu H G) (hf : H 16 2 = fu) (hway : H 16 3 = way) (hM : MK R (fun w => lv σ w π) M) (hK : DK π cx cnt H G) (hP : PK π) (hw : R[i]? = some w) (hl : lv σ w π = true) (h47 : ∀ p, p ∈ w.2 → σ 47 p.1 ≤ 100) (hfr : H 16 6 = (fr : Int)) (hfr2 : fr ≤ 119) (hsh : ∀ x, ask π x = true → ∀ q, (q, x) ∈ w.2 → ∀ v, v ∈ R → lv σ v π = true → ∀ q', (q', x) ∈ v.2 → σ 47 q' = σ 47 q)
    (hQ : ∀ K, LF fr H K → K 16 6 = (fr : Int) → Q (match cho σ m R π way w.2 0 none 0 with
      | none => -1
      | some p => pn p.1) K G) : wD_chosenPlace Q (H (fu + 3) i) (M : Int) H G := by
  have hrow := hD.2.2.2.2.2.1 i w hw
  obtain ⟨⟨a0, a1⟩, a2, ⟨a3, a4⟩, ⟨a5, a6⟩, a7, a8, a9, a10, a11, a12⟩ := hrow
  have hcnt := hD.2.2.2.2.1.2.1
  have hmem : w ∈ R := List.mem_of_getElem? hw
  have ob := ga_ob (c := 11) a1
  have key : ∀ (T2 T1 : List (Int × Int)) (c : Option (Int × Int)) (b : Int) (K : e3_H), w.2 = T1 ++ T2 → (∀ p, c = some p → 0 ≤ pn p.1) → LF fr H K → K 16 6 = (fr : Int) → (∀ K2, LF fr H K2 → K2 16 6 = (fr : Int) → Q (match cho σ m R π way T2 T1.length c b with
      | none => -1
      | some p => pn p.1) K2 G) → wD_chosenPlace_9 Q (T2.length + 1) (H (fu + 3) i) (M : Int) (match c with
      | none => -1
      | some p => pn p.1) b T1.length K G := by
    intro T2
    induction T2 with
    | nil =>
      intro T1 c b K e hc hF h6 hq
      rw [List.append_nil] at e
      have ea : ∀ x : Int, K (H (fu + 3) i) x = H (H (fu + 3) i) x := fun x => hF.1 _ x (by omega) (by omega)
      exact ⟨ob, brF (by rw [ea, a2, e]; omega) (hq K hF h6)⟩
    | cons p T2 ih =>
      intro T1 c b K e hc hF h6 hq
      have hm : p ∈ w.2 := by rw [e]; exact List.mem_append_right _ (List.mem_cons_self ..)
      have hlen : w.2.length = T1.length + (T2.length + 1) := by rw [e, List.length_append]; rfl
      have ea : ∀ x : Int, K (H (fu + 3) i) x = H (H (fu + 3) i) x := fun x => hF.1 _ x (by omega) (by omega)
      have ea2 : ∀ x : Int, K (H (fu + 3) i + 2) x = H (H (fu + 3) i + 2) x := fun x => hF.1 _ x (by omega) (by omega)
      have hat : H (H (fu + 3) i + 2) T1.length = g 0 p.1 := a7 T1.length p (by rw [e, List.getElem?_append_right (Nat.le_refl _), Nat.sub_self]; rfl)
      have D2 := DX_0 hD (LF_DF hG hF)
      have K2 := DK_LF hK hF
      have f2 : K 16 2 = fu := by rw [hF.1 16 2 (by decide) (by decide)]; exact hf
      have f3 : K 16 3 = way := by rw [hF.1 16 3 (by decide) (by decide)]; exact hway
      have hxK : DXp σ g pn cx cnt K G p := by
        have := DXp_keep (E := []) (a11 p hm) (LF_DF hG hF)
        rw [List.append_nil] at this
        exact this
      have obp := ga_ob (c := 10) hxK.1.2
      have hpn := hxK.2.2.2.2.1
      have hcx := hxK.2.2.2.2.2.1
      have next : ∀ (K3 : e3_H) (c3 : Option (Int × Int)) (b3 l4 : Int), (l4 = match c3 with
          | none => -1
          | some p => pn p.1) → (∀ p, c3 = some p → 0 ≤ pn p.1) → LF fr H K3 → K3 16 6 = (fr : Int) → cho σ m R π way (p :: T2) T1.length c b = cho σ m R π way T2 (T1.length + 1) c3 b3 → wD_chosenPlace_70 Q (fun l1 l2 l4 l5 l6 H G => wD_chosenPlace_9 Q (T2.length + 1) l1 l2 l4 l5 l6 H G) (H (fu + 3) i) (M : Int) l4 b3 T1.length K3 G := fun K3 c3 b3 l4 e4 hc3 hF3 h63 hch => by
        show wD_chosenPlace_9 Q (T2.length + 1) (H (fu + 3) i) (M : Int) l4 b3 (e3_w32 ((T1.length : Int) + 1)) K3 G
        rw [e3_w32_id (x := (T1.length : Int) + 1) (by omega) (by omega), e4]
        have := ih (T1 ++ [p]) c3 b3 K3 (by rw [List.append_assoc]; exact e) hc3 hF3 h63 (fun K4 z1 z2 => by
          have := hq K4 z1 z2
          rw [hch] at this
          rw [List.length_append]
          exact this)
        rw [List.length_append] at this
        exact this
      refine ⟨ob, brT (by rw [ea, a2]; omega) ⟨ob, by rw [ea, a3]; exact ga_oa a4 (by omega) ⟨by omega, by omega⟩, by rw [ea, a3, ea2, hat]; exact obp, ?_⟩⟩
      rw [ea, a3, ea2, hat, hxK.2.2.2.1]
      refine cD_can D2 f2 K2 hP hpn (fun hk => brF (by decide) ?_) (fun hk => brT rfl (next K c b _ rfl hc hF h6 ?_))
      · rw [hcx] at hk
        refine cD_worthOf (t := T1.length) (w := w) (x := p.2) hG D2 f2 f3 hM hmem hl a9 hm hxK (h47 p hm) h6 hfr2 (hsh p.2 hk p.1 hm) (fun K4 z1 z2 => ?_)
        have take : c = none ∨ b < wor σ m R π way p.1 p.2 T1.length → wD_chosenPlace_62 Q (fun l1 l2 l4 l5 l6 H G => wD_chosenPlace_9 Q (T2.length + 1) l1 l2 l4 l5 l6 H G) (H (fu + 3) i) (M : Int) T1.length (pn p.1) (wor σ m R π way p.1 p.2 T1.length) K4 G := fun hz => by
          refine next K4 (some p) _ _ rfl (fun p' hp' => by cases hp'; exact hpn.1) (LF_tr hF z1) z2 ?_
          show (if ask π p.2 = true ∧ (c = none ∨ b < wor σ m R π way p.1 p.2 T1.length) then _ else _) = _
          rw [if_pos ⟨hk, hz⟩]
        refine ⟨fun hl4 => take (Or.inl ?_), fun hl4 => ⟨fun hb => take (Or.inr hb), fun hb => next K4 c b _ rfl hc (LF_tr hF z1) z2 ?_⟩⟩
        · cases c with
          | none => rfl
          | some p' => have := hc p' rfl; have hl4 : pn p'.1 < 0 := hl4; omega
        · show (if ask π p.2 = true ∧ (c = none ∨ b < wor σ m R π way p.1 p.2 T1.length) then _ else _) = _
          rw [if_neg (fun z => z.2.elim (fun y => by rw [y] at hl4; exact hl4 (show (-1 : Int) < 0 by decide)) hb)]
      · rw [hcx] at hk
        show (if ask π p.2 = true ∧ (c = none ∨ b < wor σ m R π way p.1 p.2 T1.length) then _ else _) = _
        rw [if_neg (fun z => by rw [hk] at z; exact absurd z.1 (by decide))]
  exact ⟨w.2.length + 1, key w.2 [] none 0 H rfl (fun p hp => by cases hp) (LF_rf fr H) hfr hQ⟩
end CHO
