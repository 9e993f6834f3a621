theorem fst_some {σ : e3_H} {π : a_PT} : ∀ (R : a_RW) (i0 i : Nat) (w : Int × List (Int × Int)), fst σ π R i0 = some (i, w) → ∃ j, i = i0 + j ∧ R[j]? = some w ∧ lv σ w π = true ∧ ∀ k, k < j → ∀ v, R[k]? = some v → lv σ v π = false := by
  intro R
  induction R with
  | nil => intro i0 i w h; cases h
  | cons a R ih =>
    intro i0 i w h
    unfold fst at h
    split at h
    · rename_i hl
      cases h
      exact ⟨0, rfl, rfl, hl, fun k hk => by omega⟩
    · rename_i hl
      obtain ⟨j, e, h1, h2, h3⟩ := ih (i0 + 1) i w h
      refine ⟨j + 1, by omega, h1, h2, fun k hk v hv => ?_⟩
      cases k with
      | zero =>
        have hv : some a = some v := hv
        cases hv
        cases hz : lv σ a π with
        | true => exact absurd hz hl
        | false => rfl
      | succ k => exact h3 k (by omega) v hv
theorem fst_none {σ : e3_H} {π : a_PT} : ∀ (R : a_RW) (i0 : Nat), fst σ π R i0 = none → ∀ w, w ∈ R → lv σ w π = false := by
  intro R
  induction R with
  | nil => intro i0 _ w hw; exact absurd hw (List.not_mem_nil)
  | cons a R ih =>
    intro i0 h w hw
    unfold fst at h
    split at h
    · cases h
    · rename_i hl
      rcases List.mem_cons.mp hw with z | z
      · rw [z]
        cases hz : lv σ a π with
        | true => exact absurd hz hl
        | false => rfl
      · exact ih (i0 + 1) h w z
theorem cho_some {σ : e3_H} {m : Nat} {R : a_RW} {π : a_PT} {way : Int} : ∀ (T : List (Int × Int)) (t : Nat) (c : Option (Int × Int)) (b : Int) (p : Int × Int), cho σ m R π way T t c b = some p → c = some p ∨ (p ∈ T ∧ ask π p.2 = true) := by
  intro T
  induction T with
  | nil => intro t c b p h; exact Or.inl h
  | cons a T ih =>
    intro t c b p h
    unfold cho at h
    split at h
    · rename_i hz
      rcases ih _ _ _ p h with z | z
      · cases z
        exact Or.inr ⟨List.mem_cons_self .., hz.1⟩
      · exact Or.inr ⟨List.mem_cons_of_mem _ z.1, z.2⟩
    · rcases ih _ _ _ p h with z | z
      · exact Or.inl z
      · exact Or.inr ⟨List.mem_cons_of_mem _ z.1, z.2⟩
theorem SP_PK {σ : e3_H} {m : Nat} {R : a_RW} {f : Int} (hR : RT σ f R) (hm : m ≤ 24) : ∀ π : a_PT, SP σ m R π → PK π := by
  intro π
  induction π with
  | nil => intro _ x v h; cases h
  | cons e π ih =>
    intro hS x v h
    unfold kn at h
    split at h
    · rename_i hz
      cases h
      rcases hS.2 with z | ⟨_, _, s, z0, z1, z2, _⟩
      · omega
      · exact (lbs_ok hR z1 z2 z0 hm).1
    · exact ih hS.1 x v h
section CGR
variable {σ g : e3_H} {m : Nat} {pn cx : Int → Int} {cnt : Nat} {R : a_RW} {fu way t : Int} {G : e3_G}
/-- growing -/
theorem cD_grow {f : Int} (hG : GB G) (hRT : RT σ f R) (hKP : KP σ m) (h47 : ∀ w, w ∈ R → ∀ p, p ∈ w.2 → σ 47 p.1 ≤ 100) (hr0 : ∀ w, w ∈ R → 0 ≤ w.1) : ∀ n : Nat, GRO σ g m pn cx cnt R fu way t G n := by
  intro n
  induction n with
  | zero =>
    intro k π N M b0 l P b fr H Q _ _ _ _ _ _ hP hl hn
    exfalso
    omega
  | succ n rec =>
    intro k π N M b0 l P b fr H Q hgr hSP hM hb0 hlvp hS hP hl hn h1 h0
    have hlen := gr_len _ _ _ hgr
    cases k with
    | zero => exact hgr.elim
    | succ k =>
      have hS0 := hS
      obtain ⟨hD, ⟨a2, a3, a4, a5⟩, a6, a7, a8, a9, a10⟩ := hS0
      obtain ⟨t0, t1, ⟨u1, u2⟩, ⟨v1, v2⟩, ⟨w1, w2⟩, ⟨x1, x2⟩, ⟨y1, y2⟩, ⟨z1, z2⟩⟩ := id a7
      have ki := hD.1.2
      have hm := ki.2.1
      have hrowP : ∀ w, w ∈ R → w.2.Pairwise (fun a b => a.2 ≠ b.2) ∧ ∀ p, p ∈ w.2 → 1 ≤ p.2 := fun w hw => ⟨(hRT w hw).1, fun p hp => ((hRT w hw).2.2 p hp).2.2⟩
      have hcp := hD.2.2.2.2.1.2.2
      have hPK := SP_PK hRT hm π hSP
      have ob5 : e3_ob G 5 t := ga_ob (c := 5) t1
      -- the end of a node
      have fin0 : ∀ K, GF t b fr H K → 121 < P + N.length → wD_grow_134 (wD_grow n) Q b 0 K G := fun K hK hz => by
        have TK := TRE_eq a7 hK.2.2.2.1
        have k1 : K 16 1 = t := by rw [hK.2.1 1 (by decide) (by decide)]; exact a4
        have hw5 : GF t b fr H (e3_up K (t + 5) b (K t 0)) := by
          refine ⟨fun a y q1 q2 q3 q4 => by rw [e3_up_ne (fun z => q4 (by omega))]; exact hK.1 a y q1 q2 q3 q4, fun y q1 q2 => by rw [e3_up_ne (by omega)]; exact hK.2.1 y q1 q2, fun y q1 => by rw [e3_up_ne (by omega)]; exact hK.2.2.1 y q1, fun y q1 => by rw [e3_up_ne (by omega)]; exact hK.2.2.2.1 y q1, fun a y q1 q2 q3 => by rw [e3_up_ne (by omega)]; exact hK.2.2.2.2 a y q1 q2 q3⟩
        obtain ⟨_, _, _, _, _, _, ⟨y1', _⟩, _⟩ := TK
        unfold wD_grow_134
        rw [k1]
        refine ⟨ob5, ob5, brF (by omega) ⟨ob5, fun hy => ⟨Or.inr rfl, brF (by decide) ⟨ob5, ob5, by rw [y1']; exact ga_oa y2 (by omega) ⟨by omega, by omega⟩, fun H4 e4 => ⟨Or.inl rfl, h0 hz H4 ?_⟩⟩⟩, fun hy => ⟨Or.inl rfl, brT rfl ⟨Or.inl rfl, h0 hz K hK⟩⟩⟩⟩
        rw [e4, y1']
        exact hw5
      have fin1 : ∀ (K : e3_H) (d : a_ND) (N1 : List a_ND), N = d :: N1 → P + N.length ≤ 121 → GF t b fr H K → K 16 6 = (fr : Int) → K 16 7 = (P : Int) + N1.length → K t 0 = (b : Int) + 1 + N1.length → TC t cx cnt ((b : Int) + 1) N1 K → K (t + 1) b = d.1 → K (t + 2) b = d.2.1 → ((d.2.2.1 = -1 ∧ K (t + 3) b = -1) ∨ ((0 ≤ K (t + 3) b ∧ K (t + 3) b < cnt) ∧ cx (K (t + 3) b) = d.2.2.1)) → K (t + 4) b = d.2.2.2.1 → K (t + 6) b = d.2.2.2.2.1 → d.2.2.2.2.2 = 1 + (N1.length : Int) → wD_grow_134 (wD_grow n) Q b 1 K G := fun K d N1 eN hle hK k6 k7 k0 kT c1 c2 c3 c4 c5 c6 => by
        have TK := TRE_eq a7 hK.2.2.2.1
        have k1 : K 16 1 = t := by rw [hK.2.1 1 (by decide) (by decide)]; exact a4
        have hNl : (N.length : Int) = N1.length + 1 := by rw [eN]; rfl
        unfold wD_grow_134
        rw [k1]
        refine ⟨ob5, cE_end TK ⟨by omega, by omega⟩ k0 (by omega) ⟨Or.inr rfl, h1 hle _ ?_⟩⟩
        have at5 : ∀ a y : Int, ¬ (a = t + 5 ∧ y = b) → e3_up K (t + 5) b ((b : Int) + 1 + N1.length) a y = K a y := fun a y hz => e3_up_ne hz
        refine ⟨⟨fun a y q1 q2 q3 q4 => by rw [at5 a y (fun z => q4 (by omega))]; exact hK.1 a y q1 q2 q3 q4, fun y q1 q2 => by rw [at5 16 y (by omega)]; exact hK.2.1 y q1 q2, fun y q1 => by rw [at5 25 y (by omega)]; exact hK.2.2.1 y q1, fun y q1 => by rw [at5 t y (by omega)]; exact hK.2.2.2.1 y q1, fun a y q1 q2 q3 => by rw [at5 a y (by omega)]; exact hK.2.2.2.2 a y q1 q2 q3⟩, by rw [at5 16 6 (by omega)]; exact k6, by rw [at5 16 7 (by omega), k7]; omega, by rw [at5 t 0 (by omega), k0]; omega, ?_⟩
        rw [eN]
        refine TC_cons ⟨by rw [at5 _ _ (by omega)]; exact c1, by rw [at5 _ _ (by omega)]; exact c2, by rw [at5 _ _ (by omega)]; exact c3, by rw [at5 _ _ (by omega)]; exact c4, by rw [at5 _ _ (by omega)]; exact c5, by rw [e3_up_self, c6]; omega⟩ ?_
        intro j e he
        exact TC1_eq (kT j e he) (fun a q1 q2 => at5 a _ (by omega))
      refine brF (by omega) ⟨by rw [a4]; exact ob5, ?_⟩
      rw [a4]
      refine cE_begin a7 a10 (by omega) (fun K1 hTF c0 c1 c2 c3 c4 c6 => ?_)
      have hF1 : GF t b fr H K1 := GF_TF t0 hTF
      have S1 : GS σ g m pn cx cnt R fu way t G π fr P (b + 1) K1 := GS_go hG hS hF1 (by rw [hTF.1 16 6 (by omega) (by omega)]; exact a8) (by rw [hTF.1 16 7 (by omega) (by omega)]; exact a9) (by rw [c0]; omega)
      refine brF (by omega) (cD_still S1.1 S1.2.1.1 S1.2.2.1 hPK hM (fun w hw hb p hp h5 v hv => ?_) (fun M1 hM1 => ?_))
      · obtain ⟨π1, s0, s1, s2⟩ := SP_lab hw π hSP (hlvp w hw hb) p.1 p.2 v hp ((hrowP w hw).2 p hp) hv
        exact (lbs_ok hRT s1 s2 s0 hm).2.1 (((hRT w hw).2.2 p hp).1.2.2.2.2.2.1 h5).1
      · have hML : MK R (fun w => lv σ w π) M1 := by
          refine ⟨hM1.1, fun j => ?_⟩
          rw [hM1.2 j]
          cases hj : R[j]? with
          | none => rfl
          | some w => exact hb0 w (List.mem_of_getElem? hj)
        unfold gr at hgr
        split at hgr
        · rename_i hfs
          have hall := fst_none R 0 hfs
          have hz : M1 = 0 := by
            apply Nat.eq_of_testBit_eq
            intro j
            rw [hML.2 j, Nat.zero_testBit]
            cases hj : R[j]? with
            | none => rfl
            | some w => exact hall w (List.mem_of_getElem? hj)
          refine brT (by rw [hz]; rfl) ?_
          exact fin1 K1 _ [] hgr (by rw [hgr]; show P + 1 ≤ 121; omega) hF1 S1.2.2.2.2.1 (by rw [S1.2.2.2.2.2.1]; show _ = (P : Int) + 0; omega) (by rw [c0]; show _ = (b : Int) + 1 + 0; omega) (fun j d hd => by cases hd) c1 c2 (Or.inl ⟨rfl, c3⟩) c4 c6 rfl
        · rename_i i r T hfs
          obtain ⟨j, ej, hj, hlv, hlt⟩ := fst_some R 0 i (r, T) hfs
          have ej : i = j := by omega
          subst ej
          have hil : i < R.length := (List.getElem?_eq_some_iff.mp hj).1
          have h40 := hD.2.2.1.2
          have hmem : (r, T) ∈ R := List.mem_of_getElem? hj
          have hti : M1.testBit i = true := by rw [hML.2 i, hj]; exact hlv
          have hnz : (M1 : Int) ≠ 0 := fun hz => by
            have : M1 = 0 := by omega
            rw [this, Nat.zero_testBit] at hti
            cases hti
          refine brF hnz (cJ_ntz (MK_62 hML) (by omega) hti (fun y hy => ?_) ⟨by rw [S1.2.1.1]; exact ga_ob (c := 8) S1.1.2.1.2, ?_⟩)
          · rw [hML.2 y]
            cases hyy : R[y]? with
            | none => rfl
            | some v => exact hlt y hy v hyy
          · rw [S1.2.1.1]
            have hra := (S1.1.2.2.2.2.2.1 i (r, T) hj).1
            refine cF_rowAt S1.1 hj (brF (by omega) ?_)
            refine cD_chosen (fr := fr) hG S1.1 S1.2.1.1 S1.2.1.2.1 hML S1.2.2.1 hPK hj hlv (h47 _ hmem) S1.2.2.2.2.1 (by omega) (fun x hx q hq v hv hlv2 q' hq' => SH hRT hSP ki.2.2.2.1 hKP hm hx hv hmem hlv2 hlv hq' hq) (fun K2 hLF h6 => ?_)
            have hF2' : GF t (b + 1) fr K1 K2 := GF_LF t0 hLF
            have hF2 : GF t b fr H K2 := GF_tr hF1 hF2' (by omega) (Nat.le_refl _)
            have S2 : GS σ g m pn cx cnt R fu way t G π fr P (b + 1) K2 := GS_go hG S1 hF2' h6 (by rw [hLF.1 16 7 (by decide) (by decide)]; exact S1.2.2.2.2.2.1) (by rw [hLF.1 t 0 (by omega) (by omega)]; exact S1.2.2.2.2.2.2)
            have kat : ∀ a : Int, t + 1 ≤ a → a ≤ t + 6 → K2 a b = K1 a b := fun a q1 q2 => hLF.1 a b (by omega) (by omega)
            refine brF (by omega) ?_
            split at hgr
            · rename_i hch
              rw [hch]
              refine brT (show (-1 : Int) < 0 by decide) ?_
              have hok0 : σ 78 r = 0 → N = [(1, (i : Int), -1, 0, lab π, 1)] := fun hz => by
                rcases hgr with ⟨_, e⟩ | ⟨y, _⟩
                · exact e
                · exact absurd hz y
              have hok1 : σ 78 r ≠ 0 → ∃ N1, gr σ m R way k ((0, r, r) :: π) N1 ∧ N = (2, (i : Int), -1, 1, lab π, 1 + (N1.length : Int)) :: N1 := fun hz => by
                rcases hgr with ⟨y, _⟩ | ⟨_, e⟩
                · exact absurd y hz
                · exact e
              by_cases h78 : σ 78 r = 0
              · refine cD_settle (N := []) (k := k) (r := r) (T := T) hG rec S2 hSP hrowP hML hj hP hl (by omega) (hr0 _ hmem) (fun z => absurd h78 z) (fun _ => brF (by decide) ?_) (fun z => absurd h78 z) (fun z => absurd h78 z)
                have at2 : ∀ a y : Int, ¬ ((a = t + 1 ∨ a = t + 2) ∧ y = b) → e3_up (e3_up K2 (t + 2) b i) (t + 1) b 1 a y = K2 a y := fun a y hz => by rw [e3_up_ne (by omega), e3_up_ne (by omega)]
                have hNe := hok0 h78
                rw [hNe] at hlen
                refine fin1 _ _ [] hNe (by rw [hNe]; show P + 1 ≤ 121; omega) ⟨fun a y q1 q2 q3 q4 => by rw [at2 a y (by omega)]; exact hF2.1 a y q1 q2 q3 q4, fun y q1 q2 => by rw [at2 16 y (by omega)]; exact hF2.2.1 y q1 q2, fun y q1 => by rw [at2 25 y (by omega)]; exact hF2.2.2.1 y q1, fun y q1 => by rw [at2 t y (by omega)]; exact hF2.2.2.2.1 y q1, fun a y q1 q2 q3 => by rw [at2 a y (by omega)]; exact hF2.2.2.2.2 a y q1 q2 q3⟩ (by rw [at2 16 6 (by omega)]; exact h6) (by rw [at2 16 7 (by omega), S2.2.2.2.2.2.1]; show _ = (P : Int) + 0; omega) (by rw [at2 t 0 (by omega), S2.2.2.2.2.2.2]; show _ = (b : Int) + 1 + 0; omega) (fun j d hd => by cases hd) (e3_up_self _ _ _ _) (by rw [e3_up_ne (ne_1 (by omega)), e3_up_self]) (Or.inl ⟨rfl, by rw [at2 _ _ (by omega), kat _ (by omega) (by omega)]; exact c3⟩) (by rw [at2 _ _ (by omega), kat _ (by omega) (by omega)]; exact c4) (by rw [at2 _ _ (by omega), kat _ (by omega) (by omega)]; exact c6) rfl
              · obtain ⟨N1, gN1, eN⟩ := hok1 h78
                have hNl : N.length = N1.length + 1 := by rw [eN]; rfl
                refine cD_settle (N := N1) (k := k) (r := r) (T := T) hG rec S2 hSP hrowP hML hj hP hl (by omega) (hr0 _ hmem) (fun _ => gN1) (fun z => absurd z h78) (fun _ hz K q1 q2 q3 q4 q5 q6 q7 q8 q9 q10 => brF (by decide) ?_) (fun _ hz K q1 => brT rfl (fin0 K (GF_tr hF2 q1 (Nat.le_refl _) (Nat.le_refl _)) (by omega)))
                exact fin1 K _ N1 eN (by omega) (GF_tr hF2 q1 (Nat.le_refl _) (Nat.le_refl _)) q2 q3 q4 q5 q6 q7 (Or.inl ⟨rfl, by rw [q8, kat _ (by omega) (by omega)]; exact c3⟩) q9 (by rw [q10, kat _ (by omega) (by omega)]; exact c6) rfl
            · rename_i q x hch
              rw [hch]
              obtain ⟨N1, gN1, eN⟩ := hgr
              have hNl : N.length = N1.length + 1 := by rw [eN]; rfl
              have hqx : (q, x) ∈ T ∧ ask π x = true := by
                rcases cho_some T 0 none 0 (q, x) hch with z | z
                · cases z
                · exact z
              have hdx := (S2.1.2.2.2.2.2.1 i (r, T) hj).2.2.2.2.2.2.2.2.1 (q, x) hqx.1
              have hpq : 0 ≤ pn q ∧ pn q < cnt := hdx.2.2.2.2.1
              have hcq : cx (pn q) = x := hdx.2.2.2.2.2.1
              have hx1 : 1 ≤ x := hdx.2.2.2.2.2.2.2.2.2.2
              have hnod : nod σ q := hdx.2.2.2.2.2.2.2.2.1
              have hq47 : σ 47 q ≤ 100 := h47 _ hmem (q, x) hqx.1
              refine brF (by show ¬ pn q < 0; omega) ?_
              refine cD_split (f := f) (s := σ 47 q) (N1 := N1) hG rec hRT S2 hSP hML hpq hcq hx1 hqx.2 ⟨hnod.1, hq47⟩ (fun v hv hlv2 q' hq' => SH hRT hSP ki.2.2.2.1 hKP hm hqx.2 hv hmem hlv2 hlv hq' hqx.1) (ltq_has hmem hlv (tq_of T (q, x) (hrowP _ hmem).1 hqx.1)) hP hl (by omega) gN1 (fun hz K q1 q2 q3 q4 q5 q6 q7 q8 q9 q10 => brF (by decide) ?_) (fun hz K q1 => brT rfl (fin0 K (GF_tr hF2 q1 (Nat.le_refl _) (Nat.le_refl _)) (by omega)))
              exact fin1 K _ N1 eN (by omega) (GF_tr hF2 q1 (Nat.le_refl _) (Nat.le_refl _)) q2 q3 q4 q5 q6 (by rw [q7, kat _ (by omega) (by omega)]; exact c2) (Or.inr ⟨by rw [q8]; exact hpq, by rw [q8]; exact hcq⟩) q9 (by rw [q10, kat _ (by omega) (by omega)]; exact c6) rfl
end CGR
