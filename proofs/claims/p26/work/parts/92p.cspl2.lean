theorem lbs_1 {σ : e3_H} {m : Nat} {R : a_RW} {π : a_PT} {x s : Int} : 1 ≤ (lbs σ m R π x s).length := by
  unfold lbs
  split
  · cases cuts σ (ltq σ π x R) [] with
    | nil => exact Nat.le_refl _
    | cons c l => show 1 ≤ (pts (c + 1) l).length + 1; omega
  · split
    · show 1 ≤ 2; omega
    · split
      · rw [List.length_append]; show 1 ≤ _ + 1; omega
      · rw [List.length_cons]; omega
section CS2
variable {σ g : e3_H} {m : Nat} {pn cx : Int → Int} {cnt : Nat} {R : a_RW} {fu way t : Int} {H : e3_H} {G : e3_G} {π : a_PT} {fr P b : Nat}
theorem cD_nodeOf {Q : Int → e3_H → e3_G → Prop} {s : Int} (hs : 0 ≤ s) (hQ : Q (ndo s) H G) : wD_nodeOf Q s H G := by
  unfold ndo at hQ
  refine ⟨fun z => ?_, fun z => ?_, fun z => ?_, fun z => ?_⟩
  · rw [if_pos z] at hQ; exact hQ
  · rw [if_neg (by omega), if_pos z] at hQ; exact hQ
  · rw [if_neg (by omega), if_neg (by omega), if_pos z] at hQ; exact hQ
  · rw [if_neg (by omega), if_neg (by omega), if_neg (by omega)] at hQ; exact hQ
/-- a node that asks -/
theorem cD_split {n k M : Nat} {l p x s f : Int} {N1 : List a_ND} {Q : Int → e3_H → e3_G → Prop} (hG : GB G) (rec : GRO σ g m pn cx cnt R fu way t G n) (hRT : RT σ f R) (hS : GS σ g m pn cx cnt R fu way t G π fr P (b + 1) H) (hSP : SP σ m R π) (hM : MK R (fun w => lv σ w π) M) (hp : 0 ≤ p ∧ p < cnt) (hx : cx p = x) (hx1 : 1 ≤ x) (hask : ask π x = true) (hs : 0 ≤ s ∧ s ≤ 100) (hsh : ∀ w, w ∈ R → lv σ w π = true → ∀ q, (q, x) ∈ w.2 → σ 47 q = s) (hne : ltq σ π x R ≠ []) (hP : b + 1 ≤ P ∧ fr + 1 ≤ P ∧ P ≤ 120) (hl : 1 ≤ l ∧ l ≤ P) (hn : 124 ≤ n + (l + 1)) (hgr : grs (gr σ m R way k) π x (lbs σ m R π x s) N1)
    (h1 : P + N1.length ≤ 120 → ∀ K, GF t b fr H K → K 16 6 = (fr : Int) → K 16 7 = (P : Int) + N1.length → K t 0 = (b : Int) + 1 + N1.length → TC t cx cnt ((b : Int) + 1) N1 K → K (t + 1) b = ndo s → K (t + 2) b = H (t + 2) b → K (t + 3) b = p → K (t + 4) b = ((lbs σ m R π x s).length : Int) → K (t + 6) b = H (t + 6) b → Q 1 K G)
    (hf : 120 < P + N1.length → ∀ K, GF t b fr H K → Q 0 K G) : wD_split (wD_grow n) Q b (M : Int) p l H G := by
  have hS2 := hS
  obtain ⟨hD, ⟨a2, a3, a4, a5⟩, a6, a7, a8, a9, a10⟩ := hS2
  obtain ⟨t0, t1, ⟨u1, u2⟩, ⟨v1, v2⟩, ⟨w1, w2⟩, ⟨x1, x2⟩, ⟨y1, y2⟩, ⟨z1, z2⟩⟩ := id a7
  have ob5 : e3_ob G 5 t := ga_ob (c := 5) t1
  have hbl := grs_len _ _ hgr
  have hw0 : ∃ w0 q0, w0 ∈ R ∧ lv σ w0 π = true ∧ (q0, x) ∈ w0.2 := by
    cases hlt : ltq σ π x R with
    | nil => exact absurd hlt hne
    | cons q0 l =>
      obtain ⟨w0, z1, z2, z3⟩ := ltq_mem R q0 (by rw [hlt]; exact List.mem_cons_self ..)
      exact ⟨w0, q0, z1, z2, z3⟩
  have hkn : kn π x = none := by
    unfold ask at hask
    rw [Bool.and_eq_true] at hask
    cases hk : kn π x with
    | none => rfl
    | some v => rw [hk] at hask; exact absurd hask.1 (fun z => by cases z)
  unfold wD_split
  refine cD_pushLabels (f := f) (s := s) (fr := fr) hG hD a2 hM hp a8 (by omega) hs (by rw [hx]; exact hsh) (by rw [hx]; exact hne) (fun H1 hB hF1 => ?_)
  rw [hx] at hB
  have e1 : ∀ a y : Int, a ≠ 25 → ¬ (a = 16 ∧ y = 6) → H1 a y = H a y := hF1.1
  have b6 : H1 16 6 = (fr : Int) + (lbs σ m R π x s).length := by have := hB.1; rw [List.length_map] at this; exact this
  rw [e1 16 1 (by decide) (by decide), a4, a8, b6, show (fr : Int) + (lbs σ m R π x s).length - fr = ((lbs σ m R π x s).length : Int) by omega]
  refine ⟨ob5, cD_nodeOf hs.1 ?_⟩
  rw [e1 t 4 (by omega) (by omega), u1]
  refine ⟨ga_oa u2 (by omega) ⟨by omega, by omega⟩, ?_⟩
  intro H8 e8
  have at8 : ∀ a y : Int, a ≠ t + 1 → H8 a y = H1 a y := fun a y h2 => by rw [e8, e3_up_ne (ne_1 h2)]
  rw [at8 16 1 (by omega), e1 16 1 (by decide) (by decide), a4, at8 t 6 (by omega), e1 t 6 (by omega) (by omega), w1]
  refine ⟨ob5, ga_oa w2 (by omega) ⟨by omega, by omega⟩, ?_⟩
  intro H10 e10
  have at10 : ∀ a y : Int, a ≠ t + 1 → a ≠ t + 3 → H10 a y = H1 a y := fun a y h2 h3 => by rw [e10, e3_up_ne (ne_1 h3)]; exact at8 a y h2
  rw [at10 16 1 (by omega) (by omega), e1 16 1 (by decide) (by decide), a4, at10 t 7 (by omega) (by omega), e1 t 7 (by omega) (by omega), x1]
  refine ⟨ob5, ga_oa x2 (by omega) ⟨by omega, by omega⟩, ?_⟩
  intro H13 e13
  have hll : (lbs σ m R π x s).length ≤ 200 := by
    have h1 := congrArg List.length (lbs_snd (σ := σ) (m := m) (R := R) (π := π) (x := x) (s := s))
    rw [List.length_map, List.length_append] at h1
    have h2 := accL_len (σ := σ) (s := s) (ltq σ π x R)
    have h3 := ltq_len (σ := σ) (π := π) (x := x) R
    have h4 := hD.2.2.1.2
    have h5 := lvs_len (σ := σ) (m := m) (s := s) m
    have h6 := hD.1.2.2.1
    have h7 : (tlb σ m s).length ≤ 26 := by
      unfold tlb
      split
      · show 1 ≤ 26; omega
      · split
        · show 2 ≤ 26; omega
        · split
          · show 1 ≤ 26; omega
          · show (List.map _ _).length + 1 ≤ 26; rw [List.length_map]; omega
    omega
  rw [e3_w32_id (x := ((lbs σ m R π x s).length : Int)) (by omega) (by omega)] at e13 ⊢
  have at13 : ∀ a y : Int, a ≠ t + 1 → a ≠ t + 3 → a ≠ t + 4 → H13 a y = H1 a y := fun a y h2 h3 h4 => by rw [e13, e3_up_ne (ne_1 h4)]; exact at10 a y h2 h3
  intro H16 e16
  rw [at13 16 7 (by omega) (by omega) (by omega), e1 16 7 (by decide) (by decide), a9, e3_w32_id (x := (P : Int) + (lbs σ m R π x s).length) (by omega) (by omega)] at e16
  have at16 : ∀ a y : Int, ¬ (a = 16 ∧ y = 7) → H16 a y = H13 a y := fun a y h2 => by rw [e16, e3_up_ne h2]
  have e7 : H16 16 7 = (P : Int) + (lbs σ m R π x s).length := by rw [e16, e3_up_self]
  have hF : GF t b fr H H16 := by
    refine ⟨fun a y h2 h3 h4 h5 => by rw [at16 a y (fun z => h2 z.1), at13 a y (by omega) (by omega) (by omega)]; exact e1 a y h3 (fun z => h2 z.1), fun y h2 h3 => by rw [at16 16 y (fun z => h3 z.2), at13 16 y (by omega) (by omega) (by omega)]; exact e1 16 y (by decide) (fun z => h2 z.2), fun y hy => by rw [at16 25 y (by omega), at13 25 y (by omega) (by omega) (by omega)]; exact hF1.2 y hy, fun y _ => by rw [at16 t y (by omega), at13 t y (by omega) (by omega) (by omega)]; exact e1 t y (by omega) (by omega), fun a y h2 h3 h4 => ?_⟩
    rw [at16 a y (by omega), e13, e3_up_ne (fun z => by have := z.2; omega), e10, e3_up_ne (fun z => by have := z.2; omega), e8, e3_up_ne (fun z => by have := z.2; omega)]
    exact e1 a y (by omega) (by omega)
  have g1 : H16 (t + 1) b = ndo s := by rw [at16 _ _ (by omega), e13, e3_up_ne (ne_1 (by omega)), e10, e3_up_ne (ne_1 (by omega)), e8, e3_up_self]
  have g2 : H16 (t + 2) b = H (t + 2) b := by rw [at16 _ _ (by omega), at13 _ _ (by omega) (by omega) (by omega)]; exact e1 _ _ (by omega) (by omega)
  have g3 : H16 (t + 3) b = p := by rw [at16 _ _ (by omega), e13, e3_up_ne (ne_1 (by omega)), e10, e3_up_self]
  have g4 : H16 (t + 4) b = ((lbs σ m R π x s).length : Int) := by rw [at16 _ _ (by omega), e13, e3_up_self]
  have g6 : H16 (t + 6) b = H (t + 6) b := by rw [at16 _ _ (by omega), at13 _ _ (by omega) (by omega) (by omega)]; exact e1 _ _ (by omega) (by omega)
  have h6 : H16 16 6 = ((fr + (lbs σ m R π x s).length : Nat) : Int) := by rw [at16 16 6 (by omega), at13 16 6 (by omega) (by omega) (by omega), b6]; omega
  have h7' : H16 16 7 = ((P + (lbs σ m R π x s).length : Nat) : Int) := by rw [e7]; omega
  have h0' : H16 t 0 = ((b + 1 : Nat) : Int) := by rw [at16 t 0 (by omega), at13 t 0 (by omega) (by omega) (by omega), e1 t 0 (by omega) (by omega)]; exact a10
  have S16 := GS_go hG hS hF h6 h7' h0'
  obtain ⟨kl, ⟨k1, k2⟩, k3, k4, k5⟩ := id S16.2.2.1
  have hun : H16 (H16 16 4) p = -9223372036854775808 := by
    rw [k5 p hp.1 hp.2, hx]
    unfold kv
    rw [hkn]
  have comb : ∀ K : e3_H, GF t (b + 1) fr H16 K → GF t b fr H K := fun K hK => GF_tr hF hK (by omega) (Nat.le_refl _)
  rw [e7]
  refine ⟨fun hbig => ⟨Or.inl rfl, 1, ?_⟩, fun hbig => ⟨Or.inr rfl, (lbs σ m R π x s).length + 1, ?_⟩⟩
  · have end0 : wD_split_125 (wD_grow n) Q p fr 0 H16 G := by
      unfold wD_split_125
      rw [i64_min]
      refine ⟨ga_oa k2 (by omega) ⟨by omega, by omega⟩, ?_⟩
      intro H3 e3
      intro H4 e4
      refine ⟨Or.inl rfl, hf (by omega) H4 ?_⟩
      rw [e3_u0 hun] at e3
      rw [e4, e3]
      have eq6 : ∀ a y : Int, ¬ (a = 16 ∧ y = 6) → e3_up H16 16 6 (fr : Int) a y = H16 a y := fun a y h => e3_up_ne h
      exact ⟨fun a y h1 h2 h3 h4 => by rw [eq6 a y (fun z => h1 z.1)]; exact hF.1 a y h1 h2 h3 h4, fun y h1 h2 => by rw [eq6 16 y (fun z => h1 z.2)]; exact hF.2.1 y h1 h2, fun y h1 => by rw [eq6 25 y (by omega)]; exact hF.2.2.1 y h1, fun y h1 => by rw [eq6 t y (by omega)]; exact hF.2.2.2.1 y h1, fun a y h1 h2 h3 => by rw [eq6 a y (by omega)]; exact hF.2.2.2.2 a y h1 h2 h3⟩
    exact ⟨fun _ => brT rfl end0, fun _ => end0⟩
  · have hl1 := lbs_1 (σ := σ) (m := m) (R := R) (π := π) (x := x) (s := s)
    have key := cD_75 (H := H16) (fr := fr) (b := b) (k := k) (s := s) (Q := Q) (f := f) hG rec hRT hSP hM hp hx hx1 hask hs.1 hsh hw0 (lbs σ m R π x s) rfl (fr + (lbs σ m R π x s).length) rfl (H16 16 4) ⟨hl.1, by omega⟩ hn (P + (lbs σ m R π x s).length) (lbs σ m R π x s) [] [] N1 H16 (-9223372036854775808) (P + (lbs σ m R π x s).length) rfl hgr S16 rfl hun (GF_rf t (b + 1) fr H16) (fun i e he => ?_) (fun j d hd => by cases hd) ⟨?_, by omega, by omega, by omega⟩ (by show P + _ + 0 + _ = P + _ + 0 + _; omega) (fun hz K z1 z2 z3 z4 z5 => ?_) ?_ (fun hz K z1 z2 => ?_)
    · rw [e3_u0 hun] at key
      rw [show ((fr : Int) + (([] : List (Int × Int)).length : Int)) = fr by show (fr : Int) + 0 = fr; omega] at key
      rw [show (((fr + (lbs σ m R π x s).length : Nat)) : Int) = (fr : Int) + (lbs σ m R π x s).length by omega] at key
      exact key
    · rw [at16 25 _ (by omega), at13 25 _ (by omega) (by omega) (by omega)]
      exact hB.2 i e.2 (by rw [List.getElem?_map, he]; rfl)
    · show b + 1 + 0 + _ ≤ _
      omega
    · have hz : P + (lbs σ m R π x s).length + 0 + N1.length ≤ 120 + (lbs σ m R π x s).length := hz
      have z3 : K 16 7 = ((P + (lbs σ m R π x s).length : Nat) : Int) + ((0 : Nat) : Int) + N1.length - (lbs σ m R π x s).length := z3
      have z4 : K t 0 = (b : Int) + 1 + ((0 : Nat) : Int) + N1.length := z4
      have keep : ∀ a : Int, t + 1 ≤ a → a ≤ t + 6 → K a b = H16 a b := fun a h2 h3 => z1.2.2.2.2 a b h2 h3 (by omega)
      exact h1 (by omega) K (comb K z1) z2 (by omega) (by omega) z5 (by rw [keep _ (by omega) (by omega)]; exact g1) (by rw [keep _ (by omega) (by omega)]; exact g2) (by rw [keep _ (by omega) (by omega)]; exact g3) (by rw [keep _ (by omega) (by omega)]; exact g4) (by rw [keep _ (by omega) (by omega)]; exact g6)
    · show P + _ + 0 + _ ≤ _ ∨ _ < P + _ + 0 + _
      omega
    · have hz : 120 + (lbs σ m R π x s).length < P + (lbs σ m R π x s).length + 0 + N1.length := hz
      exact hf (by omega) K (comb K z1)
end CS2
