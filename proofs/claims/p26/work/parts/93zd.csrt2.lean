section ZSQ
variable {Q : Int → e3_H → e3_G → Prop} {R : e3_H → e3_G → Prop} {H H0 : e3_H} {G : e3_G} {fu a : Int}
theorem zU_nameNumber (h : zRU a H G) (l1 : Int) (hQ : ∀ x, Q x H G) : wU_nameNumber Q a l1 H G := by
  obtain ⟨h1, ⟨h4, h5⟩, _⟩ := h
  have key : ∀ (n : Nat) (l3 : Int), 0 ≤ l3 → l3 + n = 8 → wU_nameNumber_2 Q (n + 1) a l1 l3 H G := by
    intro n
    induction n with
    | zero => intro l3 g0 hn; exact ⟨ga_ob (c := 9) h1.2, brF (by omega) (hQ _)⟩
    | succ n ih =>
      intro l3 g0 hn
      refine ⟨ga_ob (c := 9) h1.2, ?_⟩
      by_cases c : l3 < H a 4
      · refine brT c ⟨ga_ob (c := 9) h1.2, ga_oa h5.2 (by omega) (by omega), ?_⟩
        by_cases d : H (H a 5) l3 = l1
        · exact brT d (hQ _)
        · refine brF d ?_
          rw [e3_w32_id (by omega) (by omega)]
          exact ih (l3 + 1) (by omega) (by omega)
      · exact brF c (hQ _)
  exact ⟨9, key 8 0 (by omega) (by omega)⟩
theorem zS_hold (h : zRU a H G) (l2 l4 : Int) (hs : zSO H) (hQ : ∀ K, zF 34 39 H K → zSO K → R K G) : wS_hold R a l2 l4 H G := by
  refine ⟨ga_ob (c := 9) h.1.2, zU_nameNumber h l2 (fun x => ?_)⟩
  by_cases c : x < 0
  · exact brT c (hQ H (zF_rf H) hs)
  · refine brF c ?_
    by_cases d : x < 8
    · refine brT d ⟨by omega, fun H4 e4 => ?_⟩
      rw [e4]
      exact hQ _ (zF_up (zF_rf H) (by decide)) (zSO_up hs (Or.inl (by decide)))
    · exact brF d (hQ H (zF_rf H) hs)
theorem zK_holds {p : Int} (hk : zKX H) (hp : g_at G p (110, 10)) (l2 : Int) (hQ : ∀ x, (x = 0 ∨ x = 1) → Q x H G) : wK_holds Q p l2 H G := by
  have o := ga_ob (c := 10) hp
  have y : ((1 : Int) = 0 ∨ (1 : Int) = 1) ∧ Q 1 H G := ⟨Or.inr rfl, hQ 1 (Or.inr rfl)⟩
  have n : ((0 : Int) = 0 ∨ (0 : Int) = 1) ∧ Q 0 H G := ⟨Or.inl rfl, hQ 0 (Or.inl rfl)⟩
  refine ⟨o, fun _ => ⟨fun _ => n, fun _ => ⟨o, zK_isOrUnder hk _ _ (fun x hx => ⟨fun _ => n, fun _ => y⟩)⟩⟩, fun _ => ⟨o, fun _ => n, fun _ => ⟨o, fun _ => n, fun _ => y⟩⟩⟩
/-- a pattern that is there -/
def zP1 (p : Int) (H : e3_H) (G : e3_G) : Prop := (139 ≤ p ∧ g_at G p (110, 10)) ∧ ∃ n, zPT n H G (H p 7)
theorem zS_fits (hl : zLX H0) (hk : zKX H0) (ha : zRU a H0 G) : ∀ (n : Nat) (p l3 l4 : Int) (H : e3_H) (Q : Int → e3_H → e3_G → Prop), zF 34 39 H0 H → zSO H → zP1 p H0 G → 0 ≤ l4 → 7 ≤ l4 + n → l4 ≤ 7 → (∀ x K, (x = 0 ∨ x = 1) → zF 34 39 H0 K → zSO K → Q x K G) → wS_fits (n + 1) a p l3 l4 H G Q := by
  intro n
  induction n with
  | zero =>
    intro p l3 l4 H Q hf hs hp g0 hn g7 hQ
    exact brT (by omega) (hQ 0 H (Or.inl rfl) hf hs)
  | succ n ih =>
    intro p l3 l4 H Q hf hs hp g0 hn g7 hQ
    by_cases b : 6 < l4
    · exact brT b (hQ 0 H (Or.inl rfl) hf hs)
    refine brF b (zL_has l3 (fun hx => brF (by decide) ?_) (brT rfl (hQ 0 H (Or.inl rfl) hf hs)))
    obtain ⟨p1, N, p2⟩ := hp
    have o := ga_ob (c := 10) p1.2
    have h26 := (zLX_F hl hf).1
    refine ⟨o, zS_hold (zRU_F ha hf) _ _ hs (fun H5 f5 s5 => ⟨o, zS_hold (zRU_F ha (zF_tr hf f5)) _ _ s5 (fun H9 f9 s9 => ⟨o, ?_⟩)⟩)⟩
    have f : zF 34 39 H0 H9 := zF_tr hf (zF_tr f5 f9)
    have e7 : H9 p 7 = H0 p 7 := f p 7 (by omega)
    have w1 : e3_w32 (l4 + 1) = l4 + 1 := e3_w32_id (by omega) (by omega)
    have any : ∀ (N M : Nat) (q : Int) (K : e3_H), zPT N H0 G q → N + 1 = M → zF 34 39 H0 K → zSO K → wS_anyFits_6 (wS_fits (n + 1)) (fun x15 H13 G14 => ((x15 : Int) = 0 ∨ x15 = 1) ∧ Q x15 H13 G14) M a l3 (l4 + 1) q K G := by
      intro N
      induction N with
      | zero =>
        intro M q K hq hM fK sK
        subst hM
        exact brT hq ⟨Or.inl rfl, hQ 0 K (Or.inl rfl) fK sK⟩
      | succ N ihN =>
        intro M q K hq hM fK sK
        subst hM
        by_cases c : q < 0
        · exact brT c ⟨Or.inl rfl, hQ 0 K (Or.inl rfl) fK sK⟩
        · rcases hq with z | ⟨q1, q2, q3⟩
          · exact absurd z c
          refine brF c (ih q l3 (l4 + 1) K _ fK sK ⟨q1, N, q3⟩ (by omega) (by omega) (by omega) (fun x K2 hx2 f2 s2 => ?_))
          rcases hx2 with z | z
          · refine brT z ⟨ga_ob (c := 10) q1.2, ?_⟩
            rw [f2 q 8 (by omega)]
            exact ihN _ _ K2 q2 rfl f2 s2
          · exact brF (by rw [z]; decide) ⟨Or.inr rfl, hQ 1 K2 (Or.inr rfl) f2 s2⟩
    have prt : ∀ (N M : Nat) (q l5 : Int) (K : e3_H), zPT N H0 G q → N + 1 = M → zF 34 39 H0 K → zSO K → wS_partsFit_9 (wS_fits (n + 1)) (fun x22 H20 G21 => (((x22 : Int) = 0 → (wS_fits_124 (wS_fits (n + 1)) Q H20 G21)) ∧ (¬ ((x22 : Int) = 0) → (wS_fits_125 (wS_fits (n + 1)) Q 1 H20 G21)))) M a l3 (l4 + 1) l5 q K G := by
      intro N
      induction N with
      | zero =>
        intro M q l5 K hq hM fK sK
        subst hM
        exact brT hq (brF (by decide) ⟨Or.inr rfl, hQ 1 K (Or.inr rfl) fK sK⟩)
      | succ N ihN =>
        intro M q l5 K hq hM fK sK
        subst hM
        by_cases c : q < 0
        · exact brT c (brF (by decide) ⟨Or.inr rfl, hQ 1 K (Or.inr rfl) fK sK⟩)
        · rcases hq with z | ⟨q1, q2, q3⟩
          · exact absurd z c
          refine brF c (zL_part (zLX_F hl fK) l3 l5 (fun v => ih q v (l4 + 1) K _ fK sK ⟨q1, N, q3⟩ (by omega) (by omega) (by omega) (fun x K2 hx2 f2 s2 => ?_)))
          rcases hx2 with z | z
          · exact brT z (brT rfl ⟨Or.inl rfl, hQ 0 K2 (Or.inl rfl) f2 s2⟩)
          · refine brF (by rw [z]; decide) ⟨ga_ob (c := 10) q1.2, ?_⟩
            rw [f2 q 8 (by omega)]
            exact ihN _ _ _ K2 q2 rfl f2 s2
    refine ⟨fun _ => hQ 1 H9 (Or.inr rfl) f s9, fun _ => ?_, fun _ => ⟨by omega, zK_holds (zKX_F hk f) p1.2 _ (fun x hx3 => ?_)⟩⟩
    · refine ⟨o, N + 1, ?_⟩
      rw [w1, e7]
      exact any N _ _ H9 p2 rfl f s9
    · rcases hx3 with z | z
      · exact brT z ⟨Or.inl rfl, hQ 0 H9 (Or.inl rfl) f s9⟩
      · refine brF (by rw [z]; decide) ⟨o, N + 1, ?_⟩
        rw [w1, e7]
        exact prt N _ _ _ H9 p2 rfl f s9
theorem zS_patternsFit (hl : zLX H0) (hk : zKX H0) (ha : zRU a H0 G) (hf : zF 34 39 H0 H) (hs : zSO H) (hQ : ∀ x K, (x = 0 ∨ x = 1) → zF 34 39 H0 K → zSO K → Q x K G) : wS_patternsFit Q a H G := by
  have key : ∀ (n : Nat) (l2 q : Int) (N : Nat) (K : e3_H), 0 ≤ l2 → l2 + n = 3 → zPT N H0 G q → zF 34 39 H0 K → zSO K → wS_patternsFit_7 Q (n + 1) a l2 q K G := by
    intro n
    induction n with
    | zero =>
      intro l2 q N K g0 hn hq fK sK
      by_cases c : q < 0
      · exact brT c (hQ 1 K (Or.inr rfl) fK sK)
      · exact brF c (brF (by omega) (hQ 1 K (Or.inr rfl) fK sK))
    | succ n ih =>
      intro l2 q N K g0 hn hq fK sK
      by_cases c : q < 0
      · exact brT c (hQ 1 K (Or.inr rfl) fK sK)
      · cases N with
        | zero => exact absurd hq c
        | succ N =>
          rcases hq with z | ⟨q1, q2, q3⟩
          · exact absurd z c
          refine brF c (brT (by omega) ⟨by omega, zS_fits hl hk ha 8 q _ 0 K _ fK sK ⟨q1, N, q3⟩ (by omega) (by omega) (by omega) (fun x K2 hx f2 s2 => ?_)⟩)
          rcases hx with z | z
          · exact brT z (hQ 0 K2 (Or.inl rfl) f2 s2)
          · refine brF (by rw [z]; decide) ⟨ga_ob (c := 10) q1.2, ?_⟩
            rw [f2 q 8 (by omega), e3_w32_id (by omega) (by omega)]
            exact ih (l2 + 1) _ N K2 (by omega) (by omega) q2 f2 s2
  obtain ⟨h1, _, _, _, _, _, N, hN⟩ := id ha
  refine ⟨ga_ob (c := 9) h1.2, 4, ?_⟩
  rw [hf a 2 (by omega)]
  exact key 3 0 _ N H (by omega) (by omega) hN hf hs
theorem zS_byRules (hl : zLX H0) (hk : zKX H0) (hu : zFU fu H0 G) (hf : zF 34 39 H0 H) (hs : zSO H) (hQ : ∀ x K, (x < 0 ∨ zRU x H0 G) → zF 34 39 H0 K → zSO K → Q x K G) : wS_byRules Q fu H G := by
  obtain ⟨h1, _, ⟨h3, h4, h5, h6⟩, _⟩ := id hu
  have key : ∀ (n : Nat) (l2 : Int) (K : e3_H), 0 ≤ l2 → l2 + n = 16 → zF 34 39 H0 K → zSO K → wS_byRules_2 Q (n + 1) fu l2 K G := by
    intro n
    induction n with
    | zero =>
      intro l2 K g0 hn fK sK
      refine ⟨ga_ob (c := 8) h1.2, brF (by rw [fK fu 3 (by omega)]; omega) (zS_end _ _ sK (fun K2 f s => hQ _ K2 (Or.inl (by decide)) (zF_tr fK f) s))⟩
    | succ n ih =>
      intro l2 K g0 hn fK sK
      have nx : ∀ (K2 : e3_H), zF 34 39 H0 K2 → zSO K2 → wS_byRules_44 Q (fun l1 l2 H G => wS_byRules_2 Q (n + 1) l1 l2 H G) fu l2 K2 G := fun K2 f s => by
        show wS_byRules_2 Q (n + 1) fu (e3_w32 (l2 + 1)) K2 G
        rw [e3_w32_id (by omega) (by omega)]
        exact ih (l2 + 1) K2 (by omega) (by omega) f s
      have e3 : K fu 3 = H0 fu 3 := fK fu 3 (by omega)
      have e4 : K fu 4 = H0 fu 4 := fK fu 4 (by omega)
      refine ⟨ga_ob (c := 8) h1.2, ?_⟩
      by_cases c : l2 < K fu 3
      · have hru := h6 l2 g0 (by omega)
        have er : K (K fu 4) l2 = H0 (H0 fu 4) l2 := by rw [e4]; exact fK _ l2 (by omega)
        refine brT c ⟨ga_ob (c := 8) h1.2, by rw [e4]; exact ga_oa h5 (by omega) (by omega), ?_⟩
        rw [er]
        refine zS_patternsFit hl hk hru fK sK (fun x K2 hx f2 s2 => ?_)
        rcases hx with z | z
        · exact brT z (nx K2 f2 s2)
        · refine brF (by rw [z]; decide) (zS_guardLets (zLX_F hl f2) (zRU_F hru f2) s2 (fun x9 K3 hx9 f3 s3 => ?_))
          have f03 := zF_tr f2 f3
          rcases hx9 with z | z
          · refine brT z ?_
            by_cases d : K3 34 6 = 0
            · exact brT d (nx K3 f03 s3)
            · exact brF d (hQ _ K3 (Or.inl (by decide)) f03 s3)
          · exact brF (by rw [z]; decide) (hQ _ K3 (Or.inr hru) f03 s3)
      · exact brF c (zS_end _ _ sK (fun K2 f s => hQ _ K2 (Or.inl (by decide)) (zF_tr fK f) s))
  exact ⟨17, key 16 0 H (by omega) (by omega) hf hs⟩
theorem zS_keepBound (hG : zGC G) (h : zRU a H G) (hs : zSO H) (hQ : ∀ K, zF 34 39 H K → zSO K → R K G) : wS_keepBound R a H G := by
  have h4 := h.2.1.1
  have fin : ∀ (x : Int), x ≤ 8 → ∀ H5 : e3_H, H5 = e3_up H 34 11 x → (e3_co G 36 0 39 0 8) ∧ ∀ H6 : e3_H, H6 = e3_cpy H5 36 0 39 0 8 → R H6 G := fun x hx H5 e5 => by
    refine ⟨⟨by decide, by decide, by decide, by decide, by decide, 8, 8, hG.2.2.2.2.2, hG.2.2.1.2, by decide, by decide⟩, fun H6 e6 => ?_⟩
    have a6 : ∀ b k : Int, b ≠ 39 → H6 b k = H5 b k := fun b k hb => by
      rw [e6]
      show (if b = 39 ∧ _ ∧ _ then _ else _) = _
      rw [if_neg (fun z => hb z.1)]
    refine hQ H6 (fun b k hb => ?_) ⟨?_, ?_⟩
    · rw [a6 b k (by omega), e5, e3_up_ne (ne_1 (by omega))]
    · rw [a6 34 9 (by decide), e5, e3_up_ne (ne_2 (by decide))]; exact hs.1
    · rw [a6 34 11 (by decide), e5, e3_up_self]; exact hx
  refine ⟨ga_ob (c := 9) h.1.2, ?_⟩
  by_cases c : (8 : Int) < H a 4
  · exact brT c (fin _ (by omega))
  · exact brF c (fin _ (by omega))
theorem zS_handOver (h : zRU a H0 G) (hf : zF 34 39 H0 H) (hs : zSO H) (hQ : ∀ K, zF 34 39 H0 K → zSO K → R K G) : wS_handOver R a H G := by
  obtain ⟨h1, _, _, _, _, h16, _⟩ := h
  have n37 : ∀ K, zF 34 39 H0 K → zSO K → wS_handOver_37 R a K G := fun K f s => ⟨ga_ob (c := 9) h1.2, fun H1 e1 => by rw [e1]; exact hQ _ (zF_up f (by decide)) (zSO_up s (by decide))⟩
  have key : ∀ (n : Nat) (l2 : Int) (K : e3_H), 0 ≤ l2 → l2 + n = 3 → zF 34 39 H0 K → zSO K → wS_handOver_2 R (n + 1) a l2 K G := by
    intro n
    induction n with
    | zero =>
      intro l2 K g0 hn fK sK
      refine ⟨ga_ob (c := 9) h1.2, ?_⟩
      by_cases c : l2 < K a 15
      · exact brT c (brF (by omega) (n37 K fK sK))
      · exact brF c (n37 K fK sK)
    | succ n ih =>
      intro l2 K g0 hn fK sK
      refine ⟨ga_ob (c := 9) h1.2, ?_⟩
      by_cases c : l2 < K a 15
      · refine brT c (brT (by omega) ⟨ga_ob (c := 9) h1.2, by rw [fK a 16 (by omega)]; exact ga_oa h16.2 (by omega) (by omega), zS_heldAt _ (fun x => ⟨by omega, fun H7 e7 => ?_⟩)⟩)
        rw [e7, e3_w32_id (by omega) (by omega)]
        exact ih (l2 + 1) _ (by omega) (by omega) (zF_up fK (by decide)) (zSO_up sK (Or.inl (by decide)))
      · exact brF c (n37 K fK sK)
  exact ⟨4, key 3 0 H (by omega) (by omega) hf hs⟩
end ZSQ
