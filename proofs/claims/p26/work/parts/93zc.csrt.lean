/-- the Sorter's own counts -/
def zSO (H : e3_H) : Prop := (0 ≤ H 34 9 ∧ H 34 9 ≤ 32) ∧ H 34 11 ≤ 8
theorem zSO_up {H : e3_H} {a k v : Int} (h : zSO H) (ha : a ≠ 34 ∨ (k ≠ 9 ∧ k ≠ 11)) : zSO (e3_up H a k v) := by
  unfold zSO
  rw [e3_up_ne (fun z => by omega), e3_up_ne (fun z => by omega)]
  exact h
theorem zF_pt {H K : e3_H} (h : zF 34 39 H K) : ∀ a k : Int, 139 ≤ a → K a k = H a k := fun a k ha => h a k (by omega)
section ZSR
variable {Q : Int → e3_H → e3_G → Prop} {R : e3_H → e3_G → Prop} {H H0 : e3_H} {G : e3_G} {fu a p : Int}
theorem zS_end (l1 l2 : Int) (h : zSO H) (hQ : ∀ K, zF 34 39 H K → zSO K → R K G) : wS_end R l1 l2 H G := by
  intro H1 e1 H2 e2
  rw [e1] at e2
  rw [e2]
  exact hQ _ (zF_up (zF_up (zF_rf H) (by decide)) (by decide)) (zSO_up (zSO_up h (by decide)) (by decide))
theorem zS_holdRow (hl : zLX H0) (hu : zFU fu H0 G) {w : Int} (hr : zRW w H0 G) (hf : zF 34 39 H0 H) (hs : zSO H) (hQ : ∀ K, zF 34 39 H0 K → zSO K → R K G) : wS_holdRow R fu w H G := by
  have key : ∀ (n : Nat) (l3 : Int) (H : e3_H), 0 ≤ l3 → l3 + n = 8 → zF 34 39 H0 H → zSO H → wS_holdRow_2 R (n + 1) fu w l3 H G := by
    intro n
    induction n with
    | zero =>
      intro l3 H g0 hn hf hs
      have hr := zRW_F hr hf
      refine ⟨ga_ob (c := 11) hr.1.2, ga_ob (c := 9) hr.2.1.1.2, ?_⟩
      by_cases a : l3 < H (H w 0) 4
      · exact brT a (brF (by omega) (hQ H hf hs))
      · exact brF a (hQ H hf hs)
    | succ n ih =>
      intro l3 H g0 hn hf hs
      have hr := zRW_F hr hf
      refine ⟨ga_ob (c := 11) hr.1.2, ga_ob (c := 9) hr.2.1.1.2, ?_⟩
      by_cases a : l3 < H (H w 0) 4
      · refine brT a (brT (by omega) ⟨ga_ob (c := 11) hr.1.2, ga_oa hr.2.2.2 (by have := hr.2.2.1; omega) (by omega), zS_valueAt (zLX_F hl hf) (zFU_F hu hf) 8 _ _ 0 (by omega) (by omega) (by omega) (fun x => ⟨by omega, fun H8 e8 => ?_⟩)⟩)
        rw [e3_w32_id (by omega) (by omega), e8]
        exact ih (l3 + 1) _ (by omega) (by omega) (zF_up hf (by decide)) (zSO_up hs (Or.inl (by decide)))
      · exact brF a (hQ H hf hs)
  exact ⟨9, key 8 0 H (by omega) (by omega) hf hs⟩
theorem zS_heldAt (l1 : Int) (hQ : ∀ x, Q x H G) : wS_heldAt Q l1 H G := by
  by_cases a : l1 < 0
  · exact brT a (hQ _)
  · refine brF a ?_
    by_cases b : l1 < 8
    · exact brT b ⟨by omega, hQ _⟩
    · exact brF b (hQ _)
theorem zS_numberHeld (hl : zLX H) (l1 : Int) (hQ : ∀ x, Q x H G) : wS_numberHeld Q l1 H G := by
  have := hl.1
  exact zS_heldAt l1 (fun x => zL_has x (fun hx => brF (by decide) ⟨by omega, hQ _⟩) (brT rfl (hQ _)))
theorem zS_term (hl : zLX H) (h : zRU a H G) (l2 : Int) (h2 : 0 ≤ l2 ∧ l2 < 4) (hQ : ∀ x, Q x H G) : wS_term Q a l2 H G := by
  obtain ⟨h1, _, _, h9, h10, _⟩ := h
  refine ⟨ga_ob (c := 9) h1.2, ga_oa h9.2 (by omega) (by omega), ?_⟩
  by_cases c : H (H a 9) l2 < 0
  · exact brT c ⟨ga_ob (c := 9) h1.2, ga_oa h10.2 (by omega) (by omega), hQ _⟩
  · exact brF c ⟨ga_ob (c := 9) h1.2, ga_oa h9.2 (by omega) (by omega), zS_numberHeld hl _ (fun x => hQ _)⟩
theorem zS_sum32 (h : zRU a H G) (l2 l3 s0 : Int) (h2 : l2 = 0 ∨ l2 = 1) (hs : zSO H) (hQ : ∀ x K, zF 34 39 H K → zSO K → Q x K G) : wS_sum_32 Q a l2 l3 s0 H G := by
  obtain ⟨h1, _, h8, _⟩ := h
  have o1 := ga_ob (c := 9) h1.2
  have o2 : e3_oa G 0 (H a 8) l2 := ga_oa h8.2 (by omega) (by omega)
  have no : ∀ x, Q x H G := fun x => hQ x H (zF_rf H) hs
  have dv : ∀ x y z, wS_sum_135 Q x y z H G := fun x y z => by
    by_cases c : y = 0
    · refine brT c (fun H1 e1 => ?_)
      rw [e1]
      exact hQ _ _ (zF_up (zF_rf H) (by decide)) (zSO_up hs (by decide))
    · refine brF c ?_
      by_cases d : x = 0
      · exact brT d ⟨c, no _⟩
      · exact brF d ⟨c, no _⟩
  exact ⟨o1, o2, fun _ => ⟨o1, o2, fun _ => dv _ _ _, fun _ => dv _ _ _⟩, fun _ => no _, fun _ => no _, fun _ => no _, fun _ => no _, fun _ => no _, fun _ => no _, fun _ => no _, fun _ => no _, fun _ => no _, fun _ => ⟨o1, o2, fun _ => dv _ _ _, fun _ => dv _ _ _⟩, fun _ => no _⟩
theorem zS_sum (hl : zLX H) (h : zRU a H G) (l2 : Int) (h2 : l2 = 0 ∨ l2 = 1) (hs : zSO H) (hQ : ∀ x K, zF 34 39 H K → zSO K → Q x K G) : wS_sum Q a l2 H G := by
  have h8 := h.2.2.1
  unfold wS_sum
  rw [e3_w32_id (x := 2 * l2) (by omega) (by omega), e3_w32_id (x := 2 * l2 + 1) (by omega) (by omega)]
  refine zS_term hl h _ (by omega) (fun x3 => ⟨ga_ob (c := 9) h.1.2, ga_oa h8.2 (by omega) (by omega), ?_⟩)
  by_cases c : H (H a 8) l2 = 0
  · exact brT c (zS_sum32 h l2 _ _ h2 hs hQ)
  · exact brF c (zS_term hl h _ (by omega) (fun x8 => zS_sum32 h l2 _ _ h2 hs hQ))
theorem zS_gl88 (h : zRU a H G) (l2 s0 : Int) (hs : zSO H) (hQ : ∀ x K, (x = 0 ∨ x = 1) → zF 34 39 H K → zSO K → Q x K G) : wS_guardLets_88 Q a l2 s0 H G := by
  have y : ((1 : Int) = 0 ∨ (1 : Int) = 1) ∧ Q 1 H G := ⟨Or.inr rfl, hQ 1 H (Or.inr rfl) (zF_rf H) hs⟩
  have n : ((0 : Int) = 0 ∨ (0 : Int) = 1) ∧ Q 0 H G := ⟨Or.inl rfl, hQ 0 H (Or.inl rfl) (zF_rf H) hs⟩
  by_cases c : H 34 6 = 0
  · exact brT c ⟨ga_ob (c := 9) h.1.2, fun _ => ⟨fun _ => y, fun _ => n⟩, fun _ => ⟨fun _ => y, fun _ => n⟩, fun _ => ⟨fun _ => y, fun _ => n⟩⟩
  · exact brF c ⟨ga_ob (c := 9) h.1.2, zS_end _ _ hs (fun K f s => hQ 0 K (Or.inl rfl) f s)⟩
theorem zS_gl64 (hl : zLX H) (h : zRU a H G) (hs : zSO H) (hQ : ∀ x K, (x = 0 ∨ x = 1) → zF 34 39 H K → zSO K → Q x K G) : wS_guardLets_64 Q a H G := by
  refine zS_sum hl h 0 (Or.inl rfl) hs (fun x3 K f s => ?_)
  have hK := zRU_F h f
  by_cases c : K 34 6 = 0
  · refine brT c (zS_sum (zLX_F hl f) hK 1 (Or.inr rfl) s (fun x6 K2 f2 s2 => zS_gl88 (zRU_F hK f2) _ _ s2 (fun x K3 hx f3 s3 => hQ x K3 hx (zF_tr f (zF_tr f2 f3)) s3)))
  · exact brF c (zS_gl88 hK _ _ s (fun x K3 hx f3 s3 => hQ x K3 hx (zF_tr f f3) s3))
theorem zU_isGuarded (h : zRU a H G) (hQ : ∀ x, (x = 0 ∨ x = 1) → Q x H G) : wU_isGuarded Q a H G := by
  have o1 := ga_ob (c := 9) h.1.2
  unfold wU_isGuarded
  first
    | exact ⟨o1, fun _ => ⟨Or.inl rfl, hQ _ (Or.inl rfl)⟩, fun _ => ⟨Or.inr rfl, hQ _ (Or.inr rfl)⟩⟩
    | exact ⟨o1, fun _ => ⟨Or.inr rfl, hQ _ (Or.inr rfl)⟩, fun _ => ⟨Or.inl rfl, hQ _ (Or.inl rfl)⟩⟩
theorem zS_guardLets (hl : zLX H) (h : zRU a H G) (hs : zSO H) (hQ : ∀ x K, (x = 0 ∨ x = 1) → zF 34 39 H K → zSO K → Q x K G) : wS_guardLets Q a H G := by
  intro H1 e1
  have f1 : zF 34 39 H H1 := by rw [e1]; exact zF_up (zF_rf H) (by decide)
  have s1 : zSO H1 := by rw [e1]; exact zSO_up hs (by decide)
  refine ⟨ga_ob (c := 9) h.1.2, zU_isGuarded (zRU_F h f1) (fun x4 _ => ?_)⟩
  by_cases c : x4 = 0
  · exact brT c (hQ 1 H1 (Or.inr rfl) f1 s1)
  · refine brF c (fun H5 e5 => ?_)
    have f5 : zF 34 39 H H5 := by rw [e5]; exact zF_up f1 (by decide)
    have s5 : zSO H5 := by rw [e5]; exact zSO_up s1 (by decide)
    by_cases d : H5 34 9 < 32
    · refine brT d ⟨ga_ob (c := 9) h.1.2, by have := s5.1; omega, fun H6 e6 H9 e9 => ?_⟩
      have s6 : zSO H6 := by rw [e6]; exact zSO_up s5 (Or.inl (by decide))
      have f9 : zF 34 39 H H9 := by rw [e9, e6]; exact zF_up (zF_up f5 (by decide)) (by decide)
      have e69 : H6 34 9 = H5 34 9 := by rw [e6, e3_up_ne (ne_1 (by decide))]
      have s9 : zSO H9 := by
        have := s5.1
        refine ⟨?_, ?_⟩
        · rw [e9, e3_up_self, e69, e3_w32_id (by omega) (by omega)]; omega
        · rw [e9, e3_up_ne (ne_2 (by decide))]; exact s6.2
      exact zS_gl64 (zLX_F hl f9) (zRU_F h f9) s9 (fun x K hx f s => hQ x K hx (zF_tr f9 f) s)
    · exact brF d (zS_gl64 (zLX_F hl f5) (zRU_F h f5) s5 (fun x K hx f s => hQ x K hx (zF_tr f5 f) s))
/-- what byTree and byRules answer -/
theorem zS_byTree (hl : zLX H0) (hu : zFU fu H0 G) (hf : zF 34 39 H0 H) (hs : zSO H) (hQ : ∀ x K, (x < 0 ∨ zRU x H0 G) → zF 34 39 H0 K → zSO K → Q x K G) : wS_byTree Q fu H G := by
  have hu1 := zFU_F hu hf
  have n137 : ∀ H, zF 34 39 H0 H → zSO H → wS_byTree_137 Q H G := fun H hf hs => zS_end _ _ hs (fun K f s => hQ _ K (Or.inl (by decide)) (zF_tr hf f) s)
  have key : ∀ (n : Nat) (l3 l4 : Int) (H : e3_H), 0 ≤ l4 → l4 + n = 120 → zF 34 39 H0 H → zSO H → wS_byTree_10 Q (n + 1) fu (H0 fu 10) l3 l4 H G := by
    intro n
    induction n with
    | zero => intro l3 l4 H g0 hn hf hs; exact brF (by omega) (n137 H hf hs)
    | succ n ih =>
      intro l3 l4 H g0 hn hf hs
      have nx : ∀ (l3 : Int) (K : e3_H), zF 34 39 H0 K → zSO K → wS_byTree_131 Q (fun l1 l2 l3 l4 H G => wS_byTree_10 Q (n + 1) l1 l2 l3 l4 H G) fu (H0 fu 10) l3 l4 K G := fun l3 K f s => by
        show wS_byTree_10 Q (n + 1) fu (H0 fu 10) l3 (e3_w32 (l4 + 1)) K G
        rw [e3_w32_id (by omega) (by omega)]
        exact ih l3 (l4 + 1) K (by omega) (by omega) f s
      have hT := zTR_F hu.2.2.2.2.2 hf
      obtain ⟨⟨q, q0, ⟨p1, q1⟩, ⟨p2, q2⟩, ⟨p3, q3⟩, ⟨p4, q4⟩, ⟨p5, q5⟩, ⟨p6, q6⟩⟩, t2, t3⟩ := id hT
      have huH := zFU_F hu hf
      refine brT (by omega) ⟨ga_ob (c := 5) q0, zE_has q0 l3 (fun hx => brF (by decide) ?_) (brT rfl (n137 H hf hs))⟩
      have n4 : wS_byTree_137 Q H G := n137 H hf hs
      refine ⟨ga_ob (c := 5) q0, by rw [p2]; exact ga_oa q2 (by omega) (by omega), ga_ob (c := 8) huH.1.2, zF_rowAt huH _ (fun hx2 hR => ?_) ?_⟩
      · refine ⟨ga_ob (c := 5) q0, by rw [p1]; exact ga_oa q1 (by omega) (by omega), ?_⟩
        by_cases c : H (H (H0 fu 10) 4) l3 = 0
        · exact brT c n4
        · refine brF c (brF (by have := hR.1.1; omega) ?_)
          generalize H (H fu 6) (H (H (H0 fu 10) 5) l3) = w at hR
          have hR0 : zRW w H0 G := zRW_eq hR (fun a k ha => (hf a k (by omega)).symm)
          refine zS_holdRow hl hu hR0 hf hs (fun K f s => ⟨ga_ob (c := 11) hR.1.2, ?_⟩)
          have ew : K w 0 = H0 w 0 := f w 0 (by have := hR.1.1; omega)
          rw [ew]
          have hru : zRU (H0 w 0) H0 G := hR0.2.1
          refine zS_guardLets (zLX_F hl f) (zRU_F hru f) s (fun x K2 hx f2 s2 => ?_)
          have f02 := zF_tr f f2
          rcases hx with z | z
          · refine brT z ?_
            by_cases d : K2 34 6 = 0
            · exact brT d (nx _ K2 f02 s2)
            · exact brF d (hQ _ K2 (Or.inl (by decide)) f02 s2)
          · refine brF (by rw [z]; decide) ⟨ga_ob (c := 11) hR.1.2, ?_⟩
            rw [f02 w 0 (by have := hR.1.1; omega)]
            exact hQ _ K2 (Or.inr hru) f02 s2
      · refine ⟨ga_ob (c := 5) q0, by rw [p1]; exact ga_oa q1 (by omega) (by omega), ?_⟩
        by_cases c : H (H (H0 fu 10) 4) l3 = 0
        · exact brT c n4
        · refine brF c (brT (by decide) (fun H11 e11 => ?_))
          have f11 : zF 34 39 H0 H11 := by rw [e11]; exact zF_up hf (by decide)
          have s11 : zSO H11 := by rw [e11]; exact zSO_up hs (by decide)
          have g6 : H11 (H0 fu 10) 6 = H0 fu 10 + 3 := by rw [e11, e3_up_ne (ne_1 (by omega))]; exact p3
          refine ⟨ga_ob (c := 5) q0, by rw [g6]; exact ga_oa q3 (by omega) (by omega), zS_labelAt (zLX_F hl f11) (zFU_F hu f11) _ (fun x => ⟨ga_ob (c := 5) q0, zE_follow (zTR_F hu.2.2.2.2.2 f11) l3 x ?_ (fun y => ?_)⟩)⟩
          · rw [e11, e3_up_ne (ne_1 (by omega))]; exact hx
          · by_cases d : y < 0
            · exact brT d (zS_end _ _ s11 (fun K f s => hQ _ K (Or.inl (by decide)) (zF_tr f11 f) s))
            · exact brF d (nx _ H11 f11 s11)
  refine ⟨ga_ob (c := 8) hu.1.2, 121, ?_⟩
  rw [hf fu 10 (by have := hu.1.1; omega)]
  exact key 120 0 0 H (by omega) (by omega) hf hs
end ZSR
