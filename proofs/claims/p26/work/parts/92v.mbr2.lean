theorem cin_map {c : Int} : ∀ l : List Int, (cin c l).map (· + 1) = cin (c + 1) (l.map (· + 1)) := by
  intro l
  induction l with
  | nil => rfl
  | cons d l ih =>
    show (cin c (d :: l)).map (· + 1) = cin (c + 1) ((d + 1) :: l.map (· + 1))
    unfold cin
    by_cases h1 : c < d
    · rw [if_pos h1, if_pos (show c + 1 < d + 1 by omega)]; rfl
    · by_cases h2 : c = d
      · rw [if_neg h1, if_pos h2, if_neg (show ¬ (c + 1 < d + 1) by omega), if_pos (show c + 1 = d + 1 by omega)]; rfl
      · rw [if_neg h1, if_neg h2, if_neg (show ¬ (c + 1 < d + 1) by omega), if_neg (show ¬ (c + 1 = d + 1) by omega)]
        show (d + 1) :: (cin c l).map (· + 1) = _
        rw [ih]
theorem srt_map {l : List Int} (h : l.Pairwise (· < ·)) : (l.map (· + 1)).Pairwise (· < ·) := List.pairwise_map.mpr (List.Pairwise.imp (fun {a b} hab => by omega) h)
section MB2
variable {Q : e3_H → e3_G → Prop} {σ H : e3_H} {G : e3_G} {m : Nat}
theorem cM_wants {l : List Int} {c : Int} (h : BRL (l.map (fun w => (0, 0, w, 0))) H) (hl : l.length < 100) (hQ : ∀ K, BRL ((if c ∈ l then l else l ++ [c]).map (fun w => (0, 0, w, 0))) K → mb H K → Q K G) : wM_wants Q c H G := by
  obtain ⟨h1, h2⟩ := id h
  rw [List.length_map] at h1
  have look : ∀ (l2 l1 : List Int) (f : Int), l = l1 ++ l2 → (f = 0 ∨ f = 1) → (f = 1 → c ∈ l1) → (f = 0 → c ∉ l1) → wM_wants_5 Q (l2.length + 1) c f l1.length H G := by
    intro l2
    induction l2 with
    | nil =>
      intro l1 f e hf f1 f0
      rw [List.append_nil] at e
      refine brF (by rw [h1, e]; omega) ⟨fun hz => ?_, fun hz => hQ H ?_ (mb_rf H)⟩
      · refine cM_one h (by rw [List.length_map]; exact hl) (Or.inl rfl) (fun K k1 k2 _ => hQ K ?_ k2)
        rw [if_neg (by rw [e]; exact f0 hz), List.map_append]
        exact k1
      · rw [if_pos (by rw [e]; exact f1 (by omega))]
        exact h
    | cons d l2 ih =>
      intro l1 f e hf f1 f0
      have hlen : l.length = l1.length + (l2.length + 1) := by rw [e, List.length_append]; rfl
      have hat := (h2 l1.length (0, 0, d, 0) (by rw [List.getElem?_map, e, List.getElem?_append_right (Nat.le_refl _), Nat.sub_self]; rfl)).2.2.1
      have hat : H 122 l1.length = d := hat
      have next : ∀ f2 : Int, (f2 = 0 ∨ f2 = 1) → (f2 = 1 → c ∈ l1 ++ [d]) → (f2 = 0 → c ∉ l1 ++ [d]) → wM_wants_35 Q (fun l1 l3 l4 H G => wM_wants_5 Q (l2.length + 1) l1 l3 l4 H G) c l1.length f2 H G := fun f2 g0 g1 g2 => by
        show wM_wants_5 Q (l2.length + 1) c f2 (e3_w32 ((l1.length : Int) + 1)) H G
        rw [e3_w32_id (by omega) (by omega)]
        have := ih (l1 ++ [d]) f2 (by rw [List.append_assoc]; exact e) g0 g1 g2
        rw [List.length_append] at this
        exact this
      refine brT (by omega) ⟨fun hz => ⟨by omega, ?_⟩, fun hz => next 1 (Or.inr rfl) (fun _ => List.mem_append_left _ (f1 (by omega))) (fun z => absurd z (by decide))⟩
      rw [hat]
      refine ⟨fun hy => next 1 (Or.inr rfl) (fun _ => List.mem_append_right _ (List.mem_singleton.mpr hy.symm)) (fun z => absurd z (by decide)), fun hy => next 0 (Or.inl rfl) (fun z => absurd z (by decide)) (fun _ z => ?_)⟩
      rcases List.mem_append.mp z with y | y
      · exact f0 hz y
      · exact hy (List.mem_singleton.mp y).symm
  exact ⟨l.length + 1, look l [] 0 rfl (Or.inl rfl) (fun z => absurd z (by decide)) (fun _ => List.not_mem_nil)⟩
theorem cM_parts {l : List Int} (h : CUL (l.map (· + 1)) H) (hl : l.length < 99) (hb : ∀ c, c ∈ l → -1000000001 ≤ c ∧ c ≤ 1000000000) (hQ : ∀ K, BRL ((pts (-2147483648) l).map (enc 0)) K → mb H K → Q K G) : wM_parts Q H G := by
  obtain ⟨h1, h2⟩ := h
  rw [List.length_map] at h1
  intro H1 e1
  rw [i64_mn, h1]
  have key : ∀ (l2 l1 : List Int) (D : List (Int × Int)) (a : Int) (K : e3_H), l = l1 ++ l2 → D.length = l1.length → (-2147483648 ≤ a ∧ a ≤ 1000000001) → BRL (D.map (enc 0)) K → mb H K → (∀ x : Int, K 124 x = H 124 x) → (∀ K2, BRL ((D ++ pts a l2).map (enc 0)) K2 → mb H K2 → Q K2 G) → wM_parts_17 Q (l2.length + 2) l.length a l1.length K G := by
    intro l2
    induction l2 with
    | nil =>
      intro l1 D a K e hD ha hB hm h124 hq
      rw [List.append_nil] at e
      subst e
      refine brF (by omega) (brF (by omega) ?_)
      show wM_oneBranch _ (e3_w32 a) (e3_w32 (e3_w64 (2147483648 - 1))) 0 0 K G
      rw [e3_w32_id (x := a) (by omega) (by omega), e3_w64_id (x := 2147483648 - 1) (by decide) (by decide), e3_w32_id (x := 2147483648 - 1) (by decide) (by decide)]
      refine cM_one hB (by rw [List.length_map]; omega) (Or.inl rfl) (fun K2 k1 k2 _ => ?_)
      rw [e3_w32_id (x := (l.length : Int) + 1) (by omega) (by omega)]
      refine brT (by omega) (hq K2 ?_ (mb_tr hm k2))
      rw [List.map_append]
      exact k1
    | cons c l2 ih =>
      intro l1 D a K e hD ha hB hm h124 hq
      have hlen : l.length = l1.length + (l2.length + 1) := by rw [e, List.length_append]; rfl
      have hc := hb c (by rw [e]; exact List.mem_append_right _ (List.mem_cons_self ..))
      have hat : K 124 l1.length = c + 1 := by
        rw [h124]
        exact h2 l1.length (c + 1) (by rw [List.getElem?_map, e, List.getElem?_append_right (Nat.le_refl _), Nat.sub_self]; rfl)
      refine brF (by omega) (brT (by omega) ⟨by omega, ?_⟩)
      rw [hat]
      show wM_oneBranch _ (e3_w32 a) (e3_w32 (e3_w64 (c + 1 - 1))) 0 0 K G
      rw [e3_w32_id (x := a) (by omega) (by omega), show c + 1 - 1 = c by omega, e3_w64_id (x := c) (by omega) (by omega), e3_w32_id (x := c) (by omega) (by omega)]
      refine cM_one hB (by rw [List.length_map]; omega) (Or.inl rfl) (fun K2 k1 k2 k3 => ?_)
      rw [e3_w32_id (x := (l1.length : Int) + 1) (by omega) (by omega)]
      have := ih (l1 ++ [c]) (D ++ [(a, c)]) (c + 1) K2 (by rw [List.append_assoc]; exact e) (by rw [List.length_append, List.length_append, hD]; rfl) ⟨by omega, by omega⟩ (by rw [List.map_append]; exact k1) (mb_tr hm k2) (fun x => (k3 x).trans (h124 x)) (fun K3 z1 z2 => hq K3 (by rw [List.append_assoc] at z1; exact z1) z2)
      rw [List.length_append] at this
      exact this
  exact ⟨l.length + 2, key l [] [] (-2147483648) H1 rfl rfl ⟨by omega, by omega⟩ ⟨by rw [e1, e3_up_self]; rfl, fun i e he => by cases he⟩ (by rw [e1]; exact mb_up (mb_rf H) (Or.inr (by decide))) (fun x => by rw [e1, e3_up_ne (ne_1 (by decide))]) hQ⟩
/-- the leaves of a KIND -/
theorem cM_21 {s : Int} (hk : k_inv σ m) (hs : 3 ≤ s ∧ s ≤ 100) : ∀ (d k : Nat) (K : e3_H), k + d = m → tb σ K → K 40 10 = (m : Int) → BRL ((((-1 : Int), (-1 : Int)) :: lvs σ m s k).map (enc s)) K → (∀ K2, BRL ((((-1 : Int), (-1 : Int)) :: lvs σ m s m).map (enc s)) K2 → mb K K2 → Q K2 G) → wM_layBranches_21 Q (d + 1) s k K G := by
  have hm := hk.2.1
  intro d
  induction d with
  | zero =>
    intro k K hd htb h10 hB hq
    have hd : k = m := hd
    subst hd
    exact brF (by rw [h10]; omega) (hq K hB (mb_rf K))
  | succ d ih =>
    intro k K hd htb h10 hB hq
    have e43 : K 43 = σ 43 := funext fun x => htb 43 x (by decide) (by decide) (by decide)
    have hlen := lvs_len (σ := σ) (m := m) (s := s) k
    have next : ∀ K3 : e3_H, mb K K3 → BRL ((((-1 : Int), (-1 : Int)) :: lvs σ m s (k + 1)).map (enc s)) K3 → wM_layBranches_56 Q (fun l2 l3 H G => wM_layBranches_21 Q (d + 1) l2 l3 H G) s k K3 G := fun K3 m3 b3 => by
      show wM_layBranches_21 Q (d + 1) s (e3_w32 ((k : Int) + 1)) K3 G
      rw [e3_w32_id (by omega) (by omega)]
      exact ih (k + 1) K3 (by omega) (tb_mb htb m3) (by rw [m3.2 10 (by decide)]; exact h10) b3 (fun K2 z1 z2 => hq K2 z1 (mb_tr m3 z2))
    have skip : ¬ (a_sl (σ 43) (k : Int) m = false ∧ a_of (σ 43) (s - 3) 24 (k : Int) = true) → lvs σ m s (k + 1) = lvs σ m s k := fun hz => by
      show lvs σ m s k ++ (if a_sl (σ 43) (k : Int) m = false ∧ a_of (σ 43) (s - 3) 24 (k : Int) = true then [((k : Int), (k : Int))] else []) = _
      rw [if_neg hz, List.append_nil]
    refine brT (by rw [h10]; omega) ?_
    refine cM_isSealed (m := m) h10 hm (fun hz => brF (by decide) (next K (mb_rf K) ?_)) (fun hz => brT rfl ?_)
    · rw [e43] at hz
      rw [skip (fun z => by rw [hz] at z; exact absurd z.1 (by decide))]
      exact hB
    · rw [e43] at hz
      rw [e3_w32_id (x := s - 3) (by omega) (by omega)]
      refine cM_isOf (m := m) hm (by rw [e43]; exact hk.2.2.2.1) (by omega) (by omega) (fun hy => brF (by decide) ?_) (fun hy => brT rfl (next K (mb_rf K) ?_))
      · rw [e43] at hy
        refine cM_one hB (by rw [List.length_map, List.length_cons]; omega) (Or.inl rfl) (fun K3 k1 k2 _ => next K3 k2 ?_)
        have e : lvs σ m s (k + 1) = lvs σ m s k ++ [((k : Int), (k : Int))] := by
          show lvs σ m s k ++ (if a_sl (σ 43) (k : Int) m = false ∧ a_of (σ 43) (s - 3) 24 (k : Int) = true then [((k : Int), (k : Int))] else []) = _
          rw [if_pos ⟨hz, hy⟩]
        have ee : enc s ((k : Int), (k : Int)) = ((k : Int), 0, 0, 0) := by
          unfold enc
          rw [if_neg (by omega), if_neg (by omega), if_neg (by omega)]
          show (if (k : Int) = -1 then ((-4 : Int), (0 : Int), (0 : Int), (0 : Int)) else ((k : Int), 0, 0, 0)) = _
          rw [if_neg (by omega)]
        rw [e, ← List.cons_append, List.map_append]
        show BRL (_ ++ [enc s ((k : Int), (k : Int))]) K3
        rw [ee]
        exact k1
      · rw [e43] at hy
        rw [skip (fun z => by rw [hy] at z; exact absurd z.2 (by decide))]
        exact hB
end MB2
