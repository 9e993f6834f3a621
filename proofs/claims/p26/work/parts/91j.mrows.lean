/-- one row more in the reference -/
def RO1 (σ H : e3_H) (r w : Int) (V : List (Int × Int)) (K : e3_H) : Prop := mr H K ∧ K 40 61 = H 40 61 + 1 ∧ K 40 65 = H 40 65 + (tl σ V).length ∧ (K 86 (H 40 61) = r ∧ K 87 (H 40 61) = w ∧ K 88 (H 40 61) = H 40 65 ∧ K 88 (H 40 61 + 1) = H 40 65 + (tl σ V).length) ∧ (∀ x : Int, x ≠ H 40 61 → K 86 x = H 86 x ∧ K 87 x = H 87 x) ∧ (∀ x : Int, x ≠ H 40 61 → x ≠ H 40 61 + 1 → K 88 x = H 88 x) ∧ (∀ a x : Int, 89 ≤ a → a ≤ 91 → x < H 40 65 → K a x = H a x) ∧ M_ts σ K (H 40 65) (tl σ V)
theorem cM_layRow {Q : e3_H → e3_G → Prop} {σ : e3_H} {hi r w : Int} {L : List Int} {V : List (Int × Int)} {H : e3_H} {G : e3_G} (h55 : ∀ y : Int, 0 ≤ y → y < hi → 1 ≤ σ 55 y ∧ σ 55 y ≤ 1000) (hhi : hi ≤ 1700) (hr : 0 ≤ r ∧ r < 192) (hL : L.length ≤ 4) (ha : ach σ (σ 72 r) L) (hm : ∀ x, x ∈ L → (0 ≤ x ∧ x < hi) ∧ wt σ 6 hi x) (hwp : wp σ L < 1000) (hw : 0 ≤ w ∧ w < wp σ L) (hv : lyC (lyV σ 6) σ L w 1 V) (hn : nt σ V ≤ 2000) (htb : tb σ H) (h61 : 0 ≤ H 40 61 ∧ H 40 61 < 40) (h65 : 0 ≤ H 40 65) (h65b : H 40 65 + (tl σ V).length ≤ 33000) (hQ : ∀ K, RO1 σ H r w V K → Q K G) : wM_layRow Q r w H G := by
  have hpos : ∀ y, y ∈ L → 1 ≤ σ 55 y := fun y hy => (h55 y (hm y hy).1.1 (hm y hy).1.2).1
  refine ⟨h61, ?_⟩
  intro H1 e1
  have f1 : H1 40 61 = H 40 61 := by rw [e1, e3_up_ne (ne_1 (by decide))]
  refine ⟨by omega, ?_⟩
  intro H3 e3
  have f3 : H3 40 61 = H 40 61 := by rw [e3, e3_up_ne (ne_1 (by decide))]; exact f1
  have g3 : H3 40 65 = H 40 65 := by rw [e3, e3_up_ne (ne_1 (by decide)), e1, e3_up_ne (ne_1 (by decide))]
  refine ⟨by omega, ?_⟩
  intro H5 e5
  rw [f3, g3] at e5
  rw [f1] at e3
  intro H7 e7
  have m7 : mr H H7 := by rw [e7, e5, e3, e1]; exact mr_up (mr_up (mr_up (mr_up (mr_rf H) (Or.inl (by decide))) (Or.inl (by decide))) (Or.inl (by decide))) (Or.inr (by decide))
  have t7 := tb_mr htb m7
  have c71 : H7 40 71 = 0 := by rw [e7, e3_up_self]
  have c61 : H7 40 61 = H 40 61 := by rw [e7, e3_up_ne (by decide), e5, e3_up_ne (ne_1 (by decide))]; exact f3
  have c65 : H7 40 65 = H 40 65 := by rw [e7, e3_up_ne (by decide), e5, e3_up_ne (ne_1 (by decide))]; exact g3
  have c86 : ∀ x : Int, H7 86 x = if x = H 40 61 then r else H 86 x := fun x => by
    rw [e7, e3_up_ne (ne_1 (by decide)), e5, e3_up_ne (ne_1 (by decide)), e3, e3_up_ne (ne_1 (by decide)), e1]
    split
    · rename_i h; rw [h, e3_up_self]
    · rename_i h; rw [e3_up_ne (fun z => h z.2)]
  have c87 : ∀ x : Int, H7 87 x = if x = H 40 61 then w else H 87 x := fun x => by
    rw [e7, e3_up_ne (ne_1 (by decide)), e5, e3_up_ne (ne_1 (by decide)), e3]
    split
    · rename_i h; rw [h, e3_up_self]
    · rename_i h; rw [e3_up_ne (fun z => h z.2), e1, e3_up_ne (ne_1 (by decide))]
  have c88 : ∀ x : Int, H7 88 x = if x = H 40 61 then H 40 65 else H 88 x := fun x => by
    rw [e7, e3_up_ne (ne_1 (by decide)), e5]
    split
    · rename_i h; rw [h, e3_up_self]
    · rename_i h; rw [e3_up_ne (fun z => h z.2), e3, e3_up_ne (ne_1 (by decide)), e1, e3_up_ne (ne_1 (by decide))]
  have c89 : ∀ a x : Int, 89 ≤ a → H7 a x = H a x := fun a x h => by
    rw [e7, e3_up_ne (ne_1 (by omega)), e5, e3_up_ne (ne_1 (by omega)), e3, e3_up_ne (ne_1 (by omega)), e1, e3_up_ne (ne_1 (by omega))]
  refine ⟨hr, L.length + 1, ?_⟩
  rw [t7 72 r (by decide) (by decide) (by decide)]
  refine cM_6 (σ := σ) (L := L) (T := []) ⟨by omega, by omega⟩ (by omega) (fun c hc => ⟨⟨(hm c hc).1.1, by have := (hm c hc).1.2; omega⟩, h55 c (hm c hc).1.1 (hm c hc).1.2⟩) hw.1 hw.2 (by omega) (by show 0 + L.length ≤ 2000; omega) L [] (σ 72 r) H7 rfl ha (fun i c hc => by cases hc) t7 c71 trivial (fun K z1 z2 z3 z4 z5 z6 => ⟨V.length + 1, ?_⟩)
  have hT := kl_lyT (σ := σ) (hi := hi) (k := 6) (T := []) (V2 := []) rfl L w 1 V hv (fun c hc => ⟨(hm c hc).1, (hm c hc).2, hpos c hc⟩) hwp hw.1 (by omega) (by omega) (by show (1 + (L.length : Int)) * 262144 ≤ 2097152; omega)
  rw [List.append_nil, List.append_nil] at hT
  rw [List.append_nil] at z6
  refine cM_52 h55 hhi V.length V (kl σ L w 1) K (Nat.le_refl _) hT z6 (by rw [z2, kl_len]; show (0 : Int) + _ = _; omega) hn (tb_mr t7 z1) (by omega) (by omega) (by omega) (fun K2 hP => hQ K2 ?_)
  have hP := PO_pre (W := V) (V := V) z1 z3 z4 z5 rfl hP
  obtain ⟨p1, p2, p3, p4, p5, p6, p7, p8⟩ := hP
  rw [c61] at p3 p5 p6
  rw [c65] at p4 p6 p7 p8
  refine ⟨mr_tr m7 p1, p3, p4, ⟨by rw [p2 86 _ (by omega), c86, if_pos rfl], by rw [p2 87 _ (by omega), c87, if_pos rfl], by rw [p5 _ (by omega), c88, if_pos rfl], p6⟩, fun x hx => ⟨by rw [p2 86 _ (by omega), c86, if_neg hx], by rw [p2 87 _ (by omega), c87, if_neg hx]⟩, fun x h1 h2 => by rw [p5 x h2, c88, if_neg h1], fun a x h1 h2 h3 => (p7 a x h1 h2 h3).trans (c89 a x h1), p8⟩
/-- all rows of the reference -/
def M_rows (σ K : e3_H) (RL : List (Int × Int × List (Int × Int))) : Prop := K 40 61 = RL.length ∧ K 88 0 = 0 ∧ K 88 RL.length = K 40 65 ∧ (0 ≤ K 40 65 ∧ K 40 65 ≤ 806 * (RL.length : Int)) ∧ ∀ (i : Nat) (e : Int × Int × List (Int × Int)), RL[i]? = some e → K 86 i = e.1 ∧ K 87 i = e.2.1 ∧ (0 ≤ K 88 i ∧ K 88 ((i : Int) + 1) ≤ K 40 65) ∧ K 88 ((i : Int) + 1) = K 88 i + (tl σ e.2.2).length ∧ M_ts σ K (K 88 i) (tl σ e.2.2)
theorem M_rows_1 {σ H K : e3_H} {RL : List (Int × Int × List (Int × Int))} {r w : Int} {V : List (Int × Int)} (h : M_rows σ H RL) (hV : (tl σ V).length ≤ 806) (h1 : RO1 σ H r w V K) : M_rows σ K (RL ++ [(r, w, V)]) := by
  obtain ⟨a1, a2, a3, a4, a5⟩ := h
  obtain ⟨m, b1, b2, ⟨b3, b4, b5, b6⟩, b7, b8, b9, b10⟩ := h1
  have hl : ((RL ++ [(r, w, V)]).length : Int) = (RL.length : Int) + 1 := by rw [List.length_append]; rfl
  rw [a1] at b1 b3 b4 b5 b6 b7 b8
  refine ⟨by rw [b1, hl], ?_, by rw [hl, b6, b2], by rw [hl, b2]; omega, fun i e he => ?_⟩
  · by_cases hz : (0 : Int) = RL.length
    · rw [← hz] at a3 b5
      rw [b5, ← a3]; exact a2
    · rw [b8 0 hz (by omega)]; exact a2
  · by_cases hi : i < RL.length
    · rw [List.getElem?_append_left hi] at he
      obtain ⟨c1, c2, ⟨c3, c4⟩, c5, c6⟩ := a5 i e he
      have e88 : K 88 i = H 88 i := b8 i (by omega) (by omega)
      have e881 : K 88 ((i : Int) + 1) = H 88 ((i : Int) + 1) := by
        by_cases hz : (i : Int) + 1 = RL.length
        · rw [hz, b5, a3]
        · exact b8 _ hz (by omega)
      refine ⟨by rw [(b7 i (by omega)).1]; exact c1, by rw [(b7 i (by omega)).2]; exact c2, ⟨by omega, by omega⟩, by rw [e88, e881]; exact c5, fun j p hp => ?_⟩
      have hj : j < (tl σ e.2.2).length := (List.getElem?_eq_some_iff.mp hp).1
      rw [e88, b9 89 _ (by decide) (by decide) (by omega), b9 90 _ (by decide) (by decide) (by omega), b9 91 _ (by decide) (by decide) (by omega)]
      exact c6 j p hp
    · rw [List.getElem?_append_right (by omega)] at he
      by_cases hi2 : i = RL.length
      · rw [hi2, Nat.sub_self] at he
        have he : some (r, w, V) = some e := he
        cases he
        subst hi2
        exact ⟨b3, b4, ⟨by rw [b5]; exact a4.1, by rw [b6, b2]; omega⟩, by rw [b6, b5], by rw [b5]; exact b10⟩
      · rw [List.getElem?_eq_none (by show 1 ≤ _; omega)] at he
        cases he
