/-- labels that tests want -/
def accL (σ : e3_H) (s : Int) (Q : List Int) : List Int := if s = 0 then cuts σ Q [] else if s = 2 then txs σ Q [] else []
section CL3
variable {σ g : e3_H} {m : Nat} {pn cx : Int → Int} {cnt : Nat} {R : a_RW} {fu : Int} {H : e3_H} {G : e3_G} {π : a_PT} {fr : Nat}
theorem cuts_snoc {q : Int} : ∀ (Q l : List Int), cuts σ (Q ++ [q]) l = cin (σ 49 q) (cin (σ 48 q - 1) (cuts σ Q l)) := by
  intro Q
  induction Q with
  | nil => intro l; rfl
  | cons a Q ih => intro l; exact ih _
theorem txs_snoc {q : Int} : ∀ (Q l : List Int), txs σ (Q ++ [q]) l = if σ 50 q ∈ txs σ Q l then txs σ Q l else txs σ Q l ++ [σ 50 q] := by
  intro Q
  induction Q with
  | nil => intro l; rfl
  | cons a Q ih => intro l; exact ih _
theorem cuts_srt : ∀ (Q l : List Int), l.Pairwise (· < ·) → (cuts σ Q l).Pairwise (· < ·) := by
  intro Q
  induction Q with
  | nil => intro l h; exact h
  | cons a Q ih => intro l h; exact ih _ (cin_srt _ (cin_srt _ h))
theorem cuts_len : ∀ (Q l : List Int), (cuts σ Q l).length ≤ l.length + 2 * Q.length := by
  intro Q
  induction Q with
  | nil => intro l; exact Nat.le_refl _
  | cons a Q ih =>
    intro l
    have h1 := ih (cin (σ 49 a) (cin (σ 48 a - 1) l))
    have h2 := cin_len (c := σ 49 a) (cin (σ 48 a - 1) l)
    have h3 := cin_len (c := σ 48 a - 1) l
    show (cuts σ Q _).length ≤ _
    rw [List.length_cons]
    omega
theorem txs_len : ∀ (Q l : List Int), (txs σ Q l).length ≤ l.length + Q.length := by
  intro Q
  induction Q with
  | nil => intro l; exact Nat.le_refl _
  | cons a Q ih =>
    intro l
    have h1 := ih (if σ 50 a ∈ l then l else l ++ [σ 50 a])
    have h2 : (if σ 50 a ∈ l then l else l ++ [σ 50 a]).length ≤ l.length + 1 := by
      split
      · omega
      · rw [List.length_append]; exact Nat.le_refl _
    show (txs σ Q _).length ≤ _
    rw [List.length_cons]
    omega
theorem accL_len {s : Int} (Q : List Int) : (accL σ s Q).length ≤ 2 * Q.length := by
  unfold accL
  split
  · have := cuts_len (σ := σ) Q []
    have e : ([] : List Int).length = 0 := rfl
    omega
  · split
    · have := txs_len (σ := σ) Q []
      have e : ([] : List Int).length = 0 := rfl
      omega
    · exact Nat.zero_le _
theorem ltq_app {x : Int} : ∀ (A B : a_RW), ltq σ π x (A ++ B) = ltq σ π x A ++ ltq σ π x B := by
  intro A B
  induction A with
  | nil => rfl
  | cons w A ih =>
    show _ ++ ltq σ π x (A ++ B) = (_ ++ ltq σ π x A) ++ ltq σ π x B
    rw [ih, List.append_assoc]
theorem ltq_len {x : Int} : ∀ A : a_RW, (ltq σ π x A).length ≤ A.length := by
  intro A
  induction A with
  | nil => exact Nat.le_refl _
  | cons w A ih =>
    show ((if lv σ w π = true then (match tq w.2 x with
      | none => []
      | some q => [q]) else []) ++ ltq σ π x A).length ≤ _
    rw [List.length_append, List.length_cons]
    have : (if lv σ w π = true then (match tq w.2 x with
      | none => []
      | some q => [q]) else [] : List Int).length ≤ 1 := by
      split
      · split
        · exact Nat.zero_le _
        · exact Nat.le_refl _
      · exact Nat.zero_le _
    omega
theorem ltq_some {x q : Int} {w : Int × List (Int × Int)} (hl : lv σ w π = true) (hq : tq w.2 x = some q) : ltq σ π x [w] = [q] := by
  show (if lv σ w π = true then (match tq w.2 x with
      | none => []
      | some q => [q]) else []) ++ [] = [q]
  rw [if_pos hl, hq]
  rfl
theorem ltq_none {x : Int} {w : Int × List (Int × Int)} (h : lv σ w π = false ∨ tq w.2 x = none) : ltq σ π x [w] = [] := by
  show (if lv σ w π = true then (match tq w.2 x with
      | none => []
      | some q => [q]) else []) ++ [] = []
  rw [List.append_nil]
  rcases h with z | z
  · rw [if_neg (by rw [z]; decide)]
  · split
    · rw [z]
    · rfl
theorem pts_snd : ∀ (l : List Int) (a : Int), (pts a l).map (·.2) = l ++ [2147483647] := by
  intro l
  induction l with
  | nil => intro a; rfl
  | cons c l ih => intro a; show c :: (pts (c + 1) l).map (·.2) = c :: (l ++ [2147483647]); rw [ih]
theorem lbs_snd {x s : Int} : (lbs σ m R π x s).map (·.2) = accL σ s (ltq σ π x R) ++ tlb σ m s := by
  unfold lbs accL tlb
  split
  · exact pts_snd _ _
  · split
    · rename_i h0 h1
      rw [if_neg (by omega)]
      rfl
    · split
      · rw [List.map_append, List.map_map]
        show List.map ((fun w => w.2) ∘ fun w => (w, w)) _ ++ [-1] = _
        have : ((fun (w : Int × Int) => w.2) ∘ fun (w : Int) => (w, w)) = id := rfl
        rw [this, List.map_id]
      · rfl
/-- the labels of a place are pushed -/
theorem cD_pushLabels {Q : Int → e3_H → e3_G → Prop} {M : Nat} {p s : Int} {f : Int} (hG : GB G) (hD : DX σ g m pn cx cnt R fu H G) (hf : H 16 2 = fu) (hM : MK R (fun w => lv σ w π) M) (hp : 0 ≤ p ∧ p < cnt) (hfr : H 16 6 = (fr : Int)) (hfr2 : fr ≤ 119) (hs : 0 ≤ s ∧ s ≤ 100) (hsh : ∀ w, w ∈ R → lv σ w π = true → ∀ q, (q, cx p) ∈ w.2 → σ 47 q = s) (hne : ltq σ π (cx p) R ≠ []) (hQ : ∀ K, LB fr ((lbs σ m R π (cx p) s).map (·.2)) K → LF fr H K → Q s K G) : wD_pushLabels Q p (M : Int) H G := by
  have h40 := hD.2.2.1.2
  have key : ∀ (R2 R1 : a_RW) (H2 : e3_H), R = R1 ++ R2 → LB fr (accL σ s (ltq σ π (cx p) R1)) H2 → LF fr H H2 → wD_pushLabels_12 Q (R2.length + 1) p (M : Int) fr (if ltq σ π (cx p) R1 = [] then 0 else s) R1.length H2 G := by
    intro R2
    induction R2 with
    | nil =>
      intro R1 H2 e hB hF
      rw [List.append_nil] at e
      subst e
      have D2 := DX_0 hD (LF_DF hG hF)
      have f2 : H2 16 2 = fu := by rw [hF.1 16 2 (by decide) (by decide)]; exact hf
      have hl1 := accL_len (σ := σ) (s := s) (ltq σ π (cx p) R)
      have hl2 := ltq_len (σ := σ) (π := π) (x := cx p) R
      rw [if_neg hne]
      refine ⟨by rw [f2]; exact ga_ob (c := 8) D2.2.1.2, brF (by rw [f2, D2.2.2.1.1]; omega) ?_⟩
      have hl3 : 3 ≤ s → fr + (accL σ s (ltq σ π (cx p) R)).length + 26 ≤ 201 := fun h3 => by
        have : accL σ s (ltq σ π (cx p) R) = [] := by unfold accL; rw [if_neg (by omega), if_neg (by omega)]
        rw [this]
        show fr + 0 + 26 ≤ 201
        omega
      refine cD_last D2.1 hB (by omega) hl3 hs (fun K b f => hQ K ?_ (LF_tr hF f))
      rw [lbs_snd]
      exact b
    | cons w R2 ih =>
      intro R1 H2 e hB hF
      have D2 := DX_0 hD (LF_DF hG hF)
      have f2 : H2 16 2 = fu := by rw [hF.1 16 2 (by decide) (by decide)]; exact hf
      have hlen : R.length = R1.length + (R2.length + 1) := by rw [e, List.length_append]; rfl
      have hw : R[R1.length]? = some w := by rw [e, List.getElem?_append_right (Nat.le_refl _), Nat.sub_self]; rfl
      have hmem : w ∈ R := by rw [e]; exact List.mem_append_right _ (List.mem_cons_self ..)
      have hl1 := accL_len (σ := σ) (s := s) (ltq σ π (cx p) R1)
      have hl2 := ltq_len (σ := σ) (π := π) (x := cx p) R1
      have next : ∀ (H3 : e3_H) (l5 : Int), (l5 = if ltq σ π (cx p) (R1 ++ [w]) = [] then 0 else s) → LB fr (accL σ s (ltq σ π (cx p) (R1 ++ [w]))) H3 → LF fr H H3 → wD_pushLabels_107 Q (fun l1 l2 l4 l5 l6 H G => wD_pushLabels_12 Q (R2.length + 1) l1 l2 l4 l5 l6 H G) p (M : Int) fr l5 R1.length H3 G := fun H3 l5 e5 b3 f3 => by
        show wD_pushLabels_12 Q (R2.length + 1) p (M : Int) fr l5 (e3_w32 ((R1.length : Int) + 1)) H3 G
        rw [e3_w32_id (x := (R1.length : Int) + 1) (by omega) (by omega), e5]
        have := ih (R1 ++ [w]) H3 (by rw [List.append_assoc]; exact e) b3 f3
        rw [List.length_append] at this
        exact this
      refine ⟨by rw [f2]; exact ga_ob (c := 8) D2.2.1.2, brT (by rw [f2, D2.2.2.1.1]; omega) ?_⟩
      refine cD_testAt D2 f2 hM hp hw (fun hb q hq hm => ?_) (fun hz => brT (by decide) (next H2 _ ?_ ?_ hF))
      · have hb : lv σ w π = true := hb
        have hx := (D2.2.2.2.2.2.1 _ w hw).2.2.2.2.2.2.2.2.1 (q, cx p) hm
        obtain ⟨⟨x0, x1⟩, x2, x3, x4, x5, x6, x7, x8, x9, x10, x11⟩ := hx
        have x0 : 139 ≤ g 0 q := x0
        have x1 : g_at G (g 0 q) (110, 10) := x1
        have x3 : H2 (g 0 q) 1 = σ 47 q := x3
        have x7 : H2 (g 0 q) 3 = c_lo σ q := x7
        have x8 : H2 (g 0 q) 4 = c_hi σ q := x8
        have x9 : nod σ q := x9
        have x10 : σ 46 q ≠ 0 ∧ σ 46 q ≠ 6 := x10
        have n0 := nod_0 x9 x10
        have ob := ga_ob (c := 10) x1
        have h47 : σ 47 q = s := hsh w hmem hb q hm
        have el : ltq σ π (cx p) (R1 ++ [w]) = ltq σ π (cx p) R1 ++ [q] := by rw [ltq_app, ltq_some hb hq]
        have e5 : s = if ltq σ π (cx p) (R1 ++ [w]) = [] then 0 else s := by rw [el, if_neg (by simp)]
        refine brF (by omega) ⟨ob, ?_⟩
        rw [x3, h47]
        refine ⟨fun s0 => ⟨ob, ?_⟩, fun s0 => ⟨fun s2 => ⟨ob, ?_⟩, fun s2 => next H2 _ e5 ?_ hF⟩⟩
        · have h46 := n0.1 (by omega)
          have hb48 := x9.2.1 h46
          have e48 : c_lo σ q = σ 48 q := by unfold c_lo; rw [if_pos (by omega)]
          have e49 : c_hi σ q = σ 49 q := by unfold c_hi; rw [if_pos h46]
          have eA : accL σ s (ltq σ π (cx p) R1) = cuts σ (ltq σ π (cx p) R1) [] := by unfold accL; rw [if_pos s0]
          rw [eA] at hB hl1
          have hst := cuts_srt (σ := σ) (ltq σ π (cx p) R1) [] List.Pairwise.nil
          rw [x7, e48, e3_w64_id (x := σ 48 q - 1) (by omega) (by omega)]
          refine cD_pushUp hB hst (by omega) (fun K1 k1 k2 => ⟨ob, ?_⟩)
          have y8 : K1 (g 0 q) 4 = σ 49 q := by rw [k2.1 _ _ (by omega) (by omega), x8]; exact e49
          rw [y8]
          have hcl := cin_len (c := σ 48 q - 1) (cuts σ (ltq σ π (cx p) R1) [])
          refine cD_pushUp k1 (cin_srt _ hst) (by omega) (fun K2 k3 k4 => next K2 _ e5 ?_ (LF_tr hF (LF_tr k2 k4)))
          have eB : accL σ s (ltq σ π (cx p) (R1 ++ [w])) = cin (σ 49 q) (cin (σ 48 q - 1) (cuts σ (ltq σ π (cx p) R1) [])) := by unfold accL; rw [if_pos s0, el, cuts_snoc]
          rw [eB]
          exact k3
        · have h46 := n0.2.2.1 (by omega)
          have e50 : c_lo σ q = σ 50 q := by unfold c_lo; rw [if_neg (by omega), if_pos h46]
          have eA : accL σ s (ltq σ π (cx p) R1) = txs σ (ltq σ π (cx p) R1) [] := by unfold accL; rw [if_neg s0, if_pos s2]
          have eB : accL σ s (ltq σ π (cx p) (R1 ++ [w])) = if σ 50 q ∈ txs σ (ltq σ π (cx p) R1) [] then txs σ (ltq σ π (cx p) R1) [] else txs σ (ltq σ π (cx p) R1) [] ++ [σ 50 q] := by unfold accL; rw [if_neg s0, if_pos s2, el, txs_snoc]
          rw [eA] at hB hl1
          rw [x7, e50]
          refine cD_isPushed hB (by omega) (fun hin => brF (by decide) (next H2 _ e5 (by rw [eB, if_pos hin]; exact hB) hF)) (fun hin => brT rfl ⟨ob, ?_⟩)
          rw [x7, e50]
          exact cD_push hB (by omega) (fun K1 k1 k2 => next K1 _ e5 (by rw [eB, if_neg hin]; exact k1) (LF_tr hF k2))
        · have e1 : ∀ Q : List Int, accL σ s Q = [] := fun Q => by unfold accL; rw [if_neg s0, if_neg s2]
          rw [e1] at hB ⊢
          exact hB
      · rw [ltq_app, ltq_none hz, List.append_nil]
      · rw [ltq_app, ltq_none hz, List.append_nil]
        exact hB
  have := key R [] H rfl (by
    have e1 : accL σ s (ltq σ π (cx p) []) = [] := by
      show accL σ s [] = []
      unfold accL
      split
      · rfl
      · split <;> rfl
    rw [e1]
    exact ⟨by rw [hfr]; show _ = (fr : Int) + 0; omega, fun i c hc => by cases hc⟩) (LF_rf fr H)
  unfold wD_pushLabels
  rw [hfr]
  exact ⟨R.length + 1, this⟩
end CL3
