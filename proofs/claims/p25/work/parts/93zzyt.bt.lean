section WKE
variable {σ M : e3_H} {m : Nat} {R : a_RW} {way : Int} {Vr : Nat → List (Int × Int)} {k : Nat} {π : a_PT}
theorem wk_n (hf : fst σ π R 0 = none) : wk σ m R way M Vr (k + 1) π = (1, 0, 0, []) := by
  unfold wk
  split
  · rfl
  · rename_i z
    rw [hf] at z
    cases z
theorem wk_l {i : Nat} {r : Int} {T : List (Int × Int)} (hf : fst σ π R 0 = some (i, r, T)) (hc : cho σ m R π way T 0 none 0 = none) : wk σ m R way M Vr (k + 1) π = if σ 78 r = 0 then (0, i, 0, []) else if gdv σ (tvp σ M (nB σ M (Vr i))) r = 1 then (0, i, 0, [r]) else if gdv σ (tvp σ M (nB σ M (Vr i))) r = 2 then (3, i, 0, [r]) else ((wk σ m R way M Vr k ((0, r, r) :: π)).1, (wk σ m R way M Vr k ((0, r, r) :: π)).2.1, (wk σ m R way M Vr k ((0, r, r) :: π)).2.2.1, r :: (wk σ m R way M Vr k ((0, r, r) :: π)).2.2.2) := by
  conv => lhs; unfold wk
  split
  · rename_i z
    rw [hf] at z
    cases z
  · rename_i i' r' T' z
    rw [hf] at z
    cases z
    split
    · rfl
    · rename_i y
      rw [hc] at y
      cases y
theorem wk_t0 {i : Nat} {r q x : Int} {T : List (Int × Int)} (hf : fst σ π R 0 = some (i, r, T)) (hc : cho σ m R π way T 0 none 0 = some (q, x)) (hn : fnd (σ 47 q) (M 28 (vt M x)) (lbs σ m R π x (σ 47 q)) 0 = none) : wk σ m R way M Vr (k + 1) π = (2, 0, 1, []) := by
  unfold wk
  split
  · rename_i z
    rw [hf] at z
    cases z
  · rename_i i' r' T' z
    rw [hf] at z
    cases z
    split
    · rename_i y
      rw [hc] at y
      cases y
    · rename_i q' x' y
      rw [hc] at y
      cases y
      split
      · rfl
      · rename_i u
        rw [hn] at u
        cases u
theorem wk_t1 {i i' : Nat} {r q x : Int} {T : List (Int × Int)} {e : Int × Int} (hf : fst σ π R 0 = some (i, r, T)) (hc : cho σ m R π way T 0 none 0 = some (q, x)) (hn : fnd (σ 47 q) (M 28 (vt M x)) (lbs σ m R π x (σ 47 q)) 0 = some (i', e)) : wk σ m R way M Vr (k + 1) π = ((wk σ m R way M Vr k ((x, e.1, e.2) :: π)).1, (wk σ m R way M Vr k ((x, e.1, e.2) :: π)).2.1, (wk σ m R way M Vr k ((x, e.1, e.2) :: π)).2.2.1 + 1, (wk σ m R way M Vr k ((x, e.1, e.2) :: π)).2.2.2) := by
  conv => lhs; unfold wk
  split
  · rename_i z
    rw [hf] at z
    cases z
  · rename_i i' r' T' z
    rw [hf] at z
    cases z
    split
    · rename_i y
      rw [hc] at y
      cases y
    · rename_i q' x' y
      rw [hc] at y
      cases y
      split
      · rename_i u
        rw [hn] at u
        cases u
      · rename_i u
        rw [hn] at u
        cases u
        rfl
end WKE
theorem gdv_cs (σ : e3_H) (T : Int → Int) (r : Int) : gdv σ T r = 0 ∨ gdv σ T r = 1 ∨ gdv σ T r = 2 := by
  unfold gdv
  split
  · exact Or.inr (Or.inr rfl)
  · split
    · exact Or.inr (Or.inr rfl)
    · split
      · exact Or.inr (Or.inl rfl)
      · exact Or.inl rfl
/-- the log of guards, in the class and in the reference -/
def LGC (L : List Int) (H : e3_H) : Prop := H 37 4 = (L.length : Int) ∧ H 34 9 = (if (L.length : Int) < 32 then (L.length : Int) else 32) ∧ ∀ (i : Nat) (v : Int), (i : Int) < 32 → L[i]? = some v → H 38 i = v
def LGM (L : List Int) (H : e3_H) : Prop := H 40 123 = (L.length : Int) ∧ ∀ (i : Nat) (v : Int), (i : Int) < 32 → L[i]? = some v → H 137 i = v
theorem LGC_eq {L : List Int} {H K : e3_H} (h : LGC L H) (e4 : K 37 4 = H 37 4) (e9 : K 34 9 = H 34 9) (e : ∀ x : Int, K 38 x = H 38 x) : LGC L K := ⟨by rw [e4]; exact h.1, by rw [e9]; exact h.2.1, fun i v hi hv => by rw [e]; exact h.2.2 i v hi hv⟩
theorem LGM_eq {L : List Int} {H K : e3_H} (h : LGM L H) (e4 : K 40 123 = H 40 123) (e : ∀ x : Int, K 137 x = H 137 x) : LGM L K := ⟨by rw [e4]; exact h.1, fun i v hi hv => by rw [e]; exact h.2 i v hi hv⟩
theorem snoc_at {L : List Int} {v w : Int} {i : Nat} (h : (L ++ [v])[i]? = some w) : L[i]? = some w ∨ (i = L.length ∧ w = v) := by
  by_cases z : i < L.length
  · rw [List.getElem?_append_left z] at h; exact Or.inl h
  · rw [List.getElem?_append_right (by omega)] at h
    by_cases y : i = L.length
    · rw [y, Nat.sub_self] at h
      have h : some v = some w := h
      cases h
      exact Or.inr ⟨y, rfl⟩
    · rw [List.getElem?_eq_none (by show 1 ≤ _; omega)] at h
      cases h
theorem LGC_psh {L : List Int} {H : e3_H} {v : Int} (h : LGC L H) : LGC (L ++ [v]) (lgC (H 34 9) (H 37 4) v H) := by
  obtain ⟨h1, h2, h3⟩ := h
  have hl : ((L ++ [v]).length : Int) = (L.length : Int) + 1 := by rw [List.length_append]; rfl
  unfold lgC LGC
  rw [h1, h2, hl]
  by_cases z : (L.length : Int) < 32
  · rw [if_pos z, if_pos z]
    refine ⟨by rw [e3_up_ne (by decide), e3_up_ne (by omega), e3_up_self], ?_, fun i w hi hw => ?_⟩
    · rw [e3_up_self]
      by_cases y : (L.length : Int) + 1 < 32
      · rw [if_pos y]
      · rw [if_neg y]; omega
    · rw [e3_up_ne (ne_1 (by decide))]
      rcases snoc_at hw with y | ⟨y1, y2⟩
      · have := (List.getElem?_eq_some_iff.mp y).1
        rw [e3_up_ne (ne_2 (by omega)), e3_up_ne (ne_1 (by decide))]
        exact h3 i w hi y
      · rw [y1, y2, e3_up_self]
  · rw [if_neg z, if_neg (by decide), if_neg (by omega)]
    refine ⟨by rw [e3_up_self], by rw [e3_up_ne (by decide), h2, if_neg z], fun i w hi hw => ?_⟩
    rw [e3_up_ne (ne_1 (by decide))]
    rcases snoc_at hw with y | ⟨y1, y2⟩
    · exact h3 i w hi y
    · omega
theorem LGM_psh {L : List Int} {H : e3_H} {v : Int} (h : LGM L H) : LGM (L ++ [v]) (lgM (H 40 123) v H) := by
  obtain ⟨h1, h3⟩ := h
  have hl : ((L ++ [v]).length : Int) = (L.length : Int) + 1 := by rw [List.length_append]; rfl
  unfold lgM LGM
  rw [h1, hl]
  refine ⟨by rw [e3_up_self], fun i w hi hw => ?_⟩
  rw [e3_up_ne (ne_1 (by decide))]
  rcases snoc_at hw with y | ⟨y1, y2⟩
  · have := (List.getElem?_eq_some_iff.mp y).1
    split
    · rw [e3_up_ne (ne_2 (by omega))]; exact h3 i w hi y
    · exact h3 i w hi y
  · rw [if_pos (by omega), y1, y2, e3_up_self]
theorem lgC_ne {n n4 v a x : Int} {H : e3_H} (h1 : a ≠ 38) (h2 : ¬ (a = 37 ∧ x = 4)) (h3 : ¬ (a = 34 ∧ x = 9)) : lgC n n4 v H a x = H a x := by
  unfold lgC
  split
  · rw [e3_up_ne h3, e3_up_ne (ne_1 h1), e3_up_ne h2]
  · rw [e3_up_ne h2]
theorem lgM_ne {n v a x : Int} {H : e3_H} (h1 : a ≠ 137) (h2 : ¬ (a = 40 ∧ x = 123)) : lgM n v H a x = H a x := by
  unfold lgM
  rw [e3_up_ne h2]
  split
  · rw [e3_up_ne (ne_1 h1)]
  · rfl
section VTR
variable {Q : Int → e3_H → e3_G → Prop} {H : e3_H} {G : e3_G} {t : Int} {cx : Int → Int} {cnt : Nat} {N : List a_ND}
theorem vE_has {j : Int} (hE : TRE t H G) (h0 : H t 0 = (N.length : Int)) (hj : 0 ≤ j ∧ j < (N.length : Int)) (hQ : Q 1 H G) : wE_has Q t j H G := brF (by omega) ⟨ga_ob (c := 5) hE.2.1, brT (by rw [h0]; exact hj.2) ⟨Or.inr rfl, hQ⟩⟩
theorem vS_labelAt {fu p : Int} (hpl : c_pl H G fu cx) (hV : VR H) (hl : zLX H) (hp : 0 ≤ p ∧ p < H fu 7) (hok : vok (h35 H) 7 (cx p)) (hb : cx p < 2147483647) (hv : okv H (vt (h35 H) (cx p))) (hQ : Q (H 28 (vt (h35 H) (cx p))) H G) : wS_labelAt Q fu p H G := by
  have h1 := hv.1
  have h2 := hv.2
  have h3 := hl.1
  refine vS_valueAt hpl hV hl 7 9 p 0 _ hp hok hb (by decide) (by decide) (by decide) ?_
  exact brF (by omega) (brT h2 ⟨Or.inr rfl, brF (by decide) ⟨by omega, hQ⟩⟩)
theorem vE_leads {s l : Int} {e : Int × Int} (h1 : ldb s l e = true → Q 1 H G) (h0 : ldb s l e = false → Q 0 H G) : wE_leads Q (ndo s) e.2 l H G := by
  unfold wE_leads
  rw [x_mo64]
  by_cases a0 : s = 0
  · have n : ndo s = 6 := by unfold ndo; rw [if_pos a0]
    have b : ldb s l e = decide (l ≤ e.2) := by unfold ldb; rw [if_pos a0]
    rw [n]
    rw [b] at h1 h0
    exact ⟨fun z => absurd z (by decide), fun _ => ⟨fun y => ⟨Or.inl rfl, h0 (decide_eq_false (by omega))⟩, fun y => ⟨Or.inr rfl, h1 (decide_eq_true (by omega))⟩⟩, fun z => absurd rfl z.2⟩
  · by_cases a2 : s = 2
    · have n : ndo s = 5 := by unfold ndo; rw [if_neg a0, if_neg (by omega), if_pos a2]
      have b : ldb s l e = (decide (l = e.2) || decide (e.2 = -1)) := by unfold ldb; rw [if_neg a0, if_pos a2]
      rw [n]
      rw [b] at h1 h0
      exact ⟨fun _ => ⟨fun y => ⟨Or.inr rfl, h1 (by rw [decide_eq_true y, Bool.true_or])⟩, fun y => ⟨fun u => ⟨Or.inr rfl, h1 (by rw [decide_eq_true u, Bool.or_true])⟩, fun u => ⟨Or.inl rfl, h0 (by rw [decide_eq_false y, decide_eq_false u]; rfl)⟩⟩⟩, fun z => absurd z (by decide), fun z => absurd rfl z.1⟩
    · have n : ndo s ≠ 5 ∧ ndo s ≠ 6 := by
        unfold ndo
        rw [if_neg a0, if_neg a2]
        split <;> decide
      have b : ldb s l e = decide (l = e.2) := by unfold ldb; rw [if_neg a0, if_neg a2]
      rw [b] at h1 h0
      exact ⟨fun z => absurd z n.1, fun z => absurd z n.2, fun _ => ⟨fun y => ⟨Or.inr rfl, h1 (decide_eq_true y)⟩, fun y => ⟨Or.inl rfl, h0 (decide_eq_false y)⟩⟩⟩
/-- the branch that a label leads to, in the class -/
theorem vE_follow {s l : Int} {j : Nat} {d : a_ND} (hE : TRE t H G) (hTC : TC t cx cnt 0 N H) (h0 : H t 0 = (N.length : Int)) (hN : N.length ≤ 120) (hj : N[j]? = some d) (hd : d.1 = ndo s) (hd1 : d.2.2.2.1 ≤ 1000) : ∀ (L : List (Int × Int)) (p i : Nat), (i : Int) + (L.length : Int) = d.2.2.2.1 → (∀ (x c : Nat) (e : Int × Int), (chl N L.length p)[x]? = some c → L[x]? = some e → ∃ dc : a_ND, N[c]? = some dc ∧ dc.2.2.2.2.1 = e.2 ∧ 1 ≤ dc.2.2.2.2.2) → (fnd s l L i = none → Q (-1) H G) → (∀ (i' : Nat) (e : Int × Int), fnd s l L i = some (i', e) → ∀ c : Nat, (chl N L.length p)[i' - i]? = some c → Q (c : Int) H G) → wE_follow_8 Q (L.length + 1) t (j : Int) l (p : Int) (i : Int) H G := by
  have jn := (List.getElem?_eq_some_iff.mp hj).1
  obtain ⟨q1, q2, _, q4, _, _⟩ := hTC j d hj
  rw [Int.zero_add] at q1 q2 q4
  obtain ⟨e1, e2, ⟨e4, g4⟩, ⟨e5, g5⟩, ⟨e6, g6⟩, ⟨e7, g7⟩, ⟨e8, g8⟩, ⟨e9, g9⟩⟩ := id hE
  have o := ga_ob (c := 5) e2
  intro L
  induction L with
  | nil =>
    intro p i hi _ hno _
    have hl : (([] : List (Int × Int)).length : Int) = 0 := rfl
    unfold wE_follow_8
    rw [e7, q4]
    exact ⟨o, ga_oa g7 (by omega) (by omega), brF (by omega) (hno rfl)⟩
  | cons e L ih =>
    intro p i hi hk hno hyes
    have hl : ((e :: L).length : Int) = (L.length : Int) + 1 := by rw [List.length_cons]; omega
    obtain ⟨dc, c1, c2, c3⟩ := hk 0 p e rfl rfl
    have pn := (List.getElem?_eq_some_iff.mp c1).1
    obtain ⟨_, _, _, _, r5, r6⟩ := hTC p dc c1
    rw [Int.zero_add] at r5 r6
    have hsz : (p : Int) + dc.2.2.2.2.2 = ((p + szn N p : Nat) : Int) := by
      have : szn N p = dc.2.2.2.2.2.toNat := by unfold szn; rw [c1]
      rw [this]
      omega
    unfold wE_follow_8
    rw [e7, q4]
    refine ⟨o, ga_oa g7 (by omega) (by omega), brT (by omega) ⟨o, vE_has hE h0 ⟨by omega, by omega⟩ (brF (by decide) ?_)⟩⟩
    rw [e4, e9, q1, hd, r5, c2]
    refine ⟨o, ga_oa g4 (by omega) (by omega), o, ga_oa g9 (by omega) (by omega), vE_leads (fun hb => brF (by decide) ?_) (fun hb => brT rfl ?_)⟩
    · have hf : fnd s l (e :: L) i = some (i, e) := by
        show (if ldb s l e = true then some (i, e) else fnd s l L (i + 1)) = _
        rw [if_pos hb]
      exact hyes i e hf p (by rw [Nat.sub_self]; rfl)
    · have hb2 : ¬ ldb s l e = true := by rw [hb]; decide
      have hf : fnd s l (e :: L) i = fnd s l L (i + 1) := by
        show (if ldb s l e = true then some (i, e) else fnd s l L (i + 1)) = _
        rw [if_neg hb2]
      rw [e8, r6, hsz, e3_w32_id (x := (i : Int) + 1) (by omega) (by omega), show (i : Int) + 1 = ((i + 1 : Nat) : Int) by omega]
      refine ⟨o, ga_oa g8 (by omega) (by omega), ih (p + szn N p) (i + 1) (by omega) (fun x c e' h1 h2 => hk (x + 1) c e' h1 h2) (fun z => hno (hf.trans z)) (fun i' e' z c hc => hyes i' e' (hf.trans z) c ?_)⟩
      obtain ⟨j', j1, _⟩ := fnd_at L (i + 1) i' e' z
      rw [show i' - (i + 1) = j' by omega] at hc
      rw [show i' - i = j' + 1 by omega]
      exact hc
end VTR
/-- a row of a FUNCTION, in the class -/
def RW1 (σ : e3_H) (fu : Int) (cx : Int → Int) (R ru r : Int) (V : List (Int × Int)) (H : e3_H) (G : e3_G) : Prop := (139 ≤ R ∧ g_at G R (111, 5)) ∧ (H R 4 = R + 1 ∧ g_at G (R + 1) (0, 8)) ∧ H R 0 = ru ∧ c_sk ru H G ∧ (H ru 4 = σ 56 r ∧ 0 ≤ σ 56 r ∧ σ 56 r ≤ 8) ∧ (∃ pn : Int → Int, (∀ k : Int, 0 ≤ k → k < 8 → H (R + 1) k = nmp σ pn V k) ∧ ∀ p, p ∈ V → (0 ≤ pn p.1 ∧ pn p.1 < H fu 7) ∧ cx (pn p.1) = p.2) ∧ c_gd σ r H ru ∧ H ru 0 = r % 16 ∧ ru = H (H fu 4) (r % 16)
def RWX (σ : e3_H) (fu : Int) (cx : Int → Int) (i : Nat) (r : Int) (V : List (Int × Int)) (H : e3_H) (G : e3_G) : Prop := ((i : Int) < H fu 5 ∧ i < 40 ∧ H fu 6 = fu + 3 ∧ g_at G (fu + 3) (6, 40)) ∧ RW1 σ fu cx (H (fu + 3) i) (H (H (fu + 3) i) 0) r V H G
/-- what sorting by a tree needs of the class -/
def CWX (σ : e3_H) (fu t : Int) (cx : Int → Int) (cnt : Nat) (N : List a_ND) (RL : List (Int × Int × List (Int × Int))) (K : e3_H) (G : e3_G) : Prop := c_pl K G fu cx ∧ (VR K ∧ zLX K) ∧ (TRE t K G ∧ TC t cx cnt 0 N K ∧ K t 0 = (N.length : Int) ∧ K fu 7 = (cnt : Int)) ∧ (139 ≤ fu ∧ g_at G fu (108, 11) ∧ K fu 10 = t) ∧ ∀ (i : Nat) (r w : Int) (V : List (Int × Int)), RL[i]? = some (r, w, V) → RWX σ fu cx i r V K G
def fr5 (H K : e3_H) : Prop := ∀ a x : Int, a ≠ 34 → a ≠ 36 → a ≠ 37 → a ≠ 38 → K a x = H a x
/-- what sorting by a tree may change in the class -/
def frS (H K : e3_H) : Prop := fr5 H K ∧ (∀ x : Int, x ≠ 6 → x ≠ 9 → K 34 x = H 34 x) ∧ ∀ x : Int, x ≠ 0 → x ≠ 3 → x ≠ 4 → x ≠ 6 → K 37 x = H 37 x
theorem frS_rf (H : e3_H) : frS H H := ⟨fun _ _ _ _ _ _ => rfl, fun _ _ _ => rfl, fun _ _ _ _ _ => rfl⟩
theorem frS_tr {H K K2 : e3_H} (h : frS H K) (h2 : frS K K2) : frS H K2 := ⟨fun a x b c d e => (h2.1 a x b c d e).trans (h.1 a x b c d e), fun x b c => (h2.2.1 x b c).trans (h.2.1 x b c), fun x b c d e => (h2.2.2 x b c d e).trans (h.2.2 x b c d e)⟩
/-- how sorting by a tree ends, in the class -/
def BTo (σ H : e3_H) (f fu : Int) (RL : List (Int × Int × List (Int × Int))) (n3 : Int) (L : List Int) (o : Int × Nat × Nat × List Int) (x : Int) (K : e3_H) : Prop := frS H K ∧ K 37 3 = n3 + (o.2.2.1 : Int) ∧ LGC (L ++ o.2.2.2.map (fun r => 100 * f + r % 16)) K ∧ ((o.1 = 0 ∧ (∃ (r w : Int) (V : List (Int × Int)), RL[o.2.1]? = some (r, w, V) ∧ x = H (H (fu + 3) o.2.1) 0 ∧ (∀ p, p ∈ V → fitv σ (h35 H) p.1 (vt (h35 H) p.2)) ∧ ∀ k : Int, 0 ≤ k → k < σ 56 r → K 36 k = nB σ (h35 H) V k) ∧ K 37 0 = H 37 0 ∧ K 37 6 = H 37 6) ∨ ((o.1 = 1 ∨ o.1 = 2) ∧ x = -1 ∧ K 37 0 = o.1 ∧ K 37 6 = -4) ∨ (o.1 = 3 ∧ x = -1 ∧ K 37 0 = 3 ∧ ∃ (r w : Int) (V : List (Int × Int)), RL[o.2.1]? = some (r, w, V) ∧ K 37 6 = r % 16))
