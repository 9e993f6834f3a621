/-- the rows of a rule, of a FUNCTION -/
def rlr (f k : Int) (Vs : Int → Int → List (Int × Int)) (W : Nat) : List (Int × Int × List (Int × Int)) := (List.range W).map (fun (w : Nat) => (16 * f + k, (w : Int), Vs k (w : Int)))
def rls (σ : e3_H) (f : Int) (Vs : Int → Int → List (Int × Int)) (un : Bool) : Nat → List (Int × Int × List (Int × Int))
  | 0 => []
  | k + 1 => rls σ f Vs un k ++ (if un = true ∧ σ 78 (16 * f + k) ≠ 0 then [] else rlr f k Vs (σ 74 (16 * f + k)).toNat)
theorem rlr_succ {f k : Int} {Vs : Int → Int → List (Int × Int)} {W : Nat} : rlr f k Vs (W + 1) = rlr f k Vs W ++ [(16 * f + k, (W : Int), Vs k W)] := by
  unfold rlr
  rw [List.range_succ, List.map_append]
  rfl
theorem rlr_len {f k : Int} {Vs : Int → Int → List (Int × Int)} {W : Nat} : (rlr f k Vs W).length = W := by unfold rlr; rw [List.length_map, List.length_range]
theorem rls_len {σ : e3_H} {f : Int} {Vs : Int → Int → List (Int × Int)} {un : Bool} : ∀ k : Nat, (∀ j : Nat, j < k → 0 ≤ σ 74 (16 * f + j)) → ((rls σ f Vs un k).length : Int) ≤ rsum σ f k := by
  intro k
  induction k with
  | zero => intro _; exact Int.le_refl _
  | succ k ih =>
    intro h
    have := ih (fun j hj => h j (by omega))
    have h0 := h k (by omega)
    show ((rls σ f Vs un k ++ (if un = true ∧ σ 78 (16 * f + k) ≠ 0 then [] else rlr f k Vs (σ 74 (16 * f + k)).toNat)).length : Int) ≤ rsum σ f k + σ 74 (16 * f + k)
    rw [List.length_append]
    split
    · show (((rls σ f Vs un k).length + 0 : Nat) : Int) ≤ _; omega
    · rw [rlr_len]; omega
/-- what the reference needs of a FUNCTION to lay its rows -/
def RM (σ : e3_H) (f : Int) (m : Nat) (Vs : Int → Int → List (Int × Int)) : Prop := (0 ≤ f ∧ f < 12) ∧ σ 70 f = m ∧ m ≤ 16 ∧ rsum σ f m ≤ 40 ∧ ∀ k : Nat, k < m → 0 ≤ σ 74 (16 * f + k) ∧ ∃ (hi : Int) (L : List Int), (∀ y : Int, 0 ≤ y → y < hi → 1 ≤ σ 55 y ∧ σ 55 y ≤ 1000) ∧ hi ≤ 1700 ∧ L.length ≤ 4 ∧ ach σ (σ 72 (16 * f + k)) L ∧ (∀ x, x ∈ L → (0 ≤ x ∧ x < hi) ∧ wt σ 6 hi x) ∧ wp σ L = σ 74 (16 * f + k) ∧ ∀ w : Int, 0 ≤ w → w < σ 74 (16 * f + k) → lyC (lyV σ 6) σ L w 1 (Vs k w) ∧ nt σ (Vs k w) ≤ 2000 ∧ (tl σ (Vs k w)).length ≤ 806
section MRS
variable {Q : e3_H → e3_G → Prop} {σ H0 : e3_H} {f : Int} {m : Nat} {Vs : Int → Int → List (Int × Int)} {un : Bool} {l2 : Int} {G : e3_G}
theorem cM_40 {k19 : Int → Int → Int → e3_H → e3_G → Prop} {k : Nat} (hM : RM σ f m Vs) (hk : k < m) (hun : un = true ∧ l2 ≠ 0 ∨ un = false ∧ l2 = 0) (hs : ¬ (un = true ∧ σ 78 (16 * f + k) ≠ 0)) (hQ : ∀ K, mr H0 K → tb σ K → M_rows σ K (rls σ f Vs un (k + 1)) → k19 f l2 ((k : Int) + 1) K G) : ∀ (d w : Nat) (K : e3_H), ((w + d : Nat) : Int) = σ 74 (16 * f + k) → mr H0 K → tb σ K → M_rows σ K (rls σ f Vs un k ++ rlr f k Vs w) → wM_layRows_40 Q k19 (d + 1) f l2 k (16 * f + k) w K G := by
  obtain ⟨hf, h70, h16, hsum, hR⟩ := hM
  obtain ⟨h74, hi, L, r1, r2, r3, r4, r5, r6, r7⟩ := hR k hk
  have s1 := rsum_0 (fun k hk => (hR k hk).1) (m - (k + 1)) (k + 1) (by omega)
  have s0 := rsum_0 (fun k hk => (hR k hk).1) (m - k) k (by omega)
  have e1 : rsum σ f (k + 1) = rsum σ f k + σ 74 (16 * f + k) := rfl
  have hlen := rls_len (σ := σ) (f := f) (Vs := Vs) (un := un) k (fun j hj => (hR j (by omega)).1)
  intro d
  induction d with
  | zero =>
    intro w K hd hm htb hr
    refine ⟨⟨by omega, by omega⟩, brF (by rw [htb 74 _ (by decide) (by decide) (by decide)]; omega) ?_⟩
    show k19 f l2 (e3_w32 ((k : Int) + 1)) K G
    rw [e3_w32_id (x := (k : Int) + 1) (by omega) (by omega)]
    refine hQ K hm htb ?_
    show M_rows σ K (rls σ f Vs un k ++ (if un = true ∧ σ 78 (16 * f + k) ≠ 0 then [] else rlr f k Vs (σ 74 (16 * f + k)).toNat))
    rw [if_neg hs, show (σ 74 (16 * f + k)).toNat = w by omega]
    exact hr
  | succ d ih =>
    intro w K hd hm htb hr
    have hl61 : K 40 61 = ((rls σ f Vs un k ++ rlr f k Vs w).length : Int) := hr.1
    rw [List.length_append, rlr_len] at hl61
    obtain ⟨v1, v2, v3⟩ := r7 w (by omega) (by omega)
    have h65 := hr.2.2.2.1
    rw [List.length_append, rlr_len] at h65
    have go : wM_layRows_66 Q k19 (fun l1 l2 l3 l4 l5 H G => wM_layRows_40 Q k19 (d + 1) l1 l2 l3 l4 l5 H G) f l2 k (16 * f + k) w K G := by
      refine cM_layRow r1 r2 (by omega) r3 r4 r5 (by omega) ⟨by omega, by omega⟩ v1 v2 htb (by omega) h65.1 (by omega) (fun K2 hR1 => ?_)
      have hr2 := M_rows_1 hr v3 hR1
      rw [List.append_assoc, ← rlr_succ] at hr2
      rw [e3_w32_id (x := (w : Int) + 1) (by omega) (by omega)]
      have := ih (w + 1) K2 (by omega) (mr_tr hm hR1.1) (tb_mr htb hR1.1) hr2
      rw [Int.natCast_add] at this
      exact this
    refine ⟨⟨by omega, by omega⟩, brT (by rw [htb 74 _ (by decide) (by decide) (by decide)]; omega) ⟨fun _ => go, fun z => ⟨⟨by omega, by omega⟩, ?_⟩⟩⟩
    rw [htb 78 _ (by decide) (by decide) (by decide)]
    refine brT ?_ go
    by_cases h78 : σ 78 (16 * f + k) = 0
    · exact h78
    · rcases hun with ⟨z1, _⟩ | ⟨_, z1⟩
      · exact absurd ⟨z1, h78⟩ hs
      · exact absurd z1 z
theorem cM_19 (hM : RM σ f m Vs) (hun : un = true ∧ l2 ≠ 0 ∨ un = false ∧ l2 = 0) (hQ : ∀ K, mr H0 K → tb σ K → M_rows σ K (rls σ f Vs un m) → Q K G) : ∀ (d k : Nat) (K : e3_H), k + d = m → mr H0 K → tb σ K → M_rows σ K (rls σ f Vs un k) → wM_layRows_19 Q (d + 1) f l2 k K G := by
  have hM2 := hM
  obtain ⟨hf, h70, h16, hsum, hR⟩ := hM2
  intro d
  induction d with
  | zero =>
    intro k K hd hm htb hr
    have hd : k = m := hd
    subst hd
    exact ⟨hf, brF (by rw [htb 70 _ (by decide) (by decide) (by decide), h70]; omega) (hQ K hm htb hr)⟩
  | succ d ih =>
    intro k K hd hm htb hr
    have hk : k < m := by omega
    have next : ∀ K2, mr H0 K2 → tb σ K2 → M_rows σ K2 (rls σ f Vs un (k + 1)) → wM_layRows_19 Q (d + 1) f l2 ((k : Int) + 1) K2 G := fun K2 a b c => by
      have := ih (k + 1) K2 (by omega) a b c
      rw [Int.natCast_add] at this
      exact this
    refine ⟨hf, brT (by rw [htb 70 _ (by decide) (by decide) (by decide), h70]; omega) ⟨(σ 74 (16 * f + k)).toNat + 1, ?_⟩⟩
    rw [e3_w32_id (x := 16 * f) (by omega) (by omega), e3_w32_id (x := 16 * f + k) (by omega) (by omega)]
    by_cases hs : un = true ∧ σ 78 (16 * f + k) ≠ 0
    · have e2 : rls σ f Vs un (k + 1) = rls σ f Vs un k := by
        show rls σ f Vs un k ++ (if un = true ∧ σ 78 (16 * f + k) ≠ 0 then [] else rlr f k Vs (σ 74 (16 * f + k)).toNat) = _
        rw [if_pos hs, List.append_nil]
      have l20 : l2 ≠ 0 := by
        rcases hun with ⟨_, z⟩ | ⟨z, _⟩
        · exact z
        · rw [z] at hs; exact absurd hs.1 (by decide)
      have go : wM_layRows_80 Q (fun l1 l2 l3 H G => wM_layRows_19 Q (d + 1) l1 l2 l3 H G) f l2 k K G := by
        show wM_layRows_19 Q (d + 1) f l2 (e3_w32 ((k : Int) + 1)) K G
        rw [e3_w32_id (x := (k : Int) + 1) (by omega) (by omega)]
        exact next K hm htb (by rw [e2]; exact hr)
      refine ⟨⟨by omega, by omega⟩, fun _ => brF l20 ⟨⟨by omega, by omega⟩, brF (by rw [htb 78 _ (by decide) (by decide) (by decide)]; exact hs.2) go⟩, fun _ => go⟩
    · have h74 := (hR k hk).1
      have := cM_40 (Q := Q) (G := G) (k19 := fun l1 l2 l3 H G => wM_layRows_19 Q (d + 1) l1 l2 l3 H G) hM hk hun hs next (σ 74 (16 * f + k)).toNat 0 K (by omega) hm htb (by show M_rows σ K (rls σ f Vs un k ++ []); rw [List.append_nil]; exact hr)
      exact this
/-- all rows of a FUNCTION are laid by the reference -/
theorem cM_layRows {H : e3_H} (hM : RM σ f m Vs) (hun : un = true ∧ l2 ≠ 0 ∨ un = false ∧ l2 = 0) (htb : tb σ H) (hQ : ∀ K, mr H K → tb σ K → M_rows σ K (rls σ f Vs un m) → Q K G) : wM_layRows Q f l2 H G := by
  intro H1 e1 H2 e2 H3 e3
  have m3 : mr H H3 := by rw [e3, e2, e1]; exact mr_up (mr_up (mr_up (mr_rf H) (Or.inr (by decide))) (Or.inr (by decide))) (Or.inl (by decide))
  have c61 : H3 40 61 = 0 := by rw [e3, e3_up_ne (by decide), e2, e3_up_ne (by decide), e1, e3_up_self]
  have c65 : H3 40 65 = 0 := by rw [e3, e3_up_ne (by decide), e2, e3_up_self]
  have c88 : H3 88 0 = 0 := by rw [e3, e3_up_self]
  exact ⟨m + 1, cM_19 hM hun hQ m 0 H3 (by omega) m3 (tb_mr htb m3) ⟨c61, c88, by rw [c65]; exact c88, by rw [c65]; exact ⟨Int.le_refl _, Int.le_refl _⟩, fun i e he => by cases he⟩⟩
end MRS
