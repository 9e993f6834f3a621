section KDS
variable {σ : e3_H} {m : Nat} {R : a_RW} {way : Int} {π : a_PT}
theorem kds_t {i : Nat} {r q x : Int} {T : List (Int × Int)} (hf : fst σ π R 0 = some (i, r, T)) (hc : cho σ m R π way T 0 none 0 = some (q, x)) : kds σ m R way π = (lbs σ m R π x (σ 47 q)).map (fun v => (((x, v.1, v.2), enc (σ 47 q) v) : (Int × Int × Int) × (Int × Int × Int × Int))) := by
  unfold kds
  split
  · rename_i z
    rw [hf] at z
    cases z
  · rename_i z
    rw [hf] at z
    cases z
    split
    · rename_i y
      rw [hc] at y
      cases y
    · rename_i y
      rw [hc] at y
      cases y
      rfl
theorem kds_l {i : Nat} {r : Int} {T : List (Int × Int)} (hf : fst σ π R 0 = some (i, r, T)) (hc : cho σ m R π way T 0 none 0 = none) (hz : σ 78 r ≠ 0) : kds σ m R way π = [((0, r, r), (0, 0, 0, 0))] := by
  unfold kds
  split
  · rename_i z
    rw [hf] at z
    cases z
  · rename_i z
    rw [hf] at z
    cases z
    split
    · rw [if_neg hz]
    · rename_i y
      rw [hc] at y
      cases y
end KDS
/-- the tree of a text, by paths -/
def TRD (σ : e3_H) (m : Nat) (R : a_RW) (way : Int) (N : List a_ND) (D : List a_PT) : Prop := ∀ (j : Nat) (π : a_PT), D[j]? = some π → ∃ d : a_ND, N[j]? = some d ∧ SP σ m R π ∧ (∃ (k : Nat) (N' : List a_ND), gr σ m R way k π (d :: N')) ∧ ∀ (x : Nat) (v : (Int × Int × Int) × (Int × Int × Int × Int)), (kds σ m R way π)[x]? = some v → ∃ c : Nat, (chl N d.2.2.2.1.toNat (j + 1))[x]? = some c ∧ D[c]? = some (v.1 :: π)
/-- the rows of a FUNCTION, by what they visit -/
def RLX (σ : e3_H) (f : Int) (R : a_RW) (RL : List (Int × Int × List (Int × Int))) : Prop := ∀ (i : Nat) (r : Int) (T : List (Int × Int)), R[i]? = some (r, T) → ∃ (w : Int) (V : List (Int × Int)), RL[i]? = some (r, w, V) ∧ T = tl σ V ∧ VQ σ f V ∧ NV1 σ r V ∧ r / 16 = f ∧ GDP σ r
def vro (RL : List (Int × Int × List (Int × Int))) (i : Nat) : List (Int × Int) := match RL[i]? with
  | some e => e.2.2
  | none => []
theorem vro_at {RL : List (Int × Int × List (Int × Int))} {i : Nat} {r w : Int} {V : List (Int × Int)} (h : RL[i]? = some (r, w, V)) : vro RL i = V := by
  unfold vro
  rw [h]
/-- guards, by tables that differ in KINDS alone -/
theorem gdv_AK {mt : Nat} {σt σ M : e3_H} (h : AK mt σt σ) (V : List (Int × Int)) (r : Int) : gdv σt (tvp σt M (nB σt M V)) r = gdv σ (tvp σ M (nB σ M V)) r := by
  have e77 := AK_f h 77 (by decide)
  have e78 := AK_f h 78 (by decide)
  have e75 := AK_f h 75 (by decide)
  have e76 := AK_f h 76 (by decide)
  have e53 := AK_f h 53 (by decide)
  have e54 := AK_f h 54 (by decide)
  have hb : ∀ (V : List (Int × Int)) (B : Int → Int), nmf σt M V B = nmf σ M V B := by
    intro V
    induction V with
    | nil => intro B; rfl
    | cons p V ih =>
      intro B
      have : nm1 σt M p B = nm1 σ M p B := by
        unfold nm1
        rw [e53, e54]
      show nmf σt M V (nm1 σt M p B) = nmf σ M V (nm1 σ M p B)
      rw [this]
      exact ih _
  have ht : tvp σt M (nB σt M V) = tvp σ M (nB σ M V) := by
    have hB : nB σt M V = nB σ M V := hb V _
    rw [hB]
    unfold tvp
    rw [e75, e76]
  rw [ht]
  unfold gdv thr smv
  rw [e77, e78]
section LFT
variable {σ σt M : e3_H} {m mt : Nat} {f way : Int} {R : a_RW} {π : a_PT} {r : Int} {T V : List (Int × Int)}
/-- at a leaf all of the row's tests hold -/
theorem leaf_fit (hA : AK mt σt σ) (hu : a_up (σt 43) mt) (hPV : PV σt mt R M π) (hmR : (r, T) ∈ R) (hlv : lv σt (r, T) π = true) (hT : T = tl σ V) (hq : VQ σ f V) (hc : cho σt mt R π way T 0 none 0 = none) : ∀ p, p ∈ V → fitv σ M p.1 (vt M p.2) := fun p hp => by
  by_cases z0 : σ 46 p.1 = 0
  · exact Or.inl z0
  · by_cases z6 : σ 46 p.1 = 6
    · exact Or.inr (Or.inl z6)
    · have hpT : p ∈ tl σ V := tl_mem.mpr ⟨hp, z0, z6⟩
      have hn := (cho_none T 0 none 0 hc).2
      have hkn := all_kn hq (fun p hp => hn p (by rw [hT]; exact hp)) (p.2.toNat + 1) p (by omega) hpT
      exact Or.inr (Or.inr (hld_AK hA hu (hPV (r, T) hmR hlv p (by show p ∈ T; rw [hT]; exact hpT) hkn)))
/-- where a node asks, a VALUE is there -/
theorem test_at {q x : Int} (hA : AK mt σt σ) (hu : a_up (σt 43) mt) (hPV : PV σt mt R M π) (hmR : (r, T) ∈ R) (hlv : lv σt (r, T) π = true) (hT : T = tl σ V) (hq : VQ σ f V) (hTV : TV σ m M) (hcol : ∀ i : Int, 0 ≤ i → i < σ 68 f → oks M (M 135 i) (σ 69 (3 * f + i))) (hS : SP σt mt R π) (hqx : (q, x) ∈ T) (hask : ask π x = true) : oks M (vt M x) (σ 47 q) ∧ vok M 7 x ∧ 1 ≤ x ∧ x < 2097152 := by
  have hm := tl_mem.mp (show (q, x) ∈ tl σ V by rw [← hT]; exact hqx)
  have hx : 1 ≤ x ∧ x < 2097152 := hq.2 (q, x) hm.1
  unfold ask at hask
  rw [Bool.and_eq_true, Bool.or_eq_true] at hask
  have hz : (x - 1) / 8 = 0 ∨ (kn π ((x - 1) / 8)).isSome = true := by
    rcases hask.2 with u | u
    · exact Or.inl (of_decide_eq_true u)
    · exact Or.inr u
  have key := tst_ok (π := π) hTV hcol hq (fun p hp h5 hkn => hld_AK hA hu (hPV (r, T) hmR hlv p (by show p ∈ T; rw [hT]; exact tl_mem.mpr ⟨hp, by omega, by omega⟩) hkn)) (SP_cl π hS) (x.toNat + 1) (q, x) (by show x < _; omega) hm.1 hz
  have e8 : (8 : Int) ^ 7 = 2097152 := by decide
  exact ⟨key.1, key.2 7 (by show x < 8 ^ 7; omega), hx⟩
end LFT
theorem e35_of {H K : e3_H} (h : fr5 H K) (a k : Int) (ha : a ≠ 34 ∧ a ≠ 36 ∧ a ≠ 37 ∧ a ≠ 38) : h35 K a k = h35 H a k := by
  by_cases z : a = 135
  · rw [z, h35_135, h35_135]; exact h 35 k (by decide) (by decide) (by decide) (by decide)
  · rw [h35_ne z, h35_ne z]; exact h a k ha.1 ha.2.1 ha.2.2.1 ha.2.2.2
theorem end_fr {K H1 H2 : e3_H} {a b : Int} (h1 : H1 = e3_up K 37 0 a) (h2 : H2 = e3_up H1 37 6 b) : frS K H2 ∧ H2 37 0 = a ∧ H2 37 6 = b ∧ H2 37 3 = K 37 3 ∧ H2 37 4 = K 37 4 ∧ (∀ x : Int, H2 34 x = K 34 x) ∧ ∀ x : Int, H2 38 x = K 38 x := by
  have f : ∀ y x : Int, ¬ (y = 37 ∧ x = 0) → ¬ (y = 37 ∧ x = 6) → H2 y x = K y x := fun y x z1 z2 => by rw [h2, e3_up_ne z2, h1, e3_up_ne z1]
  exact ⟨⟨fun y x _ _ z _ => f y x (ne_1 z) (ne_1 z), fun x _ _ => f 34 x (by omega) (by omega), fun x z _ _ z2 => f 37 x (ne_2 z) (ne_2 z2)⟩, by rw [h2, e3_up_ne (by decide), h1, e3_up_self], by rw [h2, e3_up_self], f 37 3 (by decide) (by decide), f 37 4 (by decide) (by decide), fun x => f 34 x (by omega) (by omega), fun x => f 38 x (by omega) (by omega)⟩
section VRW
variable {σ K M : e3_H} {G : e3_G} {fu r f : Int} {cx : Int → Int} {i : Nat} {V : List (Int × Int)}
theorem vF_none {Q : Int → e3_H → e3_G → Prop} {l : Int} (h : l < 0) (hQ : Q (-1) K G) : wF_rowAt Q fu l K G := brT h hQ
theorem vF_row {Q : Int → e3_H → e3_G → Prop} (h : (i : Int) < K fu 5 ∧ i < 40 ∧ K fu 6 = fu + 3 ∧ g_at G (fu + 3) (6, 40)) (h8 : 139 ≤ fu ∧ g_at G fu (108, 11)) (hQ : Q (K (fu + 3) i) K G) : wF_rowAt Q fu (i : Int) K G := by
  have o := ga_ob (c := 8) h8.2
  refine brF (by omega) ⟨o, brT h.1 ⟨o, ?_⟩⟩
  rw [h.2.2.1]
  exact ⟨ga_oa h.2.2.2 (by omega) (by omega), hQ⟩
/-- the NAMES of a row are held -/
theorem vS_hr {Q : e3_H → e3_G → Prop} (hW : RWX σ fu cx i r V K G) (hfu : 139 ≤ fu) (hcw : ∀ K' : e3_H, (∀ a x : Int, a ≠ 36 → K' a x = K a x) → c_pl K' G fu cx ∧ VR K' ∧ zLX K') (hNV : NV1 σ r V) (hvk : ∀ p, p ∈ V → vok (h35 K) 7 p.2 ∧ p.2 < 2147483647) (hQ : ∀ K' : e3_H, (∀ a x : Int, a ≠ 36 → K' a x = K a x) → (∀ k : Int, 0 ≤ k → k < σ 56 r → K' 36 k = nB σ (h35 K) V k) → Q K' G) : wS_holdRow Q fu (K (fu + 3) i) K G := by
  obtain ⟨_, w1, w2, w3, w4, w5, ⟨pn, w6, w7⟩, _, _⟩ := hW
  exact vS_holdRow hcw hfu w1 w2 ⟨w3, w4.1, w4.2.1⟩ w5 w6 hNV w7 hvk hQ
/-- a guard, in the class, by NAMES -/
theorem vS_gl {Q : Int → e3_H → e3_G → Prop} {B : Int → Int} {L : List Int} (hW : RWX σ fu cx i r V K G) (hV : VR K) (h26 : K 26 1 ≤ 160) (hg : GDP σ r) (hB : ∀ k : Int, 0 ≤ k → k < σ 56 r → K 36 k = B k) (hBo : ∀ n : Nat, (n : Int) < σ 56 r → oks M (B n) (σ 58 (8 * r + n))) (eM : ∀ a k : Int, a = 26 ∨ a = 27 ∨ a = 28 → M a k = K a k) (h5 : K 34 5 = f ∧ 0 ≤ f ∧ f < 12) (hL : LGC L K) (hLn : (L.length : Int) ≤ 1000000)
    (hu : σ 78 r = 0 → ∀ K2 : e3_H, (∀ a x : Int, ¬ (a = 34 ∧ x = 6) → K2 a x = K a x) → Q 1 K2 G)
    (h2 : σ 78 r ≠ 0 → gdv σ (tvp σ M B) r = 2 → ∀ K2 : e3_H, (∀ a x : Int, a ≠ 34 → a ≠ 37 → a ≠ 38 → K2 a x = K a x) → (∀ x : Int, x ≠ 6 → x ≠ 9 → K2 34 x = K 34 x) → (∀ x : Int, x ≠ 0 → x ≠ 4 → x ≠ 6 → K2 37 x = K 37 x) → LGC (L ++ [100 * f + r % 16]) K2 → K2 34 6 = 1 → K2 37 0 = 3 → K2 37 6 = r % 16 → Q 0 K2 G)
    (h01 : σ 78 r ≠ 0 → gdv σ (tvp σ M B) r ≠ 2 → ∀ K2 : e3_H, (∀ a x : Int, a ≠ 34 → a ≠ 37 → a ≠ 38 → K2 a x = K a x) → (∀ x : Int, x ≠ 6 → x ≠ 9 → K2 34 x = K 34 x) → (∀ x : Int, x ≠ 4 → K2 37 x = K 37 x) → LGC (L ++ [100 * f + r % 16]) K2 → K2 34 6 = 0 → Q (gdv σ (tvp σ M B) r) K2 G) : wS_guardLets Q (K (K (fu + 3) i) 0) K G := by
  obtain ⟨_, w1, w2, w3, w4, w5, _, w7, w8⟩ := hW
  have hN : nW σ K r := fun k k0 k1 k2 => by
    have ek : ((k.toNat : Nat) : Int) = k := by omega
    have ho := hBo k.toNat (by omega)
    rw [ek, k2] at ho
    obtain ⟨⟨o1, o2⟩, o3⟩ := ho
    rw [eM 26 1 (by decide)] at o2
    unfold sOf at o3
    rw [if_pos (by decide), eM 27 _ (by decide)] at o3
    have o3 := of_decide_eq_true o3
    rw [hB k k0 k1]
    exact ⟨⟨o1, o2⟩, ((hV.2 _ o1 o2).2.1 (by omega)).2.2⟩
  have n9 : K 34 9 = K 34 9 ∧ 0 ≤ K 34 9 ∧ K 34 9 ≤ 32 := by
    refine ⟨rfl, ?_⟩
    rw [hL.2.1]
    split <;> omega
  have L1 : LGC L (e3_up K 34 6 0) := LGC_eq hL (by rw [e3_up_ne (by decide)]) (by rw [e3_up_ne (by decide)]) (fun x => by rw [e3_up_ne (ne_1 (by decide))])
  have L2 : LGC (L ++ [100 * f + r % 16]) (lgC (K 34 9) (K 37 4) (100 * f + r % 16) (e3_up K 34 6 0)) := by
    have := LGC_psh (v := 100 * f + r % 16) L1
    rw [e3_up_ne (H := K) (a := 34) (j := 6) (b := 34) (k := 9) (by decide), e3_up_ne (H := K) (a := 34) (j := 6) (b := 37) (k := 4) (by decide)] at this
    exact this
  have fl : ∀ a x : Int, a ≠ 38 → ¬ (a = 37 ∧ x = 4) → ¬ (a = 34 ∧ x = 9) → ¬ (a = 34 ∧ x = 6) → lgC (K 34 9) (K 37 4) (100 * f + r % 16) (e3_up K 34 6 0) a x = K a x := fun a x b c d e => by rw [lgC_ne b c d, e3_up_ne e]
  have f6 : lgC (K 34 9) (K 37 4) (100 * f + r % 16) (e3_up K 34 6 0) 34 6 = 0 := by rw [lgC_ne (by decide) (by decide) (by decide), e3_up_self]
  refine vS_guardLets (f := f) (k := r % 16) (n := K 34 9) (n4 := K 37 4) w4 w5.2.2 h26 w7 hN h5 ⟨w8.1, by omega, by omega⟩ n9 ⟨rfl, by rw [hL.1]; omega, by rw [hL.1]; exact hLn⟩ (fun z => hu z _ (fun a x h => by rw [e3_up_ne h])) (fun z y => ?_) (fun z y => ?_)
  · rw [gd_c hg z hB (fun k => (eM 28 k (by decide)).symm)] at y
    refine h2 z y _ (fun a x b c d => ?_) (fun x b c => ?_) (fun x b c d => ?_) (LGC_eq L2 ?_ ?_ (fun x => ?_)) ?_ ?_ ?_
    · rw [e3_up_ne (ne_1 c), e3_up_ne (ne_1 c), e3_up_ne (ne_1 b)]
      exact fl a x d (ne_1 c) (ne_1 b) (ne_1 b)
    · rw [e3_up_ne (ne_1 (by decide)), e3_up_ne (ne_1 (by decide)), e3_up_ne (ne_2 b)]
      exact fl 34 x (by decide) (ne_1 (by decide)) (ne_2 c) (ne_2 b)
    · rw [e3_up_ne (ne_2 d), e3_up_ne (ne_2 b), e3_up_ne (ne_1 (by decide))]
      exact fl 37 x (by decide) (ne_2 c) (ne_1 (by decide)) (ne_1 (by decide))
    · rw [e3_up_ne (by decide), e3_up_ne (by decide), e3_up_ne (by decide)]
    · rw [e3_up_ne (by decide), e3_up_ne (by decide), e3_up_ne (by decide)]
    · rw [e3_up_ne (ne_1 (by decide)), e3_up_ne (ne_1 (by decide)), e3_up_ne (ne_1 (by decide))]
    · rw [e3_up_ne (by decide), e3_up_ne (by decide), e3_up_self]
    · rw [e3_up_ne (by decide), e3_up_self]
    · rw [e3_up_self]
  · rw [gd_c hg z hB (fun k => (eM 28 k (by decide)).symm)] at y ⊢
    exact h01 z y _ (fun a x b c d => fl a x d (ne_1 c) (ne_1 b) (ne_1 b)) (fun x b c => fl 34 x (by decide) (ne_1 (by decide)) (ne_2 c) (ne_2 b)) (fun x b => fl 37 x (by decide) (ne_2 b) (ne_1 (by decide)) (ne_1 (by decide))) L2 f6
end VRW
