section FTP
variable {σ g H0 : e3_H} {G : e3_G} {m : Nat} {r ru cnt lo hi : Int}
/-- the patterns of columns, one after the other -/
theorem vS_cols (hF : FOK σ g H0 G ru lo hi 6 9) (hC : ∀ K, fr6 H0 K → PTX σ m r ru g cnt lo hi K G) (h0 : 0 ≤ lo) {Q : Int → e3_H → e3_G → Prop} : ∀ (B : List Int) (i : Nat) (link : Int) (K : e3_H), i + B.length ≤ 3 → (∀ (j : Nat) (c : Int), B[j]? = some c → (lo ≤ c ∧ c < hi) ∧ wt σ 6 hi c ∧ (∃ e : Int, sn σ 6 c e) ∧ σ 55 c < 1000 ∧ oks (h35 H0) (h35 H0 135 ((i : Int) + (j : Int))) (σ 47 c)) → ach σ link B → fr6 H0 K →
    (∀ (w : Int) (V : List (Int × Int)) (K2 : e3_H), lst (fun w V => lyC (lyV σ 6) σ B w (1 + (i : Int)) V) σ (h35 H0) (wp σ B) w V → fr6 H0 K2 → (∀ t : Int, 0 ≤ t → t < 8 → K2 36 t = nmf σ (h35 H0) V (K 36) t) → Q 1 K2 G) →
    (nof (fun w V => lyC (lyV σ 6) σ B w (1 + (i : Int)) V) σ (h35 H0) (wp σ B) → ∀ K2 : e3_H, fr6 H0 K2 → Q 0 K2 G) → wS_patternsFit_7 Q (B.length + 1) ru (i : Int) (c_lk g link) K G := by
  intro B
  induction B with
  | nil =>
    intro i link K _ _ hl fK hyes _
    have hl : link = -4 := hl
    have e1 : c_lk g link = -1 := by unfold c_lk; rw [if_pos hl]
    rw [e1]
    exact brT (by decide) (hyes 0 [] K ⟨⟨by decide, by show (0 : Int) < 1; decide⟩, rfl, fun p hp => absurd hp (List.not_mem_nil), fun w' V' h1 h2 => by omega⟩ fK (fun t _ _ => rfl))
  | cons c l ih =>
    intro i link K hlen hB hl fK hyes hno
    obtain ⟨hl1, hl2⟩ := hl
    rw [List.length_cons] at hlen
    obtain ⟨hc1, hc2, hc3, hc4, hc5⟩ := hB 0 c rfl
    have z0 : ((0 : Nat) : Int) = 0 := rfl
    rw [z0, Int.add_zero] at hc5
    obtain ⟨p1, p2, p3, _⟩ := PTX_p hC fK hc1 h0
    rw [hl1, p1]
    have evt : vt (h35 H0) (1 + (i : Int)) = h35 H0 135 (i : Int) := by rw [vt_col _ (by omega), show 1 + (i : Int) - 1 = (i : Int) by omega]
    rw [← evt] at hc5
    have e6 : p8 6 = 262144 := by decide
    have h55l : ∀ b, b ∈ l → 1 ≤ σ 55 b := fun b hb => by
      obtain ⟨j, hj⟩ := List.getElem?_of_mem hb
      obtain ⟨u1, _⟩ := hB (j + 1) b hj
      obtain ⟨_, _, _, _, u2, u3⟩ := (hC H0 (fun _ _ _ => rfl)).2.1 b u1.1 u1.2
      split at u3 <;> omega
    have hwp := wp_1 l h55l
    refine brF (by omega) (brT (by omega) ⟨by omega, ?_⟩)
    rw [fK 35 _ (by decide), ← h35_135 H0 (i : Int), ← evt]
    refine hF c (1 + (i : Int)) 0 K _ fK hc2 hc1 hc3 hc4 hc5 ⟨by omega, by rw [e6]; omega⟩ ⟨by decide, by decide⟩ (fun w1 V1 K2 h1 h2 h3 => brF (by decide) ⟨p3, ?_⟩) (fun h1 K2 h2 h3 => brT rfl (hno (mnC0 (R := lyV σ 6) hwp (Or.inl h1)) K2 h2))
    obtain ⟨_, _, _, p4⟩ := PTX_p hC h2 hc1 h0
    have ei : (i : Int) + 1 = ((i + 1 : Nat) : Int) := by omega
    rw [p4, e3_w32_id (x := (i : Int) + 1) (by omega) (by omega), ei]
    have ey : 1 + ((i + 1 : Nat) : Int) = 1 + (i : Int) + 1 := by omega
    refine ih (i + 1) (σ 52 c) K2 (by omega) (fun j b hj => ?_) hl2 h2 (fun w2 V2 K3 q1 q2 q3 => ?_) (fun q1 K3 q2 => ?_)
    · have hh := hB (j + 1) b hj
      rw [show (i : Int) + ((j + 1 : Nat) : Int) = ((i + 1 : Nat) : Int) + (j : Int) by omega] at hh
      exact hh
    · rw [ey] at q1
      refine hyes _ (V1 ++ V2) K3 (lst_C (R := lyV σ 6) h1 q1) q2 (fun t t0 t1 => ?_)
      rw [q3 t t0 t1, nmf_app]
      exact nmf_pt (h3 t t0 t1)
    · rw [ey] at q1
      exact hno (mnC0 (R := lyV σ 6) hwp (Or.inr q1)) K3 q2
/-- do the patterns of a rule fit, and how -/
theorem vS_patternsFit {Q : Int → e3_H → e3_G → Prop} {L : List Int} {f : Int} (hC : ∀ K, fr6 H0 K → PTX σ m r ru g cnt lo hi K G) (h0 : 0 ≤ lo) (hT : TV σ m (h35 H0)) (h2 : H0 ru 2 = c_lk g (σ 72 r)) (hL : ach σ (σ 72 r) L) (hL3 : L.length ≤ 3) (h40 : wp σ L ≤ 40) (hB : ∀ (j : Nat) (c : Int), L[j]? = some c → (lo ≤ c ∧ c < hi) ∧ wt σ 6 hi c ∧ (∃ e : Int, sn σ 6 c e) ∧ (j : Int) < σ 68 f ∧ σ 47 c = σ 69 (3 * f + (j : Int))) (hcol : ∀ i : Int, 0 ≤ i → i < σ 68 f → oks (h35 H0) (h35 H0 135 i) (σ 69 (3 * f + i)))
    (hyes : ∀ (w : Int) (V : List (Int × Int)) (K : e3_H), lst (fun w V => lyC (lyV σ 6) σ L w 1 V) σ (h35 H0) (wp σ L) w V → fr6 H0 K → (∀ t : Int, 0 ≤ t → t < 8 → K 36 t = nmf σ (h35 H0) V (H0 36) t) → Q 1 K G)
    (hno : nof (fun w V => lyC (lyV σ 6) σ L w 1 V) σ (h35 H0) (wp σ L) → ∀ K : e3_H, fr6 H0 K → Q 0 K G) : wS_patternsFit Q ru H0 G := by
  have hU := (hC H0 (fun _ _ _ => rfl)).1
  refine ⟨ga_ob (c := 9) hU.1, L.length + 1, ?_⟩
  rw [h2]
  have hpos : ∀ c, c ∈ L → 1 ≤ σ 55 c := fun c hc => by
    obtain ⟨j, hj⟩ := List.getElem?_of_mem hc
    obtain ⟨u1, _⟩ := hB j c hj
    obtain ⟨_, _, _, _, u2, u3⟩ := (hC H0 (fun _ _ _ => rfl)).2.1 c u1.1 u1.2
    split at u3 <;> omega
  have e1 : 1 + ((0 : Nat) : Int) = 1 := by omega
  refine vS_cols (vS_fits hC h0 hT 6 9 (by decide)) hC h0 L 0 (σ 72 r) H0 (by omega) (fun j c hj => ?_) hL (fun _ _ _ => rfl) (fun w V K h1 h3 h4 => hyes w V K ?_ h3 h4) (fun h1 K h3 => hno ?_ K h3)
  · obtain ⟨u1, u2, u3, u4, u5⟩ := hB j c hj
    have hm := List.mem_of_getElem? hj
    refine ⟨u1, u2, u3, by have := le_wp L hpos c hm; omega, ?_⟩
    rw [show ((0 : Nat) : Int) + (j : Int) = (j : Int) by omega, u5]
    exact hcol _ (by omega) u4
  · rw [e1] at h1; exact h1
  · rw [e1] at h1; exact h1
end FTP
theorem afit_cg {σ M M2 : e3_H} (h28 : M2 28 = M 28) (hvt : ∀ x : Int, vt M2 x = vt M x) (V : List (Int × Int)) : afit σ M2 V ↔ afit σ M V := by
  have e : ∀ p : Int × Int, fitv σ M2 p.1 (vt M2 p.2) ↔ fitv σ M p.1 (vt M p.2) := fun p => by unfold fitv; rw [h28, hvt]
  exact ⟨fun h p hp => (e p).mp (h p hp), fun h p hp => (e p).mpr (h p hp)⟩
/-- one letter at one FUNCTION, by trying rule after rule -/
def sr (σ M : e3_H) (Vs : Int → Int → List (Int × Int)) (f : Int) : Nat → Int → a_SO
  | 0, _ => (1, 0, 0, [], fun _ => 0)
  | n + 1, k => match lw σ M (Vs k) (σ 74 (16 * f + k)).toNat 0 with
    | none => sr σ M Vs f n (k + 1)
    | some w => if σ 78 (16 * f + k) = 0 then (0, 16 * f + k, 0, [], nB σ M (Vs k w)) else if gdv σ (tvp σ M (nB σ M (Vs k w))) (16 * f + k) = 1 then (0, 16 * f + k, 0, [100 * f + k], nB σ M (Vs k w)) else if gdv σ (tvp σ M (nB σ M (Vs k w))) (16 * f + k) = 2 then (3, 16 * f + k, 0, [100 * f + k], nB σ M (Vs k w)) else ((sr σ M Vs f n (k + 1)).1, (sr σ M Vs f n (k + 1)).2.1, (sr σ M Vs f n (k + 1)).2.2.1, (100 * f + k) :: (sr σ M Vs f n (k + 1)).2.2.2.1, (sr σ M Vs f n (k + 1)).2.2.2.2)
section SRE
variable {σ M : e3_H} {Vs : Int → Int → List (Int × Int)} {f k : Int} {n : Nat}
theorem sr_n (h : lw σ M (Vs k) (σ 74 (16 * f + k)).toNat 0 = none) : sr σ M Vs f (n + 1) k = sr σ M Vs f n (k + 1) := by
  conv => lhs; unfold sr
  rw [h]
theorem sr_s {w : Int} (h : lw σ M (Vs k) (σ 74 (16 * f + k)).toNat 0 = some w) : sr σ M Vs f (n + 1) k = if σ 78 (16 * f + k) = 0 then (0, 16 * f + k, 0, [], nB σ M (Vs k w)) else if gdv σ (tvp σ M (nB σ M (Vs k w))) (16 * f + k) = 1 then (0, 16 * f + k, 0, [100 * f + k], nB σ M (Vs k w)) else if gdv σ (tvp σ M (nB σ M (Vs k w))) (16 * f + k) = 2 then (3, 16 * f + k, 0, [100 * f + k], nB σ M (Vs k w)) else ((sr σ M Vs f n (k + 1)).1, (sr σ M Vs f n (k + 1)).2.1, (sr σ M Vs f n (k + 1)).2.2.1, (100 * f + k) :: (sr σ M Vs f n (k + 1)).2.2.2.1, (sr σ M Vs f n (k + 1)).2.2.2.2) := by
  conv => lhs; unfold sr
  rw [h]
end SRE
/-- a guard, in the class, by NAMES -/
theorem vS_gl2 {σ K M : e3_H} {G : e3_G} {ru r f : Int} {Q : Int → e3_H → e3_G → Prop} {B : Int → Int} {L : List Int} (hsk : c_sk ru K G) (h8 : σ 56 r ≤ 8) (hgd : c_gd σ r K ru) (hnum : K ru 0 = r % 16) (hV : VR K) (h26 : K 26 1 ≤ 160) (hg : GDP σ r) (hB : ∀ k : Int, 0 ≤ k → k < σ 56 r → K 36 k = B k) (hBo : ∀ n : Nat, (n : Int) < σ 56 r → oks M (B n) (σ 58 (8 * r + n))) (eM : ∀ a k : Int, a = 26 ∨ a = 27 ∨ a = 28 → M a k = K a k) (h5 : K 34 5 = f ∧ 0 ≤ f ∧ f < 12) (hL : LGC L K) (hLn : (L.length : Int) ≤ 1000000)
    (hu : σ 78 r = 0 → ∀ K2 : e3_H, (∀ a x : Int, ¬ (a = 34 ∧ x = 6) → K2 a x = K a x) → Q 1 K2 G)
    (h2 : σ 78 r ≠ 0 → gdv σ (tvp σ M B) r = 2 → ∀ K2 : e3_H, (∀ a x : Int, a ≠ 34 → a ≠ 37 → a ≠ 38 → K2 a x = K a x) → (∀ x : Int, x ≠ 6 → x ≠ 9 → K2 34 x = K 34 x) → (∀ x : Int, x ≠ 0 → x ≠ 4 → x ≠ 6 → K2 37 x = K 37 x) → LGC (L ++ [100 * f + r % 16]) K2 → K2 34 6 = 1 → K2 37 0 = 3 → K2 37 6 = r % 16 → Q 0 K2 G)
    (h01 : σ 78 r ≠ 0 → gdv σ (tvp σ M B) r ≠ 2 → ∀ K2 : e3_H, (∀ a x : Int, a ≠ 34 → a ≠ 37 → a ≠ 38 → K2 a x = K a x) → (∀ x : Int, x ≠ 6 → x ≠ 9 → K2 34 x = K 34 x) → (∀ x : Int, x ≠ 4 → K2 37 x = K 37 x) → LGC (L ++ [100 * f + r % 16]) K2 → K2 34 6 = 0 → Q (gdv σ (tvp σ M B) r) K2 G) : wS_guardLets Q ru K G := by
  have hN : nW σ K r := fun k k0 k1 k2 => by
    have ek : ((k.toNat : Nat) : Int) = k := by omega
    have ho := hBo k.toNat (by omega)
    rw [ek, k2] at ho
    obtain ⟨⟨o1, o2⟩, o3⟩ := ho
    rw [eM 26 1 (by decide)] at o2
    unfold sOf at o3
    rw [if_pos (by decide), eM 27 _ (by decide)] at o3
    have o3 := of_decide_eq_true o3
    rw [hB k k0 k1]
    exact ⟨⟨o1, o2⟩, ((hV.2 _ o1 o2).2.1 (by omega)).2.2⟩
  have n9 : K 34 9 = K 34 9 ∧ 0 ≤ K 34 9 ∧ K 34 9 ≤ 32 := by
    refine ⟨rfl, ?_⟩
    rw [hL.2.1]
    split <;> omega
  have L1 : LGC L (e3_up K 34 6 0) := LGC_eq hL (by rw [e3_up_ne (by decide)]) (by rw [e3_up_ne (by decide)]) (fun x => by rw [e3_up_ne (ne_1 (by decide))])
  have L2 : LGC (L ++ [100 * f + r % 16]) (lgC (K 34 9) (K 37 4) (100 * f + r % 16) (e3_up K 34 6 0)) := by
    have := LGC_psh (v := 100 * f + r % 16) L1
    rw [e3_up_ne (H := K) (a := 34) (j := 6) (b := 34) (k := 9) (by decide), e3_up_ne (H := K) (a := 34) (j := 6) (b := 37) (k := 4) (by decide)] at this
    exact this
  have fl : ∀ a x : Int, a ≠ 38 → ¬ (a = 37 ∧ x = 4) → ¬ (a = 34 ∧ x = 9) → ¬ (a = 34 ∧ x = 6) → lgC (K 34 9) (K 37 4) (100 * f + r % 16) (e3_up K 34 6 0) a x = K a x := fun a x b c d e => by rw [lgC_ne b c d, e3_up_ne e]
  have f6 : lgC (K 34 9) (K 37 4) (100 * f + r % 16) (e3_up K 34 6 0) 34 6 = 0 := by rw [lgC_ne (by decide) (by decide) (by decide), e3_up_self]
  refine vS_guardLets (f := f) (k := r % 16) (n := K 34 9) (n4 := K 37 4) hsk h8 h26 hgd hN h5 ⟨hnum, by omega, by omega⟩ n9 ⟨rfl, by rw [hL.1]; omega, by rw [hL.1]; exact hLn⟩ (fun z => hu z _ (fun a x h => by rw [e3_up_ne h])) (fun z y => ?_) (fun z y => ?_)
  · rw [gd_c hg z hB (fun k => (eM 28 k (by decide)).symm)] at y
    refine h2 z y _ (fun a x b c d => ?_) (fun x b c => ?_) (fun x b c d => ?_) (LGC_eq L2 ?_ ?_ (fun x => ?_)) ?_ ?_ ?_
    · rw [e3_up_ne (ne_1 c), e3_up_ne (ne_1 c), e3_up_ne (ne_1 b)]
      exact fl a x d (ne_1 c) (ne_1 b) (ne_1 b)
    · rw [e3_up_ne (ne_1 (by decide)), e3_up_ne (ne_1 (by decide)), e3_up_ne (ne_2 b)]
      exact fl 34 x (by decide) (ne_1 (by decide)) (ne_2 c) (ne_2 b)
    · rw [e3_up_ne (ne_2 d), e3_up_ne (ne_2 b), e3_up_ne (ne_1 (by decide))]
      exact fl 37 x (by decide) (ne_2 c) (ne_1 (by decide)) (ne_1 (by decide))
    · rw [e3_up_ne (by decide), e3_up_ne (by decide), e3_up_ne (by decide)]
    · rw [e3_up_ne (by decide), e3_up_ne (by decide), e3_up_ne (by decide)]
    · rw [e3_up_ne (ne_1 (by decide)), e3_up_ne (ne_1 (by decide)), e3_up_ne (ne_1 (by decide))]
    · rw [e3_up_ne (by decide), e3_up_ne (by decide), e3_up_self]
    · rw [e3_up_ne (by decide), e3_up_self]
    · rw [e3_up_self]
  · rw [gd_c hg z hB (fun k => (eM 28 k (by decide)).symm)] at y ⊢
    exact h01 z y _ (fun a x b c d => fl a x d (ne_1 c) (ne_1 b) (ne_1 b)) (fun x b c => fl 34 x (by decide) (ne_1 (by decide)) (ne_2 c) (ne_2 b)) (fun x b => fl 37 x (by decide) (ne_2 b) (ne_1 (by decide)) (ne_1 (by decide))) L2 f6
