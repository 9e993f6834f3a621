/-- only what NAMES hold has changed -/
def fr6 (H K : e3_H) : Prop := ∀ a x : Int, a ≠ 36 → K a x = H a x
theorem fr6_tr {H K K2 : e3_H} (h : fr6 H K) (h2 : fr6 K K2) : fr6 H K2 := fun a x ha => (h2 a x ha).trans (h a x ha)
/-- patterns of a rule, in the class -/
def PTX (σ : e3_H) (m : Nat) (r ru : Int) (g : e3_H) (cnt lo hi : Int) (K : e3_H) (G : e3_G) : Prop := U_ok σ r ru K G ∧ (∀ q : Int, lo ≤ q → q < hi → c_pt σ r g K G cnt hi q) ∧ zLX K ∧ (c_kd σ m K ∧ k_inv σ m)
/-- a NAME is held -/
def hd6 (k v : Int) (H : e3_H) : e3_H := if k = -4 then H else e3_up H 36 k v
theorem hd6_fr (k v : Int) (H : e3_H) : fr6 H (hd6 k v H) := fun a x ha => by
  unfold hd6
  split
  · rfl
  · rw [e3_up_ne (ne_1 ha)]
theorem hd6_2 {σ M H : e3_H} {q x n : Int} (hn : 0 ≤ n) : hd6 (σ 54 q) (vt M x) (hd6 (σ 53 q) (vt M x) H) 36 n = nm1 σ M (q, x) (H 36) n := by
  have one : ∀ (k v : Int) (K : e3_H), hd6 k v K 36 n = if k = n then v else K 36 n := fun k v K => by
    unfold hd6
    by_cases z : k = -4
    · rw [if_pos z, if_neg (by omega)]
    · rw [if_neg z]
      by_cases y : k = n
      · rw [if_pos y, y, e3_up_self]
      · rw [if_neg y, e3_up_ne (ne_2 (fun u => y u.symm))]
  rw [one, one]
  rfl
theorem vS_hold {Q : e3_H → e3_G → Prop} {σ H : e3_H} {G : e3_G} {r ru k v : Int} (hU : U_ok σ r ru H G) (hk : k = -4 ∨ (0 ≤ k ∧ k < σ 56 r)) (hQ : Q (hd6 k v H) G) : wS_hold Q ru (c_nam σ r k) v H G := by
  obtain ⟨u1, u2, u3, u4, u5, u6, u7, u8, u9⟩ := hU
  refine ⟨ga_ob (c := 9) u1, cU_nn u1 u2 u3 u4 u5 u6 u7 u8 u9 hk ?_⟩
  unfold hd6 at hQ
  rcases hk with hz | hz
  · rw [if_pos hz] at hQ ⊢
    exact brT (by decide) hQ
  · rw [if_neg (by omega)] at hQ ⊢
    exact brF (by omega) (brT (by omega) ⟨by omega, fun H4 e4 => by rw [e4]; exact hQ⟩)
theorem spl_int {c' : Int} {B' : List Int} : ∀ (A X A' : List Int), A ++ X = A' ++ c' :: B' → (∃ A2, A = A' ++ c' :: A2) ∨ (∃ A2, A' = A ++ A2) := by
  intro A
  induction A with
  | nil => intro X A' _; exact Or.inr ⟨A', rfl⟩
  | cons a A ih =>
    intro X A' e
    cases A' with
    | nil =>
      have e : a :: (A ++ X) = c' :: B' := e
      exact Or.inl ⟨A, by rw [(List.cons.inj e).1]; rfl⟩
    | cons d A' =>
      have e : a :: (A ++ X) = d :: (A' ++ c' :: B') := e
      obtain ⟨e1, e2⟩ := List.cons.inj e
      rcases ih X A' e2 with ⟨A2, y⟩ | ⟨A2, y⟩
      · exact Or.inl ⟨A2, by rw [e1, y]; rfl⟩
      · exact Or.inr ⟨A2, by rw [e1, y]; rfl⟩
/-- fits, for patterns no deeper than k -/
def FOK (σ g H0 : e3_H) (G : e3_G) (ru lo hi : Int) (k n : Nat) : Prop := ∀ (q x d : Int) (H : e3_H) (Q : Int → e3_H → e3_G → Prop), fr6 H0 H → wt σ k hi q → (lo ≤ q ∧ q < hi) → (∃ e : Int, sn σ k q e) → σ 55 q < 1000 → oks (h35 H0) (vt (h35 H0) x) (σ 47 q) → (1 ≤ x ∧ (x + 1) * p8 k ≤ 2097152) → (0 ≤ d ∧ d + (k : Int) = 6) → (∀ (w : Int) (V : List (Int × Int)) (K : e3_H), lst (fun w V => lyV σ k q w x V) σ (h35 H0) (σ 55 q) w V → fr6 H0 K → (∀ i : Int, 0 ≤ i → i < 8 → K 36 i = nmf σ (h35 H0) V (H 36) i) → Q 1 K G) → (nof (fun w V => lyV σ k q w x V) σ (h35 H0) (σ 55 q) → ∀ K : e3_H, fr6 H0 K → (∀ i : Nat, i < 8 → ¬ ntd σ k q (i : Int) → K 36 i = H 36 i) → Q 0 K G) → wS_fits n ru (g 0 q) (vt (h35 H0) x) d H G Q
section FTC
variable {σ g H0 : e3_H} {G : e3_G} {m : Nat} {r ru cnt lo hi : Int}
theorem PTX_p (hC : ∀ K, fr6 H0 K → PTX σ m r ru g cnt lo hi K G) {K : e3_H} (f : fr6 H0 K) {c : Int} (hc : lo ≤ c ∧ c < hi) (h0 : 0 ≤ lo) : c_lk g c = g 0 c ∧ 139 ≤ g 0 c ∧ e3_ob G 10 (g 0 c) ∧ K (g 0 c) 8 = c_lk g (σ 52 c) := by
  obtain ⟨p0, _, _, p2, _⟩ := (hC K f).2.1 c hc.1 hc.2
  exact ⟨c_lk_pos (by omega), p0.1, ga_ob (c := 10) p0.2.1, p2.1⟩
/-- the patterns of an EITHER, one after the other -/
theorem vS_any {k n : Nat} (hF : FOK σ g H0 G ru lo hi k n) (hC : ∀ K, fr6 H0 K → PTX σ m r ru g cnt lo hi K G) (h0 : 0 ≤ lo) {q x d e : Int} {L : List Int} {H : e3_H} {Q : Int → e3_H → e3_G → Prop} (hL : ach σ (σ 51 q) L) (hL4 : ∀ y, y ∈ L → y ≠ -4) (hwt : ∀ c, c ∈ L → (lo ≤ c ∧ c < hi) ∧ wt σ k hi c ∧ σ 55 c < 1000 ∧ oks (h35 H0) (vt (h35 H0) x) (σ 47 c)) (hsn : sn σ (k + 1) q e) (h6 : σ 46 q = 6) (hq0 : 0 ≤ q) (hx : 1 ≤ x ∧ (x + 1) * p8 k ≤ 2097152) (hd : 0 ≤ d ∧ d + (k : Int) = 6)
    (hyes : ∀ (A B : List Int) (c w : Int) (V : List (Int × Int)) (K : e3_H), L = A ++ c :: B → lst (fun w V => lyV σ k c w x V) σ (h35 H0) (σ 55 c) w V → (∀ a, a ∈ A → nof (fun w V => lyV σ k a w x V) σ (h35 H0) (σ 55 a)) → fr6 H0 K → (∀ i : Int, 0 ≤ i → i < 8 → K 36 i = nmf σ (h35 H0) V (H 36) i) → Q 1 K G)
    (hno : (∀ a, a ∈ L → nof (fun w V => lyV σ k a w x V) σ (h35 H0) (σ 55 a)) → ∀ K : e3_H, fr6 H0 K → (∀ i : Nat, i < 8 → (∀ a, a ∈ L → ¬ ntd σ k a (i : Int)) → K 36 i = H 36 i) → Q 0 K G) : ∀ (B A : List Int) (K : e3_H) (link : Int), L = A ++ B → (∀ a, a ∈ A → nof (fun w V => lyV σ k a w x V) σ (h35 H0) (σ 55 a)) → fr6 H0 K → (∀ i : Nat, i < 8 → (∀ a, a ∈ A → ¬ ntd σ k a (i : Int)) → K 36 i = H 36 i) → ach σ link B → wS_anyFits_6 (wS_fits n) Q (B.length + 1) ru (vt (h35 H0) x) d (c_lk g link) K G := by
  intro B
  induction B with
  | nil =>
    intro A K link eL hA fK hn hl
    have hl : link = -4 := hl
    rw [List.append_nil] at eL
    subst eL
    have e1 : c_lk g link = -1 := by unfold c_lk; rw [if_pos hl]
    rw [e1]
    exact brT (by decide) (hno hA K fK hn)
  | cons c l ih =>
    intro A K link eL hA fK hn hl
    obtain ⟨hl1, hl2⟩ := hl
    have hm : c ∈ L := by rw [eL]; exact List.mem_append_right _ (List.mem_cons_self ..)
    obtain ⟨hc1, hc2, hc3, hc4⟩ := hwt c hm
    obtain ⟨p1, p2, p3, _⟩ := PTX_p hC fK hc1 h0
    rw [hl1, p1]
    refine brF (by omega) (hF c x d K _ fK hc2 hc1 (sn_kid hsn hq0 hL hL4 hm) hc3 hc4 hx hd (fun w V K2 h1 h2 h3 => brF (by decide) (hyes A l c w V K2 eL h1 hA h2 (fun i i0 i1 => ?_))) (fun h1 K2 h2 h3 => brT rfl ⟨p3, ?_⟩))
    · rw [h3 i i0 i1]
      obtain ⟨j, rfl⟩ : ∃ j : Nat, i = (j : Int) := ⟨i.toNat, by omega⟩
      by_cases z : ∃ p, p ∈ V ∧ (σ 53 p.1 = (j : Int) ∨ σ 54 p.1 = (j : Int))
      · exact nmf_ix V _ _ z
      · refine nmf_pt (hn j (by omega) (fun a ha hnt => z ?_))
        have hna : a ∈ L := by rw [eL]; exact List.mem_append_left _ ha
        exact nv_V k c w x V (sn_alt hsn hq0 h6 hL hL4 hm hna hnt) h1.2.1 (by omega)
    · obtain ⟨_, _, _, p4⟩ := PTX_p hC h2 hc1 h0
      rw [p4]
      refine ih (A ++ [c]) K2 (σ 52 c) (by rw [eL, List.append_assoc]; rfl) (fun a ha => ?_) h2 (fun i hi hni => ?_) hl2
      · rcases List.mem_append.mp ha with z | z
        · exact hA a z
        · rw [List.mem_singleton.mp z]; exact h1
      · rw [h3 i hi (hni c (List.mem_append_right _ (List.mem_singleton_self c)))]
        exact hn i hi (fun a ha => hni a (List.mem_append_left _ ha))
/-- the patterns of parts, one after the other -/
theorem vS_parts {k n : Nat} (hF : FOK σ g H0 G ru lo hi k n) (hC : ∀ K, fr6 H0 K → PTX σ m r ru g cnt lo hi K G) (h0 : 0 ≤ lo) {v y d : Int} (hv : okv H0 v) (hd : 0 ≤ d ∧ d + (k : Int) = 6) {Q : Int → e3_H → e3_G → Prop} : ∀ (B : List Int) (i : Nat) (link : Int) (K : e3_H), i + B.length ≤ 4 → (∀ (j : Nat) (c : Int), B[j]? = some c → (lo ≤ c ∧ c < hi) ∧ wt σ k hi c ∧ (∃ e : Int, sn σ k c e) ∧ σ 55 c < 1000 ∧ oks (h35 H0) (vt (h35 H0) (y + (i : Int) + (j : Int))) (σ 47 c) ∧ (1 ≤ y + (i : Int) + (j : Int) ∧ (y + (i : Int) + (j : Int) + 1) * p8 k ≤ 2097152) ∧ (i : Int) + (j : Int) < H0 30 v ∧ H0 31 (4 * v + ((i : Int) + (j : Int))) = vt (h35 H0) (y + (i : Int) + (j : Int))) → ach σ link B → fr6 H0 K →
    (∀ (w : Int) (V : List (Int × Int)) (K2 : e3_H), lst (fun w V => lyC (lyV σ k) σ B w (y + (i : Int)) V) σ (h35 H0) (wp σ B) w V → fr6 H0 K2 → (∀ t : Int, 0 ≤ t → t < 8 → K2 36 t = nmf σ (h35 H0) V (K 36) t) → Q 1 K2 G) →
    (nof (fun w V => lyC (lyV σ k) σ B w (y + (i : Int)) V) σ (h35 H0) (wp σ B) → ∀ K2 : e3_H, fr6 H0 K2 → (∀ t : Nat, t < 8 → (∀ c, c ∈ B → ¬ ntd σ k c (t : Int)) → K2 36 t = K 36 t) → Q 0 K2 G) → wS_partsFit_9 (wS_fits n) Q (B.length + 1) ru v d (i : Int) (c_lk g link) K G := by
  intro B
  induction B with
  | nil =>
    intro i link K _ _ hl fK hyes _
    have hl : link = -4 := hl
    have e1 : c_lk g link = -1 := by unfold c_lk; rw [if_pos hl]
    rw [e1]
    refine brT (by decide) (hyes 0 [] K ⟨⟨by decide, by show (0 : Int) < 1; decide⟩, rfl, fun p hp => absurd hp (List.not_mem_nil), fun w' V' h1 h2 => by omega⟩ fK (fun t _ _ => rfl))
  | cons c l ih =>
    intro i link K hlen hB hl fK hyes hno
    obtain ⟨hl1, hl2⟩ := hl
    rw [List.length_cons] at hlen
    obtain ⟨hc1, hc2, hc3, hc4, hc5, hc6, hc7, hc8⟩ := hB 0 c rfl
    have z0 : ((0 : Nat) : Int) = 0 := rfl
    rw [z0, Int.add_zero] at hc5 hc6 hc7 hc8
    rw [Int.add_zero] at hc8
    obtain ⟨p1, p2, p3, _⟩ := PTX_p hC fK hc1 h0
    rw [hl1, p1]
    have hlx := (hC K fK).2.2.1
    have e30 : K 30 v = H0 30 v := fK 30 v (by decide)
    refine brF (by omega) (vL_part hlx ⟨hv.1, by rw [fK 26 1 (by decide)]; exact hv.2⟩ ⟨by omega, by rw [e30]; exact hc7⟩ ?_)
    rw [fK 31 _ (by decide), hc8]
    have h55l : ∀ b, b ∈ l → 1 ≤ σ 55 b := fun b hb => by
      obtain ⟨j, hj⟩ := List.getElem?_of_mem hb
      obtain ⟨u1, _⟩ := hB (j + 1) b hj
      obtain ⟨_, _, _, _, u2, u3⟩ := (hC H0 (fun _ _ _ => rfl)).2.1 b u1.1 u1.2
      split at u3 <;> omega
    have hwp := wp_1 l h55l
    refine hF c (y + (i : Int)) d K _ fK hc2 hc1 hc3 hc4 hc5 hc6 hd (fun w1 V1 K2 h1 h2 h3 => brF (by decide) ⟨p3, ?_⟩) (fun h1 K2 h2 h3 => brT rfl (hno ?_ K2 h2 (fun t ht hnt => h3 t ht (hnt c (List.mem_cons_self ..)))))
    · obtain ⟨_, _, _, p4⟩ := PTX_p hC h2 hc1 h0
      have ei : (i : Int) + 1 = ((i + 1 : Nat) : Int) := by omega
      rw [p4, e3_w32_id (x := (i : Int) + 1) (by omega) (by omega), ei]
      have ey : y + ((i + 1 : Nat) : Int) = y + (i : Int) + 1 := by omega
      refine ih (i + 1) (σ 52 c) K2 (by omega) (fun j b hj => ?_) hl2 h2 (fun w2 V2 K3 q1 q2 q3 => ?_) (fun q1 K3 q2 q3 => ?_)
      · have hh := hB (j + 1) b hj
        rw [show y + (i : Int) + ((j + 1 : Nat) : Int) = y + ((i + 1 : Nat) : Int) + (j : Int) by omega, show (i : Int) + ((j + 1 : Nat) : Int) = ((i + 1 : Nat) : Int) + (j : Int) by omega] at hh
        exact hh
      · rw [ey] at q1
        refine hyes _ (V1 ++ V2) K3 (lst_C (R := lyV σ k) h1 q1) q2 (fun t t0 t1 => ?_)
        rw [q3 t t0 t1, nmf_app]
        exact nmf_pt (h3 t t0 t1)
      · rw [ey] at q1
        refine hno (mnC0 (R := lyV σ k) hwp (Or.inr q1)) K3 q2 (fun t ht hnt => ?_)
        rw [q3 t ht (fun b hb => hnt b (List.mem_cons_of_mem _ hb)), h3 t (by omega) (by omega)]
        exact nmf_no V1 _ (fun p hp u => hnt c (List.mem_cons_self ..) (ntd_V k c w1 _ V1 h1.2.1 p hp u))
    · exact mnC0 (R := lyV σ k) hwp (Or.inl h1)
theorem vS_fits (hC : ∀ K, fr6 H0 K → PTX σ m r ru g cnt lo hi K G) (h0 : 0 ≤ lo) (hT : TV σ m (h35 H0)) : ∀ (k n : Nat), k ≤ n → FOK σ g H0 G ru lo hi k n := by
  intro k
  induction k with
  | zero => intro n _ q x d H Q _ h; exact h.elim
  | succ k ih =>
    intro n hkn q x d H Q fH ht hq hsn h1000 hok hx hd hyes hno
    obtain ⟨n', rfl⟩ : ∃ n', n = n' + 1 := ⟨n - 1, by omega⟩
    have hF := ih n' (by omega)
    obtain ⟨e, hsn⟩ := hsn
    obtain ⟨⟨hv0, hv1⟩, hvs⟩ := id hok
    have hv1' : vt (h35 H0) x < H0 26 1 := by rw [h35_ne (by decide)] at hv1; exact hv1
    obtain ⟨L, b1, b2, b3, b4, b5, b6, b7, b8, b9⟩ := ht
    have hL4 : ∀ y, y ∈ L → y ≠ -4 := fun y hy => by have := (b2 y hy).1; omega
    obtain ⟨⟨c1, c2, c3, c4, c5, c6, c7, c8, c9, c10⟩, ⟨a1, a2⟩, ⟨k1, _⟩, _, _⟩ := (hC H fH).2.1 q hq.1 hq.2
    have h55 : ∀ y : Int, lo ≤ y → y < hi → 1 ≤ σ 55 y := fun y y0 y1 => by
      obtain ⟨_, _, _, _, u2, u3⟩ := (hC H0 (fun _ _ _ => rfl)).2.1 y y0 y1
      split at u3 <;> omega
    have hin : ∀ c, c ∈ L → lo ≤ c ∧ c < hi := fun c hc => by have := b2 c hc; omega
    have hpos : ∀ c, c ∈ L → 1 ≤ σ 55 c := fun c hc => h55 c (hin c hc).1 (hin c hc).2
    have ob := ga_ob (c := 10) c2
    have hlx0 := (hC H0 (fun _ _ _ => rfl)).2.2.1
    have h160 := hlx0.1.2
    have hdk : d + 1 + (k : Int) = 6 := by omega
    have hp8 : p8 (k + 1) = 8 * p8 k := rfl
    rw [hp8] at hx
    have q8 := p8_1 k
    have hxk : (x + 1) * p8 k ≤ 2097152 := by
      have : (x + 1) * (1 * p8 k) ≤ (x + 1) * (8 * p8 k) := Int.mul_le_mul_of_nonneg_left (by omega) (by omega)
      rw [Int.one_mul] at this
      omega
    -- the pattern's own NAMES
    obtain ⟨H9, eH9⟩ : ∃ K : e3_H, hd6 (σ 54 q) (vt (h35 H0) x) (hd6 (σ 53 q) (vt (h35 H0) x) H) = K := ⟨_, rfl⟩
    have f9 : fr6 H H9 := by rw [← eH9]; exact fr6_tr (hd6_fr _ _ _) (hd6_fr _ _ _)
    have n9 : ∀ i : Int, 0 ≤ i → H9 36 i = nm1 σ (h35 H0) (q, x) (H 36) i := fun i i0 => by rw [← eH9]; exact hd6_2 i0
    have f90 := fr6_tr fH f9
    have f5 := hd6_fr (σ 53 q) (vt (h35 H0) x) H
    have ne36 : g 0 q ≠ 36 := by omega
    have nn : ∀ i : Nat, ¬ ntd σ (k + 1) q (i : Int) → H9 36 i = H 36 i := fun i hni => by
      rw [n9 i (by omega)]
      show (if σ 54 q = (i : Int) then vt (h35 H0) x else if σ 53 q = (i : Int) then vt (h35 H0) x else H 36 i) = H 36 i
      rw [if_neg (fun z => hni (Or.inr (Or.inl z))), if_neg (fun z => hni (Or.inl z))]
    have nk : ∀ (i : Nat) (c : Int), c ∈ L → ¬ ntd σ (k + 1) q (i : Int) → ¬ ntd σ k c (i : Int) := fun i c hc hni z => hni (Or.inr (Or.inr ⟨L, c, ⟨b1, hL4⟩, hc, z⟩))
    refine brF (by omega) (brF (by omega) (brT (by rw [fH 26 1 (by decide)]; exact hv1') ⟨Or.inr rfl, brF (by decide) ⟨ob, ?_⟩⟩))
    rw [c9]
    refine vS_hold (hC H fH).1 c10 ⟨ob, ?_⟩
    rw [f5 (g 0 q) 6 ne36, a1]
    refine vS_hold (hC _ (fr6_tr fH f5)).1 a2 ⟨ob, ?_⟩
    rw [eH9, f9 (g 0 q) 0 ne36, c3]
    by_cases z6 : σ 46 q = 6
    · -- EITHER
      have ew : c_wh (σ 46 q) = 3 := by unfold c_wh; rw [if_neg (by omega), if_neg (by omega), if_pos z6]
      rw [ew]
      have e55 : σ 55 q = ws σ L := by
        rw [z6] at b3
        rw [b3]
        exact wfL_6 (b5 z6) hpos (by rw [← b3]; exact h1000)
      refine ⟨fun z => absurd z (by decide), fun _ => ⟨ob, L.length + 1, ?_⟩, fun z => absurd rfl z.2⟩
      rw [e3_w32_id (x := d + 1) (by omega) (by omega), f9 (g 0 q) 7 ne36, k1]
      refine vS_any (e := e) (H := H9) hF hC h0 b1 hL4 (fun c hc => ⟨hin c hc, (b2 c hc).2.2, by have := le_ws L hpos c hc; omega, by rw [b8.1 z6 c hc]; exact hok⟩) hsn z6 (by omega) ⟨hx.1, hxk⟩ ⟨by omega, hdk⟩ (fun A B c w V K eL hl hA fK hn => ⟨Or.inr rfl, hyes (ws σ A + w) ((q, x) :: V) K ?_ fK (fun i i0 i1 => ?_)⟩) (fun hA K fK hn => ⟨Or.inl rfl, hno ?_ K fK (fun i hi hni => ?_)⟩) L [] H9 (σ 51 q) rfl (fun a ha => absurd ha (List.not_mem_nil)) f90 (fun i _ _ => rfl) b1
      · obtain ⟨l1, l2, l3, l4⟩ := hl
        have hA0 := ws_0 A (fun y hy => hpos y (by rw [eL]; exact List.mem_append_left _ hy))
        have hws : ∀ (A B : List Int) (c : Int), ws σ (A ++ c :: B) = ws σ A + (σ 55 c + ws σ B) := by
          intro A
          induction A with
          | nil => intro B c; show σ 55 c + ws σ B = 0 + (σ 55 c + ws σ B); omega
          | cons b A iha => intro B c; show σ 55 b + ws σ (A ++ c :: B) = σ 55 b + ws σ A + (σ 55 c + ws σ B); rw [iha]; omega
        have hB0 := ws_0 B (fun y hy => hpos y (by rw [eL]; exact List.mem_append_right _ (List.mem_cons_of_mem _ hy)))
        refine ⟨⟨by omega, by rw [e55, eL, hws]; omega⟩, ⟨L, V, ⟨b1, hL4⟩, rfl, Or.inl ⟨z6, A, c, B, eL, by omega, by omega, by rw [show ws σ A + w - ws σ A = w by omega]; exact l2⟩⟩, fun p hp => ?_, fun w' V' w0 wl h ha => ?_⟩
        · rcases List.mem_cons.mp hp with z | z
          · rw [z]; exact Or.inr (Or.inl z6)
          · exact l3 p z
        · obtain ⟨L', V1, ⟨d1, d2⟩, eV, h⟩ := h
          have hLL : L' = L := ach_inj L' L _ d2 hL4 d1 b1
          subst hLL
          rcases h with ⟨_, A', c', B', eA', h1, h2, v⟩ | ⟨h6', _⟩
          · have a1 : afit σ (h35 H0) V1 := fun p hp => ha p (by rw [eV]; exact List.mem_cons_of_mem _ hp)
            rcases spl_int A (c :: B) A' (eL.symm.trans eA') with ⟨A2, y⟩ | ⟨A2, y⟩
            · -- c' lies in A
              have hm : c' ∈ A := by rw [y]; exact List.mem_append_right _ (List.mem_cons_self ..)
              exact hA c' hm _ V1 (by omega) h2 v a1
            · rw [y] at h1 h2 v
              cases A2 with
              | nil =>
                rw [List.append_nil] at h1 h2 v
                rw [y, List.append_nil] at eA'
                have ec : c' = c := by
                  have this : c' :: B' = c :: B := List.append_cancel_left (eA'.symm.trans eL)
                  exact (List.cons.inj this).1
                rw [ec] at v
                exact l4 _ V1 (by omega) (by omega) v a1
              | cons b A2 =>
                rw [y] at eA'
                have hb : b = c := by
                  have this := eA'.symm.trans eL
                  rw [List.append_assoc] at this
                  have this : b :: (A2 ++ c' :: B') = c :: B := List.append_cancel_left this
                  exact (List.cons.inj this).1
                rw [hws] at h1
                have h20 := ws_0 A2 (fun y hy => hpos y (by rw [eA']; exact List.mem_append_left _ (List.mem_append_right _ (List.mem_cons_of_mem _ hy))))
                rw [hb] at h1
                omega
          · exact absurd z6 h6'
      · rw [hn i i0 i1]
        show nmf σ (h35 H0) V (H9 36) i = nmf σ (h35 H0) V (nm1 σ (h35 H0) (q, x) (H 36)) i
        exact nmf_pt (n9 i i0)
      · intro w' V' w0 wl h ha
        obtain ⟨L', V1, ⟨d1, d2⟩, eV, h⟩ := h
        have hLL : L' = L := ach_inj L' L _ d2 hL4 d1 b1
        subst hLL
        rcases h with ⟨_, A', c', B', eA', h1, h2, v⟩ | ⟨h6', _⟩
        · exact hA c' (by rw [eA']; exact List.mem_append_right _ (List.mem_cons_self ..)) _ V1 (by omega) h2 v (fun p hp => ha p (by rw [eV]; exact List.mem_cons_of_mem _ hp))
        · exact absurd z6 h6'
      · rw [hn i hi (fun a ha => nk i a ha hni)]
        exact nn i hni
    · have e55 : σ 55 q = wp σ L := by
        by_cases hL : L = []
        · rw [b3, hL]; rfl
        · have h5 := (b4 hL).resolve_right z6
          rw [h5] at b3
          rw [b3]
          exact wfL_5 hpos (by rw [← b3]; exact h1000)
      -- from the children to the pattern itself
      have up : ∀ (w : Int) (V : List (Int × Int)), fitv σ (h35 H0) q (vt (h35 H0) x) → lst (fun w V => lyC (lyV σ k) σ L w (8 * x + 1) V) σ (h35 H0) (wp σ L) w V → lst (fun w V => lyV σ (k + 1) q w x V) σ (h35 H0) (σ 55 q) w ((q, x) :: V) := fun w V hf hl => by
        obtain ⟨l1, l2, l3, l4⟩ := hl
        refine ⟨by rw [e55]; exact l1, ⟨L, V, ⟨b1, hL4⟩, rfl, Or.inr ⟨z6, fun hne => (b4 hne).resolve_right z6, b6 z6, l1, l2⟩⟩, fun p hp => ?_, fun w' V' w0 wl h ha => ?_⟩
        · rcases List.mem_cons.mp hp with z | z
          · rw [z]; exact hf
          · exact l3 p z
        · obtain ⟨L', V1, ⟨d1, d2⟩, eV, h⟩ := h
          have hLL : L' = L := ach_inj L' L _ d2 hL4 d1 b1
          subst hLL
          rcases h with ⟨h6', _⟩ | ⟨_, _, _, _, v⟩
          · exact absurd h6' z6
          · exact l4 w' V1 w0 wl v (fun p hp => ha p (by rw [eV]; exact List.mem_cons_of_mem _ hp))
      by_cases z0 : σ 46 q = 0
      · have ew : c_wh (σ 46 q) = 0 := by unfold c_wh; rw [if_pos z0]
        have hL : L = [] := by
          cases L with
          | nil => rfl
          | cons b l => have := b4 (List.cons_ne_nil _ _); omega
        rw [ew]
        refine ⟨fun _ => hyes 0 [(q, x)] H9 (up 0 [] (Or.inl z0) ⟨⟨by decide, by rw [hL]; show (0 : Int) < 1; decide⟩, by rw [hL]; rfl, fun p hp => absurd hp (List.not_mem_nil), fun w' V' y1 y2 => by omega⟩) f90 (fun i i0 i1 => n9 i i0), fun z => absurd z (by decide), fun z => absurd rfl z.1⟩
      · have ew : c_wh (σ 46 q) ≠ 0 ∧ c_wh (σ 46 q) ≠ 3 := by
          unfold c_wh
          rw [if_neg z0, if_neg z6]
          split <;> decide
        have e28 : H9 28 (vt (h35 H0) x) = h35 H0 28 (vt (h35 H0) x) := by rw [f90 28 _ (by decide), h35_ne (by decide)]
        refine ⟨fun z => absurd z ew.1, fun z => absurd z ew.2, fun _ => ⟨by omega, ?_⟩⟩
        rw [e28]
        have nofit : hld σ q (h35 H0 28 (vt (h35 H0) x)) = false → nof (fun w V => lyV σ (k + 1) q w x V) σ (h35 H0) (σ 55 q) := fun hh w' V' _ _ h ha => by
          obtain ⟨L', V1, _, eV, _⟩ := h
          have := ha (q, x) (by rw [eV]; exact List.mem_cons_self ..)
          rcases this with y | y | y
          · exact z0 y
          · exact z6 y
          · have y : hld σ q (h35 H0 28 (vt (h35 H0) x)) = true := y
            rw [hh] at y
            cases y
        have wh := oks_wh hT hok
        have p20 : 0 ≤ H9 (g 0 q) 2 := by rw [f9 _ 2 ne36]; exact c5.1
        refine cK_holds (p := (q, 1)) (cx := fun _ => 1) (pn := fun _ => H9 (g 0 q) 2) (cnt := (H9 (g 0 q) 2 + 1).toNat) (hC H9 f90).2.2.2 ⟨⟨c1, c2⟩, (f9 _ 0 ne36).trans c3, (f9 _ 1 ne36).trans c4, rfl, ⟨p20, by show H9 (g 0 q) 2 < (((H9 (g 0 q) 2 + 1).toNat : Nat) : Int); omega⟩, rfl, (f9 _ 3 ne36).trans c7, (f9 _ 4 ne36).trans c8, b7, ⟨z0, z6⟩, Int.le_refl 1⟩ (fun h5 => ?_) (fun hh => brF (by decide) ⟨ob, L.length + 1, ?_⟩) (fun hh => brT rfl ⟨Or.inl rfl, hno (nofit hh) H9 f90 (fun i _ hni => nn i hni)⟩)
        · have s3 : 3 ≤ σ 47 q := (b7.2.2.2.2.2.1 h5).1
          rcases wh.2 s3 with ⟨_, z⟩ | ⟨_, z, _⟩
          · exact Or.inl z
          · exact Or.inr z
        · have hfit : fitv σ (h35 H0) q (vt (h35 H0) x) := Or.inr (Or.inr hh)
          rw [e3_w32_id (x := d + 1) (by omega) (by omega), f9 (g 0 q) 7 ne36, k1]
          refine vS_parts (y := 8 * x + 1) hF hC h0 ⟨hv0, hv1'⟩ ⟨by omega, hdk⟩ L 0 (σ 51 q) H9 (by have := b6 z6; omega) (fun j c hj => ?_) b1 f90 (fun w V K hl fK hn => brF (by decide) ⟨Or.inr rfl, hyes w ((q, x) :: V) K (up w V hfit (by
            have hl' := hl
            rw [show 8 * x + 1 + ((0 : Nat) : Int) = 8 * x + 1 by omega] at hl'
            exact hl')) fK (fun i i0 i1 => ?_)⟩) (fun hl K fK hn => brT rfl ⟨Or.inl rfl, hno ?_ K fK (fun i hi hni => ?_)⟩)
          · have hm := List.mem_of_getElem? hj
            have hne : L ≠ [] := fun y => by rw [y] at hm; exact absurd hm (List.not_mem_nil)
            have h5 := (b4 hne).resolve_right z6
            have s3 : 3 ≤ σ 47 q := (b7.2.2.2.2.2.1 h5).1
            have jl := (List.getElem?_eq_some_iff.mp hj).1
            have hlen := b9 h5 hne
            have l4 := b6 z6
            have fp : 0 ≤ h35 H0 28 (vt (h35 H0) x) ∧ a_of (σ 43) (σ 48 q) 24 (h35 H0 28 (vt (h35 H0) x)) = true := by
              have z : hld σ q (h35 H0 28 (vt (h35 H0) x)) = true := hh
              unfold hld at z
              rw [if_pos h5] at z
              have z := Bool.and_eq_true _ _ ▸ z
              exact ⟨of_decide_eq_true z.1, z.2⟩
            obtain ⟨hV, hk, hKP, e43, e45, e12, h8⟩ := id hT
            rcases wh.2 s3 with ⟨_, z⟩ | ⟨z1, z2, z3⟩
            · omega
            · have el := of_part hk.2.2.2.1 hKP (k := σ 48 q) (by omega) 24 _ z2.1 z2.2 fp.2
              have hj30 : (j : Int) < h35 H0 30 (vt (h35 H0) x) := by rw [z3, el]; omega
              obtain ⟨pt, p31⟩ := oks_part hV hok.1 z1 (i := (j : Int)) ⟨by omega, hj30⟩
              have evt : vt (h35 H0) (8 * x + 1 + ((0 : Nat) : Int) + (j : Int)) = h35 H0 132 (4 * vt (h35 H0) x + (j : Int)) := by
                rw [show 8 * x + 1 + ((0 : Nat) : Int) + (j : Int) = 8 * x + 1 + (j : Int) by omega]
                exact vt_ch _ ⟨hx.1, by
                  have : (x + 1) * 1 ≤ (x + 1) * (8 * p8 k) := Int.mul_le_mul_of_nonneg_left (by omega) (by omega)
                  omega⟩ ⟨by omega, by omega⟩
              have e47 : σ 47 c = σ 45 (4 * σ 48 q + (j : Int)) := b8.2 h5 j c hj
              refine ⟨hin c hm, (b2 c hm).2.2, sn_kid hsn (by omega) b1 hL4 hm, by have := le_wp L hpos c hm; omega, ?_, ⟨by omega, ?_⟩, ?_, ?_⟩
              · rw [evt, e47, ← e45, ← el]
                exact pt
              · have : (8 * x + 1 + ((0 : Nat) : Int) + (j : Int) + 1) * p8 k ≤ ((x + 1) * 8) * p8 k := Int.mul_le_mul_of_nonneg_right (by omega) (by omega)
                rw [Int.mul_assoc] at this
                omega
              · rw [show ((0 : Nat) : Int) + (j : Int) = (j : Int) by omega]
                rw [h35_ne (by decide)] at hj30
                exact hj30
              · rw [evt, show ((0 : Nat) : Int) + (j : Int) = (j : Int) by omega, ← p31, h35_ne (by decide)]
          · rw [hn i i0 i1]
            show nmf σ (h35 H0) V (H9 36) i = nmf σ (h35 H0) V (nm1 σ (h35 H0) (q, x) (H 36)) i
            exact nmf_pt (n9 i i0)
          · intro w' V' w0 wl h ha
            obtain ⟨L', V1, ⟨d1, d2⟩, eV, h⟩ := h
            have hLL : L' = L := ach_inj L' L _ d2 hL4 d1 b1
            subst hLL
            rcases h with ⟨h6', _⟩ | ⟨_, _, _, hw, v⟩
            · exact absurd h6' z6
            · refine hl w' V1 hw.1 hw.2 ?_ (fun p hp => ha p (by rw [eV]; exact List.mem_cons_of_mem _ hp))
              show lyC (lyV σ k) σ L' w' (8 * x + 1 + ((0 : Nat) : Int)) V1
              rw [show 8 * x + 1 + ((0 : Nat) : Int) = 8 * x + 1 by omega]
              exact v
          · rw [hn i hi (fun c hc => nk i c hc hni)]
            exact nn i hni
end FTC
