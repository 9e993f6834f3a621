section RTO
variable {σ : e3_H} {hi : Int} {m : Nat}
/-- codes and SORTS of what is visited -/
theorem lyC_47 {k : Nat} (hR : ∀ c w x V, lyV σ k c w x V → wt σ k hi c → 0 ≤ c → 0 ≤ x → σ 47 c < 3 + m → ∀ p, p ∈ V → x ≤ p.2 ∧ σ 47 p.1 < 3 + m) : ∀ (L : List Int) (w x : Int) (V : List (Int × Int)), lyC (lyV σ k) σ L w x V → (∀ c, c ∈ L → wt σ k hi c ∧ 0 ≤ c ∧ σ 47 c < 3 + m) → 0 ≤ x → ∀ p, p ∈ V → x ≤ p.2 ∧ σ 47 p.1 < 3 + m := by
  intro L
  induction L with
  | nil => intro w x V h _ _ p hp; have h : V = [] := h; rw [h] at hp; exact absurd hp (List.not_mem_nil)
  | cons d l ih =>
    intro w x V h hw hx p hp
    obtain ⟨V1, V2, e, v1, v2⟩ := h
    rw [e] at hp
    have hd := hw d (List.mem_cons_self ..)
    rcases List.mem_append.mp hp with z | z
    · exact hR d _ x V1 v1 hd.1 hd.2.1 hx hd.2.2 p z
    · have := ih _ (x + 1) V2 v2 (fun c hc => hw c (List.mem_cons_of_mem _ hc)) (by omega) p z
      exact ⟨by omega, this.2⟩
theorem lyV_47 (hk : k_inv σ m) : ∀ (k : Nat) (q w x : Int) (V : List (Int × Int)), lyV σ k q w x V → wt σ k hi q → 0 ≤ q → 0 ≤ x → σ 47 q < 3 + m → ∀ p, p ∈ V → x ≤ p.2 ∧ σ 47 p.1 < 3 + m := by
  intro k
  induction k with
  | zero => intro q w x V h; exact h.elim
  | succ k ih =>
    intro q w x V h ht hq hx h47 p hp
    obtain ⟨L, V1, ⟨a1, a2⟩, e, h⟩ := h
    obtain ⟨L2, b1, b2, b3, b4, b5, b6, b7, b8, b9⟩ := ht
    have e1 : ∀ y, y ∈ L2 → y ≠ -4 := fun y hy => by have := (b2 y hy).1; omega
    have hLL : L = L2 := ach_inj L L2 _ a2 e1 a1 b1
    subst hLL
    rw [e] at hp
    rcases List.mem_cons.mp hp with z | z
    · rw [z]; exact ⟨Int.le_refl _, h47⟩
    · rcases h with ⟨h6, A, c, B, eA, _, _, v⟩ | ⟨h6, h5, hl, _, v⟩
      · have hm : c ∈ L := by rw [eA]; exact List.mem_append_right _ (List.mem_cons_self ..)
        exact ih c _ x V1 v (b2 c hm).2.2 (by have := (b2 c hm).1; omega) hx (by rw [b8.1 h6 c hm]; exact h47) p z
      · have hne : L ≠ [] := fun y => by
          rw [y] at v
          have v : V1 = [] := v
          rw [v] at z
          exact absurd z (List.not_mem_nil)
        have h5 := h5 hne
        have n5 := b7.2.2.2.2.2.1 h5
        have hk10 := hk.1
        have hlen := b9 h5 hne
        have := lyC_47 (k := k) (hi := hi) (m := m) (fun c w x V v1 v2 v3 v4 v5 => ih c w x V v1 v2 v3 v4 v5) L w (8 * x + 1) V1 v (fun c hc => ⟨(b2 c hc).2.2, by have := (b2 c hc).1; omega, by
          obtain ⟨i, hi⟩ := List.getElem?_of_mem hc
          have hil : i < L.length := (List.getElem?_eq_some_iff.mp hi).1
          rw [b8.2 h5 i c hi]
          have := (hk.2.2.2.2 (σ 48 q).toNat (by omega)).2.2 i (by rw [Int.toNat_of_nonneg n5.2.1]; omega)
          rw [Int.toNat_of_nonneg n5.2.1] at this
          exact this.2⟩) (by omega) p z
        exact ⟨by omega, this.2⟩
end RTO
/-- the rows of a text keep to SORTS -/
theorem RT_of {σ : e3_H} {m nf : Nat} {f : Nat} {Vs : Int → Int → Int → List (Int × Int)} {un : Bool} (hF : F_inv σ m nf) (hW : WF σ nf) (hV : VS σ nf Vs) (hf : f < nf) (h74 : ∀ k : Nat, (k : Int) < σ 70 f → 0 ≤ σ 74 (16 * (f : Int) + k)) : ∀ mr : Nat, (mr : Int) ≤ σ 70 f → ∀ w, w ∈ RR σ f (Vs f) un mr → (w.2.Pairwise (fun a b => a.2 ≠ b.2) ∧ TYR σ f w.2 ∧ ∀ p, p ∈ w.2 → nod σ p.1 ∧ (σ 46 p.1 ≠ 0 ∧ σ 46 p.1 ≠ 6) ∧ 1 ≤ p.2) ∧ (∀ p, p ∈ w.2 → σ 47 p.1 ≤ 100) ∧ (0 ≤ w.1 ∧ w.1 < 192) := by
  intro mr hmr w hw
  have F1 := hF.2.2.2.1 f (by omega) (by omega)
  have hki := hF.2.2.2.2.1
  have h12 := hF.2.1
  have h70 := F1.2.2.1
  have key : ∀ mr : Nat, (mr : Int) ≤ σ 70 f → ∀ e, e ∈ rls σ f (Vs f) un mr → ∃ (k : Nat) (v : Int), (k : Int) < σ 70 f ∧ (0 ≤ v ∧ v < σ 74 (16 * (f : Int) + k)) ∧ e = (16 * (f : Int) + k, v, Vs f k v) := by
    intro mr
    induction mr with
    | zero => intro _ e he; exact absurd he (List.not_mem_nil)
    | succ mr ih =>
      intro hmr e he
      have he : e ∈ rls σ f (Vs f) un mr ++ (if un = true ∧ σ 78 (16 * (f : Int) + mr) ≠ 0 then [] else rlr f mr (Vs f) (σ 74 (16 * (f : Int) + mr)).toNat) := he
      rcases List.mem_append.mp he with z | z
      · exact ih (by omega) e z
      · split at z
        · exact absurd z (List.not_mem_nil)
        · unfold rlr at z
          obtain ⟨v, v1, v2⟩ := List.mem_map.mp z
          rw [List.mem_range] at v1
          exact ⟨mr, v, by omega, ⟨by omega, by omega⟩, v2.symm⟩
  unfold RR at hw
  obtain ⟨e, e1, e2⟩ := List.mem_map.mp hw
  obtain ⟨k, v, k1, k2, k3⟩ := key mr hmr e e1
  subst k3
  rw [← e2]
  obtain ⟨lo, l0, L, l1, l2, l3, l4, l5⟩ := hW f (by omega) (by omega) k (by omega) k1
  have hn : ∀ c, c ∈ L → c ≠ -4 := fun c hc => by have := (l3 c hc).1; omega
  have hly := hV f k v (by omega) (by omega) (by omega) k1 k2.1 k2.2 L l2 hn
  have hL3 : L.length ≤ 4 := by have := F1.1.1; omega
  have hwt : ∀ c, c ∈ L → wt σ 6 (σ 40 16) c ∧ 0 ≤ c := fun c hc => ⟨(l3 c hc).2.2, by have := (l3 c hc).1; omega⟩
  have hr : (16 * (f : Int) + k) / 16 = f := by omega
  have h47 := lyC_47 (k := 6) (hi := σ 40 16) (m := m) (fun c w x V v1 v2 v3 v4 v5 => lyV_47 hki 6 c w x V v1 v2 v3 v4 v5) L v 1 (Vs f k v) hly (fun c hc => ⟨(hwt c hc).1, (hwt c hc).2, by
    obtain ⟨i, hi⟩ := List.getElem?_of_mem hc
    have hil : i < L.length := (List.getElem?_eq_some_iff.mp hi).1
    rw [l5 i c hi, hr]
    exact (F1.1.2 i (by have := F1.1.1; omega)).2⟩) (by omega)
  refine ⟨⟨tl_PW (rule_PW hL3 hly), TYR_of hL3 hr hly hwt l5, fun p hp => ?_⟩, fun p hp => ?_, by show 0 ≤ 16 * (f : Int) + k ∧ 16 * (f : Int) + k < 192; omega⟩
  · have hp2 := tl_mem.mp hp
    exact ⟨lyC_nod (k := 6) (hi := σ 40 16) (fun c w x V v1 v2 v3 => lyV_nod 6 c w x V v1 v2 v3) L v 1 (Vs f k v) hly hwt p hp2.1, hp2.2, (h47 p hp2.1).1⟩
  · have hp2 := tl_mem.mp hp
    have := (h47 p hp2.1).2
    have := hki.2.1
    omega
/-- every tree is there -/
def psd (r : Int) : a_PT → Bool
  | [] => false
  | e :: π => (decide (e.1 = 0) && decide (e.2.1 = r)) || psd r π
def mu (π : a_PT) : a_RW → Nat
  | [] => 0
  | w :: R => (w.2.filter (fun p => (kn π p.2).isNone)).length + (if psd w.1 π = true then 0 else 1) + mu π R
theorem mu_le {π : a_PT} {e : Int × Int × Int} : ∀ R : a_RW, mu (e :: π) R ≤ mu π R := by
  intro R
  induction R with
  | nil => exact Nat.le_refl _
  | cons w R ih =>
    have h1 : (w.2.filter (fun p => (kn (e :: π) p.2).isNone)).length ≤ (w.2.filter (fun p => (kn π p.2).isNone)).length := by
      induction w.2 with
      | nil => exact Nat.le_refl _
      | cons p T ihT =>
        rw [List.filter_cons, List.filter_cons]
        have hk : (kn (e :: π) p.2).isNone = true → (kn π p.2).isNone = true := fun h => by
          unfold kn at h
          split at h
          · cases h
          · exact h
        by_cases hz : (kn (e :: π) p.2).isNone = true
        · rw [if_pos hz, if_pos (hk hz), List.length_cons, List.length_cons]; omega
        · rw [if_neg hz]
          split
          · rw [List.length_cons]; omega
          · exact ihT
    have h2 : (if psd w.1 (e :: π) = true then 0 else 1) ≤ (if psd w.1 π = true then 0 else 1) := by
      by_cases hz : psd w.1 π = true
      · have : psd w.1 (e :: π) = true := by show ((decide (e.1 = 0) && decide (e.2.1 = w.1)) || psd w.1 π) = true; rw [hz, Bool.or_true]
        rw [if_pos hz, if_pos this]
        exact Nat.le_refl _
      · rw [if_neg hz]
        split <;> omega
    show (w.2.filter (fun p => (kn (e :: π) p.2).isNone)).length + (if psd w.1 (e :: π) = true then 0 else 1) + mu (e :: π) R ≤ _
    show _ ≤ (w.2.filter (fun p => (kn π p.2).isNone)).length + (if psd w.1 π = true then 0 else 1) + mu π R
    omega
theorem mu_lt {π : a_PT} {e : Int × Int × Int} {v : Int × List (Int × Int)} (h : (e.1 = 0 ∧ e.2.1 = v.1 ∧ psd v.1 π = false) ∨ (∃ q, (q, e.1) ∈ v.2 ∧ kn π e.1 = none)) : ∀ R : a_RW, v ∈ R → mu (e :: π) R < mu π R := by
  intro R
  induction R with
  | nil => intro hv; exact absurd hv (List.not_mem_nil)
  | cons w R ih =>
    intro hv
    have hle := mu_le (π := π) (e := e) [w]
    have hleR := mu_le (π := π) (e := e) R
    have e1 : mu (e :: π) [w] = (w.2.filter (fun p => (kn (e :: π) p.2).isNone)).length + (if psd w.1 (e :: π) = true then 0 else 1) := rfl
    have e2 : mu π [w] = (w.2.filter (fun p => (kn π p.2).isNone)).length + (if psd w.1 π = true then 0 else 1) := rfl
    show (w.2.filter (fun p => (kn (e :: π) p.2).isNone)).length + (if psd w.1 (e :: π) = true then 0 else 1) + mu (e :: π) R < (w.2.filter (fun p => (kn π p.2).isNone)).length + (if psd w.1 π = true then 0 else 1) + mu π R
    rcases List.mem_cons.mp hv with z | z
    · subst z
      have fle : ∀ T : List (Int × Int), (T.filter (fun p => (kn (e :: π) p.2).isNone)).length ≤ (T.filter (fun p => (kn π p.2).isNone)).length := fun T => by
        have := mu_le (π := π) (e := e) [(0, T)]
        induction T with
        | nil => exact Nat.le_refl _
        | cons p T ihT =>
          rw [List.filter_cons, List.filter_cons]
          have hk : (kn (e :: π) p.2).isNone = true → (kn π p.2).isNone = true := fun h => by
            unfold kn at h
            split at h
            · cases h
            · exact h
          have iT := ihT (mu_le [(0, T)])
          by_cases hz : (kn (e :: π) p.2).isNone = true
          · rw [if_pos hz, if_pos (hk hz), List.length_cons, List.length_cons]; omega
          · rw [if_neg hz]
            split
            · rw [List.length_cons]; omega
            · exact iT
      rcases h with ⟨h1, h2, h3⟩ | ⟨q, h1, h2⟩
      · have : psd v.1 (e :: π) = true := by show ((decide (e.1 = 0) && decide (e.2.1 = v.1)) || psd v.1 π) = true; rw [decide_eq_true h1, decide_eq_true h2]; rfl
        rw [this, h3, if_pos rfl, if_neg (by decide)]
        have := fle v.2
        omega
      · have flt : ∀ T : List (Int × Int), (q, e.1) ∈ T → (T.filter (fun p => (kn (e :: π) p.2).isNone)).length < (T.filter (fun p => (kn π p.2).isNone)).length := fun T hq => by
          obtain ⟨A, B, eT⟩ := List.append_of_mem hq
          rw [eT, List.filter_append, List.filter_append, List.filter_cons, List.filter_cons, List.length_append, List.length_append]
          have k1 : (kn (e :: π) e.1).isNone = false := by unfold kn; rw [if_pos rfl]; rfl
          have k2 : (kn π e.1).isNone = true := by rw [h2]; rfl
          rw [if_neg (by show ¬ ((kn (e :: π) e.1).isNone = true); rw [k1]; decide), if_pos (by show (kn π e.1).isNone = true; exact k2), List.length_cons]
          have := fle A
          have := fle B
          omega
        have := flt v.2 h1
        have h2' : (if psd v.1 (e :: π) = true then 0 else 1) ≤ (if psd v.1 π = true then 0 else 1) := by
          by_cases hz : psd v.1 π = true
          · have : psd v.1 (e :: π) = true := by show ((decide (e.1 = 0) && decide (e.2.1 = v.1)) || psd v.1 π) = true; rw [hz, Bool.or_true]
            rw [if_pos hz, if_pos this]
            exact Nat.le_refl _
          · rw [if_neg hz]
            split <;> omega
        omega
    · have := ih z
      omega
theorem lv_psd {σ : e3_H} {w : Int × List (Int × Int)} : ∀ π : a_PT, lv σ w π = true → psd w.1 π = false := by
  intro π
  induction π with
  | nil => intro _; rfl
  | cons e π ih =>
    intro h
    have h : (lv σ w π && ok1 σ w e) = true := h
    rw [Bool.and_eq_true] at h
    show ((decide (e.1 = 0) && decide (e.2.1 = w.1)) || psd w.1 π) = false
    rw [ih h.1, Bool.or_false]
    by_cases h0 : e.1 = 0
    · have h2 := h.2
      unfold ok1 at h2
      rw [if_pos h0] at h2
      have := of_decide_eq_true h2
      have e1 : decide (e.2.1 = w.1) = false := decide_eq_false (fun z => this z.symm)
      rw [e1, Bool.and_false]
    · rw [decide_eq_false h0, Bool.false_and]
theorem gr_mono {σ : e3_H} {m : Nat} {R : a_RW} {way : Int} : ∀ (k : Nat) (π : a_PT) (N : List a_ND), gr σ m R way k π N → gr σ m R way (k + 1) π N := by
  intro k
  induction k with
  | zero => intro π N h; exact h.elim
  | succ k ih =>
    intro π N h
    unfold gr at h ⊢
    split
    · rename_i hf
      rw [hf] at h
      exact h
    · rename_i i r T hf
      rw [hf] at h
      simp only at h
      split
      · rename_i hc
        rw [hc] at h
        rcases h with h | ⟨h1, N1, h2, h3⟩
        · exact Or.inl h
        · exact Or.inr ⟨h1, N1, ih _ _ h2, h3⟩
      · rename_i q x hc
        rw [hc] at h
        obtain ⟨N1, h1, h2⟩ := h
        refine ⟨N1, ?_, h2⟩
        have key : ∀ (l : List (Int × Int)) (N1 : List a_ND), grs (gr σ m R way k) π x l N1 → grs (gr σ m R way (k + 1)) π x l N1 := by
          intro l
          induction l with
          | nil => intro N1 h; exact h
          | cons e l ihl =>
            intro N1 h
            obtain ⟨A, B, e1, a, b⟩ := h
            exact ⟨A, B, e1, ih _ _ a, ihl B b⟩
        exact key _ _ h1
theorem gr_mono2 {σ : e3_H} {m : Nat} {R : a_RW} {way : Int} {k : Nat} {π : a_PT} {N : List a_ND} (h : gr σ m R way k π N) : ∀ d : Nat, gr σ m R way (k + d) π N := by
  intro d
  induction d with
  | zero => exact h
  | succ d ih => exact gr_mono _ _ _ ih
theorem gr_ex {σ : e3_H} {m : Nat} {R : a_RW} {way : Int} : ∀ (n : Nat) (π : a_PT), mu π R ≤ n → ∃ (k : Nat) (N : List a_ND), gr σ m R way k π N := by
  intro n
  induction n with
  | zero =>
    intro π hmu
    refine ⟨1, ?_⟩
    unfold gr
    cases hf : fst σ π R 0 with
    | none => exact ⟨_, rfl⟩
    | some v =>
      exfalso
      obtain ⟨i, w⟩ := v
      obtain ⟨j, _, hj, hl, _⟩ := fst_some R 0 i w hf
      have := mu_lt (π := π) (e := (0, w.1, w.1)) (v := w) (Or.inl ⟨rfl, rfl, lv_psd π hl⟩) R (List.mem_of_getElem? hj)
      omega
  | succ n ih =>
    intro π hmu
    cases hf : fst σ π R 0 with
    | none =>
      refine ⟨1, [(0, -1, -1, 0, lab π, 1)], ?_⟩
      unfold gr
      rw [hf]
    | some v =>
      obtain ⟨i, r, T⟩ := v
      obtain ⟨j, _, hj, hl, _⟩ := fst_some R 0 i (r, T) hf
      have hmem := List.mem_of_getElem? hj
      cases hc : cho σ m R π way T 0 none 0 with
      | none =>
        by_cases h78 : σ 78 r = 0
        · refine ⟨1, [(1, (i : Int), -1, 0, lab π, 1)], ?_⟩
          unfold gr
          rw [hf]
          simp only [hc]
          exact Or.inl ⟨h78, trivial⟩
        · have := mu_lt (π := π) (e := (0, r, r)) (v := (r, T)) (Or.inl ⟨rfl, rfl, lv_psd π hl⟩) R hmem
          obtain ⟨k, N1, h1⟩ := ih ((0, r, r) :: π) (by omega)
          refine ⟨k + 1, (2, (i : Int), -1, 1, lab π, 1 + (N1.length : Int)) :: N1, ?_⟩
          unfold gr
          rw [hf]
          simp only [hc]
          exact Or.inr ⟨h78, N1, h1, rfl⟩
      | some p =>
        obtain ⟨q, x⟩ := p
        have hqx : (q, x) ∈ T ∧ ask π x = true := by
          rcases cho_some T 0 none 0 (q, x) hc with z | z
          · cases z
          · exact z
        have hkn : kn π x = none := by
          have ha := hqx.2
          unfold ask at ha
          rw [Bool.and_eq_true] at ha
          cases hk : kn π x with
          | none => rfl
          | some v => rw [hk] at ha; exact absurd ha.1 (fun z => by cases z)
        have key : ∀ l : List (Int × Int), ∃ (k : Nat) (N1 : List a_ND), grs (gr σ m R way k) π x l N1 := by
          intro l
          induction l with
          | nil => exact ⟨0, [], rfl⟩
          | cons e l ihl =>
            obtain ⟨k2, B, hB⟩ := ihl
            have := mu_lt (π := π) (e := (x, e.1, e.2)) (v := (r, T)) (Or.inr ⟨q, hqx.1, hkn⟩) R hmem
            obtain ⟨k1, A, hA⟩ := ih ((x, e.1, e.2) :: π) (by omega)
            have up : ∀ (d : Nat) (l : List (Int × Int)) (N1 : List a_ND), grs (gr σ m R way k2) π x l N1 → grs (gr σ m R way (k2 + d)) π x l N1 := by
              intro d l
              induction l with
              | nil => intro N1 h; exact h
              | cons e l ih2 =>
                intro N1 h
                obtain ⟨A, B, e1, a, b⟩ := h
                exact ⟨A, B, e1, gr_mono2 a d, ih2 B b⟩
            refine ⟨k1 + k2, A ++ B, A, B, rfl, gr_mono2 hA k2, ?_⟩
            rw [Nat.add_comm]
            exact up k1 l B hB
        obtain ⟨k, N1, h1⟩ := key (lbs σ m R π x (σ 47 q))
        refine ⟨k + 1, (ndo (σ 47 q), -1, x, ((lbs σ m R π x (σ 47 q)).length : Int), lab π, 1 + (N1.length : Int)) :: N1, ?_⟩
        unfold gr
        rw [hf]
        simp only [hc]
        exact ⟨N1, h1, rfl⟩
