def rwl (σ : e3_H) (RL : List (Int × Int × List (Int × Int))) : a_RW := RL.map (fun e => (e.1, tl σ e.2.2))
theorem M_rows_eq {σ H K : e3_H} {RL : List (Int × Int × List (Int × Int))} (h : M_rows σ H RL) (e : ∀ a x : Int, (86 ≤ a ∧ a ≤ 91) ∨ (a = 40 ∧ (x = 61 ∨ x = 65)) → K a x = H a x) : M_rows σ K RL := by
  obtain ⟨h1, h2, h3, h4, h5⟩ := h
  refine ⟨by rw [e _ _ (by omega)]; exact h1, by rw [e _ _ (by omega)]; exact h2, by rw [e _ _ (by omega), e _ _ (by omega)]; exact h3, by rw [e _ _ (by omega)]; exact h4, fun i d hd => ?_⟩
  obtain ⟨a1, a2, a3, a4, a5⟩ := h5 i d hd
  refine ⟨by rw [e _ _ (by omega)]; exact a1, by rw [e _ _ (by omega)]; exact a2, by rw [e _ _ (by omega), e _ _ (by omega), e _ _ (by omega)]; exact a3, by rw [e _ _ (by omega), e _ _ (by omega)]; exact a4, fun j p hp => ?_⟩
  rw [e 88 _ (by omega), e _ _ (by omega), e _ _ (by omega), e _ _ (by omega)]
  exact a5 j p hp
/-- what laying branches reads of the rows -/
def FLG (σ : e3_H) (RL : List (Int × Int × List (Int × Int))) (π : a_PT) (x : Int) (H : e3_H) : Prop := ∀ (i : Nat) (e : Int × Int × List (Int × Int)), RL[i]? = some e → H 93 i = (if lv σ (e.1, tl σ e.2.2) π = true then 1 else 0) ∧ (lv σ (e.1, tl σ e.2.2) π = true → ∀ (j : Nat) (p : Int × Int), (tl σ e.2.2)[j]? = some p → p.2 = x → H 92 (H 88 i + j) = 0)
def ACC (σ : e3_H) (s : Int) (Qs : List Int) (H : e3_H) : Prop := if s = 0 then CUL ((cuts σ Qs []).map (· + 1)) H else BRL ((txs σ Qs []).map (fun w => (0, 0, w, 0))) H
theorem tq_snoc {x : Int} {p : Int × Int} : ∀ T : List (Int × Int), tq (T ++ [p]) x = match tq T x with
    | some q => some q
    | none => if p.2 = x then some p.1 else none := by
  intro T
  induction T with
  | nil => show (if p.2 = x then some p.1 else none) = _; rfl
  | cons a T ih =>
    show (if a.2 = x then some a.1 else tq (T ++ [p]) x) = match (if a.2 = x then some a.1 else tq T x) with
      | some q => some q
      | none => if p.2 = x then some p.1 else none
    by_cases h : a.2 = x
    · rw [if_pos h, if_pos h]
    · rw [if_neg h, if_neg h, ih]
section MB3
variable {Q : e3_H → e3_G → Prop} {σ H : e3_H} {G : e3_G} {m : Nat} {RL : List (Int × Int × List (Int × Int))} {π : a_PT}
/-- the branches at a place are laid -/
theorem cM_layBranches {x s : Int} (htb : tb σ H) (h10 : H 40 10 = (m : Int)) (hk : k_inv σ m) (hM : M_rows σ H RL) (h40 : RL.length ≤ 40) (hF : FLG σ RL π x H) (hq : ∀ e, e ∈ RL → (tl σ e.2.2).Pairwise (fun a b => a.2 ≠ b.2) ∧ ∀ p, p ∈ tl σ e.2.2 → (0 ≤ p.1 ∧ p.1 < 1700) ∧ nod σ p.1 ∧ (σ 46 p.1 ≠ 0 ∧ σ 46 p.1 ≠ 6)) (hs : 0 ≤ s ∧ s ≤ 100) (hsh : ∀ w, w ∈ rwl σ RL → lv σ w π = true → ∀ q, (q, x) ∈ w.2 → σ 47 q = s) (hQ : ∀ K, BRL ((lbs σ m (rwl σ RL) π x s).map (enc s)) K → mb H K → Q K G) : wM_layBranches Q x s H G := by
  have hm24 := hk.2.1
  intro H1 e1
  have m1 : mb H H1 := by rw [e1]; exact mb_up (mb_rf H) (Or.inr (by decide))
  have B0 : BRL [] H1 := ⟨by rw [e1, e3_up_self]; rfl, fun i e he => by cases he⟩
  refine ⟨fun h3 => ⟨fun hs1 => ?_, fun hs1 => ?_⟩, fun h3 => ?_⟩
  · have hl : lbs σ m (rwl σ RL) π x s = [(0, 0), (1, 1)] := by unfold lbs; rw [if_neg (by omega), if_pos hs1]
    rw [hl] at hQ
    have en : ∀ v : Int × Int, enc s v = (v.2, 0, 0, 0) := fun v => by unfold enc; rw [if_neg (by omega), if_pos hs1]
    refine cM_one B0 (by decide) (Or.inl rfl) (fun K k1 k2 _ => cM_one k1 (by decide) (Or.inl rfl) (fun K2 k3 k4 _ => hQ K2 ?_ (mb_tr m1 (mb_tr k2 k4))))
    show BRL [enc s (0, 0), enc s (1, 1)] K2
    rw [en, en]
    exact k3
  · have hs02 : s = 0 ∨ s = 2 := by omega
    have hlen806 := hM.2.2.2.1
    -- the rows
    have rows : ∀ (RL2 RL1 : List (Int × Int × List (Int × Int))) (K : e3_H), RL = RL1 ++ RL2 → ACC σ s (ltq σ π x (rwl σ RL1)) K → mb H K → wM_layBranches_91 Q (RL2.length + 1) x s RL1.length K G := by
      intro RL2
      induction RL2 with
      | nil =>
        intro RL1 K e hA hm
        rw [List.append_nil] at e
        subst e
        have hMK := M_rows_eq (K := K) hM (fun a y ha => by
          rcases ha with z | z
          · exact hm.1 a y (by omega) (by omega)
          · rw [z.1]; exact hm.2 y (by omega))
        have hlt := ltq_len (σ := σ) (π := π) (x := x) (rwl σ RL)
        have hrl : (rwl σ RL).length = RL.length := by unfold rwl; rw [List.length_map]
        refine brF (by rw [hMK.1]; omega) ⟨fun h2 => ?_, fun h2 => ?_⟩
        · unfold ACC at hA
          rw [if_neg (by omega)] at hA
          have htl := txs_len (σ := σ) (ltq σ π x (rwl σ RL)) []
          have e0 : ([] : List Int).length = 0 := rfl
          refine cM_one hA (by rw [List.length_map]; omega) (Or.inr rfl) (fun K2 k1 k2 _ => hQ K2 ?_ (mb_tr hm k2))
          have hl : lbs σ m (rwl σ RL) π x s = (txs σ (ltq σ π x (rwl σ RL)) []).map (fun w => (w, w)) ++ [(-1, -1)] := by unfold lbs; rw [if_neg (by omega), if_neg (by omega), if_pos h2]
          rw [hl, List.map_append, List.map_map]
          have en : ∀ w, w ∈ txs σ (ltq σ π x (rwl σ RL)) [] → (enc s ∘ fun w => (w, w)) w = (0, 0, w, 0) := fun w hw => by
            show enc s (w, w) = (0, 0, w, 0)
            unfold enc
            rw [if_neg (by omega), if_neg (by omega), if_pos h2]
            rcases txs_mem _ _ _ hw with y | ⟨q, y1, y2⟩
            · exact absurd y (List.not_mem_nil)
            · obtain ⟨w', w1, w2, w3⟩ := ltq_mem _ q y1
              obtain ⟨ee, ee1, ee2⟩ := List.mem_map.mp w1
              have w3' : (q, x) ∈ tl σ ee.2.2 := by rw [← ee2] at w3; exact w3
              obtain ⟨_, n1, n2⟩ := (hq ee ee1).2 (q, x) w3'
              have h47 := hsh w' w1 w2 q w3
              have h46 := (nod_0 n1 n2).2.2.1 (by show σ 47 q = 2; omega)
              have hne := (n1.2.2.2.1 h46).2.1
              rw [if_neg (by rw [y2]; exact hne)]
          rw [List.map_congr_left en]
          show BRL (_ ++ [enc s (-1, -1)]) K2
          have e2 : enc s (-1, -1) = (0, 0, 0, 1) := by unfold enc; rw [if_neg (by omega), if_neg (by omega), if_pos h2]; rfl
          rw [e2]
          exact k1
        · have hs0 : s = 0 := by omega
          unfold ACC at hA
          rw [if_pos hs0] at hA
          have hcl := cuts_len (σ := σ) (ltq σ π x (rwl σ RL)) []
          have e0 : ([] : List Int).length = 0 := rfl
          refine cM_parts hA (by omega) (fun c hc => ?_) (fun K2 k1 k2 => hQ K2 ?_ (mb_tr hm k2))
          · rcases cuts_mem _ _ _ hc with y | ⟨q, y1, y2⟩
            · exact absurd y (List.not_mem_nil)
            · obtain ⟨w', w1, w2, w3⟩ := ltq_mem _ q y1
              obtain ⟨ee, ee1, ee2⟩ := List.mem_map.mp w1
              have w3' : (q, x) ∈ tl σ ee.2.2 := by rw [← ee2] at w3; exact w3
              obtain ⟨_, n1, n2⟩ := (hq ee ee1).2 (q, x) w3'
              have h47 := hsh w' w1 w2 q w3
              have h46 := (nod_0 n1 n2).1 (by show σ 47 q = 0; omega)
              have hb := n1.2.1 h46
              have hb1 : -999999999 ≤ σ 48 q ∧ σ 48 q ≤ 999999999 := hb.2.1
              have hb2 : -999999999 ≤ σ 49 q ∧ σ 49 q ≤ 999999999 := hb.2.2
              omega
          · have hl : lbs σ m (rwl σ RL) π x s = pts (-2147483648) (cuts σ (ltq σ π x (rwl σ RL)) []) := by unfold lbs; rw [if_pos hs0]
            rw [hl, hs0]
            exact k1
      | cons e0 RL2 ih =>
        intro RL1 K e hA hm
        have hlen : RL.length = RL1.length + (RL2.length + 1) := by rw [e, List.length_append]; rfl
        have hget : RL[RL1.length]? = some e0 := by rw [e, List.getElem?_append_right (Nat.le_refl _), Nat.sub_self]; rfl
        have hmem : e0 ∈ RL := by rw [e]; exact List.mem_append_right _ (List.mem_cons_self ..)
        have MKof : ∀ K : e3_H, mb H K → M_rows σ K RL := fun K hm => M_rows_eq (K := K) hM (fun a y ha => by
          rcases ha with z | z
          · exact hm.1 a y (by omega) (by omega)
          · rw [z.1]; exact hm.2 y (by omega))
        have hMK := MKof K hm
        obtain ⟨r1, r2, ⟨r3, r4⟩, r5, r6⟩ := hM.2.2.2.2 RL1.length e0 hget
        obtain ⟨f1, f2⟩ := hF RL1.length e0 hget
        obtain ⟨q1, q2⟩ := hq e0 hmem
        have eapp : rwl σ (RL1 ++ [e0]) = rwl σ RL1 ++ [(e0.1, tl σ e0.2.2)] := by unfold rwl; rw [List.map_append]; rfl
        have hwm : (e0.1, tl σ e0.2.2) ∈ rwl σ RL := List.mem_map.mpr ⟨e0, hmem, rfl⟩
        have hlq := ltq_len (σ := σ) (π := π) (x := x) (rwl σ RL1)
        have hrl : (rwl σ RL1).length = RL1.length := by unfold rwl; rw [List.length_map]
        have next : ∀ K2 : e3_H, mb H K2 → ACC σ s (ltq σ π x (rwl σ (RL1 ++ [e0]))) K2 → wM_layBranches_209 Q (fun l1 l2 l3 H G => wM_layBranches_91 Q (RL2.length + 1) l1 l2 l3 H G) x s RL1.length K2 G := fun K2 m2 a2 => by
          show wM_layBranches_91 Q (RL2.length + 1) x s (e3_w32 ((RL1.length : Int) + 1)) K2 G
          rw [e3_w32_id (by omega) (by omega)]
          have := ih (RL1 ++ [e0]) K2 (by rw [List.append_assoc]; exact e) a2 m2
          rw [List.length_append] at this
          exact this
        have k88 : ∀ K2 : e3_H, mb H K2 → ∀ y : Int, K2 88 y = H 88 y := fun K2 m2 y => m2.1 88 y (by decide) (by decide)
        refine brT (by rw [hMK.1]; omega) ⟨by omega, (tl σ e0.2.2).length + 1, ?_⟩
        rw [k88 K hm]
        by_cases hlv : lv σ (e0.1, tl σ e0.2.2) π = true
        · rw [if_pos hlv] at f1
          -- the tests of a row that is possible
          have tests : ∀ (T2 T1 : List (Int × Int)) (K2 : e3_H), tl σ e0.2.2 = T1 ++ T2 → ACC σ s (ltq σ π x (rwl σ RL1) ++ (match tq T1 x with
              | none => []
              | some q => [q])) K2 → mb H K2 → wM_layBranches_107 Q (fun l1 l2 l3 H G => wM_layBranches_91 Q (RL2.length + 1) l1 l2 l3 H G) (T2.length + 1) x s RL1.length (H 88 RL1.length + T1.length) K2 G := by
            intro T2
            induction T2 with
            | nil =>
              intro T1 K2 eT hA2 hm2
              rw [List.append_nil] at eT
              refine ⟨by rw [e3_w32_id (by omega) (by omega)]; omega, brF (by rw [e3_w32_id (by omega) (by omega), k88 K2 hm2, r5, eT]; omega) (next K2 hm2 ?_)⟩
              have : ltq σ π x (rwl σ (RL1 ++ [e0])) = ltq σ π x (rwl σ RL1) ++ (match tq T1 x with
                  | none => []
                  | some q => [q]) := by
                rw [eapp, ltq_app]
                congr 1
                cases hz : tq T1 x with
                | none => rw [ltq_none (Or.inr (by show tq (tl σ e0.2.2) x = none; rw [eT]; exact hz))]
                | some q => rw [ltq_some hlv (by show tq (tl σ e0.2.2) x = some q; rw [eT]; exact hz)]
              rw [this]
              exact hA2
            | cons p T2 ihT =>
              intro T1 K2 eT hA2 hm2
              have hTl : (tl σ e0.2.2).length = T1.length + (T2.length + 1) := by rw [eT, List.length_append]; rfl
              have hp : p ∈ tl σ e0.2.2 := by rw [eT]; exact List.mem_append_right _ (List.mem_cons_self ..)
              have hpj : (tl σ e0.2.2)[T1.length]? = some p := by rw [eT, List.getElem?_append_right (Nat.le_refl _), Nat.sub_self]; rfl
              obtain ⟨p1, p2, p3⟩ := q2 p hp
              obtain ⟨g1, g2, g3⟩ := r6 T1.length p hpj
              have hb65 : H 88 ((RL1.length : Int) + 1) ≤ 33000 := by omega
              have hm806 : H 40 65 ≤ 806 * 40 := by omega
              have a90 : K2 90 (H 88 RL1.length + T1.length) = p.2 := by rw [hm2.1 90 _ (by decide) (by decide)]; exact g2
              have a91 : K2 91 (H 88 RL1.length + T1.length) = p.1 := by rw [hm2.1 91 _ (by decide) (by decide)]; exact g3
              have a93 : K2 93 RL1.length = 1 := by rw [hm2.1 93 _ (by decide) (by decide)]; exact f1
              have t2 := tb_mb htb hm2
              have bnd : 0 ≤ H 88 RL1.length + T1.length ∧ H 88 RL1.length + T1.length < 33000 := by omega
              have cont : ∀ K3 : e3_H, mb H K3 → ACC σ s (ltq σ π x (rwl σ RL1) ++ (match tq (T1 ++ [p]) x with
                  | none => []
                  | some q => [q])) K3 → wM_layBranches_203 Q (fun l1 l2 l3 H G => wM_layBranches_91 Q (RL2.length + 1) l1 l2 l3 H G) (fun l1 l2 l3 l4 H G => wM_layBranches_107 Q (fun l1 l2 l3 H G => wM_layBranches_91 Q (RL2.length + 1) l1 l2 l3 H G) (T2.length + 1) l1 l2 l3 l4 H G) x s RL1.length (H 88 RL1.length + T1.length) K3 G := fun K3 m3 a3 => by
                show wM_layBranches_107 Q _ (T2.length + 1) x s RL1.length (e3_w32 (H 88 RL1.length + T1.length + 1)) K3 G
                rw [e3_w32_id (by omega) (by omega)]
                have := ihT (T1 ++ [p]) K3 (by rw [List.append_assoc]; exact eT) a3 m3
                rw [List.length_append] at this
                rw [show H 88 RL1.length + (T1.length : Int) + 1 = H 88 RL1.length + ((T1.length + 1 : Nat) : Int) by omega]
                exact this
              refine ⟨by rw [e3_w32_id (by omega) (by omega)]; omega, brT (by rw [e3_w32_id (by omega) (by omega), k88 K2 hm2, r5]; omega) ⟨by omega, brF (by rw [a93]; decide) ⟨bnd, ?_⟩⟩⟩
              rw [a90]
              refine ⟨fun hx => ⟨bnd, ?_⟩, fun hx => cont K2 hm2 ?_⟩
              · have a92 : K2 92 (H 88 RL1.length + T1.length) = 0 := by rw [hm2.1 92 _ (by decide) (by decide)]; exact f2 hlv T1.length p hpj hx
                have hT1 : tq T1 x = none := by
                  cases hz : tq T1 x with
                  | none => rfl
                  | some q =>
                    exfalso
                    have hm1 := tq_mem _ _ _ hz
                    rw [eT] at q1
                    exact (List.pairwise_append.mp q1).2.2 (q, x) hm1 p (List.mem_cons_self ..) (by show x = p.2; exact hx.symm)
                have hsn : tq (T1 ++ [p]) x = some p.1 := by rw [tq_snoc, hT1]; show (if p.2 = x then some p.1 else none) = _; rw [if_pos hx]
                have hpx : (p.1, x) ∈ tl σ e0.2.2 := by rw [← hx]; exact hp
                have h47 := hsh _ hwm hlv p.1 hpx
                have n0 := nod_0 p2 p3
                rw [hT1] at hA2
                rw [hsn] at cont
                rw [List.append_nil] at hA2
                have hcl := cuts_len (σ := σ) (ltq σ π x (rwl σ RL1)) []
                have htl := txs_len (σ := σ) (ltq σ π x (rwl σ RL1)) []
                have e00 : ([] : List Int).length = 0 := rfl
                refine brT a92 ⟨bnd, fun h0 => ⟨by rw [a91]; exact p1, ?_⟩, fun h0 => ⟨by rw [a91]; exact p1, ?_⟩⟩
                · have h46 := n0.1 (by omega)
                  have hb := p2.2.1 h46
                  unfold ACC at hA2 cont
                  rw [if_pos h0] at hA2
                  have hst := cuts_srt (σ := σ) (ltq σ π x (rwl σ RL1)) [] List.Pairwise.nil
                  rw [a91, t2 48 p.1 (by decide) (by decide) (by decide)]
                  refine cM_cut hA2 (srt_map hst) (by rw [List.length_map]; omega) (by omega) (fun K3 k1 k2 => ⟨p1, ?_⟩)
                  have t3 := tb_mb t2 k2
                  rw [t3 49 p.1 (by decide) (by decide) (by decide), e3_w64_id (x := σ 49 p.1 + 1) (by omega) (by omega)]
                  have ek : cin (σ 48 p.1) ((cuts σ (ltq σ π x (rwl σ RL1)) []).map (· + 1)) = (cin (σ 48 p.1 - 1) (cuts σ (ltq σ π x (rwl σ RL1)) [])).map (· + 1) := by rw [cin_map, show σ 48 p.1 - 1 + 1 = σ 48 p.1 by omega]
                  rw [ek] at k1
                  have hcl2 := cin_len (c := σ 48 p.1 - 1) (cuts σ (ltq σ π x (rwl σ RL1)) [])
                  refine cM_cut k1 (srt_map (cin_srt _ hst)) (by rw [List.length_map]; omega) (by omega) (fun K4 k3 k4 => cont K4 (mb_tr hm2 (mb_tr k2 k4)) ?_)
                  rw [if_pos h0, cuts_snoc, cin_map]
                  exact k3
                · have h46 := n0.2.2.1 (by omega)
                  unfold ACC at hA2 cont
                  rw [if_neg h0] at hA2
                  rw [a91, t2 50 p.1 (by decide) (by decide) (by decide)]
                  refine cM_wants hA2 (by omega) (fun K3 k1 k2 => cont K3 (mb_tr hm2 k2) ?_)
                  rw [if_neg h0, txs_snoc]
                  exact k1
              · rw [tq_snoc]
                cases hz : tq T1 x with
                | none =>
                  rw [hz] at hA2
                  show ACC σ s (ltq σ π x (rwl σ RL1) ++ (match (if p.2 = x then some p.1 else none) with
                    | none => []
                    | some q => [q])) K2
                  rw [if_neg hx]
                  exact hA2
                | some q =>
                  rw [hz] at hA2
                  exact hA2
          have := tests (tl σ e0.2.2) [] K rfl (by show ACC σ s (ltq σ π x (rwl σ RL1) ++ []) K; rw [List.append_nil]; exact hA) hm
          rw [show H 88 RL1.length + (([] : List (Int × Int)).length : Int) = H 88 RL1.length by show _ + (0 : Int) = _; omega] at this
          exact this
        · rw [if_neg hlv] at f1
          have hlf : lv σ (e0.1, tl σ e0.2.2) π = false := by
            cases hz : lv σ (e0.1, tl σ e0.2.2) π with
            | true => exact absurd hz hlv
            | false => rfl
          have same : ACC σ s (ltq σ π x (rwl σ (RL1 ++ [e0]))) K := by
            rw [eapp, ltq_app, ltq_none (Or.inl hlf), List.append_nil]
            exact hA
          refine ⟨by rw [e3_w32_id (by omega) (by omega)]; omega, fun _ => ⟨by omega, brT (by rw [hm.1 93 _ (by decide) (by decide)]; exact f1) (next K hm same)⟩, fun _ => next K hm same⟩
    refine ⟨RL.length + 1, rows RL [] H1 rfl ?_ m1⟩
    unfold ACC
    split
    · exact ⟨by rw [e1, e3_up_self]; rfl, fun i c hc => by cases hc⟩
    · exact B0
  · have hl : lbs σ m (rwl σ RL) π x s = (-1, -1) :: lvs σ m s m := by unfold lbs; rw [if_neg (by omega), if_neg (by omega), if_neg (by omega)]
    rw [hl] at hQ
    refine cM_one B0 (by decide) (Or.inl rfl) (fun K k1 k2 _ => ⟨m + 1, cM_21 hk ⟨by omega, hs.2⟩ m 0 K (by omega) (tb_mb htb (mb_tr m1 k2)) (by rw [(mb_tr m1 k2).2 10 (by decide)]; exact h10) ?_ (fun K2 z1 z2 => hQ K2 z1 (mb_tr (mb_tr m1 k2) z2))⟩)
    have en : enc s (-1, -1) = (-4, 0, 0, 0) := by unfold enc; rw [if_neg (by omega), if_neg (by omega), if_neg (by omega)]; rfl
    show BRL [enc s (-1, -1)] K
    rw [en]
    exact k1
end MB3
