/-- counts of branches are small -/
theorem gr_cnt {σ : e3_H} {m : Nat} {R : a_RW} {way : Int} (hR : R.length ≤ 40) (hm : m ≤ 24) : ∀ (k : Nat) (π : a_PT) (N : List a_ND), gr σ m R way k π N → ∀ d, d ∈ N → d.2.2.2.1 ≤ 1000 := by
  intro k
  induction k with
  | zero => intro π N h; exact h.elim
  | succ k ih =>
    intro π N h
    unfold gr at h
    split at h
    · subst h
      intro d hd
      rw [List.mem_singleton] at hd
      subst hd
      show (0 : Int) ≤ 1000
      decide
    · split at h
      · rcases h with ⟨_, h⟩ | ⟨_, N1, h1, h⟩
        · subst h
          intro d hd
          rw [List.mem_singleton] at hd
          subst hd
          show (0 : Int) ≤ 1000
          decide
        · subst h
          intro d hd
          rcases List.mem_cons.mp hd with z | z
          · subst z
            show (1 : Int) ≤ 1000
            decide
          · exact ih _ _ h1 d z
      · rename_i q x _
        obtain ⟨N1, h1, h⟩ := h
        subst h
        have hl := lbs_len (σ := σ) (m := m) (R := R) (π := π) (x := x) (s := σ 47 q) hR hm
        intro d hd
        rcases List.mem_cons.mp hd with z | z
        · subst z
          show (((lbs σ m R π x (σ 47 q)).length : Nat) : Int) ≤ 1000
          omega
        · have key : ∀ (l : List (Int × Int)) (N1 : List a_ND), grs (gr σ m R way k) π x l N1 → ∀ d, d ∈ N1 → d.2.2.2.1 ≤ 1000 := by
            intro l
            induction l with
            | nil => intro N1 h1 d hd; have h1 : N1 = [] := h1; subst h1; exact absurd hd (List.not_mem_nil)
            | cons e l ihl =>
              intro N1 h1 d hd
              obtain ⟨A, B, e1, a, b⟩ := h1
              subst e1
              rcases List.mem_append.mp hd with y | y
              · exact ih _ _ a d y
              · exact ihl B b d y
          exact key _ _ h1 d z
/-- what stays true of a text in the abstract, whatever trees there are -/
def PXc (σ : e3_H) (m nf : Nat) (Vs : Int → Int → Int → List (Int × Int)) (mr0 : Nat → Nat) : Prop := F_inv σ m nf ∧ (WF σ nf ∧ NZ σ nf) ∧ RWS σ nf ∧ VS σ nf Vs ∧ KP σ m ∧ σ 40 16 ≤ 1700 ∧ ∀ f : Nat, f < nf → σ 70 f = (mr0 f : Int) ∧ RM σ f (mr0 f) (Vs f)
theorem PX_c {σ : e3_H} {m nf : Nat} {Vs : Int → Int → Int → List (Int × Int)} {mr0 kk : Nat → Nat} {N : Nat → List a_ND} (h : PX σ m nf Vs mr0 kk N) : PXc σ m nf Vs mr0 := ⟨h.1, h.2.1, h.2.2.1, h.2.2.2.1, h.2.2.2.2.1, h.2.2.2.2.2.1, fun f hf => ⟨(h.2.2.2.2.2.2 f hf).1, (h.2.2.2.2.2.2 f hf).2.1⟩⟩
def NCt (N : List a_ND) : Prop := N.length ≤ 120 ∧ ∀ d, d ∈ N → d.2.2.2.1 ≤ 1000
/-- a drawn tree has the shape of a tree -/
theorem zTR_of {t : Int} {cx : Int → Int} {cnt : Nat} {N : List a_ND} {H : e3_H} {G : e3_G} (h : TRE t H G) (h0 : H t 0 = (N.length : Int)) (hT : TC t cx cnt 0 N H) (hN : NCt N) : zTR t H G := by
  refine ⟨h, by rw [h0]; have := hN.1; omega, fun n n0 n1 => ?_⟩
  have hl : n.toNat < N.length := by omega
  obtain ⟨_, _, _, h4, _⟩ := hT n.toNat _ (List.getElem?_eq_getElem hl)
  rw [show (0 : Int) + (n.toNat : Int) = n by omega] at h4
  rw [h4]
  exact hN.2 _ (List.getElem_mem hl)
section CDW
variable {Q : Int → e3_H → e3_G → Prop} {σ g H : e3_H} {G : e3_G} {m nf : Nat} {Vs : Int → Int → Int → List (Int × Int)} {mr0 : Nat → Nat} {way km : Nat → Int} {N : Nat → List a_ND} {f kk M : Nat} {w : Int} {N' : List a_ND} {π : a_PT}
/-- a text that is held, behind the drawing of a tree -/
theorem TX_D {K : e3_H} {G2 : e3_G} (h : TX σ g m nf Vs way km N H G) (hD : D2 H G K G2) (hT : TS nf K G2) (e : ∀ f : Nat, f < nf → K (K 15 f) 10 = H (H 15 f) 10 ∧ ∀ a x : Int, H (H 15 f) 10 ≤ a → a ≤ H (H 15 f) 10 + 6 → K a x = H a x) : TX σ g m nf Vs way km N K G2 := by
  obtain ⟨h1, h2, h3, h4, h5, h6⟩ := h
  exact ⟨by rw [hD.2.2 14 3 (by decide)]; exact h1, ckd_eq h2 (fun a k ha => hD.2.2 a k (by omega)), fun f hf => FY_D (h3 f hf) hD, hT, CT_3 h5 (D2_D3 hD), fun f hf => TDf_keep (h6 f hf) (FY_fu (h3 f hf)).2 hD (e f hf).1 (e f hf).2⟩
theorem cP_drc (hP : PXc σ m nf Vs mr0) (hX : TX σ g m nf Vs way km N H G) (hM : MKR H G) (h8 : C8 nf H) (hf : f < nf) (hπ : ∀ e, e ∈ π → e.1 = 0) (hSP : SP σ m (RR σ f (Vs f) false (mr0 f)) π) (hgr : gr σ m (RR σ f (Vs f) false (mr0 f)) w kk π N') (hMK : MK (RR σ f (Vs f) false (mr0 f)) (fun v => lv σ v π) M)
    (hok : N'.length ≤ 120 → ∀ (K : e3_H) (G2 : e3_G), D2 H G K G2 → TX σ g m nf Vs way km N K G2 → TS nf K G2 → (∃ (cx : Int → Int) (cnt : Nat), H (H 15 f) 7 = (cnt : Int) ∧ c_pl H G (H 15 f) cx ∧ K (K 16 1) 0 = (N'.length : Int) ∧ K (K 16 1) 2 = w ∧ K (K 16 1) 3 = (m : Int) ∧ TC (K 16 1) cx cnt 0 N' K) → zTR (K 16 1) K G2 → gz G2 ≤ gz G + 818 → Q 1 K G2)
    (hbad : 120 < N'.length → ∀ (K : e3_H) (G2 : e3_G), D2 H G K G2 → TX σ g m nf Vs way km N K G2 → TS nf K G2 → gz G2 ≤ gz G + 818 → Q 0 K G2) : wD_draw Q (H 15 f) w (M : Int) H G := by
  obtain ⟨p1, ⟨p2, p3⟩, p4, p5, p6, p7, p8⟩ := id hP
  obtain ⟨x1, x2, x3, x4, x5, x6⟩ := id hX
  obtain ⟨m1, m2, m3, ⟨kl, m4⟩, m5⟩ := id hM
  have hki := p1.2.2.2.2.1
  have hfu : ∀ f : Nat, f < nf → g_at G (H 15 f) (108, 11) := fun f hf => (FY_fu (x3 f hf)).2
  obtain ⟨cx, pn, cnt, mr, y1, y2, hDX⟩ := DX_of (x3 f hf) ⟨x2, hki⟩
  have hmr : mr = mr0 f := by have := (p8 f hf).1; omega
  subst hmr
  have hcn : cnt ≤ 100000 := hDX.2.2.2.2.1.2.1
  have hc8 := h8 f hf
  have hln : e3_ln G (H 16 4) = (kl : Int) := ga_ln m4.1.2
  have hc : 16 ≤ cnt ∨ (cnt : Int) ≤ e3_ln G (H 16 4) := by have := m4.2.1.1; omega
  have h74 : ∀ k : Nat, (k : Int) < σ 70 f → 0 ≤ σ 74 (16 * (f : Int) + k) := fun k hk => by
    obtain ⟨cx, pn, cnt, mm, A, B, ⟨_, _, _, _, _, b9, _⟩, h2, _⟩ := x3 f hf
    exact (b9 k (by omega)).2.1
  have hr := RT_of (un := false) p1 p2 p5 hf h74 (mr0 f) (by omega)
  have hR40 : (RR σ f (Vs f) false (mr0 f)).length ≤ 40 := hDX.2.2.1.2
  have hgz : ∀ (K : e3_H) (G2 : e3_G), DR (H 16 1) H G K G2 cnt → gz G2 ≤ gz G + 818 := fun K G2 r1 => by
    rcases r1.2.2.1 with z | z
    · rw [z.1]; omega
    · rw [z.1, gz_app]
      have : gz [(1, cnt)] = (cnt : Int) + 12 := by show (cnt : Int) + 12 + 0 = _; omega
      omega
  refine cD_draw (f := f) m2 m1 hDX rfl m3 m4 (fun v hv => (hr v hv).1) p6 (fun v hv p hp => (hr v hv).2.1 p hp) (fun v hv => (hr v hv).2.2.1) hπ hSP hgr hMK (fun hn K2 G2 r1 r2 r3 r4 r5 => ?_) (fun hn K2 G2 r1 => ?_)
  · have dd := DR_D2 m1 m2 m3 m4 r1
    obtain ⟨s1, s2, s3, s4⟩ := TS_DR m1 m2 hfu x4 hc hcn r1
    refine hok hn K2 G2 dd (TX_D hX dd s1 s4) s1 ⟨cx, cnt, y2, hDX.2.2.2.2.1.2.2, ?_, ?_, ?_, ?_⟩ ?_ (hgz K2 G2 r1)
    · rw [s2]; exact r2
    · rw [s2]; exact r3
    · rw [s2, r4]; exact x2.1
    · rw [s2]; exact r5
    · refine zTR_of (N := N') s1.1 (by rw [s2]; exact r2) (by rw [s2]; exact r5) ⟨hn, gr_cnt hR40 hki.2.1 _ _ _ hgr⟩
  · have dd := DR_D2 m1 m2 m3 m4 r1
    obtain ⟨s1, s2, s3, s4⟩ := TS_DR m1 m2 hfu x4 hc hcn r1
    exact hbad hn K2 G2 dd (TX_D hX dd s1 s4) s1 (hgz K2 G2 r1)
end CDW
