/-- a tree of the class, with its tables behind it -/
def TRE (t : Int) (H : e3_H) (G : e3_G) : Prop := (t = 17 ∨ 139 ≤ t) ∧ g_at G t (105, 10) ∧ (H t 4 = t + 1 ∧ g_at G (t + 1) (0, 120)) ∧ (H t 5 = t + 2 ∧ g_at G (t + 2) (0, 120)) ∧ (H t 6 = t + 3 ∧ g_at G (t + 3) (0, 120)) ∧ (H t 7 = t + 4 ∧ g_at G (t + 4) (0, 120)) ∧ (H t 8 = t + 5 ∧ g_at G (t + 5) (0, 120)) ∧ (H t 9 = t + 6 ∧ g_at G (t + 6) (1, 120))
theorem TRE_eq {t : Int} {H K : e3_H} {G : e3_G} (h : TRE t H G) (e : ∀ x : Int, 2 ≤ x → K t x = H t x) : TRE t K G := by
  obtain ⟨h0, h1, ⟨a1, a2⟩, ⟨b1, b2⟩, ⟨c1, c2⟩, ⟨d1, d2⟩, ⟨e1, e2⟩, ⟨f1, f2⟩⟩ := h
  exact ⟨h0, h1, ⟨by rw [e _ (by decide)]; exact a1, a2⟩, ⟨by rw [e _ (by decide)]; exact b1, b2⟩, ⟨by rw [e _ (by decide)]; exact c1, c2⟩, ⟨by rw [e _ (by decide)]; exact d1, d2⟩, ⟨by rw [e _ (by decide)]; exact e1, e2⟩, ⟨by rw [e _ (by decide)]; exact f1, f2⟩⟩
/-- changes in a tree only, from node b on -/
def TF (t : Int) (b : Nat) (H K : e3_H) : Prop := (∀ a x : Int, a ≠ t → ¬ (t + 1 ≤ a ∧ a ≤ t + 6) → K a x = H a x) ∧ (∀ x : Int, 2 ≤ x → K t x = H t x) ∧ ∀ a x : Int, t + 1 ≤ a → a ≤ t + 6 → x < b → K a x = H a x
/-- changes while a tree is drawn, from node b and label fr on -/
def GF (t : Int) (b fr : Nat) (H K : e3_H) : Prop := (∀ a x : Int, a ≠ 16 → a ≠ 25 → a ≠ t → ¬ (t + 1 ≤ a ∧ a ≤ t + 6) → K a x = H a x) ∧ (∀ x : Int, x ≠ 6 → x ≠ 7 → K 16 x = H 16 x) ∧ (∀ x : Int, x < fr → K 25 x = H 25 x) ∧ (∀ x : Int, 2 ≤ x → K t x = H t x) ∧ ∀ a x : Int, t + 1 ≤ a → a ≤ t + 6 → x < b → K a x = H a x
theorem GF_rf (t : Int) (b fr : Nat) (H : e3_H) : GF t b fr H H := ⟨fun _ _ _ _ _ _ => rfl, fun _ _ _ => rfl, fun _ _ => rfl, fun _ _ => rfl, fun _ _ _ _ _ => rfl⟩
theorem GF_tr {t : Int} {b b2 fr fr2 : Nat} {H K K2 : e3_H} (h : GF t b fr H K) (h2 : GF t b2 fr2 K K2) (hb : b ≤ b2) (hf : fr ≤ fr2) : GF t b fr H K2 := ⟨fun a x h3 h4 h5 h6 => (h2.1 a x h3 h4 h5 h6).trans (h.1 a x h3 h4 h5 h6), fun x h3 h4 => (h2.2.1 x h3 h4).trans (h.2.1 x h3 h4), fun x hx => (h2.2.2.1 x (by omega)).trans (h.2.2.1 x hx), fun x hx => (h2.2.2.2.1 x hx).trans (h.2.2.2.1 x hx), fun a x h3 h4 h5 => (h2.2.2.2.2 a x h3 h4 (by omega)).trans (h.2.2.2.2 a x h3 h4 h5)⟩
theorem GF_TF {t : Int} {b fr : Nat} {H K : e3_H} (ht : t = 17 ∨ 139 ≤ t) (h : TF t b H K) : GF t b fr H K := ⟨fun a x _ _ h5 h6 => h.1 a x h5 h6, fun x _ _ => h.1 16 x (by omega) (by omega), fun x _ => h.1 25 x (by omega) (by omega), h.2.1, h.2.2⟩
theorem GF_LF {t : Int} {b fr : Nat} {H K : e3_H} (ht : t = 17 ∨ 139 ≤ t) (h : LF fr H K) : GF t b fr H K := ⟨fun a x h1 h2 _ _ => h.1 a x h2 (fun z => h1 z.1), fun x h6 _ => h.1 16 x (by decide) (fun z => h6 z.2), h.2, fun x _ => h.1 t x (by omega) (by omega), fun a x h1 h2 _ => h.1 a x (by omega) (by omega)⟩
theorem GF_DF {t : Int} {b fr : Nat} {G : e3_G} {H K : e3_H} (hG : GB G) (hT : TRE t H G) (h : GF t b fr H K) : DF G H K := by
  obtain ⟨h0, h1, ⟨a1, a2⟩, ⟨b1, b2⟩, ⟨c1, c2⟩, ⟨d1, d2⟩, ⟨e1, e2⟩, ⟨f1, f2⟩⟩ := hT
  refine ⟨fun x y hx => h.1 x y (by omega) (by omega) (by omega) (by omega), fun x y c n hb h4 h5 h6 h7 => h.1 x y (fun z => ?_) (fun z => ?_) (fun z => ?_) (fun z => ?_)⟩
  · rw [z] at hb; have e := ga_eq hb hG.1; cases e; exact h4 rfl
  · rw [z] at hb; have e := ga_eq hb hG.2; cases e; exact h7 ⟨rfl, by decide⟩
  · rw [z] at hb; have e := ga_eq hb h1; cases e; exact h5 rfl
  · have hc : x = t + 1 ∨ x = t + 2 ∨ x = t + 3 ∨ x = t + 4 ∨ x = t + 5 ∨ x = t + 6 := by omega
    rcases hc with y | y | y | y | y | y
    · rw [y] at hb; have e := ga_eq hb a2; cases e; exact h6 ⟨rfl, rfl⟩
    · rw [y] at hb; have e := ga_eq hb b2; cases e; exact h6 ⟨rfl, rfl⟩
    · rw [y] at hb; have e := ga_eq hb c2; cases e; exact h6 ⟨rfl, rfl⟩
    · rw [y] at hb; have e := ga_eq hb d2; cases e; exact h6 ⟨rfl, rfl⟩
    · rw [y] at hb; have e := ga_eq hb e2; cases e; exact h6 ⟨rfl, rfl⟩
    · rw [y] at hb; have e := ga_eq hb f2; cases e; exact h7 ⟨rfl, by decide⟩
/-- nodes in the class, from number b on -/
def TC1 (t : Int) (cx : Int → Int) (cnt : Nat) (n : Int) (d : a_ND) (H : e3_H) : Prop := H (t + 1) n = d.1 ∧ H (t + 2) n = d.2.1 ∧ ((d.2.2.1 = -1 ∧ H (t + 3) n = -1) ∨ ((0 ≤ H (t + 3) n ∧ H (t + 3) n < cnt) ∧ cx (H (t + 3) n) = d.2.2.1)) ∧ H (t + 4) n = d.2.2.2.1 ∧ H (t + 6) n = d.2.2.2.2.1 ∧ H (t + 5) n = n + d.2.2.2.2.2
def TC (t : Int) (cx : Int → Int) (cnt : Nat) (b : Int) (N : List a_ND) (H : e3_H) : Prop := ∀ (j : Nat) (d : a_ND), N[j]? = some d → TC1 t cx cnt (b + j) d H
theorem TC1_eq {t : Int} {cx : Int → Int} {cnt : Nat} {n : Int} {d : a_ND} {H K : e3_H} (h : TC1 t cx cnt n d H) (e : ∀ a : Int, t + 1 ≤ a → a ≤ t + 6 → K a n = H a n) : TC1 t cx cnt n d K := by
  unfold TC1
  rw [e _ (by omega) (by omega), e _ (by omega) (by omega), e _ (by omega) (by omega), e _ (by omega) (by omega), e _ (by omega) (by omega), e _ (by omega) (by omega)]
  exact h
theorem TC_eq {t : Int} {cx : Int → Int} {cnt : Nat} {b : Int} {N : List a_ND} {H K : e3_H} (h : TC t cx cnt b N H) (e : ∀ a x : Int, t + 1 ≤ a → a ≤ t + 6 → x < b + N.length → K a x = H a x) : TC t cx cnt b N K := fun j d hd => TC1_eq (h j d hd) (fun a h1 h2 => e a _ h1 h2 (by have := (List.getElem?_eq_some_iff.mp hd).1; omega))
theorem TC_app {t : Int} {cx : Int → Int} {cnt : Nat} {b : Int} {N M : List a_ND} {H : e3_H} (h : TC t cx cnt b N H) (h2 : TC t cx cnt (b + N.length) M H) : TC t cx cnt b (N ++ M) H := fun j d hd => by
  by_cases hj : j < N.length
  · rw [List.getElem?_append_left hj] at hd; exact h j d hd
  · rw [List.getElem?_append_right (by omega)] at hd
    have := h2 _ d hd
    rw [show b + (N.length : Int) + ((j - N.length : Nat) : Int) = b + j by omega] at this
    exact this
theorem TC_cons {t : Int} {cx : Int → Int} {cnt : Nat} {b : Int} {d : a_ND} {M : List a_ND} {H : e3_H} (h : TC1 t cx cnt b d H) (h2 : TC t cx cnt (b + 1) M H) : TC t cx cnt b (d :: M) H := fun j e he => by
  cases j with
  | zero => have he : some d = some e := he; cases he; rw [show b + ((0 : Nat) : Int) = b by omega]; exact h
  | succ j => have he : M[j]? = some e := he; have := h2 j e he; rw [show b + 1 + (j : Int) = b + ((j + 1 : Nat) : Int) by omega] at this; exact this
section CTR
variable {t : Int} {H : e3_H} {G : e3_G} {b : Nat}
theorem cE_begin {Q : Int → e3_H → e3_G → Prop} {la lev : Int} (hT : TRE t H G) (h0 : H t 0 = (b : Int)) (hb : b < 120) (hQ : ∀ K, TF t b H K → K t 0 = (b : Int) + 1 → K (t + 1) b = 0 → K (t + 2) b = -1 → K (t + 3) b = -1 → K (t + 4) b = 0 → K (t + 6) b = la → Q b K G) : wE_begin Q t la lev H G := by
  obtain ⟨ht, h1, ⟨a1, a2⟩, ⟨b1, b2⟩, ⟨c1, c2⟩, ⟨d1, d2⟩, ⟨e1, e2⟩, ⟨f1, f2⟩⟩ := hT
  have ob := ga_ob (c := 5) h1
  unfold wE_begin
  rw [h0, a1]
  refine ⟨ob, brT (by omega) ⟨ob, ob, ga_oa a2 (by omega) ⟨by omega, by omega⟩, ?_⟩⟩
  intro H2 x2
  have k2 : ∀ x : Int, H2 t x = H t x := fun x => by rw [x2, e3_up_ne (ne_1 (by omega))]
  rw [k2, b1]
  refine ⟨ob, ga_oa b2 (by omega) ⟨by omega, by omega⟩, ?_⟩
  intro H6 x6
  have k6 : ∀ x : Int, H6 t x = H t x := fun x => by rw [x6, e3_up_ne (ne_1 (by omega))]; exact k2 x
  rw [k6, c1]
  refine ⟨ob, ga_oa c2 (by omega) ⟨by omega, by omega⟩, ?_⟩
  intro H9 x9
  have k9 : ∀ x : Int, H9 t x = H t x := fun x => by rw [x9, e3_up_ne (ne_1 (by omega))]; exact k6 x
  rw [k9, d1]
  refine ⟨ob, ga_oa d2 (by omega) ⟨by omega, by omega⟩, ?_⟩
  intro H12 x12
  have k12 : ∀ x : Int, H12 t x = H t x := fun x => by rw [x12, e3_up_ne (ne_1 (by omega))]; exact k9 x
  rw [k12, f1]
  refine ⟨ob, ga_oa f2 (by omega) ⟨by omega, by omega⟩, ?_⟩
  intro H15 x15
  have k15 : ∀ x : Int, H15 t x = H t x := fun x => by rw [x15, e3_up_ne (ne_1 (by omega))]; exact k12 x
  rw [k15, h0, e3_w32_id (x := (b : Int) + 1) (by omega) (by omega)]
  refine ⟨ob, ob, ?_⟩
  intro H18 x18
  have fin : ∀ v : Int, e3_ob G 5 t ∧ ∀ H25 : e3_H, H25 = e3_up H18 t 1 v → Q (b : Int) H25 G := fun v => by
    refine ⟨ob, fun H25 x25 => ?_⟩
    have at25 : ∀ a x : Int, a ≠ t → H25 a x = H15 a x := fun a x ha => by rw [x25, e3_up_ne (ne_1 ha), x18, e3_up_ne (ne_1 ha)]
    refine hQ H25 ⟨fun a x h2 h3 => ?_, fun x hx => ?_, fun a x h2 h3 hx => ?_⟩ ?_ ?_ ?_ ?_ ?_ ?_
    · rw [at25 a x h2, x15, e3_up_ne (ne_1 (by omega)), x12, e3_up_ne (ne_1 (by omega)), x9, e3_up_ne (ne_1 (by omega)), x6, e3_up_ne (ne_1 (by omega)), x2, e3_up_ne (ne_1 (by omega))]
    · rw [x25, e3_up_ne (fun z => by omega), x18, e3_up_ne (fun z => by omega)]; exact k15 x
    · rw [at25 a x (by omega), x15, e3_up_ne (fun z => by omega), x12, e3_up_ne (fun z => by omega), x9, e3_up_ne (fun z => by omega), x6, e3_up_ne (fun z => by omega), x2, e3_up_ne (fun z => by omega)]
    · rw [x25, e3_up_ne (fun z => absurd z.2 (by decide)), x18, e3_up_self]
    · rw [at25 _ _ (by omega), x15, e3_up_ne (ne_1 (by omega)), x12, e3_up_ne (ne_1 (by omega)), x9, e3_up_ne (ne_1 (by omega)), x6, e3_up_ne (ne_1 (by omega)), x2, e3_up_self]
    · rw [at25 _ _ (by omega), x15, e3_up_ne (ne_1 (by omega)), x12, e3_up_ne (ne_1 (by omega)), x9, e3_up_ne (ne_1 (by omega)), x6, e3_up_self]
    · rw [at25 _ _ (by omega), x15, e3_up_ne (ne_1 (by omega)), x12, e3_up_ne (ne_1 (by omega)), x9, e3_up_self]
    · rw [at25 _ _ (by omega), x15, e3_up_ne (ne_1 (by omega)), x12, e3_up_self]
    · rw [at25 _ _ (by omega), x15, e3_up_self]
  exact ⟨ob, fun _ => fin _, fun _ => fin _⟩
theorem cE_end {Q : e3_H → e3_G → Prop} {n z : Int} (hT : TRE t H G) (hn : 0 ≤ n ∧ n < 120) (h0 : H t 0 = z) (hz : n < z) (hQ : Q (e3_up H (t + 5) n z) G) : wE_end Q t n H G := by
  obtain ⟨ht, h1, _, _, _, _, ⟨e1, e2⟩, _⟩ := hT
  have ob := ga_ob (c := 5) h1
  refine ⟨ob, brF (by omega) ⟨ob, brT (by rw [h0]; exact hz) ⟨Or.inr rfl, brF (by decide) ⟨ob, ob, by rw [e1]; exact ga_oa e2 (by omega) ⟨by omega, by omega⟩, ?_⟩⟩⟩⟩
  intro H4 x4
  rw [e1, h0] at x4
  rw [x4]
  exact hQ
end CTR
