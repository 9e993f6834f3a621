/-- a row's memory behind a visited pattern, and behind a list of them -/
def rw_1 (R : Int) (pn : Int → Int) (σ g : e3_H) (q : Int) (H : e3_H) : e3_H := if σ 46 q = 0 ∨ σ 46 q = 6 then o_nm R (σ 54 q) (pn q) (o_nm R (σ 53 q) (pn q) H) else o_ts R (H R 1) (g 0 q) (pn q) (o_nm R (σ 54 q) (pn q) (o_nm R (σ 53 q) (pn q) H))
def rw_st (R : Int) (pn : Int → Int) (σ g : e3_H) : List (Int × Int) → e3_H → e3_H
  | [], H => H
  | p :: l, H => rw_st R pn σ g l (rw_1 R pn σ g p.1 H)
/-- how many tests -/
def tsn (σ : e3_H) : List (Int × Int) → Int
  | [] => 0
  | p :: l => (if σ 46 p.1 = 0 ∨ σ 46 p.1 = 6 then 0 else 1) + tsn σ l
section RWS
variable {R : Int} {pn : Int → Int} {σ g : e3_H}
theorem o_nm_at {k pl a x : Int} {H : e3_H} (ha : a ≠ R + 1) : o_nm R k pl H a x = H a x := by
  unfold o_nm
  split
  · rfl
  · exact e3_up_ne (ne_1 ha)
theorem rw_1_at {q a x : Int} {H : e3_H} (ha : a < R) : rw_1 R pn σ g q H a x = H a x := by
  unfold rw_1
  split
  · rw [o_nm_at (by omega), o_nm_at (by omega)]
  · unfold o_ts
    rw [e3_up_ne (ne_1 (by omega)), e3_up_ne (ne_1 (by omega)), e3_up_ne (ne_1 (by omega)), o_nm_at (by omega), o_nm_at (by omega)]
theorem rw_1_R {q x : Int} {H : e3_H} (hx : x ≠ 1) : rw_1 R pn σ g q H R x = H R x := by
  unfold rw_1
  split
  · rw [o_nm_at (by omega), o_nm_at (by omega)]
  · unfold o_ts
    rw [e3_up_ne (fun z => hx z.2), e3_up_ne (ne_1 (by omega)), e3_up_ne (ne_1 (by omega)), o_nm_at (by omega), o_nm_at (by omega)]
theorem rw_1_c {q : Int} {H : e3_H} : rw_1 R pn σ g q H R 1 = H R 1 + (if σ 46 q = 0 ∨ σ 46 q = 6 then 0 else 1) := by
  unfold rw_1
  split
  · rename_i h
    rw [o_nm_at (by omega), o_nm_at (by omega)]
    omega
  · unfold o_ts
    rw [e3_up_self]
theorem rw_app : ∀ (V W : List (Int × Int)) (H : e3_H), rw_st R pn σ g (V ++ W) H = rw_st R pn σ g W (rw_st R pn σ g V H) := by
  intro V
  induction V with
  | nil => intro W H; rfl
  | cons p l ih => intro W H; exact ih W _
theorem rw_at : ∀ (V : List (Int × Int)) (H : e3_H), (∀ a x : Int, a < R → rw_st R pn σ g V H a x = H a x) ∧ (∀ x : Int, x ≠ 1 → rw_st R pn σ g V H R x = H R x) ∧ rw_st R pn σ g V H R 1 = H R 1 + tsn σ V := by
  intro V
  induction V with
  | nil => intro H; exact ⟨fun _ _ _ => rfl, fun _ _ => rfl, by show H R 1 = H R 1 + 0; omega⟩
  | cons p l ih =>
    intro H
    obtain ⟨h1, h2, h3⟩ := ih (rw_1 R pn σ g p.1 H)
    refine ⟨fun a x ha => (h1 a x ha).trans (rw_1_at ha), fun x hx => (h2 x hx).trans (rw_1_R hx), ?_⟩
    have h3 : rw_st R pn σ g (p :: l) H R 1 = rw_1 R pn σ g p.1 H R 1 + tsn σ l := h3
    rw [h3, rw_1_c]
    show _ = H R 1 + ((if σ 46 p.1 = 0 ∨ σ 46 p.1 = 6 then 0 else 1) + tsn σ l)
    omega
end RWS
