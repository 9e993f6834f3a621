section LAW
variable {L : Nat} {Q : Int → e3_H → e3_G → Prop} {B : Int}
/-- the law, turn by turn -/
theorem j_law (hL : L ≤ 3072) (hQ : ∀ (H : e3_H) (G : e3_G), gz G ≤ B + 3522560 → Q 1 H G) : ∀ (f i n : Nat) (l3 : Int) (H : e3_H) (G : e3_G), l3 = 6 * (i : Int) → JI n H G → gz G + 860 * (n : Int) ≤ B + 6880 * (i : Int) → 6 * i ≤ L → L < 6 * i + 6 * f → wLaw_law_18 L Q f l3 H G := by
  intro f
  induction f with
  | zero => intro i n l3 H G _ _ _ h6 h7; omega
  | succ f ih =>
    intro i n l3 H G e3 h hz h6 h7
    refine ⟨by omega, fun _ => hQ H G (by omega), fun hc => ?_⟩
    rw [e3_w32_id (by omega) (by omega)] at hc
    have go : ∀ (n2 : Nat) (K : e3_H) (G2 : e3_G), JI n2 K G2 → gz G2 + 860 * (n2 : Int) ≤ gz G + 860 * (n : Int) + 6880 → wLaw_law_983 L Q (fun l3 H G => wLaw_law_18 L Q f l3 H G) l3 K G2 := fun n2 K G2 hJ hg => by
      show wLaw_law_18 L Q f (e3_w32 (l3 + 6)) K G2
      rw [e3_w32_id (by omega) (by omega)]
      exact ih (i + 1) n2 (l3 + 6) K G2 (by omega) hJ (by omega) (by omega) (by omega)
    have b : ∀ k : Int, 0 ≤ k → k ≤ 5 → 0 ≤ e3_w32 (l3 + k) ∧ e3_w32 (l3 + k) < (L : Int) := fun k k0 k5 => by
      rw [e3_w32_id (by omega) (by omega)]
      omega
    have b1 := b 1 (by decide) (by decide)
    have b2 := b 2 (by decide) (by decide)
    have b3 := b 3 (by decide) (by decide)
    have b4 := b 4 (by decide) (by decide)
    have b5 := b 5 (by decide) (by decide)
    have hR : JR n H G (fun _ _ H G => wLaw_law_983 L Q (fun l3 H G => wLaw_law_18 L Q f l3 H G) l3 H G) := fun _ _ n2 K G2 hJ hg _ => go n2 K G2 hJ hg
    have hE : JRe n H G (fun _ _ H G => wLaw_law_983 L Q (fun l3 H G => wLaw_law_18 L Q f l3 H G) l3 H G) := JR_e hR
    have hF : JRe n H G (fun x y H G => (((x : Int) = y → (wLaw_law_983 L Q (fun l3 H G => wLaw_law_18 L Q f l3 H G) l3 H G)) ∧ (¬ ((x : Int) = y) → Q 0 H G))) := fun _ n2 K G2 hJ hg _ => brT rfl (go n2 K G2 hJ hg)
    clear b hQ ih
    refine ⟨⟨by omega, by omega⟩, ?_, ?_, ?_, ?_, ?_, ?_, ?_, ?_, ?_, ?_, ?_, ?_, ?_, ?_, ?_, ?_, ?_, ?_, ?_, ?_, ?_, ?_, ?_, ?_, ?_, fun _ => go n H G h (by omega)⟩
    · exact fun _ => ⟨b1, b2, b3, j_feed h hE (fun x K G2 e hm => ⟨b1, b2, b3, by simp only [e]; exact hm⟩)⟩
    · exact fun _ => j_read h hE (fun x K G2 e hm => hm)
    · exact fun _ => j_fault h hR (fun x K G2 e hm => hm)
    · exact fun _ => j_add h hE (fun x K G2 e hm => hm)
    · exact fun _ => ⟨b1, b2, j_remake h hR (fun x K G2 e hm => ⟨b1, b2, by simp only [e]; exact hm⟩)⟩
    · exact fun _ => ⟨b1, b2, j_kind h hR (fun x K G2 e hm => ⟨b1, b2, by simp only [e]; exact hm⟩)⟩
    · exact fun _ => ⟨b1, b2, j_kindNamed h hR (fun x K G2 e hm => ⟨b1, b2, by simp only [e]; exact hm⟩)⟩
    · exact fun _ => ⟨b1, b2, j_function h hR (fun x K G2 e hm => ⟨b1, b2, by simp only [e]; exact hm⟩)⟩
    · exact fun _ => ⟨b1, b2, b3, j_node h hR (fun x K G2 e hm => ⟨b1, b2, b3, by simp only [e]; exact hm⟩)⟩
    · exact fun _ => ⟨b1, b2, b3, j_branch_e h hF (fun x K G2 e hm => ⟨b1, b2, b3, by simp only [e]; exact hm⟩)⟩
    · exact fun _ => ⟨b1, j_missing h hR (fun x K G2 e hm => ⟨b1, by simp only [e]; exact hm⟩)⟩
    · exact fun _ => ⟨b1, b2, j_unreached h hR (fun x K G2 e hm => ⟨b1, b2, by simp only [e]; exact hm⟩)⟩
    · exact fun _ => ⟨b1, j_whole h hR (fun x K G2 e hm => ⟨b1, by simp only [e]; exact hm⟩)⟩
    · exact fun _ => ⟨b1, j_truth h hR (fun x K G2 e hm => ⟨b1, by simp only [e]; exact hm⟩)⟩
    · exact fun _ => ⟨b1, b2, j_letters h hR (fun x K G2 e hm => ⟨b1, b2, by simp only [e]; exact hm⟩)⟩
    · exact fun _ => j_nothing h hR (fun x K G2 e hm => hm)
    · exact fun _ => ⟨b1, b2, b3, b4, b5, j_make h hR (fun x K G2 e hm => ⟨b1, b2, b3, b4, b5, by simp only [e]; exact hm⟩)⟩
    · exact fun _ => ⟨b1, b2, j_value h hR (fun x K G2 e hm => ⟨b1, b2, by simp only [e]; exact hm⟩)⟩
    · exact fun _ => ⟨b1, b2, j_alike h hR (fun x K G2 e hm => ⟨b1, b2, by simp only [e]; exact hm⟩)⟩
    · exact fun _ => ⟨b1, b2, b3, b4, j_sort h hR (fun x K G2 e hm => ⟨b1, b2, b3, b4, by simp only [e]; exact hm⟩)⟩
    · exact fun _ => ⟨b1, b2, b3, b4, j_plain h hR (fun x K G2 e hm => ⟨b1, b2, b3, b4, by simp only [e]; exact hm⟩)⟩
    · exact fun _ => ⟨b1, j_told h hR (fun x K G2 e hm => ⟨b1, by simp only [e]; exact hm⟩)⟩
    · exact fun _ => ⟨b1, j_guard h hR (fun x K G2 e hm => ⟨b1, by simp only [e]; exact hm⟩)⟩
    · exact fun _ => ⟨b1, j_bound h hR (fun x K G2 e hm => ⟨b1, by simp only [e]; exact hm⟩)⟩
    · exact fun _ => ⟨b1, j_count h hR (fun x K G2 e hm => ⟨b1, by simp only [e]; exact hm⟩)⟩
end LAW
