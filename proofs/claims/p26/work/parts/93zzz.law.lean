section LAW
variable {L : Nat} {Q : Int → e3_H → e3_G → Prop} {B : Int}
/-- the law, turn by turn -/
theorem j_law (hL : L ≤ 3072) (hQ : ∀ (H : e3_H) (G : e3_G), gz G ≤ B + 3522560 → Q 1 H G) : ∀ (f i n : Nat) (l3 : Int) (H : e3_H) (G : e3_G), l3 = 6 * (i : Int) → JI n H G → E1 H → (∀ k : Int, e3_i32 (H 0 k)) → gz G + 860 * (n : Int) ≤ B + 6880 * (i : Int) → 6 * i ≤ L → L < 6 * i + 6 * f → wLaw_law_18 L Q f l3 H G := by
  intro f
  induction f with
  | zero => intro i n l3 H G _ _ _ _ _ h6 h7; omega
  | succ f ih =>
    intro i n l3 H G e3 h hX hs hz h6 h7
    refine ⟨by omega, fun _ => hQ H G (by omega), fun hc => ?_⟩
    rw [e3_w32_id (by omega) (by omega)] at hc
    have go : ∀ (n2 : Nat) (K : e3_H) (G2 : e3_G), JI n2 K G2 → E1 K → gz G2 + 860 * (n2 : Int) ≤ gz G + 860 * (n : Int) + 6880 → (∀ k : Int, K 0 k = H 0 k) → wLaw_law_983 L Q (fun l3 H G => wLaw_law_18 L Q f l3 H G) l3 K G2 := fun n2 K G2 hJ hK hg h0 => by
      show wLaw_law_18 L Q f (e3_w32 (l3 + 6)) K G2
      rw [e3_w32_id (by omega) (by omega)]
      exact ih (i + 1) n2 (l3 + 6) K G2 (by omega) hJ hK (fun k => by rw [h0 k]; exact hs k) (by omega) (by omega) (by omega)
    have b : ∀ k : Int, 0 ≤ k → k ≤ 5 → 0 ≤ e3_w32 (l3 + k) ∧ e3_w32 (l3 + k) < (L : Int) := fun k k0 k5 => by
      rw [e3_w32_id (by omega) (by omega)]
      omega
    have b1 := b 1 (by decide) (by decide)
    have b2 := b 2 (by decide) (by decide)
    have b3 := b 3 (by decide) (by decide)
    have b4 := b 4 (by decide) (by decide)
    have b5 := b 5 (by decide) (by decide)
    have hR : JF n H G E1 (fun _ _ H G => wLaw_law_983 L Q (fun l3 H G => wLaw_law_18 L Q f l3 H G) l3 H G) := fun _ _ n2 K G2 hJ hK hg h0 => go n2 K G2 hJ hK hg h0
    have hE : JFe n H G E1 (fun _ _ H G => wLaw_law_983 L Q (fun l3 H G => wLaw_law_18 L Q f l3 H G) l3 H G) := JF_e hR
    have hV : JFe n H G (fun K => E1 K ∧ FRv H K) (fun _ _ H G => wLaw_law_983 L Q (fun l3 H G => wLaw_law_18 L Q f l3 H G) l3 H G) := JFe_w hE (fun _ _ _ _ z => z.1)
    have hF : JFe n H G E1 (fun x y H G => (((x : Int) = y → (wLaw_law_983 L Q (fun l3 H G => wLaw_law_18 L Q f l3 H G) l3 H G)) ∧ (¬ ((x : Int) = y) → Q 0 H G))) := fun _ n2 K G2 hJ hK hg h0 => brT rfl (go n2 K G2 hJ hK hg h0)
    have hG : JFe n H G (fun K => E1 K ∧ FRv H K) (fun x y H G => (((x : Int) = y → (wLaw_law_983 L Q (fun l3 H G => wLaw_law_18 L Q f l3 H G) l3 H G)) ∧ (¬ ((x : Int) = y) → Q 0 H G))) := JFe_w hF (fun _ _ _ _ z => z.1)
    clear b hQ ih
    refine ⟨⟨by omega, by omega⟩, ?_, ?_, ?_, ?_, ?_, ?_, ?_, ?_, ?_, ?_, ?_, ?_, ?_, ?_, ?_, ?_, ?_, ?_, ?_, ?_, ?_, ?_, ?_, ?_, ?_, fun _ => go n H G h hX (by omega) (fun _ => rfl)⟩
    · exact fun _ => ⟨b1, b2, b3, e1_feed h hX hE (fun x K G2 e hm => ⟨b1, b2, b3, by simp only [e]; exact hm⟩)⟩
    · exact fun _ => e1_read h hX hE (fun x K G2 e hm => hm)
    · exact fun _ => e1_fault h hX hR (fun x K G2 e hm => hm)
    · exact fun _ => e1_add h hX hE (fun x K G2 e hm => hm)
    · exact fun _ => ⟨b1, b2, e1_remake h hX hR (fun x K G2 e hm => ⟨b1, b2, by simp only [e]; exact hm⟩)⟩
    · exact fun _ => ⟨b1, b2, e1_kind h hX hR (fun x K G2 e hm => ⟨b1, b2, by simp only [e]; exact hm⟩)⟩
    · exact fun _ => ⟨b1, b2, e1_kindNamed h hX hR (fun x K G2 e hm => ⟨b1, b2, by simp only [e]; exact hm⟩)⟩
    · exact fun _ => ⟨b1, b2, e1_function h hX hR (fun x K G2 e hm => ⟨b1, b2, by simp only [e]; exact hm⟩)⟩
    · exact fun _ => ⟨b1, b2, b3, e1_node h hX hR (fun x K G2 e hm => ⟨b1, b2, b3, by simp only [e]; exact hm⟩)⟩
    · exact fun _ => ⟨b1, b2, b3, e1_branch h hX hR (fun x K G2 e hm => ⟨b1, b2, b3, by simp only [e]; exact hm⟩)⟩
    · exact fun _ => ⟨b1, e1_missing h hX hR (fun x K G2 e hm => ⟨b1, by simp only [e]; exact hm⟩)⟩
    · exact fun _ => ⟨b1, b2, e1_unreached h hX hR (fun x K G2 e hm => ⟨b1, b2, by simp only [e]; exact hm⟩)⟩
    · exact fun _ => ⟨b1, e1_whole h hX (hs _) hV (fun x K G2 e hm => ⟨b1, by simp only [e]; exact hm⟩)⟩
    · exact fun _ => ⟨b1, e1_truth h hX hV (fun x K G2 e hm => ⟨b1, by simp only [e]; exact hm⟩)⟩
    · exact fun _ => ⟨b1, b2, e1_letters h hX (e3_gl2 _ _ _).2 hV (fun x K G2 e hm => ⟨b1, b2, by simp only [e]; exact hm⟩)⟩
    · exact fun _ => e1_nothing h hX hV (fun x K G2 e hm => hm)
    · exact fun _ => ⟨b1, b2, b3, b4, b5, e1_make h hX hV (fun x K G2 e hm => ⟨b1, b2, b3, b4, b5, by simp only [e]; exact hm⟩)⟩
    · exact fun _ => ⟨b1, b2, e1_value h hX hR (fun x K G2 e hm => ⟨b1, b2, by simp only [e]; exact hm⟩)⟩
    · exact fun _ => ⟨b1, b2, e1_alike h hX hR (fun x K G2 e hm => ⟨b1, b2, by simp only [e]; exact hm⟩)⟩
    · exact fun _ => ⟨b1, b2, b3, b4, e1_sort h hX hR (fun x K G2 e hm => ⟨b1, b2, b3, b4, by simp only [e]; exact hm⟩)⟩
    · exact fun _ => ⟨b1, b2, b3, b4, e1_plain h hX hR (fun x K G2 e hm => ⟨b1, b2, b3, b4, by simp only [e]; exact hm⟩)⟩
    · exact fun _ => ⟨b1, e1_told h hX hR (fun x K G2 e hm => ⟨b1, by simp only [e]; exact hm⟩)⟩
    · exact fun _ => ⟨b1, e1_guard h hX hR (fun x K G2 e hm => ⟨b1, by simp only [e]; exact hm⟩)⟩
    · exact fun _ => ⟨b1, e1_bound h hX hR (fun x K G2 e hm => ⟨b1, by simp only [e]; exact hm⟩)⟩
    · exact fun _ => ⟨b1, e1_count h hX hF (fun x K G2 e hm => ⟨b1, by simp only [e]; exact hm⟩)⟩
end LAW
