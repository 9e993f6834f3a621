/-! the abstract text of both tapes is the same -/
section LXQ
variable {b t : Int → Int} {n : Nat}
theorem q_sort (h1 : ∀ i, x_ty b n i = x_ty t n i) (h2 : ∀ i, x_sp b n i = x_sp t n i) (h3 : ∀ i, x_wo b n i = x_wo t n i) (i : Nat) (σ : e3_H) (mu : Bool) : a_sort b n i σ mu = a_sort t n i σ mu := by
  unfold a_sort; simp only [h1, h3]
theorem q_pts (h1 : ∀ i, x_ty b n i = x_ty t n i) (h2 : ∀ i, x_sp b n i = x_sp t n i) (h3 : ∀ i, x_wo b n i = x_wo t n i) (k : Nat) : ∀ (f i : Nat) (σ : e3_H), a_pts b n k f i σ = a_pts t n k f i σ := by
  intro f
  induction f with
  | zero => intro i σ; rfl
  | succ f ih => intro i σ; unfold a_pts; simp only [q_sort h1 h2 h3, h1, h2, ih]
theorem q_und (h1 : ∀ i, x_ty b n i = x_ty t n i) (h2 : ∀ i, x_sp b n i = x_sp t n i) (h3 : ∀ i, x_wo b n i = x_wo t n i) (m q : Nat) (ad : Bool) (σ : e3_H) : a_und b n m q ad σ = a_und t n m q ad σ := by
  unfold a_und; simp only [h1, h2, h3]
theorem q_knd3 (h1 : ∀ i, x_ty b n i = x_ty t n i) (h2 : ∀ i, x_sp b n i = x_sp t n i) (h3 : ∀ i, x_wo b n i = x_wo t n i) (r : a_P) : a_knd3 b n r = a_knd3 t n r := by
  unfold a_knd3; simp only [h1, h2]
theorem q_knd2 (h1 : ∀ i, x_ty b n i = x_ty t n i) (h2 : ∀ i, x_sp b n i = x_sp t n i) (h3 : ∀ i, x_wo b n i = x_wo t n i) (m : Nat) (r : a_P) : a_knd2 b n m r = a_knd2 t n m r := by
  unfold a_knd2; simp only [h1, q_knd3 h1 h2 h3, q_pts h1 h2 h3]
theorem q_knd1 (h1 : ∀ i, x_ty b n i = x_ty t n i) (h2 : ∀ i, x_sp b n i = x_sp t n i) (h3 : ∀ i, x_wo b n i = x_wo t n i) (m i : Nat) (ad : Bool) (σ : e3_H) : a_knd1 b n m i ad σ = a_knd1 t n m i ad σ := by
  unfold a_knd1; simp only [h1, h2, q_und h1 h2 h3]
theorem q_knd (h1 : ∀ i, x_ty b n i = x_ty t n i) (h2 : ∀ i, x_sp b n i = x_sp t n i) (h3 : ∀ i, x_wo b n i = x_wo t n i) (i : Nat) (ad : Bool) (σ : e3_H) : a_knd b n i ad σ = a_knd t n i ad σ := by
  unfold a_knd; simp only [h1, h2, h3, q_knd1 h1 h2 h3, q_knd2 h1 h2 h3]
theorem q_num (h1 : ∀ i, x_ty b n i = x_ty t n i) (h2 : ∀ i, x_sp b n i = x_sp t n i) (h3 : ∀ i, x_wo b n i = x_wo t n i) (i : Nat) : a_num b n i = a_num t n i := by
  unfold a_num; simp only [h1, h2, h3]
theorem q_rng (h1 : ∀ i, x_ty b n i = x_ty t n i) (h2 : ∀ i, x_sp b n i = x_sp t n i) (h3 : ∀ i, x_wo b n i = x_wo t n i) (p pl : Int) (i : Nat) (σ : e3_H) : a_rng b n p pl i σ = a_rng t n p pl i σ := by
  unfold a_rng; simp only [h1, q_num h1 h2 h3]
theorem q_as (h1 : ∀ i, x_ty b n i = x_ty t n i) (h2 : ∀ i, x_sp b n i = x_sp t n i) (h3 : ∀ i, x_wo b n i = x_wo t n i) (r : a_R) : a_as b n r = a_as t n r := by
  unfold a_as; simp only [h1, h2, h3]
theorem q_okp (h1 : ∀ i, x_ty b n i = x_ty t n i) (h2 : ∀ i, x_sp b n i = x_sp t n i) (h3 : ∀ i, x_wo b n i = x_wo t n i) (s : Int) (i : Nat) (σ : e3_H) : a_okp b n s i σ = a_okp t n s i σ := by
  unfold a_okp; simp only [h1, h3]
theorem q_kids (h1 : ∀ i, x_ty b n i = x_ty t n i) (h2 : ∀ i, x_sp b n i = x_sp t n i) (h3 : ∀ i, x_wo b n i = x_wo t n i) (g : Int → Nat → e3_H → a_R) (p kd : Int) : ∀ (rem j : Nat) (la : Int) (i : Nat) (σ : e3_H), a_kids b n g p kd rem j la i σ = a_kids t n g p kd rem j la i σ := by
  intro rem
  induction rem with
  | zero => intro j la i σ; rfl
  | succ rem ih => intro j la i σ; unfold a_kids; simp only [h1, h2, ih]
theorem q_alts (h1 : ∀ i, x_ty b n i = x_ty t n i) (h2 : ∀ i, x_sp b n i = x_sp t n i) (h3 : ∀ i, x_wo b n i = x_wo t n i) (g : Bool → Nat → e3_H → a_R) (p pl b0 : Int) : ∀ (rem j : Nat) (la fst : Int) (srt : Nat → Int) (un : Bool) (i : Nat) (σ : e3_H), a_alts b n g p pl b0 rem j la fst srt un i σ = a_alts t n g p pl b0 rem j la fst srt un i σ := by
  intro rem
  induction rem with
  | zero => intro j la fst srt un i σ; rfl
  | succ rem ih => intro j la fst srt un i σ; unfold a_alts; simp only [h1, h2, ih]
theorem q_pat (h1 : ∀ i, x_ty b n i = x_ty t n i) (h2 : ∀ i, x_sp b n i = x_sp t n i) (h3 : ∀ i, x_wo b n i = x_wo t n i) : ∀ (f : Nat) (s : Int) (d : Nat) (mu : Bool) (i : Nat) (σ : e3_H), a_pat b n f s d mu i σ = a_pat t n f s d mu i σ := by
  intro f
  induction f with
  | zero => intro s d mu i σ; rfl
  | succ f ih => intro s d mu i σ; unfold a_pat; simp only [h1, h2, h3, q_okp h1 h2 h3, q_as h1 h2 h3, q_rng h1 h2 h3, q_kids h1 h2 h3, q_alts h1 h2 h3, ih]
theorem q_term (h1 : ∀ i, x_ty b n i = x_ty t n i) (h2 : ∀ i, x_sp b n i = x_sp t n i) (h3 : ∀ i, x_wo b n i = x_wo t n i) (ti : Int) (i : Nat) (σ : e3_H) : a_term b n ti i σ = a_term t n ti i σ := by
  unfold a_term; simp only [h1, h2, h3, q_num h1 h2 h3]
theorem q_sum (h1 : ∀ i, x_ty b n i = x_ty t n i) (h2 : ∀ i, x_sp b n i = x_sp t n i) (h3 : ∀ i, x_wo b n i = x_wo t n i) (ti si : Int) (i : Nat) (σ : e3_H) : a_sum b n ti si i σ = a_sum t n ti si i σ := by
  unfold a_sum; simp only [h1, q_term h1 h2 h3]
theorem q_guard (h1 : ∀ i, x_ty b n i = x_ty t n i) (h2 : ∀ i, x_sp b n i = x_sp t n i) (h3 : ∀ i, x_wo b n i = x_wo t n i) (i : Nat) (σ : e3_H) : a_guard b n i σ = a_guard t n i σ := by
  unfold a_guard; simp only [h1, h2, q_sum h1 h2 h3]
theorem q_args (h1 : ∀ i, x_ty b n i = x_ty t n i) (h2 : ∀ i, x_sp b n i = x_sp t n i) (h3 : ∀ i, x_wo b n i = x_wo t n i) : ∀ (f i : Nat) (σ : e3_H), a_args b n f i σ = a_args t n f i σ := by
  intro f
  induction f with
  | zero => intro i σ; rfl
  | succ f ih => intro i σ; unfold a_args; simp only [h1, h2, h3, ih]
theorem q_answer (h1 : ∀ i, x_ty b n i = x_ty t n i) (h2 : ∀ i, x_sp b n i = x_sp t n i) (h3 : ∀ i, x_wo b n i = x_wo t n i) (i : Nat) (σ : e3_H) : a_answer b n i σ = a_answer t n i σ := by
  unfold a_answer; simp only [h1, h2, h3, q_args h1 h2 h3, q_num h1 h2 h3]
theorem q_cols (h1 : ∀ i, x_ty b n i = x_ty t n i) (h2 : ∀ i, x_sp b n i = x_sp t n i) (h3 : ∀ i, x_wo b n i = x_wo t n i) (f : Int) (mu : Bool) : ∀ (rem c : Nat) (la : Int) (i : Nat) (σ : e3_H), a_cols b n f mu rem c la i σ = a_cols t n f mu rem c la i σ := by
  intro rem
  induction rem with
  | zero => intro c la i σ; rfl
  | succ rem ih => intro c la i σ; unfold a_cols; simp only [h1, h2, q_pat h1 h2 h3, ih]
theorem q_rule (h1 : ∀ i, x_ty b n i = x_ty t n i) (h2 : ∀ i, x_sp b n i = x_sp t n i) (h3 : ∀ i, x_wo b n i = x_wo t n i) (f : Int) (i : Nat) (σ : e3_H) : a_rule b n f i σ = a_rule t n f i σ := by
  unfold a_rule a_rule0; simp only [h1, h2, q_cols h1 h2 h3, q_guard h1 h2 h3, q_answer h1 h2 h3]
theorem q_cls (h1 : ∀ i, x_ty b n i = x_ty t n i) (h2 : ∀ i, x_sp b n i = x_sp t n i) (h3 : ∀ i, x_wo b n i = x_wo t n i) (f : Int) : ∀ (g i : Nat) (σ : e3_H), a_cls b n f g i σ = a_cls t n f g i σ := by
  intro g
  induction g with
  | zero => intro i σ; rfl
  | succ g ih => intro i σ; unfold a_cls; simp only [h1, h2, q_sort h1 h2 h3, ih]
theorem q_rules (h1 : ∀ i, x_ty b n i = x_ty t n i) (h2 : ∀ i, x_sp b n i = x_sp t n i) (h3 : ∀ i, x_wo b n i = x_wo t n i) (f : Int) : ∀ (g i : Nat) (σ : e3_H), a_rules b n f g i σ = a_rules t n f g i σ := by
  intro g
  induction g with
  | zero => intro i σ; rfl
  | succ g ih => intro i σ; unfold a_rules; simp only [h1, q_rule h1 h2 h3, ih]
theorem q_fun (h1 : ∀ i, x_ty b n i = x_ty t n i) (h2 : ∀ i, x_sp b n i = x_sp t n i) (h3 : ∀ i, x_wo b n i = x_wo t n i) (i : Nat) (σ : e3_H) : a_fun b n i σ = a_fun t n i σ := by
  unfold a_fun a_fun2; simp only [h1, h2, h3, q_cls h1 h2 h3, q_rules h1 h2 h3]
theorem q_knds (h1 : ∀ i, x_ty b n i = x_ty t n i) (h2 : ∀ i, x_sp b n i = x_sp t n i) (h3 : ∀ i, x_wo b n i = x_wo t n i) : ∀ (g i : Nat) (σ : e3_H), a_knds b n g i σ = a_knds t n g i σ := by
  intro g
  induction g with
  | zero => intro i σ; rfl
  | succ g ih => intro i σ; unfold a_knds; simp only [h1, q_knd h1 h2 h3, ih]
theorem q_funs (h1 : ∀ i, x_ty b n i = x_ty t n i) (h2 : ∀ i, x_sp b n i = x_sp t n i) (h3 : ∀ i, x_wo b n i = x_wo t n i) : ∀ (g i : Nat) (σ : e3_H), a_funs b n g i σ = a_funs t n g i σ := by
  intro g
  induction g with
  | zero => intro i σ; rfl
  | succ g ih => intro i σ; unfold a_funs; simp only [h1, h2, q_fun h1 h2 h3, ih]
theorem q_text0 (h1 : ∀ i, x_ty b n i = x_ty t n i) (h2 : ∀ i, x_sp b n i = x_sp t n i) (h3 : ∀ i, x_wo b n i = x_wo t n i) (σ : e3_H) : a_text b n σ = a_text t n σ := by
  unfold a_text; simp only [q_knds h1 h2 h3, q_funs h1 h2 h3]
end LXQ
theorem q_text {b t : Int → Int} {n : Nat} (h : x_bt b t n) (σ : e3_H) : a_text b n σ = a_text t n σ := q_text0 (x_ty_eq h) (x_sp_eq h) (x_wo_eq h) σ
theorem q_kind {b t : Int → Int} {n : Nat} (h : x_bt b t n) (i : Nat) (ad : Bool) (σ : e3_H) : a_knd b n i ad σ = a_knd t n i ad σ := q_knd (x_ty_eq h) (x_sp_eq h) (x_wo_eq h) i ad σ
