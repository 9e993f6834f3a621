/-- a path of a tree, the last step first: (place, least, greatest) of a part that was taken, or (0, rule, rule) of a guard that was not true -/
abbrev a_PT : Type := List (Int × Int × Int)
/-- rows: rule and tests -/
abbrev a_RW : Type := List (Int × List (Int × Int))
/-- a node: what, row, place, branches, the label that leads to it, how many nodes from it on -/
abbrev a_ND : Type := Int × Int × Int × Int × Int × Int
def kn : a_PT → Int → Option (Int × Int)
  | [], _ => none
  | e :: π, x => if e.1 = x then some e.2 else kn π x
/-- does a test hold for a label -/
def hld (σ : e3_H) (q hi : Int) : Bool := if σ 46 q = 5 then decide (0 ≤ hi) && a_of (σ 43) (σ 48 q) 24 hi else decide (c_lo σ q ≤ hi) && decide (hi ≤ c_hi σ q)
def tq : List (Int × Int) → Int → Option Int
  | [], _ => none
  | p :: T, x => if p.2 = x then some p.1 else tq T x
def ok1 (σ : e3_H) (w : Int × List (Int × Int)) (e : Int × Int × Int) : Bool := if e.1 = 0 then decide (w.1 ≠ e.2.1) else match tq w.2 e.1 with
  | none => true
  | some q => hld σ q e.2.2
/-- is a row still possible -/
def lv (σ : e3_H) (w : Int × List (Int × Int)) : a_PT → Bool
  | [] => true
  | e :: π => lv σ w π && ok1 σ w e
/-- can a place be asked at -/
def ask (π : a_PT) (x : Int) : Bool := (kn π x).isNone && (decide ((x - 1) / 8 = 0) || (kn π ((x - 1) / 8)).isSome)
/-- tests at a place of the rows that are still possible -/
def ltq (σ : e3_H) (π : a_PT) (x : Int) : a_RW → List Int
  | [] => []
  | w :: R => (if lv σ w π = true then (match tq w.2 x with
    | none => []
    | some q => [q]) else []) ++ ltq σ π x R
/-- a number into an upward list, once -/
def cin (c : Int) : List Int → List Int
  | [] => [c]
  | d :: l => if c < d then c :: d :: l else if c = d then d :: l else d :: cin c l
def cuts (σ : e3_H) : List Int → List Int → List Int
  | [], l => l
  | q :: Q, l => cuts σ Q (cin (σ 49 q) (cin (σ 48 q - 1) l))
def txs (σ : e3_H) : List Int → List Int → List Int
  | [], l => l
  | q :: Q, l => txs σ Q (if σ 50 q ∈ l then l else l ++ [σ 50 q])
def pts (a : Int) : List Int → List (Int × Int)
  | [] => [(a, 2147483647)]
  | c :: l => (a, c) :: pts (c + 1) l
def lvs (σ : e3_H) (m : Nat) (s : Int) : Nat → List (Int × Int)
  | 0 => []
  | k + 1 => lvs σ m s k ++ (if a_sl (σ 43) (k : Int) m = false ∧ a_of (σ 43) (s - 3) 24 (k : Int) = true then [((k : Int), (k : Int))] else [])
/-- the labels of the branches at a place of SORT s -/
def lbs (σ : e3_H) (m : Nat) (R : a_RW) (π : a_PT) (x s : Int) : List (Int × Int) := if s = 0 then pts (-2147483648) (cuts σ (ltq σ π x R) []) else if s = 1 then [(0, 0), (1, 1)] else if s = 2 then (txs σ (ltq σ π x R) []).map (fun w => (w, w)) ++ [(-1, -1)] else (-1, -1) :: lvs σ m s m
/-- what a place is worth -/
def wor (σ : e3_H) (m : Nat) (R : a_RW) (π : a_PT) (way : Int) (q x : Int) (t : Nat) : Int := if way = 1 then ((ltq σ π x R).length : Int) else if way = 2 then -((lbs σ m R π x (σ 47 q)).length : Int) else if way = 3 then (t : Int) else 0
/-- the test to ask for: the first one of the greatest worth -/
def cho (σ : e3_H) (m : Nat) (R : a_RW) (π : a_PT) (way : Int) : List (Int × Int) → Nat → Option (Int × Int) → Int → Option (Int × Int)
  | [], _, c, _ => c
  | p :: T, t, c, b => if ask π p.2 = true ∧ (c = none ∨ b < wor σ m R π way p.1 p.2 t) then cho σ m R π way T (t + 1) (some p) (wor σ m R π way p.1 p.2 t) else cho σ m R π way T (t + 1) c b
/-- the first row that is still possible -/
def fst (σ : e3_H) (π : a_PT) : a_RW → Nat → Option (Nat × Int × List (Int × Int))
  | [], _ => none
  | w :: R, i => if lv σ w π = true then some (i, w) else fst σ π R (i + 1)
def ndo (s : Int) : Int := if s = 0 then 6 else if s = 1 then 4 else if s = 2 then 5 else 3
def lab : a_PT → Int
  | [] => 0
  | e :: _ => if e.1 = 0 then 0 else e.2.2
/-- trees behind labels, one behind the other -/
def grs (g : a_PT → List a_ND → Prop) (π : a_PT) (x : Int) : List (Int × Int) → List a_ND → Prop
  | [], N => N = []
  | e :: l, N => ∃ A B, N = A ++ B ∧ g ((x, e.1, e.2) :: π) A ∧ grs g π x l B
/-- the tree of a path: its nodes, each ahead of those behind its branches -/
def gr (σ : e3_H) (m : Nat) (R : a_RW) (way : Int) : Nat → a_PT → List a_ND → Prop
  | 0, _, _ => False
  | k + 1, π, N => match fst σ π R 0 with
    | none => N = [(0, -1, -1, 0, lab π, 1)]
    | some (i, r, T) => match cho σ m R π way T 0 none 0 with
      | none => (σ 78 r = 0 ∧ N = [(1, (i : Int), -1, 0, lab π, 1)]) ∨ (σ 78 r ≠ 0 ∧ ∃ N1, gr σ m R way k ((0, r, r) :: π) N1 ∧ N = (2, (i : Int), -1, 1, lab π, 1 + (N1.length : Int)) :: N1)
      | some (q, x) => ∃ N1, grs (gr σ m R way k) π x (lbs σ m R π x (σ 47 q)) N1 ∧ N = (ndo (σ 47 q), -1, x, ((lbs σ m R π x (σ 47 q)).length : Int), lab π, 1 + (N1.length : Int)) :: N1
theorem gr_len {σ : e3_H} {m : Nat} {R : a_RW} {way : Int} : ∀ (k : Nat) (π : a_PT) (N : List a_ND), gr σ m R way k π N → 1 ≤ N.length := by
  intro k
  cases k with
  | zero => intro π N h; exact h.elim
  | succ k =>
    intro π N h
    unfold gr at h
    split at h
    · rw [h]; exact Nat.le_refl _
    · split at h
      · rcases h with ⟨_, h⟩ | ⟨_, N1, _, h⟩
        · rw [h]; exact Nat.le_refl _
        · rw [h, List.length_cons]; omega
      · obtain ⟨N1, _, h⟩ := h
        rw [h, List.length_cons]; omega
theorem grs_len {σ : e3_H} {m k : Nat} {R : a_RW} {way x : Int} {π : a_PT} : ∀ (l : List (Int × Int)) (N : List a_ND), grs (gr σ m R way k) π x l N → l.length ≤ N.length := by
  intro l
  induction l with
  | nil => intro N h; exact Nat.zero_le _
  | cons e l ih =>
    intro N h
    obtain ⟨A, B, e1, a, b⟩ := h
    have := gr_len k _ A a
    have := ih B b
    rw [e1, List.length_append, List.length_cons]
    omega
theorem tq_mem : ∀ (T : List (Int × Int)) (x q : Int), tq T x = some q → (q, x) ∈ T := by
  intro T
  induction T with
  | nil => intro x q h; cases h
  | cons p T ih =>
    intro x q h
    unfold tq at h
    split at h
    · rename_i hz
      cases h
      rw [← hz]
      exact List.mem_cons_self ..
    · exact List.mem_cons_of_mem _ (ih x q h)
theorem tq_of : ∀ (T : List (Int × Int)) (p : Int × Int), T.Pairwise (fun a b => a.2 ≠ b.2) → p ∈ T → tq T p.2 = some p.1 := by
  intro T
  induction T with
  | nil => intro p _ h; exact absurd h (List.not_mem_nil)
  | cons a T ih =>
    intro p hp h
    obtain ⟨h1, h2⟩ := List.pairwise_cons.mp hp
    unfold tq
    rcases List.mem_cons.mp h with z | z
    · rw [z, if_pos rfl]
    · rw [if_neg (h1 p z)]
      exact ih p h2 z
/-- a possible row: what is known at its places holds -/
theorem lv_hld {σ : e3_H} {w : Int × List (Int × Int)} (hw : w.2.Pairwise (fun a b => a.2 ≠ b.2)) (h0 : ∀ p, p ∈ w.2 → p.2 ≠ 0) : ∀ π : a_PT, lv σ w π = true → ∀ p, p ∈ w.2 → ∀ v, kn π p.2 = some v → hld σ p.1 v.2 = true := by
  intro π
  induction π with
  | nil => intro _ p _ v h; cases h
  | cons e π ih =>
    intro h p hp v hv
    have h : (lv σ w π && ok1 σ w e) = true := h
    rw [Bool.and_eq_true] at h
    unfold kn at hv
    split at hv
    · rename_i hz
      cases hv
      have h2 := h.2
      unfold ok1 at h2
      have := h0 p hp
      rw [if_neg (by omega), hz, tq_of w.2 p hw hp] at h2
      exact h2
    · exact ih h.1 p hp v hv
/-- and the other way round, for the step that is new -/
theorem lv_step {σ : e3_H} {w : Int × List (Int × Int)} {π : a_PT} {x lo hi : Int} (hx : x ≠ 0) (h : lv σ w π = true) (hp : ∀ p, p ∈ w.2 → ∀ v, kn ((x, lo, hi) :: π) p.2 = some v → hld σ p.1 v.2 = true) : lv σ w ((x, lo, hi) :: π) = true := by
  show (lv σ w π && ok1 σ w (x, lo, hi)) = true
  rw [h, Bool.true_and]
  unfold ok1
  rw [if_neg hx]
  show (match tq w.2 x with
  | none => true
  | some q => hld σ q hi) = true
  split
  · rfl
  · rename_i q hq
    have hm := tq_mem _ _ _ hq
    exact hp (q, x) hm (lo, hi) (by unfold kn; rw [if_pos rfl])
