/-! The forwards on their way to a core (their kinds, in their order) and what the home takes the core for (0 nothing, 1 a sharer, 2 the owner): the pairs that can be, by the line's state and by whether a request of the core is under way -/
def pr_t1 : List (List Nat × Nat) := [([], 1), ([6], 0)]
def pr_t2 : List (List Nat × Nat) := [([], 2), ([5], 0), ([4], 1), ([4, 6], 0)]
def pr_tab (s : Nat) (g : Bool) : List (List Nat × Nat) :=
  match s with
  | 0 => [([], 0)]
  | 1 => pr_t1
  | 2 => pr_t2
  | 3 => if g then [([], 0)] else pr_t1
  | 4 => if g then [([], 0)] else pr_t2
  | 5 => pr_t2
  | 6 => if g then pr_t1 else pr_t2 ++ [([6], 2), ([6, 5], 0), ([6, 4], 1), ([6, 4, 6], 0)]
  | 7 => pr_t2
  | 8 => pr_t2 ++ [([7], 0), ([5, 7], 0), ([4, 7], 0), ([4, 6, 7], 0)]
  | 9 => pr_t1 ++ [([7], 0), ([6, 7], 0)]
  | 10 => [([], 0), ([7], 0)]
  | _ => []
/-- the home sends FWDS, FWDM, INV, PUTACK behind the others -/
theorem pr_tab_4 : ∀ s, s < 11 → ∀ g : Bool, ∀ p ∈ pr_tab s g, p.2 = 2 → (p.1 ++ [4], 1) ∈ pr_tab s g := by decide
theorem pr_tab_5 : ∀ s, s < 11 → ∀ g : Bool, ∀ p ∈ pr_tab s g, p.2 = 2 → (p.1 ++ [5], 0) ∈ pr_tab s g := by decide
theorem pr_tab_6 : ∀ s, s < 11 → ∀ g : Bool, ∀ p ∈ pr_tab s g, p.2 = 1 → (p.1 ++ [6], 0) ∈ pr_tab s g := by decide
theorem pr_tab_7 : ∀ s, s < 11 → s = 8 ∨ s = 9 ∨ s = 10 → ∀ g : Bool, ∀ p ∈ pr_tab s g, 7 ∉ p.1 → (p.1 ++ [7], 0) ∈ pr_tab s g := by
  intro s _ h
  rcases h with rfl | rfl | rfl <;> decide
/-- the home has answered a request -/
theorem pr_tab_S : ∀ p ∈ pr_tab 3 true, (p.1, 1) ∈ pr_tab 3 false := by decide
theorem pr_tab_M : ∀ s, s < 11 → s = 4 ∨ s = 6 → ∀ p ∈ pr_tab s true, (p.1, 2) ∈ pr_tab s false := by decide
theorem pr_tab_v : ∀ s, s < 11 → s = 3 ∨ s = 4 ∨ s = 6 → ∀ p ∈ pr_tab s true, p.2 ≠ 2 := by decide
theorem pr_tab_v3 : ∀ p ∈ pr_tab 3 true, p.2 = 0 := by decide
theorem pr_tab_w : ∀ s, s < 11 → s = 9 ∨ s = 10 → ∀ g : Bool, ∀ p ∈ pr_tab s g, p.2 ≠ 2 := by decide
/-- the first forward comes in: where the line can be -/
theorem pr_tab_is6 : ∀ s, s < 11 → ∀ g : Bool, ∀ p ∈ pr_tab s g, p.1.head? = some 6 → s = 1 ∨ s = 3 ∨ s = 6 ∨ s = 9 := by decide
theorem pr_tab_is4 : ∀ s, s < 11 → ∀ g : Bool, ∀ p ∈ pr_tab s g, p.1.head? = some 4 → s = 2 ∨ s = 8 ∨ (4 ≤ s ∧ s ≤ 7) := by decide
theorem pr_tab_is5 : ∀ s, s < 11 → ∀ g : Bool, ∀ p ∈ pr_tab s g, p.1.head? = some 5 → s = 2 ∨ s = 8 ∨ (4 ≤ s ∧ s ≤ 7) := by decide
theorem pr_tab_p1 : ∀ g : Bool, ∀ p ∈ pr_tab 1 g, p.1.head? = some 6 → (p.1.tail, p.2) ∈ pr_tab 0 g := by decide
theorem pr_tab_p6 : ∀ g : Bool, ∀ p ∈ pr_tab 6 g, p.1.head? = some 6 → (p.1.tail, p.2) ∈ pr_tab 4 g := by decide
theorem pr_tab_p9 : ∀ g : Bool, ∀ p ∈ pr_tab 9 g, p.1.head? = some 6 → (p.1.tail, p.2) ∈ pr_tab 10 g := by decide
theorem pr_tab_q2 : ∀ g : Bool, ∀ p ∈ pr_tab 2 g, p.1.head? = some 4 → (p.1.tail, p.2) ∈ pr_tab 1 g := by decide
theorem pr_tab_q8 : ∀ g : Bool, ∀ p ∈ pr_tab 8 g, p.1.head? = some 4 → (p.1.tail, p.2) ∈ pr_tab 9 g := by decide
theorem pr_tab_r2 : ∀ g : Bool, ∀ p ∈ pr_tab 2 g, p.1.head? = some 5 → (p.1.tail, p.2) ∈ pr_tab 0 g := by decide
theorem pr_tab_r8 : ∀ g : Bool, ∀ p ∈ pr_tab 8 g, p.1.head? = some 5 → (p.1.tail, p.2) ∈ pr_tab 10 g := by decide
theorem pr_tab_z : ∀ s, s < 11 → s = 8 ∨ s = 9 ∨ s = 10 → ∀ g : Bool, ∀ p ∈ pr_tab s g, p.1.head? = some 7 → (p.1.tail, p.2) ∈ pr_tab 0 g := by
  intro s _ h
  rcases h with rfl | rfl | rfl <;> decide
/-- the core asks -/
theorem pr_tab_a0 : ∀ g : Bool, ∀ p ∈ pr_tab 0 g, p ∈ pr_tab 3 true ∧ p ∈ pr_tab 4 true := by decide
theorem pr_tab_a1 : ∀ g : Bool, ∀ p ∈ pr_tab 1 g, p ∈ pr_tab 6 true ∧ p ∈ pr_tab 9 g := by decide
theorem pr_tab_a2 : ∀ g : Bool, ∀ p ∈ pr_tab 2 g, p ∈ pr_tab 8 g := by decide
/-- DATA comes in, the last ACK comes in -/
theorem pr_tab_d3 : ∀ g : Bool, ∀ p ∈ pr_tab 3 false, p ∈ pr_tab 1 g := by decide
theorem pr_tab_d4 : ∀ g : Bool, ∀ p ∈ pr_tab 4 false, p ∈ pr_tab 2 g ∧ p ∈ pr_tab 5 g := by decide
theorem pr_tab_d6 : ∀ g : Bool, ∀ p ∈ pr_tab 6 false, 6 ∈ p.1.take 1 ∨ (p ∈ pr_tab 2 g ∧ p ∈ pr_tab 7 g) := by decide
theorem pr_tab_d9 : ∀ s, s < 11 → s = 5 ∨ s = 7 → ∀ g g' : Bool, ∀ p ∈ pr_tab s g, p ∈ pr_tab 2 g' := by
  intro s _ h
  rcases h with rfl | rfl <;> decide
/-- an owner in MI has no forward under way: then a PUTACK makes it no holder -/
theorem pr_tab_o8 : ∀ g : Bool, ∀ p ∈ pr_tab 8 g, p.2 = 2 → p.1 = [] := by decide
theorem pr_tab_n8 : ∀ g : Bool, ∀ p ∈ pr_tab 8 g, p.2 ≠ 2 → 7 ∉ p.1 → p.1 ≠ [] := by decide
