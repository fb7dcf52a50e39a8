/-! What holds of a block at all times -/
def pr_v (ow : Nat) (sh : Nat → Bool) (c : Nat) : Nat := if ow = c then 2 else if sh c = true then 1 else 0
def pr_g (c : Nat) (q : List pr_M) : Bool := decide (0 < pr_F 0 c q + pr_F 1 c q)
def pr_A (s : Nat → Nat) (ow : Nat) (sh : Nat → Bool) (q : List pr_M) (c : Nat) : Prop := (pr_fq c q, pr_v ow sh c) ∈ pr_tab (s c) (pr_g c q)
/-- who holds the block's word: a core (by its number), or the memory and what is on its way to it (4) -/
def pr_h (s : Nat → Nat) (d : Nat) (q : List pr_M) (i : Nat) : Prop :=
  (i = 4 ∧ (d ≤ 1 ∨ 0 < pr_T 8 4 q)) ∨ (¬ i = 4 ∧ (s i = 2 ∨ s i = 5 ∨ s i = 7 ∨ (s i = 8 ∧ pr_fq i q ≠ [7]) ∨ ((s i = 4 ∨ s i = 6) ∧ 0 < pr_T 8 i q)))
def pr_W (s : Nat → Nat) (d : Nat) (q : List pr_M) : Prop := ∀ i, i < 5 → ∀ j, j < 5 → ¬ i = j → pr_h s d q i → pr_h s d q j → False
def pr_7 (d : Nat) (q : List pr_M) : Prop := (d = 3 → pr_K 4 q + pr_T 8 4 q = 1) ∧ (¬ d = 3 → pr_K 4 q + pr_T 8 4 q = 0)
def pr_H (d ow : Nat) (sh : Nat → Bool) : Prop := d ≤ 3 ∧ (d = 2 → ow < 4) ∧ (¬ d = 2 → ow = 5) ∧ (d = 2 ∨ d = 0 → ∀ i, i < 4 → sh i = false)
def pr_sh (m : pr_M) : Prop := m.1 ≤ 9 ∧ (m.1 ≤ 3 → m.2.1 < 4 ∧ m.2.2.1 = 4) ∧ (4 ≤ m.1 ∧ m.1 ≤ 7 → m.2.1 = 4 ∧ m.2.2.1 < 4) ∧ (4 ≤ m.1 ∧ m.1 ≤ 6 → m.2.2.2.2 < 4 ∧ ¬ m.2.2.2.2 = m.2.2.1) ∧ (m.1 = 8 → m.2.1 ≤ 4 ∧ m.2.2.1 ≤ 4) ∧ (m.1 = 9 → m.2.1 < 4 ∧ m.2.2.1 < 4) ∧ (¬ (4 ≤ m.1 ∧ m.1 ≤ 6) → m.2.2.2.2 = 5) ∧ 0 ≤ m.2.2.2.1 ∧ m.2.2.2.1 ≤ 3
def pr_9 (q : List pr_M) : Prop := ∀ m ∈ q, pr_sh m
def pr_I (s : Nat → Nat) (ms : Nat → Int) (d ow : Nat) (sh : Nat → Bool) (q : List pr_M) : Prop :=
  (∀ i, i < 4 → pr_c s ms q i) ∧ (∀ i, i < 4 → pr_A s ow sh q i) ∧ pr_W s d q ∧ pr_7 d q ∧ pr_H d ow sh ∧ pr_9 q
theorem pr_W_sub {s s' : Nat → Nat} {d d' : Nat} {q q' : List pr_M} (h : pr_W s d q) (k : ∀ i, i < 5 → pr_h s' d' q' i → pr_h s d q i) : pr_W s' d' q' :=
  fun i hi j hj hij a b => h i hi j hj hij (k i hi a) (k j hj b)
theorem pr_W_move {s s' : Nat → Nat} {d d' : Nat} {q q' : List pr_M} (h : pr_W s d q) (x y : Nat) (hy : y < 5) (h1 : pr_h s d q y) (h2 : ¬ pr_h s' d' q' y) (k : ∀ i, i < 5 → ¬ i = x → pr_h s' d' q' i → pr_h s d q i) : pr_W s' d' q' := by
  intro i hi j hj hij a b
  have nj : ¬ j = y := fun z => h2 (z ▸ b)
  have ni : ¬ i = y := fun z => h2 (z ▸ a)
  by_cases hx : i = x
  · subst hx
    exact h j hj y hy nj (k j hj (fun z => hij z.symm) b) h1
  · exact h i hi y hy ni (k i hi hx a) h1
theorem pr_A_of {s s' : Nat → Nat} {ow ow' : Nat} {sh sh' : Nat → Bool} {q q' : List pr_M} {i : Nat} (h : pr_A s ow sh q i) (h1 : pr_fq i q' = pr_fq i q) (h2 : pr_v ow' sh' i = pr_v ow sh i) (h3 : s' i = s i) (h4 : pr_g i q' = pr_g i q) : pr_A s' ow' sh' q' i := by
  unfold pr_A
  rw [h1, h2, h3, h4]
  exact h
theorem pr_9_app {a b : List pr_M} (h : pr_9 a) (k : pr_9 b) : pr_9 (a ++ b) := fun m hm => (List.mem_append.mp hm).elim (h m) (k m)
theorem pr_9_del {a b : List pr_M} {m : pr_M} (h : pr_9 (a ++ m :: b)) : pr_9 (a ++ b) := fun x hx => h x ((List.mem_append.mp hx).elim (fun z => List.mem_append_left _ z) (fun z => List.mem_append_right _ (List.mem_cons_of_mem _ z)))
theorem pr_9_at {a b : List pr_M} {m : pr_M} (h : pr_9 (a ++ m :: b)) : pr_sh m := h m (List.mem_append_right _ List.mem_cons_self)
theorem pr_9_one {m : pr_M} (h : pr_sh m) : pr_9 [m] := fun x hx => by rw [List.mem_singleton.mp hx]; exact h
/-- the first forward to c, taken out -/
theorem pr_fq_pop {a b : List pr_M} {k f c r : Nat} {n : Int} (hk : 4 ≤ k ∧ k ≤ 7) (h : pr_fq c a = []) : pr_fq c (a ++ (k, f, c, n, r) :: b) = k :: pr_fq c (a ++ b) := by
  rw [pr_fq_app, pr_fq_app, h]
  simp [pr_fq, hk]
theorem pr_fq_del {a b : List pr_M} {k f t r c : Nat} {n : Int} (h : ¬ (4 ≤ k ∧ k ≤ 7 ∧ t = c)) : pr_fq c (a ++ (k, f, t, n, r) :: b) = pr_fq c (a ++ b) := by
  rw [pr_fq_app, pr_fq_app]
  simp only [pr_fq]
  rw [if_neg h]
theorem pr_g_eq {c : Nat} {q q' : List pr_M} (h : pr_F 0 c q' + pr_F 1 c q' = pr_F 0 c q + pr_F 1 c q) : pr_g c q' = pr_g c q := by
  unfold pr_g
  rw [h]
def pr_o (s : Nat → Nat) (q : List pr_M) (i : Nat) : Prop := s i = 2 ∨ s i = 5 ∨ s i = 7 ∨ (s i = 8 ∧ pr_fq i q ≠ [7]) ∨ ((s i = 4 ∨ s i = 6) ∧ 0 < pr_T 8 i q)
theorem pr_h_4 {s : Nat → Nat} {d : Nat} {q : List pr_M} : pr_h s d q 4 ↔ (d ≤ 1 ∨ 0 < pr_T 8 4 q) := by
  unfold pr_h
  simp
theorem pr_h_c {s : Nat → Nat} {d i : Nat} {q : List pr_M} (hi : i < 4) : pr_h s d q i ↔ pr_o s q i := by
  have h4 : ¬ i = 4 := by omega
  unfold pr_h pr_o
  simp [h4]
theorem pr_o_of {s s' : Nat → Nat} {q q' : List pr_M} {i : Nat} (e1 : s' i = s i) (e2 : pr_fq i q' = pr_fq i q) (e3 : pr_T 8 i q' = pr_T 8 i q) (h : pr_o s' q' i) : pr_o s q i := by
  unfold pr_o at *
  rw [e1, e2, e3] at h
  exact h
theorem pr_o_no {s : Nat → Nat} {q : List pr_M} {i : Nat} (h : s i = 0 ∨ s i = 1 ∨ s i = 3 ∨ s i = 9 ∨ s i = 10) : ¬ pr_o s q i := by
  unfold pr_o
  omega
theorem pr_W_s {s s' : Nat → Nat} {d d' : Nat} {q q' : List pr_M} (h : pr_W s d q) (k4 : (d' ≤ 1 ∨ 0 < pr_T 8 4 q') → (d ≤ 1 ∨ 0 < pr_T 8 4 q)) (k : ∀ i, i < 4 → pr_o s' q' i → pr_o s q i) : pr_W s' d' q' := by
  refine pr_W_sub h (fun i hi a => ?_)
  by_cases h4 : i = 4
  · subst h4
    exact pr_h_4.mpr (k4 (pr_h_4.mp a))
  · have hi4 : i < 4 := by omega
    exact (pr_h_c hi4).mpr (k i hi4 ((pr_h_c hi4).mp a))
/-- core y loses the word, x (a core, or 4) gets it -/
theorem pr_W_m {s s' : Nat → Nat} {d d' : Nat} {q q' : List pr_M} (h : pr_W s d q) (x y : Nat) (hy : y < 4) (h1 : pr_o s q y) (h2 : ¬ pr_o s' q' y) (k4 : ¬ x = 4 → (d' ≤ 1 ∨ 0 < pr_T 8 4 q') → (d ≤ 1 ∨ 0 < pr_T 8 4 q)) (k : ∀ i, i < 4 → ¬ i = x → pr_o s' q' i → pr_o s q i) : pr_W s' d' q' := by
  refine pr_W_move h x y (by omega) ((pr_h_c hy).mpr h1) (fun a => h2 ((pr_h_c hy).mp a)) (fun i hi hx a => ?_)
  by_cases h4 : i = 4
  · subst h4
    exact pr_h_4.mpr (k4 (fun z => hx z.symm) (pr_h_4.mp a))
  · have hi4 : i < 4 := by omega
    exact (pr_h_c hi4).mpr (k i hi4 hx ((pr_h_c hi4).mp a))
/-- the memory loses the word, core x gets it -/
theorem pr_W_4 {s s' : Nat → Nat} {d d' : Nat} {q q' : List pr_M} (h : pr_W s d q) (x : Nat) (h1 : d ≤ 1 ∨ 0 < pr_T 8 4 q) (h2 : ¬ (d' ≤ 1 ∨ 0 < pr_T 8 4 q')) (k : ∀ i, i < 4 → ¬ i = x → pr_o s' q' i → pr_o s q i) : pr_W s' d' q' := by
  refine pr_W_move h x 4 (by omega) (pr_h_4.mpr h1) (fun a => h2 (pr_h_4.mp a)) (fun i hi hx a => ?_)
  by_cases h4 : i = 4
  · subst h4
    exact absurd (pr_h_4.mp a) h2
  · have hi4 : i < 4 := by omega
    exact (pr_h_c hi4).mpr (k i hi4 hx ((pr_h_c hi4).mp a))
/-! single facts out of a core's numbers -/
theorem pr_c_gS {s : Nat → Nat} {ms : Nat → Int} {q : List pr_M} {c : Nat} (h : pr_c s ms q c) (hp : 0 < pr_F 0 c q + pr_R 4 c q) : s c = 3 := by
  unfold pr_c pr_C at h
  exact h.2.2.2.2.2.2.2.2.1 hp
theorem pr_c_gM {s : Nat → Nat} {ms : Nat → Int} {q : List pr_M} {c : Nat} (h : pr_c s ms q c) (hp : 0 < pr_F 1 c q + pr_R 5 c q) : s c = 4 ∨ s c = 6 := by
  unfold pr_c pr_C at h
  exact h.2.2.2.2.2.2.2.1 (by omega)
theorem pr_c_pS {s : Nat → Nat} {ms : Nat → Int} {q : List pr_M} {c : Nat} (h : pr_c s ms q c) (hp : 0 < pr_F 2 c q) : s c = 9 ∨ s c = 10 := by
  unfold pr_c pr_C at h
  exact h.2.2.2.2.2.2.2.2.2.1 hp
theorem pr_c_req {s : Nat → Nat} {ms : Nat → Int} {q : List pr_M} {c : Nat} (h : pr_c s ms q c) (hs : s c = 3 ∨ s c = 4 ∨ s c = 6) : pr_F 0 c q + pr_F 1 c q + pr_T 8 c q + pr_R 4 c q + pr_R 5 c q = 1 := by
  unfold pr_c pr_C at h
  exact h.2.1 hs
theorem pr_c_noD {s : Nat → Nat} {ms : Nat → Int} {q : List pr_M} {c : Nat} (h : pr_c s ms q c) (hs : ¬ (s c = 3 ∨ s c = 4 ∨ s c = 6)) : pr_F 0 c q + pr_F 1 c q + pr_T 8 c q + pr_R 4 c q + pr_R 5 c q = 0 := by
  unfold pr_c pr_C at h
  exact h.2.2.1 hs
theorem pr_c_put {s : Nat → Nat} {ms : Nat → Int} {q : List pr_M} {c : Nat} (h : pr_c s ms q c) (hp : 0 < pr_F 2 c q + pr_F 3 c q + pr_T 7 c q) : (s c = 8 ∨ s c = 9 ∨ s c = 10) ∧ pr_F 2 c q + pr_F 3 c q + pr_T 7 c q = 1 := by
  unfold pr_c pr_C at h
  have h1 := h.2.2.2.1
  have h2 := h.2.2.2.2.1
  clear h
  by_cases z : s c = 8 ∨ s c = 9 ∨ s c = 10
  · exact ⟨z, h1 z⟩
  · have := h2 z
    omega
theorem pr_c_le {s : Nat → Nat} {ms : Nat → Int} {q : List pr_M} {c : Nat} (h : pr_c s ms q c) : s c < 11 := by
  unfold pr_c pr_C at h
  have h1 := h.1
  clear h
  omega
theorem pr_c_inv {s : Nat → Nat} {ms : Nat → Int} {q : List pr_M} {c : Nat} (h : pr_c s ms q c) (hp : 0 < pr_R 6 c q) : pr_o s q c := by
  have f1 := pr_N_T c q
  have f3 := pr_N_D c q
  unfold pr_c pr_C at h
  have h6 := h.2.2.2.2.2.1
  have h7 := h.2.2.2.2.2.2.1
  have h8 := h.2.2.2.2.2.2.2.1
  have h13 := h.2.2.2.2.2.2.2.2.2.2.2.2
  clear h
  have : s c = 5 ∨ s c = 7 ∨ ((s c = 4 ∨ s c = 6) ∧ 0 < pr_T 8 c q) := by omega
  unfold pr_o
  rcases this with z | z | z
  · exact Or.inr (Or.inl z)
  · exact Or.inr (Or.inr (Or.inl z))
  · exact Or.inr (Or.inr (Or.inr (Or.inr z)))
