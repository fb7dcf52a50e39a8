/-! The document's machine for ONE block: lines s c, counts ms c, directory d, owner ow (5: none), sharers sh, the messages of the block in the order in which they were sent. A message: kind, sender, receiver, number, requester (5: none). -/
abbrev pr_M : Type := Nat × Nat × Nat × Int × Nat
/-- how many messages of a kind come from c, go to c, were asked for by c -/
def pr_F (k c : Nat) : List pr_M → Nat
  | [] => 0
  | m :: q => (if m.1 = k ∧ m.2.1 = c then 1 else 0) + pr_F k c q
def pr_T (k c : Nat) : List pr_M → Nat
  | [] => 0
  | m :: q => (if m.1 = k ∧ m.2.2.1 = c then 1 else 0) + pr_T k c q
def pr_R (k c : Nat) : List pr_M → Nat
  | [] => 0
  | m :: q => (if m.1 = k ∧ m.2.2.2.2 = c then 1 else 0) + pr_R k c q
/-- messages of a kind -/
def pr_K (k : Nat) : List pr_M → Nat
  | [] => 0
  | m :: q => (if m.1 = k then 1 else 0) + pr_K k q
/-- DATA to c with a number that isn't 0; the sum of the numbers of DATA to c -/
def pr_N (c : Nat) : List pr_M → Nat
  | [] => 0
  | m :: q => (if m.1 = 8 ∧ m.2.2.1 = c ∧ m.2.2.2.1 ≠ 0 then 1 else 0) + pr_N c q
def pr_D (c : Nat) : List pr_M → Int
  | [] => 0
  | m :: q => (if m.1 = 8 ∧ m.2.2.1 = c then m.2.2.2.1 else 0) + pr_D c q
/-- the forwards to c, by their kinds, in their order -/
def pr_fq (c : Nat) : List pr_M → List Nat
  | [] => []
  | m :: q => if 4 ≤ m.1 ∧ m.1 ≤ 7 ∧ m.2.2.1 = c then m.1 :: pr_fq c q else pr_fq c q
theorem pr_F_app (k c : Nat) (a b : List pr_M) : pr_F k c (a ++ b) = pr_F k c a + pr_F k c b := by
  induction a with
  | nil => simp [pr_F]
  | cons m a ih => simp only [List.cons_append, pr_F, ih, Nat.add_assoc]
theorem pr_T_app (k c : Nat) (a b : List pr_M) : pr_T k c (a ++ b) = pr_T k c a + pr_T k c b := by
  induction a with
  | nil => simp [pr_T]
  | cons m a ih => simp only [List.cons_append, pr_T, ih, Nat.add_assoc]
theorem pr_R_app (k c : Nat) (a b : List pr_M) : pr_R k c (a ++ b) = pr_R k c a + pr_R k c b := by
  induction a with
  | nil => simp [pr_R]
  | cons m a ih => simp only [List.cons_append, pr_R, ih, Nat.add_assoc]
theorem pr_K_app (k : Nat) (a b : List pr_M) : pr_K k (a ++ b) = pr_K k a + pr_K k b := by
  induction a with
  | nil => simp [pr_K]
  | cons m a ih => simp only [List.cons_append, pr_K, ih, Nat.add_assoc]
theorem pr_N_app (c : Nat) (a b : List pr_M) : pr_N c (a ++ b) = pr_N c a + pr_N c b := by
  induction a with
  | nil => simp [pr_N]
  | cons m a ih => simp only [List.cons_append, pr_N, ih, Nat.add_assoc]
theorem pr_D_app (c : Nat) (a b : List pr_M) : pr_D c (a ++ b) = pr_D c a + pr_D c b := by
  induction a with
  | nil => simp [pr_D]
  | cons m a ih => simp only [List.cons_append, pr_D, ih, Int.add_assoc]
theorem pr_fq_app (c : Nat) (a b : List pr_M) : pr_fq c (a ++ b) = pr_fq c a ++ pr_fq c b := by
  induction a with
  | nil => simp [pr_fq]
  | cons m a ih =>
    simp only [List.cons_append, pr_fq, ih]
    split <;> simp
theorem pr_N_D (c : Nat) (q : List pr_M) (h : pr_N c q = 0) : pr_D c q = 0 := by
  induction q with
  | nil => rfl
  | cons m q ih =>
    simp only [pr_N] at h
    simp only [pr_D]
    have h2 : pr_N c q = 0 := by omega
    rw [ih h2]
    by_cases h1 : m.1 = 8 ∧ m.2.2.1 = c
    · rw [if_pos h1]
      by_cases h3 : m.2.2.2.1 = 0
      · rw [h3]; rfl
      · rw [if_pos ⟨h1.1, h1.2, h3⟩] at h
        omega
    · rw [if_neg h1]; rfl
theorem pr_N_T (c : Nat) (q : List pr_M) : pr_N c q ≤ pr_T 8 c q := by
  induction q with
  | nil => simp [pr_N]
  | cons m q ih =>
    simp only [pr_N, pr_T]
    by_cases h1 : m.1 = 8 ∧ m.2.2.1 = c
    · rw [if_pos h1]
      split <;> omega
    · rw [if_neg h1, if_neg (fun h => h1 ⟨h.1, h.2.1⟩)]
      omega
theorem pr_fq_7 (c : Nat) (q : List pr_M) (h : pr_T 7 c q = 0) : 7 ∉ pr_fq c q := by
  induction q with
  | nil => simp [pr_fq]
  | cons m q ih =>
    simp only [pr_T] at h
    have h2 : pr_T 7 c q = 0 := by omega
    simp only [pr_fq]
    split
    · rename_i h3
      intro h4
      rcases List.mem_cons.mp h4 with h5 | h5
      · rw [if_pos ⟨h5.symm, h3.2.2⟩] at h
        omega
      · exact ih h2 h5
    · exact ih h2
theorem pr_fq_6 (c : Nat) (q : List pr_M) (h : 6 ∈ pr_fq c q) : ∃ m ∈ q, m.1 = 6 ∧ m.2.2.1 = c := by
  induction q with
  | nil => simp [pr_fq] at h
  | cons m q ih =>
    simp only [pr_fq] at h
    split at h
    · rename_i h3
      rcases List.mem_cons.mp h with h5 | h5
      · exact ⟨m, List.mem_cons_self, h5.symm, h3.2.2⟩
      · obtain ⟨x, h6, h7⟩ := ih h5
        exact ⟨x, List.mem_cons_of_mem _ h6, h7⟩
    · obtain ⟨x, h6, h7⟩ := ih h
      exact ⟨x, List.mem_cons_of_mem _ h6, h7⟩
theorem pr_R_in (k c : Nat) (q : List pr_M) (m : pr_M) (h : m ∈ q) (h1 : m.1 = k) (h2 : m.2.2.2.2 = c) : 0 < pr_R k c q := by
  induction q with
  | nil => cases h
  | cons x q ih =>
    simp only [pr_R]
    rcases List.mem_cons.mp h with h5 | h5
    · subst h5
      rw [if_pos ⟨h1, h2⟩]
      omega
    · have := ih h5
      omega
/-- what the numbers of one core say: its line, its count, then GETS, GETM from it, DATA to it, FWDS, FWDM asked for by it, PUTS, PUTM from it, PUTACK to it, INV asked for by it, ACK to it, DATA to it with a number, the numbers' sum -/
def pr_C (s : Nat) (ms : Int) (gS gM dT fS fM pS pM pA iV aK dN : Nat) (sD : Int) : Prop :=
  s ≤ 10 ∧ (s = 3 ∨ s = 4 ∨ s = 6 → gS + gM + dT + fS + fM = 1) ∧ (¬ (s = 3 ∨ s = 4 ∨ s = 6) → gS + gM + dT + fS + fM = 0) ∧
  (s = 8 ∨ s = 9 ∨ s = 10 → pS + pM + pA = 1) ∧ (¬ (s = 8 ∨ s = 9 ∨ s = 10) → pS + pM + pA = 0) ∧
  (4 ≤ s ∧ s ≤ 7 → ms + sD = iV + aK) ∧ (¬ (4 ≤ s ∧ s ≤ 7) → sD = iV + aK) ∧
  (0 < gM + fM + dN → s = 4 ∨ s = 6) ∧ (0 < gS + fS → s = 3) ∧ (0 < pS → s = 9 ∨ s = 10) ∧
  (0 < gM + fM → iV + aK = 0 ∧ ms = 0) ∧ iV + aK ≤ 3 ∧ (s = 4 ∨ s = 6 → ms ≤ 0)
def pr_c (s : Nat → Nat) (ms : Nat → Int) (q : List pr_M) (c : Nat) : Prop :=
  pr_C (s c) (ms c) (pr_F 0 c q) (pr_F 1 c q) (pr_T 8 c q) (pr_R 4 c q) (pr_R 5 c q) (pr_F 2 c q) (pr_F 3 c q) (pr_T 7 c q) (pr_R 6 c q) (pr_T 9 c q) (pr_N c q) (pr_D c q)
def pr_up {α : Type} (f : Nat → α) (k : Nat) (x : α) : Nat → α := fun j => if j = k then x else f j
theorem pr_up_s {α : Type} (f : Nat → α) (k : Nat) (x : α) : pr_up f k x k = x := if_pos rfl
theorem pr_up_n {α : Type} (f : Nat → α) (k : Nat) (x : α) {j : Nat} (h : ¬ j = k) : pr_up f k x j = f j := if_neg h
theorem pr_c_of {s s' : Nat → Nat} {ms ms' : Nat → Int} {q q' : List pr_M} {i : Nat} (h : pr_c s ms q i) (e0 : pr_F 0 i q' = pr_F 0 i q) (e1 : pr_F 1 i q' = pr_F 1 i q) (e2 : pr_T 8 i q' = pr_T 8 i q) (e3 : pr_R 4 i q' = pr_R 4 i q) (e4 : pr_R 5 i q' = pr_R 5 i q) (e5 : pr_F 2 i q' = pr_F 2 i q) (e6 : pr_F 3 i q' = pr_F 3 i q) (e7 : pr_T 7 i q' = pr_T 7 i q) (e8 : pr_R 6 i q' = pr_R 6 i q) (e9 : pr_T 9 i q' = pr_T 9 i q) (e10 : pr_N i q' = pr_N i q) (e11 : pr_D i q' = pr_D i q) (es : s' i = s i) (em : ms' i = ms i) : pr_c s' ms' q' i := by
  unfold pr_c at *
  rw [e0, e1, e2, e3, e4, e5, e6, e7, e8, e9, e10, e11, es, em]
  exact h
/-- a core asks to read -/
theorem pr_c_R1 {s : Nat → Nat} {ms : Nat → Int} {q : List pr_M} {c : Nat} (H : ∀ i, i < 4 → pr_c s ms (q) i) (hc : c < 4) (hs : s c = 0) : ∀ i, i < 4 → pr_c (pr_up s c 3) ms (q ++ [(0, c, 4, 0, 5)]) i := by
  intro i hi
  have h := H i hi
  clear H
  have g4 : ¬ 4 = i := by omega
  by_cases hc : i = c
  · subst hc
    unfold pr_c pr_C at h ⊢
    simp only [pr_F_app, pr_T_app, pr_R_app, pr_N_app, pr_D_app, pr_F, pr_T, pr_R, pr_N, pr_D] at h ⊢
    have f1 := pr_N_T i q
    have f3 := pr_N_D i q
    have hk := hs
    (simp [pr_up, g4, hk] at h ⊢) <;> omega
  · have gc : ¬ c = i := fun z => hc z.symm
    exact pr_c_of h (by simp [pr_F_app, pr_T_app, pr_R_app, pr_N_app, pr_D_app, pr_F, pr_T, pr_R, pr_N, pr_D, gc, g4]) (by simp [pr_F_app, pr_T_app, pr_R_app, pr_N_app, pr_D_app, pr_F, pr_T, pr_R, pr_N, pr_D, gc, g4]) (by simp [pr_F_app, pr_T_app, pr_R_app, pr_N_app, pr_D_app, pr_F, pr_T, pr_R, pr_N, pr_D, gc, g4]) (by simp [pr_F_app, pr_T_app, pr_R_app, pr_N_app, pr_D_app, pr_F, pr_T, pr_R, pr_N, pr_D, gc, g4]) (by simp [pr_F_app, pr_T_app, pr_R_app, pr_N_app, pr_D_app, pr_F, pr_T, pr_R, pr_N, pr_D, gc, g4]) (by simp [pr_F_app, pr_T_app, pr_R_app, pr_N_app, pr_D_app, pr_F, pr_T, pr_R, pr_N, pr_D, gc, g4]) (by simp [pr_F_app, pr_T_app, pr_R_app, pr_N_app, pr_D_app, pr_F, pr_T, pr_R, pr_N, pr_D, gc, g4]) (by simp [pr_F_app, pr_T_app, pr_R_app, pr_N_app, pr_D_app, pr_F, pr_T, pr_R, pr_N, pr_D, gc, g4]) (by simp [pr_F_app, pr_T_app, pr_R_app, pr_N_app, pr_D_app, pr_F, pr_T, pr_R, pr_N, pr_D, gc, g4]) (by simp [pr_F_app, pr_T_app, pr_R_app, pr_N_app, pr_D_app, pr_F, pr_T, pr_R, pr_N, pr_D, gc, g4]) (by simp [pr_F_app, pr_T_app, pr_R_app, pr_N_app, pr_D_app, pr_F, pr_T, pr_R, pr_N, pr_D, gc, g4]) (by simp [pr_F_app, pr_T_app, pr_R_app, pr_N_app, pr_D_app, pr_F, pr_T, pr_R, pr_N, pr_D, gc, g4]) (pr_up_n _ _ _ hc) (rfl)
/-- a core without the line asks to write -/
theorem pr_c_R2 {s : Nat → Nat} {ms : Nat → Int} {q : List pr_M} {c : Nat} (H : ∀ i, i < 4 → pr_c s ms (q) i) (hc : c < 4) (hs : s c = 0) : ∀ i, i < 4 → pr_c (pr_up s c 4) (pr_up ms c 0) (q ++ [(1, c, 4, 0, 5)]) i := by
  intro i hi
  have h := H i hi
  clear H
  have g4 : ¬ 4 = i := by omega
  by_cases hc : i = c
  · subst hc
    unfold pr_c pr_C at h ⊢
    simp only [pr_F_app, pr_T_app, pr_R_app, pr_N_app, pr_D_app, pr_F, pr_T, pr_R, pr_N, pr_D] at h ⊢
    have f1 := pr_N_T i q
    have f3 := pr_N_D i q
    have hk := hs
    (simp [pr_up, g4, hk] at h ⊢) <;> omega
  · have gc : ¬ c = i := fun z => hc z.symm
    exact pr_c_of h (by simp [pr_F_app, pr_T_app, pr_R_app, pr_N_app, pr_D_app, pr_F, pr_T, pr_R, pr_N, pr_D, gc, g4]) (by simp [pr_F_app, pr_T_app, pr_R_app, pr_N_app, pr_D_app, pr_F, pr_T, pr_R, pr_N, pr_D, gc, g4]) (by simp [pr_F_app, pr_T_app, pr_R_app, pr_N_app, pr_D_app, pr_F, pr_T, pr_R, pr_N, pr_D, gc, g4]) (by simp [pr_F_app, pr_T_app, pr_R_app, pr_N_app, pr_D_app, pr_F, pr_T, pr_R, pr_N, pr_D, gc, g4]) (by simp [pr_F_app, pr_T_app, pr_R_app, pr_N_app, pr_D_app, pr_F, pr_T, pr_R, pr_N, pr_D, gc, g4]) (by simp [pr_F_app, pr_T_app, pr_R_app, pr_N_app, pr_D_app, pr_F, pr_T, pr_R, pr_N, pr_D, gc, g4]) (by simp [pr_F_app, pr_T_app, pr_R_app, pr_N_app, pr_D_app, pr_F, pr_T, pr_R, pr_N, pr_D, gc, g4]) (by simp [pr_F_app, pr_T_app, pr_R_app, pr_N_app, pr_D_app, pr_F, pr_T, pr_R, pr_N, pr_D, gc, g4]) (by simp [pr_F_app, pr_T_app, pr_R_app, pr_N_app, pr_D_app, pr_F, pr_T, pr_R, pr_N, pr_D, gc, g4]) (by simp [pr_F_app, pr_T_app, pr_R_app, pr_N_app, pr_D_app, pr_F, pr_T, pr_R, pr_N, pr_D, gc, g4]) (by simp [pr_F_app, pr_T_app, pr_R_app, pr_N_app, pr_D_app, pr_F, pr_T, pr_R, pr_N, pr_D, gc, g4]) (by simp [pr_F_app, pr_T_app, pr_R_app, pr_N_app, pr_D_app, pr_F, pr_T, pr_R, pr_N, pr_D, gc, g4]) (pr_up_n _ _ _ hc) (pr_up_n _ _ _ hc)
/-- a core that shares asks to write -/
theorem pr_c_R3 {s : Nat → Nat} {ms : Nat → Int} {q : List pr_M} {c : Nat} (H : ∀ i, i < 4 → pr_c s ms (q) i) (hc : c < 4) (hs : s c = 1) : ∀ i, i < 4 → pr_c (pr_up s c 6) (pr_up ms c 0) (q ++ [(1, c, 4, 0, 5)]) i := by
  intro i hi
  have h := H i hi
  clear H
  have g4 : ¬ 4 = i := by omega
  by_cases hc : i = c
  · subst hc
    unfold pr_c pr_C at h ⊢
    simp only [pr_F_app, pr_T_app, pr_R_app, pr_N_app, pr_D_app, pr_F, pr_T, pr_R, pr_N, pr_D] at h ⊢
    have f1 := pr_N_T i q
    have f3 := pr_N_D i q
    have hk := hs
    (simp [pr_up, g4, hk] at h ⊢) <;> omega
  · have gc : ¬ c = i := fun z => hc z.symm
    exact pr_c_of h (by simp [pr_F_app, pr_T_app, pr_R_app, pr_N_app, pr_D_app, pr_F, pr_T, pr_R, pr_N, pr_D, gc, g4]) (by simp [pr_F_app, pr_T_app, pr_R_app, pr_N_app, pr_D_app, pr_F, pr_T, pr_R, pr_N, pr_D, gc, g4]) (by simp [pr_F_app, pr_T_app, pr_R_app, pr_N_app, pr_D_app, pr_F, pr_T, pr_R, pr_N, pr_D, gc, g4]) (by simp [pr_F_app, pr_T_app, pr_R_app, pr_N_app, pr_D_app, pr_F, pr_T, pr_R, pr_N, pr_D, gc, g4]) (by simp [pr_F_app, pr_T_app, pr_R_app, pr_N_app, pr_D_app, pr_F, pr_T, pr_R, pr_N, pr_D, gc, g4]) (by simp [pr_F_app, pr_T_app, pr_R_app, pr_N_app, pr_D_app, pr_F, pr_T, pr_R, pr_N, pr_D, gc, g4]) (by simp [pr_F_app, pr_T_app, pr_R_app, pr_N_app, pr_D_app, pr_F, pr_T, pr_R, pr_N, pr_D, gc, g4]) (by simp [pr_F_app, pr_T_app, pr_R_app, pr_N_app, pr_D_app, pr_F, pr_T, pr_R, pr_N, pr_D, gc, g4]) (by simp [pr_F_app, pr_T_app, pr_R_app, pr_N_app, pr_D_app, pr_F, pr_T, pr_R, pr_N, pr_D, gc, g4]) (by simp [pr_F_app, pr_T_app, pr_R_app, pr_N_app, pr_D_app, pr_F, pr_T, pr_R, pr_N, pr_D, gc, g4]) (by simp [pr_F_app, pr_T_app, pr_R_app, pr_N_app, pr_D_app, pr_F, pr_T, pr_R, pr_N, pr_D, gc, g4]) (by simp [pr_F_app, pr_T_app, pr_R_app, pr_N_app, pr_D_app, pr_F, pr_T, pr_R, pr_N, pr_D, gc, g4]) (pr_up_n _ _ _ hc) (pr_up_n _ _ _ hc)
/-- a core gives a shared line back -/
theorem pr_c_R4 {s : Nat → Nat} {ms : Nat → Int} {q : List pr_M} {c : Nat} (H : ∀ i, i < 4 → pr_c s ms (q) i) (hc : c < 4) (hs : s c = 1) : ∀ i, i < 4 → pr_c (pr_up s c 9) ms (q ++ [(2, c, 4, 0, 5)]) i := by
  intro i hi
  have h := H i hi
  clear H
  have g4 : ¬ 4 = i := by omega
  by_cases hc : i = c
  · subst hc
    unfold pr_c pr_C at h ⊢
    simp only [pr_F_app, pr_T_app, pr_R_app, pr_N_app, pr_D_app, pr_F, pr_T, pr_R, pr_N, pr_D] at h ⊢
    have f1 := pr_N_T i q
    have f3 := pr_N_D i q
    have hk := hs
    (simp [pr_up, g4, hk] at h ⊢) <;> omega
  · have gc : ¬ c = i := fun z => hc z.symm
    exact pr_c_of h (by simp [pr_F_app, pr_T_app, pr_R_app, pr_N_app, pr_D_app, pr_F, pr_T, pr_R, pr_N, pr_D, gc, g4]) (by simp [pr_F_app, pr_T_app, pr_R_app, pr_N_app, pr_D_app, pr_F, pr_T, pr_R, pr_N, pr_D, gc, g4]) (by simp [pr_F_app, pr_T_app, pr_R_app, pr_N_app, pr_D_app, pr_F, pr_T, pr_R, pr_N, pr_D, gc, g4]) (by simp [pr_F_app, pr_T_app, pr_R_app, pr_N_app, pr_D_app, pr_F, pr_T, pr_R, pr_N, pr_D, gc, g4]) (by simp [pr_F_app, pr_T_app, pr_R_app, pr_N_app, pr_D_app, pr_F, pr_T, pr_R, pr_N, pr_D, gc, g4]) (by simp [pr_F_app, pr_T_app, pr_R_app, pr_N_app, pr_D_app, pr_F, pr_T, pr_R, pr_N, pr_D, gc, g4]) (by simp [pr_F_app, pr_T_app, pr_R_app, pr_N_app, pr_D_app, pr_F, pr_T, pr_R, pr_N, pr_D, gc, g4]) (by simp [pr_F_app, pr_T_app, pr_R_app, pr_N_app, pr_D_app, pr_F, pr_T, pr_R, pr_N, pr_D, gc, g4]) (by simp [pr_F_app, pr_T_app, pr_R_app, pr_N_app, pr_D_app, pr_F, pr_T, pr_R, pr_N, pr_D, gc, g4]) (by simp [pr_F_app, pr_T_app, pr_R_app, pr_N_app, pr_D_app, pr_F, pr_T, pr_R, pr_N, pr_D, gc, g4]) (by simp [pr_F_app, pr_T_app, pr_R_app, pr_N_app, pr_D_app, pr_F, pr_T, pr_R, pr_N, pr_D, gc, g4]) (by simp [pr_F_app, pr_T_app, pr_R_app, pr_N_app, pr_D_app, pr_F, pr_T, pr_R, pr_N, pr_D, gc, g4]) (pr_up_n _ _ _ hc) (rfl)
/-- a core gives an owned line back -/
theorem pr_c_R5 {s : Nat → Nat} {ms : Nat → Int} {q : List pr_M} {c : Nat} (H : ∀ i, i < 4 → pr_c s ms (q) i) (hc : c < 4) (hs : s c = 2) : ∀ i, i < 4 → pr_c (pr_up s c 8) ms (q ++ [(3, c, 4, 0, 5)]) i := by
  intro i hi
  have h := H i hi
  clear H
  have g4 : ¬ 4 = i := by omega
  by_cases hc : i = c
  · subst hc
    unfold pr_c pr_C at h ⊢
    simp only [pr_F_app, pr_T_app, pr_R_app, pr_N_app, pr_D_app, pr_F, pr_T, pr_R, pr_N, pr_D] at h ⊢
    have f1 := pr_N_T i q
    have f3 := pr_N_D i q
    have hk := hs
    (simp [pr_up, g4, hk] at h ⊢) <;> omega
  · have gc : ¬ c = i := fun z => hc z.symm
    exact pr_c_of h (by simp [pr_F_app, pr_T_app, pr_R_app, pr_N_app, pr_D_app, pr_F, pr_T, pr_R, pr_N, pr_D, gc, g4]) (by simp [pr_F_app, pr_T_app, pr_R_app, pr_N_app, pr_D_app, pr_F, pr_T, pr_R, pr_N, pr_D, gc, g4]) (by simp [pr_F_app, pr_T_app, pr_R_app, pr_N_app, pr_D_app, pr_F, pr_T, pr_R, pr_N, pr_D, gc, g4]) (by simp [pr_F_app, pr_T_app, pr_R_app, pr_N_app, pr_D_app, pr_F, pr_T, pr_R, pr_N, pr_D, gc, g4]) (by simp [pr_F_app, pr_T_app, pr_R_app, pr_N_app, pr_D_app, pr_F, pr_T, pr_R, pr_N, pr_D, gc, g4]) (by simp [pr_F_app, pr_T_app, pr_R_app, pr_N_app, pr_D_app, pr_F, pr_T, pr_R, pr_N, pr_D, gc, g4]) (by simp [pr_F_app, pr_T_app, pr_R_app, pr_N_app, pr_D_app, pr_F, pr_T, pr_R, pr_N, pr_D, gc, g4]) (by simp [pr_F_app, pr_T_app, pr_R_app, pr_N_app, pr_D_app, pr_F, pr_T, pr_R, pr_N, pr_D, gc, g4]) (by simp [pr_F_app, pr_T_app, pr_R_app, pr_N_app, pr_D_app, pr_F, pr_T, pr_R, pr_N, pr_D, gc, g4]) (by simp [pr_F_app, pr_T_app, pr_R_app, pr_N_app, pr_D_app, pr_F, pr_T, pr_R, pr_N, pr_D, gc, g4]) (by simp [pr_F_app, pr_T_app, pr_R_app, pr_N_app, pr_D_app, pr_F, pr_T, pr_R, pr_N, pr_D, gc, g4]) (by simp [pr_F_app, pr_T_app, pr_R_app, pr_N_app, pr_D_app, pr_F, pr_T, pr_R, pr_N, pr_D, gc, g4]) (pr_up_n _ _ _ hc) (rfl)
/-- GETS at the home, owned: FWDS -/
theorem pr_c_D0a {s : Nat → Nat} {ms : Nat → Int} {a b : List pr_M} {r o : Nat} {n : Int} {x : Nat} (H : ∀ i, i < 4 → pr_c s ms (a ++ (0, r, 4, n, x) :: b) i) (hr : r < 4) : ∀ i, i < 4 → pr_c s ms (a ++ b ++ [(4, 4, o, 0, r)]) i := by
  intro i hi
  have h := H i hi
  clear H
  have g4 : ¬ 4 = i := by omega
  by_cases hr : i = r
  · subst hr
    unfold pr_c pr_C at h ⊢
    simp only [pr_F_app, pr_T_app, pr_R_app, pr_N_app, pr_D_app, pr_F, pr_T, pr_R, pr_N, pr_D] at h ⊢
    have f1 := pr_N_T i a
    have f2 := pr_N_T i b
    have f3 := pr_N_D i a
    have f4 := pr_N_D i b
    have hk : s i = 3 := h.2.2.2.2.2.2.2.2.1 (by simp; omega)
    (simp [pr_up, g4, hk] at h ⊢) <;> omega
  · have gr : ¬ r = i := fun z => hr z.symm
    exact pr_c_of h (by simp [pr_F_app, pr_T_app, pr_R_app, pr_N_app, pr_D_app, pr_F, pr_T, pr_R, pr_N, pr_D, gr, g4]) (by simp [pr_F_app, pr_T_app, pr_R_app, pr_N_app, pr_D_app, pr_F, pr_T, pr_R, pr_N, pr_D, gr, g4]) (by simp [pr_F_app, pr_T_app, pr_R_app, pr_N_app, pr_D_app, pr_F, pr_T, pr_R, pr_N, pr_D, gr, g4]) (by simp [pr_F_app, pr_T_app, pr_R_app, pr_N_app, pr_D_app, pr_F, pr_T, pr_R, pr_N, pr_D, gr, g4]) (by simp [pr_F_app, pr_T_app, pr_R_app, pr_N_app, pr_D_app, pr_F, pr_T, pr_R, pr_N, pr_D, gr, g4]) (by simp [pr_F_app, pr_T_app, pr_R_app, pr_N_app, pr_D_app, pr_F, pr_T, pr_R, pr_N, pr_D, gr, g4]) (by simp [pr_F_app, pr_T_app, pr_R_app, pr_N_app, pr_D_app, pr_F, pr_T, pr_R, pr_N, pr_D, gr, g4]) (by simp [pr_F_app, pr_T_app, pr_R_app, pr_N_app, pr_D_app, pr_F, pr_T, pr_R, pr_N, pr_D, gr, g4]) (by simp [pr_F_app, pr_T_app, pr_R_app, pr_N_app, pr_D_app, pr_F, pr_T, pr_R, pr_N, pr_D, gr, g4]) (by simp [pr_F_app, pr_T_app, pr_R_app, pr_N_app, pr_D_app, pr_F, pr_T, pr_R, pr_N, pr_D, gr, g4]) (by simp [pr_F_app, pr_T_app, pr_R_app, pr_N_app, pr_D_app, pr_F, pr_T, pr_R, pr_N, pr_D, gr, g4]) (by simp [pr_F_app, pr_T_app, pr_R_app, pr_N_app, pr_D_app, pr_F, pr_T, pr_R, pr_N, pr_D, gr, g4]) (rfl) (rfl)
/-- GETS at the home, not owned: DATA -/
theorem pr_c_D0b {s : Nat → Nat} {ms : Nat → Int} {a b : List pr_M} {r : Nat} {n : Int} {x : Nat} (H : ∀ i, i < 4 → pr_c s ms (a ++ (0, r, 4, n, x) :: b) i) (hr : r < 4) : ∀ i, i < 4 → pr_c s ms (a ++ b ++ [(8, 4, r, 0, 5)]) i := by
  intro i hi
  have h := H i hi
  clear H
  have g4 : ¬ 4 = i := by omega
  by_cases hr : i = r
  · subst hr
    unfold pr_c pr_C at h ⊢
    simp only [pr_F_app, pr_T_app, pr_R_app, pr_N_app, pr_D_app, pr_F, pr_T, pr_R, pr_N, pr_D] at h ⊢
    have f1 := pr_N_T i a
    have f2 := pr_N_T i b
    have f3 := pr_N_D i a
    have f4 := pr_N_D i b
    have hk : s i = 3 := h.2.2.2.2.2.2.2.2.1 (by simp; omega)
    (simp [pr_up, g4, hk] at h ⊢) <;> omega
  · have gr : ¬ r = i := fun z => hr z.symm
    exact pr_c_of h (by simp [pr_F_app, pr_T_app, pr_R_app, pr_N_app, pr_D_app, pr_F, pr_T, pr_R, pr_N, pr_D, gr, g4]) (by simp [pr_F_app, pr_T_app, pr_R_app, pr_N_app, pr_D_app, pr_F, pr_T, pr_R, pr_N, pr_D, gr, g4]) (by simp [pr_F_app, pr_T_app, pr_R_app, pr_N_app, pr_D_app, pr_F, pr_T, pr_R, pr_N, pr_D, gr, g4]) (by simp [pr_F_app, pr_T_app, pr_R_app, pr_N_app, pr_D_app, pr_F, pr_T, pr_R, pr_N, pr_D, gr, g4]) (by simp [pr_F_app, pr_T_app, pr_R_app, pr_N_app, pr_D_app, pr_F, pr_T, pr_R, pr_N, pr_D, gr, g4]) (by simp [pr_F_app, pr_T_app, pr_R_app, pr_N_app, pr_D_app, pr_F, pr_T, pr_R, pr_N, pr_D, gr, g4]) (by simp [pr_F_app, pr_T_app, pr_R_app, pr_N_app, pr_D_app, pr_F, pr_T, pr_R, pr_N, pr_D, gr, g4]) (by simp [pr_F_app, pr_T_app, pr_R_app, pr_N_app, pr_D_app, pr_F, pr_T, pr_R, pr_N, pr_D, gr, g4]) (by simp [pr_F_app, pr_T_app, pr_R_app, pr_N_app, pr_D_app, pr_F, pr_T, pr_R, pr_N, pr_D, gr, g4]) (by simp [pr_F_app, pr_T_app, pr_R_app, pr_N_app, pr_D_app, pr_F, pr_T, pr_R, pr_N, pr_D, gr, g4]) (by simp [pr_F_app, pr_T_app, pr_R_app, pr_N_app, pr_D_app, pr_F, pr_T, pr_R, pr_N, pr_D, gr, g4]) (by simp [pr_F_app, pr_T_app, pr_R_app, pr_N_app, pr_D_app, pr_F, pr_T, pr_R, pr_N, pr_D, gr, g4]) (rfl) (rfl)
/-- GETM at the home, owned: FWDM -/
theorem pr_c_D1a {s : Nat → Nat} {ms : Nat → Int} {a b : List pr_M} {r o : Nat} {n : Int} {x : Nat} (H : ∀ i, i < 4 → pr_c s ms (a ++ (1, r, 4, n, x) :: b) i) (hr : r < 4) : ∀ i, i < 4 → pr_c s ms (a ++ b ++ [(5, 4, o, 0, r)]) i := by
  intro i hi
  have h := H i hi
  clear H
  have g4 : ¬ 4 = i := by omega
  by_cases hr : i = r
  · subst hr
    unfold pr_c pr_C at h ⊢
    simp only [pr_F_app, pr_T_app, pr_R_app, pr_N_app, pr_D_app, pr_F, pr_T, pr_R, pr_N, pr_D] at h ⊢
    have f1 := pr_N_T i a
    have f2 := pr_N_T i b
    have f3 := pr_N_D i a
    have f4 := pr_N_D i b
    have hk : s i = 4 ∨ s i = 6 := h.2.2.2.2.2.2.2.1 (by simp; omega)
    rcases hk with hk | hk
    · (simp [pr_up, g4, hk] at h ⊢) <;> omega
    · (simp [pr_up, g4, hk] at h ⊢) <;> omega
  · have gr : ¬ r = i := fun z => hr z.symm
    exact pr_c_of h (by simp [pr_F_app, pr_T_app, pr_R_app, pr_N_app, pr_D_app, pr_F, pr_T, pr_R, pr_N, pr_D, gr, g4]) (by simp [pr_F_app, pr_T_app, pr_R_app, pr_N_app, pr_D_app, pr_F, pr_T, pr_R, pr_N, pr_D, gr, g4]) (by simp [pr_F_app, pr_T_app, pr_R_app, pr_N_app, pr_D_app, pr_F, pr_T, pr_R, pr_N, pr_D, gr, g4]) (by simp [pr_F_app, pr_T_app, pr_R_app, pr_N_app, pr_D_app, pr_F, pr_T, pr_R, pr_N, pr_D, gr, g4]) (by simp [pr_F_app, pr_T_app, pr_R_app, pr_N_app, pr_D_app, pr_F, pr_T, pr_R, pr_N, pr_D, gr, g4]) (by simp [pr_F_app, pr_T_app, pr_R_app, pr_N_app, pr_D_app, pr_F, pr_T, pr_R, pr_N, pr_D, gr, g4]) (by simp [pr_F_app, pr_T_app, pr_R_app, pr_N_app, pr_D_app, pr_F, pr_T, pr_R, pr_N, pr_D, gr, g4]) (by simp [pr_F_app, pr_T_app, pr_R_app, pr_N_app, pr_D_app, pr_F, pr_T, pr_R, pr_N, pr_D, gr, g4]) (by simp [pr_F_app, pr_T_app, pr_R_app, pr_N_app, pr_D_app, pr_F, pr_T, pr_R, pr_N, pr_D, gr, g4]) (by simp [pr_F_app, pr_T_app, pr_R_app, pr_N_app, pr_D_app, pr_F, pr_T, pr_R, pr_N, pr_D, gr, g4]) (by simp [pr_F_app, pr_T_app, pr_R_app, pr_N_app, pr_D_app, pr_F, pr_T, pr_R, pr_N, pr_D, gr, g4]) (by simp [pr_F_app, pr_T_app, pr_R_app, pr_N_app, pr_D_app, pr_F, pr_T, pr_R, pr_N, pr_D, gr, g4]) (rfl) (rfl)
/-- PUTS at the home -/
theorem pr_c_D2 {s : Nat → Nat} {ms : Nat → Int} {a b : List pr_M} {r : Nat} {n : Int} {x : Nat} (H : ∀ i, i < 4 → pr_c s ms (a ++ (2, r, 4, n, x) :: b) i) (hr : r < 4) : ∀ i, i < 4 → pr_c s ms (a ++ b ++ [(7, 4, r, 0, 5)]) i := by
  intro i hi
  have h := H i hi
  clear H
  have g4 : ¬ 4 = i := by omega
  by_cases hr : i = r
  · subst hr
    unfold pr_c pr_C at h ⊢
    simp only [pr_F_app, pr_T_app, pr_R_app, pr_N_app, pr_D_app, pr_F, pr_T, pr_R, pr_N, pr_D] at h ⊢
    have f1 := pr_N_T i a
    have f2 := pr_N_T i b
    have f3 := pr_N_D i a
    have f4 := pr_N_D i b
    have hk : s i = 9 ∨ s i = 10 := h.2.2.2.2.2.2.2.2.2.1 (by simp; omega)
    rcases hk with hk | hk
    · (simp [pr_up, g4, hk] at h ⊢) <;> omega
    · (simp [pr_up, g4, hk] at h ⊢) <;> omega
  · have gr : ¬ r = i := fun z => hr z.symm
    exact pr_c_of h (by simp [pr_F_app, pr_T_app, pr_R_app, pr_N_app, pr_D_app, pr_F, pr_T, pr_R, pr_N, pr_D, gr, g4]) (by simp [pr_F_app, pr_T_app, pr_R_app, pr_N_app, pr_D_app, pr_F, pr_T, pr_R, pr_N, pr_D, gr, g4]) (by simp [pr_F_app, pr_T_app, pr_R_app, pr_N_app, pr_D_app, pr_F, pr_T, pr_R, pr_N, pr_D, gr, g4]) (by simp [pr_F_app, pr_T_app, pr_R_app, pr_N_app, pr_D_app, pr_F, pr_T, pr_R, pr_N, pr_D, gr, g4]) (by simp [pr_F_app, pr_T_app, pr_R_app, pr_N_app, pr_D_app, pr_F, pr_T, pr_R, pr_N, pr_D, gr, g4]) (by simp [pr_F_app, pr_T_app, pr_R_app, pr_N_app, pr_D_app, pr_F, pr_T, pr_R, pr_N, pr_D, gr, g4]) (by simp [pr_F_app, pr_T_app, pr_R_app, pr_N_app, pr_D_app, pr_F, pr_T, pr_R, pr_N, pr_D, gr, g4]) (by simp [pr_F_app, pr_T_app, pr_R_app, pr_N_app, pr_D_app, pr_F, pr_T, pr_R, pr_N, pr_D, gr, g4]) (by simp [pr_F_app, pr_T_app, pr_R_app, pr_N_app, pr_D_app, pr_F, pr_T, pr_R, pr_N, pr_D, gr, g4]) (by simp [pr_F_app, pr_T_app, pr_R_app, pr_N_app, pr_D_app, pr_F, pr_T, pr_R, pr_N, pr_D, gr, g4]) (by simp [pr_F_app, pr_T_app, pr_R_app, pr_N_app, pr_D_app, pr_F, pr_T, pr_R, pr_N, pr_D, gr, g4]) (by simp [pr_F_app, pr_T_app, pr_R_app, pr_N_app, pr_D_app, pr_F, pr_T, pr_R, pr_N, pr_D, gr, g4]) (rfl) (rfl)
/-- PUTM at the home -/
theorem pr_c_D3 {s : Nat → Nat} {ms : Nat → Int} {a b : List pr_M} {r : Nat} {n : Int} {x : Nat} (H : ∀ i, i < 4 → pr_c s ms (a ++ (3, r, 4, n, x) :: b) i) (hr : r < 4) : ∀ i, i < 4 → pr_c s ms (a ++ b ++ [(7, 4, r, 0, 5)]) i := by
  intro i hi
  have h := H i hi
  clear H
  have g4 : ¬ 4 = i := by omega
  by_cases hr : i = r
  · subst hr
    unfold pr_c pr_C at h ⊢
    simp only [pr_F_app, pr_T_app, pr_R_app, pr_N_app, pr_D_app, pr_F, pr_T, pr_R, pr_N, pr_D] at h ⊢
    have f1 := pr_N_T i a
    have f2 := pr_N_T i b
    have f3 := pr_N_D i a
    have f4 := pr_N_D i b
    have hk : s i = 8 ∨ s i = 9 ∨ s i = 10 := by
      by_cases z : s i = 8 ∨ s i = 9 ∨ s i = 10
      · exact z
      · have z2 := h.2.2.2.2.1 z
        (simp at z2) <;> omega
    rcases hk with hk | hk | hk
    · (simp [pr_up, g4, hk] at h ⊢) <;> omega
    · (simp [pr_up, g4, hk] at h ⊢) <;> omega
    · (simp [pr_up, g4, hk] at h ⊢) <;> omega
  · have gr : ¬ r = i := fun z => hr z.symm
    exact pr_c_of h (by simp [pr_F_app, pr_T_app, pr_R_app, pr_N_app, pr_D_app, pr_F, pr_T, pr_R, pr_N, pr_D, gr, g4]) (by simp [pr_F_app, pr_T_app, pr_R_app, pr_N_app, pr_D_app, pr_F, pr_T, pr_R, pr_N, pr_D, gr, g4]) (by simp [pr_F_app, pr_T_app, pr_R_app, pr_N_app, pr_D_app, pr_F, pr_T, pr_R, pr_N, pr_D, gr, g4]) (by simp [pr_F_app, pr_T_app, pr_R_app, pr_N_app, pr_D_app, pr_F, pr_T, pr_R, pr_N, pr_D, gr, g4]) (by simp [pr_F_app, pr_T_app, pr_R_app, pr_N_app, pr_D_app, pr_F, pr_T, pr_R, pr_N, pr_D, gr, g4]) (by simp [pr_F_app, pr_T_app, pr_R_app, pr_N_app, pr_D_app, pr_F, pr_T, pr_R, pr_N, pr_D, gr, g4]) (by simp [pr_F_app, pr_T_app, pr_R_app, pr_N_app, pr_D_app, pr_F, pr_T, pr_R, pr_N, pr_D, gr, g4]) (by simp [pr_F_app, pr_T_app, pr_R_app, pr_N_app, pr_D_app, pr_F, pr_T, pr_R, pr_N, pr_D, gr, g4]) (by simp [pr_F_app, pr_T_app, pr_R_app, pr_N_app, pr_D_app, pr_F, pr_T, pr_R, pr_N, pr_D, gr, g4]) (by simp [pr_F_app, pr_T_app, pr_R_app, pr_N_app, pr_D_app, pr_F, pr_T, pr_R, pr_N, pr_D, gr, g4]) (by simp [pr_F_app, pr_T_app, pr_R_app, pr_N_app, pr_D_app, pr_F, pr_T, pr_R, pr_N, pr_D, gr, g4]) (by simp [pr_F_app, pr_T_app, pr_R_app, pr_N_app, pr_D_app, pr_F, pr_T, pr_R, pr_N, pr_D, gr, g4]) (rfl) (rfl)
/-- DATA at the home -/
theorem pr_c_D8h {s : Nat → Nat} {ms : Nat → Int} {a b : List pr_M} {f : Nat} {n : Int} {x : Nat} (H : ∀ i, i < 4 → pr_c s ms (a ++ (8, f, 4, n, x) :: b) i)  : ∀ i, i < 4 → pr_c s ms (a ++ b) i := by
  intro i hi
  have h := H i hi
  clear H
  have g4 : ¬ 4 = i := by omega
  exact pr_c_of h (by simp [pr_F_app, pr_T_app, pr_R_app, pr_N_app, pr_D_app, pr_F, pr_T, pr_R, pr_N, pr_D, g4]) (by simp [pr_F_app, pr_T_app, pr_R_app, pr_N_app, pr_D_app, pr_F, pr_T, pr_R, pr_N, pr_D, g4]) (by simp [pr_F_app, pr_T_app, pr_R_app, pr_N_app, pr_D_app, pr_F, pr_T, pr_R, pr_N, pr_D, g4]) (by simp [pr_F_app, pr_T_app, pr_R_app, pr_N_app, pr_D_app, pr_F, pr_T, pr_R, pr_N, pr_D, g4]) (by simp [pr_F_app, pr_T_app, pr_R_app, pr_N_app, pr_D_app, pr_F, pr_T, pr_R, pr_N, pr_D, g4]) (by simp [pr_F_app, pr_T_app, pr_R_app, pr_N_app, pr_D_app, pr_F, pr_T, pr_R, pr_N, pr_D, g4]) (by simp [pr_F_app, pr_T_app, pr_R_app, pr_N_app, pr_D_app, pr_F, pr_T, pr_R, pr_N, pr_D, g4]) (by simp [pr_F_app, pr_T_app, pr_R_app, pr_N_app, pr_D_app, pr_F, pr_T, pr_R, pr_N, pr_D, g4]) (by simp [pr_F_app, pr_T_app, pr_R_app, pr_N_app, pr_D_app, pr_F, pr_T, pr_R, pr_N, pr_D, g4]) (by simp [pr_F_app, pr_T_app, pr_R_app, pr_N_app, pr_D_app, pr_F, pr_T, pr_R, pr_N, pr_D, g4]) (by simp [pr_F_app, pr_T_app, pr_R_app, pr_N_app, pr_D_app, pr_F, pr_T, pr_R, pr_N, pr_D, g4]) (by simp [pr_F_app, pr_T_app, pr_R_app, pr_N_app, pr_D_app, pr_F, pr_T, pr_R, pr_N, pr_D, g4]) (rfl) (rfl)
/-- DATA at a reader -/
theorem pr_c_D8r {s : Nat → Nat} {ms : Nat → Int} {a b : List pr_M} {f c : Nat} {n : Int} {x : Nat} (H : ∀ i, i < 4 → pr_c s ms (a ++ (8, f, c, n, x) :: b) i) (hc : c < 4) (hs : s c = 3) : ∀ i, i < 4 → pr_c (pr_up s c 1) ms (a ++ b) i := by
  intro i hi
  have h := H i hi
  clear H
  have g4 : ¬ 4 = i := by omega
  by_cases hc : i = c
  · subst hc
    unfold pr_c pr_C at h ⊢
    simp only [pr_F_app, pr_T_app, pr_R_app, pr_N_app, pr_D_app, pr_F, pr_T, pr_R, pr_N, pr_D] at h ⊢
    have f1 := pr_N_T i a
    have f2 := pr_N_T i b
    have f3 := pr_N_D i a
    have f4 := pr_N_D i b
    have hk := hs
    by_cases n0 : n = 0
    · (simp [pr_up, g4, hk, n0] at h ⊢) <;> omega
    · (simp [pr_up, g4, hk, n0] at h ⊢) <;> omega
  · have gc : ¬ c = i := fun z => hc z.symm
    exact pr_c_of h (by simp [pr_F_app, pr_T_app, pr_R_app, pr_N_app, pr_D_app, pr_F, pr_T, pr_R, pr_N, pr_D, gc, g4]) (by simp [pr_F_app, pr_T_app, pr_R_app, pr_N_app, pr_D_app, pr_F, pr_T, pr_R, pr_N, pr_D, gc, g4]) (by simp [pr_F_app, pr_T_app, pr_R_app, pr_N_app, pr_D_app, pr_F, pr_T, pr_R, pr_N, pr_D, gc, g4]) (by simp [pr_F_app, pr_T_app, pr_R_app, pr_N_app, pr_D_app, pr_F, pr_T, pr_R, pr_N, pr_D, gc, g4]) (by simp [pr_F_app, pr_T_app, pr_R_app, pr_N_app, pr_D_app, pr_F, pr_T, pr_R, pr_N, pr_D, gc, g4]) (by simp [pr_F_app, pr_T_app, pr_R_app, pr_N_app, pr_D_app, pr_F, pr_T, pr_R, pr_N, pr_D, gc, g4]) (by simp [pr_F_app, pr_T_app, pr_R_app, pr_N_app, pr_D_app, pr_F, pr_T, pr_R, pr_N, pr_D, gc, g4]) (by simp [pr_F_app, pr_T_app, pr_R_app, pr_N_app, pr_D_app, pr_F, pr_T, pr_R, pr_N, pr_D, gc, g4]) (by simp [pr_F_app, pr_T_app, pr_R_app, pr_N_app, pr_D_app, pr_F, pr_T, pr_R, pr_N, pr_D, gc, g4]) (by simp [pr_F_app, pr_T_app, pr_R_app, pr_N_app, pr_D_app, pr_F, pr_T, pr_R, pr_N, pr_D, gc, g4]) (by simp [pr_F_app, pr_T_app, pr_R_app, pr_N_app, pr_D_app, pr_F, pr_T, pr_R, pr_N, pr_D, gc, g4]) (by simp [pr_F_app, pr_T_app, pr_R_app, pr_N_app, pr_D_app, pr_F, pr_T, pr_R, pr_N, pr_D, gc, g4]) (pr_up_n _ _ _ hc) (rfl)
/-- DATA at a writer in IM, all there -/
theorem pr_c_D8m4 {s : Nat → Nat} {ms : Nat → Int} {a b : List pr_M} {f c : Nat} {n : Int} {x : Nat} (H : ∀ i, i < 4 → pr_c s ms (a ++ (8, f, c, n, x) :: b) i) (hc : c < 4) (hs : s c = 4) (hn : ms c + n = 0) : ∀ i, i < 4 → pr_c (pr_up s c 2) (pr_up ms c (ms c + n)) (a ++ b) i := by
  intro i hi
  have h := H i hi
  clear H
  have g4 : ¬ 4 = i := by omega
  by_cases hc : i = c
  · subst hc
    unfold pr_c pr_C at h ⊢
    simp only [pr_F_app, pr_T_app, pr_R_app, pr_N_app, pr_D_app, pr_F, pr_T, pr_R, pr_N, pr_D] at h ⊢
    have f1 := pr_N_T i a
    have f2 := pr_N_T i b
    have f3 := pr_N_D i a
    have f4 := pr_N_D i b
    have hk := hs
    by_cases n0 : n = 0
    · (simp [pr_up, g4, hk, n0] at h ⊢) <;> omega
    · (simp [pr_up, g4, hk, n0] at h ⊢) <;> omega
  · have gc : ¬ c = i := fun z => hc z.symm
    exact pr_c_of h (by simp [pr_F_app, pr_T_app, pr_R_app, pr_N_app, pr_D_app, pr_F, pr_T, pr_R, pr_N, pr_D, gc, g4]) (by simp [pr_F_app, pr_T_app, pr_R_app, pr_N_app, pr_D_app, pr_F, pr_T, pr_R, pr_N, pr_D, gc, g4]) (by simp [pr_F_app, pr_T_app, pr_R_app, pr_N_app, pr_D_app, pr_F, pr_T, pr_R, pr_N, pr_D, gc, g4]) (by simp [pr_F_app, pr_T_app, pr_R_app, pr_N_app, pr_D_app, pr_F, pr_T, pr_R, pr_N, pr_D, gc, g4]) (by simp [pr_F_app, pr_T_app, pr_R_app, pr_N_app, pr_D_app, pr_F, pr_T, pr_R, pr_N, pr_D, gc, g4]) (by simp [pr_F_app, pr_T_app, pr_R_app, pr_N_app, pr_D_app, pr_F, pr_T, pr_R, pr_N, pr_D, gc, g4]) (by simp [pr_F_app, pr_T_app, pr_R_app, pr_N_app, pr_D_app, pr_F, pr_T, pr_R, pr_N, pr_D, gc, g4]) (by simp [pr_F_app, pr_T_app, pr_R_app, pr_N_app, pr_D_app, pr_F, pr_T, pr_R, pr_N, pr_D, gc, g4]) (by simp [pr_F_app, pr_T_app, pr_R_app, pr_N_app, pr_D_app, pr_F, pr_T, pr_R, pr_N, pr_D, gc, g4]) (by simp [pr_F_app, pr_T_app, pr_R_app, pr_N_app, pr_D_app, pr_F, pr_T, pr_R, pr_N, pr_D, gc, g4]) (by simp [pr_F_app, pr_T_app, pr_R_app, pr_N_app, pr_D_app, pr_F, pr_T, pr_R, pr_N, pr_D, gc, g4]) (by simp [pr_F_app, pr_T_app, pr_R_app, pr_N_app, pr_D_app, pr_F, pr_T, pr_R, pr_N, pr_D, gc, g4]) (pr_up_n _ _ _ hc) (pr_up_n _ _ _ hc)
/-- DATA at a writer in IM, ACKs open -/
theorem pr_c_D8w4 {s : Nat → Nat} {ms : Nat → Int} {a b : List pr_M} {f c : Nat} {n : Int} {x : Nat} (H : ∀ i, i < 4 → pr_c s ms (a ++ (8, f, c, n, x) :: b) i) (hc : c < 4) (hs : s c = 4) (hn : ¬ ms c + n = 0) : ∀ i, i < 4 → pr_c (pr_up s c 5) (pr_up ms c (ms c + n)) (a ++ b) i := by
  intro i hi
  have h := H i hi
  clear H
  have g4 : ¬ 4 = i := by omega
  by_cases hc : i = c
  · subst hc
    unfold pr_c pr_C at h ⊢
    simp only [pr_F_app, pr_T_app, pr_R_app, pr_N_app, pr_D_app, pr_F, pr_T, pr_R, pr_N, pr_D] at h ⊢
    have f1 := pr_N_T i a
    have f2 := pr_N_T i b
    have f3 := pr_N_D i a
    have f4 := pr_N_D i b
    have hk := hs
    by_cases n0 : n = 0
    · (simp [pr_up, g4, hk, n0] at h ⊢) <;> omega
    · (simp [pr_up, g4, hk, n0] at h ⊢) <;> omega
  · have gc : ¬ c = i := fun z => hc z.symm
    exact pr_c_of h (by simp [pr_F_app, pr_T_app, pr_R_app, pr_N_app, pr_D_app, pr_F, pr_T, pr_R, pr_N, pr_D, gc, g4]) (by simp [pr_F_app, pr_T_app, pr_R_app, pr_N_app, pr_D_app, pr_F, pr_T, pr_R, pr_N, pr_D, gc, g4]) (by simp [pr_F_app, pr_T_app, pr_R_app, pr_N_app, pr_D_app, pr_F, pr_T, pr_R, pr_N, pr_D, gc, g4]) (by simp [pr_F_app, pr_T_app, pr_R_app, pr_N_app, pr_D_app, pr_F, pr_T, pr_R, pr_N, pr_D, gc, g4]) (by simp [pr_F_app, pr_T_app, pr_R_app, pr_N_app, pr_D_app, pr_F, pr_T, pr_R, pr_N, pr_D, gc, g4]) (by simp [pr_F_app, pr_T_app, pr_R_app, pr_N_app, pr_D_app, pr_F, pr_T, pr_R, pr_N, pr_D, gc, g4]) (by simp [pr_F_app, pr_T_app, pr_R_app, pr_N_app, pr_D_app, pr_F, pr_T, pr_R, pr_N, pr_D, gc, g4]) (by simp [pr_F_app, pr_T_app, pr_R_app, pr_N_app, pr_D_app, pr_F, pr_T, pr_R, pr_N, pr_D, gc, g4]) (by simp [pr_F_app, pr_T_app, pr_R_app, pr_N_app, pr_D_app, pr_F, pr_T, pr_R, pr_N, pr_D, gc, g4]) (by simp [pr_F_app, pr_T_app, pr_R_app, pr_N_app, pr_D_app, pr_F, pr_T, pr_R, pr_N, pr_D, gc, g4]) (by simp [pr_F_app, pr_T_app, pr_R_app, pr_N_app, pr_D_app, pr_F, pr_T, pr_R, pr_N, pr_D, gc, g4]) (by simp [pr_F_app, pr_T_app, pr_R_app, pr_N_app, pr_D_app, pr_F, pr_T, pr_R, pr_N, pr_D, gc, g4]) (pr_up_n _ _ _ hc) (pr_up_n _ _ _ hc)
/-- DATA at a writer in SM, all there -/
theorem pr_c_D8m6 {s : Nat → Nat} {ms : Nat → Int} {a b : List pr_M} {f c : Nat} {n : Int} {x : Nat} (H : ∀ i, i < 4 → pr_c s ms (a ++ (8, f, c, n, x) :: b) i) (hc : c < 4) (hs : s c = 6) (hn : ms c + n = 0) : ∀ i, i < 4 → pr_c (pr_up s c 2) (pr_up ms c (ms c + n)) (a ++ b) i := by
  intro i hi
  have h := H i hi
  clear H
  have g4 : ¬ 4 = i := by omega
  by_cases hc : i = c
  · subst hc
    unfold pr_c pr_C at h ⊢
    simp only [pr_F_app, pr_T_app, pr_R_app, pr_N_app, pr_D_app, pr_F, pr_T, pr_R, pr_N, pr_D] at h ⊢
    have f1 := pr_N_T i a
    have f2 := pr_N_T i b
    have f3 := pr_N_D i a
    have f4 := pr_N_D i b
    have hk := hs
    by_cases n0 : n = 0
    · (simp [pr_up, g4, hk, n0] at h ⊢) <;> omega
    · (simp [pr_up, g4, hk, n0] at h ⊢) <;> omega
  · have gc : ¬ c = i := fun z => hc z.symm
    exact pr_c_of h (by simp [pr_F_app, pr_T_app, pr_R_app, pr_N_app, pr_D_app, pr_F, pr_T, pr_R, pr_N, pr_D, gc, g4]) (by simp [pr_F_app, pr_T_app, pr_R_app, pr_N_app, pr_D_app, pr_F, pr_T, pr_R, pr_N, pr_D, gc, g4]) (by simp [pr_F_app, pr_T_app, pr_R_app, pr_N_app, pr_D_app, pr_F, pr_T, pr_R, pr_N, pr_D, gc, g4]) (by simp [pr_F_app, pr_T_app, pr_R_app, pr_N_app, pr_D_app, pr_F, pr_T, pr_R, pr_N, pr_D, gc, g4]) (by simp [pr_F_app, pr_T_app, pr_R_app, pr_N_app, pr_D_app, pr_F, pr_T, pr_R, pr_N, pr_D, gc, g4]) (by simp [pr_F_app, pr_T_app, pr_R_app, pr_N_app, pr_D_app, pr_F, pr_T, pr_R, pr_N, pr_D, gc, g4]) (by simp [pr_F_app, pr_T_app, pr_R_app, pr_N_app, pr_D_app, pr_F, pr_T, pr_R, pr_N, pr_D, gc, g4]) (by simp [pr_F_app, pr_T_app, pr_R_app, pr_N_app, pr_D_app, pr_F, pr_T, pr_R, pr_N, pr_D, gc, g4]) (by simp [pr_F_app, pr_T_app, pr_R_app, pr_N_app, pr_D_app, pr_F, pr_T, pr_R, pr_N, pr_D, gc, g4]) (by simp [pr_F_app, pr_T_app, pr_R_app, pr_N_app, pr_D_app, pr_F, pr_T, pr_R, pr_N, pr_D, gc, g4]) (by simp [pr_F_app, pr_T_app, pr_R_app, pr_N_app, pr_D_app, pr_F, pr_T, pr_R, pr_N, pr_D, gc, g4]) (by simp [pr_F_app, pr_T_app, pr_R_app, pr_N_app, pr_D_app, pr_F, pr_T, pr_R, pr_N, pr_D, gc, g4]) (pr_up_n _ _ _ hc) (pr_up_n _ _ _ hc)
/-- DATA at a writer in SM, ACKs open -/
theorem pr_c_D8w6 {s : Nat → Nat} {ms : Nat → Int} {a b : List pr_M} {f c : Nat} {n : Int} {x : Nat} (H : ∀ i, i < 4 → pr_c s ms (a ++ (8, f, c, n, x) :: b) i) (hc : c < 4) (hs : s c = 6) (hn : ¬ ms c + n = 0) : ∀ i, i < 4 → pr_c (pr_up s c 7) (pr_up ms c (ms c + n)) (a ++ b) i := by
  intro i hi
  have h := H i hi
  clear H
  have g4 : ¬ 4 = i := by omega
  by_cases hc : i = c
  · subst hc
    unfold pr_c pr_C at h ⊢
    simp only [pr_F_app, pr_T_app, pr_R_app, pr_N_app, pr_D_app, pr_F, pr_T, pr_R, pr_N, pr_D] at h ⊢
    have f1 := pr_N_T i a
    have f2 := pr_N_T i b
    have f3 := pr_N_D i a
    have f4 := pr_N_D i b
    have hk := hs
    by_cases n0 : n = 0
    · (simp [pr_up, g4, hk, n0] at h ⊢) <;> omega
    · (simp [pr_up, g4, hk, n0] at h ⊢) <;> omega
  · have gc : ¬ c = i := fun z => hc z.symm
    exact pr_c_of h (by simp [pr_F_app, pr_T_app, pr_R_app, pr_N_app, pr_D_app, pr_F, pr_T, pr_R, pr_N, pr_D, gc, g4]) (by simp [pr_F_app, pr_T_app, pr_R_app, pr_N_app, pr_D_app, pr_F, pr_T, pr_R, pr_N, pr_D, gc, g4]) (by simp [pr_F_app, pr_T_app, pr_R_app, pr_N_app, pr_D_app, pr_F, pr_T, pr_R, pr_N, pr_D, gc, g4]) (by simp [pr_F_app, pr_T_app, pr_R_app, pr_N_app, pr_D_app, pr_F, pr_T, pr_R, pr_N, pr_D, gc, g4]) (by simp [pr_F_app, pr_T_app, pr_R_app, pr_N_app, pr_D_app, pr_F, pr_T, pr_R, pr_N, pr_D, gc, g4]) (by simp [pr_F_app, pr_T_app, pr_R_app, pr_N_app, pr_D_app, pr_F, pr_T, pr_R, pr_N, pr_D, gc, g4]) (by simp [pr_F_app, pr_T_app, pr_R_app, pr_N_app, pr_D_app, pr_F, pr_T, pr_R, pr_N, pr_D, gc, g4]) (by simp [pr_F_app, pr_T_app, pr_R_app, pr_N_app, pr_D_app, pr_F, pr_T, pr_R, pr_N, pr_D, gc, g4]) (by simp [pr_F_app, pr_T_app, pr_R_app, pr_N_app, pr_D_app, pr_F, pr_T, pr_R, pr_N, pr_D, gc, g4]) (by simp [pr_F_app, pr_T_app, pr_R_app, pr_N_app, pr_D_app, pr_F, pr_T, pr_R, pr_N, pr_D, gc, g4]) (by simp [pr_F_app, pr_T_app, pr_R_app, pr_N_app, pr_D_app, pr_F, pr_T, pr_R, pr_N, pr_D, gc, g4]) (by simp [pr_F_app, pr_T_app, pr_R_app, pr_N_app, pr_D_app, pr_F, pr_T, pr_R, pr_N, pr_D, gc, g4]) (pr_up_n _ _ _ hc) (pr_up_n _ _ _ hc)
/-- ACK at a core, the last -/
theorem pr_c_D9l {s : Nat → Nat} {ms : Nat → Int} {a b : List pr_M} {f c : Nat} {n : Int} {x : Nat} (H : ∀ i, i < 4 → pr_c s ms (a ++ (9, f, c, n, x) :: b) i) (hc : c < 4) (hs : s c = 5 ∨ s c = 7) (hn : ms c - 1 = 0) : ∀ i, i < 4 → pr_c (pr_up s c 2) (pr_up ms c (ms c - 1)) (a ++ b) i := by
  intro i hi
  have h := H i hi
  clear H
  have g4 : ¬ 4 = i := by omega
  by_cases hc : i = c
  · subst hc
    unfold pr_c pr_C at h ⊢
    simp only [pr_F_app, pr_T_app, pr_R_app, pr_N_app, pr_D_app, pr_F, pr_T, pr_R, pr_N, pr_D] at h ⊢
    have f1 := pr_N_T i a
    have f2 := pr_N_T i b
    have f3 := pr_N_D i a
    have f4 := pr_N_D i b
    have hk := hs
    rcases hk with hk | hk
    · (simp [pr_up, g4, hk] at h ⊢) <;> omega
    · (simp [pr_up, g4, hk] at h ⊢) <;> omega
  · have gc : ¬ c = i := fun z => hc z.symm
    exact pr_c_of h (by simp [pr_F_app, pr_T_app, pr_R_app, pr_N_app, pr_D_app, pr_F, pr_T, pr_R, pr_N, pr_D, gc, g4]) (by simp [pr_F_app, pr_T_app, pr_R_app, pr_N_app, pr_D_app, pr_F, pr_T, pr_R, pr_N, pr_D, gc, g4]) (by simp [pr_F_app, pr_T_app, pr_R_app, pr_N_app, pr_D_app, pr_F, pr_T, pr_R, pr_N, pr_D, gc, g4]) (by simp [pr_F_app, pr_T_app, pr_R_app, pr_N_app, pr_D_app, pr_F, pr_T, pr_R, pr_N, pr_D, gc, g4]) (by simp [pr_F_app, pr_T_app, pr_R_app, pr_N_app, pr_D_app, pr_F, pr_T, pr_R, pr_N, pr_D, gc, g4]) (by simp [pr_F_app, pr_T_app, pr_R_app, pr_N_app, pr_D_app, pr_F, pr_T, pr_R, pr_N, pr_D, gc, g4]) (by simp [pr_F_app, pr_T_app, pr_R_app, pr_N_app, pr_D_app, pr_F, pr_T, pr_R, pr_N, pr_D, gc, g4]) (by simp [pr_F_app, pr_T_app, pr_R_app, pr_N_app, pr_D_app, pr_F, pr_T, pr_R, pr_N, pr_D, gc, g4]) (by simp [pr_F_app, pr_T_app, pr_R_app, pr_N_app, pr_D_app, pr_F, pr_T, pr_R, pr_N, pr_D, gc, g4]) (by simp [pr_F_app, pr_T_app, pr_R_app, pr_N_app, pr_D_app, pr_F, pr_T, pr_R, pr_N, pr_D, gc, g4]) (by simp [pr_F_app, pr_T_app, pr_R_app, pr_N_app, pr_D_app, pr_F, pr_T, pr_R, pr_N, pr_D, gc, g4]) (by simp [pr_F_app, pr_T_app, pr_R_app, pr_N_app, pr_D_app, pr_F, pr_T, pr_R, pr_N, pr_D, gc, g4]) (pr_up_n _ _ _ hc) (pr_up_n _ _ _ hc)
/-- ACK at a core -/
theorem pr_c_D9 {s : Nat → Nat} {ms : Nat → Int} {a b : List pr_M} {f c : Nat} {n : Int} {x : Nat} (H : ∀ i, i < 4 → pr_c s ms (a ++ (9, f, c, n, x) :: b) i) (hc : c < 4) : ∀ i, i < 4 → pr_c s (pr_up ms c (ms c - 1)) (a ++ b) i := by
  intro i hi
  have h := H i hi
  clear H
  have g4 : ¬ 4 = i := by omega
  by_cases hc : i = c
  · subst hc
    unfold pr_c pr_C at h ⊢
    simp only [pr_F_app, pr_T_app, pr_R_app, pr_N_app, pr_D_app, pr_F, pr_T, pr_R, pr_N, pr_D] at h ⊢
    have f1 := pr_N_T i a
    have f2 := pr_N_T i b
    have f3 := pr_N_D i a
    have f4 := pr_N_D i b
    have hk : s i = 4 ∨ s i = 5 ∨ s i = 6 ∨ s i = 7 := by
      by_cases z : 4 ≤ s i ∧ s i ≤ 7
      · omega
      · have z2 := h.2.2.2.2.2.2.1 z
        have z3 := h.2.2.2.2.2.2.2.1
        simp at z2 z3
        omega
    rcases hk with hk | hk | hk | hk
    · (simp [pr_up, g4, hk] at h ⊢) <;> omega
    · (simp [pr_up, g4, hk] at h ⊢) <;> omega
    · (simp [pr_up, g4, hk] at h ⊢) <;> omega
    · (simp [pr_up, g4, hk] at h ⊢) <;> omega
  · have gc : ¬ c = i := fun z => hc z.symm
    exact pr_c_of h (by simp [pr_F_app, pr_T_app, pr_R_app, pr_N_app, pr_D_app, pr_F, pr_T, pr_R, pr_N, pr_D, gc, g4]) (by simp [pr_F_app, pr_T_app, pr_R_app, pr_N_app, pr_D_app, pr_F, pr_T, pr_R, pr_N, pr_D, gc, g4]) (by simp [pr_F_app, pr_T_app, pr_R_app, pr_N_app, pr_D_app, pr_F, pr_T, pr_R, pr_N, pr_D, gc, g4]) (by simp [pr_F_app, pr_T_app, pr_R_app, pr_N_app, pr_D_app, pr_F, pr_T, pr_R, pr_N, pr_D, gc, g4]) (by simp [pr_F_app, pr_T_app, pr_R_app, pr_N_app, pr_D_app, pr_F, pr_T, pr_R, pr_N, pr_D, gc, g4]) (by simp [pr_F_app, pr_T_app, pr_R_app, pr_N_app, pr_D_app, pr_F, pr_T, pr_R, pr_N, pr_D, gc, g4]) (by simp [pr_F_app, pr_T_app, pr_R_app, pr_N_app, pr_D_app, pr_F, pr_T, pr_R, pr_N, pr_D, gc, g4]) (by simp [pr_F_app, pr_T_app, pr_R_app, pr_N_app, pr_D_app, pr_F, pr_T, pr_R, pr_N, pr_D, gc, g4]) (by simp [pr_F_app, pr_T_app, pr_R_app, pr_N_app, pr_D_app, pr_F, pr_T, pr_R, pr_N, pr_D, gc, g4]) (by simp [pr_F_app, pr_T_app, pr_R_app, pr_N_app, pr_D_app, pr_F, pr_T, pr_R, pr_N, pr_D, gc, g4]) (by simp [pr_F_app, pr_T_app, pr_R_app, pr_N_app, pr_D_app, pr_F, pr_T, pr_R, pr_N, pr_D, gc, g4]) (by simp [pr_F_app, pr_T_app, pr_R_app, pr_N_app, pr_D_app, pr_F, pr_T, pr_R, pr_N, pr_D, gc, g4]) (rfl) (pr_up_n _ _ _ hc)
/-- INV at a core in 1 -/
theorem pr_c_D6_1 {s : Nat → Nat} {ms : Nat → Int} {a b : List pr_M} {f c r : Nat} {n : Int} (H : ∀ i, i < 4 → pr_c s ms (a ++ (6, f, c, n, r) :: b) i) (hc : c < 4) (hr : r < 4) (hcr : ¬ r = c) (hs : s c = 1) : ∀ i, i < 4 → pr_c (pr_up s c 0) ms (a ++ b ++ [(9, c, r, 0, 5)]) i := by
  intro i hi
  have h := H i hi
  clear H
  have g4 : ¬ 4 = i := by omega
  by_cases hc : i = c
  · subst hc
    unfold pr_c pr_C at h ⊢
    simp only [pr_F_app, pr_T_app, pr_R_app, pr_N_app, pr_D_app, pr_F, pr_T, pr_R, pr_N, pr_D] at h ⊢
    have f1 := pr_N_T i a
    have f2 := pr_N_T i b
    have f3 := pr_N_D i a
    have f4 := pr_N_D i b
    have hk := hs
    (simp [pr_up, g4, hcr, hk] at h ⊢) <;> omega
  · have gc : ¬ c = i := fun z => hc z.symm
    by_cases hr : i = r
    · subst hr
      unfold pr_c pr_C at h ⊢
      simp only [pr_F_app, pr_T_app, pr_R_app, pr_N_app, pr_D_app, pr_F, pr_T, pr_R, pr_N, pr_D] at h ⊢
      have f1 := pr_N_T i a
      have f2 := pr_N_T i b
      have f3 := pr_N_D i a
      have f4 := pr_N_D i b
      have hk : s i = 4 ∨ s i = 5 ∨ s i = 6 ∨ s i = 7 := by
        by_cases z : 4 ≤ s i ∧ s i ≤ 7
        · omega
        · have z2 := h.2.2.2.2.2.2.1 z
          have z3 := h.2.2.2.2.2.2.2.1
          simp at z2 z3
          omega
      rcases hk with hk | hk | hk | hk
      · (simp [pr_up, g4, hc, gc, hcr, hk] at h ⊢) <;> omega
      · (simp [pr_up, g4, hc, gc, hcr, hk] at h ⊢) <;> omega
      · (simp [pr_up, g4, hc, gc, hcr, hk] at h ⊢) <;> omega
      · (simp [pr_up, g4, hc, gc, hcr, hk] at h ⊢) <;> omega
    · have gr : ¬ r = i := fun z => hr z.symm
      exact pr_c_of h (by simp [pr_F_app, pr_T_app, pr_R_app, pr_N_app, pr_D_app, pr_F, pr_T, pr_R, pr_N, pr_D, gc, gr, g4, hcr]) (by simp [pr_F_app, pr_T_app, pr_R_app, pr_N_app, pr_D_app, pr_F, pr_T, pr_R, pr_N, pr_D, gc, gr, g4, hcr]) (by simp [pr_F_app, pr_T_app, pr_R_app, pr_N_app, pr_D_app, pr_F, pr_T, pr_R, pr_N, pr_D, gc, gr, g4, hcr]) (by simp [pr_F_app, pr_T_app, pr_R_app, pr_N_app, pr_D_app, pr_F, pr_T, pr_R, pr_N, pr_D, gc, gr, g4, hcr]) (by simp [pr_F_app, pr_T_app, pr_R_app, pr_N_app, pr_D_app, pr_F, pr_T, pr_R, pr_N, pr_D, gc, gr, g4, hcr]) (by simp [pr_F_app, pr_T_app, pr_R_app, pr_N_app, pr_D_app, pr_F, pr_T, pr_R, pr_N, pr_D, gc, gr, g4, hcr]) (by simp [pr_F_app, pr_T_app, pr_R_app, pr_N_app, pr_D_app, pr_F, pr_T, pr_R, pr_N, pr_D, gc, gr, g4, hcr]) (by simp [pr_F_app, pr_T_app, pr_R_app, pr_N_app, pr_D_app, pr_F, pr_T, pr_R, pr_N, pr_D, gc, gr, g4, hcr]) (by simp [pr_F_app, pr_T_app, pr_R_app, pr_N_app, pr_D_app, pr_F, pr_T, pr_R, pr_N, pr_D, gc, gr, g4, hcr]) (by simp [pr_F_app, pr_T_app, pr_R_app, pr_N_app, pr_D_app, pr_F, pr_T, pr_R, pr_N, pr_D, gc, gr, g4, hcr]) (by simp [pr_F_app, pr_T_app, pr_R_app, pr_N_app, pr_D_app, pr_F, pr_T, pr_R, pr_N, pr_D, gc, gr, g4, hcr]) (by simp [pr_F_app, pr_T_app, pr_R_app, pr_N_app, pr_D_app, pr_F, pr_T, pr_R, pr_N, pr_D, gc, gr, g4, hcr]) (pr_up_n _ _ _ hc) (rfl)
/-- INV at a core in 6 -/
theorem pr_c_D6_6 {s : Nat → Nat} {ms : Nat → Int} {a b : List pr_M} {f c r : Nat} {n : Int} (H : ∀ i, i < 4 → pr_c s ms (a ++ (6, f, c, n, r) :: b) i) (hc : c < 4) (hr : r < 4) (hcr : ¬ r = c) (hs : s c = 6) : ∀ i, i < 4 → pr_c (pr_up s c 4) ms (a ++ b ++ [(9, c, r, 0, 5)]) i := by
  intro i hi
  have h := H i hi
  clear H
  have g4 : ¬ 4 = i := by omega
  by_cases hc : i = c
  · subst hc
    unfold pr_c pr_C at h ⊢
    simp only [pr_F_app, pr_T_app, pr_R_app, pr_N_app, pr_D_app, pr_F, pr_T, pr_R, pr_N, pr_D] at h ⊢
    have f1 := pr_N_T i a
    have f2 := pr_N_T i b
    have f3 := pr_N_D i a
    have f4 := pr_N_D i b
    have hk := hs
    (simp [pr_up, g4, hcr, hk] at h ⊢) <;> omega
  · have gc : ¬ c = i := fun z => hc z.symm
    by_cases hr : i = r
    · subst hr
      unfold pr_c pr_C at h ⊢
      simp only [pr_F_app, pr_T_app, pr_R_app, pr_N_app, pr_D_app, pr_F, pr_T, pr_R, pr_N, pr_D] at h ⊢
      have f1 := pr_N_T i a
      have f2 := pr_N_T i b
      have f3 := pr_N_D i a
      have f4 := pr_N_D i b
      have hk : s i = 4 ∨ s i = 5 ∨ s i = 6 ∨ s i = 7 := by
        by_cases z : 4 ≤ s i ∧ s i ≤ 7
        · omega
        · have z2 := h.2.2.2.2.2.2.1 z
          have z3 := h.2.2.2.2.2.2.2.1
          simp at z2 z3
          omega
      rcases hk with hk | hk | hk | hk
      · (simp [pr_up, g4, hc, gc, hcr, hk] at h ⊢) <;> omega
      · (simp [pr_up, g4, hc, gc, hcr, hk] at h ⊢) <;> omega
      · (simp [pr_up, g4, hc, gc, hcr, hk] at h ⊢) <;> omega
      · (simp [pr_up, g4, hc, gc, hcr, hk] at h ⊢) <;> omega
    · have gr : ¬ r = i := fun z => hr z.symm
      exact pr_c_of h (by simp [pr_F_app, pr_T_app, pr_R_app, pr_N_app, pr_D_app, pr_F, pr_T, pr_R, pr_N, pr_D, gc, gr, g4, hcr]) (by simp [pr_F_app, pr_T_app, pr_R_app, pr_N_app, pr_D_app, pr_F, pr_T, pr_R, pr_N, pr_D, gc, gr, g4, hcr]) (by simp [pr_F_app, pr_T_app, pr_R_app, pr_N_app, pr_D_app, pr_F, pr_T, pr_R, pr_N, pr_D, gc, gr, g4, hcr]) (by simp [pr_F_app, pr_T_app, pr_R_app, pr_N_app, pr_D_app, pr_F, pr_T, pr_R, pr_N, pr_D, gc, gr, g4, hcr]) (by simp [pr_F_app, pr_T_app, pr_R_app, pr_N_app, pr_D_app, pr_F, pr_T, pr_R, pr_N, pr_D, gc, gr, g4, hcr]) (by simp [pr_F_app, pr_T_app, pr_R_app, pr_N_app, pr_D_app, pr_F, pr_T, pr_R, pr_N, pr_D, gc, gr, g4, hcr]) (by simp [pr_F_app, pr_T_app, pr_R_app, pr_N_app, pr_D_app, pr_F, pr_T, pr_R, pr_N, pr_D, gc, gr, g4, hcr]) (by simp [pr_F_app, pr_T_app, pr_R_app, pr_N_app, pr_D_app, pr_F, pr_T, pr_R, pr_N, pr_D, gc, gr, g4, hcr]) (by simp [pr_F_app, pr_T_app, pr_R_app, pr_N_app, pr_D_app, pr_F, pr_T, pr_R, pr_N, pr_D, gc, gr, g4, hcr]) (by simp [pr_F_app, pr_T_app, pr_R_app, pr_N_app, pr_D_app, pr_F, pr_T, pr_R, pr_N, pr_D, gc, gr, g4, hcr]) (by simp [pr_F_app, pr_T_app, pr_R_app, pr_N_app, pr_D_app, pr_F, pr_T, pr_R, pr_N, pr_D, gc, gr, g4, hcr]) (by simp [pr_F_app, pr_T_app, pr_R_app, pr_N_app, pr_D_app, pr_F, pr_T, pr_R, pr_N, pr_D, gc, gr, g4, hcr]) (pr_up_n _ _ _ hc) (rfl)
/-- INV at a core in 9 -/
theorem pr_c_D6_9 {s : Nat → Nat} {ms : Nat → Int} {a b : List pr_M} {f c r : Nat} {n : Int} (H : ∀ i, i < 4 → pr_c s ms (a ++ (6, f, c, n, r) :: b) i) (hc : c < 4) (hr : r < 4) (hcr : ¬ r = c) (hs : s c = 9) : ∀ i, i < 4 → pr_c (pr_up s c 10) ms (a ++ b ++ [(9, c, r, 0, 5)]) i := by
  intro i hi
  have h := H i hi
  clear H
  have g4 : ¬ 4 = i := by omega
  by_cases hc : i = c
  · subst hc
    unfold pr_c pr_C at h ⊢
    simp only [pr_F_app, pr_T_app, pr_R_app, pr_N_app, pr_D_app, pr_F, pr_T, pr_R, pr_N, pr_D] at h ⊢
    have f1 := pr_N_T i a
    have f2 := pr_N_T i b
    have f3 := pr_N_D i a
    have f4 := pr_N_D i b
    have hk := hs
    (simp [pr_up, g4, hcr, hk] at h ⊢) <;> omega
  · have gc : ¬ c = i := fun z => hc z.symm
    by_cases hr : i = r
    · subst hr
      unfold pr_c pr_C at h ⊢
      simp only [pr_F_app, pr_T_app, pr_R_app, pr_N_app, pr_D_app, pr_F, pr_T, pr_R, pr_N, pr_D] at h ⊢
      have f1 := pr_N_T i a
      have f2 := pr_N_T i b
      have f3 := pr_N_D i a
      have f4 := pr_N_D i b
      have hk : s i = 4 ∨ s i = 5 ∨ s i = 6 ∨ s i = 7 := by
        by_cases z : 4 ≤ s i ∧ s i ≤ 7
        · omega
        · have z2 := h.2.2.2.2.2.2.1 z
          have z3 := h.2.2.2.2.2.2.2.1
          simp at z2 z3
          omega
      rcases hk with hk | hk | hk | hk
      · (simp [pr_up, g4, hc, gc, hcr, hk] at h ⊢) <;> omega
      · (simp [pr_up, g4, hc, gc, hcr, hk] at h ⊢) <;> omega
      · (simp [pr_up, g4, hc, gc, hcr, hk] at h ⊢) <;> omega
      · (simp [pr_up, g4, hc, gc, hcr, hk] at h ⊢) <;> omega
    · have gr : ¬ r = i := fun z => hr z.symm
      exact pr_c_of h (by simp [pr_F_app, pr_T_app, pr_R_app, pr_N_app, pr_D_app, pr_F, pr_T, pr_R, pr_N, pr_D, gc, gr, g4, hcr]) (by simp [pr_F_app, pr_T_app, pr_R_app, pr_N_app, pr_D_app, pr_F, pr_T, pr_R, pr_N, pr_D, gc, gr, g4, hcr]) (by simp [pr_F_app, pr_T_app, pr_R_app, pr_N_app, pr_D_app, pr_F, pr_T, pr_R, pr_N, pr_D, gc, gr, g4, hcr]) (by simp [pr_F_app, pr_T_app, pr_R_app, pr_N_app, pr_D_app, pr_F, pr_T, pr_R, pr_N, pr_D, gc, gr, g4, hcr]) (by simp [pr_F_app, pr_T_app, pr_R_app, pr_N_app, pr_D_app, pr_F, pr_T, pr_R, pr_N, pr_D, gc, gr, g4, hcr]) (by simp [pr_F_app, pr_T_app, pr_R_app, pr_N_app, pr_D_app, pr_F, pr_T, pr_R, pr_N, pr_D, gc, gr, g4, hcr]) (by simp [pr_F_app, pr_T_app, pr_R_app, pr_N_app, pr_D_app, pr_F, pr_T, pr_R, pr_N, pr_D, gc, gr, g4, hcr]) (by simp [pr_F_app, pr_T_app, pr_R_app, pr_N_app, pr_D_app, pr_F, pr_T, pr_R, pr_N, pr_D, gc, gr, g4, hcr]) (by simp [pr_F_app, pr_T_app, pr_R_app, pr_N_app, pr_D_app, pr_F, pr_T, pr_R, pr_N, pr_D, gc, gr, g4, hcr]) (by simp [pr_F_app, pr_T_app, pr_R_app, pr_N_app, pr_D_app, pr_F, pr_T, pr_R, pr_N, pr_D, gc, gr, g4, hcr]) (by simp [pr_F_app, pr_T_app, pr_R_app, pr_N_app, pr_D_app, pr_F, pr_T, pr_R, pr_N, pr_D, gc, gr, g4, hcr]) (by simp [pr_F_app, pr_T_app, pr_R_app, pr_N_app, pr_D_app, pr_F, pr_T, pr_R, pr_N, pr_D, gc, gr, g4, hcr]) (pr_up_n _ _ _ hc) (rfl)
/-- FWDS at a core in 2 -/
theorem pr_c_D4_2 {s : Nat → Nat} {ms : Nat → Int} {a b : List pr_M} {f c r : Nat} {n : Int} (H : ∀ i, i < 4 → pr_c s ms (a ++ (4, f, c, n, r) :: b) i) (hc : c < 4) (hr : r < 4) (hcr : ¬ r = c) (hs : s c = 2) : ∀ i, i < 4 → pr_c (pr_up s c 1) ms (a ++ b ++ [(8, c, r, 0, 5), (8, c, 4, 0, 5)]) i := by
  intro i hi
  have h := H i hi
  clear H
  have g4 : ¬ 4 = i := by omega
  by_cases hc : i = c
  · subst hc
    unfold pr_c pr_C at h ⊢
    simp only [pr_F_app, pr_T_app, pr_R_app, pr_N_app, pr_D_app, pr_F, pr_T, pr_R, pr_N, pr_D] at h ⊢
    have f1 := pr_N_T i a
    have f2 := pr_N_T i b
    have f3 := pr_N_D i a
    have f4 := pr_N_D i b
    have hk := hs
    (simp [pr_up, g4, hcr, hk] at h ⊢) <;> omega
  · have gc : ¬ c = i := fun z => hc z.symm
    by_cases hr : i = r
    · subst hr
      unfold pr_c pr_C at h ⊢
      simp only [pr_F_app, pr_T_app, pr_R_app, pr_N_app, pr_D_app, pr_F, pr_T, pr_R, pr_N, pr_D] at h ⊢
      have f1 := pr_N_T i a
      have f2 := pr_N_T i b
      have f3 := pr_N_D i a
      have f4 := pr_N_D i b
      have hk : s i = 3 := h.2.2.2.2.2.2.2.2.1 (by simp; omega)
      (simp [pr_up, g4, hc, gc, hcr, hk] at h ⊢) <;> omega
    · have gr : ¬ r = i := fun z => hr z.symm
      exact pr_c_of h (by simp [pr_F_app, pr_T_app, pr_R_app, pr_N_app, pr_D_app, pr_F, pr_T, pr_R, pr_N, pr_D, gc, gr, g4, hcr]) (by simp [pr_F_app, pr_T_app, pr_R_app, pr_N_app, pr_D_app, pr_F, pr_T, pr_R, pr_N, pr_D, gc, gr, g4, hcr]) (by simp [pr_F_app, pr_T_app, pr_R_app, pr_N_app, pr_D_app, pr_F, pr_T, pr_R, pr_N, pr_D, gc, gr, g4, hcr]) (by simp [pr_F_app, pr_T_app, pr_R_app, pr_N_app, pr_D_app, pr_F, pr_T, pr_R, pr_N, pr_D, gc, gr, g4, hcr]) (by simp [pr_F_app, pr_T_app, pr_R_app, pr_N_app, pr_D_app, pr_F, pr_T, pr_R, pr_N, pr_D, gc, gr, g4, hcr]) (by simp [pr_F_app, pr_T_app, pr_R_app, pr_N_app, pr_D_app, pr_F, pr_T, pr_R, pr_N, pr_D, gc, gr, g4, hcr]) (by simp [pr_F_app, pr_T_app, pr_R_app, pr_N_app, pr_D_app, pr_F, pr_T, pr_R, pr_N, pr_D, gc, gr, g4, hcr]) (by simp [pr_F_app, pr_T_app, pr_R_app, pr_N_app, pr_D_app, pr_F, pr_T, pr_R, pr_N, pr_D, gc, gr, g4, hcr]) (by simp [pr_F_app, pr_T_app, pr_R_app, pr_N_app, pr_D_app, pr_F, pr_T, pr_R, pr_N, pr_D, gc, gr, g4, hcr]) (by simp [pr_F_app, pr_T_app, pr_R_app, pr_N_app, pr_D_app, pr_F, pr_T, pr_R, pr_N, pr_D, gc, gr, g4, hcr]) (by simp [pr_F_app, pr_T_app, pr_R_app, pr_N_app, pr_D_app, pr_F, pr_T, pr_R, pr_N, pr_D, gc, gr, g4, hcr]) (by simp [pr_F_app, pr_T_app, pr_R_app, pr_N_app, pr_D_app, pr_F, pr_T, pr_R, pr_N, pr_D, gc, gr, g4, hcr]) (pr_up_n _ _ _ hc) (rfl)
/-- FWDS at a core in 8 -/
theorem pr_c_D4_8 {s : Nat → Nat} {ms : Nat → Int} {a b : List pr_M} {f c r : Nat} {n : Int} (H : ∀ i, i < 4 → pr_c s ms (a ++ (4, f, c, n, r) :: b) i) (hc : c < 4) (hr : r < 4) (hcr : ¬ r = c) (hs : s c = 8) : ∀ i, i < 4 → pr_c (pr_up s c 9) ms (a ++ b ++ [(8, c, r, 0, 5), (8, c, 4, 0, 5)]) i := by
  intro i hi
  have h := H i hi
  clear H
  have g4 : ¬ 4 = i := by omega
  by_cases hc : i = c
  · subst hc
    unfold pr_c pr_C at h ⊢
    simp only [pr_F_app, pr_T_app, pr_R_app, pr_N_app, pr_D_app, pr_F, pr_T, pr_R, pr_N, pr_D] at h ⊢
    have f1 := pr_N_T i a
    have f2 := pr_N_T i b
    have f3 := pr_N_D i a
    have f4 := pr_N_D i b
    have hk := hs
    (simp [pr_up, g4, hcr, hk] at h ⊢) <;> omega
  · have gc : ¬ c = i := fun z => hc z.symm
    by_cases hr : i = r
    · subst hr
      unfold pr_c pr_C at h ⊢
      simp only [pr_F_app, pr_T_app, pr_R_app, pr_N_app, pr_D_app, pr_F, pr_T, pr_R, pr_N, pr_D] at h ⊢
      have f1 := pr_N_T i a
      have f2 := pr_N_T i b
      have f3 := pr_N_D i a
      have f4 := pr_N_D i b
      have hk : s i = 3 := h.2.2.2.2.2.2.2.2.1 (by simp; omega)
      (simp [pr_up, g4, hc, gc, hcr, hk] at h ⊢) <;> omega
    · have gr : ¬ r = i := fun z => hr z.symm
      exact pr_c_of h (by simp [pr_F_app, pr_T_app, pr_R_app, pr_N_app, pr_D_app, pr_F, pr_T, pr_R, pr_N, pr_D, gc, gr, g4, hcr]) (by simp [pr_F_app, pr_T_app, pr_R_app, pr_N_app, pr_D_app, pr_F, pr_T, pr_R, pr_N, pr_D, gc, gr, g4, hcr]) (by simp [pr_F_app, pr_T_app, pr_R_app, pr_N_app, pr_D_app, pr_F, pr_T, pr_R, pr_N, pr_D, gc, gr, g4, hcr]) (by simp [pr_F_app, pr_T_app, pr_R_app, pr_N_app, pr_D_app, pr_F, pr_T, pr_R, pr_N, pr_D, gc, gr, g4, hcr]) (by simp [pr_F_app, pr_T_app, pr_R_app, pr_N_app, pr_D_app, pr_F, pr_T, pr_R, pr_N, pr_D, gc, gr, g4, hcr]) (by simp [pr_F_app, pr_T_app, pr_R_app, pr_N_app, pr_D_app, pr_F, pr_T, pr_R, pr_N, pr_D, gc, gr, g4, hcr]) (by simp [pr_F_app, pr_T_app, pr_R_app, pr_N_app, pr_D_app, pr_F, pr_T, pr_R, pr_N, pr_D, gc, gr, g4, hcr]) (by simp [pr_F_app, pr_T_app, pr_R_app, pr_N_app, pr_D_app, pr_F, pr_T, pr_R, pr_N, pr_D, gc, gr, g4, hcr]) (by simp [pr_F_app, pr_T_app, pr_R_app, pr_N_app, pr_D_app, pr_F, pr_T, pr_R, pr_N, pr_D, gc, gr, g4, hcr]) (by simp [pr_F_app, pr_T_app, pr_R_app, pr_N_app, pr_D_app, pr_F, pr_T, pr_R, pr_N, pr_D, gc, gr, g4, hcr]) (by simp [pr_F_app, pr_T_app, pr_R_app, pr_N_app, pr_D_app, pr_F, pr_T, pr_R, pr_N, pr_D, gc, gr, g4, hcr]) (by simp [pr_F_app, pr_T_app, pr_R_app, pr_N_app, pr_D_app, pr_F, pr_T, pr_R, pr_N, pr_D, gc, gr, g4, hcr]) (pr_up_n _ _ _ hc) (rfl)
/-- FWDM at a core in 2 -/
theorem pr_c_D5_2 {s : Nat → Nat} {ms : Nat → Int} {a b : List pr_M} {f c r : Nat} {n : Int} (H : ∀ i, i < 4 → pr_c s ms (a ++ (5, f, c, n, r) :: b) i) (hc : c < 4) (hr : r < 4) (hcr : ¬ r = c) (hs : s c = 2) : ∀ i, i < 4 → pr_c (pr_up s c 0) ms (a ++ b ++ [(8, c, r, 0, 5)]) i := by
  intro i hi
  have h := H i hi
  clear H
  have g4 : ¬ 4 = i := by omega
  by_cases hc : i = c
  · subst hc
    unfold pr_c pr_C at h ⊢
    simp only [pr_F_app, pr_T_app, pr_R_app, pr_N_app, pr_D_app, pr_F, pr_T, pr_R, pr_N, pr_D] at h ⊢
    have f1 := pr_N_T i a
    have f2 := pr_N_T i b
    have f3 := pr_N_D i a
    have f4 := pr_N_D i b
    have hk := hs
    (simp [pr_up, g4, hcr, hk] at h ⊢) <;> omega
  · have gc : ¬ c = i := fun z => hc z.symm
    by_cases hr : i = r
    · subst hr
      unfold pr_c pr_C at h ⊢
      simp only [pr_F_app, pr_T_app, pr_R_app, pr_N_app, pr_D_app, pr_F, pr_T, pr_R, pr_N, pr_D] at h ⊢
      have f1 := pr_N_T i a
      have f2 := pr_N_T i b
      have f3 := pr_N_D i a
      have f4 := pr_N_D i b
      have hk : s i = 4 ∨ s i = 6 := h.2.2.2.2.2.2.2.1 (by simp; omega)
      rcases hk with hk | hk
      · (simp [pr_up, g4, hc, gc, hcr, hk] at h ⊢) <;> omega
      · (simp [pr_up, g4, hc, gc, hcr, hk] at h ⊢) <;> omega
    · have gr : ¬ r = i := fun z => hr z.symm
      exact pr_c_of h (by simp [pr_F_app, pr_T_app, pr_R_app, pr_N_app, pr_D_app, pr_F, pr_T, pr_R, pr_N, pr_D, gc, gr, g4, hcr]) (by simp [pr_F_app, pr_T_app, pr_R_app, pr_N_app, pr_D_app, pr_F, pr_T, pr_R, pr_N, pr_D, gc, gr, g4, hcr]) (by simp [pr_F_app, pr_T_app, pr_R_app, pr_N_app, pr_D_app, pr_F, pr_T, pr_R, pr_N, pr_D, gc, gr, g4, hcr]) (by simp [pr_F_app, pr_T_app, pr_R_app, pr_N_app, pr_D_app, pr_F, pr_T, pr_R, pr_N, pr_D, gc, gr, g4, hcr]) (by simp [pr_F_app, pr_T_app, pr_R_app, pr_N_app, pr_D_app, pr_F, pr_T, pr_R, pr_N, pr_D, gc, gr, g4, hcr]) (by simp [pr_F_app, pr_T_app, pr_R_app, pr_N_app, pr_D_app, pr_F, pr_T, pr_R, pr_N, pr_D, gc, gr, g4, hcr]) (by simp [pr_F_app, pr_T_app, pr_R_app, pr_N_app, pr_D_app, pr_F, pr_T, pr_R, pr_N, pr_D, gc, gr, g4, hcr]) (by simp [pr_F_app, pr_T_app, pr_R_app, pr_N_app, pr_D_app, pr_F, pr_T, pr_R, pr_N, pr_D, gc, gr, g4, hcr]) (by simp [pr_F_app, pr_T_app, pr_R_app, pr_N_app, pr_D_app, pr_F, pr_T, pr_R, pr_N, pr_D, gc, gr, g4, hcr]) (by simp [pr_F_app, pr_T_app, pr_R_app, pr_N_app, pr_D_app, pr_F, pr_T, pr_R, pr_N, pr_D, gc, gr, g4, hcr]) (by simp [pr_F_app, pr_T_app, pr_R_app, pr_N_app, pr_D_app, pr_F, pr_T, pr_R, pr_N, pr_D, gc, gr, g4, hcr]) (by simp [pr_F_app, pr_T_app, pr_R_app, pr_N_app, pr_D_app, pr_F, pr_T, pr_R, pr_N, pr_D, gc, gr, g4, hcr]) (pr_up_n _ _ _ hc) (rfl)
/-- FWDM at a core in 8 -/
theorem pr_c_D5_8 {s : Nat → Nat} {ms : Nat → Int} {a b : List pr_M} {f c r : Nat} {n : Int} (H : ∀ i, i < 4 → pr_c s ms (a ++ (5, f, c, n, r) :: b) i) (hc : c < 4) (hr : r < 4) (hcr : ¬ r = c) (hs : s c = 8) : ∀ i, i < 4 → pr_c (pr_up s c 10) ms (a ++ b ++ [(8, c, r, 0, 5)]) i := by
  intro i hi
  have h := H i hi
  clear H
  have g4 : ¬ 4 = i := by omega
  by_cases hc : i = c
  · subst hc
    unfold pr_c pr_C at h ⊢
    simp only [pr_F_app, pr_T_app, pr_R_app, pr_N_app, pr_D_app, pr_F, pr_T, pr_R, pr_N, pr_D] at h ⊢
    have f1 := pr_N_T i a
    have f2 := pr_N_T i b
    have f3 := pr_N_D i a
    have f4 := pr_N_D i b
    have hk := hs
    (simp [pr_up, g4, hcr, hk] at h ⊢) <;> omega
  · have gc : ¬ c = i := fun z => hc z.symm
    by_cases hr : i = r
    · subst hr
      unfold pr_c pr_C at h ⊢
      simp only [pr_F_app, pr_T_app, pr_R_app, pr_N_app, pr_D_app, pr_F, pr_T, pr_R, pr_N, pr_D] at h ⊢
      have f1 := pr_N_T i a
      have f2 := pr_N_T i b
      have f3 := pr_N_D i a
      have f4 := pr_N_D i b
      have hk : s i = 4 ∨ s i = 6 := h.2.2.2.2.2.2.2.1 (by simp; omega)
      rcases hk with hk | hk
      · (simp [pr_up, g4, hc, gc, hcr, hk] at h ⊢) <;> omega
      · (simp [pr_up, g4, hc, gc, hcr, hk] at h ⊢) <;> omega
    · have gr : ¬ r = i := fun z => hr z.symm
      exact pr_c_of h (by simp [pr_F_app, pr_T_app, pr_R_app, pr_N_app, pr_D_app, pr_F, pr_T, pr_R, pr_N, pr_D, gc, gr, g4, hcr]) (by simp [pr_F_app, pr_T_app, pr_R_app, pr_N_app, pr_D_app, pr_F, pr_T, pr_R, pr_N, pr_D, gc, gr, g4, hcr]) (by simp [pr_F_app, pr_T_app, pr_R_app, pr_N_app, pr_D_app, pr_F, pr_T, pr_R, pr_N, pr_D, gc, gr, g4, hcr]) (by simp [pr_F_app, pr_T_app, pr_R_app, pr_N_app, pr_D_app, pr_F, pr_T, pr_R, pr_N, pr_D, gc, gr, g4, hcr]) (by simp [pr_F_app, pr_T_app, pr_R_app, pr_N_app, pr_D_app, pr_F, pr_T, pr_R, pr_N, pr_D, gc, gr, g4, hcr]) (by simp [pr_F_app, pr_T_app, pr_R_app, pr_N_app, pr_D_app, pr_F, pr_T, pr_R, pr_N, pr_D, gc, gr, g4, hcr]) (by simp [pr_F_app, pr_T_app, pr_R_app, pr_N_app, pr_D_app, pr_F, pr_T, pr_R, pr_N, pr_D, gc, gr, g4, hcr]) (by simp [pr_F_app, pr_T_app, pr_R_app, pr_N_app, pr_D_app, pr_F, pr_T, pr_R, pr_N, pr_D, gc, gr, g4, hcr]) (by simp [pr_F_app, pr_T_app, pr_R_app, pr_N_app, pr_D_app, pr_F, pr_T, pr_R, pr_N, pr_D, gc, gr, g4, hcr]) (by simp [pr_F_app, pr_T_app, pr_R_app, pr_N_app, pr_D_app, pr_F, pr_T, pr_R, pr_N, pr_D, gc, gr, g4, hcr]) (by simp [pr_F_app, pr_T_app, pr_R_app, pr_N_app, pr_D_app, pr_F, pr_T, pr_R, pr_N, pr_D, gc, gr, g4, hcr]) (by simp [pr_F_app, pr_T_app, pr_R_app, pr_N_app, pr_D_app, pr_F, pr_T, pr_R, pr_N, pr_D, gc, gr, g4, hcr]) (pr_up_n _ _ _ hc) (rfl)
/-- PUTACK at a core -/
theorem pr_c_D7 {s : Nat → Nat} {ms : Nat → Int} {a b : List pr_M} {f c : Nat} {n : Int} {x : Nat} (H : ∀ i, i < 4 → pr_c s ms (a ++ (7, f, c, n, x) :: b) i) (hc : c < 4) (hs : s c = 8 ∨ s c = 9 ∨ s c = 10) : ∀ i, i < 4 → pr_c (pr_up s c 0) ms (a ++ b) i := by
  intro i hi
  have h := H i hi
  clear H
  have g4 : ¬ 4 = i := by omega
  by_cases hc : i = c
  · subst hc
    unfold pr_c pr_C at h ⊢
    simp only [pr_F_app, pr_T_app, pr_R_app, pr_N_app, pr_D_app, pr_F, pr_T, pr_R, pr_N, pr_D] at h ⊢
    have f1 := pr_N_T i a
    have f2 := pr_N_T i b
    have f3 := pr_N_D i a
    have f4 := pr_N_D i b
    have hk := hs
    rcases hk with hk | hk | hk
    · (simp [pr_up, g4, hk] at h ⊢) <;> omega
    · (simp [pr_up, g4, hk] at h ⊢) <;> omega
    · (simp [pr_up, g4, hk] at h ⊢) <;> omega
  · have gc : ¬ c = i := fun z => hc z.symm
    exact pr_c_of h (by simp [pr_F_app, pr_T_app, pr_R_app, pr_N_app, pr_D_app, pr_F, pr_T, pr_R, pr_N, pr_D, gc, g4]) (by simp [pr_F_app, pr_T_app, pr_R_app, pr_N_app, pr_D_app, pr_F, pr_T, pr_R, pr_N, pr_D, gc, g4]) (by simp [pr_F_app, pr_T_app, pr_R_app, pr_N_app, pr_D_app, pr_F, pr_T, pr_R, pr_N, pr_D, gc, g4]) (by simp [pr_F_app, pr_T_app, pr_R_app, pr_N_app, pr_D_app, pr_F, pr_T, pr_R, pr_N, pr_D, gc, g4]) (by simp [pr_F_app, pr_T_app, pr_R_app, pr_N_app, pr_D_app, pr_F, pr_T, pr_R, pr_N, pr_D, gc, g4]) (by simp [pr_F_app, pr_T_app, pr_R_app, pr_N_app, pr_D_app, pr_F, pr_T, pr_R, pr_N, pr_D, gc, g4]) (by simp [pr_F_app, pr_T_app, pr_R_app, pr_N_app, pr_D_app, pr_F, pr_T, pr_R, pr_N, pr_D, gc, g4]) (by simp [pr_F_app, pr_T_app, pr_R_app, pr_N_app, pr_D_app, pr_F, pr_T, pr_R, pr_N, pr_D, gc, g4]) (by simp [pr_F_app, pr_T_app, pr_R_app, pr_N_app, pr_D_app, pr_F, pr_T, pr_R, pr_N, pr_D, gc, g4]) (by simp [pr_F_app, pr_T_app, pr_R_app, pr_N_app, pr_D_app, pr_F, pr_T, pr_R, pr_N, pr_D, gc, g4]) (by simp [pr_F_app, pr_T_app, pr_R_app, pr_N_app, pr_D_app, pr_F, pr_T, pr_R, pr_N, pr_D, gc, g4]) (by simp [pr_F_app, pr_T_app, pr_R_app, pr_N_app, pr_D_app, pr_F, pr_T, pr_R, pr_N, pr_D, gc, g4]) (pr_up_n _ _ _ hc) (rfl)
