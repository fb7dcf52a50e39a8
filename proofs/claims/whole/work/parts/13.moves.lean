/-! The moves of a block keep what holds of it -/
/-- a core asks to read -/
theorem pr_I_R1 {s : Nat → Nat} {ms : Nat → Int} {d ow : Nat} {sh : Nat → Bool} {q : List pr_M} {c : Nat} (h : pr_I s ms d ow sh q) (hc : c < 4) (hs : s c = 0) : pr_I (pr_up s c 3) ms d ow sh (q ++ [(0, c, 4, 0, 5)]) := by
  obtain ⟨hC, hA, hW, h7, hH, h9⟩ := h
  have ef : ∀ i, pr_fq i (q ++ [(0, c, 4, 0, 5)]) = pr_fq i q := fun i => by simp [pr_fq_app, pr_fq]
  have et : ∀ i, pr_T 8 i (q ++ [(0, c, 4, 0, 5)]) = pr_T 8 i q := fun i => by simp [pr_T_app, pr_T]
  refine ⟨pr_c_R1 hC hc hs, ?_, ?_, ?_, hH, ?_⟩
  · intro i hi
    by_cases hic : i = c
    · subst hic
      have h1 := hA i hi
      have e2 : pr_g i (q ++ [(0, i, 4, 0, 5)]) = true := by
        (simp [pr_g, pr_F_app, pr_F]) <;> omega
      unfold pr_A at *
      rw [ef, e2, pr_up_s]
      rw [hs] at h1
      exact (pr_tab_a0 _ _ h1).1
    · have hci : ¬ c = i := fun z => hic z.symm
      exact pr_A_of (hA i hi) (ef i) rfl (pr_up_n _ _ _ hic) (pr_g_eq (by simp [pr_F_app, pr_F, hci]))
  · refine pr_W_s hW (fun z => by rw [et 4] at z; exact z) (fun i hi k => ?_)
    by_cases hic : i = c
    · subst hic
      exact absurd k (pr_o_no (by rw [pr_up_s]; omega))
    · exact pr_o_of (pr_up_n _ _ _ hic) (ef i) (et i) k
  · unfold pr_7 at *
    rw [pr_K_app, et 4]
    simpa [pr_K] using h7
  · refine pr_9_app h9 (pr_9_one ?_)
    simp [pr_sh, hc]
/-- a core without the line asks to write -/
theorem pr_I_R2 {s : Nat → Nat} {ms : Nat → Int} {d ow : Nat} {sh : Nat → Bool} {q : List pr_M} {c : Nat} (h : pr_I s ms d ow sh q) (hc : c < 4) (hs : s c = 0) : pr_I (pr_up s c 4) (pr_up ms c 0) d ow sh (q ++ [(1, c, 4, 0, 5)]) := by
  obtain ⟨hC, hA, hW, h7, hH, h9⟩ := h
  have ef : ∀ i, pr_fq i (q ++ [(1, c, 4, 0, 5)]) = pr_fq i q := fun i => by simp [pr_fq_app, pr_fq]
  have et : ∀ i, pr_T 8 i (q ++ [(1, c, 4, 0, 5)]) = pr_T 8 i q := fun i => by simp [pr_T_app, pr_T]
  refine ⟨pr_c_R2 hC hc hs, ?_, ?_, ?_, hH, ?_⟩
  · intro i hi
    by_cases hic : i = c
    · subst hic
      have h1 := hA i hi
      have e2 : pr_g i (q ++ [(1, i, 4, 0, 5)]) = true := by
        (simp [pr_g, pr_F_app, pr_F]) <;> omega
      unfold pr_A at *
      rw [ef, e2, pr_up_s]
      rw [hs] at h1
      exact (pr_tab_a0 _ _ h1).2
    · have hci : ¬ c = i := fun z => hic z.symm
      exact pr_A_of (hA i hi) (ef i) rfl (pr_up_n _ _ _ hic) (pr_g_eq (by simp [pr_F_app, pr_F, hci]))
  · refine pr_W_s hW (fun z => by rw [et 4] at z; exact z) (fun i hi k => ?_)
    by_cases hic : i = c
    · subst hic
      have h1 := hC i hi
      unfold pr_c pr_C at h1
      unfold pr_o at k
      rw [pr_up_s, et i] at k
      omega
    · exact pr_o_of (pr_up_n _ _ _ hic) (ef i) (et i) k
  · unfold pr_7 at *
    rw [pr_K_app, et 4]
    simpa [pr_K] using h7
  · refine pr_9_app h9 (pr_9_one ?_)
    simp [pr_sh, hc]
/-- a core that shares asks to write -/
theorem pr_I_R3 {s : Nat → Nat} {ms : Nat → Int} {d ow : Nat} {sh : Nat → Bool} {q : List pr_M} {c : Nat} (h : pr_I s ms d ow sh q) (hc : c < 4) (hs : s c = 1) : pr_I (pr_up s c 6) (pr_up ms c 0) d ow sh (q ++ [(1, c, 4, 0, 5)]) := by
  obtain ⟨hC, hA, hW, h7, hH, h9⟩ := h
  have ef : ∀ i, pr_fq i (q ++ [(1, c, 4, 0, 5)]) = pr_fq i q := fun i => by simp [pr_fq_app, pr_fq]
  have et : ∀ i, pr_T 8 i (q ++ [(1, c, 4, 0, 5)]) = pr_T 8 i q := fun i => by simp [pr_T_app, pr_T]
  refine ⟨pr_c_R3 hC hc hs, ?_, ?_, ?_, hH, ?_⟩
  · intro i hi
    by_cases hic : i = c
    · subst hic
      have h1 := hA i hi
      have e2 : pr_g i (q ++ [(1, i, 4, 0, 5)]) = true := by
        (simp [pr_g, pr_F_app, pr_F]) <;> omega
      unfold pr_A at *
      rw [ef, e2, pr_up_s]
      rw [hs] at h1
      exact (pr_tab_a1 _ _ h1).1
    · have hci : ¬ c = i := fun z => hic z.symm
      exact pr_A_of (hA i hi) (ef i) rfl (pr_up_n _ _ _ hic) (pr_g_eq (by simp [pr_F_app, pr_F, hci]))
  · refine pr_W_s hW (fun z => by rw [et 4] at z; exact z) (fun i hi k => ?_)
    by_cases hic : i = c
    · subst hic
      have h1 := hC i hi
      unfold pr_c pr_C at h1
      unfold pr_o at k
      rw [pr_up_s, et i] at k
      omega
    · exact pr_o_of (pr_up_n _ _ _ hic) (ef i) (et i) k
  · unfold pr_7 at *
    rw [pr_K_app, et 4]
    simpa [pr_K] using h7
  · refine pr_9_app h9 (pr_9_one ?_)
    simp [pr_sh, hc]
/-- a core gives a shared line back -/
theorem pr_I_R4 {s : Nat → Nat} {ms : Nat → Int} {d ow : Nat} {sh : Nat → Bool} {q : List pr_M} {c : Nat} (h : pr_I s ms d ow sh q) (hc : c < 4) (hs : s c = 1) : pr_I (pr_up s c 9) ms d ow sh (q ++ [(2, c, 4, 0, 5)]) := by
  obtain ⟨hC, hA, hW, h7, hH, h9⟩ := h
  have ef : ∀ i, pr_fq i (q ++ [(2, c, 4, 0, 5)]) = pr_fq i q := fun i => by simp [pr_fq_app, pr_fq]
  have et : ∀ i, pr_T 8 i (q ++ [(2, c, 4, 0, 5)]) = pr_T 8 i q := fun i => by simp [pr_T_app, pr_T]
  refine ⟨pr_c_R4 hC hc hs, ?_, ?_, ?_, hH, ?_⟩
  · intro i hi
    by_cases hic : i = c
    · subst hic
      have h1 := hA i hi
      have e2 : pr_g i (q ++ [(2, i, 4, 0, 5)]) = pr_g i q := pr_g_eq (by simp [pr_F_app, pr_F])
      unfold pr_A at *
      rw [ef, e2, pr_up_s]
      rw [hs] at h1
      exact (pr_tab_a1 _ _ h1).2
    · have hci : ¬ c = i := fun z => hic z.symm
      exact pr_A_of (hA i hi) (ef i) rfl (pr_up_n _ _ _ hic) (pr_g_eq (by simp [pr_F_app, pr_F, hci]))
  · refine pr_W_s hW (fun z => by rw [et 4] at z; exact z) (fun i hi k => ?_)
    by_cases hic : i = c
    · subst hic
      exact absurd k (pr_o_no (by rw [pr_up_s]; omega))
    · exact pr_o_of (pr_up_n _ _ _ hic) (ef i) (et i) k
  · unfold pr_7 at *
    rw [pr_K_app, et 4]
    simpa [pr_K] using h7
  · refine pr_9_app h9 (pr_9_one ?_)
    simp [pr_sh, hc]
/-- a core gives an owned line back -/
theorem pr_I_R5 {s : Nat → Nat} {ms : Nat → Int} {d ow : Nat} {sh : Nat → Bool} {q : List pr_M} {c : Nat} (h : pr_I s ms d ow sh q) (hc : c < 4) (hs : s c = 2) : pr_I (pr_up s c 8) ms d ow sh (q ++ [(3, c, 4, 0, 5)]) := by
  obtain ⟨hC, hA, hW, h7, hH, h9⟩ := h
  have ef : ∀ i, pr_fq i (q ++ [(3, c, 4, 0, 5)]) = pr_fq i q := fun i => by simp [pr_fq_app, pr_fq]
  have et : ∀ i, pr_T 8 i (q ++ [(3, c, 4, 0, 5)]) = pr_T 8 i q := fun i => by simp [pr_T_app, pr_T]
  refine ⟨pr_c_R5 hC hc hs, ?_, ?_, ?_, hH, ?_⟩
  · intro i hi
    by_cases hic : i = c
    · subst hic
      have h1 := hA i hi
      have e2 : pr_g i (q ++ [(3, i, 4, 0, 5)]) = pr_g i q := pr_g_eq (by simp [pr_F_app, pr_F])
      unfold pr_A at *
      rw [ef, e2, pr_up_s]
      rw [hs] at h1
      exact pr_tab_a2 _ _ h1
    · have hci : ¬ c = i := fun z => hic z.symm
      exact pr_A_of (hA i hi) (ef i) rfl (pr_up_n _ _ _ hic) (pr_g_eq (by simp [pr_F_app, pr_F, hci]))
  · refine pr_W_s hW (fun z => by rw [et 4] at z; exact z) (fun i hi k => ?_)
    by_cases hic : i = c
    · subst hic
      exact Or.inl hs
    · exact pr_o_of (pr_up_n _ _ _ hic) (ef i) (et i) k
  · unfold pr_7 at *
    rw [pr_K_app, et 4]
    simpa [pr_K] using h7
  · refine pr_9_app h9 (pr_9_one ?_)
    simp [pr_sh, hc]
