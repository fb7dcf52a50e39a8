/-! A message comes in at a core -/
/-- DATA at a core in SM: no INV is ahead -/
theorem pr_hard {s : Nat → Nat} {ms : Nat → Int} {d ow : Nat} {sh : Nat → Bool} {a b : List pr_M} {f c x : Nat} {n : Int} (h : pr_I s ms d ow sh (a ++ (8, f, c, n, x) :: b)) (hc : c < 4) (hs : s c = 6) : ¬ (pr_fq c (a ++ (8, f, c, n, x) :: b)).head? = some 6 := by
  obtain ⟨hC, hA, hW, h7, hH, h9⟩ := h
  intro hh
  have hm : 6 ∈ pr_fq c (a ++ (8, f, c, n, x) :: b) := List.mem_of_mem_head? hh
  obtain ⟨m, hq, h1, h2⟩ := pr_fq_6 _ _ hm
  have hsh := h9 m hq
  unfold pr_sh at hsh
  have hr : m.2.2.2.2 < 4 := by omega
  have hrc : ¬ m.2.2.2.2 = c := by omega
  have hpos := pr_R_in 6 m.2.2.2.2 _ m hq h1 rfl
  generalize m.2.2.2.2 = r at hr hrc hpos
  have ho : pr_o s (a ++ (8, f, c, n, x) :: b) r := pr_c_inv (hC r hr) hpos
  have hp : pr_o s (a ++ (8, f, c, n, x) :: b) c := by
    refine Or.inr (Or.inr (Or.inr (Or.inr ⟨Or.inr hs, ?_⟩)))
    simp only [pr_T_app, pr_T]
    simp
    omega
  exact hW r (by omega) c (by omega) hrc ((pr_h_c hr).mpr ho) ((pr_h_c hc).mpr hp)
/-- DATA at a reader -/
theorem pr_I_D8r {s : Nat → Nat} {ms : Nat → Int} {d ow : Nat} {sh : Nat → Bool} {a b : List pr_M} {f c x : Nat} {n : Int} (h : pr_I s ms d ow sh (a ++ (8, f, c, n, x) :: b)) (hc : c < 4) (hs : s c = 3) : pr_I (pr_up s c 1) ms d ow sh (a ++ b) := by
  have h0 := h
  obtain ⟨hC, hA, hW, h7, hH, h9⟩ := h
  have ef : ∀ i, pr_fq i (a ++ b) = pr_fq i (a ++ (8, f, c, n, x) :: b) := fun i => (pr_fq_del (fun z => by omega)).symm
  have eg : ∀ i, pr_g i (a ++ b) = pr_g i (a ++ (8, f, c, n, x) :: b) := fun i => pr_g_eq (by simp [pr_F_app, pr_F])
  have et : ∀ i, ¬ i = c → pr_T 8 i (a ++ b) = pr_T 8 i (a ++ (8, f, c, n, x) :: b) := fun i hic => by
    have hci : ¬ c = i := fun z => hic z.symm
    simp [pr_T_app, pr_T, hci]
  refine ⟨pr_c_D8r hC hc hs, ?_, ?_, ?_, hH, pr_9_del h9⟩
  · intro i hi
    by_cases hic : i = c
    · subst hic
      have h1 := hA i hi
      unfold pr_A at *
      have e0 : pr_g i (a ++ (8, f, i, n, x) :: b) = false := by
        have hcc := pr_c_req (hC i hi) (by omega)
        unfold pr_g
        simp only [pr_F_app, pr_T_app, pr_R_app, pr_F, pr_T, pr_R] at hcc ⊢
        simp at hcc ⊢
        omega
      rw [ef, eg, e0, pr_up_s]
      rw [hs, e0] at h1
      exact pr_tab_d3 _ _ h1
    · exact pr_A_of (hA i hi) (ef i) rfl (pr_up_n _ _ _ hic) (eg i)
  · refine pr_W_s hW (fun z => by rw [et 4 (by omega)] at z; exact z) (fun i hi k => ?_)
    by_cases hic : i = c
    · subst hic
      exact absurd k (pr_o_no (by rw [pr_up_s]; omega))
    · exact pr_o_of (pr_up_n _ _ _ hic) (ef i) (et i hic) k
  · unfold pr_7 at *
    rw [et 4 (by omega)]
    simpa [pr_K_app, pr_K] using h7
/-- DATA at a writer -/
theorem pr_I_D8m4 {s : Nat → Nat} {ms : Nat → Int} {d ow : Nat} {sh : Nat → Bool} {a b : List pr_M} {f c x : Nat} {n : Int} (h : pr_I s ms d ow sh (a ++ (8, f, c, n, x) :: b)) (hc : c < 4) (hs : s c = 4) (hn : ms c + n = 0) : pr_I (pr_up s c 2) (pr_up ms c (ms c + n)) d ow sh (a ++ b) := by
  have h0 := h
  obtain ⟨hC, hA, hW, h7, hH, h9⟩ := h
  have ef : ∀ i, pr_fq i (a ++ b) = pr_fq i (a ++ (8, f, c, n, x) :: b) := fun i => (pr_fq_del (fun z => by omega)).symm
  have eg : ∀ i, pr_g i (a ++ b) = pr_g i (a ++ (8, f, c, n, x) :: b) := fun i => pr_g_eq (by simp [pr_F_app, pr_F])
  have et : ∀ i, ¬ i = c → pr_T 8 i (a ++ b) = pr_T 8 i (a ++ (8, f, c, n, x) :: b) := fun i hic => by
    have hci : ¬ c = i := fun z => hic z.symm
    simp [pr_T_app, pr_T, hci]
  refine ⟨pr_c_D8m4 hC hc hs hn, ?_, ?_, ?_, hH, pr_9_del h9⟩
  · intro i hi
    by_cases hic : i = c
    · subst hic
      have h1 := hA i hi
      unfold pr_A at *
      have e0 : pr_g i (a ++ (8, f, i, n, x) :: b) = false := by
        have hcc := pr_c_req (hC i hi) (by omega)
        unfold pr_g
        simp only [pr_F_app, pr_T_app, pr_R_app, pr_F, pr_T, pr_R] at hcc ⊢
        simp at hcc ⊢
        omega
      rw [ef, eg, e0, pr_up_s]
      rw [hs, e0] at h1
      exact (pr_tab_d4 _ _ h1).1
    · exact pr_A_of (hA i hi) (ef i) rfl (pr_up_n _ _ _ hic) (eg i)
  · refine pr_W_s hW (fun z => by rw [et 4 (by omega)] at z; exact z) (fun i hi k => ?_)
    by_cases hic : i = c
    · subst hic
      have hT : 0 < pr_T 8 i (a ++ (8, f, i, n, x) :: b) := by
        simp only [pr_T_app, pr_T]
        simp
        omega
      unfold pr_o
      omega
    · exact pr_o_of (pr_up_n _ _ _ hic) (ef i) (et i hic) k
  · unfold pr_7 at *
    rw [et 4 (by omega)]
    simpa [pr_K_app, pr_K] using h7
/-- DATA at a writer -/
theorem pr_I_D8w4 {s : Nat → Nat} {ms : Nat → Int} {d ow : Nat} {sh : Nat → Bool} {a b : List pr_M} {f c x : Nat} {n : Int} (h : pr_I s ms d ow sh (a ++ (8, f, c, n, x) :: b)) (hc : c < 4) (hs : s c = 4) (hn : ¬ ms c + n = 0) : pr_I (pr_up s c 5) (pr_up ms c (ms c + n)) d ow sh (a ++ b) := by
  have h0 := h
  obtain ⟨hC, hA, hW, h7, hH, h9⟩ := h
  have ef : ∀ i, pr_fq i (a ++ b) = pr_fq i (a ++ (8, f, c, n, x) :: b) := fun i => (pr_fq_del (fun z => by omega)).symm
  have eg : ∀ i, pr_g i (a ++ b) = pr_g i (a ++ (8, f, c, n, x) :: b) := fun i => pr_g_eq (by simp [pr_F_app, pr_F])
  have et : ∀ i, ¬ i = c → pr_T 8 i (a ++ b) = pr_T 8 i (a ++ (8, f, c, n, x) :: b) := fun i hic => by
    have hci : ¬ c = i := fun z => hic z.symm
    simp [pr_T_app, pr_T, hci]
  refine ⟨pr_c_D8w4 hC hc hs hn, ?_, ?_, ?_, hH, pr_9_del h9⟩
  · intro i hi
    by_cases hic : i = c
    · subst hic
      have h1 := hA i hi
      unfold pr_A at *
      have e0 : pr_g i (a ++ (8, f, i, n, x) :: b) = false := by
        have hcc := pr_c_req (hC i hi) (by omega)
        unfold pr_g
        simp only [pr_F_app, pr_T_app, pr_R_app, pr_F, pr_T, pr_R] at hcc ⊢
        simp at hcc ⊢
        omega
      rw [ef, eg, e0, pr_up_s]
      rw [hs, e0] at h1
      exact (pr_tab_d4 _ _ h1).2
    · exact pr_A_of (hA i hi) (ef i) rfl (pr_up_n _ _ _ hic) (eg i)
  · refine pr_W_s hW (fun z => by rw [et 4 (by omega)] at z; exact z) (fun i hi k => ?_)
    by_cases hic : i = c
    · subst hic
      have hT : 0 < pr_T 8 i (a ++ (8, f, i, n, x) :: b) := by
        simp only [pr_T_app, pr_T]
        simp
        omega
      unfold pr_o
      omega
    · exact pr_o_of (pr_up_n _ _ _ hic) (ef i) (et i hic) k
  · unfold pr_7 at *
    rw [et 4 (by omega)]
    simpa [pr_K_app, pr_K] using h7
/-- DATA at a writer -/
theorem pr_I_D8m6 {s : Nat → Nat} {ms : Nat → Int} {d ow : Nat} {sh : Nat → Bool} {a b : List pr_M} {f c x : Nat} {n : Int} (h : pr_I s ms d ow sh (a ++ (8, f, c, n, x) :: b)) (hc : c < 4) (hs : s c = 6) (hn : ms c + n = 0) : pr_I (pr_up s c 2) (pr_up ms c (ms c + n)) d ow sh (a ++ b) := by
  have h0 := h
  obtain ⟨hC, hA, hW, h7, hH, h9⟩ := h
  have ef : ∀ i, pr_fq i (a ++ b) = pr_fq i (a ++ (8, f, c, n, x) :: b) := fun i => (pr_fq_del (fun z => by omega)).symm
  have eg : ∀ i, pr_g i (a ++ b) = pr_g i (a ++ (8, f, c, n, x) :: b) := fun i => pr_g_eq (by simp [pr_F_app, pr_F])
  have et : ∀ i, ¬ i = c → pr_T 8 i (a ++ b) = pr_T 8 i (a ++ (8, f, c, n, x) :: b) := fun i hic => by
    have hci : ¬ c = i := fun z => hic z.symm
    simp [pr_T_app, pr_T, hci]
  refine ⟨pr_c_D8m6 hC hc hs hn, ?_, ?_, ?_, hH, pr_9_del h9⟩
  · intro i hi
    by_cases hic : i = c
    · subst hic
      have h1 := hA i hi
      unfold pr_A at *
      have e0 : pr_g i (a ++ (8, f, i, n, x) :: b) = false := by
        have hcc := pr_c_req (hC i hi) (by omega)
        unfold pr_g
        simp only [pr_F_app, pr_T_app, pr_R_app, pr_F, pr_T, pr_R] at hcc ⊢
        simp at hcc ⊢
        omega
      have hno := pr_hard h0 hi hs
      rw [ef, eg, e0, pr_up_s]
      rw [hs, e0] at h1
      rcases pr_tab_d6 false _ h1 with z | z
      · exfalso
        apply hno
        revert z
        generalize pr_fq i (a ++ (8, f, i, n, x) :: b) = l
        intro z
        cases l with
        | nil => simp at z
        | cons y l => simp at z; simp [z]
      · exact z.1
    · exact pr_A_of (hA i hi) (ef i) rfl (pr_up_n _ _ _ hic) (eg i)
  · refine pr_W_s hW (fun z => by rw [et 4 (by omega)] at z; exact z) (fun i hi k => ?_)
    by_cases hic : i = c
    · subst hic
      have hT : 0 < pr_T 8 i (a ++ (8, f, i, n, x) :: b) := by
        simp only [pr_T_app, pr_T]
        simp
        omega
      unfold pr_o
      omega
    · exact pr_o_of (pr_up_n _ _ _ hic) (ef i) (et i hic) k
  · unfold pr_7 at *
    rw [et 4 (by omega)]
    simpa [pr_K_app, pr_K] using h7
/-- DATA at a writer -/
theorem pr_I_D8w6 {s : Nat → Nat} {ms : Nat → Int} {d ow : Nat} {sh : Nat → Bool} {a b : List pr_M} {f c x : Nat} {n : Int} (h : pr_I s ms d ow sh (a ++ (8, f, c, n, x) :: b)) (hc : c < 4) (hs : s c = 6) (hn : ¬ ms c + n = 0) : pr_I (pr_up s c 7) (pr_up ms c (ms c + n)) d ow sh (a ++ b) := by
  have h0 := h
  obtain ⟨hC, hA, hW, h7, hH, h9⟩ := h
  have ef : ∀ i, pr_fq i (a ++ b) = pr_fq i (a ++ (8, f, c, n, x) :: b) := fun i => (pr_fq_del (fun z => by omega)).symm
  have eg : ∀ i, pr_g i (a ++ b) = pr_g i (a ++ (8, f, c, n, x) :: b) := fun i => pr_g_eq (by simp [pr_F_app, pr_F])
  have et : ∀ i, ¬ i = c → pr_T 8 i (a ++ b) = pr_T 8 i (a ++ (8, f, c, n, x) :: b) := fun i hic => by
    have hci : ¬ c = i := fun z => hic z.symm
    simp [pr_T_app, pr_T, hci]
  refine ⟨pr_c_D8w6 hC hc hs hn, ?_, ?_, ?_, hH, pr_9_del h9⟩
  · intro i hi
    by_cases hic : i = c
    · subst hic
      have h1 := hA i hi
      unfold pr_A at *
      have e0 : pr_g i (a ++ (8, f, i, n, x) :: b) = false := by
        have hcc := pr_c_req (hC i hi) (by omega)
        unfold pr_g
        simp only [pr_F_app, pr_T_app, pr_R_app, pr_F, pr_T, pr_R] at hcc ⊢
        simp at hcc ⊢
        omega
      have hno := pr_hard h0 hi hs
      rw [ef, eg, e0, pr_up_s]
      rw [hs, e0] at h1
      rcases pr_tab_d6 false _ h1 with z | z
      · exfalso
        apply hno
        revert z
        generalize pr_fq i (a ++ (8, f, i, n, x) :: b) = l
        intro z
        cases l with
        | nil => simp at z
        | cons y l => simp at z; simp [z]
      · exact z.2
    · exact pr_A_of (hA i hi) (ef i) rfl (pr_up_n _ _ _ hic) (eg i)
  · refine pr_W_s hW (fun z => by rw [et 4 (by omega)] at z; exact z) (fun i hi k => ?_)
    by_cases hic : i = c
    · subst hic
      have hT : 0 < pr_T 8 i (a ++ (8, f, i, n, x) :: b) := by
        simp only [pr_T_app, pr_T]
        simp
        omega
      unfold pr_o
      omega
    · exact pr_o_of (pr_up_n _ _ _ hic) (ef i) (et i hic) k
  · unfold pr_7 at *
    rw [et 4 (by omega)]
    simpa [pr_K_app, pr_K] using h7
/-- the last ACK -/
theorem pr_I_D9l {s : Nat → Nat} {ms : Nat → Int} {d ow : Nat} {sh : Nat → Bool} {a b : List pr_M} {f c x : Nat} {n : Int} (h : pr_I s ms d ow sh (a ++ (9, f, c, n, x) :: b)) (hc : c < 4) (hs : s c = 5 ∨ s c = 7) (hn : ms c - 1 = 0) : pr_I (pr_up s c 2) (pr_up ms c (ms c - 1)) d ow sh (a ++ b) := by
  have h0 := h
  obtain ⟨hC, hA, hW, h7, hH, h9⟩ := h
  have ef : ∀ i, pr_fq i (a ++ b) = pr_fq i (a ++ (9, f, c, n, x) :: b) := fun i => (pr_fq_del (fun z => by omega)).symm
  have eg : ∀ i, pr_g i (a ++ b) = pr_g i (a ++ (9, f, c, n, x) :: b) := fun i => pr_g_eq (by simp [pr_F_app, pr_F])
  have et : ∀ i, ¬ i = c → pr_T 8 i (a ++ b) = pr_T 8 i (a ++ (9, f, c, n, x) :: b) := fun i hic => by
    have hci : ¬ c = i := fun z => hic z.symm
    simp [pr_T_app, pr_T, hci]
  refine ⟨pr_c_D9l hC hc hs hn, ?_, ?_, ?_, hH, pr_9_del h9⟩
  · intro i hi
    by_cases hic : i = c
    · subst hic
      have h1 := hA i hi
      unfold pr_A at *
      rw [ef, eg, pr_up_s]
      exact pr_tab_d9 (s i) (by omega) hs _ _ _ h1
    · exact pr_A_of (hA i hi) (ef i) rfl (pr_up_n _ _ _ hic) (eg i)
  · refine pr_W_s hW (fun z => by rw [et 4 (by omega)] at z; exact z) (fun i hi k => ?_)
    by_cases hic : i = c
    · subst hic
      unfold pr_o
      omega
    · exact pr_o_of (pr_up_n _ _ _ hic) (ef i) (et i hic) k
  · unfold pr_7 at *
    rw [et 4 (by omega)]
    simpa [pr_K_app, pr_K] using h7
/-- an ACK -/
theorem pr_I_D9 {s : Nat → Nat} {ms : Nat → Int} {d ow : Nat} {sh : Nat → Bool} {a b : List pr_M} {f c x : Nat} {n : Int} (h : pr_I s ms d ow sh (a ++ (9, f, c, n, x) :: b)) (hc : c < 4)  : pr_I s (pr_up ms c (ms c - 1)) d ow sh (a ++ b) := by
  have h0 := h
  obtain ⟨hC, hA, hW, h7, hH, h9⟩ := h
  have ef : ∀ i, pr_fq i (a ++ b) = pr_fq i (a ++ (9, f, c, n, x) :: b) := fun i => (pr_fq_del (fun z => by omega)).symm
  have eg : ∀ i, pr_g i (a ++ b) = pr_g i (a ++ (9, f, c, n, x) :: b) := fun i => pr_g_eq (by simp [pr_F_app, pr_F])
  have et : ∀ i, ¬ i = c → pr_T 8 i (a ++ b) = pr_T 8 i (a ++ (9, f, c, n, x) :: b) := fun i hic => by
    have hci : ¬ c = i := fun z => hic z.symm
    simp [pr_T_app, pr_T, hci]
  refine ⟨pr_c_D9 hC hc, ?_, ?_, ?_, hH, pr_9_del h9⟩
  · intro i hi
    by_cases hic : i = c
    · subst hic
      have h1 := hA i hi
      unfold pr_A at *
      rw [ef, eg]
      exact h1
    · exact pr_A_of (hA i hi) (ef i) rfl (rfl) (eg i)
  · refine pr_W_s hW (fun z => by rw [et 4 (by omega)] at z; exact z) (fun i hi k => ?_)
    by_cases hic : i = c
    · subst hic
      refine pr_o_of rfl (ef i) ?_ k
      simp [pr_T_app, pr_T]
    · exact pr_o_of (rfl) (ef i) (et i hic) k
  · unfold pr_7 at *
    rw [et 4 (by omega)]
    simpa [pr_K_app, pr_K] using h7
/-- PUTACK -/
theorem pr_I_D7 {s : Nat → Nat} {ms : Nat → Int} {d ow : Nat} {sh : Nat → Bool} {a b : List pr_M} {f c x : Nat} {n : Int} (h : pr_I s ms d ow sh (a ++ (7, f, c, n, x) :: b)) (hc : c < 4) (hs : s c = 8 ∨ s c = 9 ∨ s c = 10) (hp : pr_fq c a = []) : pr_I (pr_up s c 0) ms d ow sh (a ++ b) := by
  have h0 := h
  obtain ⟨hC, hA, hW, h7, hH, h9⟩ := h
  have ef : ∀ i, ¬ i = c → pr_fq i (a ++ b) = pr_fq i (a ++ (7, f, c, n, x) :: b) := fun i hic => (pr_fq_del (fun z => hic z.2.2.symm)).symm
  have ep : pr_fq c (a ++ (7, f, c, n, x) :: b) = 7 :: pr_fq c (a ++ b) := pr_fq_pop (by decide) hp
  have eg : ∀ i, pr_g i (a ++ b) = pr_g i (a ++ (7, f, c, n, x) :: b) := fun i => pr_g_eq (by simp [pr_F_app, pr_F])
  have et : ∀ i, ¬ i = c → pr_T 8 i (a ++ b) = pr_T 8 i (a ++ (7, f, c, n, x) :: b) := fun i hic => by
    have hci : ¬ c = i := fun z => hic z.symm
    simp [pr_T_app, pr_T, hci]
  refine ⟨pr_c_D7 hC hc hs, ?_, ?_, ?_, hH, pr_9_del h9⟩
  · intro i hi
    by_cases hic : i = c
    · subst hic
      have h1 := hA i hi
      unfold pr_A at *
      rw [ep] at h1
      rw [eg, pr_up_s]
      exact pr_tab_z (s i) (by omega) hs _ _ h1 rfl
    · exact pr_A_of (hA i hi) (ef i hic) rfl (pr_up_n _ _ _ hic) (eg i)
  · refine pr_W_s hW (fun z => by rw [et 4 (by omega)] at z; exact z) (fun i hi k => ?_)
    by_cases hic : i = c
    · subst hic
      exact absurd k (pr_o_no (by rw [pr_up_s]; omega))
    · exact pr_o_of (pr_up_n _ _ _ hic) (ef i hic) (et i hic) k
  · unfold pr_7 at *
    rw [et 4 (by omega)]
    simpa [pr_K_app, pr_K] using h7
/-- INV at a core in 1 -/
theorem pr_I_D6_1 {s : Nat → Nat} {ms : Nat → Int} {d ow : Nat} {sh : Nat → Bool} {a b : List pr_M} {f c r : Nat} {n : Int} (h : pr_I s ms d ow sh (a ++ (6, f, c, n, r) :: b)) (hc : c < 4) (hp : pr_fq c a = []) (hs : s c = 1) : pr_I (pr_up s c 0) ms d ow sh (a ++ b ++ [(9, c, r, 0, 5)]) := by
  obtain ⟨hC, hA, hW, h7, hH, h9⟩ := h
  have hsh := pr_9_at h9
  unfold pr_sh at hsh
  have hr : r < 4 := by simp at hsh; omega
  have hrc : ¬ r = c := by simp at hsh; omega
  have hcr : ¬ c = r := fun z => hrc z.symm
  have h4r : ¬ 4 = r := by omega
  have hr4 : ¬ r = 4 := by omega
  have h4c : ¬ 4 = c := by omega
  have ef : ∀ i, ¬ i = c → pr_fq i (a ++ b ++ [(9, c, r, 0, 5)]) = pr_fq i (a ++ (6, f, c, n, r) :: b) := fun i hic => by
    have hci : ¬ c = i := fun z => hic z.symm
    simp [pr_fq_app, pr_fq, hci]
  have ep : pr_fq c (a ++ (6, f, c, n, r) :: b) = 6 :: pr_fq c (a ++ b ++ [(9, c, r, 0, 5)]) := by
    rw [pr_fq_pop (by decide) hp]
    simp [pr_fq_app, pr_fq]
  have eg : ∀ i, pr_g i (a ++ b ++ [(9, c, r, 0, 5)]) = pr_g i (a ++ (6, f, c, n, r) :: b) := fun i => pr_g_eq (by simp [pr_F_app, pr_F])
  refine ⟨pr_c_D6_1 hC hc hr hrc hs, ?_, ?_, ?_, hH, ?_⟩
  · intro i hi
    by_cases hic : i = c
    · subst hic
      have h1 := hA i hi
      unfold pr_A at *
      rw [ep, hs] at h1
      rw [eg, pr_up_s]
      exact pr_tab_p1 _ _ h1 rfl
    · exact pr_A_of (hA i hi) (ef i hic) rfl (pr_up_n _ _ _ hic) (eg i)
  · have et : ∀ i, pr_T 8 i (a ++ b ++ [(9, c, r, 0, 5)]) = pr_T 8 i (a ++ (6, f, c, n, r) :: b) := fun i => by simp [pr_T_app, pr_T]
    refine pr_W_s hW (fun z => by rw [et 4] at z; exact z) (fun i hi k => ?_)
    by_cases hic : i = c
    · subst hic
      exact absurd k (pr_o_no (by rw [pr_up_s]; omega))
    · exact pr_o_of (pr_up_n _ _ _ hic) (ef i hic) (et i) k
  · unfold pr_7 at *
    simp [pr_K_app, pr_K, pr_T_app, pr_T, hr4, h4r, h4c] at *
    omega
  · refine pr_9_app (pr_9_del h9) ?_
    refine pr_9_one ?_
    simp [pr_sh, hc, hr]
/-- INV at a core in 6 -/
theorem pr_I_D6_6 {s : Nat → Nat} {ms : Nat → Int} {d ow : Nat} {sh : Nat → Bool} {a b : List pr_M} {f c r : Nat} {n : Int} (h : pr_I s ms d ow sh (a ++ (6, f, c, n, r) :: b)) (hc : c < 4) (hp : pr_fq c a = []) (hs : s c = 6) : pr_I (pr_up s c 4) ms d ow sh (a ++ b ++ [(9, c, r, 0, 5)]) := by
  obtain ⟨hC, hA, hW, h7, hH, h9⟩ := h
  have hsh := pr_9_at h9
  unfold pr_sh at hsh
  have hr : r < 4 := by simp at hsh; omega
  have hrc : ¬ r = c := by simp at hsh; omega
  have hcr : ¬ c = r := fun z => hrc z.symm
  have h4r : ¬ 4 = r := by omega
  have hr4 : ¬ r = 4 := by omega
  have h4c : ¬ 4 = c := by omega
  have ef : ∀ i, ¬ i = c → pr_fq i (a ++ b ++ [(9, c, r, 0, 5)]) = pr_fq i (a ++ (6, f, c, n, r) :: b) := fun i hic => by
    have hci : ¬ c = i := fun z => hic z.symm
    simp [pr_fq_app, pr_fq, hci]
  have ep : pr_fq c (a ++ (6, f, c, n, r) :: b) = 6 :: pr_fq c (a ++ b ++ [(9, c, r, 0, 5)]) := by
    rw [pr_fq_pop (by decide) hp]
    simp [pr_fq_app, pr_fq]
  have eg : ∀ i, pr_g i (a ++ b ++ [(9, c, r, 0, 5)]) = pr_g i (a ++ (6, f, c, n, r) :: b) := fun i => pr_g_eq (by simp [pr_F_app, pr_F])
  refine ⟨pr_c_D6_6 hC hc hr hrc hs, ?_, ?_, ?_, hH, ?_⟩
  · intro i hi
    by_cases hic : i = c
    · subst hic
      have h1 := hA i hi
      unfold pr_A at *
      rw [ep, hs] at h1
      rw [eg, pr_up_s]
      exact pr_tab_p6 _ _ h1 rfl
    · exact pr_A_of (hA i hi) (ef i hic) rfl (pr_up_n _ _ _ hic) (eg i)
  · have et : ∀ i, pr_T 8 i (a ++ b ++ [(9, c, r, 0, 5)]) = pr_T 8 i (a ++ (6, f, c, n, r) :: b) := fun i => by simp [pr_T_app, pr_T]
    refine pr_W_s hW (fun z => by rw [et 4] at z; exact z) (fun i hi k => ?_)
    by_cases hic : i = c
    · subst hic
      unfold pr_o at *
      rw [pr_up_s, et i] at k
      omega
    · exact pr_o_of (pr_up_n _ _ _ hic) (ef i hic) (et i) k
  · unfold pr_7 at *
    simp [pr_K_app, pr_K, pr_T_app, pr_T, hr4, h4r, h4c] at *
    omega
  · refine pr_9_app (pr_9_del h9) ?_
    refine pr_9_one ?_
    simp [pr_sh, hc, hr]
/-- INV at a core in 9 -/
theorem pr_I_D6_9 {s : Nat → Nat} {ms : Nat → Int} {d ow : Nat} {sh : Nat → Bool} {a b : List pr_M} {f c r : Nat} {n : Int} (h : pr_I s ms d ow sh (a ++ (6, f, c, n, r) :: b)) (hc : c < 4) (hp : pr_fq c a = []) (hs : s c = 9) : pr_I (pr_up s c 10) ms d ow sh (a ++ b ++ [(9, c, r, 0, 5)]) := by
  obtain ⟨hC, hA, hW, h7, hH, h9⟩ := h
  have hsh := pr_9_at h9
  unfold pr_sh at hsh
  have hr : r < 4 := by simp at hsh; omega
  have hrc : ¬ r = c := by simp at hsh; omega
  have hcr : ¬ c = r := fun z => hrc z.symm
  have h4r : ¬ 4 = r := by omega
  have hr4 : ¬ r = 4 := by omega
  have h4c : ¬ 4 = c := by omega
  have ef : ∀ i, ¬ i = c → pr_fq i (a ++ b ++ [(9, c, r, 0, 5)]) = pr_fq i (a ++ (6, f, c, n, r) :: b) := fun i hic => by
    have hci : ¬ c = i := fun z => hic z.symm
    simp [pr_fq_app, pr_fq, hci]
  have ep : pr_fq c (a ++ (6, f, c, n, r) :: b) = 6 :: pr_fq c (a ++ b ++ [(9, c, r, 0, 5)]) := by
    rw [pr_fq_pop (by decide) hp]
    simp [pr_fq_app, pr_fq]
  have eg : ∀ i, pr_g i (a ++ b ++ [(9, c, r, 0, 5)]) = pr_g i (a ++ (6, f, c, n, r) :: b) := fun i => pr_g_eq (by simp [pr_F_app, pr_F])
  refine ⟨pr_c_D6_9 hC hc hr hrc hs, ?_, ?_, ?_, hH, ?_⟩
  · intro i hi
    by_cases hic : i = c
    · subst hic
      have h1 := hA i hi
      unfold pr_A at *
      rw [ep, hs] at h1
      rw [eg, pr_up_s]
      exact pr_tab_p9 _ _ h1 rfl
    · exact pr_A_of (hA i hi) (ef i hic) rfl (pr_up_n _ _ _ hic) (eg i)
  · have et : ∀ i, pr_T 8 i (a ++ b ++ [(9, c, r, 0, 5)]) = pr_T 8 i (a ++ (6, f, c, n, r) :: b) := fun i => by simp [pr_T_app, pr_T]
    refine pr_W_s hW (fun z => by rw [et 4] at z; exact z) (fun i hi k => ?_)
    by_cases hic : i = c
    · subst hic
      exact absurd k (pr_o_no (by rw [pr_up_s]; omega))
    · exact pr_o_of (pr_up_n _ _ _ hic) (ef i hic) (et i) k
  · unfold pr_7 at *
    simp [pr_K_app, pr_K, pr_T_app, pr_T, hr4, h4r, h4c] at *
    omega
  · refine pr_9_app (pr_9_del h9) ?_
    refine pr_9_one ?_
    simp [pr_sh, hc, hr]
/-- FWDS at a core in 2 -/
theorem pr_I_D4_2 {s : Nat → Nat} {ms : Nat → Int} {d ow : Nat} {sh : Nat → Bool} {a b : List pr_M} {f c r : Nat} {n : Int} (h : pr_I s ms d ow sh (a ++ (4, f, c, n, r) :: b)) (hc : c < 4) (hp : pr_fq c a = []) (hs : s c = 2) : pr_I (pr_up s c 1) ms d ow sh (a ++ b ++ [(8, c, r, 0, 5), (8, c, 4, 0, 5)]) := by
  obtain ⟨hC, hA, hW, h7, hH, h9⟩ := h
  have hsh := pr_9_at h9
  unfold pr_sh at hsh
  have hr : r < 4 := by simp at hsh; omega
  have hrc : ¬ r = c := by simp at hsh; omega
  have hcr : ¬ c = r := fun z => hrc z.symm
  have h4r : ¬ 4 = r := by omega
  have hr4 : ¬ r = 4 := by omega
  have h4c : ¬ 4 = c := by omega
  have ef : ∀ i, ¬ i = c → pr_fq i (a ++ b ++ [(8, c, r, 0, 5), (8, c, 4, 0, 5)]) = pr_fq i (a ++ (4, f, c, n, r) :: b) := fun i hic => by
    have hci : ¬ c = i := fun z => hic z.symm
    simp [pr_fq_app, pr_fq, hci]
  have ep : pr_fq c (a ++ (4, f, c, n, r) :: b) = 4 :: pr_fq c (a ++ b ++ [(8, c, r, 0, 5), (8, c, 4, 0, 5)]) := by
    rw [pr_fq_pop (by decide) hp]
    simp [pr_fq_app, pr_fq]
  have eg : ∀ i, pr_g i (a ++ b ++ [(8, c, r, 0, 5), (8, c, 4, 0, 5)]) = pr_g i (a ++ (4, f, c, n, r) :: b) := fun i => pr_g_eq (by simp [pr_F_app, pr_F])
  refine ⟨pr_c_D4_2 hC hc hr hrc hs, ?_, ?_, ?_, hH, ?_⟩
  · intro i hi
    by_cases hic : i = c
    · subst hic
      have h1 := hA i hi
      unfold pr_A at *
      rw [ep, hs] at h1
      rw [eg, pr_up_s]
      exact pr_tab_q2 _ _ h1 rfl
    · exact pr_A_of (hA i hi) (ef i hic) rfl (pr_up_n _ _ _ hic) (eg i)
  · have et : ∀ i, ¬ i = 4 → ¬ i = r → pr_T 8 i (a ++ b ++ [(8, c, r, 0, 5), (8, c, 4, 0, 5)]) = pr_T 8 i (a ++ (4, f, c, n, r) :: b) := fun i h4 hir => by
      have hri : ¬ r = i := fun z => hir z.symm
      have h4i : ¬ 4 = i := fun z => h4 z.symm
      simp [pr_T_app, pr_T, hri, h4i]
    refine pr_W_m hW 4 c hc (Or.inl hs) (pr_o_no (by rw [pr_up_s]; omega)) ?_ (fun i hi hix k => ?_)
    · intro z
      exact absurd rfl z
    · by_cases hic : i = c
      · subst hic
        exact absurd k (pr_o_no (by rw [pr_up_s]; omega))
      · by_cases hir : i = r
        · subst hir
          have h3 : s i = 3 := pr_c_gS (hC i hi) (by
            simp only [pr_F_app, pr_R_app, pr_F, pr_R]
            simp
            omega)
          exact absurd k (pr_o_no (by rw [pr_up_n _ _ _ hic]; omega))
        · exact pr_o_of (pr_up_n _ _ _ hic) (ef i hic) (et i (by omega) hir) k
  · unfold pr_7 at *
    simp [pr_K_app, pr_K, pr_T_app, pr_T, hr4, h4r, h4c] at *
    omega
  · refine pr_9_app (pr_9_del h9) ?_
    intro m hm
    simp at hm
    rcases hm with z | z <;> subst z <;> simp [pr_sh] <;> omega
/-- FWDS at a core in 8 -/
theorem pr_I_D4_8 {s : Nat → Nat} {ms : Nat → Int} {d ow : Nat} {sh : Nat → Bool} {a b : List pr_M} {f c r : Nat} {n : Int} (h : pr_I s ms d ow sh (a ++ (4, f, c, n, r) :: b)) (hc : c < 4) (hp : pr_fq c a = []) (hs : s c = 8) : pr_I (pr_up s c 9) ms d ow sh (a ++ b ++ [(8, c, r, 0, 5), (8, c, 4, 0, 5)]) := by
  obtain ⟨hC, hA, hW, h7, hH, h9⟩ := h
  have hsh := pr_9_at h9
  unfold pr_sh at hsh
  have hr : r < 4 := by simp at hsh; omega
  have hrc : ¬ r = c := by simp at hsh; omega
  have hcr : ¬ c = r := fun z => hrc z.symm
  have h4r : ¬ 4 = r := by omega
  have hr4 : ¬ r = 4 := by omega
  have h4c : ¬ 4 = c := by omega
  have ef : ∀ i, ¬ i = c → pr_fq i (a ++ b ++ [(8, c, r, 0, 5), (8, c, 4, 0, 5)]) = pr_fq i (a ++ (4, f, c, n, r) :: b) := fun i hic => by
    have hci : ¬ c = i := fun z => hic z.symm
    simp [pr_fq_app, pr_fq, hci]
  have ep : pr_fq c (a ++ (4, f, c, n, r) :: b) = 4 :: pr_fq c (a ++ b ++ [(8, c, r, 0, 5), (8, c, 4, 0, 5)]) := by
    rw [pr_fq_pop (by decide) hp]
    simp [pr_fq_app, pr_fq]
  have eg : ∀ i, pr_g i (a ++ b ++ [(8, c, r, 0, 5), (8, c, 4, 0, 5)]) = pr_g i (a ++ (4, f, c, n, r) :: b) := fun i => pr_g_eq (by simp [pr_F_app, pr_F])
  refine ⟨pr_c_D4_8 hC hc hr hrc hs, ?_, ?_, ?_, hH, ?_⟩
  · intro i hi
    by_cases hic : i = c
    · subst hic
      have h1 := hA i hi
      unfold pr_A at *
      rw [ep, hs] at h1
      rw [eg, pr_up_s]
      exact pr_tab_q8 _ _ h1 rfl
    · exact pr_A_of (hA i hi) (ef i hic) rfl (pr_up_n _ _ _ hic) (eg i)
  · have et : ∀ i, ¬ i = 4 → ¬ i = r → pr_T 8 i (a ++ b ++ [(8, c, r, 0, 5), (8, c, 4, 0, 5)]) = pr_T 8 i (a ++ (4, f, c, n, r) :: b) := fun i h4 hir => by
      have hri : ¬ r = i := fun z => hir z.symm
      have h4i : ¬ 4 = i := fun z => h4 z.symm
      simp [pr_T_app, pr_T, hri, h4i]
    refine pr_W_m hW 4 c hc (Or.inr (Or.inr (Or.inr (Or.inl ⟨hs, by rw [ep]; simp⟩)))) (pr_o_no (by rw [pr_up_s]; omega)) ?_ (fun i hi hix k => ?_)
    · intro z
      exact absurd rfl z
    · by_cases hic : i = c
      · subst hic
        exact absurd k (pr_o_no (by rw [pr_up_s]; omega))
      · by_cases hir : i = r
        · subst hir
          have h3 : s i = 3 := pr_c_gS (hC i hi) (by
            simp only [pr_F_app, pr_R_app, pr_F, pr_R]
            simp
            omega)
          exact absurd k (pr_o_no (by rw [pr_up_n _ _ _ hic]; omega))
        · exact pr_o_of (pr_up_n _ _ _ hic) (ef i hic) (et i (by omega) hir) k
  · unfold pr_7 at *
    simp [pr_K_app, pr_K, pr_T_app, pr_T, hr4, h4r, h4c] at *
    omega
  · refine pr_9_app (pr_9_del h9) ?_
    intro m hm
    simp at hm
    rcases hm with z | z <;> subst z <;> simp [pr_sh] <;> omega
/-- FWDM at a core in 2 -/
theorem pr_I_D5_2 {s : Nat → Nat} {ms : Nat → Int} {d ow : Nat} {sh : Nat → Bool} {a b : List pr_M} {f c r : Nat} {n : Int} (h : pr_I s ms d ow sh (a ++ (5, f, c, n, r) :: b)) (hc : c < 4) (hp : pr_fq c a = []) (hs : s c = 2) : pr_I (pr_up s c 0) ms d ow sh (a ++ b ++ [(8, c, r, 0, 5)]) := by
  obtain ⟨hC, hA, hW, h7, hH, h9⟩ := h
  have hsh := pr_9_at h9
  unfold pr_sh at hsh
  have hr : r < 4 := by simp at hsh; omega
  have hrc : ¬ r = c := by simp at hsh; omega
  have hcr : ¬ c = r := fun z => hrc z.symm
  have h4r : ¬ 4 = r := by omega
  have hr4 : ¬ r = 4 := by omega
  have h4c : ¬ 4 = c := by omega
  have ef : ∀ i, ¬ i = c → pr_fq i (a ++ b ++ [(8, c, r, 0, 5)]) = pr_fq i (a ++ (5, f, c, n, r) :: b) := fun i hic => by
    have hci : ¬ c = i := fun z => hic z.symm
    simp [pr_fq_app, pr_fq, hci]
  have ep : pr_fq c (a ++ (5, f, c, n, r) :: b) = 5 :: pr_fq c (a ++ b ++ [(8, c, r, 0, 5)]) := by
    rw [pr_fq_pop (by decide) hp]
    simp [pr_fq_app, pr_fq]
  have eg : ∀ i, pr_g i (a ++ b ++ [(8, c, r, 0, 5)]) = pr_g i (a ++ (5, f, c, n, r) :: b) := fun i => pr_g_eq (by simp [pr_F_app, pr_F])
  refine ⟨pr_c_D5_2 hC hc hr hrc hs, ?_, ?_, ?_, hH, ?_⟩
  · intro i hi
    by_cases hic : i = c
    · subst hic
      have h1 := hA i hi
      unfold pr_A at *
      rw [ep, hs] at h1
      rw [eg, pr_up_s]
      exact pr_tab_r2 _ _ h1 rfl
    · exact pr_A_of (hA i hi) (ef i hic) rfl (pr_up_n _ _ _ hic) (eg i)
  · have et : ∀ i, ¬ i = 4 → ¬ i = r → pr_T 8 i (a ++ b ++ [(8, c, r, 0, 5)]) = pr_T 8 i (a ++ (5, f, c, n, r) :: b) := fun i h4 hir => by
      have hri : ¬ r = i := fun z => hir z.symm
      have h4i : ¬ 4 = i := fun z => h4 z.symm
      simp [pr_T_app, pr_T, hri, h4i]
    refine pr_W_m hW r c hc (Or.inl hs) (pr_o_no (by rw [pr_up_s]; omega)) ?_ (fun i hi hix k => ?_)
    · intro _ z
      simpa [pr_T_app, pr_T, hr4] using z
    · by_cases hic : i = c
      · subst hic
        exact absurd k (pr_o_no (by rw [pr_up_s]; omega))
      · exact pr_o_of (pr_up_n _ _ _ hic) (ef i hic) (et i (by omega) hix) k
  · unfold pr_7 at *
    simp [pr_K_app, pr_K, pr_T_app, pr_T, hr4, h4r, h4c] at *
    omega
  · refine pr_9_app (pr_9_del h9) ?_
    refine pr_9_one ?_
    simp [pr_sh]
    omega
/-- FWDM at a core in 8 -/
theorem pr_I_D5_8 {s : Nat → Nat} {ms : Nat → Int} {d ow : Nat} {sh : Nat → Bool} {a b : List pr_M} {f c r : Nat} {n : Int} (h : pr_I s ms d ow sh (a ++ (5, f, c, n, r) :: b)) (hc : c < 4) (hp : pr_fq c a = []) (hs : s c = 8) : pr_I (pr_up s c 10) ms d ow sh (a ++ b ++ [(8, c, r, 0, 5)]) := by
  obtain ⟨hC, hA, hW, h7, hH, h9⟩ := h
  have hsh := pr_9_at h9
  unfold pr_sh at hsh
  have hr : r < 4 := by simp at hsh; omega
  have hrc : ¬ r = c := by simp at hsh; omega
  have hcr : ¬ c = r := fun z => hrc z.symm
  have h4r : ¬ 4 = r := by omega
  have hr4 : ¬ r = 4 := by omega
  have h4c : ¬ 4 = c := by omega
  have ef : ∀ i, ¬ i = c → pr_fq i (a ++ b ++ [(8, c, r, 0, 5)]) = pr_fq i (a ++ (5, f, c, n, r) :: b) := fun i hic => by
    have hci : ¬ c = i := fun z => hic z.symm
    simp [pr_fq_app, pr_fq, hci]
  have ep : pr_fq c (a ++ (5, f, c, n, r) :: b) = 5 :: pr_fq c (a ++ b ++ [(8, c, r, 0, 5)]) := by
    rw [pr_fq_pop (by decide) hp]
    simp [pr_fq_app, pr_fq]
  have eg : ∀ i, pr_g i (a ++ b ++ [(8, c, r, 0, 5)]) = pr_g i (a ++ (5, f, c, n, r) :: b) := fun i => pr_g_eq (by simp [pr_F_app, pr_F])
  refine ⟨pr_c_D5_8 hC hc hr hrc hs, ?_, ?_, ?_, hH, ?_⟩
  · intro i hi
    by_cases hic : i = c
    · subst hic
      have h1 := hA i hi
      unfold pr_A at *
      rw [ep, hs] at h1
      rw [eg, pr_up_s]
      exact pr_tab_r8 _ _ h1 rfl
    · exact pr_A_of (hA i hi) (ef i hic) rfl (pr_up_n _ _ _ hic) (eg i)
  · have et : ∀ i, ¬ i = 4 → ¬ i = r → pr_T 8 i (a ++ b ++ [(8, c, r, 0, 5)]) = pr_T 8 i (a ++ (5, f, c, n, r) :: b) := fun i h4 hir => by
      have hri : ¬ r = i := fun z => hir z.symm
      have h4i : ¬ 4 = i := fun z => h4 z.symm
      simp [pr_T_app, pr_T, hri, h4i]
    refine pr_W_m hW r c hc (Or.inr (Or.inr (Or.inr (Or.inl ⟨hs, by rw [ep]; simp⟩)))) (pr_o_no (by rw [pr_up_s]; omega)) ?_ (fun i hi hix k => ?_)
    · intro _ z
      simpa [pr_T_app, pr_T, hr4] using z
    · by_cases hic : i = c
      · subst hic
        exact absurd k (pr_o_no (by rw [pr_up_s]; omega))
      · exact pr_o_of (pr_up_n _ _ _ hic) (ef i hic) (et i (by omega) hix) k
  · unfold pr_7 at *
    simp [pr_K_app, pr_K, pr_T_app, pr_T, hr4, h4r, h4c] at *
    omega
  · refine pr_9_app (pr_9_del h9) ?_
    refine pr_9_one ?_
    simp [pr_sh]
    omega
