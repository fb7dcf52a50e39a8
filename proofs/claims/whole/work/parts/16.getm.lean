/-! GETM at the home, the block isn't owned: DATA to the writer, INV to the other sharers -/
def pr_inv (r : Nat) (l : List Nat) : List pr_M := l.map (fun i => (6, 4, i, 0, r))
theorem pr_F_inv (k c r : Nat) (l : List Nat) (h : ¬ k = 6) : pr_F k c (pr_inv r l) = 0 := by
  have h6 : ¬ 6 = k := fun z => h z.symm
  induction l with
  | nil => rfl
  | cons y l ih =>
    show (if _ then 1 else 0) + pr_F k c (pr_inv r l) = 0
    rw [ih]
    simp [h6]
theorem pr_T_inv (k c r : Nat) (l : List Nat) (h : ¬ k = 6) : pr_T k c (pr_inv r l) = 0 := by
  have h6 : ¬ 6 = k := fun z => h z.symm
  induction l with
  | nil => rfl
  | cons y l ih =>
    show (if _ then 1 else 0) + pr_T k c (pr_inv r l) = 0
    rw [ih]
    simp [h6]
theorem pr_R_inv (k c r : Nat) (l : List Nat) (h : ¬ k = 6) : pr_R k c (pr_inv r l) = 0 := by
  have h6 : ¬ 6 = k := fun z => h z.symm
  induction l with
  | nil => rfl
  | cons y l ih =>
    show (if _ then 1 else 0) + pr_R k c (pr_inv r l) = 0
    rw [ih]
    simp [h6]
theorem pr_R_inv6 (c r : Nat) (l : List Nat) : pr_R 6 c (pr_inv r l) = if r = c then l.length else 0 := by
  induction l with
  | nil => simp [pr_inv, pr_R]
  | cons y l ih =>
    show (if _ then 1 else 0) + pr_R 6 c (pr_inv r l) = _
    rw [ih]
    by_cases h : r = c
    · simp [h]
      omega
    · simp [h]
theorem pr_K_inv (k r : Nat) (l : List Nat) (h : ¬ k = 6) : pr_K k (pr_inv r l) = 0 := by
  have h6 : ¬ 6 = k := fun z => h z.symm
  induction l with
  | nil => rfl
  | cons y l ih =>
    show (if _ then 1 else 0) + pr_K k (pr_inv r l) = 0
    rw [ih]
    simp [h6]
theorem pr_N_inv (c r : Nat) (l : List Nat) : pr_N c (pr_inv r l) = 0 := by
  induction l with
  | nil => rfl
  | cons y l ih =>
    show (if _ then 1 else 0) + pr_N c (pr_inv r l) = 0
    rw [ih]
    simp
theorem pr_D_inv (c r : Nat) (l : List Nat) : pr_D c (pr_inv r l) = 0 := by
  induction l with
  | nil => rfl
  | cons y l ih =>
    show (if _ then _ else 0) + pr_D c (pr_inv r l) = 0
    rw [ih]
    simp
theorem pr_fq_inv_no (i r : Nat) (l : List Nat) (h : i ∉ l) : pr_fq i (pr_inv r l) = [] := by
  induction l with
  | nil => rfl
  | cons y l ih =>
    have h1 : ¬ y = i := fun z => h (by rw [z]; exact List.mem_cons_self)
    have h2 : i ∉ l := fun z => h (List.mem_cons_of_mem _ z)
    show (if _ then _ else pr_fq i (pr_inv r l)) = []
    rw [ih h2]
    simp [h1]
theorem pr_fq_inv (i r : Nat) (l : List Nat) (hn : l.Nodup) (h : i ∈ l) : pr_fq i (pr_inv r l) = [6] := by
  induction l with
  | nil => cases h
  | cons y l ih =>
    rw [List.nodup_cons] at hn
    show (if _ then 6 :: pr_fq i (pr_inv r l) else pr_fq i (pr_inv r l)) = [6]
    by_cases h1 : y = i
    · subst h1
      rw [pr_fq_inv_no y r l hn.1]
      simp
    · have h2 : i ∈ l := by
        rcases List.mem_cons.mp h with z | z
        · exact absurd z.symm h1
        · exact z
      rw [ih hn.2 h2]
      simp [h1]
theorem pr_c_D1b {s : Nat → Nat} {ms : Nat → Int} {a b : List pr_M} {r x : Nat} {n : Int} {l : List Nat} (H : ∀ i, i < 4 → pr_c s ms (a ++ (1, r, 4, n, x) :: b) i) (hr : r < 4) (hl : l.length ≤ 3) : ∀ i, i < 4 → pr_c s ms (a ++ b ++ (8, 4, r, (l.length : Int), 5) :: pr_inv r l) i := by
  intro i hi
  have h := H i hi
  clear H
  by_cases hir : i = r
  · subst hir
    have hk := pr_c_gM h (by
      simp only [pr_F_app, pr_F]
      simp
      omega)
    unfold pr_c pr_C at h ⊢
    simp only [pr_F_app, pr_T_app, pr_R_app, pr_N_app, pr_D_app, pr_F, pr_T, pr_R, pr_N, pr_D, pr_R_inv6, pr_N_inv, pr_D_inv] at h ⊢
    rw [pr_F_inv 0 i i l (by decide), pr_F_inv 1 i i l (by decide), pr_F_inv 2 i i l (by decide), pr_F_inv 3 i i l (by decide), pr_T_inv 7 i i l (by decide), pr_T_inv 8 i i l (by decide), pr_T_inv 9 i i l (by decide), pr_R_inv 4 i i l (by decide), pr_R_inv 5 i i l (by decide)]
    have f1 := pr_N_T i a
    have f2 := pr_N_T i b
    have f3 := pr_N_D i a
    have f4 := pr_N_D i b
    by_cases n0 : l.length = 0
    · rcases hk with hk | hk
      · (simp [hk, n0] at h ⊢) <;> omega
      · (simp [hk, n0] at h ⊢) <;> omega
    · have n1 : ¬ (l.length : Int) = 0 := by omega
      rcases hk with hk | hk
      · (simp [hk, n1] at h ⊢) <;> omega
      · (simp [hk, n1] at h ⊢) <;> omega
  · have gr : ¬ r = i := fun z => hir z.symm
    exact pr_c_of h (by simp [pr_F_app, pr_T_app, pr_R_app, pr_N_app, pr_D_app, pr_F, pr_T, pr_R, pr_N, pr_D, pr_R_inv6, pr_N_inv, pr_D_inv, pr_F_inv 0 i r l (by decide), pr_F_inv 1 i r l (by decide), pr_F_inv 2 i r l (by decide), pr_F_inv 3 i r l (by decide), pr_T_inv 7 i r l (by decide), pr_T_inv 8 i r l (by decide), pr_T_inv 9 i r l (by decide), pr_R_inv 4 i r l (by decide), pr_R_inv 5 i r l (by decide), gr]) (by simp [pr_F_app, pr_T_app, pr_R_app, pr_N_app, pr_D_app, pr_F, pr_T, pr_R, pr_N, pr_D, pr_R_inv6, pr_N_inv, pr_D_inv, pr_F_inv 0 i r l (by decide), pr_F_inv 1 i r l (by decide), pr_F_inv 2 i r l (by decide), pr_F_inv 3 i r l (by decide), pr_T_inv 7 i r l (by decide), pr_T_inv 8 i r l (by decide), pr_T_inv 9 i r l (by decide), pr_R_inv 4 i r l (by decide), pr_R_inv 5 i r l (by decide), gr]) (by simp [pr_F_app, pr_T_app, pr_R_app, pr_N_app, pr_D_app, pr_F, pr_T, pr_R, pr_N, pr_D, pr_R_inv6, pr_N_inv, pr_D_inv, pr_F_inv 0 i r l (by decide), pr_F_inv 1 i r l (by decide), pr_F_inv 2 i r l (by decide), pr_F_inv 3 i r l (by decide), pr_T_inv 7 i r l (by decide), pr_T_inv 8 i r l (by decide), pr_T_inv 9 i r l (by decide), pr_R_inv 4 i r l (by decide), pr_R_inv 5 i r l (by decide), gr]) (by simp [pr_F_app, pr_T_app, pr_R_app, pr_N_app, pr_D_app, pr_F, pr_T, pr_R, pr_N, pr_D, pr_R_inv6, pr_N_inv, pr_D_inv, pr_F_inv 0 i r l (by decide), pr_F_inv 1 i r l (by decide), pr_F_inv 2 i r l (by decide), pr_F_inv 3 i r l (by decide), pr_T_inv 7 i r l (by decide), pr_T_inv 8 i r l (by decide), pr_T_inv 9 i r l (by decide), pr_R_inv 4 i r l (by decide), pr_R_inv 5 i r l (by decide), gr]) (by simp [pr_F_app, pr_T_app, pr_R_app, pr_N_app, pr_D_app, pr_F, pr_T, pr_R, pr_N, pr_D, pr_R_inv6, pr_N_inv, pr_D_inv, pr_F_inv 0 i r l (by decide), pr_F_inv 1 i r l (by decide), pr_F_inv 2 i r l (by decide), pr_F_inv 3 i r l (by decide), pr_T_inv 7 i r l (by decide), pr_T_inv 8 i r l (by decide), pr_T_inv 9 i r l (by decide), pr_R_inv 4 i r l (by decide), pr_R_inv 5 i r l (by decide), gr]) (by simp [pr_F_app, pr_T_app, pr_R_app, pr_N_app, pr_D_app, pr_F, pr_T, pr_R, pr_N, pr_D, pr_R_inv6, pr_N_inv, pr_D_inv, pr_F_inv 0 i r l (by decide), pr_F_inv 1 i r l (by decide), pr_F_inv 2 i r l (by decide), pr_F_inv 3 i r l (by decide), pr_T_inv 7 i r l (by decide), pr_T_inv 8 i r l (by decide), pr_T_inv 9 i r l (by decide), pr_R_inv 4 i r l (by decide), pr_R_inv 5 i r l (by decide), gr]) (by simp [pr_F_app, pr_T_app, pr_R_app, pr_N_app, pr_D_app, pr_F, pr_T, pr_R, pr_N, pr_D, pr_R_inv6, pr_N_inv, pr_D_inv, pr_F_inv 0 i r l (by decide), pr_F_inv 1 i r l (by decide), pr_F_inv 2 i r l (by decide), pr_F_inv 3 i r l (by decide), pr_T_inv 7 i r l (by decide), pr_T_inv 8 i r l (by decide), pr_T_inv 9 i r l (by decide), pr_R_inv 4 i r l (by decide), pr_R_inv 5 i r l (by decide), gr]) (by simp [pr_F_app, pr_T_app, pr_R_app, pr_N_app, pr_D_app, pr_F, pr_T, pr_R, pr_N, pr_D, pr_R_inv6, pr_N_inv, pr_D_inv, pr_F_inv 0 i r l (by decide), pr_F_inv 1 i r l (by decide), pr_F_inv 2 i r l (by decide), pr_F_inv 3 i r l (by decide), pr_T_inv 7 i r l (by decide), pr_T_inv 8 i r l (by decide), pr_T_inv 9 i r l (by decide), pr_R_inv 4 i r l (by decide), pr_R_inv 5 i r l (by decide), gr]) (by simp [pr_F_app, pr_T_app, pr_R_app, pr_N_app, pr_D_app, pr_F, pr_T, pr_R, pr_N, pr_D, pr_R_inv6, pr_N_inv, pr_D_inv, pr_F_inv 0 i r l (by decide), pr_F_inv 1 i r l (by decide), pr_F_inv 2 i r l (by decide), pr_F_inv 3 i r l (by decide), pr_T_inv 7 i r l (by decide), pr_T_inv 8 i r l (by decide), pr_T_inv 9 i r l (by decide), pr_R_inv 4 i r l (by decide), pr_R_inv 5 i r l (by decide), gr]) (by simp [pr_F_app, pr_T_app, pr_R_app, pr_N_app, pr_D_app, pr_F, pr_T, pr_R, pr_N, pr_D, pr_R_inv6, pr_N_inv, pr_D_inv, pr_F_inv 0 i r l (by decide), pr_F_inv 1 i r l (by decide), pr_F_inv 2 i r l (by decide), pr_F_inv 3 i r l (by decide), pr_T_inv 7 i r l (by decide), pr_T_inv 8 i r l (by decide), pr_T_inv 9 i r l (by decide), pr_R_inv 4 i r l (by decide), pr_R_inv 5 i r l (by decide), gr]) (by simp [pr_F_app, pr_T_app, pr_R_app, pr_N_app, pr_D_app, pr_F, pr_T, pr_R, pr_N, pr_D, pr_R_inv6, pr_N_inv, pr_D_inv, pr_F_inv 0 i r l (by decide), pr_F_inv 1 i r l (by decide), pr_F_inv 2 i r l (by decide), pr_F_inv 3 i r l (by decide), pr_T_inv 7 i r l (by decide), pr_T_inv 8 i r l (by decide), pr_T_inv 9 i r l (by decide), pr_R_inv 4 i r l (by decide), pr_R_inv 5 i r l (by decide), gr]) (by simp [pr_F_app, pr_T_app, pr_R_app, pr_N_app, pr_D_app, pr_F, pr_T, pr_R, pr_N, pr_D, pr_R_inv6, pr_N_inv, pr_D_inv, pr_F_inv 0 i r l (by decide), pr_F_inv 1 i r l (by decide), pr_F_inv 2 i r l (by decide), pr_F_inv 3 i r l (by decide), pr_T_inv 7 i r l (by decide), pr_T_inv 8 i r l (by decide), pr_T_inv 9 i r l (by decide), pr_R_inv 4 i r l (by decide), pr_R_inv 5 i r l (by decide), gr]) rfl rfl
theorem pr_I_D1b {s : Nat → Nat} {ms : Nat → Int} {d ow : Nat} {sh : Nat → Bool} {a b : List pr_M} {r x : Nat} {n : Int} {l : List Nat} (h : pr_I s ms d ow sh (a ++ (1, r, 4, n, x) :: b)) (hd : ¬ d = 2) (hd3 : ¬ d = 3) (hn : l.Nodup) (hl3 : l.length ≤ 3) (hl : ∀ i, i ∈ l ↔ i < 4 ∧ sh i = true ∧ ¬ i = r) : pr_I s ms 2 r (fun _ => false) (a ++ b ++ (8, 4, r, (l.length : Int), 5) :: pr_inv r l) := by
  obtain ⟨hC, hA, hW, h7, hH, h9⟩ := h
  have hsh := pr_9_at h9
  unfold pr_sh at hsh
  have hr : r < 4 := by simp at hsh; omega
  have h4r : ¬ 4 = r := by omega
  have hr4 : ¬ r = 4 := by omega
  have hAr := hA r hr
  unfold pr_A at hAr
  have ho : ow = 5 := hH.2.2.1 hd
  have hd4 : d ≤ 3 := hH.1
  have hs3 : s r = 4 ∨ s r = 6 := pr_c_gM (hC r hr) (by
    simp only [pr_F_app, pr_F]
    simp
    omega)
  have g1 : pr_g r (a ++ (1, r, 4, n, x) :: b) = true := by
    (simp [pr_g, pr_F_app, pr_F]) <;> omega
  rw [g1] at hAr
  have hrl : r ∉ l := fun z => ((hl r).mp z).2.2 rfl
  have eg : ∀ i, ¬ i = r → pr_g i (a ++ b ++ (8, 4, r, (l.length : Int), 5) :: pr_inv r l) = pr_g i (a ++ (1, r, 4, n, x) :: b) := fun i hir => by
    have hri : ¬ r = i := fun z => hir z.symm
    exact pr_g_eq (by
      simp only [pr_F_app, pr_F]
      rw [pr_F_inv 0 i r l (by decide), pr_F_inv 1 i r l (by decide)]
      simp [hri])
  have g0 : pr_g r (a ++ b ++ (8, 4, r, (l.length : Int), 5) :: pr_inv r l) = false := by
    have hcr := pr_c_req (hC r hr) (by omega)
    simp only [pr_F_app, pr_T_app, pr_R_app, pr_F, pr_T, pr_R] at hcr
    simp at hcr
    unfold pr_g
    simp only [pr_F_app, pr_F]
    rw [pr_F_inv 0 r r l (by decide), pr_F_inv 1 r r l (by decide)]
    simp
    omega
  have ef0 : ∀ i, i ∉ l → pr_fq i (a ++ b ++ (8, 4, r, (l.length : Int), 5) :: pr_inv r l) = pr_fq i (a ++ (1, r, 4, n, x) :: b) := fun i hil => by
    simp only [pr_fq_app, pr_fq]
    rw [pr_fq_inv_no i r l hil]
    simp
  have ef1 : ∀ i, i ∈ l → pr_fq i (a ++ b ++ (8, 4, r, (l.length : Int), 5) :: pr_inv r l) = pr_fq i (a ++ (1, r, 4, n, x) :: b) ++ [6] := fun i hil => by
    simp only [pr_fq_app, pr_fq]
    rw [pr_fq_inv i r l hn hil]
    simp
  have et : ∀ i, ¬ i = r → pr_T 8 i (a ++ b ++ (8, 4, r, (l.length : Int), 5) :: pr_inv r l) = pr_T 8 i (a ++ (1, r, 4, n, x) :: b) := fun i hir => by
    have hri : ¬ r = i := fun z => hir z.symm
    simp only [pr_T_app, pr_T]
    rw [pr_T_inv 8 i r l (by decide)]
    simp [hri]
  have h70 : pr_T 8 4 (a ++ (1, r, 4, n, x) :: b) = 0 := by
    unfold pr_7 at h7
    omega
  refine ⟨pr_c_D1b hC hr hl3, ?_, ?_, ?_, ?_, ?_⟩
  · intro i hi
    have h5i : ¬ 5 = i := by omega
    by_cases hir : i = r
    · subst hir
      unfold pr_A
      have e5 : pr_v i (fun _ => false) i = 2 := by simp [pr_v]
      rw [ef0 i hrl, g0, e5]
      exact pr_tab_M (s i) (by omega) hs3 _ hAr
    · have hri : ¬ r = i := fun z => hir z.symm
      have hAi := hA i hi
      have hsi := pr_c_le (hC i hi)
      by_cases hil : i ∈ l
      · unfold pr_A at *
        have e5 : pr_v r (fun _ => false) i = 0 := by simp [pr_v, hri]
        have e6 : pr_v ow sh i = 1 := by
          have := ((hl i).mp hil).2.1
          simp [pr_v, ho, h5i, this]
        rw [ef1 i hil, e5, eg i hir]
        exact pr_tab_6 (s i) (by omega) _ _ hAi e6
      · have e7 : sh i = false := by
          cases hsi' : sh i with
          | false => rfl
          | true => exact absurd ((hl i).mpr ⟨hi, hsi', hir⟩) hil
        exact pr_A_of hAi (ef0 i hil) (by simp [pr_v, ho, h5i, hri, e7]) rfl (eg i hir)
  · refine pr_W_4 hW r (by omega) (by rw [et 4 (fun z => h4r z), h70]; omega) (fun i hi hir k => ?_)
    have h5i : ¬ 5 = i := by omega
    by_cases hil : i ∈ l
    · have hAi := hA i hi
      unfold pr_A at hAi
      have e6 : pr_v ow sh i = 1 := by
        have := ((hl i).mp hil).2.1
        simp [pr_v, ho, h5i, this]
      unfold pr_o at *
      rw [et i hir] at k
      by_cases h8 : s i = 8
      · rw [h8, e6] at hAi
        refine Or.inr (Or.inr (Or.inr (Or.inl ⟨h8, fun z => ?_⟩)))
        rw [z] at hAi
        revert hAi
        generalize pr_g i (a ++ (1, r, 4, n, x) :: b) = g
        revert g
        decide
      · rcases k with z | z | z | z | z
        · exact Or.inl z
        · exact Or.inr (Or.inl z)
        · exact Or.inr (Or.inr (Or.inl z))
        · exact absurd z.1 h8
        · exact Or.inr (Or.inr (Or.inr (Or.inr z)))
    · exact pr_o_of rfl (ef0 i hil) (et i hir) k
  · unfold pr_7 at *
    have e1 : pr_K 4 (a ++ b ++ (8, 4, r, (l.length : Int), 5) :: pr_inv r l) = pr_K 4 (a ++ (1, r, 4, n, x) :: b) := by
      simp only [pr_K_app, pr_K]
      rw [pr_K_inv 4 r l (by decide)]
      simp
    rw [e1, et 4 (fun z => h4r z)]
    omega
  · unfold pr_H
    simp [hr]
  · refine pr_9_app (pr_9_del h9) ?_
    intro m hm
    rcases List.mem_cons.mp hm with z | z
    · subst z
      simp [pr_sh]
      omega
    · obtain ⟨y, hy, rfl⟩ := List.mem_map.mp z
      have h2 := (hl y).mp hy
      have h3 : ¬ r = y := fun w => h2.2.2 w.symm
      simp [pr_sh, hr, h2.1, h3]
