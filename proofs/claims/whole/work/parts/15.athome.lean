/-! A message comes in at the home -/
/-- GETS at the home, the block is owned -/
theorem pr_I_D0a {s : Nat → Nat} {ms : Nat → Int} {d ow : Nat} {sh : Nat → Bool} {a b : List pr_M} {r x : Nat} {n : Int} (h : pr_I s ms d ow sh (a ++ (0, r, 4, n, x) :: b)) (hd : d = 2) : pr_I s ms 3 5 (pr_up (pr_up sh r true) ow true) (a ++ b ++ [(4, 4, ow, 0, r)]) := by
  obtain ⟨hC, hA, hW, h7, hH, h9⟩ := h
  have hsh := pr_9_at h9
  unfold pr_sh at hsh
  have hr : r < 4 := by simp at hsh; omega
  have h4r : ¬ 4 = r := by omega
  have hr4 : ¬ r = 4 := by omega
  have h5r : ¬ 5 = r := by omega
  have hAr := hA r hr
  unfold pr_A at hAr
  have ho : ow < 4 := hH.2.1 hd
  have hs3 : s r = 3 := pr_c_gS (hC r hr) (by
    simp only [pr_F_app, pr_F]
    simp
    omega)
  have g1 : pr_g r (a ++ (0, r, 4, n, x) :: b) = true := by
    (simp [pr_g, pr_F_app, pr_F]) <;> omega
  rw [g1] at hAr
  rw [hs3] at hAr
  have hv := pr_tab_v3 _ hAr
  have hro : ¬ ow = r := fun z => by simp [pr_v, z] at hv
  have hor : ¬ r = ow := fun z => hro z.symm
  have eg : ∀ i, ¬ i = r → pr_g i (a ++ b ++ [(4, 4, ow, 0, r)]) = pr_g i (a ++ (0, r, 4, n, x) :: b) := fun i hir => by
    have hri : ¬ r = i := fun z => hir z.symm
    exact pr_g_eq (by simp [pr_F_app, pr_F, hri])
  have g0 : pr_g r (a ++ b ++ [(4, 4, ow, 0, r)]) = false := by
    have hcr := pr_c_req (hC r hr) (by omega)
    simp only [pr_F_app, pr_T_app, pr_R_app, pr_F, pr_T, pr_R] at hcr
    simp at hcr
    unfold pr_g
    simp [pr_F_app, pr_F]
    omega
  have ef : ∀ i, ¬ i = ow → pr_fq i (a ++ b ++ [(4, 4, ow, 0, r)]) = pr_fq i (a ++ (0, r, 4, n, x) :: b) := fun i hio => by
    have hoi : ¬ ow = i := fun z => hio z.symm
    simp [pr_fq_app, pr_fq, hoi]
  have eo : pr_fq ow (a ++ b ++ [(4, 4, ow, 0, r)]) = pr_fq ow (a ++ (0, r, 4, n, x) :: b) ++ [4] := by simp [pr_fq_app, pr_fq]
  have et : ∀ i, pr_T 8 i (a ++ b ++ [(4, 4, ow, 0, r)]) = pr_T 8 i (a ++ (0, r, 4, n, x) :: b) := fun i => by simp [pr_T_app, pr_T]
  have hAo := hA ow ho
  unfold pr_A at hAo
  have hvo : pr_v ow sh ow = 2 := by simp [pr_v]
  have hso := pr_c_le (hC ow ho)
  refine ⟨pr_c_D0a hC hr, ?_, ?_, ?_, ?_, ?_⟩
  · intro i hi
    have h5i : ¬ 5 = i := by omega
    by_cases hir : i = r
    · subst hir
      unfold pr_A
      rw [ef i hor, g0, hs3]
      have e5 : pr_v 5 (pr_up (pr_up sh i true) ow true) i = 1 := by simp [pr_v, pr_up, h5i]
      rw [e5]
      exact pr_tab_S _ hAr
    · by_cases hio : i = ow
      · subst hio
        unfold pr_A
        have e5 : pr_v 5 (pr_up (pr_up sh r true) i true) i = 1 := by simp [pr_v, pr_up, h5i]
        rw [eo, e5, eg i hir]
        exact pr_tab_4 (s i) (by omega) _ _ hAo hvo
      · have hoi : ¬ ow = i := fun z => hio z.symm
        exact pr_A_of (hA i hi) (ef i hio) (by simp [pr_v, pr_up, h5i, hio, hir, hoi]) rfl (eg i hir)
  · refine pr_W_s hW (fun z => by rw [et 4] at z; omega) (fun i hi k => ?_)
    by_cases hio : i = ow
    · subst hio
      unfold pr_o at *
      rw [et i] at k
      by_cases h8 : s i = 8
      · rw [h8] at hAo
        have e8 := pr_tab_o8 _ _ hAo hvo
        refine Or.inr (Or.inr (Or.inr (Or.inl ⟨h8, ?_⟩)))
        simp only at e8
        rw [e8]
        simp
      · rcases k with z | z | z | z | z
        · exact Or.inl z
        · exact Or.inr (Or.inl z)
        · exact Or.inr (Or.inr (Or.inl z))
        · exact absurd z.1 h8
        · exact Or.inr (Or.inr (Or.inr (Or.inr z)))
    · exact pr_o_of rfl (ef i hio) (et i) k
  · unfold pr_7 at *
    simp [pr_K_app, pr_K, pr_T_app, pr_T] at *
    omega
  · unfold pr_H
    simp
  · refine pr_9_app (pr_9_del h9) (pr_9_one ?_)
    simp [pr_sh, ho, hr, hor]
/-- GETS at the home, the block isn't owned -/
theorem pr_I_D0b {s : Nat → Nat} {ms : Nat → Int} {d ow : Nat} {sh : Nat → Bool} {a b : List pr_M} {r x : Nat} {n : Int} (h : pr_I s ms d ow sh (a ++ (0, r, 4, n, x) :: b)) (hd : ¬ d = 2) (hd3 : ¬ d = 3) : pr_I s ms 1 ow (pr_up sh r true) (a ++ b ++ [(8, 4, r, 0, 5)]) := by
  obtain ⟨hC, hA, hW, h7, hH, h9⟩ := h
  have hsh := pr_9_at h9
  unfold pr_sh at hsh
  have hr : r < 4 := by simp at hsh; omega
  have h4r : ¬ 4 = r := by omega
  have hr4 : ¬ r = 4 := by omega
  have h5r : ¬ 5 = r := by omega
  have hAr := hA r hr
  unfold pr_A at hAr
  have ho : ow = 5 := hH.2.2.1 hd
  have hd4 : d ≤ 3 := hH.1
  have hs3 : s r = 3 := pr_c_gS (hC r hr) (by
    simp only [pr_F_app, pr_F]
    simp
    omega)
  have g1 : pr_g r (a ++ (0, r, 4, n, x) :: b) = true := by
    (simp [pr_g, pr_F_app, pr_F]) <;> omega
  rw [g1] at hAr
  rw [hs3] at hAr
  have eg : ∀ i, ¬ i = r → pr_g i (a ++ b ++ [(8, 4, r, 0, 5)]) = pr_g i (a ++ (0, r, 4, n, x) :: b) := fun i hir => by
    have hri : ¬ r = i := fun z => hir z.symm
    exact pr_g_eq (by simp [pr_F_app, pr_F, hri])
  have g0 : pr_g r (a ++ b ++ [(8, 4, r, 0, 5)]) = false := by
    have hcr := pr_c_req (hC r hr) (by omega)
    simp only [pr_F_app, pr_T_app, pr_R_app, pr_F, pr_T, pr_R] at hcr
    simp at hcr
    unfold pr_g
    simp [pr_F_app, pr_F]
    omega
  have ef : ∀ i, pr_fq i (a ++ b ++ [(8, 4, r, 0, 5)]) = pr_fq i (a ++ (0, r, 4, n, x) :: b) := fun i => by simp [pr_fq_app, pr_fq]
  have et : ∀ i, ¬ i = r → pr_T 8 i (a ++ b ++ [(8, 4, r, 0, 5)]) = pr_T 8 i (a ++ (0, r, 4, n, x) :: b) := fun i hir => by
    have hri : ¬ r = i := fun z => hir z.symm
    simp [pr_T_app, pr_T, hri]
  refine ⟨pr_c_D0b hC hr, ?_, ?_, ?_, ?_, ?_⟩
  · intro i hi
    have h5i : ¬ 5 = i := by omega
    by_cases hir : i = r
    · subst hir
      unfold pr_A
      rw [ef i, g0, hs3]
      have e5 : pr_v ow (pr_up sh i true) i = 1 := by simp [pr_v, pr_up, h5i, ho]
      rw [e5]
      exact pr_tab_S _ hAr
    · exact pr_A_of (hA i hi) (ef i) (by simp [pr_v, pr_up, hir]) rfl (eg i hir)
  · refine pr_W_s hW (fun z => by omega) (fun i hi k => ?_)
    by_cases hir : i = r
    · subst hir
      exact absurd k (pr_o_no (by omega))
    · exact pr_o_of rfl (ef i) (et i hir) k
  · unfold pr_7 at *
    simp [pr_K_app, pr_K, pr_T_app, pr_T, hr4, h4r] at *
    omega
  · unfold pr_H
    simp [ho]
  · refine pr_9_app (pr_9_del h9) (pr_9_one ?_)
    simp [pr_sh]
    omega
/-- GETM at the home, the block is owned -/
theorem pr_I_D1a {s : Nat → Nat} {ms : Nat → Int} {d ow : Nat} {sh : Nat → Bool} {a b : List pr_M} {r x : Nat} {n : Int} (h : pr_I s ms d ow sh (a ++ (1, r, 4, n, x) :: b)) (hd : d = 2) : pr_I s ms d r sh (a ++ b ++ [(5, 4, ow, 0, r)]) := by
  obtain ⟨hC, hA, hW, h7, hH, h9⟩ := h
  have hsh := pr_9_at h9
  unfold pr_sh at hsh
  have hr : r < 4 := by simp at hsh; omega
  have h4r : ¬ 4 = r := by omega
  have hr4 : ¬ r = 4 := by omega
  have h5r : ¬ 5 = r := by omega
  have hAr := hA r hr
  unfold pr_A at hAr
  have ho : ow < 4 := hH.2.1 hd
  have hs3 : s r = 4 ∨ s r = 6 := pr_c_gM (hC r hr) (by
    simp only [pr_F_app, pr_F]
    simp
    omega)
  have g1 : pr_g r (a ++ (1, r, 4, n, x) :: b) = true := by
    (simp [pr_g, pr_F_app, pr_F]) <;> omega
  rw [g1] at hAr
  have hv := pr_tab_v (s r) (by omega) (by omega) _ hAr
  have hro : ¬ ow = r := fun z => by simp [pr_v, z] at hv
  have hor : ¬ r = ow := fun z => hro z.symm
  have eg : ∀ i, ¬ i = r → pr_g i (a ++ b ++ [(5, 4, ow, 0, r)]) = pr_g i (a ++ (1, r, 4, n, x) :: b) := fun i hir => by
    have hri : ¬ r = i := fun z => hir z.symm
    exact pr_g_eq (by simp [pr_F_app, pr_F, hri])
  have g0 : pr_g r (a ++ b ++ [(5, 4, ow, 0, r)]) = false := by
    have hcr := pr_c_req (hC r hr) (by omega)
    simp only [pr_F_app, pr_T_app, pr_R_app, pr_F, pr_T, pr_R] at hcr
    simp at hcr
    unfold pr_g
    simp [pr_F_app, pr_F]
    omega
  have ef : ∀ i, ¬ i = ow → pr_fq i (a ++ b ++ [(5, 4, ow, 0, r)]) = pr_fq i (a ++ (1, r, 4, n, x) :: b) := fun i hio => by
    have hoi : ¬ ow = i := fun z => hio z.symm
    simp [pr_fq_app, pr_fq, hoi]
  have eo : pr_fq ow (a ++ b ++ [(5, 4, ow, 0, r)]) = pr_fq ow (a ++ (1, r, 4, n, x) :: b) ++ [5] := by simp [pr_fq_app, pr_fq]
  have et : ∀ i, pr_T 8 i (a ++ b ++ [(5, 4, ow, 0, r)]) = pr_T 8 i (a ++ (1, r, 4, n, x) :: b) := fun i => by simp [pr_T_app, pr_T]
  have hAo := hA ow ho
  unfold pr_A at hAo
  have hvo : pr_v ow sh ow = 2 := by simp [pr_v]
  have hso := pr_c_le (hC ow ho)
  have hsf := hH.2.2.2 (Or.inl hd)
  refine ⟨pr_c_D1a hC hr, ?_, ?_, ?_, ?_, ?_⟩
  · intro i hi
    by_cases hir : i = r
    · subst hir
      unfold pr_A
      rw [ef i hor, g0]
      have e5 : pr_v i sh i = 2 := by simp [pr_v]
      rw [e5]
      exact pr_tab_M (s i) (by omega) hs3 _ hAr
    · have hri : ¬ r = i := fun z => hir z.symm
      by_cases hio : i = ow
      · subst hio
        unfold pr_A
        have e5 : pr_v r sh i = 0 := by simp [pr_v, hri, hsf i hi]
        rw [eo, e5, eg i hir]
        exact pr_tab_5 (s i) (by omega) _ _ hAo hvo
      · have hoi : ¬ ow = i := fun z => hio z.symm
        exact pr_A_of (hA i hi) (ef i hio) (by simp [pr_v, hri, hoi]) rfl (eg i hir)
  · refine pr_W_s hW (fun z => by rw [et 4] at z; exact z) (fun i hi k => ?_)
    by_cases hio : i = ow
    · subst hio
      unfold pr_o at *
      rw [et i] at k
      by_cases h8 : s i = 8
      · rw [h8] at hAo
        have e8 := pr_tab_o8 _ _ hAo hvo
        refine Or.inr (Or.inr (Or.inr (Or.inl ⟨h8, ?_⟩)))
        simp only at e8
        rw [e8]
        simp
      · rcases k with z | z | z | z | z
        · exact Or.inl z
        · exact Or.inr (Or.inl z)
        · exact Or.inr (Or.inr (Or.inl z))
        · exact absurd z.1 h8
        · exact Or.inr (Or.inr (Or.inr (Or.inr z)))
    · exact pr_o_of rfl (ef i hio) (et i) k
  · unfold pr_7 at *
    simp [pr_K_app, pr_K, pr_T_app, pr_T] at *
    omega
  · unfold pr_H at *
    exact ⟨hH.1, fun _ => hr, fun z => absurd hd z, hH.2.2.2⟩
  · refine pr_9_app (pr_9_del h9) (pr_9_one ?_)
    simp [pr_sh, ho, hr, hor]
/-- PUTS at the home -/
theorem pr_I_D2 {s : Nat → Nat} {ms : Nat → Int} {d ow : Nat} {sh : Nat → Bool} {a b : List pr_M} {r x d' : Nat} {n : Int} (h : pr_I s ms d ow sh (a ++ (2, r, 4, n, x) :: b)) (hd' : d' = d ∨ (d = 1 ∧ d' = 0 ∧ ∀ i, i < 4 → pr_up sh r false i = false)) : pr_I s ms d' ow (pr_up sh r false) (a ++ b ++ [(7, 4, r, 0, 5)]) := by
  obtain ⟨hC, hA, hW, h7, hH, h9⟩ := h
  have hsh := pr_9_at h9
  unfold pr_sh at hsh
  have hr : r < 4 := by simp at hsh; omega
  have h4r : ¬ 4 = r := by omega
  have hr4 : ¬ r = 4 := by omega
  have h5r : ¬ 5 = r := by omega
  have hAr := hA r hr
  unfold pr_A at hAr
  have hs3 : s r = 9 ∨ s r = 10 := pr_c_pS (hC r hr) (by
    simp only [pr_F_app, pr_F]
    simp
    omega)
  have hv := pr_tab_w (s r) (by omega) hs3 _ _ hAr
  have hro : ¬ ow = r := fun z => by simp [pr_v, z] at hv
  obtain ⟨hs8, hp1⟩ := pr_c_put (hC r hr) (by
    simp only [pr_F_app, pr_T_app, pr_F, pr_T]
    simp
    omega)
  have h77 : 7 ∉ pr_fq r (a ++ (2, r, 4, n, x) :: b) := pr_fq_7 _ _ (by
    simp only [pr_F_app, pr_T_app, pr_F, pr_T] at hp1 ⊢
    simp at hp1 ⊢
    omega)
  clear hp1
  have eg : ∀ i, pr_g i (a ++ b ++ [(7, 4, r, 0, 5)]) = pr_g i (a ++ (2, r, 4, n, x) :: b) := fun i => pr_g_eq (by simp [pr_F_app, pr_F])
  have ef : ∀ i, ¬ i = r → pr_fq i (a ++ b ++ [(7, 4, r, 0, 5)]) = pr_fq i (a ++ (2, r, 4, n, x) :: b) := fun i hir => by
    have hri : ¬ r = i := fun z => hir z.symm
    simp [pr_fq_app, pr_fq, hri]
  have eo : pr_fq r (a ++ b ++ [(7, 4, r, 0, 5)]) = pr_fq r (a ++ (2, r, 4, n, x) :: b) ++ [7] := by simp [pr_fq_app, pr_fq]
  have et : ∀ i, pr_T 8 i (a ++ b ++ [(7, 4, r, 0, 5)]) = pr_T 8 i (a ++ (2, r, 4, n, x) :: b) := fun i => by simp [pr_T_app, pr_T]
  refine ⟨pr_c_D2 hC hr, ?_, ?_, ?_, ?_, ?_⟩
  · intro i hi
    by_cases hir : i = r
    · subst hir
      unfold pr_A
      have e5 : pr_v ow (pr_up sh i false) i = 0 := by simp [pr_v, pr_up, hro]
      rw [eo, e5, eg i]
      exact pr_tab_7 (s i) (by omega) hs8 _ _ hAr h77
    · exact pr_A_of (hA i hi) (ef i hir) (by simp [pr_v, pr_up, hir]) rfl (eg i)
  · refine pr_W_s hW (fun z => by rw [et 4] at z; omega) (fun i hi k => ?_)
    by_cases hir : i = r
    · subst hir
      unfold pr_o at *
      rw [et i] at k
      by_cases h8 : s i = 8
      · refine Or.inr (Or.inr (Or.inr (Or.inl ⟨h8, fun z => ?_⟩)))
        rw [z] at h77
        simp at h77
      · omega
    · exact pr_o_of rfl (ef i hir) (et i) k
  · unfold pr_7 at *
    simp [pr_K_app, pr_K, pr_T_app, pr_T] at *
    omega
  · unfold pr_H at *
    refine ⟨by omega, fun z => hH.2.1 (by omega), fun z => hH.2.2.1 (by omega), fun z i hi => ?_⟩
    rcases hd' with e | ⟨e1, e2, e3⟩
    · by_cases hir : i = r
      · rw [hir, pr_up_s]
      · rw [pr_up_n _ _ _ hir]
        exact hH.2.2.2 (by omega) i hi
    · exact e3 i hi
  · refine pr_9_app (pr_9_del h9) (pr_9_one ?_)
    simp [pr_sh, hr]
/-- PUTM of a core that is not the owner at the home -/
theorem pr_I_D3 {s : Nat → Nat} {ms : Nat → Int} {d ow : Nat} {sh : Nat → Bool} {a b : List pr_M} {r x d' : Nat} {n : Int} (h : pr_I s ms d ow sh (a ++ (3, r, 4, n, x) :: b)) (hro : ¬ ow = r) (hd' : d' = d ∨ (d = 1 ∧ d' = 0 ∧ ∀ i, i < 4 → pr_up sh r false i = false)) : pr_I s ms d' ow (pr_up sh r false) (a ++ b ++ [(7, 4, r, 0, 5)]) := by
  obtain ⟨hC, hA, hW, h7, hH, h9⟩ := h
  have hsh := pr_9_at h9
  unfold pr_sh at hsh
  have hr : r < 4 := by simp at hsh; omega
  have h4r : ¬ 4 = r := by omega
  have hr4 : ¬ r = 4 := by omega
  have h5r : ¬ 5 = r := by omega
  have hAr := hA r hr
  unfold pr_A at hAr
  obtain ⟨hs8, hp1⟩ := pr_c_put (hC r hr) (by
    simp only [pr_F_app, pr_T_app, pr_F, pr_T]
    simp
    omega)
  have h77 : 7 ∉ pr_fq r (a ++ (3, r, 4, n, x) :: b) := pr_fq_7 _ _ (by
    simp only [pr_F_app, pr_T_app, pr_F, pr_T] at hp1 ⊢
    simp at hp1 ⊢
    omega)
  clear hp1
  have eg : ∀ i, pr_g i (a ++ b ++ [(7, 4, r, 0, 5)]) = pr_g i (a ++ (3, r, 4, n, x) :: b) := fun i => pr_g_eq (by simp [pr_F_app, pr_F])
  have ef : ∀ i, ¬ i = r → pr_fq i (a ++ b ++ [(7, 4, r, 0, 5)]) = pr_fq i (a ++ (3, r, 4, n, x) :: b) := fun i hir => by
    have hri : ¬ r = i := fun z => hir z.symm
    simp [pr_fq_app, pr_fq, hri]
  have eo : pr_fq r (a ++ b ++ [(7, 4, r, 0, 5)]) = pr_fq r (a ++ (3, r, 4, n, x) :: b) ++ [7] := by simp [pr_fq_app, pr_fq]
  have et : ∀ i, pr_T 8 i (a ++ b ++ [(7, 4, r, 0, 5)]) = pr_T 8 i (a ++ (3, r, 4, n, x) :: b) := fun i => by simp [pr_T_app, pr_T]
  refine ⟨pr_c_D3 hC hr, ?_, ?_, ?_, ?_, ?_⟩
  · intro i hi
    by_cases hir : i = r
    · subst hir
      unfold pr_A
      have e5 : pr_v ow (pr_up sh i false) i = 0 := by simp [pr_v, pr_up, hro]
      rw [eo, e5, eg i]
      exact pr_tab_7 (s i) (by omega) hs8 _ _ hAr h77
    · exact pr_A_of (hA i hi) (ef i hir) (by simp [pr_v, pr_up, hir]) rfl (eg i)
  · refine pr_W_s hW (fun z => by rw [et 4] at z; omega) (fun i hi k => ?_)
    by_cases hir : i = r
    · subst hir
      unfold pr_o at *
      rw [et i] at k
      by_cases h8 : s i = 8
      · refine Or.inr (Or.inr (Or.inr (Or.inl ⟨h8, fun z => ?_⟩)))
        rw [z] at h77
        simp at h77
      · omega
    · exact pr_o_of rfl (ef i hir) (et i) k
  · unfold pr_7 at *
    simp [pr_K_app, pr_K, pr_T_app, pr_T] at *
    omega
  · unfold pr_H at *
    refine ⟨by omega, fun z => hH.2.1 (by omega), fun z => hH.2.2.1 (by omega), fun z i hi => ?_⟩
    rcases hd' with e | ⟨e1, e2, e3⟩
    · by_cases hir : i = r
      · rw [hir, pr_up_s]
      · rw [pr_up_n _ _ _ hir]
        exact hH.2.2.2 (by omega) i hi
    · exact e3 i hi
  · refine pr_9_app (pr_9_del h9) (pr_9_one ?_)
    simp [pr_sh, hr]
/-- PUTM of the owner at the home -/
theorem pr_I_D3o {s : Nat → Nat} {ms : Nat → Int} {d ow : Nat} {sh : Nat → Bool} {a b : List pr_M} {r x : Nat} {n : Int} (h : pr_I s ms d ow sh (a ++ (3, r, 4, n, x) :: b)) (hd : d = 2) (hro : ow = r) : pr_I s ms 0 5 sh (a ++ b ++ [(7, 4, r, 0, 5)]) := by
  obtain ⟨hC, hA, hW, h7, hH, h9⟩ := h
  have hsh := pr_9_at h9
  unfold pr_sh at hsh
  have hr : r < 4 := by simp at hsh; omega
  have h4r : ¬ 4 = r := by omega
  have hr4 : ¬ r = 4 := by omega
  have h5r : ¬ 5 = r := by omega
  have hAr := hA r hr
  unfold pr_A at hAr
  have hsf := hH.2.2.2 (Or.inl hd)
  have hvo : pr_v ow sh r = 2 := by simp [pr_v, hro]
  obtain ⟨hs8, -⟩ := pr_c_put (hC r hr) (by
    simp only [pr_F_app, pr_T_app, pr_F, pr_T]
    simp
    omega)
  have h8 : s r = 8 := by
    by_cases h8 : s r = 8
    · exact h8
    · exact absurd hvo (pr_tab_w (s r) (by omega) (by omega) _ _ hAr)
  have hAr8 := hAr
  rw [h8] at hAr8
  have e8 := pr_tab_o8 _ _ hAr8 hvo
  simp only at e8
  have eg : ∀ i, pr_g i (a ++ b ++ [(7, 4, r, 0, 5)]) = pr_g i (a ++ (3, r, 4, n, x) :: b) := fun i => pr_g_eq (by simp [pr_F_app, pr_F])
  have ef : ∀ i, ¬ i = r → pr_fq i (a ++ b ++ [(7, 4, r, 0, 5)]) = pr_fq i (a ++ (3, r, 4, n, x) :: b) := fun i hir => by
    have hri : ¬ r = i := fun z => hir z.symm
    simp [pr_fq_app, pr_fq, hri]
  have eo : pr_fq r (a ++ b ++ [(7, 4, r, 0, 5)]) = pr_fq r (a ++ (3, r, 4, n, x) :: b) ++ [7] := by simp [pr_fq_app, pr_fq]
  have et : ∀ i, pr_T 8 i (a ++ b ++ [(7, 4, r, 0, 5)]) = pr_T 8 i (a ++ (3, r, 4, n, x) :: b) := fun i => by simp [pr_T_app, pr_T]
  refine ⟨pr_c_D3 hC hr, ?_, ?_, ?_, ?_, ?_⟩
  · intro i hi
    have h5i : ¬ 5 = i := by omega
    by_cases hir : i = r
    · subst hir
      unfold pr_A
      have e5 : pr_v 5 sh i = 0 := by simp [pr_v, h5i, hsf i hi]
      rw [eo, e5, eg i]
      exact pr_tab_7 (s i) (by omega) (by omega) _ _ hAr (by rw [e8]; simp)
    · have hoi : ¬ ow = i := fun z => hir (by omega)
      exact pr_A_of (hA i hi) (ef i hir) (by simp [pr_v, h5i, hoi]) rfl (eg i)
  · refine pr_W_m hW 4 r hr ?_ ?_ (fun z => absurd rfl z) (fun i hi hix k => ?_)
    · refine Or.inr (Or.inr (Or.inr (Or.inl ⟨h8, ?_⟩)))
      rw [e8]
      simp
    · unfold pr_o
      rw [eo, e8]
      simp [h8]
    · by_cases hir : i = r
      · subst hir
        exact Or.inr (Or.inr (Or.inr (Or.inl ⟨h8, by rw [e8]; simp⟩)))
      · exact pr_o_of rfl (ef i hir) (et i) k
  · unfold pr_7 at *
    simp [pr_K_app, pr_K, pr_T_app, pr_T] at *
    omega
  · unfold pr_H
    simp
    exact hsf
  · refine pr_9_app (pr_9_del h9) (pr_9_one ?_)
    simp [pr_sh, hr]
/-- DATA at the home -/
theorem pr_I_D8h {s : Nat → Nat} {ms : Nat → Int} {d ow : Nat} {sh : Nat → Bool} {a b : List pr_M} {f x d' : Nat} {n : Int} (h : pr_I s ms d ow sh (a ++ (8, f, 4, n, x) :: b)) (hd' : d' = 1 ∨ (d' = 0 ∧ ∀ i, i < 4 → sh i = false)) : d = 3 ∧ pr_I s ms d' ow sh (a ++ b) := by
  obtain ⟨hC, hA, hW, h7, hH, h9⟩ := h
  have hd : d = 3 := by
    unfold pr_7 at h7
    simp [pr_K_app, pr_K, pr_T_app, pr_T] at h7
    omega
  have ef : ∀ i, pr_fq i (a ++ b) = pr_fq i (a ++ (8, f, 4, n, x) :: b) := fun i => (pr_fq_del (fun z => by omega)).symm
  have eg : ∀ i, pr_g i (a ++ b) = pr_g i (a ++ (8, f, 4, n, x) :: b) := fun i => pr_g_eq (by simp [pr_F_app, pr_F])
  have et : ∀ i, ¬ i = 4 → pr_T 8 i (a ++ b) = pr_T 8 i (a ++ (8, f, 4, n, x) :: b) := fun i h4 => by
    have h4i : ¬ 4 = i := fun z => h4 z.symm
    simp [pr_T_app, pr_T, h4i]
  refine ⟨hd, pr_c_D8h hC, fun i hi => pr_A_of (hA i hi) (ef i) rfl rfl (eg i), ?_, ?_, ?_, pr_9_del h9⟩
  · refine pr_W_s hW (fun _ => Or.inr ?_) (fun i hi k => pr_o_of rfl (ef i) (et i (by omega)) k)
    simp only [pr_T_app, pr_T]
    simp
    omega
  · unfold pr_7 at *
    simp [pr_K_app, pr_K, pr_T_app, pr_T] at *
    omega
  · unfold pr_H at *
    refine ⟨by omega, fun z => by omega, fun _ => hH.2.2.1 (by omega), fun z i hi => ?_⟩
    rcases hd' with e | ⟨e1, e2⟩
    · omega
    · exact e2 i hi
