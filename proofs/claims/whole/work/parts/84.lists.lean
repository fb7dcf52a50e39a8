/-- the slots behind k move up, the slot of k goes behind them -/
theorem to_loop (k_ g : Int32) (M : Nat) (hM : M < 32) : ∀ (f y : Nat) (w : hd_V), w 1 0 1 = nI M → y ≤ M → M < f + y → f_Net_takeOut_L19 k_ g f (nI y) w = fun k' c i => if k' = 2 ∧ c = 0 then (if i < y then w 2 0 i else if i < M then w 2 0 (i + 1) else if i = M then g else w 2 0 i) else w k' c i := by
  intro f
  induction f with
  | zero => intro y w _ h1 h2; omega
  | succ f ih =>
    intro y w hw hy hf
    unfold f_Net_takeOut_L19
    by_cases h : y = M
    · subst h
      rw [if_pos (by rw [hw]; exact nI_le (Nat.le_refl _) (by omega)), hw, nI_clamp (by omega)]
      funext k' c i
      rw [hd_u_eq]
      by_cases hk : k' = 2 ∧ c = 0
      · obtain ⟨rfl, rfl⟩ := hk
        simp only [and_self, true_and, if_true]
        by_cases hi : i = y
        · subst hi; simp
        · rw [if_neg hi]
          by_cases h2 : i < y <;> simp [h2, hi]
      · rw [if_neg hk, if_neg (fun z => hk ⟨z.1, z.2.1⟩)]
    · rw [if_neg (by rw [hw]; exact nI_ge (by omega) (by omega)), nI_1, nI_clamp (by omega), nI_clamp (by omega)]
      show f_Net_takeOut_L19 k_ g f (nI (y + 1)) _ = _
      rw [ih (y + 1) _ (by rw [hd_un _ _ _ _ _ (by omega)]; exact hw) (by omega) (by omega)]
      funext k' c i
      by_cases hk : k' = 2 ∧ c = 0
      · obtain ⟨rfl, rfl⟩ := hk
        simp only [and_self, if_true, hd_u_eq, true_and]
        by_cases h1 : i < y
        · simp [h1, show i < y + 1 by omega, show ¬ i = y by omega]
        · by_cases h2 : i = y
          · subst h2; simp [show i < M by omega]
          · simp only [h1, h2, show ¬ i < y + 1 by omega, show ¬ i + 1 = y by omega, if_false]
      · rw [if_neg hk, if_neg hk, hd_un _ _ _ _ _ (fun z => hk ⟨z.1, z.2.1⟩)]
theorem to_eq {v : hd_V} {q : List hq_M} (h : hq_C v q) {k : Nat} (hk : k < q.length) : f_Net_takeOut (nI k) v = fun k' c i => if k' = 2 ∧ c = 0 then (if i < k then v 2 0 i else if i < q.length - 1 then v 2 0 (i + 1) else if i = q.length - 1 then v 2 0 k else v 2 0 i) else if k' = 1 ∧ c = 0 ∧ i = 1 then nI (q.length - 1) else v k' c i := by
  obtain ⟨h1, h2, h3, h4, h5⟩ := h
  have e : v 1 0 1 - 1 = nI (q.length - 1) := by
    rw [h1, show q.length = (q.length - 1) + 1 by omega, ← nI_1, Int32.add_sub_cancel]
    rw [show q.length - 1 + 1 - 1 = q.length - 1 by omega]
  unfold f_Net_takeOut
  rw [e, nI_clamp (by omega)]
  show f_Net_takeOut_L19 (nI k) (v 2 0 k) 33 (nI k) _ = _
  rw [to_loop (nI k) (v 2 0 k) (q.length - 1) (by omega) 33 k _ (hd_us _ _ _ _ _) (by omega) (by omega)]
  funext k' c i
  by_cases hk2 : k' = 2 ∧ c = 0
  · simp [hk2, hd_u_eq]
  · rw [if_neg hk2, if_neg hk2, hd_u_eq]
theorem to_k {v : hd_V} {q : List hq_M} (h : hq_C v q) {k : Nat} (hk : k < q.length) {k' : Nat} (h1 : ¬ k' = 1) (h2 : ¬ k' = 2) : f_Net_takeOut (nI k) v k' = v k' := by
  rw [to_eq h hk]
  funext c i
  simp [h1, h2]
theorem to_12 {v : hd_V} {q : List hq_M} (h : hq_C v q) {k : Nat} (hk : k < q.length) : f_Net_takeOut (nI k) v 1 0 2 = v 1 0 2 := by
  rw [to_eq h hk]
  simp
theorem er_get {α : Type} (q : List α) (k i : Nat) : (q.eraseIdx k)[i]? = if i < k then q[i]? else q[i + 1]? := by
  rw [List.getElem?_eraseIdx]
/-- a message taken out -/
theorem to_C {v : hd_V} {q : List hq_M} (h : hq_C v q) {k : Nat} (hk : k < q.length) : hq_C (f_Net_takeOut (nI k) v) (q.eraseIdx k) := by
  have e := to_eq h hk
  have e3 := to_k h hk (k' := 3) (by decide) (by decide)
  obtain ⟨h1, h2, h3, h4, h5⟩ := h
  have el : (q.eraseIdx k).length = q.length - 1 := List.length_eraseIdx_of_lt hk
  have es : ∀ i, hq_s (f_Net_takeOut (nI k) v) i = if i < k then hq_s v i else if i < q.length - 1 then hq_s v (i + 1) else if i = q.length - 1 then hq_s v k else hq_s v i := by
    intro i
    unfold hq_s
    rw [e]
    simp only [and_self, if_true]
    split
    · rfl
    · split
      · rfl
      · split <;> rfl
  refine ⟨?_, ?_, ?_, ?_, ?_⟩
  · rw [e, el]; simp
  · omega
  · intro i hi
    rw [es]
    split
    · exact h3 i hi
    · split
      · exact h3 _ (by omega)
      · split
        · exact h3 _ (by omega)
        · exact h3 _ hi
  · intro i hi j hj hij
    rw [es, es] at hij
    by_cases a1 : i < k
    · rw [if_pos a1] at hij
      by_cases b1 : j < k
      · rw [if_pos b1] at hij; exact h4 _ hi _ hj hij
      · rw [if_neg b1] at hij
        by_cases b2 : j < q.length - 1
        · rw [if_pos b2] at hij; have := h4 _ hi _ (by omega) hij; omega
        · rw [if_neg b2] at hij
          by_cases b3 : j = q.length - 1
          · rw [if_pos b3] at hij; have := h4 _ hi _ (by omega) hij; omega
          · rw [if_neg b3] at hij; have := h4 _ hi _ hj hij; omega
    · rw [if_neg a1] at hij
      by_cases a2 : i < q.length - 1
      · rw [if_pos a2] at hij
        by_cases b1 : j < k
        · rw [if_pos b1] at hij; have := h4 _ (by omega) _ hj hij; omega
        · rw [if_neg b1] at hij
          by_cases b2 : j < q.length - 1
          · rw [if_pos b2] at hij; have := h4 _ (by omega) _ (by omega) hij; omega
          · rw [if_neg b2] at hij
            by_cases b3 : j = q.length - 1
            · rw [if_pos b3] at hij; have := h4 _ (by omega) _ (by omega) hij; omega
            · rw [if_neg b3] at hij; have := h4 _ (by omega) _ hj hij; omega
      · rw [if_neg a2] at hij
        by_cases a3 : i = q.length - 1
        · rw [if_pos a3] at hij
          by_cases b1 : j < k
          · rw [if_pos b1] at hij; have := h4 _ (by omega) _ hj hij; omega
          · rw [if_neg b1] at hij
            by_cases b2 : j < q.length - 1
            · rw [if_pos b2] at hij; have := h4 _ (by omega) _ (by omega) hij; omega
            · rw [if_neg b2] at hij
              by_cases b3 : j = q.length - 1
              · omega
              · rw [if_neg b3] at hij; have := h4 _ (by omega) _ hj hij; omega
        · rw [if_neg a3] at hij
          by_cases b1 : j < k
          · rw [if_pos b1] at hij; have := h4 _ hi _ hj hij; omega
          · rw [if_neg b1] at hij
            by_cases b2 : j < q.length - 1
            · rw [if_pos b2] at hij; have := h4 _ hi _ (by omega) hij; omega
            · rw [if_neg b2] at hij
              by_cases b3 : j = q.length - 1
              · rw [if_pos b3] at hij; have := h4 _ hi _ (by omega) hij; omega
              · rw [if_neg b3] at hij; exact h4 _ hi _ hj hij
  · intro i m hm
    rw [er_get] at hm
    rw [es]
    unfold hq_c
    rw [e3]
    by_cases a1 : i < k
    · rw [if_pos a1] at hm ⊢; exact h5 i m hm
    · rw [if_neg a1] at hm ⊢
      have hl : i + 1 < q.length := by
        rcases Nat.lt_or_ge (i + 1) q.length with z | z
        · exact z
        · rw [List.getElem?_eq_none z] at hm; cases hm
      rw [if_pos (by omega)]
      exact h5 (i + 1) m hm
/-- the reference's arrays close up -/
theorem rm_loop (k_ : Int32) (M : Nat) (hM : M < 64) : ∀ (f y : Nat) (w : hd_V), w 20 0 17 = nI M → y ≤ M → M < f + y → f_Mod_remove_L12 k_ f (nI y) w = fun k' c i => if 40 ≤ k' ∧ k' ≤ 46 ∧ c = 0 ∧ y ≤ i ∧ i < M then w k' 0 (i + 1) else w k' c i := by
  intro f
  induction f with
  | zero => intro y w _ h1 h2; omega
  | succ f ih =>
    intro y w hw hy hf
    unfold f_Mod_remove_L12
    by_cases h : y = M
    · subst h
      rw [if_pos (by rw [hw]; exact nI_le (Nat.le_refl _) (by omega))]
      funext k' c i
      rw [if_neg (by omega)]
    · rw [if_neg (by rw [hw]; exact nI_ge (by omega) (by omega)), nI_1, nI_clamp (by omega), nI_clamp (by omega)]
      dsimp only
      rw [ih (y + 1) _ (by simp only [hd_u_eq, show ¬ (20 = 40) by decide, show ¬ (20 = 41) by decide, show ¬ (20 = 42) by decide, show ¬ (20 = 43) by decide, show ¬ (20 = 44) by decide, show ¬ (20 = 45) by decide, show ¬ (20 = 46) by decide, false_and, if_false]; exact hw) (by omega) (by omega)]
      funext k' c i
      by_cases hk : 40 ≤ k' ∧ k' ≤ 46 ∧ c = 0
      · obtain ⟨hk1, hk2, rfl⟩ := hk
        have hk3 : k' = 40 ∨ k' = 41 ∨ k' = 42 ∨ k' = 43 ∨ k' = 44 ∨ k' = 45 ∨ k' = 46 := by omega
        by_cases h1 : i = y
        · subst h1
          rcases hk3 with rfl | rfl | rfl | rfl | rfl | rfl | rfl <;> simp [hd_u_eq, show i < M by omega]
        · by_cases h2 : y ≤ i ∧ i < M
          · have h3 : ¬ i + 1 = y := by omega
            have h4 : y + 1 ≤ i := by omega
            rcases hk3 with rfl | rfl | rfl | rfl | rfl | rfl | rfl <;> simp [hd_u_eq, h2.1, h2.2, h3, h4]
          · have h4 : ¬ (y + 1 ≤ i ∧ i < M) := by omega
            rcases hk3 with rfl | rfl | rfl | rfl | rfl | rfl | rfl <;> simp [hd_u_eq, h1, h2, h4]
      · rw [if_neg (fun z => hk ⟨z.1, z.2.1, z.2.2.1⟩), if_neg (fun z => hk ⟨z.1, z.2.1, z.2.2.1⟩)]
        simp only [hd_u_eq]
        repeat rw [if_neg (fun z => hk ⟨by omega, by omega, z.2.1⟩)]
theorem rm_eq {v : hd_V} {q : List hq_M} (h : hq_R v q) {k : Nat} (hk : k < q.length) : f_Mod_remove (nI k) v = fun k' c i => if 40 ≤ k' ∧ k' ≤ 46 ∧ c = 0 ∧ k ≤ i ∧ i < q.length - 1 then v k' 0 (i + 1) else if k' = 20 ∧ c = 0 ∧ i = 17 then nI (q.length - 1) else v k' c i := by
  obtain ⟨h1, h2, h5⟩ := h
  have e : v 20 0 17 - 1 = nI (q.length - 1) := by
    rw [h1, show q.length = (q.length - 1) + 1 by omega, ← nI_1, Int32.add_sub_cancel]
    rw [show q.length - 1 + 1 - 1 = q.length - 1 by omega]
  unfold f_Mod_remove
  rw [e]
  show f_Mod_remove_L12 (nI k) 65 (nI k) _ = _
  rw [rm_loop (nI k) (q.length - 1) (by omega) 65 k _ (hd_us _ _ _ _ _) (by omega) (by omega)]
  funext k' c i
  by_cases hk2 : 40 ≤ k' ∧ k' ≤ 46 ∧ c = 0 ∧ k ≤ i ∧ i < q.length - 1
  · rw [if_pos hk2, if_pos hk2, hd_un _ _ _ _ _ (by omega)]
  · rw [if_neg hk2, if_neg hk2, hd_u_eq]
theorem rm_k {v : hd_V} {q : List hq_M} (h : hq_R v q) {k : Nat} (hk : k < q.length) {k' : Nat} (h1 : ¬ k' = 20) (h2 : ¬ (40 ≤ k' ∧ k' ≤ 46)) : f_Mod_remove (nI k) v k' = v k' := by
  rw [rm_eq h hk]
  funext c i
  dsimp only
  rw [if_neg (fun z => h2 ⟨z.1, z.2.1⟩), if_neg (fun z => h1 z.1)]
theorem rm_20 {v : hd_V} {q : List hq_M} (h : hq_R v q) {k : Nat} (hk : k < q.length) : f_Mod_remove (nI k) v 20 0 = upd (v 20 0) 17 (nI (q.length - 1)) := by
  rw [rm_eq h hk]
  funext i
  unfold upd
  simp
theorem rm_R {v : hd_V} {q : List hq_M} (h : hq_R v q) {k : Nat} (hk : k < q.length) : hq_R (f_Mod_remove (nI k) v) (q.eraseIdx k) := by
  have e := rm_eq h hk
  obtain ⟨h1, h2, h5⟩ := h
  have el : (q.eraseIdx k).length = q.length - 1 := List.length_eraseIdx_of_lt hk
  refine ⟨?_, by omega, ?_⟩
  · rw [e, el]; simp
  · intro i m hm
    rw [er_get] at hm
    have em : hq_m (f_Mod_remove (nI k) v) i = if i < k then hq_m v i else if i < q.length - 1 then hq_m v (i + 1) else hq_m v i := by
      unfold hq_m
      rw [e]
      by_cases a1 : i < k
      · simp [a1, show ¬ k ≤ i by omega]
      · by_cases a2 : i < q.length - 1
        · simp [a1, a2, show k ≤ i by omega]
        · simp [a1, a2]
    rw [em]
    by_cases a1 : i < k
    · rw [if_pos a1] at hm ⊢; exact h5 i m hm
    · rw [if_neg a1] at hm ⊢
      have hl : i + 1 < q.length := by
        rcases Nat.lt_or_ge (i + 1) q.length with z | z
        · exact z
        · rw [List.getElem?_eq_none z] at hm; cases hm
      rw [if_pos (by omega)]
      exact h5 (i + 1) m hm
