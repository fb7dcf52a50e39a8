/-! Which core -/
theorem co_eq {n t mx : Nat} {s : Nat → Nat → Nat} {ms : Nat → Nat → Int} {d ow : Nat → Nat} {sh : Nat → Nat → Bool} {nx sz wt : Nat → Nat} {u w : hd_V} {q : List hq_M} (hZ : hz n t mx u w s ms d ow sh nx sz wt q) (hn4 : n ≤ 4) (c_ : Int32) : f_Mod_isCore c_ w = f_HD_isCore n c_ ∧ (¬ f_HD_isCore n c_ = 0 → ∃ c, c < n ∧ c_ = nI c) := by
  have e : w 20 0 0 = nI n := hZ.2.2.2.2.2.2.2.2.2.2.2.2.2.2.2.2.2.1.1
  unfold f_Mod_isCore f_HD_isCore
  rw [e]
  refine ⟨rfl, fun h => ?_⟩
  by_cases h0 : c_ < 0
  · rw [if_pos h0] at h; exact absurd rfl h
  · rw [if_neg h0] at h
    obtain ⟨k, hk, rfl⟩ := nI_of h0
    by_cases h1 : nI n ≤ nI k
    · rw [if_pos h1] at h; exact absurd rfl h
    · refine ⟨k, ?_, rfl⟩
      rcases Nat.lt_or_ge k n with z | z
      · exact z
      · exact absurd (nI_le z hk) h1
/-! A core appends to its program -/
theorem t_p_u {U X : Nat → Nat → Int32} {g h : Nat → Int32} {c i : Nat} {op x : Int32} (hc : c < 4) (hi : i < 16) (hf : (¬ f_Core_isAccess op = 0 → vp_in x 4) ∧ (op = 3 → vp_in x 16)) (H : t_p U X g h) : t_p (up2 U c i op) (up2 X c i x) (upd g (16 * c + i) op) (upd h (16 * c + i) x) := by
  obtain ⟨h1, h2, h3⟩ := H
  refine ⟨fun c' hc' i' hi' => ?_, fun c' hc' i' => ?_, fun j => ?_⟩
  · rw [upd_e, upd_e, up2_e, up2_e]
    have k := h1 c' hc' i' hi'
    by_cases e : c' = c ∧ i' = i
    · rw [if_pos e, if_pos e, if_pos (by omega), if_pos (by omega)]; exact ⟨rfl, rfl⟩
    · rw [if_neg e, if_neg e, if_neg (by omega), if_neg (by omega)]; exact k
  · rw [up2_e, up2_e]
    split
    · exact hf
    · exact h2 c' hc' i'
  · rw [upd_e, upd_e]
    split
    · exact hf.1
    · exact h3 j
theorem hz_code {n t mx : Nat} {s : Nat → Nat → Nat} {ms : Nat → Nat → Int} {d ow : Nat → Nat} {sh : Nat → Nat → Bool} {nx sz wt : Nat → Nat} {u w : hd_V} {q : List hq_M} {c : Nat} {op x : Int32} (hZ : hz n t mx u w s ms d ow sh nx sz wt q) (hc : c < 4) (hs : sz c < 16) (hf : (¬ f_Core_isAccess op = 0 → vp_in x 4) ∧ (op = 3 → vp_in x 16)) : hz n t mx (hd_u (hd_u (hd_u u 11 c (sz c) op) 12 c (sz c) x) 10 c 5 (nI (sz c + 1))) (hd_u (hd_u (hd_u w 23 0 (16 * c + sz c) op) 24 0 (16 * c + sz c) x) 25 0 c (nI (sz c + 1))) s ms d ow sh nx (pr_up sz c (sz c + 1)) wt q := by
  obtain ⟨h1, h2, h3, h4, h5, h6, h7, h8, h9, h10, h11, h12, h13, h14, h15, h16, h17, h18, h19, h20, h21⟩ := hZ
  refine ⟨?_, ?_, ?_, ?_, ?_, ?_, ?_, ?_, ?_, ?_, ?_, ?_, ?_, ?_, ?_, ?_, ?_, ?_, ?_, ?_, ?_⟩
  case refine_21 => exact hq_R_of (by simp only [hu_k, hu_s, up2_s, hcol_n, hcol_s, ns_k, ms_k, ms_20, upd_s, upd_n, upd_id, up2_id, not_false_eq_true, Nat.reduceEqDiff, Nat.reduceLeDiff, false_and, and_false, if_true, if_false, f_Net_sendPlain, f_Net_sendFor, f_Net_sendWord, f_Net_sendData, f_Mod_data]) (fun k k1 k2 => by simp only [hu_k (show ¬ k = 23 by omega), hu_k (show ¬ k = 24 by omega), hu_k (show ¬ k = 25 by omega)]) h21
  all_goals simp only [hu_k, hu_s, up2_s, hcol_n, hcol_s, ns_k, ms_k, ms_20, upd_s, upd_n, upd_id, up2_id, not_false_eq_true, Nat.reduceEqDiff, Nat.reduceLeDiff, false_and, and_false, if_true, if_false, f_Net_sendPlain, f_Net_sendFor, f_Net_sendWord, f_Net_sendData, f_Mod_data]
  all_goals first | assumption | exact t_p_u hc hs hf h5 | exact t_1_u h6 | exact t_n_u rfl (by omega) h9
theorem hk_W_c {s : Nat → Nat → Nat} {nx sz wt : Nat → Nat} {U V : Nat → Nat → Int32} {c : Nat} {op x : Int32} (h : hk_W hk_F s nx sz wt U V) : hk_W hk_F s nx (pr_up sz c (sz c + 1)) wt (up2 U c (sz c) op) (up2 V c (sz c) x) := by
  intro c' hc'
  obtain ⟨a0, a1, a2⟩ := h c' hc'
  refine ⟨a0, fun z => ?_, a2⟩
  obtain ⟨e1, e2⟩ := a1 z
  have n1 : ¬ (c' = c ∧ nx c' = sz c) := fun q => by
    obtain ⟨rfl, q⟩ := q
    omega
  rw [up2_e, up2_e, if_neg n1, if_neg n1]
  refine ⟨?_, e2⟩
  rw [pr_up_e]
  split
  · rename_i k; subst k; omega
  · exact e1
theorem fits_of {op x : Int32} (h : ¬ f_Core_fits op x = 0) : (¬ f_Core_isAccess op = 0 → vp_in x 4) ∧ (op = 3 → vp_in x 16) := by
  have l4 : ∀ x : Int32, ¬ x < 0 → ¬ 4 ≤ x → vp_in x 4 := by
    intro x h1 h2
    rw [vp_in_iff]
    rw [Int32.lt_iff_toInt_lt] at h1
    rw [Int32.le_iff_toInt_le] at h2
    have a1 : (0 : Int32).toInt = 0 := by decide
    have a2 : (4 : Int32).toInt = 4 := by decide
    omega
  have l16 : ∀ x : Int32, ¬ x < 0 → ¬ 16 ≤ x → vp_in x 16 := by
    intro x h1 h2
    rw [vp_in_iff]
    rw [Int32.lt_iff_toInt_lt] at h1
    rw [Int32.le_iff_toInt_le] at h2
    have a1 : (0 : Int32).toInt = 0 := by decide
    have a2 : (16 : Int32).toInt = 16 := by decide
    omega
  unfold f_Core_fits at h
  by_cases ha : f_Core_isAccess op = 0
  · rw [if_pos ha] at h
    refine ⟨fun z => absurd ha z, fun z => ?_⟩
    rw [if_pos z] at h
    by_cases h0 : x < 0
    · rw [if_pos h0] at h; exact absurd rfl h
    · rw [if_neg h0] at h
      by_cases h1 : 16 ≤ x
      · rw [if_pos h1] at h; exact absurd rfl h
      · exact l16 x h0 h1
  · rw [if_neg ha] at h
    refine ⟨fun _ => ?_, fun z => ?_⟩
    · unfold f_HD_isBlock at h
      by_cases h0 : x < 0
      · rw [if_pos h0] at h; exact absurd rfl h
      · rw [if_neg h0] at h
        by_cases h1 : 4 ≤ x
        · rw [if_pos h1] at h; exact absurd rfl h
        · exact l4 x h0 h1
    · rw [z] at ha; exact absurd (by decide) ha

theorem l15 {x : Int32} : (15 < x) = (16 ≤ x) := by
  rw [Int32.lt_iff_toInt_lt, Int32.le_iff_toInt_le, show (15 : Int32).toInt = 15 by decide, show (16 : Int32).toInt = 16 by decide]
  exact propext (by omega)
theorem l3 {x : Int32} : (3 < x) = (4 ≤ x) := by
  rw [Int32.lt_iff_toInt_lt, Int32.le_iff_toInt_le, show (3 : Int32).toInt = 3 by decide, show (4 : Int32).toInt = 4 by decide]
  exact propext (by omega)
theorem bl_eq (x : Int32) : f_Mod_isBlock x = f_HD_isBlock x := by
  unfold f_Mod_isBlock f_HD_isBlock
  simp only [l3]
theorem mc_eq {c_ op x : Int32} {w : hd_V} (hco : ¬ f_Mod_isCore c_ w = 0) (h0 : ¬ op < 0) (h5 : ¬ 5 < op) : f_Mod_code c_ op x w = if f_Core_fits op x = 0 then (0, w) else if w 25 0 c_.toNatClampNeg = 16 then (0, w) else (1, hd_u (hd_u (hd_u w 23 0 (16 * c_ + w 25 0 c_.toNatClampNeg).toNatClampNeg op) 24 0 (16 * c_ + w 25 0 c_.toNatClampNeg).toNatClampNeg x) 25 0 c_.toNatClampNeg (w 25 0 c_.toNatClampNeg + 1)) := by
  have ea : f_Core_isAccess op = f_Mod_access op := rfl
  unfold f_Mod_code f_Core_fits
  rw [ea]
  simp only [hco, h0, h5, if_false, bl_eq, l15]
  by_cases ha : f_Mod_access op = 0
  · simp only [ha, if_true]
    by_cases h3 : op = 3
    · simp only [h3, if_true]
      by_cases x0 : x < 0
      · simp only [x0, if_true]
      · by_cases x1 : 16 ≤ x
        · simp only [x0, x1, if_true, if_false]
        · simp only [x0, x1, if_false, Z10, hu_k, hu_s, up2_s, hcol_n, hcol_s, ns_k, ms_k, ms_20, upd_s, upd_n, upd_id, up2_id, not_false_eq_true, Nat.reduceEqDiff, Nat.reduceLeDiff, false_and, and_false, if_true, if_false, f_Net_sendPlain, f_Net_sendFor, f_Net_sendWord, f_Net_sendData, f_Mod_data]
    · simp only [h3, if_false, Z10, hu_k, hu_s, up2_s, hcol_n, hcol_s, ns_k, ms_k, ms_20, upd_s, upd_n, upd_id, up2_id, not_false_eq_true, Nat.reduceEqDiff, Nat.reduceLeDiff, false_and, and_false, if_true, if_false, f_Net_sendPlain, f_Net_sendFor, f_Net_sendWord, f_Net_sendData, f_Mod_data]
  · simp only [ha, if_false]
    have h3 : ¬ op = 3 := fun z => by rw [z] at ha; exact ha (by decide)
    simp only [h3, if_false, hu_k, hu_s, up2_s, hcol_n, hcol_s, ns_k, ms_k, ms_20, upd_s, upd_n, upd_id, up2_id, not_false_eq_true, Nat.reduceEqDiff, Nat.reduceLeDiff, false_and, and_false, if_true, if_false, f_Net_sendPlain, f_Net_sendFor, f_Net_sendWord, f_Net_sendData, f_Mod_data]
/-- code: both answer the same and stay tied -/
theorem st_code {n t mx : Nat} {s : Nat → Nat → Nat} {ms : Nat → Nat → Int} {d ow : Nat → Nat} {sh : Nat → Nat → Bool} {nx sz wt : Nat → Nat} {u w : hd_V} {q : List hq_M} (h : hS n t mx hk_F u w s ms d ow sh nx sz wt q q) (hn4 : n ≤ 4) (c_ op x : Int32) : (f_HD_code n c_ op x u).1 = (f_Mod_code c_ op x w).1 ∧ ∃ s' ms' d' ow' sh' nx' sz' wt' q', hS n (t + 1) mx hk_F (f_HD_code n c_ op x u).2 (f_Mod_code c_ op x w).2 s' ms' d' ow' sh' nx' sz' wt' q' q' := by
  have same : ∃ s' ms' d' ow' sh' nx' sz' wt' q', hS n (t + 1) mx hk_F u w s' ms' d' ow' sh' nx' sz' wt' q' q' := ⟨s, ms, d, ow, sh, nx, sz, wt, q, hS_t h⟩
  have co := co_eq h.1 hn4 c_
  by_cases hco : f_HD_isCore n c_ = 0
  · have hco2 : f_Mod_isCore c_ w = 0 := co.1.trans hco
    unfold f_HD_code f_Mod_code
    simp only [hco, hco2, if_true]
    exact ⟨trivial, same⟩
  · obtain ⟨c, hcn, rfl⟩ := co.2 hco
    have hco2 : ¬ f_Mod_isCore (nI c) w = 0 := fun z => hco (co.1.symm.trans z)
    have hc : c < 4 := by omega
    have e5 : u 10 c 5 = nI (sz c) := (h.1.2.2.2.2.2.2.2.2.1 c hc).1
    have s16 : sz c ≤ 16 := (h.1.2.2.2.2.2.2.2.2.1 c hc).2
    have e25 : w 25 0 c = nI (sz c) := (h.1.2.2.2.2.2.1 c hc).trans e5
    have i1 := ix1 hc
    by_cases h0 : op < 0
    · unfold f_HD_code f_Mod_code f_Core_append
      simp only [hco, hco2, h0, if_true, if_false]
      exact ⟨trivial, same⟩
    · by_cases h5 : 5 < op
      · unfold f_HD_code f_Mod_code f_Core_append
        simp only [hco, hco2, h0, h5, if_true, if_false]
        exact ⟨trivial, same⟩
      · rw [mc_eq hco2 h0 h5]
        unfold f_HD_code f_Core_append
        simp only [hco, h0, h5, if_false, i1, e25, e5]
        by_cases hf : f_Core_fits op x = 0
        · simp only [hf, if_true]
          exact ⟨trivial, same⟩
        · by_cases hs : sz c < 16
          · have k1 : nI (sz c) < 16 := nI_lt (b := 16) hs (by decide)
            have k2 : ¬ nI (sz c) = 16 := fun z => by
              have := (nIe (b := 16) (by omega) (by omega)).mp z
              omega
            simp only [hf, k1, k2, if_true, if_false, Z10, hu_k, hu_s, up2_s, hcol_n, hcol_s, ns_k, ms_k, ms_20, upd_s, upd_n, upd_id, up2_id, not_false_eq_true, Nat.reduceEqDiff, Nat.reduceLeDiff, false_and, and_false, if_true, if_false, f_Net_sendPlain, f_Net_sendFor, f_Net_sendWord, f_Net_sendData, f_Mod_data, e5, nI_clamp (show sz c < 2 ^ 31 by omega), ix16 hc s16, nI_1]
            refine ⟨trivial, s, ms, d, ow, sh, nx, pr_up sz c (sz c + 1), wt, q, hz_t (hz_code h.1 hc hs (fits_of hf)), h.2.1, h.2.2.1, ?_, ?_⟩
            · have k := hk_W_c (c := c) (op := op) (x := x) h.2.2.2.1
              simpa only [hu_k, hu_s, up2_s, hcol_n, hcol_s, ns_k, ms_k, ms_20, upd_s, upd_n, upd_id, up2_id, not_false_eq_true, Nat.reduceEqDiff, Nat.reduceLeDiff, false_and, and_false, if_true, if_false, f_Net_sendPlain, f_Net_sendFor, f_Net_sendWord, f_Net_sendData, f_Mod_data] using k
            · exact hq_C_of (by simp only [hu_k, not_false_eq_true, Nat.reduceEqDiff]) (by simp only [hu_k, not_false_eq_true, Nat.reduceEqDiff]) (by simp only [hu_k, not_false_eq_true, Nat.reduceEqDiff]) h.2.2.2.2
          · have k0 : sz c = 16 := by omega
            have k1 : ¬ nI (sz c) < 16 := by rw [k0]; decide
            have k2 : nI (sz c) = 16 := by rw [k0]; decide
            rw [if_neg k1]
            simp only [hf, k2, if_true, if_false]
            exact ⟨trivial, same⟩
/-! A core moves in its program -/
theorem hz_move {n t mx : Nat} {s : Nat → Nat → Nat} {ms : Nat → Nat → Int} {d ow : Nat → Nat} {sh : Nat → Nat → Bool} {nx sz wt : Nat → Nat} {u w : hd_V} {q : List hq_M} {c j : Nat} {y : Int32} (hZ : hz n t mx u w s ms d ow sh nx sz wt q) (hc : c < 4) (hj : j ≤ 16) : hz n t mx (hd_u (hd_u u 10 c 6 y) 10 c 7 (nI j)) (hd_u (hd_u w 22 0 c y) 26 0 c (nI j)) s ms d ow sh (pr_up nx c j) sz wt q := by
  obtain ⟨h1, h2, h3, h4, h5, h6, h7, h8, h9, h10, h11, h12, h13, h14, h15, h16, h17, h18, h19, h20, h21⟩ := hZ
  refine ⟨?_, ?_, ?_, ?_, ?_, ?_, ?_, ?_, ?_, ?_, ?_, ?_, ?_, ?_, ?_, ?_, ?_, ?_, ?_, ?_, ?_⟩
  case refine_21 => exact hq_R_of (by simp only [hu_k, hu_s, up2_s, hcol_n, hcol_s, ns_k, ms_k, ms_20, upd_s, upd_n, upd_id, up2_id, not_false_eq_true, Nat.reduceEqDiff, Nat.reduceLeDiff, false_and, and_false, if_true, if_false, f_Net_sendPlain, f_Net_sendFor, f_Net_sendWord, f_Net_sendData, f_Mod_data]) (fun k k1 k2 => by simp only [hu_k (show ¬ k = 22 by omega), hu_k (show ¬ k = 26 by omega)]) h21
  all_goals simp only [hu_k, hu_s, up2_s, hcol_n, hcol_s, ns_k, ms_k, ms_20, upd_s, upd_n, upd_id, up2_id, not_false_eq_true, Nat.reduceEqDiff, Nat.reduceLeDiff, false_and, and_false, if_true, if_false, f_Net_sendPlain, f_Net_sendFor, f_Net_sendWord, f_Net_sendData, f_Mod_data]
  all_goals first | assumption | exact t_1_u h7 | exact t_1_u h8 | exact t_n_u rfl hj h10
theorem hS_move {n t mx : Nat} {s : Nat → Nat → Nat} {ms : Nat → Nat → Int} {d ow : Nat → Nat} {sh : Nat → Nat → Bool} {nx sz wt : Nat → Nat} {u w : hd_V} {q : List hq_M} {c j : Nat} {y : Int32} (h : hS n t mx hk_F u w s ms d ow sh nx sz wt q q) (hc : c < 4) (hj : j ≤ 16) (hw : wt c = 0) : hS n t mx hk_F (hd_u (hd_u u 10 c 6 y) 10 c 7 (nI j)) (hd_u (hd_u w 22 0 c y) 26 0 c (nI j)) s ms d ow sh (pr_up nx c j) sz wt q q := by
  refine ⟨hz_move h.1 hc hj, h.2.1, h.2.2.1, ?_, hq_C_of (by simp only [hu_k, not_false_eq_true, Nat.reduceEqDiff]) (by simp only [hu_k, not_false_eq_true, Nat.reduceEqDiff]) (by simp only [hu_k, not_false_eq_true, Nat.reduceEqDiff]) h.2.2.2.2⟩
  have k := hk_W_x (c := c) (y := j) hw h.2.2.2.1
  simpa only [hu_k, hu_s, up2_s, hcol_n, hcol_s, ns_k, ms_k, ms_20, upd_s, upd_n, upd_id, up2_id, not_false_eq_true, Nat.reduceEqDiff, Nat.reduceLeDiff, false_and, and_false, if_true, if_false, f_Net_sendPlain, f_Net_sendFor, f_Net_sendWord, f_Net_sendData, f_Mod_data] using k
theorem wt_0 {x : Nat → Nat} {f g : Nat → Int32} {c : Nat} (h : t_w x f g) (hc : c < 4) : ((f c = 0) = (x c = 0)) ∧ ((g c = 0) = (x c = 0)) := by
  obtain ⟨h1, h2, h3⟩ := h c hc
  rw [h1, h2]
  rcases (show x c = 0 ∨ x c = 1 ∨ x c = 2 by omega) with z | z | z <;> rw [z] <;> exact ⟨propext (by decide), propext (by decide)⟩
theorem st_go {n t mx : Nat} {s : Nat → Nat → Nat} {ms : Nat → Nat → Int} {d ow : Nat → Nat} {sh : Nat → Nat → Bool} {nx sz wt : Nat → Nat} {u w : hd_V} {q : List hq_M} (h : hS n t mx hk_F u w s ms d ow sh nx sz wt q q) (hn4 : n ≤ 4) (c_ p : Int32) : (f_HD_go n c_ p u).1 = (f_Mod_go c_ p w).1 ∧ ∃ s' ms' d' ow' sh' nx' sz' wt' q', hS n (t + 1) mx hk_F (f_HD_go n c_ p u).2 (f_Mod_go c_ p w).2 s' ms' d' ow' sh' nx' sz' wt' q' q' := by
  have same : ∃ s' ms' d' ow' sh' nx' sz' wt' q', hS n (t + 1) mx hk_F u w s' ms' d' ow' sh' nx' sz' wt' q' q' := ⟨s, ms, d, ow, sh, nx, sz, wt, q, hS_t h⟩
  have co := co_eq h.1 hn4 c_
  by_cases hco : f_HD_isCore n c_ = 0
  · have hco2 : f_Mod_isCore c_ w = 0 := co.1.trans hco
    unfold f_HD_go f_Mod_go
    simp only [hco, hco2, if_true]
    exact ⟨trivial, same⟩
  · obtain ⟨c, hcn, rfl⟩ := co.2 hco
    have hco2 : ¬ f_Mod_isCore (nI c) w = 0 := fun z => hco (co.1.symm.trans z)
    have hc : c < 4 := by omega
    have i1 := ix1 hc
    have k0 := wt_0 h.1.2.2.2.2.2.2.2.2.2.2.1 hc
    have k1 : (u 10 c 8 = 0) = (wt c = 0) := k0.1
    have k2 : (w 27 0 c = 0) = (wt c = 0) := k0.2
    unfold f_HD_go f_Mod_go f_Core_moveTo
    simp only [hco, hco2, if_false, i1, k1, k2]
    by_cases hw : wt c = 0
    · by_cases p0 : p < 0
      · simp only [hw, p0, if_true]
        exact ⟨trivial, same⟩
      · by_cases p1 : p ≤ 16
        · obtain ⟨j, hj, rfl⟩ := nI_of p0
          have hj16 : j ≤ 16 := by
            rcases Nat.lt_or_ge 16 j with z | z
            · exact absurd p1 (nI_ge (a := 16) z hj)
            · exact z
          simp only [hw, p0, p1, if_true, if_false, Z10]
          have k := hS_move (y := u 10 c 6) h hc hj16 hw
          have e22 : w 22 0 c = u 10 c 6 := h.1.2.2.2.2.2.2.1 c hc
          rw [hu_id, hu_id' e22] at k
          exact ⟨trivial, s, ms, d, ow, sh, _, sz, wt, q, hS_t k⟩
        · simp only [hw, p0, p1, if_true, if_false]
          exact ⟨trivial, same⟩
    · simp only [hw, if_false, if_true]
      exact ⟨trivial, same⟩
/-! Lines in use -/
theorem us_eq {n t mx : Nat} {s : Nat → Nat → Nat} {ms : Nat → Nat → Int} {d ow : Nat → Nat} {sh : Nat → Nat → Bool} {nx sz wt : Nat → Nat} {u w : hd_V} {q : List hq_M} {c : Nat} (hZ : hz n t mx u w s ms d ow sh nx sz wt q) (hc : c < 4) : f_Core_linesInUse c u = f_Mod_inUse (nI c) w := by
  have e := hZ.1 c hc
  have key : ∀ (k y : Nat) (y1 : Int32), y ≤ 4 → f_Core_linesInUse_L4 c k y1 (nI y) u = f_Mod_inUse_L4 (nI c) k y1 (nI y) w := by
    intro k
    induction k with
    | zero => intro y y1 _; rfl
    | succ k ih =>
      intro y y1 hy
      unfold f_Core_linesInUse_L4 f_Mod_inUse_L4
      by_cases z : y = 4
      · subst z
        rw [if_pos (by decide), if_pos (by decide)]
      · have k4 : ¬ (4 : Int32) ≤ nI y := nI_ge (a := y) (b := 4) (by omega) (by decide)
        have hy4 : y < 4 := by omega
        simp only [k4, if_false, ix1 hy4, ix4 hc hy4, e y hy4, nI_1, ih (y + 1) _ (show y + 1 ≤ 4 by omega)]
  exact key 5 0 0 (by decide)
theorem us_0 {u : hd_V} {c : Nat} (h : ∀ b, b < 4 → u 13 c b = 0) : f_Core_linesInUse c u = 0 := by
  have key : ∀ (k y : Nat) (y1 : Int32), y ≤ 4 → 4 < k + y → f_Core_linesInUse_L4 c k y1 (nI y) u = y1 := by
    intro k
    induction k with
    | zero => intro y y1 _ _; omega
    | succ k ih =>
      intro y y1 hy hk
      unfold f_Core_linesInUse_L4
      by_cases z : y = 4
      · subst z
        rw [if_pos (by decide)]
      · have k4 : ¬ (4 : Int32) ≤ nI y := nI_ge (a := y) (b := 4) (by omega) (by decide)
        have hy4 : y < 4 := by omega
        simp only [k4, if_false, ix1 hy4, h y hy4, if_true, nI_1]
        exact ih (y + 1) _ (by omega) (by omega)
  exact key 5 0 0 (by decide) (by decide)
/-! The line used least lately -/
theorem lu_eq {n t mx : Nat} {s : Nat → Nat → Nat} {ms : Nat → Nat → Int} {d ow : Nat → Nat} {sh : Nat → Nat → Bool} {nx sz wt : Nat → Nat} {u w : hd_V} {q : List hq_M} {c : Nat} (hZ : hz n t mx u w s ms d ow sh nx sz wt q) (hc : c < 4) (hu : ∃ b, b < 4 ∧ ¬ s b c = 0) (hs : ∀ b, b < 4 → s b c ≤ 2) : ∃ j, j < 4 ∧ ¬ s j c = 0 ∧ f_Core_leastLatelyUsed c u = nI j ∧ f_Mod_replace (nI c) w = f_Mod_replace_L4 (nI c) 1 (nI j) (nI 4) w := by
  have e13 : ∀ b, b < 4 → (u 13 c b = 0) = (s b c = 0) := fun b hb => by
    rw [show u 13 c b = nI (s b c) from hZ.2.2.2.1 c hc b hb]
    have := hs b hb
    exact propext (nIe (b := 0) (by omega) (by omega))
  have e28 : ∀ b, b < 4 → (w 28 0 (4 * c + b) = 0) = (s b c = 0) := fun b hb => by
    rw [show w 28 0 (4 * c + b) = u 13 c b from hZ.1 c hc b hb]
    exact e13 b hb
  have elu : ∀ i, i < 4 → ∀ b, b < 4 → (u 16 c i ≤ u 16 c b) = (w 31 0 (4 * c + i) ≤ w 31 0 (4 * c + b)) := by
    obtain ⟨N, ac, la, lm, q1, q2, q3, q4, q5, q6, q7⟩ := hZ.2.2.2.2.2.2.2.2.2.2.2.2.2.2.2.2.2.2.1
    intro i hi b hb
    have ki := (q7 c hc).2 i hi
    have kb := (q7 c hc).2 b hb
    have hac : ac c ≤ N := by
      rcases (show c = 0 ∨ c = 1 ∨ c = 2 ∨ c = 3 by omega) with z | z | z | z <;> subst z <;> omega
    have b1 := ki.2.2.1
    have b2 := ki.2.2.2.1
    have b3 := kb.2.2.1
    have b4 := kb.2.2.2.1
    rw [ki.1, kb.1, ki.2.1, kb.2.1]
    have := ki.2.2.2.2 b hb
    exact propext ((nI_leI (by omega) (by omega)).trans (this.trans (nI_leI (by omega) (by omega)).symm))
  have A : ∀ (f y i : Nat), y + f = 5 → y ≤ 4 → i < 4 → ¬ s i c = 0 → ∃ j, j < 4 ∧ ¬ s j c = 0 ∧ f_Core_leastLatelyUsed_L4 c (f + 1) (nI i) (nI y) u = nI j ∧ f_Mod_replace_L4 (nI c) f (nI i) (nI y) w = f_Mod_replace_L4 (nI c) 1 (nI j) (nI 4) w := by
    intro f
    induction f with
    | zero => intro y i h1 h2; omega
    | succ f ih =>
      intro y i h1 h2 hi hsi
      by_cases z : y = 4
      · subst z
        have : f = 0 := by omega
        subst this
        refine ⟨i, hi, hsi, ?_, rfl⟩
        unfold f_Core_leastLatelyUsed_L4
        rw [if_pos (by decide)]
      · have k4 : ¬ (4 : Int32) ≤ nI y := nI_ge (a := y) (b := 4) (by omega) (by decide)
        have hy4 : y < 4 := by omega
        unfold f_Core_leastLatelyUsed_L4
        rw [show f_Mod_replace_L4 (nI c) (f + 1) (nI i) (nI y) w = if s y c = 0 then f_Mod_replace_L4 (nI c) f (nI i) (nI (y + 1)) w else if w 31 0 (4 * c + i) ≤ w 31 0 (4 * c + y) then f_Mod_replace_L4 (nI c) f (nI i) (nI (y + 1)) w else f_Mod_replace_L4 (nI c) f (nI y) (nI (y + 1)) w by
          conv => lhs; unfold f_Mod_replace_L4
          simp only [k4, if_false, ix4 hc hy4, ix4 hc hi, e28 y hy4, nI_1, nI_pos (show i < 2 ^ 31 by omega)]]
        simp only [k4, if_false, ix1 hy4, ix1 hi, e13 y hy4, e13 i hi, hsi, elu i hi y hy4, nI_1]
        by_cases z1 : s y c = 0
        · simp only [z1, if_true]
          exact ih (y + 1) i (by omega) (by omega) hi hsi
        · by_cases z2 : w 31 0 (4 * c + i) ≤ w 31 0 (4 * c + y)
          · simp only [z1, z2, if_true, if_false]
            exact ih (y + 1) i (by omega) (by omega) hi hsi
          · simp only [z1, z2, if_false]
            exact ih (y + 1) y (by omega) (by omega) hy4 z1
  have B : ∀ (f y : Nat), y + f = 5 → 1 ≤ y → y ≤ 4 → (∀ b, b < y → s b c = 0) → ∃ j, j < 4 ∧ ¬ s j c = 0 ∧ f_Core_leastLatelyUsed_L4 c (f + 1) (nI 0) (nI y) u = nI j ∧ f_Mod_replace_L4 (nI c) f (-1) (nI y) w = f_Mod_replace_L4 (nI c) 1 (nI j) (nI 4) w := by
    intro f
    induction f with
    | zero => intro y h1 h2; omega
    | succ f ih =>
      intro y h1 h0 h2 hz0
      by_cases z : y = 4
      · obtain ⟨b, hb, hb2⟩ := hu
        exact absurd (hz0 b (by omega)) hb2
      · have k4 : ¬ (4 : Int32) ≤ nI y := nI_ge (a := y) (b := 4) (by omega) (by decide)
        have hy4 : y < 4 := by omega
        unfold f_Core_leastLatelyUsed_L4
        rw [show f_Mod_replace_L4 (nI c) (f + 1) (-1) (nI y) w = if s y c = 0 then f_Mod_replace_L4 (nI c) f (-1) (nI (y + 1)) w else f_Mod_replace_L4 (nI c) f (nI y) (nI (y + 1)) w by
          conv => lhs; unfold f_Mod_replace_L4
          simp only [k4, if_false, ix4 hc hy4, e28 y hy4, nI_1, show ((-1 : Int32) < 0) = True by decide, if_true]]
        simp only [k4, if_false, ix1 hy4, ix1 (show 0 < 4 by decide), e13 y hy4, e13 0 (by decide), hz0 0 (by omega), nI_1, if_true]
        by_cases z1 : s y c = 0
        · simp only [z1, if_true]
          exact ih (y + 1) (by omega) (by omega) (by omega) (fun b hb => by
            rcases Nat.lt_or_ge b y with k | k
            · exact hz0 b k
            · rw [show b = y by omega]; exact z1)
        · simp only [z1, if_false]
          exact A f (y + 1) y (by omega) (by omega) hy4 z1
  unfold f_Core_leastLatelyUsed f_Mod_replace
  have st : f_Mod_replace_L4 (nI c) 5 (-1) 0 w = if s 0 c = 0 then f_Mod_replace_L4 (nI c) 4 (-1) (nI 1) w else f_Mod_replace_L4 (nI c) 4 (nI 0) (nI 1) w := by
    show f_Mod_replace_L4 (nI c) 5 (-1) (nI 0) w = _
    conv => lhs; unfold f_Mod_replace_L4
    simp only [show ((4 : Int32) ≤ nI 0) = False by decide, if_false, ix4 hc (show 0 < 4 by decide), e28 0 (by decide), nI_1, show ((-1 : Int32) < 0) = True by decide, if_true]
  rw [st]
  by_cases z0 : s 0 c = 0
  · rw [if_pos z0]
    exact B 4 1 (by decide) (by decide) (by decide) (fun b hb => by rw [show b = 0 by omega]; exact z0)
  · rw [if_neg z0]
    exact A 4 1 0 (by decide) (by decide) (by decide) z0

/-- a core sends a message of block b -/
theorem hP_c {s : Nat → Nat → Nat} {ms ms' : Nat → Nat → Int} {d ow : Nat → Nat} {sh : Nat → Nat → Bool} {q : List hq_M} {b c x : Nat} {y : Int32} {m : pr_M} (hb : b < 4) (hP : hk_P s ms d ow sh q) (hms : ∀ b', ¬ b' = b → ms' b' = ms b') (hI : pr_I (pr_up (s b) c x) (ms' b) (d b) (ow b) (sh b) (hk_b b q ++ [m])) : hk_P (pu s b c x) ms' d ow sh (q ++ [(b, y, m)]) := by
  refine hk_P_of (b := b) hP (fun b' hb' => ⟨pu_n hb', hms b' hb', rfl, rfl, rfl, ?_⟩) (fun _ => ?_) ?_
  · have hb2 : ¬ b = b' := fun q => hb' q.symm
    rw [hk_b_app, hk_b_n hb2, hk_b_nil, List.append_nil]
  · rw [pu_s, hk_b_app, hk_b_s, hk_b_nil]
    exact hI
  · intro x hx
    rcases List.mem_append.mp hx with k | k
    · exact hP.2 x k
    · rw [List.mem_singleton.mp k]; exact hb
theorem hN_c {n : Nat} {s : Nat → Nat → Nat} {wt : Nat → Nat} {b c x y : Nat} (hN : hk_n n s wt) (hc : c < n) : hk_n n (pu s b c x) (pr_up wt c y) := by
  intro c' h1 h2
  have hne : ¬ c' = c := by omega
  refine ⟨by rw [pr_up_n _ _ _ hne]; exact (hN c' h1 h2).1, fun b' hb' => ?_⟩
  rw [pu_e, if_neg (fun z => hne z.2)]
  exact (hN c' h1 h2).2 b' hb'
/-- a core asks to read -/
theorem rq_3 {n t mx : Nat} {s : Nat → Nat → Nat} {ms : Nat → Nat → Int} {d ow : Nat → Nat} {sh : Nat → Nat → Bool} {nx sz wt : Nat → Nat} {u w : hd_V} {q : List hq_M} {c b : Nat} (h : hS n t mx hk_F u w s ms d ow sh nx sz wt q q) (hcn : c < n) (hc : c < 4) (hb : b < 4) (hw : wt c = 0) (h1 : nx c < sz c) (h2 : u 11 c (nx c) = 0) (h3 : u 12 c (nx c) = nI b) (hs : s b c = 0) : ∃ s' ms' d' ow' sh' nx' sz' wt' q', hS n t mx hk_F (f_Core_request c 0 (nI b) u) (f_Mod_ask (nI c) (nI b) 0 3 w).2 s' ms' d' ow' sh' nx' sz' wt' q' q' := by
  obtain ⟨hZ, hP, hN, hW, hC⟩ := h
  have hl := hk_20 hP hW (fun c hc => (hZ.2.2.2.2.2.2.2.2.2.2.1 c hc).2.2)
  have u0 : u 10 c 0 = nI c := (hZ.2.2.2.2.2.2.2.2.2.2.2.2.2.2.2.2.2.1.2.2.2.2 c hc).1
  have g := hz_send (m := (b, 0, 0, c, 4, 0, 5)) hZ hC (by omega) (by omega) (he_4 (kk := 0) (by decide))
  have c1 : f_Core_request c 0 (nI b) u = hd_u (hd_u (f_Net_send 0 (nI c) 4 (nI b) 0 0 (-1) u) 13 c b (nI 3)) 10 c 8 32 := by
    unfold f_Core_request
    simp only [hu_k, hu_s, up2_s, hcol_n, hcol_s, ns_k, ms_k, ms_20, upd_s, upd_n, upd_id, up2_id, not_false_eq_true, Nat.reduceEqDiff, Nat.reduceLeDiff, false_and, and_false, if_true, if_false, f_Net_sendPlain, f_Net_sendFor, f_Net_sendWord, f_Net_sendData, f_Mod_data, u0, ix1 hb]
    rfl
  have w1 : (f_Mod_ask (nI c) (nI b) 0 3 w).2 = hd_u (hd_u (hd_u (f_Mod_send 0 (nI c) 4 (nI b) 0 0 (-1) w) 28 0 (4 * c + b) (nI 3)) 30 0 (4 * c + b) 0) 27 0 c 1 := by
    unfold f_Mod_ask
    simp only [ix4 hc hb, ix1 hc]
    rfl
  rw [c1, w1]
  refine ⟨pu s b c 3, ms, d, ow, sh, nx, sz, pr_up wt c 1, q ++ [(b, 0, 0, c, 4, 0, 5)], hz_req3 g.1 hc hb, hP_c hb hP (fun _ _ => rfl) (pr_I_R1 (hP.1 b hb) hc hs), hN_c hN hcn, ?_, hq_C_of (by simp only [hu_k, not_false_eq_true, Nat.reduceEqDiff]) (by simp only [hu_k, not_false_eq_true, Nat.reduceEqDiff]) (by simp only [hu_k, not_false_eq_true, Nat.reduceEqDiff]) g.2⟩
  have k := hk_W_q (x := 3) hc hb hw h1 (by rw [h2]; decide) h3 (Or.inl ⟨h2, rfl⟩) hW
  simpa only [hu_k, hu_s, up2_s, hcol_n, hcol_s, ns_k, ms_k, ms_20, upd_s, upd_n, upd_id, up2_id, not_false_eq_true, Nat.reduceEqDiff, Nat.reduceLeDiff, false_and, and_false, if_true, if_false, f_Net_sendPlain, f_Net_sendFor, f_Net_sendWord, f_Net_sendData, f_Mod_data] using k
/-- a core asks to write -/
theorem rq_M {n t mx : Nat} {s : Nat → Nat → Nat} {ms : Nat → Nat → Int} {d ow : Nat → Nat} {sh : Nat → Nat → Bool} {nx sz wt : Nat → Nat} {u w : hd_V} {q : List hq_M} {c b : Nat} {op : Int32} (h : hS n t mx hk_F u w s ms d ow sh nx sz wt q q) (hcn : c < n) (hc : c < 4) (hb : b < 4) (hw : wt c = 0) (h1 : nx c < sz c) (h2 : u 11 c (nx c) = op) (ho : ¬ op = 0) (ha : ¬ f_Core_isAccess op = 0) (h3 : u 12 c (nx c) = nI b) (hs : s b c = 0) : ∃ s' ms' d' ow' sh' nx' sz' wt' q', hS n t mx hk_F (f_Core_request c op (nI b) u) (f_Mod_ask (nI c) (nI b) 1 4 w).2 s' ms' d' ow' sh' nx' sz' wt' q' q' := by
  obtain ⟨hZ, hP, hN, hW, hC⟩ := h
  have hl := hk_20 hP hW (fun c hc => (hZ.2.2.2.2.2.2.2.2.2.2.1 c hc).2.2)
  have u0 : u 10 c 0 = nI c := (hZ.2.2.2.2.2.2.2.2.2.2.2.2.2.2.2.2.2.1.2.2.2.2 c hc).1
  have e13 : u 13 c b = nI 0 := by rw [← hs]; exact hZ.2.2.2.1 c hc b hb
  have g := hz_send (m := (b, 0, 1, c, 4, 0, 5)) hZ hC (by omega) (by omega) (he_4 (kk := 1) (by decide))
  have c1 : f_Core_request c op (nI b) u = hd_u (hd_u (hd_u (f_Net_send 1 (nI c) 4 (nI b) 0 0 (-1) u) 13 c b (nI 4)) 15 c b 0) 10 c 8 32 := by
    unfold f_Core_request
    simp only [hu_k, hu_s, up2_s, hcol_n, hcol_s, ns_k, ms_k, ms_20, upd_s, upd_n, upd_id, up2_id, not_false_eq_true, Nat.reduceEqDiff, Nat.reduceLeDiff, false_and, and_false, if_true, if_false, f_Net_sendPlain, f_Net_sendFor, f_Net_sendWord, f_Net_sendData, f_Mod_data, u0, ix1 hb, ho, e13, show (nI 0 = (1 : Int32)) = False by decide]
    rfl
  have w1 : (f_Mod_ask (nI c) (nI b) 1 4 w).2 = hd_u (hd_u (hd_u (f_Mod_send 1 (nI c) 4 (nI b) 0 0 (-1) w) 28 0 (4 * c + b) (nI 4)) 30 0 (4 * c + b) 0) 27 0 c 1 := by
    unfold f_Mod_ask
    simp only [ix4 hc hb, ix1 hc]
    rfl
  rw [c1, w1]
  refine ⟨pu s b c 4, pu ms b c 0, d, ow, sh, nx, sz, pr_up wt c 1, q ++ [(b, 0, 1, c, 4, 0, 5)], hz_reqM g.1 hc hb, hP_c hb hP (fun _ hb' => pu_n hb') (by rw [pu_s]; exact pr_I_R2 (hP.1 b hb) hc hs), hN_c hN hcn, ?_, hq_C_of (by simp only [hu_k, not_false_eq_true, Nat.reduceEqDiff]) (by simp only [hu_k, not_false_eq_true, Nat.reduceEqDiff]) (by simp only [hu_k, not_false_eq_true, Nat.reduceEqDiff]) g.2⟩
  have k := hk_W_q (x := 4) hc hb hw h1 (by rw [h2]; exact ha) h3 (Or.inr ⟨by rw [h2]; exact ho, by decide, by decide⟩) hW
  simpa only [hu_k, hu_s, up2_s, hcol_n, hcol_s, ns_k, ms_k, ms_20, upd_s, upd_n, upd_id, up2_id, not_false_eq_true, Nat.reduceEqDiff, Nat.reduceLeDiff, false_and, and_false, if_true, if_false, f_Net_sendPlain, f_Net_sendFor, f_Net_sendWord, f_Net_sendData, f_Mod_data] using k
/-- a core that shares asks to write -/
theorem rq_S {n t mx : Nat} {s : Nat → Nat → Nat} {ms : Nat → Nat → Int} {d ow : Nat → Nat} {sh : Nat → Nat → Bool} {nx sz wt : Nat → Nat} {u w : hd_V} {q : List hq_M} {c b : Nat} {op : Int32} (h : hS n t mx hk_F u w s ms d ow sh nx sz wt q q) (hcn : c < n) (hc : c < 4) (hb : b < 4) (hw : wt c = 0) (h1 : nx c < sz c) (h2 : u 11 c (nx c) = op) (ho : ¬ op = 0) (ha : ¬ f_Core_isAccess op = 0) (h3 : u 12 c (nx c) = nI b) (hs : s b c = 1) : ∃ s' ms' d' ow' sh' nx' sz' wt' q', hS n t mx hk_F (f_Core_request c op (nI b) u) (f_Mod_ask (nI c) (nI b) 1 6 w).2 s' ms' d' ow' sh' nx' sz' wt' q' q' := by
  obtain ⟨hZ, hP, hN, hW, hC⟩ := h
  have hl := hk_20 hP hW (fun c hc => (hZ.2.2.2.2.2.2.2.2.2.2.1 c hc).2.2)
  have u0 : u 10 c 0 = nI c := (hZ.2.2.2.2.2.2.2.2.2.2.2.2.2.2.2.2.2.1.2.2.2.2 c hc).1
  have e13 : u 13 c b = nI 1 := by rw [← hs]; exact hZ.2.2.2.1 c hc b hb
  have g := hz_send (m := (b, 0, 1, c, 4, 0, 5)) hZ hC (by omega) (by omega) (he_4 (kk := 1) (by decide))
  have c1 : f_Core_request c op (nI b) u = hd_u (hd_u (hd_u (f_Net_send 1 (nI c) 4 (nI b) 0 0 (-1) u) 13 c b (nI 6)) 15 c b 0) 10 c 8 32 := by
    unfold f_Core_request
    simp only [hu_k, hu_s, up2_s, hcol_n, hcol_s, ns_k, ms_k, ms_20, upd_s, upd_n, upd_id, up2_id, not_false_eq_true, Nat.reduceEqDiff, Nat.reduceLeDiff, false_and, and_false, if_true, if_false, f_Net_sendPlain, f_Net_sendFor, f_Net_sendWord, f_Net_sendData, f_Mod_data, u0, ix1 hb, ho, e13, show (nI 1 = (1 : Int32)) = True by decide]
    rfl
  have w1 : (f_Mod_ask (nI c) (nI b) 1 6 w).2 = hd_u (hd_u (hd_u (f_Mod_send 1 (nI c) 4 (nI b) 0 0 (-1) w) 28 0 (4 * c + b) (nI 6)) 30 0 (4 * c + b) 0) 27 0 c 1 := by
    unfold f_Mod_ask
    simp only [ix4 hc hb, ix1 hc]
    rfl
  rw [c1, w1]
  refine ⟨pu s b c 6, pu ms b c 0, d, ow, sh, nx, sz, pr_up wt c 1, q ++ [(b, 0, 1, c, 4, 0, 5)], hz_reqM g.1 hc hb, hP_c hb hP (fun _ hb' => pu_n hb') (by rw [pu_s]; exact pr_I_R3 (hP.1 b hb) hc hs), hN_c hN hcn, ?_, hq_C_of (by simp only [hu_k, not_false_eq_true, Nat.reduceEqDiff]) (by simp only [hu_k, not_false_eq_true, Nat.reduceEqDiff]) (by simp only [hu_k, not_false_eq_true, Nat.reduceEqDiff]) g.2⟩
  have k := hk_W_q (x := 6) hc hb hw h1 (by rw [h2]; exact ha) h3 (Or.inr ⟨by rw [h2]; exact ho, by decide, by decide⟩) hW
  simpa only [hu_k, hu_s, up2_s, hcol_n, hcol_s, ns_k, ms_k, ms_20, upd_s, upd_n, upd_id, up2_id, not_false_eq_true, Nat.reduceEqDiff, Nat.reduceLeDiff, false_and, and_false, if_true, if_false, f_Net_sendPlain, f_Net_sendFor, f_Net_sendWord, f_Net_sendData, f_Mod_data] using k
/-- a core replaces a line -/
theorem rp {n t mx : Nat} {s : Nat → Nat → Nat} {ms : Nat → Nat → Int} {d ow : Nat → Nat} {sh : Nat → Nat → Bool} {nx sz wt : Nat → Nat} {u w : hd_V} {q : List hq_M} {c b : Nat} (h : hS n t mx hk_F u w s ms d ow sh nx sz wt q q) (hcn : c < n) (hc : c < 4) (hb : b < 4) (hw : wt c = 0) (hs : s b c = 1 ∨ s b c = 2) : (f_Mod_replace_L4 (nI c) 1 (nI b) (nI 4) w).1 = 3 ∧ ∃ s' ms' d' ow' sh' nx' sz' wt' q', hS n t mx hk_F (f_Core_replace c (nI b) u) (f_Mod_replace_L4 (nI c) 1 (nI b) (nI 4) w).2 s' ms' d' ow' sh' nx' sz' wt' q' q' := by
  obtain ⟨hZ, hP, hN, hW, hC⟩ := h
  have hl := hk_20 hP hW (fun c hc => (hZ.2.2.2.2.2.2.2.2.2.2.1 c hc).2.2)
  have u0 : u 10 c 0 = nI c := (hZ.2.2.2.2.2.2.2.2.2.2.2.2.2.2.2.2.2.1.2.2.2.2 c hc).1
  have e13 : u 13 c b = nI (s b c) := hZ.2.2.2.1 c hc b hb
  have e28 : w 28 0 (4 * c + b) = nI (s b c) := (hZ.1 c hc b hb).trans e13
  have e29 : w 29 0 (4 * c + b) = u 14 c b := hZ.2.1 c hc b hb
  have k4 : (4 : Int32) ≤ nI 4 := by decide
  rcases hs with hs | hs
  · rw [hs] at e13 e28
    have g := hz_send (m := (b, 0, 2, c, 4, 0, 5)) hZ hC (by omega) (by omega) (he_4 (kk := 2) (by decide))
    have c1 : f_Core_replace c (nI b) u = hd_u (hd_u (f_Net_send 2 (nI c) 4 (nI b) 0 0 (-1) u) 13 c b (nI 9)) 10 c 8 64 := by
      unfold f_Core_replace
      simp only [hu_k, hu_s, up2_s, hcol_n, hcol_s, ns_k, ms_k, ms_20, upd_s, upd_n, upd_id, up2_id, not_false_eq_true, Nat.reduceEqDiff, Nat.reduceLeDiff, false_and, and_false, if_true, if_false, f_Net_sendPlain, f_Net_sendFor, f_Net_sendWord, f_Net_sendData, f_Mod_data, u0, ix1 hb, e13, show (nI 1 = (2 : Int32)) = False by decide]
      rfl
    have w1 : f_Mod_replace_L4 (nI c) 1 (nI b) (nI 4) w = (3, hd_u (hd_u (f_Mod_send 2 (nI c) 4 (nI b) 0 0 (-1) w) 28 0 (4 * c + b) (nI 9)) 27 0 c 2) := by
      unfold f_Mod_replace_L4
      simp only [hu_k, hu_s, up2_s, hcol_n, hcol_s, ns_k, ms_k, ms_20, upd_s, upd_n, upd_id, up2_id, not_false_eq_true, Nat.reduceEqDiff, Nat.reduceLeDiff, false_and, and_false, if_true, if_false, f_Net_sendPlain, f_Net_sendFor, f_Net_sendWord, f_Net_sendData, f_Mod_data, k4, ix4 hc hb, ix1 hc, e28, show (nI 1 = (1 : Int32)) = True by decide]
      rfl
    rw [c1, w1]
    refine ⟨rfl, pu s b c 9, ms, d, ow, sh, nx, sz, pr_up wt c 2, q ++ [(b, 0, 2, c, 4, 0, 5)], hz_rep g.1 hc hb (by decide), hP_c hb hP (fun _ _ => rfl) (pr_I_R4 (hP.1 b hb) hc hs), hN_c hN hcn, ?_, hq_C_of (by simp only [hu_k, not_false_eq_true, Nat.reduceEqDiff]) (by simp only [hu_k, not_false_eq_true, Nat.reduceEqDiff]) (by simp only [hu_k, not_false_eq_true, Nat.reduceEqDiff]) g.2⟩
    have k := hk_W_p (x := 9) hc hb hw (by decide) hW
    simpa only [hu_k, hu_s, up2_s, hcol_n, hcol_s, ns_k, ms_k, ms_20, upd_s, upd_n, upd_id, up2_id, not_false_eq_true, Nat.reduceEqDiff, Nat.reduceLeDiff, false_and, and_false, if_true, if_false, f_Net_sendPlain, f_Net_sendFor, f_Net_sendWord, f_Net_sendData, f_Mod_data] using k
  · rw [hs] at e13 e28
    have g := hz_send (m := (b, u 14 c b, 3, c, 4, 0, 5)) hZ hC (by omega) (by omega) (he_4 (kk := 3) (by decide))
    have c1 : f_Core_replace c (nI b) u = hd_u (hd_u (f_Net_send 3 (nI c) 4 (nI b) (u 14 c b) 0 (-1) u) 13 c b (nI 8)) 10 c 8 64 := by
      unfold f_Core_replace
      simp only [hu_k, hu_s, up2_s, hcol_n, hcol_s, ns_k, ms_k, ms_20, upd_s, upd_n, upd_id, up2_id, not_false_eq_true, Nat.reduceEqDiff, Nat.reduceLeDiff, false_and, and_false, if_true, if_false, f_Net_sendPlain, f_Net_sendFor, f_Net_sendWord, f_Net_sendData, f_Mod_data, u0, ix1 hb, e13, show (nI 2 = (2 : Int32)) = True by decide]
      rfl
    have w1 : f_Mod_replace_L4 (nI c) 1 (nI b) (nI 4) w = (3, hd_u (hd_u (f_Mod_send 3 (nI c) 4 (nI b) (u 14 c b) 0 (-1) w) 28 0 (4 * c + b) (nI 8)) 27 0 c 2) := by
      unfold f_Mod_replace_L4
      simp only [hu_k, hu_s, up2_s, hcol_n, hcol_s, ns_k, ms_k, ms_20, upd_s, upd_n, upd_id, up2_id, not_false_eq_true, Nat.reduceEqDiff, Nat.reduceLeDiff, false_and, and_false, if_true, if_false, f_Net_sendPlain, f_Net_sendFor, f_Net_sendWord, f_Net_sendData, f_Mod_data, k4, ix4 hc hb, ix1 hc, e28, e29, show (nI 2 = (1 : Int32)) = False by decide]
      rfl
    rw [c1, w1]
    refine ⟨rfl, pu s b c 8, ms, d, ow, sh, nx, sz, pr_up wt c 2, q ++ [(b, u 14 c b, 3, c, 4, 0, 5)], hz_rep g.1 hc hb (by decide), hP_c hb hP (fun _ _ => rfl) (pr_I_R5 (hP.1 b hb) hc hs), hN_c hN hcn, ?_, hq_C_of (by simp only [hu_k, not_false_eq_true, Nat.reduceEqDiff]) (by simp only [hu_k, not_false_eq_true, Nat.reduceEqDiff]) (by simp only [hu_k, not_false_eq_true, Nat.reduceEqDiff]) g.2⟩
    have k := hk_W_p (x := 8) hc hb hw (by decide) hW
    simpa only [hu_k, hu_s, up2_s, hcol_n, hcol_s, ns_k, ms_k, ms_20, upd_s, upd_n, upd_id, up2_id, not_false_eq_true, Nat.reduceEqDiff, Nat.reduceLeDiff, false_and, and_false, if_true, if_false, f_Net_sendPlain, f_Net_sendFor, f_Net_sendWord, f_Net_sendData, f_Mod_data] using k
theorem hS_t' {n t mx : Nat} {s : Nat → Nat → Nat} {ms : Nat → Nat → Int} {d ow : Nat → Nat} {sh : Nat → Nat → Bool} {nx sz wt : Nat → Nat} {u w : hd_V} (h : ∃ s' ms' d' ow' sh' nx' sz' wt' q', hS n t mx hk_F u w s' ms' d' ow' sh' nx' sz' wt' q' q') : ∃ s' ms' d' ow' sh' nx' sz' wt' q', hS n (t + 1) mx hk_F u w s' ms' d' ow' sh' nx' sz' wt' q' q' := by
  obtain ⟨s', ms', d', ow', sh', nx', sz', wt', q', k⟩ := h
  exact ⟨s', ms', d', ow', sh', nx', sz', wt', q', hS_t k⟩
/-- an instruction that is no access -/
theorem pl_eq {n t mx : Nat} {s : Nat → Nat → Nat} {ms : Nat → Nat → Int} {d ow : Nat → Nat} {sh : Nat → Nat → Bool} {nx sz wt : Nat → Nat} {u w : hd_V} {q : List hq_M} {c : Nat} {op x : Int32} (h : hS n t mx hk_F u w s ms d ow sh nx sz wt q q) (hc : c < 4) (hw : wt c = 0) (hlt : nx c < 16) (hx : op = 3 → vp_in x 16) : (f_Mod_plain (nI c) op x w).1 = 1 ∧ ∃ s' ms' d' ow' sh' nx' sz' wt' q', hS n t mx hk_F (f_Core_compute c op x u) (f_Mod_plain (nI c) op x w).2 s' ms' d' ow' sh' nx' sz' wt' q' q' := by
  have e22 : w 22 0 c = u 10 c 6 := h.1.2.2.2.2.2.2.1 c hc
  have e7 : u 10 c 7 = nI (nx c) := (h.1.2.2.2.2.2.2.2.2.2.1 c hc).1
  have e26 : w 26 0 c = nI (nx c) := (h.1.2.2.2.2.2.2.2.1 c hc).trans e7
  have i1 := ix1 hc
  have mv := fun (y : Int32) => hS_move (y := y) (j := nx c + 1) h hc (by omega) hw
  have mv0 := mv (u 10 c 6)
  rw [hu_id] at mv0
  by_cases o3 : op = 3
  · have o2 : ¬ op = 2 := by rw [o3]; decide
    have o4 : ¬ op = 4 := by rw [o3]; decide
    by_cases a0 : u 10 c 6 = 0
    · unfold f_Mod_plain f_Core_compute
      simp only [hu_k, hu_s, up2_s, hcol_n, hcol_s, ns_k, ms_k, ms_20, upd_s, upd_n, upd_id, up2_id, not_false_eq_true, Nat.reduceEqDiff, Nat.reduceLeDiff, false_and, and_false, if_true, if_false, f_Net_sendPlain, f_Net_sendFor, f_Net_sendWord, f_Net_sendData, f_Mod_data, o2, o4, if_false, i1, e22]
      simp only [o3, a0, if_true, if_false, hu_k, hu_s, up2_s, hcol_n, hcol_s, ns_k, ms_k, ms_20, upd_s, upd_n, upd_id, up2_id, not_false_eq_true, Nat.reduceEqDiff, Nat.reduceLeDiff, false_and, and_false, if_true, if_false, f_Net_sendPlain, f_Net_sendFor, f_Net_sendWord, f_Net_sendData, f_Mod_data, e26, e7, nI_1, show ((3 : Int32) = 2) = False by decide, show ((3 : Int32) = 4) = False by decide]
      rw [a0] at mv0
      exact ⟨trivial, _, _, _, _, _, _, _, _, _, mv0⟩
    · obtain ⟨j, hj, rfl⟩ := vp_in_of (hx o3) (by decide)
      have mj := hS_move (y := u 10 c 6) (j := j) h hc (by omega) hw
      rw [hu_id] at mj
      unfold f_Mod_plain f_Core_compute
      simp only [hu_k, hu_s, up2_s, hcol_n, hcol_s, ns_k, ms_k, ms_20, upd_s, upd_n, upd_id, up2_id, not_false_eq_true, Nat.reduceEqDiff, Nat.reduceLeDiff, false_and, and_false, if_true, if_false, f_Net_sendPlain, f_Net_sendFor, f_Net_sendWord, f_Net_sendData, f_Mod_data, o2, o4, o3, a0, if_true, if_false, i1, e22, show ((3 : Int32) = 2) = False by decide, show ((3 : Int32) = 4) = False by decide]
      exact ⟨trivial, _, _, _, _, _, _, _, _, _, mj⟩
  · unfold f_Mod_plain f_Core_compute
    by_cases o2 : op = 2
    · simp only [o3, o2, if_true, if_false, i1, hu_k, hu_s, up2_s, hcol_n, hcol_s, ns_k, ms_k, ms_20, upd_s, upd_n, upd_id, up2_id, not_false_eq_true, Nat.reduceEqDiff, Nat.reduceLeDiff, false_and, and_false, if_true, if_false, f_Net_sendPlain, f_Net_sendFor, f_Net_sendWord, f_Net_sendData, f_Mod_data, e22, e26, e7, nI_1, show ((2 : Int32) = 3) = False by decide]
      exact ⟨trivial, _, _, _, _, _, _, _, _, _, mv (u 10 c 6 + x)⟩
    · by_cases o4 : op = 4
      · simp only [o3, o2, o4, if_true, if_false, i1, hu_k, hu_s, up2_s, hcol_n, hcol_s, ns_k, ms_k, ms_20, upd_s, upd_n, upd_id, up2_id, not_false_eq_true, Nat.reduceEqDiff, Nat.reduceLeDiff, false_and, and_false, if_true, if_false, f_Net_sendPlain, f_Net_sendFor, f_Net_sendWord, f_Net_sendData, f_Mod_data, e22, e26, e7, nI_1, show ((4 : Int32) = 3) = False by decide, show ((4 : Int32) = 2) = False by decide]
        exact ⟨trivial, _, _, _, _, _, _, _, _, _, mv x⟩
      · simp only [o3, o2, o4, if_false, i1, hu_k, hu_s, up2_s, hcol_n, hcol_s, ns_k, ms_k, ms_20, upd_s, upd_n, upd_id, up2_id, not_false_eq_true, Nat.reduceEqDiff, Nat.reduceLeDiff, false_and, and_false, if_true, if_false, f_Net_sendPlain, f_Net_sendFor, f_Net_sendWord, f_Net_sendData, f_Mod_data, e22, e26, e7, nI_1]
        exact ⟨trivial, _, _, _, _, _, _, _, _, _, mv0⟩
/-- an access done at once -/
theorem pf {n t mx : Nat} {s : Nat → Nat → Nat} {ms : Nat → Nat → Int} {d ow : Nat → Nat} {sh : Nat → Nat → Bool} {nx sz wt : Nat → Nat} {u w : hd_V} {q : List hq_M} {c b : Nat} (h : hS n t mx hk_F u w s ms d ow sh nx sz wt q q) (ht : t < 512) (hcn : c < n) (hc : c < 4) (hb : b < 4) (hx : u 12 c (nx c) = nI b) (hlt : nx c < 16) (hw : wt c = 0) : ∃ s' ms' d' ow' sh' nx' sz' wt' q', hS n (t + 1) mx hk_F (f_Core_perform c (u 11 c (nx c)) (nI b) u) (f_Mod_perform (nI c) w) s' ms' d' ow' sh' nx' sz' wt' q' q' := by
  refine ⟨s, ms, d, ow, sh, pr_up nx c (nx c + 1), sz, wt, q, hz_perform h.1 ht hcn hc hb hx hlt, h.2.1, h.2.2.1, ?_, hq_C_of (cp_k (by decide) (by decide) (by decide)) (cp_k (by decide) (by decide) (by decide)) (cp_k (by decide) (by decide) (by decide)) h.2.2.2.2⟩
  rw [cp_k (by decide) (by decide) (by decide), cp_k (by decide) (by decide) (by decide)]
  exact hk_W_x hw h.2.2.2.1

/-- step: both answer the same and stay tied -/
theorem st_step {n t mx : Nat} {s : Nat → Nat → Nat} {ms : Nat → Nat → Int} {d ow : Nat → Nat} {sh : Nat → Nat → Bool} {nx sz wt : Nat → Nat} {u w : hd_V} {q : List hq_M} (h : hS n t mx hk_F u w s ms d ow sh nx sz wt q q) (ht : t < 512) (hn4 : n ≤ 4) (c_ : Int32) : (f_HD_step n c_ u).1 = (f_Mod_step c_ w).1 ∧ ∃ s' ms' d' ow' sh' nx' sz' wt' q', hS n (t + 1) mx hk_F (f_HD_step n c_ u).2 (f_Mod_step c_ w).2 s' ms' d' ow' sh' nx' sz' wt' q' q' := by
  have same : ∃ s' ms' d' ow' sh' nx' sz' wt' q', hS n (t + 1) mx hk_F u w s' ms' d' ow' sh' nx' sz' wt' q' q' := ⟨s, ms, d, ow, sh, nx, sz, wt, q, hS_t h⟩
  have co := co_eq h.1 hn4 c_
  by_cases hco : f_HD_isCore n c_ = 0
  · have hco2 : f_Mod_isCore c_ w = 0 := co.1.trans hco
    unfold f_HD_step f_Mod_step
    simp only [hco, hco2, if_true]
    exact ⟨trivial, same⟩
  · obtain ⟨c, hcn, rfl⟩ := co.2 hco
    have hco2 : ¬ f_Mod_isCore (nI c) w = 0 := fun z => hco (co.1.symm.trans z)
    have hc : c < 4 := by omega
    have i1 := ix1 hc
    have k0 := wt_0 h.1.2.2.2.2.2.2.2.2.2.2.1 hc
    have k1 : (u 10 c 8 = 0) = (wt c = 0) := k0.1
    have k2 : (w 27 0 c = 0) = (wt c = 0) := k0.2
    have e5 : u 10 c 5 = nI (sz c) := (h.1.2.2.2.2.2.2.2.2.1 c hc).1
    have s16 : sz c ≤ 16 := (h.1.2.2.2.2.2.2.2.2.1 c hc).2
    have e25 : w 25 0 c = nI (sz c) := (h.1.2.2.2.2.2.1 c hc).trans e5
    have e7 : u 10 c 7 = nI (nx c) := (h.1.2.2.2.2.2.2.2.2.2.1 c hc).1
    have x16 : nx c ≤ 16 := (h.1.2.2.2.2.2.2.2.2.2.1 c hc).2
    have e26 : w 26 0 c = nI (nx c) := (h.1.2.2.2.2.2.2.2.1 c hc).trans e7
    have klt : (nI (nx c) < nI (sz c)) = (nx c < sz c) := propext (nI_ltI (by omega) (by omega))
    have ixn : (nI (nx c)).toNatClampNeg = nx c := nI_clamp (by omega)
    unfold f_HD_step f_Mod_step f_Core_advance
    simp only [hco, hco2, if_false, i1, k1, k2, e5, e7, e25, e26, klt, ixn, ix16 hc x16]
    by_cases hw : wt c = 0
    · by_cases hlt : nx c < sz c
      · have hx16 : nx c < 16 := by omega
        have tp := h.1.2.2.2.2.1
        have e23 : w 23 0 (16 * c + nx c) = u 11 c (nx c) := (tp.1 c hc (nx c) hx16).1
        have e24 : w 24 0 (16 * c + nx c) = u 12 c (nx c) := (tp.1 c hc (nx c) hx16).2
        have tq := tp.2.1 c hc (nx c)
        have ea : f_Mod_access (u 11 c (nx c)) = f_Core_isAccess (u 11 c (nx c)) := rfl
        simp only [hw, hlt, if_true, e23, e24, ea]
        by_cases hac : f_Core_isAccess (u 11 c (nx c)) = 0
        · simp only [hac, if_true]
          have k := pl_eq (op := u 11 c (nx c)) (x := u 12 c (nx c)) h hc hw hx16 tq.2
          exact ⟨k.1.symm, hS_t' (n := n) (s := s) (ms := ms) (d := d) (ow := ow) (sh := sh) (nx := nx) (sz := sz) (wt := wt) k.2⟩
        · obtain ⟨b, hb, hxb⟩ := vp_in_of (tq.1 hac) (by decide)
          have hsle : ∀ b, b < 4 → s b c ≤ 2 := (h.2.2.2.1 c hc).1 hw
          have e13 : u 13 c b = nI (s b c) := h.1.2.2.2.1 c hc b hb
          have e28 : w 28 0 (4 * c + b) = nI (s b c) := (h.1.1 c hc b hb).trans e13
          have sb := hsle b hb
          have i2 := ix1 hb
          have i4 := ix4 hc hb
          unfold f_Core_access f_Core_allows
          simp only [hac, if_false, hxb, i2, i4, e13, e28]
          rcases (show s b c = 2 ∨ s b c = 1 ∨ s b c = 0 by omega) with z | z | z
          · simp only [z, show (nI 2 = (2 : Int32)) = True by decide, if_true, Z10, if_false]
            exact ⟨trivial, pf h ht hcn hc hb hxb hx16 hw⟩
          · by_cases o0 : u 11 c (nx c) = 0
            · have k := pf h ht hcn hc hb hxb hx16 hw
              rw [o0] at k
              simp only [z, o0, show (nI 1 = (2 : Int32)) = False by decide, show (nI 1 = (1 : Int32)) = True by decide, if_true, Z10, if_false]
              exact ⟨trivial, k⟩
            · have k := rq_S h hcn hc hb hw hlt rfl o0 hac hxb z
              simp only [z, o0, show (nI 1 = (2 : Int32)) = False by decide, show (nI 1 = (1 : Int32)) = True by decide, show (nI 1 = (0 : Int32)) = False by decide, if_true, Z00, if_false]
              exact ⟨rfl, hS_t' (n := n) (s := s) (ms := ms) (d := d) (ow := ow) (sh := sh) (nx := nx) (sz := sz) (wt := wt) k⟩
          · simp only [z, show (nI 0 = (2 : Int32)) = False by decide, show (nI 0 = (1 : Int32)) = False by decide, show (nI 0 = (0 : Int32)) = True by decide, if_true, Z00, if_false]
            have emx := h.1.2.2.2.2.2.2.2.2.2.2.2.2.2.2.2.2.2.1
            have u1 : u 10 c 1 = nI mx := (emx.2.2.2.2 c hc).2
            have w1 : w 20 0 1 = nI mx := emx.2.1
            rw [u1, w1, ← us_eq h.1 hc]
            by_cases hus : f_Core_linesInUse c u < nI mx
            · simp only [hus, if_true]
              by_cases o0 : u 11 c (nx c) = 0
              · have k := rq_3 h hcn hc hb hw hlt o0 hxb z
                simp only [o0, if_true]
                exact ⟨rfl, hS_t' (n := n) (s := s) (ms := ms) (d := d) (ow := ow) (sh := sh) (nx := nx) (sz := sz) (wt := wt) k⟩
              · have k := rq_M h hcn hc hb hw hlt rfl o0 hac hxb z
                simp only [o0, if_false]
                exact ⟨rfl, hS_t' (n := n) (s := s) (ms := ms) (d := d) (ow := ow) (sh := sh) (nx := nx) (sz := sz) (wt := wt) k⟩
            · simp only [hus, if_false]
              have hex : ∃ b, b < 4 ∧ ¬ s b c = 0 := by
                apply Classical.byContradiction
                intro hno
                have h0 : ∀ b, b < 4 → u 13 c b = 0 := fun b hb => by
                  rw [show u 13 c b = nI (s b c) from h.1.2.2.2.1 c hc b hb]
                  have : s b c = 0 := Classical.byContradiction (fun q => hno ⟨b, hb, q⟩)
                  rw [this]; decide
                rw [us_0 h0] at hus
                exact hus (nI_lt (a := 0) emx.2.2.1 (by have := emx.2.2.2.1; omega))
              obtain ⟨j, hj, hj0, ej1, ej2⟩ := lu_eq h.1 hc hex hsle
              have hj2 := hsle j hj
              have k := rp h hcn hc hj hw (by omega)
              rw [ej1, ej2]
              exact ⟨k.1.symm, hS_t' (n := n) (s := s) (ms := ms) (d := d) (ow := ow) (sh := sh) (nx := nx) (sz := sz) (wt := wt) k.2⟩
      · simp only [hw, hlt, if_true, if_false]
        exact ⟨trivial, same⟩
    · simp only [hw, if_false]
      exact ⟨trivial, same⟩
