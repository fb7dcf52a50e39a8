theorem Z01 : ((0 : Int32) = 1) ↔ False := by decide
theorem Z10 : ((1 : Int32) = 0) ↔ False := by decide
theorem Z00 : ((0 : Int32) = 0) ↔ True := by decide
theorem Z11 : ((1 : Int32) = 1) ↔ True := by decide
/-- an access is done, by both -/
theorem hz_perform {n t mx : Nat} {u w : hd_V} {s : Nat → Nat → Nat} {ms : Nat → Nat → Int} {d ow : Nat → Nat} {sh : Nat → Nat → Bool} {nx sz wt : Nat → Nat} {q : List hq_M} {c b : Nat} (hZ : hz n t mx u w s ms d ow sh nx sz wt q) (ht : t < 512) (hcn : c < n) (hc : c < 4) (hb : b < 4) (hx : u 12 c (nx c) = nI b) (hlt : nx c < 16) : hz n (t + 1) mx (f_Core_perform c (u 11 c (nx c)) (nI b) u) (f_Mod_perform (nI c) w) s ms d ow sh (pr_up nx c (nx c + 1)) sz wt q := by
  obtain ⟨h1, h2, h3, h4, h5, h6, h7, h8, h9, h10, h11, h12, h13, h14, h15, h16, h17, h18, h19, h20, h21⟩ := hZ
  have e26 : w 26 0 c = nI (nx c) := (h8 c hc).trans (h10 c hc).1
  have ei : (16 * nI c + nI (nx c)).toNatClampNeg = 16 * c + nx c := ix16 hc (by omega)
  have e23 := (h5.1 c hc (nx c) hlt).1
  have e24 : w 24 0 (16 * c + nx c) = nI b := (h5.1 c hc (nx c) hlt).2.trans hx
  have e7 : u 10 c 7 = nI (nx c) := (h10 c hc).1
  have e29 : w 29 0 (4 * c + b) = u 14 c b := h2 c hc b hb
  have e22 : w 22 0 c = u 10 c 6 := h7 c hc
  have i1 := ix1 hc
  have i2 := ix1 hb
  have i4 := ix4 hc hb
  unfold f_Core_perform f_Mod_perform
  simp only [i1, i2, e26, ei, e24, i4]
  generalize hop : u 11 c (nx c) = op at *
  by_cases o0 : op = 0
  · subst o0
    simp only [hu_k, hu_s, up2_s, hcol_n, hcol_s, ns_k, ms_k, ms_20, upd_s, upd_n, upd_id, up2_id, not_false_eq_true, Nat.reduceEqDiff, Nat.reduceLeDiff, false_and, and_false, if_true, if_false, f_Net_sendPlain, f_Net_sendFor, f_Net_sendWord, f_Net_sendData, f_Mod_data, e23, Z01, Z00, i1, i2, i4, e26, e7, nI_1]
    refine ⟨?_, ?_, ?_, ?_, ?_, ?_, ?_, ?_, ?_, ?_, ?_, ?_, ?_, ?_, ?_, ?_, ?_, ?_, ?_, ?_, ?_⟩
    case refine_21 => exact hq_R_of (by simp only [hu_k, hu_s, up2_s, hcol_n, hcol_s, ns_k, ms_k, ms_20, upd_s, upd_n, upd_id, up2_id, not_false_eq_true, Nat.reduceEqDiff, Nat.reduceLeDiff, false_and, and_false, if_true, if_false, f_Net_sendPlain, f_Net_sendFor, f_Net_sendWord, f_Net_sendData, f_Mod_data]) (fun k k1 k2 => by simp only [hu_k (show ¬ k = 29 by omega), hu_k (show ¬ k = 22 by omega), hu_k (show ¬ k = 20 by omega), hu_k (show ¬ k = 31 by omega), hu_k (show ¬ k = 26 by omega)]) h21
    all_goals simp only [hu_k, hu_s, up2_s, hcol_n, hcol_s, ns_k, ms_k, ms_20, upd_s, upd_n, upd_id, up2_id, not_false_eq_true, Nat.reduceEqDiff, Nat.reduceLeDiff, false_and, and_false, if_true, if_false, f_Net_sendPlain, f_Net_sendFor, f_Net_sendWord, f_Net_sendData, f_Mod_data]
    all_goals first | assumption | exact t_t_u ht hcn hc hb h19 | exact t_1_u h8 | exact t_n_u rfl (by omega) h10 | (rw [← e29]; exact t_2_u hb h2) | (rw [e29]; exact t_1_u h7) | (rw [e22]; exact t_2_u hb h2)
  · by_cases o1 : op = 1
    · subst o1
      simp only [hu_k, hu_s, up2_s, hcol_n, hcol_s, ns_k, ms_k, ms_20, upd_s, upd_n, upd_id, up2_id, not_false_eq_true, Nat.reduceEqDiff, Nat.reduceLeDiff, false_and, and_false, if_true, if_false, f_Net_sendPlain, f_Net_sendFor, f_Net_sendWord, f_Net_sendData, f_Mod_data, e23, Z10, Z11, i1, i2, i4, e26, e7, nI_1]
      refine ⟨?_, ?_, ?_, ?_, ?_, ?_, ?_, ?_, ?_, ?_, ?_, ?_, ?_, ?_, ?_, ?_, ?_, ?_, ?_, ?_, ?_⟩
      case refine_21 => exact hq_R_of (by simp only [hu_k, hu_s, up2_s, hcol_n, hcol_s, ns_k, ms_k, ms_20, upd_s, upd_n, upd_id, up2_id, not_false_eq_true, Nat.reduceEqDiff, Nat.reduceLeDiff, false_and, and_false, if_true, if_false, f_Net_sendPlain, f_Net_sendFor, f_Net_sendWord, f_Net_sendData, f_Mod_data]) (fun k k1 k2 => by simp only [hu_k (show ¬ k = 29 by omega), hu_k (show ¬ k = 22 by omega), hu_k (show ¬ k = 20 by omega), hu_k (show ¬ k = 31 by omega), hu_k (show ¬ k = 26 by omega)]) h21
      all_goals simp only [hu_k, hu_s, up2_s, hcol_n, hcol_s, ns_k, ms_k, ms_20, upd_s, upd_n, upd_id, up2_id, not_false_eq_true, Nat.reduceEqDiff, Nat.reduceLeDiff, false_and, and_false, if_true, if_false, f_Net_sendPlain, f_Net_sendFor, f_Net_sendWord, f_Net_sendData, f_Mod_data]
      all_goals first | assumption | exact t_t_u ht hcn hc hb h19 | exact t_1_u h8 | exact t_n_u rfl (by omega) h10 | (rw [← e29]; exact t_2_u hb h2) | (rw [e29]; exact t_1_u h7) | (rw [e22]; exact t_2_u hb h2)
    · simp only [hu_k, hu_s, up2_s, hcol_n, hcol_s, ns_k, ms_k, ms_20, upd_s, upd_n, upd_id, up2_id, not_false_eq_true, Nat.reduceEqDiff, Nat.reduceLeDiff, false_and, and_false, if_true, if_false, f_Net_sendPlain, f_Net_sendFor, f_Net_sendWord, f_Net_sendData, f_Mod_data, e23, o0, o1, i1, i2, i4, e26, e7, nI_1]
      refine ⟨?_, ?_, ?_, ?_, ?_, ?_, ?_, ?_, ?_, ?_, ?_, ?_, ?_, ?_, ?_, ?_, ?_, ?_, ?_, ?_, ?_⟩
      case refine_21 => exact hq_R_of (by simp only [hu_k, hu_s, up2_s, hcol_n, hcol_s, ns_k, ms_k, ms_20, upd_s, upd_n, upd_id, up2_id, not_false_eq_true, Nat.reduceEqDiff, Nat.reduceLeDiff, false_and, and_false, if_true, if_false, f_Net_sendPlain, f_Net_sendFor, f_Net_sendWord, f_Net_sendData, f_Mod_data]) (fun k k1 k2 => by simp only [hu_k (show ¬ k = 29 by omega), hu_k (show ¬ k = 22 by omega), hu_k (show ¬ k = 20 by omega), hu_k (show ¬ k = 31 by omega), hu_k (show ¬ k = 26 by omega)]) h21
      all_goals simp only [hu_k, hu_s, up2_s, hcol_n, hcol_s, ns_k, ms_k, ms_20, upd_s, upd_n, upd_id, up2_id, not_false_eq_true, Nat.reduceEqDiff, Nat.reduceLeDiff, false_and, and_false, if_true, if_false, f_Net_sendPlain, f_Net_sendFor, f_Net_sendWord, f_Net_sendData, f_Mod_data]
      all_goals first | assumption | exact t_t_u ht hcn hc hb h19 | exact t_1_u h8 | exact t_n_u rfl (by omega) h10 | (rw [← e29]; exact t_2_u hb h2) | (rw [e29]; exact t_1_u h7) | (rw [e22]; exact t_2_u hb h2)
/-- the same, out of a wait -/
theorem hz_performW {n t mx : Nat} {u w : hd_V} {s : Nat → Nat → Nat} {ms : Nat → Nat → Int} {d ow : Nat → Nat} {sh : Nat → Nat → Bool} {nx sz wt : Nat → Nat} {q : List hq_M} {c b : Nat} (hZ : hz n t mx u w s ms d ow sh nx sz wt q) (ht : t < 512) (hcn : c < n) (hc : c < 4) (hb : b < 4) (hx : u 12 c (nx c) = nI b) (hlt : nx c < 16) : hz n (t + 1) mx (hd_u (f_Core_perform c (u 11 c (nx c)) (nI b) u) 10 c 8 0) (f_Mod_perform (nI c) (hd_u w 27 0 c 0)) s ms d ow sh (pr_up nx c (nx c + 1)) sz (pr_up wt c 0) q := by
  obtain ⟨h1, h2, h3, h4, h5, h6, h7, h8, h9, h10, h11, h12, h13, h14, h15, h16, h17, h18, h19, h20, h21⟩ := hZ
  have e26 : w 26 0 c = nI (nx c) := (h8 c hc).trans (h10 c hc).1
  have ei : (16 * nI c + nI (nx c)).toNatClampNeg = 16 * c + nx c := ix16 hc (by omega)
  have e23 := (h5.1 c hc (nx c) hlt).1
  have e24 : w 24 0 (16 * c + nx c) = nI b := (h5.1 c hc (nx c) hlt).2.trans hx
  have e7 : u 10 c 7 = nI (nx c) := (h10 c hc).1
  have e29 : w 29 0 (4 * c + b) = u 14 c b := h2 c hc b hb
  have e22 : w 22 0 c = u 10 c 6 := h7 c hc
  have i1 := ix1 hc
  have i2 := ix1 hb
  have i4 := ix4 hc hb
  unfold f_Core_perform f_Mod_perform
  simp only [hu_k, hu_s, up2_s, hcol_n, hcol_s, ns_k, ms_k, ms_20, upd_s, upd_n, upd_id, up2_id, not_false_eq_true, Nat.reduceEqDiff, Nat.reduceLeDiff, false_and, and_false, if_true, if_false, f_Net_sendPlain, f_Net_sendFor, f_Net_sendWord, f_Net_sendData, f_Mod_data, i1, i2, e26, ei, e24, i4]
  generalize hop : u 11 c (nx c) = op at *
  by_cases o0 : op = 0
  · subst o0
    simp only [hu_k, hu_s, up2_s, hcol_n, hcol_s, ns_k, ms_k, ms_20, upd_s, upd_n, upd_id, up2_id, not_false_eq_true, Nat.reduceEqDiff, Nat.reduceLeDiff, false_and, and_false, if_true, if_false, f_Net_sendPlain, f_Net_sendFor, f_Net_sendWord, f_Net_sendData, f_Mod_data, e23, Z01, Z00, i1, i2, i4, e26, e7, nI_1]
    refine ⟨?_, ?_, ?_, ?_, ?_, ?_, ?_, ?_, ?_, ?_, ?_, ?_, ?_, ?_, ?_, ?_, ?_, ?_, ?_, ?_, ?_⟩
    case refine_21 => exact hq_R_of (by simp only [hu_k, hu_s, up2_s, hcol_n, hcol_s, ns_k, ms_k, ms_20, upd_s, upd_n, upd_id, up2_id, not_false_eq_true, Nat.reduceEqDiff, Nat.reduceLeDiff, false_and, and_false, if_true, if_false, f_Net_sendPlain, f_Net_sendFor, f_Net_sendWord, f_Net_sendData, f_Mod_data]) (fun k k1 k2 => by simp only [hu_k (show ¬ k = 29 by omega), hu_k (show ¬ k = 22 by omega), hu_k (show ¬ k = 20 by omega), hu_k (show ¬ k = 31 by omega), hu_k (show ¬ k = 26 by omega), hu_k (show ¬ k = 27 by omega)]) h21
    all_goals simp only [hu_k, hu_s, up2_s, hcol_n, hcol_s, ns_k, ms_k, ms_20, upd_s, upd_n, upd_id, up2_id, not_false_eq_true, Nat.reduceEqDiff, Nat.reduceLeDiff, false_and, and_false, if_true, if_false, f_Net_sendPlain, f_Net_sendFor, f_Net_sendWord, f_Net_sendData, f_Mod_data]
    all_goals first | assumption | exact t_w_u rfl rfl (by decide) h11 | exact t_t_u ht hcn hc hb h19 | exact t_1_u h8 | exact t_n_u rfl (by omega) h10 | (rw [← e29]; exact t_2_u hb h2) | (rw [e29]; exact t_1_u h7) | (rw [e22]; exact t_2_u hb h2)
  · by_cases o1 : op = 1
    · subst o1
      simp only [hu_k, hu_s, up2_s, hcol_n, hcol_s, ns_k, ms_k, ms_20, upd_s, upd_n, upd_id, up2_id, not_false_eq_true, Nat.reduceEqDiff, Nat.reduceLeDiff, false_and, and_false, if_true, if_false, f_Net_sendPlain, f_Net_sendFor, f_Net_sendWord, f_Net_sendData, f_Mod_data, e23, Z10, Z11, i1, i2, i4, e26, e7, nI_1]
      refine ⟨?_, ?_, ?_, ?_, ?_, ?_, ?_, ?_, ?_, ?_, ?_, ?_, ?_, ?_, ?_, ?_, ?_, ?_, ?_, ?_, ?_⟩
      case refine_21 => exact hq_R_of (by simp only [hu_k, hu_s, up2_s, hcol_n, hcol_s, ns_k, ms_k, ms_20, upd_s, upd_n, upd_id, up2_id, not_false_eq_true, Nat.reduceEqDiff, Nat.reduceLeDiff, false_and, and_false, if_true, if_false, f_Net_sendPlain, f_Net_sendFor, f_Net_sendWord, f_Net_sendData, f_Mod_data]) (fun k k1 k2 => by simp only [hu_k (show ¬ k = 29 by omega), hu_k (show ¬ k = 22 by omega), hu_k (show ¬ k = 20 by omega), hu_k (show ¬ k = 31 by omega), hu_k (show ¬ k = 26 by omega), hu_k (show ¬ k = 27 by omega)]) h21
      all_goals simp only [hu_k, hu_s, up2_s, hcol_n, hcol_s, ns_k, ms_k, ms_20, upd_s, upd_n, upd_id, up2_id, not_false_eq_true, Nat.reduceEqDiff, Nat.reduceLeDiff, false_and, and_false, if_true, if_false, f_Net_sendPlain, f_Net_sendFor, f_Net_sendWord, f_Net_sendData, f_Mod_data]
      all_goals first | assumption | exact t_w_u rfl rfl (by decide) h11 | exact t_t_u ht hcn hc hb h19 | exact t_1_u h8 | exact t_n_u rfl (by omega) h10 | (rw [← e29]; exact t_2_u hb h2) | (rw [e29]; exact t_1_u h7) | (rw [e22]; exact t_2_u hb h2)
    · simp only [hu_k, hu_s, up2_s, hcol_n, hcol_s, ns_k, ms_k, ms_20, upd_s, upd_n, upd_id, up2_id, not_false_eq_true, Nat.reduceEqDiff, Nat.reduceLeDiff, false_and, and_false, if_true, if_false, f_Net_sendPlain, f_Net_sendFor, f_Net_sendWord, f_Net_sendData, f_Mod_data, e23, o0, o1, i1, i2, i4, e26, e7, nI_1]
      refine ⟨?_, ?_, ?_, ?_, ?_, ?_, ?_, ?_, ?_, ?_, ?_, ?_, ?_, ?_, ?_, ?_, ?_, ?_, ?_, ?_, ?_⟩
      case refine_21 => exact hq_R_of (by simp only [hu_k, hu_s, up2_s, hcol_n, hcol_s, ns_k, ms_k, ms_20, upd_s, upd_n, upd_id, up2_id, not_false_eq_true, Nat.reduceEqDiff, Nat.reduceLeDiff, false_and, and_false, if_true, if_false, f_Net_sendPlain, f_Net_sendFor, f_Net_sendWord, f_Net_sendData, f_Mod_data]) (fun k k1 k2 => by simp only [hu_k (show ¬ k = 29 by omega), hu_k (show ¬ k = 22 by omega), hu_k (show ¬ k = 20 by omega), hu_k (show ¬ k = 31 by omega), hu_k (show ¬ k = 26 by omega), hu_k (show ¬ k = 27 by omega)]) h21
      all_goals simp only [hu_k, hu_s, up2_s, hcol_n, hcol_s, ns_k, ms_k, ms_20, upd_s, upd_n, upd_id, up2_id, not_false_eq_true, Nat.reduceEqDiff, Nat.reduceLeDiff, false_and, and_false, if_true, if_false, f_Net_sendPlain, f_Net_sendFor, f_Net_sendWord, f_Net_sendData, f_Mod_data]
      all_goals first | assumption | exact t_w_u rfl rfl (by decide) h11 | exact t_t_u ht hcn hc hb h19 | exact t_1_u h8 | exact t_n_u rfl (by omega) h10 | (rw [← e29]; exact t_2_u hb h2) | (rw [e29]; exact t_1_u h7) | (rw [e22]; exact t_2_u hb h2)
theorem cp_k {c k : Nat} {a b : Int32} {u : hd_V} (h1 : ¬ k = 10) (h2 : ¬ k = 14) (h3 : ¬ k = 16) : f_Core_perform c a b u k = u k := by
  unfold f_Core_perform
  dsimp only
  repeat' split
  all_goals simp only [hu_k h1, hu_k h2, hu_k h3]
theorem hq_C_of {u u' : hd_V} {q : List hq_M} (h1 : u' 1 = u 1) (h2 : u' 2 = u 2) (h3 : u' 3 = u 3) (h : hq_C u q) : hq_C u' q := by
  unfold hq_C hq_c hq_s at *
  rw [h1, h2, h3]
  exact h
def hS (n t mx : Nat) (X : Nat → Nat → Prop) (u w : hd_V) (s : Nat → Nat → Nat) (ms : Nat → Nat → Int) (d ow : Nat → Nat) (sh : Nat → Nat → Bool) (nx sz wt : Nat → Nat) (q qc : List hq_M) : Prop :=
  hz n t mx u w s ms d ow sh nx sz wt q ∧ hk_P s ms d ow sh q ∧ hk_n n s wt ∧ hk_W X s nx sz wt (u 11) (u 12) ∧ hq_C u qc
theorem hk_W_st {s : Nat → Nat → Nat} {nx sz wt : Nat → Nat} {U V : Nat → Nat → Int32} {c b : Nat} (hc : c < 4) (h : hk_W (fun c' b' => c' = c ∧ b' = b) s nx sz wt U V) (h1 : wt c = 1 → ¬ V c (nx c) = nI b ∨ ¬ ((U c (nx c) = 0 ∧ (s b c = 1 ∨ s b c = 2)) ∨ (¬ U c (nx c) = 0 ∧ s b c = 2))) : hk_W hk_F s nx sz wt U V := by
  intro c' hc'
  obtain ⟨a0, a1, a2⟩ := h c' hc'
  refine ⟨a0, fun z => ?_, a2⟩
  obtain ⟨e1, e2, b0, hb0, e3, e4, e5⟩ := a1 z
  refine ⟨e1, e2, b0, hb0, e3, ?_, e5⟩
  rcases e4 with e4 | e4 | e4
  · exact Or.inl e4
  · exact Or.inr (Or.inl e4)
  · obtain ⟨⟨rfl, rfl⟩, e6⟩ := e4
    rcases h1 z with y | y
    · exact absurd e3 y
    · exact absurd e6 y
set_option maxHeartbeats 4000000 in
/-- the waiting access is done as soon as it is allowed, by both -/
theorem st_B {n t mx : Nat} {u w : hd_V} {s : Nat → Nat → Nat} {ms : Nat → Nat → Int} {d ow : Nat → Nat} {sh : Nat → Nat → Bool} {nx sz wt : Nat → Nat} {q : List hq_M} {qc : List hq_M} {c b : Nat} (h : hS n t mx (fun c' b' => c' = c ∧ b' = b) u w s ms d ow sh nx sz wt q qc) (ht : t < 512) (hc : c < 4) (hb : b < 4) (hcn : c < n) : ∃ nx' wt', hS n (t + 1) mx hk_F (f_Core_performIfAllowed c (nI b) u) (f_Mod_finish (nI c) (nI b) w) s ms d ow sh nx' sz wt' q qc := by
  obtain ⟨hZ, hP, hN, hW, hC⟩ := h
  have hZ0 := hZ
  obtain ⟨h1, h2, h3, h4, h5, h6, h7, h8, h9, h10, h11, h12, h13, h14, h15, h16, h17, h18, h19, h20, h21⟩ := hZ
  have e8 : u 10 c 8 = nI (32 * wt c) := (h11 c hc).1
  have e27 : w 27 0 c = nI (wt c) := (h11 c hc).2.1
  have w2 := (h11 c hc).2.2
  have e5 : u 10 c 5 = nI (sz c) := (h9 c hc).1
  have s16 := (h9 c hc).2
  have e7 : u 10 c 7 = nI (nx c) := (h10 c hc).1
  have n16 := (h10 c hc).2
  have e26 : w 26 0 c = nI (nx c) := (h8 c hc).trans (h10 c hc).1
  have ei : (16 * nI c + nI (nx c)).toNatClampNeg = 16 * c + nx c := ix16 hc (by omega)
  have i1 := ix1 hc
  have i2 := ix1 hb
  have i4 := ix4 hc hb
  have ex : (nI (nx c)).toNatClampNeg = nx c := nI_clamp (by omega)
  have e13 : u 13 c b = nI (s b c) := h4 c hc b hb
  have e28 : w 28 0 (4 * c + b) = nI (s b c) := (h1 c hc b hb).trans e13
  have s10 : s b c ≤ 10 := by
    have := pr_c_le ((hP.1 b hb).1 c hc)
    omega
  have stay : ∀ U' W' : hd_V, U' = u → W' = w → (wt c = 1 → ¬ u 12 c (nx c) = nI b ∨ ¬ ((u 11 c (nx c) = 0 ∧ (s b c = 1 ∨ s b c = 2)) ∨ (¬ u 11 c (nx c) = 0 ∧ s b c = 2))) → ∃ nx' wt', hS n (t + 1) mx hk_F U' W' s ms d ow sh nx' sz wt' q qc := by
    intro U' W' g1 g2 g3
    rw [g1, g2]
    exact ⟨nx, wt, hz_t hZ0, hP, hN, hk_W_st hc hW g3, hC⟩
  unfold f_Core_performIfAllowed f_Mod_finish
  rw [e8, i1, e27, e5, e7, ex, e26]
  by_cases hw : wt c = 1
  · obtain ⟨b1, b2, b0, hb0, e3, e4, e5'⟩ := (hW c hc).2.1 hw
    have f23 := (h5.1 c hc (nx c) (by omega)).1
    have f24 : w 24 0 (16 * c + nx c) = u 12 c (nx c) := (h5.1 c hc (nx c) (by omega)).2
    rw [hw]
    dsimp only
    rw [if_pos (show nI (32 * 1) = 32 by decide), if_pos (show nI 1 = 1 by decide), if_neg (nI_ge b1 (by omega)), ei, f24]
    by_cases eb : b0 = b
    · subst eb
      rw [if_pos e3, if_pos e3, i4, e28, f23]
      unfold f_Core_allows
      rw [i2, e13]
      by_cases al : (u 11 c (nx c) = 0 ∧ (s b0 c = 1 ∨ s b0 c = 2)) ∨ (¬ u 11 c (nx c) = 0 ∧ s b0 c = 2)
      · have perf := hz_performW hZ0 ht hcn hc hb e3 (by omega)
        have g1 : (if (if nI (s b0 c) = 2 then (1 : Int32) else if nI (s b0 c) = 1 then if u 11 c (nx c) = 0 then 1 else 0 else 0) = 0 then u else hd_u (f_Core_perform c (u 11 c (nx c)) (nI b0) u) 10 c 8 0) = hd_u (f_Core_perform c (u 11 c (nx c)) (nI b0) u) 10 c 8 0 := by
          rcases al with ⟨al1, al2 | al2⟩ | ⟨al1, al2⟩
          · rw [al2, if_neg (show ¬ nI 1 = 2 by decide), if_pos (show nI 1 = 1 by decide), if_pos al1, if_neg (by decide)]
          · rw [al2, if_pos (show nI 2 = 2 by decide), if_neg (by decide)]
          · rw [al2, if_pos (show nI 2 = 2 by decide), if_neg (by decide)]
        have g2 : (if nI (s b0 c) = 2 then f_Mod_perform (nI c) (hd_u w 27 0 c 0) else if nI (s b0 c) = 1 then if u 11 c (nx c) = 0 then f_Mod_perform (nI c) (hd_u w 27 0 c 0) else w else w) = f_Mod_perform (nI c) (hd_u w 27 0 c 0) := by
          rcases al with ⟨al1, al2 | al2⟩ | ⟨al1, al2⟩
          · rw [al2, if_neg (show ¬ nI 1 = 2 by decide), if_pos (show nI 1 = 1 by decide), if_pos al1]
          · rw [al2, if_pos (show nI 2 = 2 by decide)]
          · rw [al2, if_pos (show nI 2 = 2 by decide)]
        rw [g1, g2]
        have k11 : hd_u (f_Core_perform c (u 11 c (nx c)) (nI b0) u) 10 c 8 0 11 = u 11 := by rw [hu_k (by decide)]; exact cp_k (by decide) (by decide) (by decide)
        have k12 : hd_u (f_Core_perform c (u 11 c (nx c)) (nI b0) u) 10 c 8 0 12 = u 12 := by rw [hu_k (by decide)]; exact cp_k (by decide) (by decide) (by decide)
        refine ⟨_, _, perf, hP, ?_, ?_, ?_⟩
        · intro c' h1 h2
          rw [pr_up_n _ _ _ (by omega)]
          exact hN c' h1 h2
        · rw [k11, k12]
          refine hk_W_o (c0 := c) (X := fun c' b' => c' = c ∧ b' = b0) (s := s) (nx := nx) (sz := sz) (wt := wt) (X' := fun c' b' => c' = c ∧ b' = b0) (fun _ _ z => z) (fun _ _ _ => rfl) (fun c' z => hk_upn c' z) (fun _ _ => rfl) (fun c' z => hk_upn c' z) (fun _ => ?_) hW |> fun hh => hk_W_st hc hh (fun z => by rw [pr_up_s] at z; cases z)
          refine ⟨fun _ b' hb' => ?_, fun z => (by rw [pr_up_s] at z; cases z), fun z => (by rw [pr_up_s] at z; cases z)⟩
          by_cases e : b' = b0
          · subst e; clear e4 e5' hW; omega
          · exact e5' b' hb' e
        · exact hq_C_of (by rw [hu_k (by decide)]; exact cp_k (by decide) (by decide) (by decide)) (by rw [hu_k (by decide)]; exact cp_k (by decide) (by decide) (by decide)) (by rw [hu_k (by decide)]; exact cp_k (by decide) (by decide) (by decide)) hC
      · have n2 : ¬ nI (s b0 c) = 2 := fun z => by
          have z2 : s b0 c = 2 := (nIe (by omega) (by decide)).mp z
          by_cases o : u 11 c (nx c) = 0
          · exact al (Or.inl ⟨o, Or.inr z2⟩)
          · exact al (Or.inr ⟨o, z2⟩)
        have n1 : nI (s b0 c) = 1 → ¬ u 11 c (nx c) = 0 := fun z o => al (Or.inl ⟨o, Or.inl ((nIe (by omega) (by decide)).mp z)⟩)
        refine stay _ _ ?_ ?_ (fun _ => Or.inr al)
        · rw [if_neg n2]
          by_cases y : nI (s b0 c) = 1
          · rw [if_pos y, if_neg (n1 y), if_pos rfl]
          · rw [if_neg y, if_pos rfl]
        · rw [if_neg n2]
          by_cases y : nI (s b0 c) = 1
          · rw [if_pos y, if_neg (n1 y)]
          · rw [if_neg y]
    · have ne : ¬ u 12 c (nx c) = nI b := fun z => eb ((nIe (by omega) (by omega)).mp (e3.symm.trans z))
      rw [if_neg ne, if_neg ne]
      exact stay _ _ rfl rfl (fun _ => Or.inl ne)
  · have n8 : ¬ nI (32 * wt c) = 32 := fun z => hw (by have := (nIe (a := 32 * wt c) (b := 32) (by omega) (by decide)).mp z; omega)
    have n27 : ¬ nI (wt c) = 1 := fun z => hw ((nIe (a := wt c) (b := 1) (by omega) (by decide)).mp z)
    rw [if_neg n8, if_neg n27]
    exact stay _ _ rfl rfl (fun z => absurd z hw)
