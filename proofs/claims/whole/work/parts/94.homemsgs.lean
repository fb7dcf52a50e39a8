theorem t_1_k {f g : Nat → Int32} {c : Nat} {x : Int32} (h : t_1 f g) (hx : f c = x) : t_1 f (upd g c x) := by
  intro c' hc'
  rw [upd_e]
  split
  · rename_i z; rw [z, hx]
  · exact h c' hc'
theorem t_n_k {x : Nat → Nat} {N : Nat} {f : Nat → Int32} {c : Nat} (h : t_n x N f) : t_n (pr_up x c (x c)) N f := by
  intro c' hc'
  rw [pr_up_e]
  split
  · rename_i z; rw [← z]; exact h c' hc'
  · exact h c' hc'
theorem t_o_k {x : Nat → Nat} {f : Nat → Int32} {c : Nat} (h : t_o x f) : t_o (pr_up x c (x c)) f := by
  intro c' hc'
  rw [pr_up_e]
  split
  · rename_i z; rw [← z]; exact h c' hc'
  · exact h c' hc'
theorem t_h_k {x : Nat → Nat → Bool} {f g : Nat → Int32} {c : Nat} (h : t_h x f g) : t_h (pr_up x c (x c)) f g := by
  intro c' hc'
  rw [pr_up_e]
  split
  · rename_i z; rw [← z]; exact h c' hc'
  · exact h c' hc'
theorem t_h_r {sh : Nat → Nat → Bool} {f g : Nat → Int32} {b r : Nat} {x : Bool} (hr : r < 4) (h : t_h sh f g) (hb : b < 4) {y : Int32} (hy : y = if x = true then 1 else 0) : t_h (pr_up sh b (pr_up (sh b) r x)) (upd f b (hk_m (pr_up (sh b) r x))) (upd g (4 * b + r) y) := by
  refine t_h_of h rfl (fun i hi => upd_n (by omega)) (fun c hc => ?_)
  rw [upd_e, pr_up_e]
  by_cases z : c = r
  · rw [if_pos (by omega), if_pos z, hy]
  · rw [if_neg (by omega), if_neg z]
    exact (h b hb).2 c hc
theorem t_h_rr {sh : Nat → Nat → Bool} {f g : Nat → Int32} {b r o : Nat} (hr : r < 4) (ho : o < 4) (h : t_h sh f g) (hb : b < 4) : t_h (pr_up sh b (pr_up (pr_up (sh b) r true) o true)) (upd f b (hk_m (pr_up (pr_up (sh b) r true) o true))) (upd (upd g (4 * b + o) 1) (4 * b + r) 1) := by
  refine t_h_of h rfl (fun i hi => by rw [upd_n (by omega), upd_n (by omega)]) (fun c hc => ?_)
  rw [upd_e, upd_e, pr_up_e, pr_up_e]
  by_cases z : c = r
  · rw [if_pos (by omega), if_pos z]
    split <;> rfl
  · rw [if_neg (by omega), if_neg z]
    by_cases z2 : c = o
    · rw [if_pos (by omega), if_pos z2]; rfl
    · rw [if_neg (by omega), if_neg z2]
      exact (h b hb).2 c hc
theorem t_h_0 {sh : Nat → Nat → Bool} {f g : Nat → Int32} {b : Nat} (h : t_h sh f g) : t_h (pr_up sh b (fun _ => false)) (upd f b 0) (upd (upd (upd (upd g (4 * b + 0) 0) (4 * b + 1) 0) (4 * b + 2) 0) (4 * b + 3) 0) := by
  refine t_h_of h (by rfl) (fun i hi => by rw [upd_n (by omega), upd_n (by omega), upd_n (by omega), upd_n (by omega)]) (fun c hc => ?_)
  simp only [upd_e]
  rcases (show c = 0 ∨ c = 1 ∨ c = 2 ∨ c = 3 by omega) with z | z | z | z <;> subst z <;> simp
theorem hq_r_n {o r : Nat} (ho : o < 4 ∨ o = 5) (hr : r < 4) : hq_r o = nI r ↔ o = r := by
  unfold hq_r
  rcases ho with ho | ho
  · rw [if_neg (by omega)]
    exact nIe (by omega) (by omega)
  · rw [if_pos ho]
    constructor
    · intro z
      rcases (show r = 0 ∨ r = 1 ∨ r = 2 ∨ r = 3 by omega) with y | y | y | y <;> subst y <;> exact absurd z (by decide)
    · intro z; omega
/-- a GETS at the home -/
theorem sh_0 {n t mx : Nat} {u w : hd_V} {s : Nat → Nat → Nat} {ms : Nat → Nat → Int} {d ow : Nat → Nat} {sh : Nat → Nat → Bool} {nx sz wt : Nat → Nat} {a e : List hq_M} {b r r0 : Nat} {x : Int32} {nn : Int} (hZ : hz n t mx u w s ms d ow sh nx sz wt (a ++ e)) (hP : hk_P s ms d ow sh (a ++ (b, x, 0, r, 4, nn, r0) :: e)) (hN : hk_n n s wt) (hW : hk_W hk_F s nx sz wt (u 11) (u 12)) (hC : hq_C u (a ++ (b, x, 0, r, 4, nn, r0) :: e)) (hl : (a ++ (b, x, 0, r, 4, nn, r0) :: e).length ≤ 20) (hb : b < 4) (hst : ¬ d b = 3) : ∃ d' ow' sh' new, hS n t mx hk_F (f_Home_receive (hq_s u a.length) u) (f_Mod_atHome (nI 0) (nI r) (nI b) x w) s ms d' ow' sh' nx sz wt (a ++ e ++ new) (a ++ (b, x, 0, r, 4, nn, r0) :: e ++ new) := by
  have hm := hC.2.2.2.2 a.length (b, x, 0, r, 4, nn, r0) (by simp)
  unfold hq_c hq_e at hm
  simp only [Prod.mk.injEq] at hm
  obtain ⟨m0, m1, m2, m3, m4, m5, m6⟩ := hm
  have hI := hP.1 b hb
  rw [hk_b_app, hk_b_s] at hI
  have hsh := pr_9_at hI.2.2.2.2.2
  unfold pr_sh at hsh
  simp only at hsh
  have hle : (a ++ e).length ≤ 19 := by
    rw [List.length_append, List.length_cons] at hl
    rw [List.length_append]
    omega
  have i2 := ix1 hb
  obtain ⟨H1, H2, H3, H4⟩ := hI.2.2.2.2.1
  have z5 := hZ.2.2.2.2.2.2.2.2.2.2.2.1
  have z6 := hZ.2.2.2.2.2.2.2.2.2.2.2.2.1
  have z7 := hZ.2.2.2.2.2.2.2.2.2.2.2.2.2.1
  have zd := hZ.2.2.2.2.2.2.2.2.2.2.2.2.2.2.1
  have zo := hZ.2.2.2.2.2.2.2.2.2.2.2.2.2.2.2.1
  have zh := hZ.2.2.2.2.2.2.2.2.2.2.2.2.2.2.2.2.1
  have e5 : w 33 0 b = u 5 0 b := z5 b hb
  have e6 : u 6 0 b = nI (d b) := (zd b hb).1
  have f6 : w 34 0 b = nI (d b) := (z6 b hb).trans e6
  have e7 : u 7 0 b = hq_r (ow b) := zo b hb
  have f7 : w 35 0 b = hq_r (ow b) := (z7 b hb).trans e7
  have e8 : u 8 0 b = hk_m (sh b) := (zh b hb).1
  have e9 := (zh b hb).2

  have hr : r < 4 := (hsh.2.1 (by decide)).1
  have i4 := ix4 hb hr
  by_cases hd : d b = 2
  · have ho : ow b < 4 := H2 hd
    have io := ix4 hb ho
    have eo : hq_r (ow b) = nI (ow b) := if_neg (by omega)
    rw [hd] at e6 f6
    rw [eo] at e7 f7
    have g := hz_send (m := (b, 0, 4, 4, ow b, 0, r)) hZ hC (by omega) (by omega) (he_f (kk := 4) (by decide) hr)
    have c1 : f_Home_receive (hq_s u a.length) u = hd_u (hd_u (hd_u (f_Net_send 4 4 (nI (ow b)) (nI b) 0 0 (nI r) u) 8 0 b (hk_m (pr_up (pr_up (sh b) r true) (ow b) true))) 7 0 b (-1)) 6 0 b 3 := by
      unfold f_Home_receive f_Home_giveToRead
      simp only [hu_k, hu_s, up2_s, hcol_n, hcol_s, ns_k, ms_k, ms_20, upd_s, upd_n, upd_id, up2_id, not_false_eq_true, Nat.reduceEqDiff, Nat.reduceLeDiff, false_and, and_false, if_true, if_false, f_Net_sendPlain, f_Net_sendFor, f_Net_sendWord, f_Net_sendData, f_Mod_data, m0, m1, m3, i2, e6, e7, e8, hm_or2 _ hr ho, show (nI 0 = (0 : Int32)) = True by decide, show (nI 2 = (2 : Int32)) = True by decide]
    have w1 : f_Mod_atHome (nI 0) (nI r) (nI b) x w = hd_u (hd_u (hd_u (hd_u (f_Mod_send 4 4 (nI (ow b)) (nI b) 0 0 (nI r) w) 36 0 (4 * b + ow b) 1) 35 0 b (-1)) 34 0 b 3) 36 0 (4 * b + r) 1 := by
      unfold f_Mod_atHome f_Mod_gets
      simp only [hu_k, hu_s, up2_s, hcol_n, hcol_s, ns_k, ms_k, ms_20, upd_s, upd_n, upd_id, up2_id, not_false_eq_true, Nat.reduceEqDiff, Nat.reduceLeDiff, false_and, and_false, if_true, if_false, f_Net_sendPlain, f_Net_sendFor, f_Net_sendWord, f_Net_sendData, f_Mod_data, i2, i4, io, f6, f7, show (nI 0 = (0 : Int32)) = True by decide, show (nI 2 = (2 : Int32)) = True by decide]
    rw [c1, w1]
    refine ⟨pr_up d b 3, pr_up ow b 5, pr_up sh b (pr_up (pr_up (sh b) r true) (ow b) true), [(b, 0, 4, 4, ow b, 0, r)], ?_, ?_, hN, ?_, ?_⟩
    · refine hh_home g.1 (fun k hk => by simp only [hu_k (show ¬ k = 5 by omega), hu_k (show ¬ k = 6 by omega), hu_k (show ¬ k = 7 by omega), hu_k (show ¬ k = 8 by omega)]) (fun k hk => by simp only [hu_k (show ¬ k = 33 by omega), hu_k (show ¬ k = 34 by omega), hu_k (show ¬ k = 35 by omega), hu_k (show ¬ k = 36 by omega)]) ?_ ?_ ?_ ?_ ?_ ?_
      all_goals simp only [hu_k, hu_s, up2_s, hcol_n, hcol_s, ns_k, ms_k, ms_20, upd_s, upd_n, upd_id, up2_id, not_false_eq_true, Nat.reduceEqDiff, Nat.reduceLeDiff, false_and, and_false, if_true, if_false, f_Net_sendPlain, f_Net_sendFor, f_Net_sendWord, f_Net_sendData, f_Mod_data]
      · exact z5
      · exact t_1_u z6
      · exact t_1_u z7
      · exact t_n_u (by decide) (by decide) zd
      · exact t_o_u (by decide) zo
      · exact t_h_rr hr ho zh hb
    · refine hP_h (m := (b, x, 0, r, 4, nn, r0)) hb hP (by simp) ?_
      simp only [hk_b_s, hk_b_nil]
      exact pr_I_D0a hI hd
    · simpa only [hu_k, hu_s, up2_s, hcol_n, hcol_s, ns_k, ms_k, ms_20, upd_s, upd_n, upd_id, up2_id, not_false_eq_true, Nat.reduceEqDiff, Nat.reduceLeDiff, false_and, and_false, if_true, if_false, f_Net_sendPlain, f_Net_sendFor, f_Net_sendWord, f_Net_sendData, f_Mod_data] using hW
    · simpa only [List.append_assoc, List.cons_append, List.nil_append, List.append_nil] using hq_C_of (by simp only [hu_k, not_false_eq_true, Nat.reduceEqDiff]) (by simp only [hu_k, not_false_eq_true, Nat.reduceEqDiff]) (by simp only [hu_k, not_false_eq_true, Nat.reduceEqDiff]) g.2
  · have hd3 : d b < 2 := by omega
    have n2 : (nI (d b) = 2) = False := by
      rcases (show d b = 0 ∨ d b = 1 by omega) with z | z <;> rw [z] <;> decide
    have g := hz_send (m := (b, u 5 0 b, 8, 4, r, 0, 5)) hZ hC (by omega) (by omega) (he_h (kk := 8) (by decide))
    have c1 : f_Home_receive (hq_s u a.length) u = hd_u (hd_u (f_Net_send 8 4 (nI r) (nI b) (u 5 0 b) 0 (-1) u) 8 0 b (hk_m (pr_up (sh b) r true))) 6 0 b 1 := by
      unfold f_Home_receive f_Home_giveToRead
      simp only [hu_k, hu_s, up2_s, hcol_n, hcol_s, ns_k, ms_k, ms_20, upd_s, upd_n, upd_id, up2_id, not_false_eq_true, Nat.reduceEqDiff, Nat.reduceLeDiff, false_and, and_false, if_true, if_false, f_Net_sendPlain, f_Net_sendFor, f_Net_sendWord, f_Net_sendData, f_Mod_data, m0, m1, m3, i2, e6, e8, n2, hm_or _ hr, show (nI 0 = (0 : Int32)) = True by decide]
    have w1 : f_Mod_atHome (nI 0) (nI r) (nI b) x w = hd_u (hd_u (f_Mod_send 8 4 (nI r) (nI b) (u 5 0 b) 0 (-1) w) 34 0 b 1) 36 0 (4 * b + r) 1 := by
      unfold f_Mod_atHome f_Mod_gets
      simp only [hu_k, hu_s, up2_s, hcol_n, hcol_s, ns_k, ms_k, ms_20, upd_s, upd_n, upd_id, up2_id, not_false_eq_true, Nat.reduceEqDiff, Nat.reduceLeDiff, false_and, and_false, if_true, if_false, f_Net_sendPlain, f_Net_sendFor, f_Net_sendWord, f_Net_sendData, f_Mod_data, i2, i4, f6, e5, n2, show (nI 0 = (0 : Int32)) = True by decide]
    rw [c1, w1]
    refine ⟨pr_up d b 1, pr_up ow b (ow b), pr_up sh b (pr_up (sh b) r true), [(b, u 5 0 b, 8, 4, r, 0, 5)], ?_, ?_, hN, ?_, ?_⟩
    · refine hh_home g.1 (fun k hk => by simp only [hu_k (show ¬ k = 5 by omega), hu_k (show ¬ k = 6 by omega), hu_k (show ¬ k = 7 by omega), hu_k (show ¬ k = 8 by omega)]) (fun k hk => by simp only [hu_k (show ¬ k = 33 by omega), hu_k (show ¬ k = 34 by omega), hu_k (show ¬ k = 35 by omega), hu_k (show ¬ k = 36 by omega)]) ?_ ?_ ?_ ?_ ?_ ?_
      all_goals simp only [hu_k, hu_s, up2_s, hcol_n, hcol_s, ns_k, ms_k, ms_20, upd_s, upd_n, upd_id, up2_id, not_false_eq_true, Nat.reduceEqDiff, Nat.reduceLeDiff, false_and, and_false, if_true, if_false, f_Net_sendPlain, f_Net_sendFor, f_Net_sendWord, f_Net_sendData, f_Mod_data]
      · exact z5
      · exact t_1_u z6
      · exact z7
      · exact t_n_u (by decide) (by decide) zd
      · exact t_o_k zo
      · exact t_h_r hr zh hb rfl
    · refine hP_h (m := (b, x, 0, r, 4, nn, r0)) hb hP (by simp) ?_
      simp only [hk_b_s, hk_b_nil]
      exact pr_I_D0b hI hd hst
    · simpa only [hu_k, hu_s, up2_s, hcol_n, hcol_s, ns_k, ms_k, ms_20, upd_s, upd_n, upd_id, up2_id, not_false_eq_true, Nat.reduceEqDiff, Nat.reduceLeDiff, false_and, and_false, if_true, if_false, f_Net_sendPlain, f_Net_sendFor, f_Net_sendWord, f_Net_sendData, f_Mod_data] using hW
    · simpa only [List.append_assoc, List.cons_append, List.nil_append, List.append_nil] using hq_C_of (by simp only [hu_k, not_false_eq_true, Nat.reduceEqDiff]) (by simp only [hu_k, not_false_eq_true, Nat.reduceEqDiff]) (by simp only [hu_k, not_false_eq_true, Nat.reduceEqDiff]) g.2
/-- a GETM at the home -/
theorem sh_1 {n t mx : Nat} {u w : hd_V} {s : Nat → Nat → Nat} {ms : Nat → Nat → Int} {d ow : Nat → Nat} {sh : Nat → Nat → Bool} {nx sz wt : Nat → Nat} {a e : List hq_M} {b r r0 : Nat} {x : Int32} {nn : Int} (hZ : hz n t mx u w s ms d ow sh nx sz wt (a ++ e)) (hP : hk_P s ms d ow sh (a ++ (b, x, 1, r, 4, nn, r0) :: e)) (hN : hk_n n s wt) (hW : hk_W hk_F s nx sz wt (u 11) (u 12)) (hC : hq_C u (a ++ (b, x, 1, r, 4, nn, r0) :: e)) (hl : (a ++ (b, x, 1, r, 4, nn, r0) :: e).length ≤ 20) (hb : b < 4) (hst : ¬ d b = 3) : ∃ d' ow' sh' new, hS n t mx hk_F (f_Home_receive (hq_s u a.length) u) (f_Mod_atHome (nI 1) (nI r) (nI b) x w) s ms d' ow' sh' nx sz wt (a ++ e ++ new) (a ++ (b, x, 1, r, 4, nn, r0) :: e ++ new) := by
  have hm := hC.2.2.2.2 a.length (b, x, 1, r, 4, nn, r0) (by simp)
  unfold hq_c hq_e at hm
  simp only [Prod.mk.injEq] at hm
  obtain ⟨m0, m1, m2, m3, m4, m5, m6⟩ := hm
  have hI := hP.1 b hb
  rw [hk_b_app, hk_b_s] at hI
  have hsh := pr_9_at hI.2.2.2.2.2
  unfold pr_sh at hsh
  simp only at hsh
  have hle : (a ++ e).length ≤ 19 := by
    rw [List.length_append, List.length_cons] at hl
    rw [List.length_append]
    omega
  have i2 := ix1 hb
  obtain ⟨H1, H2, H3, H4⟩ := hI.2.2.2.2.1
  have z5 := hZ.2.2.2.2.2.2.2.2.2.2.2.1
  have z6 := hZ.2.2.2.2.2.2.2.2.2.2.2.2.1
  have z7 := hZ.2.2.2.2.2.2.2.2.2.2.2.2.2.1
  have zd := hZ.2.2.2.2.2.2.2.2.2.2.2.2.2.2.1
  have zo := hZ.2.2.2.2.2.2.2.2.2.2.2.2.2.2.2.1
  have zh := hZ.2.2.2.2.2.2.2.2.2.2.2.2.2.2.2.2.1
  have e5 : w 33 0 b = u 5 0 b := z5 b hb
  have e6 : u 6 0 b = nI (d b) := (zd b hb).1
  have f6 : w 34 0 b = nI (d b) := (z6 b hb).trans e6
  have e7 : u 7 0 b = hq_r (ow b) := zo b hb
  have f7 : w 35 0 b = hq_r (ow b) := (z7 b hb).trans e7
  have e8 : u 8 0 b = hk_m (sh b) := (zh b hb).1
  have e9 := (zh b hb).2

  have hr : r < 4 := (hsh.2.1 (by decide)).1
  by_cases hd : d b = 2
  · have ho : ow b < 4 := H2 hd
    have eo : hq_r (ow b) = nI (ow b) := if_neg (by omega)
    rw [hd] at e6 f6
    rw [eo] at e7 f7
    have g := hz_send (m := (b, 0, 5, 4, ow b, 0, r)) hZ hC (by omega) (by omega) (he_f (kk := 5) (by decide) hr)
    have c1 : f_Home_receive (hq_s u a.length) u = hd_u (f_Net_send 5 4 (nI (ow b)) (nI b) 0 0 (nI r) u) 7 0 b (nI r) := by
      unfold f_Home_receive f_Home_giveToWrite
      simp only [hu_k, hu_s, up2_s, hcol_n, hcol_s, ns_k, ms_k, ms_20, upd_s, upd_n, upd_id, up2_id, not_false_eq_true, Nat.reduceEqDiff, Nat.reduceLeDiff, false_and, and_false, if_true, if_false, f_Net_sendPlain, f_Net_sendFor, f_Net_sendWord, f_Net_sendData, f_Mod_data, m0, m1, m3, i2, e6, e7, show (nI 1 = (0 : Int32)) = False by decide, show (nI 1 = (1 : Int32)) = True by decide, show (nI 2 = (2 : Int32)) = True by decide]
    have w1 : f_Mod_atHome (nI 1) (nI r) (nI b) x w = hd_u (hd_u (f_Mod_send 5 4 (nI (ow b)) (nI b) 0 0 (nI r) w) 35 0 b (nI r)) 34 0 b 2 := by
      unfold f_Mod_atHome f_Mod_getm
      simp only [hu_k, hu_s, up2_s, hcol_n, hcol_s, ns_k, ms_k, ms_20, upd_s, upd_n, upd_id, up2_id, not_false_eq_true, Nat.reduceEqDiff, Nat.reduceLeDiff, false_and, and_false, if_true, if_false, f_Net_sendPlain, f_Net_sendFor, f_Net_sendWord, f_Net_sendData, f_Mod_data, i2, f6, f7, show (nI 1 = (0 : Int32)) = False by decide, show (nI 1 = (1 : Int32)) = True by decide, show (nI 2 = (2 : Int32)) = True by decide]
    rw [c1, w1]
    refine ⟨pr_up d b (d b), pr_up ow b r, pr_up sh b (sh b), [(b, 0, 5, 4, ow b, 0, r)], ?_, ?_, hN, ?_, ?_⟩
    · refine hh_home g.1 (fun k hk => by simp only [hu_k (show ¬ k = 5 by omega), hu_k (show ¬ k = 6 by omega), hu_k (show ¬ k = 7 by omega), hu_k (show ¬ k = 8 by omega)]) (fun k hk => by simp only [hu_k (show ¬ k = 33 by omega), hu_k (show ¬ k = 34 by omega), hu_k (show ¬ k = 35 by omega), hu_k (show ¬ k = 36 by omega)]) ?_ ?_ ?_ ?_ ?_ ?_
      all_goals simp only [hu_k, hu_s, up2_s, hcol_n, hcol_s, ns_k, ms_k, ms_20, upd_s, upd_n, upd_id, up2_id, not_false_eq_true, Nat.reduceEqDiff, Nat.reduceLeDiff, false_and, and_false, if_true, if_false, f_Net_sendPlain, f_Net_sendFor, f_Net_sendWord, f_Net_sendData, f_Mod_data]
      · exact z5
      · exact t_1_k z6 (by rw [e6]; decide)
      · exact t_1_u z7
      · exact t_n_k zd
      · exact t_o_u (show nI r = hq_r r from (if_neg (by omega)).symm) zo
      · exact t_h_k zh
    · refine hP_h (m := (b, x, 1, r, 4, nn, r0)) hb hP (by simp) ?_
      simp only [hk_b_s, hk_b_nil]
      exact pr_I_D1a hI hd
    · simpa only [hu_k, hu_s, up2_s, hcol_n, hcol_s, ns_k, ms_k, ms_20, upd_s, upd_n, upd_id, up2_id, not_false_eq_true, Nat.reduceEqDiff, Nat.reduceLeDiff, false_and, and_false, if_true, if_false, f_Net_sendPlain, f_Net_sendFor, f_Net_sendWord, f_Net_sendData, f_Mod_data] using hW
    · simpa only [List.append_assoc, List.cons_append, List.nil_append, List.append_nil] using hq_C_of (by simp only [hu_k, not_false_eq_true, Nat.reduceEqDiff]) (by simp only [hu_k, not_false_eq_true, Nat.reduceEqDiff]) (by simp only [hu_k, not_false_eq_true, Nat.reduceEqDiff]) g.2
  · have hd3 : d b < 2 := by omega
    have n2 : (nI (d b) = 2) = False := by
      rcases (show d b = 0 ∨ d b = 1 by omega) with z | z <;> rw [z] <;> decide
    have hrf : pr_up (sh b) r false r = false := pr_up_s _ _ _
    have hl3 := hm_len3 (pr_up (sh b) r false) hr hrf
    have hsc := (sh_count (sh := sh) (v := w) hb e9).2 r hr
    have he0 : hq_e (b, u 5 0 b, 8, 4, r, ((hm_l (pr_up (sh b) r false)).length : Int), 5) = (8, 4, nI r, nI b, u 5 0 b, nI (hm_l (pr_up (sh b) r false)).length, -1) := by
      unfold hq_e
      simp only [show nI 8 = 8 by decide, show nI 4 = 4 by decide, show hq_r 5 = -1 by decide]
      rfl
    have g0 := hz_send (m := (b, u 5 0 b, 8, 4, r, ((hm_l (pr_up (sh b) r false)).length : Int), 5)) hZ hC (by omega) (by omega) he0
    have g := hz_sends (r := r) (b := b) hr (hm_l (pr_up (sh b) r false)) _ _ _ _ g0.1 g0.2 (by rw [List.length_append, List.length_singleton]; omega) (by rw [List.length_append, List.length_singleton]; omega)
    have c1 : f_Home_receive (hq_s u a.length) u = hd_u (hd_u (hd_u (cS r b (hm_l (pr_up (sh b) r false)) (f_Net_send 8 4 (nI r) (nI b) (u 5 0 b) (nI (hm_l (pr_up (sh b) r false)).length) (-1) u)) 8 0 b 0) 6 0 b 2) 7 0 b (nI r) := by
      unfold f_Home_receive f_Home_giveToWrite
      simp only [hu_k, hu_s, up2_s, hcol_n, hcol_s, ns_k, ms_k, ms_20, upd_s, upd_n, upd_id, up2_id, not_false_eq_true, Nat.reduceEqDiff, Nat.reduceLeDiff, false_and, and_false, if_true, if_false, f_Net_sendPlain, f_Net_sendFor, f_Net_sendWord, f_Net_sendData, f_Mod_data, m0, m1, m3, i2, e6, e8, n2, hm_and _ hr, hm_len, inv_c, show (nI 1 = (0 : Int32)) = False by decide, show (nI 1 = (1 : Int32)) = True by decide]
    have w1 : f_Mod_atHome (nI 1) (nI r) (nI b) x w = hd_u (hd_u (hd_u (hd_u (hd_u (hd_u (mS r b (hm_l (pr_up (sh b) r false)) (f_Mod_send 8 4 (nI r) (nI b) (u 5 0 b) (nI (hm_l (pr_up (sh b) r false)).length) (-1) w)) 36 0 (4 * b + 0) 0) 36 0 (4 * b + 1) 0) 36 0 (4 * b + 2) 0) 36 0 (4 * b + 3) 0) 35 0 b (nI r)) 34 0 b 2 := by
      unfold f_Mod_atHome f_Mod_getm
      simp only [i2, f6, e5, n2, hsc, f_Mod_data, show (nI 1 = (0 : Int32)) = False by decide, show (nI 1 = (1 : Int32)) = True by decide, if_true, if_false]
      exact inv_m (sh := sh) hr hb (fun c hc => by rw [ms_k (by decide) (by decide)]; exact e9 c hc)
    rw [c1, w1]
    refine ⟨pr_up d b 2, pr_up ow b r, pr_up sh b (fun _ => false), (b, u 5 0 b, 8, 4, r, ((hm_l (pr_up (sh b) r false)).length : Int), 5) :: iN b r (hm_l (pr_up (sh b) r false)), ?_, ?_, hN, ?_, ?_⟩
    · have g1 := g.1
      simp only [List.append_assoc, List.cons_append, List.nil_append, List.append_nil] at g1
      simp only [List.append_assoc, List.cons_append, List.nil_append, List.append_nil]
      refine hh_home g1 (fun k hk => by simp only [hu_k (show ¬ k = 5 by omega), hu_k (show ¬ k = 6 by omega), hu_k (show ¬ k = 7 by omega), hu_k (show ¬ k = 8 by omega)]) (fun k hk => by simp only [hu_k (show ¬ k = 33 by omega), hu_k (show ¬ k = 34 by omega), hu_k (show ¬ k = 35 by omega), hu_k (show ¬ k = 36 by omega)]) ?_ ?_ ?_ ?_ ?_ ?_
      all_goals simp only [hu_k, hu_s, up2_s, hcol_n, hcol_s, ns_k, ms_k, ms_20, upd_s, upd_n, upd_id, up2_id, not_false_eq_true, Nat.reduceEqDiff, Nat.reduceLeDiff, false_and, and_false, if_true, if_false, f_Net_sendPlain, f_Net_sendFor, f_Net_sendWord, f_Net_sendData, f_Mod_data, cS_k, mS_k]
      · exact z5
      · exact t_1_u z6
      · exact t_1_u z7
      · exact t_n_u (by decide) (by decide) zd
      · exact t_o_u (show nI r = hq_r r from (if_neg (by omega)).symm) zo
      · exact t_h_0 zh
    · refine hP_h (m := (b, x, 1, r, 4, nn, r0)) hb hP (fun y hy => ?_) ?_
      · rcases List.mem_cons.mp hy with z | z
        · rw [z]
        · exact iN_m y z
      · simp only [hk_b_s, iN_b]
        exact pr_I_D1b hI hd hst (hm_nodup _) hl3 (fun i => by
          rw [hm_mem, pr_up_e]
          by_cases z : i = r
          · rw [if_pos z]; simp [z]
          · rw [if_neg z]; simp [z])
    · simpa only [hu_k, hu_s, up2_s, hcol_n, hcol_s, ns_k, ms_k, ms_20, upd_s, upd_n, upd_id, up2_id, not_false_eq_true, Nat.reduceEqDiff, Nat.reduceLeDiff, false_and, and_false, if_true, if_false, f_Net_sendPlain, f_Net_sendFor, f_Net_sendWord, f_Net_sendData, f_Mod_data, cS_k] using hW
    · simpa only [List.append_assoc, List.cons_append, List.nil_append, List.append_nil] using hq_C_of (by simp only [hu_k, not_false_eq_true, Nat.reduceEqDiff]) (by simp only [hu_k, not_false_eq_true, Nat.reduceEqDiff]) (by simp only [hu_k, not_false_eq_true, Nat.reduceEqDiff]) g.2
/-- a PUTS at the home -/
theorem sh_2 {n t mx : Nat} {u w : hd_V} {s : Nat → Nat → Nat} {ms : Nat → Nat → Int} {d ow : Nat → Nat} {sh : Nat → Nat → Bool} {nx sz wt : Nat → Nat} {a e : List hq_M} {b r r0 : Nat} {x : Int32} {nn : Int} (hZ : hz n t mx u w s ms d ow sh nx sz wt (a ++ e)) (hP : hk_P s ms d ow sh (a ++ (b, x, 2, r, 4, nn, r0) :: e)) (hN : hk_n n s wt) (hW : hk_W hk_F s nx sz wt (u 11) (u 12)) (hC : hq_C u (a ++ (b, x, 2, r, 4, nn, r0) :: e)) (hl : (a ++ (b, x, 2, r, 4, nn, r0) :: e).length ≤ 20) (hb : b < 4)  : ∃ d' ow' sh' new, hS n t mx hk_F (f_Home_receive (hq_s u a.length) u) (f_Mod_atHome (nI 2) (nI r) (nI b) x w) s ms d' ow' sh' nx sz wt (a ++ e ++ new) (a ++ (b, x, 2, r, 4, nn, r0) :: e ++ new) := by
  have hm := hC.2.2.2.2 a.length (b, x, 2, r, 4, nn, r0) (by simp)
  unfold hq_c hq_e at hm
  simp only [Prod.mk.injEq] at hm
  obtain ⟨m0, m1, m2, m3, m4, m5, m6⟩ := hm
  have hI := hP.1 b hb
  rw [hk_b_app, hk_b_s] at hI
  have hsh := pr_9_at hI.2.2.2.2.2
  unfold pr_sh at hsh
  simp only at hsh
  have hle : (a ++ e).length ≤ 19 := by
    rw [List.length_append, List.length_cons] at hl
    rw [List.length_append]
    omega
  have i2 := ix1 hb
  obtain ⟨H1, H2, H3, H4⟩ := hI.2.2.2.2.1
  have z5 := hZ.2.2.2.2.2.2.2.2.2.2.2.1
  have z6 := hZ.2.2.2.2.2.2.2.2.2.2.2.2.1
  have z7 := hZ.2.2.2.2.2.2.2.2.2.2.2.2.2.1
  have zd := hZ.2.2.2.2.2.2.2.2.2.2.2.2.2.2.1
  have zo := hZ.2.2.2.2.2.2.2.2.2.2.2.2.2.2.2.1
  have zh := hZ.2.2.2.2.2.2.2.2.2.2.2.2.2.2.2.2.1
  have e5 : w 33 0 b = u 5 0 b := z5 b hb
  have e6 : u 6 0 b = nI (d b) := (zd b hb).1
  have f6 : w 34 0 b = nI (d b) := (z6 b hb).trans e6
  have e7 : u 7 0 b = hq_r (ow b) := zo b hb
  have f7 : w 35 0 b = hq_r (ow b) := (z7 b hb).trans e7
  have e8 : u 8 0 b = hk_m (sh b) := (zh b hb).1
  have e9 := (zh b hb).2

  have hr : r < 4 := (hsh.2.1 (by decide)).1
  have i4 := ix4 hb hr
  have cb : (hk_m (pr_up (sh b) r false) = 0) = (nI (hm_l (pr_up (sh b) r false)).length = 0) := propext (hm_l0 _).symm
  have sc := fun (v : hd_V) (hv : ∀ c, c < 4 → v 36 0 (4 * b + c) = if pr_up sh b (pr_up (sh b) r false) b c = true then 1 else 0) => (sh_count (sh := pr_up sh b (pr_up (sh b) r false)) (v := v) hb hv).1
  rw [pr_up_s] at sc
  have w36 : ∀ c, c < 4 → (hd_u w 36 0 (4 * b + r) 0) 36 0 (4 * b + c) = if pr_up (sh b) r false c = true then 1 else 0 := by
    intro c hc
    rw [hd_u_eq, pr_up_e]
    by_cases z : c = r
    · rw [if_pos (by omega), if_pos z]; rfl
    · rw [if_neg (by omega), if_neg z]; exact e9 c hc
  have sc1 := sc (hd_u w 36 0 (4 * b + r) 0) w36
  by_cases hx : d b = 1 ∧ ∀ i, i < 4 → pr_up (sh b) r false i = false
  · have hm0 : hk_m (pr_up (sh b) r false) = 0 := (hm_0 _).mpr hx.2
    have hl0 : nI (hm_l (pr_up (sh b) r false)).length = 0 := (hm_l0 _).mpr hm0
    have d1 := hx.1
    have c1 : f_Home_receive (hq_s u a.length) u = f_Net_send 7 4 (nI r) (nI b) 0 0 (-1) (hd_u (hd_u u 8 0 b (hk_m (pr_up (sh b) r false))) 6 0 b 0) := by
      unfold f_Home_receive f_Home_takeBack
      simp only [hu_k, hu_s, up2_s, hcol_n, hcol_s, ns_k, ms_k, ms_20, upd_s, upd_n, upd_id, up2_id, not_false_eq_true, Nat.reduceEqDiff, Nat.reduceLeDiff, false_and, and_false, if_true, if_false, f_Net_sendPlain, f_Net_sendFor, f_Net_sendWord, f_Net_sendData, f_Mod_data, m0, m1, m3, i2, e6, e8, d1, hm0, hm_and _ hr, show (nI 2 = (0 : Int32)) = False by decide, show (nI 2 = (1 : Int32)) = False by decide, show (nI 2 = (2 : Int32)) = True by decide, show (nI 1 = (1 : Int32)) = True by decide]
    have w1 : f_Mod_atHome (nI 2) (nI r) (nI b) x w = f_Mod_send 7 4 (nI r) (nI b) 0 0 (-1) (hd_u (hd_u w 36 0 (4 * b + r) 0) 34 0 b 0) := by
      unfold f_Mod_atHome
      simp only [hu_k, hu_s, up2_s, hcol_n, hcol_s, ns_k, ms_k, ms_20, upd_s, upd_n, upd_id, up2_id, not_false_eq_true, Nat.reduceEqDiff, Nat.reduceLeDiff, false_and, and_false, if_true, if_false, f_Net_sendPlain, f_Net_sendFor, f_Net_sendWord, f_Net_sendData, f_Mod_data, i2, i4, f6, d1, sc1, hl0, show (nI 2 = (0 : Int32)) = False by decide, show (nI 2 = (1 : Int32)) = False by decide, show (nI 2 = (8 : Int32)) = False by decide, show (nI 2 = (3 : Int32)) = False by decide, show (nI 1 = (1 : Int32)) = True by decide, show (nI 1 = (2 : Int32)) = False by decide]
    have z0 : hz n t mx (hd_u (hd_u u 8 0 b (hk_m (pr_up (sh b) r false))) 6 0 b 0) (hd_u (hd_u w 36 0 (4 * b + r) 0) 34 0 b 0) s ms (pr_up d b 0) (pr_up ow b (ow b)) (pr_up sh b (pr_up (sh b) r false)) nx sz wt (a ++ e) := by
      refine hh_home hZ (fun k hk => by simp only [hu_k (show ¬ k = 5 by omega), hu_k (show ¬ k = 6 by omega), hu_k (show ¬ k = 7 by omega), hu_k (show ¬ k = 8 by omega)]) (fun k hk => by simp only [hu_k (show ¬ k = 33 by omega), hu_k (show ¬ k = 34 by omega), hu_k (show ¬ k = 35 by omega), hu_k (show ¬ k = 36 by omega)]) ?_ ?_ ?_ ?_ ?_ ?_
      all_goals simp only [hu_k, hu_s, up2_s, hcol_n, hcol_s, ns_k, ms_k, ms_20, upd_s, upd_n, upd_id, up2_id, not_false_eq_true, Nat.reduceEqDiff, Nat.reduceLeDiff, false_and, and_false, if_true, if_false, f_Net_sendPlain, f_Net_sendFor, f_Net_sendWord, f_Net_sendData, f_Mod_data]
      · exact z5
      · exact t_1_u z6
      · exact z7
      · exact t_n_u (by decide) (by decide) zd
      · exact t_o_k zo
      · exact t_h_r hr zh hb rfl
    have zC : hq_C (hd_u (hd_u u 8 0 b (hk_m (pr_up (sh b) r false))) 6 0 b 0) (a ++ (b, x, 2, r, 4, nn, r0) :: e) := hq_C_of (by simp only [hu_k, not_false_eq_true, Nat.reduceEqDiff]) (by simp only [hu_k, not_false_eq_true, Nat.reduceEqDiff]) (by simp only [hu_k, not_false_eq_true, Nat.reduceEqDiff]) hC
    have g := hz_send (m := (b, 0, 7, 4, r, 0, 5)) z0 zC (by omega) (by omega) (he_h (kk := 7) (by decide))
    rw [c1, w1]
    refine ⟨pr_up d b 0, pr_up ow b (ow b), pr_up sh b (pr_up (sh b) r false), [(b, 0, 7, 4, r, 0, 5)], g.1, ?_, hN, ?_, ?_⟩
    · refine hP_h (m := (b, x, 2, r, 4, nn, r0)) hb hP (by simp) ?_
      simp only [hk_b_s, hk_b_nil]
      exact pr_I_D2 hI (Or.inr ⟨hx.1, rfl, hx.2⟩)
    · simpa only [hu_k, hu_s, up2_s, hcol_n, hcol_s, ns_k, ms_k, ms_20, upd_s, upd_n, upd_id, up2_id, not_false_eq_true, Nat.reduceEqDiff, Nat.reduceLeDiff, false_and, and_false, if_true, if_false, f_Net_sendPlain, f_Net_sendFor, f_Net_sendWord, f_Net_sendData, f_Mod_data] using hW
    · simpa only [List.append_assoc, List.cons_append, List.nil_append, List.append_nil] using g.2
  · have cc : ¬ d b = 1 ∨ ¬ hk_m (pr_up (sh b) r false) = 0 := by
      by_cases z : d b = 1
      · exact Or.inr (fun q => hx ⟨z, (hm_0 _).mp q⟩)
      · exact Or.inl z
    have c1 : f_Home_receive (hq_s u a.length) u = f_Net_send 7 4 (nI r) (nI b) 0 0 (-1) (hd_u u 8 0 b (hk_m (pr_up (sh b) r false))) := by
      unfold f_Home_receive f_Home_takeBack
      rcases cc with z | z
      · have z1 : (nI (d b) = 1) = False := propext ⟨fun q => z ((nIe (b := 1) (by omega) (by omega)).mp q), False.elim⟩
        simp only [hu_k, hu_s, up2_s, hcol_n, hcol_s, ns_k, ms_k, ms_20, upd_s, upd_n, upd_id, up2_id, not_false_eq_true, Nat.reduceEqDiff, Nat.reduceLeDiff, false_and, and_false, if_true, if_false, f_Net_sendPlain, f_Net_sendFor, f_Net_sendWord, f_Net_sendData, f_Mod_data, m0, m1, m3, i2, e6, e8, z1, hm_and _ hr, show (nI 2 = (0 : Int32)) = False by decide, show (nI 2 = (1 : Int32)) = False by decide, show (nI 2 = (2 : Int32)) = True by decide]
      · have z1 : (hk_m (pr_up (sh b) r false) = 0) = False := propext ⟨z, False.elim⟩
        simp only [hu_k, hu_s, up2_s, hcol_n, hcol_s, ns_k, ms_k, ms_20, upd_s, upd_n, upd_id, up2_id, not_false_eq_true, Nat.reduceEqDiff, Nat.reduceLeDiff, false_and, and_false, if_true, if_false, f_Net_sendPlain, f_Net_sendFor, f_Net_sendWord, f_Net_sendData, f_Mod_data, m0, m1, m3, i2, e6, e8, z1, hm_and _ hr, show (nI 2 = (0 : Int32)) = False by decide, show (nI 2 = (1 : Int32)) = False by decide, show (nI 2 = (2 : Int32)) = True by decide]
        split <;> rfl
    have w1 : f_Mod_atHome (nI 2) (nI r) (nI b) x w = f_Mod_send 7 4 (nI r) (nI b) 0 0 (-1) (hd_u w 36 0 (4 * b + r) 0) := by
      have hid : hd_u (hd_u w 36 0 (4 * b + r) 0) 34 0 b (nI (d b)) = hd_u w 36 0 (4 * b + r) 0 := hu_id' (by rw [hd_un _ _ _ _ _ (by omega)]; exact f6)
      unfold f_Mod_atHome
      rcases cc with z | z
      · have z1 : (nI (d b) = 1) = False := propext ⟨fun q => z ((nIe (b := 1) (by omega) (by omega)).mp q), False.elim⟩
        simp only [hu_k, hu_s, up2_s, hcol_n, hcol_s, ns_k, ms_k, ms_20, upd_s, upd_n, upd_id, up2_id, not_false_eq_true, Nat.reduceEqDiff, Nat.reduceLeDiff, false_and, and_false, if_true, if_false, f_Net_sendPlain, f_Net_sendFor, f_Net_sendWord, f_Net_sendData, f_Mod_data, i2, i4, f6, hid, z1, show (nI 2 = (0 : Int32)) = False by decide, show (nI 2 = (1 : Int32)) = False by decide, show (nI 2 = (8 : Int32)) = False by decide, show (nI 2 = (3 : Int32)) = False by decide]
        try (split <;> rfl)
      · have z1 : (nI (hm_l (pr_up (sh b) r false)).length = 0) = False := by rw [← cb]; exact propext ⟨z, False.elim⟩
        simp only [hu_k, hu_s, up2_s, hcol_n, hcol_s, ns_k, ms_k, ms_20, upd_s, upd_n, upd_id, up2_id, not_false_eq_true, Nat.reduceEqDiff, Nat.reduceLeDiff, false_and, and_false, if_true, if_false, f_Net_sendPlain, f_Net_sendFor, f_Net_sendWord, f_Net_sendData, f_Mod_data, i2, i4, f6, sc1, hid, z1, show (nI 2 = (0 : Int32)) = False by decide, show (nI 2 = (1 : Int32)) = False by decide, show (nI 2 = (8 : Int32)) = False by decide, show (nI 2 = (3 : Int32)) = False by decide]
        try (split <;> rfl)
        try (split <;> split <;> rfl)
    have z0 : hz n t mx (hd_u u 8 0 b (hk_m (pr_up (sh b) r false))) (hd_u w 36 0 (4 * b + r) 0) s ms (pr_up d b (d b)) (pr_up ow b (ow b)) (pr_up sh b (pr_up (sh b) r false)) nx sz wt (a ++ e) := by
      refine hh_home hZ (fun k hk => by simp only [hu_k (show ¬ k = 5 by omega), hu_k (show ¬ k = 6 by omega), hu_k (show ¬ k = 7 by omega), hu_k (show ¬ k = 8 by omega)]) (fun k hk => by simp only [hu_k (show ¬ k = 33 by omega), hu_k (show ¬ k = 34 by omega), hu_k (show ¬ k = 35 by omega), hu_k (show ¬ k = 36 by omega)]) ?_ ?_ ?_ ?_ ?_ ?_
      all_goals simp only [hu_k, hu_s, up2_s, hcol_n, hcol_s, ns_k, ms_k, ms_20, upd_s, upd_n, upd_id, up2_id, not_false_eq_true, Nat.reduceEqDiff, Nat.reduceLeDiff, false_and, and_false, if_true, if_false, f_Net_sendPlain, f_Net_sendFor, f_Net_sendWord, f_Net_sendData, f_Mod_data]
      · exact z5
      · exact z6
      · exact z7
      · exact t_n_k zd
      · exact t_o_k zo
      · exact t_h_r hr zh hb rfl
    have zC : hq_C (hd_u u 8 0 b (hk_m (pr_up (sh b) r false))) (a ++ (b, x, 2, r, 4, nn, r0) :: e) := hq_C_of (by simp only [hu_k, not_false_eq_true, Nat.reduceEqDiff]) (by simp only [hu_k, not_false_eq_true, Nat.reduceEqDiff]) (by simp only [hu_k, not_false_eq_true, Nat.reduceEqDiff]) hC
    have g := hz_send (m := (b, 0, 7, 4, r, 0, 5)) z0 zC (by omega) (by omega) (he_h (kk := 7) (by decide))
    rw [c1, w1]
    refine ⟨pr_up d b (d b), pr_up ow b (ow b), pr_up sh b (pr_up (sh b) r false), [(b, 0, 7, 4, r, 0, 5)], g.1, ?_, hN, ?_, ?_⟩
    · refine hP_h (m := (b, x, 2, r, 4, nn, r0)) hb hP (by simp) ?_
      simp only [hk_b_s, hk_b_nil]
      exact pr_I_D2 hI (Or.inl rfl)
    · simpa only [hu_k, hu_s, up2_s, hcol_n, hcol_s, ns_k, ms_k, ms_20, upd_s, upd_n, upd_id, up2_id, not_false_eq_true, Nat.reduceEqDiff, Nat.reduceLeDiff, false_and, and_false, if_true, if_false, f_Net_sendPlain, f_Net_sendFor, f_Net_sendWord, f_Net_sendData, f_Mod_data] using hW
    · simpa only [List.append_assoc, List.cons_append, List.nil_append, List.append_nil] using g.2
/-- a PUTM at the home -/
theorem sh_3 {n t mx : Nat} {u w : hd_V} {s : Nat → Nat → Nat} {ms : Nat → Nat → Int} {d ow : Nat → Nat} {sh : Nat → Nat → Bool} {nx sz wt : Nat → Nat} {a e : List hq_M} {b r r0 : Nat} {x : Int32} {nn : Int} (hZ : hz n t mx u w s ms d ow sh nx sz wt (a ++ e)) (hP : hk_P s ms d ow sh (a ++ (b, x, 3, r, 4, nn, r0) :: e)) (hN : hk_n n s wt) (hW : hk_W hk_F s nx sz wt (u 11) (u 12)) (hC : hq_C u (a ++ (b, x, 3, r, 4, nn, r0) :: e)) (hl : (a ++ (b, x, 3, r, 4, nn, r0) :: e).length ≤ 20) (hb : b < 4)  : ∃ d' ow' sh' new, hS n t mx hk_F (f_Home_receive (hq_s u a.length) u) (f_Mod_atHome (nI 3) (nI r) (nI b) x w) s ms d' ow' sh' nx sz wt (a ++ e ++ new) (a ++ (b, x, 3, r, 4, nn, r0) :: e ++ new) := by
  have hm := hC.2.2.2.2 a.length (b, x, 3, r, 4, nn, r0) (by simp)
  unfold hq_c hq_e at hm
  simp only [Prod.mk.injEq] at hm
  obtain ⟨m0, m1, m2, m3, m4, m5, m6⟩ := hm
  have hI := hP.1 b hb
  rw [hk_b_app, hk_b_s] at hI
  have hsh := pr_9_at hI.2.2.2.2.2
  unfold pr_sh at hsh
  simp only at hsh
  have hle : (a ++ e).length ≤ 19 := by
    rw [List.length_append, List.length_cons] at hl
    rw [List.length_append]
    omega
  have i2 := ix1 hb
  obtain ⟨H1, H2, H3, H4⟩ := hI.2.2.2.2.1
  have z5 := hZ.2.2.2.2.2.2.2.2.2.2.2.1
  have z6 := hZ.2.2.2.2.2.2.2.2.2.2.2.2.1
  have z7 := hZ.2.2.2.2.2.2.2.2.2.2.2.2.2.1
  have zd := hZ.2.2.2.2.2.2.2.2.2.2.2.2.2.2.1
  have zo := hZ.2.2.2.2.2.2.2.2.2.2.2.2.2.2.2.1
  have zh := hZ.2.2.2.2.2.2.2.2.2.2.2.2.2.2.2.2.1
  have e5 : w 33 0 b = u 5 0 b := z5 b hb
  have e6 : u 6 0 b = nI (d b) := (zd b hb).1
  have f6 : w 34 0 b = nI (d b) := (z6 b hb).trans e6
  have e7 : u 7 0 b = hq_r (ow b) := zo b hb
  have f7 : w 35 0 b = hq_r (ow b) := (z7 b hb).trans e7
  have e8 : u 8 0 b = hk_m (sh b) := (zh b hb).1
  have e9 := (zh b hb).2

  have hr : r < 4 := (hsh.2.1 (by decide)).1
  have i4 := ix4 hb hr
  have hov : ow b < 4 ∨ ow b = 5 := by
    by_cases z : d b = 2
    · exact Or.inl (H2 z)
    · exact Or.inr (H3 z)
  by_cases hro : ow b = r
  · have hd : d b = 2 := by
      by_cases z : d b = 2
      · exact z
      · have := H3 z; omega
    have n7 : (hq_r (ow b) = nI r) = True := propext ⟨fun _ => trivial, fun _ => (hq_r_n hov hr).mpr hro⟩
    have c1 : f_Home_receive (hq_s u a.length) u = f_Net_send 7 4 (nI r) (nI b) 0 0 (-1) (hd_u (hd_u (hd_u u 5 0 b x) 7 0 b (-1)) 6 0 b 0) := by
      unfold f_Home_receive f_Home_takeBackWord
      simp only [hu_k, hu_s, up2_s, hcol_n, hcol_s, ns_k, ms_k, ms_20, upd_s, upd_n, upd_id, up2_id, not_false_eq_true, Nat.reduceEqDiff, Nat.reduceLeDiff, false_and, and_false, if_true, if_false, f_Net_sendPlain, f_Net_sendFor, f_Net_sendWord, f_Net_sendData, f_Mod_data, m0, m1, m3, m4, i2, e7, n7, show (nI 3 = (0 : Int32)) = False by decide, show (nI 3 = (1 : Int32)) = False by decide, show (nI 3 = (2 : Int32)) = False by decide, show (nI 3 = (3 : Int32)) = True by decide]
    have w1 : f_Mod_atHome (nI 3) (nI r) (nI b) x w = f_Mod_send 7 4 (nI r) (nI b) 0 0 (-1) (hd_u (hd_u (hd_u w 33 0 b x) 35 0 b (-1)) 34 0 b 0) := by
      unfold f_Mod_atHome
      simp only [hu_k, hu_s, up2_s, hcol_n, hcol_s, ns_k, ms_k, ms_20, upd_s, upd_n, upd_id, up2_id, not_false_eq_true, Nat.reduceEqDiff, Nat.reduceLeDiff, false_and, and_false, if_true, if_false, f_Net_sendPlain, f_Net_sendFor, f_Net_sendWord, f_Net_sendData, f_Mod_data, i2, f6, hd, f7, n7, show (nI 3 = (0 : Int32)) = False by decide, show (nI 3 = (1 : Int32)) = False by decide, show (nI 3 = (8 : Int32)) = False by decide, show (nI 3 = (3 : Int32)) = True by decide, show (nI 2 = (2 : Int32)) = True by decide]
    have z0 : hz n t mx (hd_u (hd_u (hd_u u 5 0 b x) 7 0 b (-1)) 6 0 b 0) (hd_u (hd_u (hd_u w 33 0 b x) 35 0 b (-1)) 34 0 b 0) s ms (pr_up d b 0) (pr_up ow b 5) (pr_up sh b (sh b)) nx sz wt (a ++ e) := by
      refine hh_home hZ (fun k hk => by simp only [hu_k (show ¬ k = 5 by omega), hu_k (show ¬ k = 6 by omega), hu_k (show ¬ k = 7 by omega), hu_k (show ¬ k = 8 by omega)]) (fun k hk => by simp only [hu_k (show ¬ k = 33 by omega), hu_k (show ¬ k = 34 by omega), hu_k (show ¬ k = 35 by omega), hu_k (show ¬ k = 36 by omega)]) ?_ ?_ ?_ ?_ ?_ ?_
      all_goals simp only [hu_k, hu_s, up2_s, hcol_n, hcol_s, ns_k, ms_k, ms_20, upd_s, upd_n, upd_id, up2_id, not_false_eq_true, Nat.reduceEqDiff, Nat.reduceLeDiff, false_and, and_false, if_true, if_false, f_Net_sendPlain, f_Net_sendFor, f_Net_sendWord, f_Net_sendData, f_Mod_data]
      · exact t_1_u z5
      · exact t_1_u z6
      · exact t_1_u z7
      · exact t_n_u (by decide) (by decide) zd
      · exact t_o_u (by decide) zo
      · exact t_h_k zh
    have zC : hq_C (hd_u (hd_u (hd_u u 5 0 b x) 7 0 b (-1)) 6 0 b 0) (a ++ (b, x, 3, r, 4, nn, r0) :: e) := hq_C_of (by simp only [hu_k, not_false_eq_true, Nat.reduceEqDiff]) (by simp only [hu_k, not_false_eq_true, Nat.reduceEqDiff]) (by simp only [hu_k, not_false_eq_true, Nat.reduceEqDiff]) hC
    have g := hz_send (m := (b, 0, 7, 4, r, 0, 5)) z0 zC (by omega) (by omega) (he_h (kk := 7) (by decide))
    rw [c1, w1]
    refine ⟨pr_up d b 0, pr_up ow b 5, pr_up sh b (sh b), [(b, 0, 7, 4, r, 0, 5)], g.1, ?_, hN, ?_, ?_⟩
    · refine hP_h (m := (b, x, 3, r, 4, nn, r0)) hb hP (by simp) ?_
      simp only [hk_b_s, hk_b_nil]
      exact pr_I_D3o hI hd hro
    · simpa only [hu_k, hu_s, up2_s, hcol_n, hcol_s, ns_k, ms_k, ms_20, upd_s, upd_n, upd_id, up2_id, not_false_eq_true, Nat.reduceEqDiff, Nat.reduceLeDiff, false_and, and_false, if_true, if_false, f_Net_sendPlain, f_Net_sendFor, f_Net_sendWord, f_Net_sendData, f_Mod_data] using hW
    · simpa only [List.append_assoc, List.cons_append, List.nil_append, List.append_nil] using g.2
  have n7 : (hq_r (ow b) = nI r) = False := propext ⟨fun z => hro ((hq_r_n hov hr).mp z), False.elim⟩
  have cb : (hk_m (pr_up (sh b) r false) = 0) = (nI (hm_l (pr_up (sh b) r false)).length = 0) := propext (hm_l0 _).symm
  have sc := fun (v : hd_V) (hv : ∀ c, c < 4 → v 36 0 (4 * b + c) = if pr_up sh b (pr_up (sh b) r false) b c = true then 1 else 0) => (sh_count (sh := pr_up sh b (pr_up (sh b) r false)) (v := v) hb hv).1
  rw [pr_up_s] at sc
  have w36 : ∀ c, c < 4 → (hd_u w 36 0 (4 * b + r) 0) 36 0 (4 * b + c) = if pr_up (sh b) r false c = true then 1 else 0 := by
    intro c hc
    rw [hd_u_eq, pr_up_e]
    by_cases z : c = r
    · rw [if_pos (by omega), if_pos z]; rfl
    · rw [if_neg (by omega), if_neg z]; exact e9 c hc
  have sc1 := sc (hd_u w 36 0 (4 * b + r) 0) w36
  by_cases hx : d b = 1 ∧ ∀ i, i < 4 → pr_up (sh b) r false i = false
  · have hm0 : hk_m (pr_up (sh b) r false) = 0 := (hm_0 _).mpr hx.2
    have hl0 : nI (hm_l (pr_up (sh b) r false)).length = 0 := (hm_l0 _).mpr hm0
    have d1 := hx.1
    have c1 : f_Home_receive (hq_s u a.length) u = f_Net_send 7 4 (nI r) (nI b) 0 0 (-1) (hd_u (hd_u u 8 0 b (hk_m (pr_up (sh b) r false))) 6 0 b 0) := by
      unfold f_Home_receive f_Home_takeBackWord f_Home_takeBack
      simp only [hu_k, hu_s, up2_s, hcol_n, hcol_s, ns_k, ms_k, ms_20, upd_s, upd_n, upd_id, up2_id, not_false_eq_true, Nat.reduceEqDiff, Nat.reduceLeDiff, false_and, and_false, if_true, if_false, f_Net_sendPlain, f_Net_sendFor, f_Net_sendWord, f_Net_sendData, f_Mod_data, m0, m1, m3, i2, e6, e8, d1, hm0, hm_and _ hr, show (nI 3 = (0 : Int32)) = False by decide, show (nI 3 = (1 : Int32)) = False by decide, show (nI 3 = (2 : Int32)) = False by decide, show (nI 3 = (3 : Int32)) = True by decide, m4, e7, n7, show (nI 1 = (1 : Int32)) = True by decide]
    have w1 : f_Mod_atHome (nI 3) (nI r) (nI b) x w = f_Mod_send 7 4 (nI r) (nI b) 0 0 (-1) (hd_u (hd_u w 36 0 (4 * b + r) 0) 34 0 b 0) := by
      unfold f_Mod_atHome
      simp only [hu_k, hu_s, up2_s, hcol_n, hcol_s, ns_k, ms_k, ms_20, upd_s, upd_n, upd_id, up2_id, not_false_eq_true, Nat.reduceEqDiff, Nat.reduceLeDiff, false_and, and_false, if_true, if_false, f_Net_sendPlain, f_Net_sendFor, f_Net_sendWord, f_Net_sendData, f_Mod_data, i2, i4, f6, d1, sc1, hl0, show (nI 3 = (0 : Int32)) = False by decide, show (nI 3 = (1 : Int32)) = False by decide, show (nI 3 = (8 : Int32)) = False by decide, show (nI 3 = (3 : Int32)) = True by decide, f7, n7, show (nI 1 = (1 : Int32)) = True by decide, show (nI 1 = (2 : Int32)) = False by decide]
    have z0 : hz n t mx (hd_u (hd_u u 8 0 b (hk_m (pr_up (sh b) r false))) 6 0 b 0) (hd_u (hd_u w 36 0 (4 * b + r) 0) 34 0 b 0) s ms (pr_up d b 0) (pr_up ow b (ow b)) (pr_up sh b (pr_up (sh b) r false)) nx sz wt (a ++ e) := by
      refine hh_home hZ (fun k hk => by simp only [hu_k (show ¬ k = 5 by omega), hu_k (show ¬ k = 6 by omega), hu_k (show ¬ k = 7 by omega), hu_k (show ¬ k = 8 by omega)]) (fun k hk => by simp only [hu_k (show ¬ k = 33 by omega), hu_k (show ¬ k = 34 by omega), hu_k (show ¬ k = 35 by omega), hu_k (show ¬ k = 36 by omega)]) ?_ ?_ ?_ ?_ ?_ ?_
      all_goals simp only [hu_k, hu_s, up2_s, hcol_n, hcol_s, ns_k, ms_k, ms_20, upd_s, upd_n, upd_id, up2_id, not_false_eq_true, Nat.reduceEqDiff, Nat.reduceLeDiff, false_and, and_false, if_true, if_false, f_Net_sendPlain, f_Net_sendFor, f_Net_sendWord, f_Net_sendData, f_Mod_data]
      · exact z5
      · exact t_1_u z6
      · exact z7
      · exact t_n_u (by decide) (by decide) zd
      · exact t_o_k zo
      · exact t_h_r hr zh hb rfl
    have zC : hq_C (hd_u (hd_u u 8 0 b (hk_m (pr_up (sh b) r false))) 6 0 b 0) (a ++ (b, x, 3, r, 4, nn, r0) :: e) := hq_C_of (by simp only [hu_k, not_false_eq_true, Nat.reduceEqDiff]) (by simp only [hu_k, not_false_eq_true, Nat.reduceEqDiff]) (by simp only [hu_k, not_false_eq_true, Nat.reduceEqDiff]) hC
    have g := hz_send (m := (b, 0, 7, 4, r, 0, 5)) z0 zC (by omega) (by omega) (he_h (kk := 7) (by decide))
    rw [c1, w1]
    refine ⟨pr_up d b 0, pr_up ow b (ow b), pr_up sh b (pr_up (sh b) r false), [(b, 0, 7, 4, r, 0, 5)], g.1, ?_, hN, ?_, ?_⟩
    · refine hP_h (m := (b, x, 3, r, 4, nn, r0)) hb hP (by simp) ?_
      simp only [hk_b_s, hk_b_nil]
      exact pr_I_D3 hI hro (Or.inr ⟨hx.1, rfl, hx.2⟩)
    · simpa only [hu_k, hu_s, up2_s, hcol_n, hcol_s, ns_k, ms_k, ms_20, upd_s, upd_n, upd_id, up2_id, not_false_eq_true, Nat.reduceEqDiff, Nat.reduceLeDiff, false_and, and_false, if_true, if_false, f_Net_sendPlain, f_Net_sendFor, f_Net_sendWord, f_Net_sendData, f_Mod_data] using hW
    · simpa only [List.append_assoc, List.cons_append, List.nil_append, List.append_nil] using g.2
  · have cc : ¬ d b = 1 ∨ ¬ hk_m (pr_up (sh b) r false) = 0 := by
      by_cases z : d b = 1
      · exact Or.inr (fun q => hx ⟨z, (hm_0 _).mp q⟩)
      · exact Or.inl z
    have c1 : f_Home_receive (hq_s u a.length) u = f_Net_send 7 4 (nI r) (nI b) 0 0 (-1) (hd_u u 8 0 b (hk_m (pr_up (sh b) r false))) := by
      unfold f_Home_receive f_Home_takeBackWord f_Home_takeBack
      rcases cc with z | z
      · have z1 : (nI (d b) = 1) = False := propext ⟨fun q => z ((nIe (b := 1) (by omega) (by omega)).mp q), False.elim⟩
        simp only [hu_k, hu_s, up2_s, hcol_n, hcol_s, ns_k, ms_k, ms_20, upd_s, upd_n, upd_id, up2_id, not_false_eq_true, Nat.reduceEqDiff, Nat.reduceLeDiff, false_and, and_false, if_true, if_false, f_Net_sendPlain, f_Net_sendFor, f_Net_sendWord, f_Net_sendData, f_Mod_data, m0, m1, m3, i2, e6, e8, z1, hm_and _ hr, show (nI 3 = (0 : Int32)) = False by decide, show (nI 3 = (1 : Int32)) = False by decide, show (nI 3 = (2 : Int32)) = False by decide, show (nI 3 = (3 : Int32)) = True by decide, m4, e7, n7]
      · have z1 : (hk_m (pr_up (sh b) r false) = 0) = False := propext ⟨z, False.elim⟩
        simp only [hu_k, hu_s, up2_s, hcol_n, hcol_s, ns_k, ms_k, ms_20, upd_s, upd_n, upd_id, up2_id, not_false_eq_true, Nat.reduceEqDiff, Nat.reduceLeDiff, false_and, and_false, if_true, if_false, f_Net_sendPlain, f_Net_sendFor, f_Net_sendWord, f_Net_sendData, f_Mod_data, m0, m1, m3, i2, e6, e8, z1, hm_and _ hr, show (nI 3 = (0 : Int32)) = False by decide, show (nI 3 = (1 : Int32)) = False by decide, show (nI 3 = (2 : Int32)) = False by decide, show (nI 3 = (3 : Int32)) = True by decide, m4, e7, n7]
        split <;> rfl
    have w1 : f_Mod_atHome (nI 3) (nI r) (nI b) x w = f_Mod_send 7 4 (nI r) (nI b) 0 0 (-1) (hd_u w 36 0 (4 * b + r) 0) := by
      have hid : hd_u (hd_u w 36 0 (4 * b + r) 0) 34 0 b (nI (d b)) = hd_u w 36 0 (4 * b + r) 0 := hu_id' (by rw [hd_un _ _ _ _ _ (by omega)]; exact f6)
      unfold f_Mod_atHome
      rcases cc with z | z
      · have z1 : (nI (d b) = 1) = False := propext ⟨fun q => z ((nIe (b := 1) (by omega) (by omega)).mp q), False.elim⟩
        simp only [hu_k, hu_s, up2_s, hcol_n, hcol_s, ns_k, ms_k, ms_20, upd_s, upd_n, upd_id, up2_id, not_false_eq_true, Nat.reduceEqDiff, Nat.reduceLeDiff, false_and, and_false, if_true, if_false, f_Net_sendPlain, f_Net_sendFor, f_Net_sendWord, f_Net_sendData, f_Mod_data, i2, i4, f6, hid, z1, show (nI 3 = (0 : Int32)) = False by decide, show (nI 3 = (1 : Int32)) = False by decide, show (nI 3 = (8 : Int32)) = False by decide, show (nI 3 = (3 : Int32)) = True by decide, f7, n7]
        try (split <;> rfl)
      · have z1 : (nI (hm_l (pr_up (sh b) r false)).length = 0) = False := by rw [← cb]; exact propext ⟨z, False.elim⟩
        simp only [hu_k, hu_s, up2_s, hcol_n, hcol_s, ns_k, ms_k, ms_20, upd_s, upd_n, upd_id, up2_id, not_false_eq_true, Nat.reduceEqDiff, Nat.reduceLeDiff, false_and, and_false, if_true, if_false, f_Net_sendPlain, f_Net_sendFor, f_Net_sendWord, f_Net_sendData, f_Mod_data, i2, i4, f6, sc1, hid, z1, show (nI 3 = (0 : Int32)) = False by decide, show (nI 3 = (1 : Int32)) = False by decide, show (nI 3 = (8 : Int32)) = False by decide, show (nI 3 = (3 : Int32)) = True by decide, f7, n7]
        try (split <;> rfl)
        try (split <;> split <;> rfl)
    have z0 : hz n t mx (hd_u u 8 0 b (hk_m (pr_up (sh b) r false))) (hd_u w 36 0 (4 * b + r) 0) s ms (pr_up d b (d b)) (pr_up ow b (ow b)) (pr_up sh b (pr_up (sh b) r false)) nx sz wt (a ++ e) := by
      refine hh_home hZ (fun k hk => by simp only [hu_k (show ¬ k = 5 by omega), hu_k (show ¬ k = 6 by omega), hu_k (show ¬ k = 7 by omega), hu_k (show ¬ k = 8 by omega)]) (fun k hk => by simp only [hu_k (show ¬ k = 33 by omega), hu_k (show ¬ k = 34 by omega), hu_k (show ¬ k = 35 by omega), hu_k (show ¬ k = 36 by omega)]) ?_ ?_ ?_ ?_ ?_ ?_
      all_goals simp only [hu_k, hu_s, up2_s, hcol_n, hcol_s, ns_k, ms_k, ms_20, upd_s, upd_n, upd_id, up2_id, not_false_eq_true, Nat.reduceEqDiff, Nat.reduceLeDiff, false_and, and_false, if_true, if_false, f_Net_sendPlain, f_Net_sendFor, f_Net_sendWord, f_Net_sendData, f_Mod_data]
      · exact z5
      · exact z6
      · exact z7
      · exact t_n_k zd
      · exact t_o_k zo
      · exact t_h_r hr zh hb rfl
    have zC : hq_C (hd_u u 8 0 b (hk_m (pr_up (sh b) r false))) (a ++ (b, x, 3, r, 4, nn, r0) :: e) := hq_C_of (by simp only [hu_k, not_false_eq_true, Nat.reduceEqDiff]) (by simp only [hu_k, not_false_eq_true, Nat.reduceEqDiff]) (by simp only [hu_k, not_false_eq_true, Nat.reduceEqDiff]) hC
    have g := hz_send (m := (b, 0, 7, 4, r, 0, 5)) z0 zC (by omega) (by omega) (he_h (kk := 7) (by decide))
    rw [c1, w1]
    refine ⟨pr_up d b (d b), pr_up ow b (ow b), pr_up sh b (pr_up (sh b) r false), [(b, 0, 7, 4, r, 0, 5)], g.1, ?_, hN, ?_, ?_⟩
    · refine hP_h (m := (b, x, 3, r, 4, nn, r0)) hb hP (by simp) ?_
      simp only [hk_b_s, hk_b_nil]
      exact pr_I_D3 hI hro (Or.inl rfl)
    · simpa only [hu_k, hu_s, up2_s, hcol_n, hcol_s, ns_k, ms_k, ms_20, upd_s, upd_n, upd_id, up2_id, not_false_eq_true, Nat.reduceEqDiff, Nat.reduceLeDiff, false_and, and_false, if_true, if_false, f_Net_sendPlain, f_Net_sendFor, f_Net_sendWord, f_Net_sendData, f_Mod_data] using hW
    · simpa only [List.append_assoc, List.cons_append, List.nil_append, List.append_nil] using g.2
/-- DATA at the home -/
theorem sh_8 {n t mx : Nat} {u w : hd_V} {s : Nat → Nat → Nat} {ms : Nat → Nat → Int} {d ow : Nat → Nat} {sh : Nat → Nat → Bool} {nx sz wt : Nat → Nat} {a e : List hq_M} {b r r0 : Nat} {x : Int32} {nn : Int} (hZ : hz n t mx u w s ms d ow sh nx sz wt (a ++ e)) (hP : hk_P s ms d ow sh (a ++ (b, x, 8, r, 4, nn, r0) :: e)) (hN : hk_n n s wt) (hW : hk_W hk_F s nx sz wt (u 11) (u 12)) (hC : hq_C u (a ++ (b, x, 8, r, 4, nn, r0) :: e)) (hl : (a ++ (b, x, 8, r, 4, nn, r0) :: e).length ≤ 20) (hb : b < 4)  : ∃ d' ow' sh' new, hS n t mx hk_F (f_Home_receive (hq_s u a.length) u) (f_Mod_atHome (nI 8) (nI r) (nI b) x w) s ms d' ow' sh' nx sz wt (a ++ e ++ new) (a ++ (b, x, 8, r, 4, nn, r0) :: e ++ new) := by
  have hm := hC.2.2.2.2 a.length (b, x, 8, r, 4, nn, r0) (by simp)
  unfold hq_c hq_e at hm
  simp only [Prod.mk.injEq] at hm
  obtain ⟨m0, m1, m2, m3, m4, m5, m6⟩ := hm
  have hI := hP.1 b hb
  rw [hk_b_app, hk_b_s] at hI
  have hsh := pr_9_at hI.2.2.2.2.2
  unfold pr_sh at hsh
  simp only at hsh
  have hle : (a ++ e).length ≤ 19 := by
    rw [List.length_append, List.length_cons] at hl
    rw [List.length_append]
    omega
  have i2 := ix1 hb
  obtain ⟨H1, H2, H3, H4⟩ := hI.2.2.2.2.1
  have z5 := hZ.2.2.2.2.2.2.2.2.2.2.2.1
  have z6 := hZ.2.2.2.2.2.2.2.2.2.2.2.2.1
  have z7 := hZ.2.2.2.2.2.2.2.2.2.2.2.2.2.1
  have zd := hZ.2.2.2.2.2.2.2.2.2.2.2.2.2.2.1
  have zo := hZ.2.2.2.2.2.2.2.2.2.2.2.2.2.2.2.1
  have zh := hZ.2.2.2.2.2.2.2.2.2.2.2.2.2.2.2.2.1
  have e5 : w 33 0 b = u 5 0 b := z5 b hb
  have e6 : u 6 0 b = nI (d b) := (zd b hb).1
  have f6 : w 34 0 b = nI (d b) := (z6 b hb).trans e6
  have e7 : u 7 0 b = hq_r (ow b) := zo b hb
  have f7 : w 35 0 b = hq_r (ow b) := (z7 b hb).trans e7
  have e8 : u 8 0 b = hk_m (sh b) := (zh b hb).1
  have e9 := (zh b hb).2

  have sc := (sh_count (sh := sh) (v := hd_u w 33 0 b x) hb (fun c hc => by rw [hd_un _ _ _ _ _ (by omega)]; exact e9 c hc)).1
  by_cases hx : ∀ i, i < 4 → sh b i = false
  · have hm0 : hk_m (sh b) = 0 := (hm_0 _).mpr hx
    have hl0 : nI (hm_l (sh b)).length = 0 := (hm_l0 _).mpr hm0
    have c1 : f_Home_receive (hq_s u a.length) u = hd_u (hd_u u 5 0 b x) 6 0 b 0 := by
      unfold f_Home_receive f_Home_endSharing
      simp only [hu_k, hu_s, up2_s, hcol_n, hcol_s, ns_k, ms_k, ms_20, upd_s, upd_n, upd_id, up2_id, not_false_eq_true, Nat.reduceEqDiff, Nat.reduceLeDiff, false_and, and_false, if_true, if_false, f_Net_sendPlain, f_Net_sendFor, f_Net_sendWord, f_Net_sendData, f_Mod_data, m0, m1, m3, m4, i2, e8, hm0, show (nI 8 = (0 : Int32)) = False by decide, show (nI 8 = (1 : Int32)) = False by decide, show (nI 8 = (2 : Int32)) = False by decide, show (nI 8 = (3 : Int32)) = False by decide, show (nI 8 = (8 : Int32)) = True by decide]
    have w1 : f_Mod_atHome (nI 8) (nI r) (nI b) x w = hd_u (hd_u w 33 0 b x) 34 0 b 0 := by
      unfold f_Mod_atHome
      simp only [hu_k, hu_s, up2_s, hcol_n, hcol_s, ns_k, ms_k, ms_20, upd_s, upd_n, upd_id, up2_id, not_false_eq_true, Nat.reduceEqDiff, Nat.reduceLeDiff, false_and, and_false, if_true, if_false, f_Net_sendPlain, f_Net_sendFor, f_Net_sendWord, f_Net_sendData, f_Mod_data, i2, sc, hl0, show (nI 8 = (0 : Int32)) = False by decide, show (nI 8 = (1 : Int32)) = False by decide, show (nI 8 = (8 : Int32)) = True by decide]
    have zC : hq_C (hd_u (hd_u u 5 0 b x) 6 0 b 0) (a ++ (b, x, 8, r, 4, nn, r0) :: e) := hq_C_of (by simp only [hu_k, not_false_eq_true, Nat.reduceEqDiff]) (by simp only [hu_k, not_false_eq_true, Nat.reduceEqDiff]) (by simp only [hu_k, not_false_eq_true, Nat.reduceEqDiff]) hC
    rw [c1, w1]
    refine ⟨pr_up d b 0, pr_up ow b (ow b), pr_up sh b (sh b), [], ?_, ?_, hN, ?_, ?_⟩
    · rw [List.append_nil]
      refine hh_home hZ (fun k hk => by simp only [hu_k (show ¬ k = 5 by omega), hu_k (show ¬ k = 6 by omega), hu_k (show ¬ k = 7 by omega), hu_k (show ¬ k = 8 by omega)]) (fun k hk => by simp only [hu_k (show ¬ k = 33 by omega), hu_k (show ¬ k = 34 by omega), hu_k (show ¬ k = 35 by omega), hu_k (show ¬ k = 36 by omega)]) ?_ ?_ ?_ ?_ ?_ ?_
      all_goals simp only [hu_k, hu_s, up2_s, hcol_n, hcol_s, ns_k, ms_k, ms_20, upd_s, upd_n, upd_id, up2_id, not_false_eq_true, Nat.reduceEqDiff, Nat.reduceLeDiff, false_and, and_false, if_true, if_false, f_Net_sendPlain, f_Net_sendFor, f_Net_sendWord, f_Net_sendData, f_Mod_data]
      · exact t_1_u z5
      · exact t_1_u z6
      · exact z7
      · exact t_n_u (by decide) (by decide) zd
      · exact t_o_k zo
      · exact t_h_k zh
    · refine hP_h (m := (b, x, 8, r, 4, nn, r0)) hb hP (by simp) ?_
      simp only [hk_b_nil, List.append_nil]
      exact (pr_I_D8h hI (Or.inr ⟨rfl, hx⟩)).2
    · simpa only [hu_k, hu_s, up2_s, hcol_n, hcol_s, ns_k, ms_k, ms_20, upd_s, upd_n, upd_id, up2_id, not_false_eq_true, Nat.reduceEqDiff, Nat.reduceLeDiff, false_and, and_false, if_true, if_false, f_Net_sendPlain, f_Net_sendFor, f_Net_sendWord, f_Net_sendData, f_Mod_data] using hW
    · simpa only [List.append_assoc, List.cons_append, List.nil_append, List.append_nil] using zC
  · have hm0 : (hk_m (sh b) = 0) = False := propext ⟨fun z => hx ((hm_0 _).mp z), False.elim⟩
    have hl0 : (nI (hm_l (sh b)).length = 0) = False := propext ⟨fun z => hx ((hm_0 _).mp ((hm_l0 _).mp z)), False.elim⟩
    have c1 : f_Home_receive (hq_s u a.length) u = hd_u (hd_u u 5 0 b x) 6 0 b 1 := by
      unfold f_Home_receive f_Home_endSharing
      simp only [hu_k, hu_s, up2_s, hcol_n, hcol_s, ns_k, ms_k, ms_20, upd_s, upd_n, upd_id, up2_id, not_false_eq_true, Nat.reduceEqDiff, Nat.reduceLeDiff, false_and, and_false, if_true, if_false, f_Net_sendPlain, f_Net_sendFor, f_Net_sendWord, f_Net_sendData, f_Mod_data, m0, m1, m3, m4, i2, e8, hm0, show (nI 8 = (0 : Int32)) = False by decide, show (nI 8 = (1 : Int32)) = False by decide, show (nI 8 = (2 : Int32)) = False by decide, show (nI 8 = (3 : Int32)) = False by decide, show (nI 8 = (8 : Int32)) = True by decide]
    have w1 : f_Mod_atHome (nI 8) (nI r) (nI b) x w = hd_u (hd_u w 33 0 b x) 34 0 b 1 := by
      unfold f_Mod_atHome
      simp only [hu_k, hu_s, up2_s, hcol_n, hcol_s, ns_k, ms_k, ms_20, upd_s, upd_n, upd_id, up2_id, not_false_eq_true, Nat.reduceEqDiff, Nat.reduceLeDiff, false_and, and_false, if_true, if_false, f_Net_sendPlain, f_Net_sendFor, f_Net_sendWord, f_Net_sendData, f_Mod_data, i2, sc, hl0, show (nI 8 = (0 : Int32)) = False by decide, show (nI 8 = (1 : Int32)) = False by decide, show (nI 8 = (8 : Int32)) = True by decide]
    have zC : hq_C (hd_u (hd_u u 5 0 b x) 6 0 b 1) (a ++ (b, x, 8, r, 4, nn, r0) :: e) := hq_C_of (by simp only [hu_k, not_false_eq_true, Nat.reduceEqDiff]) (by simp only [hu_k, not_false_eq_true, Nat.reduceEqDiff]) (by simp only [hu_k, not_false_eq_true, Nat.reduceEqDiff]) hC
    rw [c1, w1]
    refine ⟨pr_up d b 1, pr_up ow b (ow b), pr_up sh b (sh b), [], ?_, ?_, hN, ?_, ?_⟩
    · rw [List.append_nil]
      refine hh_home hZ (fun k hk => by simp only [hu_k (show ¬ k = 5 by omega), hu_k (show ¬ k = 6 by omega), hu_k (show ¬ k = 7 by omega), hu_k (show ¬ k = 8 by omega)]) (fun k hk => by simp only [hu_k (show ¬ k = 33 by omega), hu_k (show ¬ k = 34 by omega), hu_k (show ¬ k = 35 by omega), hu_k (show ¬ k = 36 by omega)]) ?_ ?_ ?_ ?_ ?_ ?_
      all_goals simp only [hu_k, hu_s, up2_s, hcol_n, hcol_s, ns_k, ms_k, ms_20, upd_s, upd_n, upd_id, up2_id, not_false_eq_true, Nat.reduceEqDiff, Nat.reduceLeDiff, false_and, and_false, if_true, if_false, f_Net_sendPlain, f_Net_sendFor, f_Net_sendWord, f_Net_sendData, f_Mod_data]
      · exact t_1_u z5
      · exact t_1_u z6
      · exact z7
      · exact t_n_u (by decide) (by decide) zd
      · exact t_o_k zo
      · exact t_h_k zh
    · refine hP_h (m := (b, x, 8, r, 4, nn, r0)) hb hP (by simp) ?_
      simp only [hk_b_nil, List.append_nil]
      exact (pr_I_D8h hI (Or.inl rfl)).2
    · simpa only [hu_k, hu_s, up2_s, hcol_n, hcol_s, ns_k, ms_k, ms_20, upd_s, upd_n, upd_id, up2_id, not_false_eq_true, Nat.reduceEqDiff, Nat.reduceLeDiff, false_and, and_false, if_true, if_false, f_Net_sendPlain, f_Net_sendFor, f_Net_sendWord, f_Net_sendData, f_Mod_data] using hW
    · simpa only [List.append_assoc, List.cons_append, List.nil_append, List.append_nil] using zC
