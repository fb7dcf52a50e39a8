theorem he_p {b k f t : Nat} {w kk : Int32} (hk : nI k = kk) : hq_e (b, w, k, f, t, 0, 5) = (kk, nI f, nI t, nI b, w, 0, -1) := by
  unfold hq_e
  simp only [hk, show Int32.ofInt 0 = 0 by decide, show hq_r 5 = -1 by decide]
theorem he_4 {b k f : Nat} {w kk : Int32} (hk : nI k = kk) : hq_e (b, w, k, f, 4, 0, 5) = (kk, nI f, 4, nI b, w, 0, -1) := by
  rw [he_p hk, show nI 4 = 4 by decide]
theorem he_h {b k t : Nat} {w kk : Int32} (hk : nI k = kk) : hq_e (b, w, k, 4, t, 0, 5) = (kk, 4, nI t, nI b, w, 0, -1) := by
  rw [he_p hk, show nI 4 = 4 by decide]
theorem he_f {b k t r : Nat} {kk : Int32} (hk : nI k = kk) (hr : r < 4) : hq_e (b, 0, k, 4, t, 0, r) = (kk, 4, nI t, nI b, 0, 0, nI r) := by
  unfold hq_e
  simp only [hk, show Int32.ofInt 0 = 0 by decide, show nI 4 = 4 by decide, show hq_r r = nI r from if_neg (by omega)]
theorem hq_C_3 {u : hd_V} {a p : List hq_M} {m : hq_M} {j : Nat} (h : hq_C u (a ++ m :: p)) (hj : hq_s u a.length = j) : u 3 j 3 = nI m.1 := by
  have := h.2.2.2.2 a.length m (by simp)
  rw [hj] at this
  unfold hq_c hq_e at this
  simp only [Prod.mk.injEq] at this
  exact this.2.2.2.1
/-- an INV at a core -/
theorem sa_6 {n t mx : Nat} {u w : hd_V} {s : Nat → Nat → Nat} {ms : Nat → Nat → Int} {d ow : Nat → Nat} {sh : Nat → Nat → Bool} {nx sz wt : Nat → Nat} {a e : List hq_M} {c b f r : Nat} {x : Int32} {nn : Int} (hZ : hz n t mx u w s ms d ow sh nx sz wt (a ++ e)) (hP : hk_P s ms d ow sh (a ++ (b, x, 6, f, c, nn, r) :: e)) (hN : hk_n n s wt) (hW : hk_W hk_F s nx sz wt (u 11) (u 12)) (hC : hq_C u (a ++ (b, x, 6, f, c, nn, r) :: e)) (hl : (a ++ (b, x, 6, f, c, nn, r) :: e).length ≤ 20) (hc : c < 4) (hb : b < 4) (hq : pr_fq c (hk_b b a) = []) (hst : ¬ s b c = 3) : c < n ∧ ∃ U' s' ms' wt' new, f_Core_receive c (hq_s u a.length) u = f_Core_performIfAllowed c (nI b) U' ∧ hS n t mx (fun c' b' => c' = c ∧ b' = b) U' (f_Mod_atCore (nI 6) (nI c) (nI b) x (Int32.ofInt nn) (hq_r r) w) s' ms' d ow sh nx sz wt' (a ++ e ++ new) (a ++ (b, x, 6, f, c, nn, r) :: e ++ new) := by
  have hm := hC.2.2.2.2 a.length (b, x, 6, f, c, nn, r) (by simp)
  unfold hq_c hq_e at hm
  simp only [Prod.mk.injEq] at hm
  obtain ⟨m0, m1, m2, m3, m4, m5, m6⟩ := hm
  have hI := hP.1 b hb
  rw [hk_b_app, hk_b_s] at hI
  have hlt := pr_c_le (hI.1 c hc)
  have hsh := pr_9_at hI.2.2.2.2.2
  unfold pr_sh at hsh
  simp only at hsh
  have hwt : wt c ≤ 2 := (hZ.2.2.2.2.2.2.2.2.2.2.1 c hc).2.2
  have u0 : u 10 c 0 = nI c := (hZ.2.2.2.2.2.2.2.2.2.2.2.2.2.2.2.2.2.1.2.2.2.2 c hc).1
  have i2 := ix1 hb
  have i1 := ix1 hc
  have i4 := ix4 hc hb
  have e13 : u 13 c b = nI (s b c) := hZ.2.2.2.1 c hc b hb
  have e28 : w 28 0 (4 * c + b) = nI (s b c) := (hZ.1 c hc b hb).trans e13
  have e29 : w 29 0 (4 * c + b) = u 14 c b := hZ.2.1 c hc b hb
  have hle : (a ++ e).length ≤ 19 := by
    rw [List.length_append, List.length_cons] at hl
    rw [List.length_append]
    omega
  have hn : ¬ s b c = 0 → c < n := fun z => by
    rcases Nat.lt_or_ge c n with y | y
    · exact y
    · exact absurd ((hN c y hc).2 b hb) z
  have hN' : ∀ x', c < n → hk_n n (pu s b c x') wt := fun x' hcn c' k1 k2 => ⟨(hN c' k1 k2).1, fun b' hb' => by rw [pu_e, if_neg (by omega)]; exact (hN c' k1 k2).2 b' hb'⟩
  have hmem : ∀ m ∈ a ++ e, m.1 < 4 := fun m hm => hP.2 m (by simp at hm ⊢; rcases hm with z | z <;> simp [z])

  have hr : r < 4 := (hsh.2.2.2.1 (by omega)).1
  have er : hq_r r = nI r := if_neg (by omega)
  have st : s b c = 1 ∨ s b c = 6 ∨ s b c = 9 := by
    have := pr_tab_is6 (s b c) hlt _ _ (hI.2.1 c hc) (by rw [pr_fq_pop (by decide) hq]; rfl)
    clear hI hP hsh
    omega
  have g0 := hz_send (m := (b, 0, 9, c, r, 0, 5)) hZ hC (by simp at hl ⊢; omega) (by simp at hle ⊢; omega) (he_p (kk := 9) (by decide))
  rcases st with z | z | z
  · have hcn := hn (by omega)
    rw [z] at e13 e28
    have c1 : f_Core_giveUp c (hq_s u a.length) u = hd_u (f_Net_send 9 (nI c) (nI r) (nI b) 0 0 (-1) u) 13 c b (nI 0) := by
      unfold f_Core_giveUp
      simp only [hu_k, hu_s, up2_s, hcol_n, hcol_s, ns_k, ms_k, ms_20, upd_s, upd_n, upd_id, up2_id, not_false_eq_true, Nat.reduceEqDiff, Nat.reduceLeDiff, false_and, and_false, if_true, if_false, f_Net_sendPlain, f_Net_sendFor, f_Net_sendWord, f_Net_sendData, f_Mod_data, u0, m3, m6, er, i2, e13, show (nI 1 = (1 : Int32)) = True by decide]
      rfl
    have w1 : f_Mod_atCore (nI 6) (nI c) (nI b) x (Int32.ofInt nn) (hq_r r) w = hd_u (f_Mod_send 9 (nI c) (nI r) (nI b) 0 0 (-1) w) 28 0 (4 * c + b) (nI 0) := by
      unfold f_Mod_atCore
      simp only [hu_k, hu_s, up2_s, hcol_n, hcol_s, ns_k, ms_k, ms_20, upd_s, upd_n, upd_id, up2_id, not_false_eq_true, Nat.reduceEqDiff, Nat.reduceLeDiff, false_and, and_false, if_true, if_false, f_Net_sendPlain, f_Net_sendFor, f_Net_sendWord, f_Net_sendData, f_Mod_data, er, i4, e28, e29, show (nI 6 = (8 : Int32)) = False by decide, show (nI 6 = (9 : Int32)) = False by decide, show (nI 6 = (6 : Int32)) = True by decide, show (nI 1 = (1 : Int32)) = True by decide]
      rfl
    have hC2 : hq_C (hd_u (f_Net_send 9 (nI c) (nI r) (nI b) 0 0 (-1) u) 13 c b (nI 0)) (a ++ (b, x, 6, f, c, nn, r) :: e ++ [(b, 0, 9, c, r, 0, 5)]) := hq_C_of (u := (f_Net_send 9 (nI c) (nI r) (nI b) 0 0 (-1) u)) (by simp only [hu_k, not_false_eq_true, Nat.reduceEqDiff]) (by simp only [hu_k, not_false_eq_true, Nat.reduceEqDiff]) (by simp only [hu_k, not_false_eq_true, Nat.reduceEqDiff]) (by have k := g0.2; simpa only [List.append_assoc, List.cons_append, List.nil_append] using k)
    refine ⟨hcn, hd_u (f_Net_send 9 (nI c) (nI r) (nI b) 0 0 (-1) u) 13 c b (nI 0), pu s b c 0, ms, wt, [(b, 0, 9, c, r, 0, 5)], ?_, ?_, ?_, ?_, ?_, hC2⟩
    · unfold f_Core_receive
      simp only [m0, show (nI 6 = (4 : Int32)) = False by decide, show (nI 6 = (5 : Int32)) = False by decide, show (nI 6 = (6 : Int32)) = True by decide, if_true, if_false, c1]
      have k3 : hd_u (f_Net_send 9 (nI c) (nI r) (nI b) 0 0 (-1) u) 13 c b (nI 0) 3 (hq_s u a.length) 3 = nI b := hq_C_3 (m := (b, x, 6, f, c, nn, r)) (p := e ++ [(b, 0, 9, c, r, 0, 5)]) (by simpa only [List.append_assoc, List.cons_append] using hC2) (by unfold hq_s; simp only [hu_k, hu_s, up2_s, hcol_n, hcol_s, ns_k, ms_k, ms_20, upd_s, upd_n, upd_id, up2_id, not_false_eq_true, Nat.reduceEqDiff, Nat.reduceLeDiff, false_and, and_false, if_true, if_false, f_Net_sendPlain, f_Net_sendFor, f_Net_sendWord, f_Net_sendData, f_Mod_data])
      rw [k3]
    · rw [w1]
      have k := hz_line g0.1 hc hb (x := 0) (fun q1 q2 => by omega)
      simpa only [List.append_assoc, List.cons_append, List.nil_append] using k
    · refine hk_P_of (b := b) hP (fun b' hb' => ⟨pu_n hb', rfl, rfl, rfl, rfl, ?_⟩) (fun _ => ?_) ?_
      · have hb2 : ¬ b = b' := fun q => hb' q.symm
        simp only [hk_b_app, hk_b_n hb2, hk_b_nil, List.append_nil]
      · rw [pu_s]
        have k := pr_I_D6_1 hI hc hq z
        simpa only [hk_b_app, hk_b_s, hk_b_nil] using k
      · intro m hm
        rcases List.mem_append.mp hm with k | k
        · exact hmem m k
        · simp only [List.mem_cons, List.not_mem_nil, or_false] at k
          rw [k]; exact hb
    · exact hN' _ hcn
    · have k := hk_W_A (x := 0) hc hb (by omega) hwt hW
      simpa only [hu_k, hu_s, up2_s, hcol_n, hcol_s, ns_k, ms_k, ms_20, upd_s, upd_n, upd_id, up2_id, not_false_eq_true, Nat.reduceEqDiff, Nat.reduceLeDiff, false_and, and_false, if_true, if_false, f_Net_sendPlain, f_Net_sendFor, f_Net_sendWord, f_Net_sendData, f_Mod_data] using k
  · have hcn := hn (by omega)
    rw [z] at e13 e28
    have c1 : f_Core_giveUp c (hq_s u a.length) u = hd_u (f_Net_send 9 (nI c) (nI r) (nI b) 0 0 (-1) u) 13 c b (nI 4) := by
      unfold f_Core_giveUp
      simp only [hu_k, hu_s, up2_s, hcol_n, hcol_s, ns_k, ms_k, ms_20, upd_s, upd_n, upd_id, up2_id, not_false_eq_true, Nat.reduceEqDiff, Nat.reduceLeDiff, false_and, and_false, if_true, if_false, f_Net_sendPlain, f_Net_sendFor, f_Net_sendWord, f_Net_sendData, f_Mod_data, u0, m3, m6, er, i2, e13, show (nI 6 = (1 : Int32)) = False by decide, show (nI 6 = (6 : Int32)) = True by decide]
      rfl
    have w1 : f_Mod_atCore (nI 6) (nI c) (nI b) x (Int32.ofInt nn) (hq_r r) w = hd_u (f_Mod_send 9 (nI c) (nI r) (nI b) 0 0 (-1) w) 28 0 (4 * c + b) (nI 4) := by
      unfold f_Mod_atCore
      simp only [hu_k, hu_s, up2_s, hcol_n, hcol_s, ns_k, ms_k, ms_20, upd_s, upd_n, upd_id, up2_id, not_false_eq_true, Nat.reduceEqDiff, Nat.reduceLeDiff, false_and, and_false, if_true, if_false, f_Net_sendPlain, f_Net_sendFor, f_Net_sendWord, f_Net_sendData, f_Mod_data, er, i4, e28, e29, show (nI 6 = (8 : Int32)) = False by decide, show (nI 6 = (9 : Int32)) = False by decide, show (nI 6 = (6 : Int32)) = True by decide, show (nI 6 = (1 : Int32)) = False by decide, show (nI 6 = (6 : Int32)) = True by decide]
      rfl
    have hC2 : hq_C (hd_u (f_Net_send 9 (nI c) (nI r) (nI b) 0 0 (-1) u) 13 c b (nI 4)) (a ++ (b, x, 6, f, c, nn, r) :: e ++ [(b, 0, 9, c, r, 0, 5)]) := hq_C_of (u := (f_Net_send 9 (nI c) (nI r) (nI b) 0 0 (-1) u)) (by simp only [hu_k, not_false_eq_true, Nat.reduceEqDiff]) (by simp only [hu_k, not_false_eq_true, Nat.reduceEqDiff]) (by simp only [hu_k, not_false_eq_true, Nat.reduceEqDiff]) (by have k := g0.2; simpa only [List.append_assoc, List.cons_append, List.nil_append] using k)
    refine ⟨hcn, hd_u (f_Net_send 9 (nI c) (nI r) (nI b) 0 0 (-1) u) 13 c b (nI 4), pu s b c 4, ms, wt, [(b, 0, 9, c, r, 0, 5)], ?_, ?_, ?_, ?_, ?_, hC2⟩
    · unfold f_Core_receive
      simp only [m0, show (nI 6 = (4 : Int32)) = False by decide, show (nI 6 = (5 : Int32)) = False by decide, show (nI 6 = (6 : Int32)) = True by decide, if_true, if_false, c1]
      have k3 : hd_u (f_Net_send 9 (nI c) (nI r) (nI b) 0 0 (-1) u) 13 c b (nI 4) 3 (hq_s u a.length) 3 = nI b := hq_C_3 (m := (b, x, 6, f, c, nn, r)) (p := e ++ [(b, 0, 9, c, r, 0, 5)]) (by simpa only [List.append_assoc, List.cons_append] using hC2) (by unfold hq_s; simp only [hu_k, hu_s, up2_s, hcol_n, hcol_s, ns_k, ms_k, ms_20, upd_s, upd_n, upd_id, up2_id, not_false_eq_true, Nat.reduceEqDiff, Nat.reduceLeDiff, false_and, and_false, if_true, if_false, f_Net_sendPlain, f_Net_sendFor, f_Net_sendWord, f_Net_sendData, f_Mod_data])
      rw [k3]
    · rw [w1]
      have k := hz_line g0.1 hc hb (x := 4) (fun q1 q2 => by omega)
      simpa only [List.append_assoc, List.cons_append, List.nil_append] using k
    · refine hk_P_of (b := b) hP (fun b' hb' => ⟨pu_n hb', rfl, rfl, rfl, rfl, ?_⟩) (fun _ => ?_) ?_
      · have hb2 : ¬ b = b' := fun q => hb' q.symm
        simp only [hk_b_app, hk_b_n hb2, hk_b_nil, List.append_nil]
      · rw [pu_s]
        have k := pr_I_D6_6 hI hc hq z
        simpa only [hk_b_app, hk_b_s, hk_b_nil] using k
      · intro m hm
        rcases List.mem_append.mp hm with k | k
        · exact hmem m k
        · simp only [List.mem_cons, List.not_mem_nil, or_false] at k
          rw [k]; exact hb
    · exact hN' _ hcn
    · have k := hk_W_A (x := 4) hc hb (by omega) hwt hW
      simpa only [hu_k, hu_s, up2_s, hcol_n, hcol_s, ns_k, ms_k, ms_20, upd_s, upd_n, upd_id, up2_id, not_false_eq_true, Nat.reduceEqDiff, Nat.reduceLeDiff, false_and, and_false, if_true, if_false, f_Net_sendPlain, f_Net_sendFor, f_Net_sendWord, f_Net_sendData, f_Mod_data] using k
  · have hcn := hn (by omega)
    rw [z] at e13 e28
    have c1 : f_Core_giveUp c (hq_s u a.length) u = hd_u (f_Net_send 9 (nI c) (nI r) (nI b) 0 0 (-1) u) 13 c b (nI 10) := by
      unfold f_Core_giveUp
      simp only [hu_k, hu_s, up2_s, hcol_n, hcol_s, ns_k, ms_k, ms_20, upd_s, upd_n, upd_id, up2_id, not_false_eq_true, Nat.reduceEqDiff, Nat.reduceLeDiff, false_and, and_false, if_true, if_false, f_Net_sendPlain, f_Net_sendFor, f_Net_sendWord, f_Net_sendData, f_Mod_data, u0, m3, m6, er, i2, e13, show (nI 9 = (1 : Int32)) = False by decide, show (nI 9 = (6 : Int32)) = False by decide, show (nI 9 = (9 : Int32)) = True by decide]
      rfl
    have w1 : f_Mod_atCore (nI 6) (nI c) (nI b) x (Int32.ofInt nn) (hq_r r) w = hd_u (f_Mod_send 9 (nI c) (nI r) (nI b) 0 0 (-1) w) 28 0 (4 * c + b) (nI 10) := by
      unfold f_Mod_atCore
      simp only [hu_k, hu_s, up2_s, hcol_n, hcol_s, ns_k, ms_k, ms_20, upd_s, upd_n, upd_id, up2_id, not_false_eq_true, Nat.reduceEqDiff, Nat.reduceLeDiff, false_and, and_false, if_true, if_false, f_Net_sendPlain, f_Net_sendFor, f_Net_sendWord, f_Net_sendData, f_Mod_data, er, i4, e28, e29, show (nI 6 = (8 : Int32)) = False by decide, show (nI 6 = (9 : Int32)) = False by decide, show (nI 6 = (6 : Int32)) = True by decide, show (nI 9 = (1 : Int32)) = False by decide, show (nI 9 = (6 : Int32)) = False by decide]
      rfl
    have hC2 : hq_C (hd_u (f_Net_send 9 (nI c) (nI r) (nI b) 0 0 (-1) u) 13 c b (nI 10)) (a ++ (b, x, 6, f, c, nn, r) :: e ++ [(b, 0, 9, c, r, 0, 5)]) := hq_C_of (u := (f_Net_send 9 (nI c) (nI r) (nI b) 0 0 (-1) u)) (by simp only [hu_k, not_false_eq_true, Nat.reduceEqDiff]) (by simp only [hu_k, not_false_eq_true, Nat.reduceEqDiff]) (by simp only [hu_k, not_false_eq_true, Nat.reduceEqDiff]) (by have k := g0.2; simpa only [List.append_assoc, List.cons_append, List.nil_append] using k)
    refine ⟨hcn, hd_u (f_Net_send 9 (nI c) (nI r) (nI b) 0 0 (-1) u) 13 c b (nI 10), pu s b c 10, ms, wt, [(b, 0, 9, c, r, 0, 5)], ?_, ?_, ?_, ?_, ?_, hC2⟩
    · unfold f_Core_receive
      simp only [m0, show (nI 6 = (4 : Int32)) = False by decide, show (nI 6 = (5 : Int32)) = False by decide, show (nI 6 = (6 : Int32)) = True by decide, if_true, if_false, c1]
      have k3 : hd_u (f_Net_send 9 (nI c) (nI r) (nI b) 0 0 (-1) u) 13 c b (nI 10) 3 (hq_s u a.length) 3 = nI b := hq_C_3 (m := (b, x, 6, f, c, nn, r)) (p := e ++ [(b, 0, 9, c, r, 0, 5)]) (by simpa only [List.append_assoc, List.cons_append] using hC2) (by unfold hq_s; simp only [hu_k, hu_s, up2_s, hcol_n, hcol_s, ns_k, ms_k, ms_20, upd_s, upd_n, upd_id, up2_id, not_false_eq_true, Nat.reduceEqDiff, Nat.reduceLeDiff, false_and, and_false, if_true, if_false, f_Net_sendPlain, f_Net_sendFor, f_Net_sendWord, f_Net_sendData, f_Mod_data])
      rw [k3]
    · rw [w1]
      have k := hz_line g0.1 hc hb (x := 10) (fun q1 q2 => by omega)
      simpa only [List.append_assoc, List.cons_append, List.nil_append] using k
    · refine hk_P_of (b := b) hP (fun b' hb' => ⟨pu_n hb', rfl, rfl, rfl, rfl, ?_⟩) (fun _ => ?_) ?_
      · have hb2 : ¬ b = b' := fun q => hb' q.symm
        simp only [hk_b_app, hk_b_n hb2, hk_b_nil, List.append_nil]
      · rw [pu_s]
        have k := pr_I_D6_9 hI hc hq z
        simpa only [hk_b_app, hk_b_s, hk_b_nil] using k
      · intro m hm
        rcases List.mem_append.mp hm with k | k
        · exact hmem m k
        · simp only [List.mem_cons, List.not_mem_nil, or_false] at k
          rw [k]; exact hb
    · exact hN' _ hcn
    · have k := hk_W_A (x := 10) hc hb (by omega) hwt hW
      simpa only [hu_k, hu_s, up2_s, hcol_n, hcol_s, ns_k, ms_k, ms_20, upd_s, upd_n, upd_id, up2_id, not_false_eq_true, Nat.reduceEqDiff, Nat.reduceLeDiff, false_and, and_false, if_true, if_false, f_Net_sendPlain, f_Net_sendFor, f_Net_sendWord, f_Net_sendData, f_Mod_data] using k
/-- a FWDM at a core -/
theorem sa_5 {n t mx : Nat} {u w : hd_V} {s : Nat → Nat → Nat} {ms : Nat → Nat → Int} {d ow : Nat → Nat} {sh : Nat → Nat → Bool} {nx sz wt : Nat → Nat} {a e : List hq_M} {c b f r : Nat} {x : Int32} {nn : Int} (hZ : hz n t mx u w s ms d ow sh nx sz wt (a ++ e)) (hP : hk_P s ms d ow sh (a ++ (b, x, 5, f, c, nn, r) :: e)) (hN : hk_n n s wt) (hW : hk_W hk_F s nx sz wt (u 11) (u 12)) (hC : hq_C u (a ++ (b, x, 5, f, c, nn, r) :: e)) (hl : (a ++ (b, x, 5, f, c, nn, r) :: e).length ≤ 20) (hc : c < 4) (hb : b < 4) (hq : pr_fq c (hk_b b a) = []) (hst : ¬ (4 ≤ s b c ∧ s b c ≤ 7)) : c < n ∧ ∃ U' s' ms' wt' new, f_Core_receive c (hq_s u a.length) u = f_Core_performIfAllowed c (nI b) U' ∧ hS n t mx (fun c' b' => c' = c ∧ b' = b) U' (f_Mod_atCore (nI 5) (nI c) (nI b) x (Int32.ofInt nn) (hq_r r) w) s' ms' d ow sh nx sz wt' (a ++ e ++ new) (a ++ (b, x, 5, f, c, nn, r) :: e ++ new) := by
  have hm := hC.2.2.2.2 a.length (b, x, 5, f, c, nn, r) (by simp)
  unfold hq_c hq_e at hm
  simp only [Prod.mk.injEq] at hm
  obtain ⟨m0, m1, m2, m3, m4, m5, m6⟩ := hm
  have hI := hP.1 b hb
  rw [hk_b_app, hk_b_s] at hI
  have hlt := pr_c_le (hI.1 c hc)
  have hsh := pr_9_at hI.2.2.2.2.2
  unfold pr_sh at hsh
  simp only at hsh
  have hwt : wt c ≤ 2 := (hZ.2.2.2.2.2.2.2.2.2.2.1 c hc).2.2
  have u0 : u 10 c 0 = nI c := (hZ.2.2.2.2.2.2.2.2.2.2.2.2.2.2.2.2.2.1.2.2.2.2 c hc).1
  have i2 := ix1 hb
  have i1 := ix1 hc
  have i4 := ix4 hc hb
  have e13 : u 13 c b = nI (s b c) := hZ.2.2.2.1 c hc b hb
  have e28 : w 28 0 (4 * c + b) = nI (s b c) := (hZ.1 c hc b hb).trans e13
  have e29 : w 29 0 (4 * c + b) = u 14 c b := hZ.2.1 c hc b hb
  have hle : (a ++ e).length ≤ 19 := by
    rw [List.length_append, List.length_cons] at hl
    rw [List.length_append]
    omega
  have hn : ¬ s b c = 0 → c < n := fun z => by
    rcases Nat.lt_or_ge c n with y | y
    · exact y
    · exact absurd ((hN c y hc).2 b hb) z
  have hN' : ∀ x', c < n → hk_n n (pu s b c x') wt := fun x' hcn c' k1 k2 => ⟨(hN c' k1 k2).1, fun b' hb' => by rw [pu_e, if_neg (by omega)]; exact (hN c' k1 k2).2 b' hb'⟩
  have hmem : ∀ m ∈ a ++ e, m.1 < 4 := fun m hm => hP.2 m (by simp at hm ⊢; rcases hm with z | z <;> simp [z])

  have hr : r < 4 := (hsh.2.2.2.1 (by omega)).1
  have er : hq_r r = nI r := if_neg (by omega)
  have st : s b c = 2 ∨ s b c = 8 := by
    have := pr_tab_is5 (s b c) hlt _ _ (hI.2.1 c hc) (by rw [pr_fq_pop (by decide) hq]; rfl)
    clear hI hP hsh
    omega
  have g0 := hz_send (m := (b, u 14 c b, 8, c, r, 0, 5)) hZ hC (by simp at hl ⊢; omega) (by simp at hle ⊢; omega) (he_p (kk := 8) (by decide))
  rcases st with z | z
  · have hcn := hn (by omega)
    rw [z] at e13 e28
    have c1 : f_Core_handOn c (hq_s u a.length) u = hd_u (f_Net_send 8 (nI c) (nI r) (nI b) (u 14 c b) 0 (-1) u) 13 c b (nI 0) := by
      unfold f_Core_handOn
      simp only [hu_k, hu_s, up2_s, hcol_n, hcol_s, ns_k, ms_k, ms_20, upd_s, upd_n, upd_id, up2_id, not_false_eq_true, Nat.reduceEqDiff, Nat.reduceLeDiff, false_and, and_false, if_true, if_false, f_Net_sendPlain, f_Net_sendFor, f_Net_sendWord, f_Net_sendData, f_Mod_data, u0, m3, m6, er, i2, e13, show (nI 2 = (8 : Int32)) = False by decide]
      rfl
    have w1 : f_Mod_atCore (nI 5) (nI c) (nI b) x (Int32.ofInt nn) (hq_r r) w = hd_u (f_Mod_send 8 (nI c) (nI r) (nI b) (u 14 c b) 0 (-1) w) 28 0 (4 * c + b) (nI 0) := by
      unfold f_Mod_atCore
      simp only [hu_k, hu_s, up2_s, hcol_n, hcol_s, ns_k, ms_k, ms_20, upd_s, upd_n, upd_id, up2_id, not_false_eq_true, Nat.reduceEqDiff, Nat.reduceLeDiff, false_and, and_false, if_true, if_false, f_Net_sendPlain, f_Net_sendFor, f_Net_sendWord, f_Net_sendData, f_Mod_data, er, i4, e28, e29, show (nI 5 = (8 : Int32)) = False by decide, show (nI 5 = (9 : Int32)) = False by decide, show (nI 5 = (6 : Int32)) = False by decide, show (nI 5 = (4 : Int32)) = False by decide, show (nI 5 = (5 : Int32)) = True by decide, show (nI 2 = (2 : Int32)) = True by decide]
      rfl
    have hC2 : hq_C (hd_u (f_Net_send 8 (nI c) (nI r) (nI b) (u 14 c b) 0 (-1) u) 13 c b (nI 0)) (a ++ (b, x, 5, f, c, nn, r) :: e ++ [(b, u 14 c b, 8, c, r, 0, 5)]) := hq_C_of (u := (f_Net_send 8 (nI c) (nI r) (nI b) (u 14 c b) 0 (-1) u)) (by simp only [hu_k, not_false_eq_true, Nat.reduceEqDiff]) (by simp only [hu_k, not_false_eq_true, Nat.reduceEqDiff]) (by simp only [hu_k, not_false_eq_true, Nat.reduceEqDiff]) (by have k := g0.2; simpa only [List.append_assoc, List.cons_append, List.nil_append] using k)
    refine ⟨hcn, hd_u (f_Net_send 8 (nI c) (nI r) (nI b) (u 14 c b) 0 (-1) u) 13 c b (nI 0), pu s b c 0, ms, wt, [(b, u 14 c b, 8, c, r, 0, 5)], ?_, ?_, ?_, ?_, ?_, hC2⟩
    · unfold f_Core_receive
      simp only [m0, show (nI 5 = (4 : Int32)) = False by decide, show (nI 5 = (5 : Int32)) = True by decide, if_true, if_false, c1]
      have k3 : hd_u (f_Net_send 8 (nI c) (nI r) (nI b) (u 14 c b) 0 (-1) u) 13 c b (nI 0) 3 (hq_s u a.length) 3 = nI b := hq_C_3 (m := (b, x, 5, f, c, nn, r)) (p := e ++ [(b, u 14 c b, 8, c, r, 0, 5)]) (by simpa only [List.append_assoc, List.cons_append] using hC2) (by unfold hq_s; simp only [hu_k, hu_s, up2_s, hcol_n, hcol_s, ns_k, ms_k, ms_20, upd_s, upd_n, upd_id, up2_id, not_false_eq_true, Nat.reduceEqDiff, Nat.reduceLeDiff, false_and, and_false, if_true, if_false, f_Net_sendPlain, f_Net_sendFor, f_Net_sendWord, f_Net_sendData, f_Mod_data])
      rw [k3]
    · rw [w1]
      have k := hz_line g0.1 hc hb (x := 0) (fun q1 q2 => by omega)
      simpa only [List.append_assoc, List.cons_append, List.nil_append] using k
    · refine hk_P_of (b := b) hP (fun b' hb' => ⟨pu_n hb', rfl, rfl, rfl, rfl, ?_⟩) (fun _ => ?_) ?_
      · have hb2 : ¬ b = b' := fun q => hb' q.symm
        simp only [hk_b_app, hk_b_n hb2, hk_b_nil, List.append_nil]
      · rw [pu_s]
        have k := pr_I_D5_2 hI hc hq z
        simpa only [hk_b_app, hk_b_s, hk_b_nil] using k
      · intro m hm
        rcases List.mem_append.mp hm with k | k
        · exact hmem m k
        · simp only [List.mem_cons, List.not_mem_nil, or_false] at k
          rw [k]; exact hb
    · exact hN' _ hcn
    · have k := hk_W_A (x := 0) hc hb (by omega) hwt hW
      simpa only [hu_k, hu_s, up2_s, hcol_n, hcol_s, ns_k, ms_k, ms_20, upd_s, upd_n, upd_id, up2_id, not_false_eq_true, Nat.reduceEqDiff, Nat.reduceLeDiff, false_and, and_false, if_true, if_false, f_Net_sendPlain, f_Net_sendFor, f_Net_sendWord, f_Net_sendData, f_Mod_data] using k
  · have hcn := hn (by omega)
    rw [z] at e13 e28
    have c1 : f_Core_handOn c (hq_s u a.length) u = hd_u (f_Net_send 8 (nI c) (nI r) (nI b) (u 14 c b) 0 (-1) u) 13 c b (nI 10) := by
      unfold f_Core_handOn
      simp only [hu_k, hu_s, up2_s, hcol_n, hcol_s, ns_k, ms_k, ms_20, upd_s, upd_n, upd_id, up2_id, not_false_eq_true, Nat.reduceEqDiff, Nat.reduceLeDiff, false_and, and_false, if_true, if_false, f_Net_sendPlain, f_Net_sendFor, f_Net_sendWord, f_Net_sendData, f_Mod_data, u0, m3, m6, er, i2, e13, show (nI 8 = (8 : Int32)) = True by decide]
      rfl
    have w1 : f_Mod_atCore (nI 5) (nI c) (nI b) x (Int32.ofInt nn) (hq_r r) w = hd_u (f_Mod_send 8 (nI c) (nI r) (nI b) (u 14 c b) 0 (-1) w) 28 0 (4 * c + b) (nI 10) := by
      unfold f_Mod_atCore
      simp only [hu_k, hu_s, up2_s, hcol_n, hcol_s, ns_k, ms_k, ms_20, upd_s, upd_n, upd_id, up2_id, not_false_eq_true, Nat.reduceEqDiff, Nat.reduceLeDiff, false_and, and_false, if_true, if_false, f_Net_sendPlain, f_Net_sendFor, f_Net_sendWord, f_Net_sendData, f_Mod_data, er, i4, e28, e29, show (nI 5 = (8 : Int32)) = False by decide, show (nI 5 = (9 : Int32)) = False by decide, show (nI 5 = (6 : Int32)) = False by decide, show (nI 5 = (4 : Int32)) = False by decide, show (nI 5 = (5 : Int32)) = True by decide, show (nI 8 = (2 : Int32)) = False by decide]
      rfl
    have hC2 : hq_C (hd_u (f_Net_send 8 (nI c) (nI r) (nI b) (u 14 c b) 0 (-1) u) 13 c b (nI 10)) (a ++ (b, x, 5, f, c, nn, r) :: e ++ [(b, u 14 c b, 8, c, r, 0, 5)]) := hq_C_of (u := (f_Net_send 8 (nI c) (nI r) (nI b) (u 14 c b) 0 (-1) u)) (by simp only [hu_k, not_false_eq_true, Nat.reduceEqDiff]) (by simp only [hu_k, not_false_eq_true, Nat.reduceEqDiff]) (by simp only [hu_k, not_false_eq_true, Nat.reduceEqDiff]) (by have k := g0.2; simpa only [List.append_assoc, List.cons_append, List.nil_append] using k)
    refine ⟨hcn, hd_u (f_Net_send 8 (nI c) (nI r) (nI b) (u 14 c b) 0 (-1) u) 13 c b (nI 10), pu s b c 10, ms, wt, [(b, u 14 c b, 8, c, r, 0, 5)], ?_, ?_, ?_, ?_, ?_, hC2⟩
    · unfold f_Core_receive
      simp only [m0, show (nI 5 = (4 : Int32)) = False by decide, show (nI 5 = (5 : Int32)) = True by decide, if_true, if_false, c1]
      have k3 : hd_u (f_Net_send 8 (nI c) (nI r) (nI b) (u 14 c b) 0 (-1) u) 13 c b (nI 10) 3 (hq_s u a.length) 3 = nI b := hq_C_3 (m := (b, x, 5, f, c, nn, r)) (p := e ++ [(b, u 14 c b, 8, c, r, 0, 5)]) (by simpa only [List.append_assoc, List.cons_append] using hC2) (by unfold hq_s; simp only [hu_k, hu_s, up2_s, hcol_n, hcol_s, ns_k, ms_k, ms_20, upd_s, upd_n, upd_id, up2_id, not_false_eq_true, Nat.reduceEqDiff, Nat.reduceLeDiff, false_and, and_false, if_true, if_false, f_Net_sendPlain, f_Net_sendFor, f_Net_sendWord, f_Net_sendData, f_Mod_data])
      rw [k3]
    · rw [w1]
      have k := hz_line g0.1 hc hb (x := 10) (fun q1 q2 => by omega)
      simpa only [List.append_assoc, List.cons_append, List.nil_append] using k
    · refine hk_P_of (b := b) hP (fun b' hb' => ⟨pu_n hb', rfl, rfl, rfl, rfl, ?_⟩) (fun _ => ?_) ?_
      · have hb2 : ¬ b = b' := fun q => hb' q.symm
        simp only [hk_b_app, hk_b_n hb2, hk_b_nil, List.append_nil]
      · rw [pu_s]
        have k := pr_I_D5_8 hI hc hq z
        simpa only [hk_b_app, hk_b_s, hk_b_nil] using k
      · intro m hm
        rcases List.mem_append.mp hm with k | k
        · exact hmem m k
        · simp only [List.mem_cons, List.not_mem_nil, or_false] at k
          rw [k]; exact hb
    · exact hN' _ hcn
    · have k := hk_W_A (x := 10) hc hb (by omega) hwt hW
      simpa only [hu_k, hu_s, up2_s, hcol_n, hcol_s, ns_k, ms_k, ms_20, upd_s, upd_n, upd_id, up2_id, not_false_eq_true, Nat.reduceEqDiff, Nat.reduceLeDiff, false_and, and_false, if_true, if_false, f_Net_sendPlain, f_Net_sendFor, f_Net_sendWord, f_Net_sendData, f_Mod_data] using k
/-- a FWDS at a core -/
theorem sa_4 {n t mx : Nat} {u w : hd_V} {s : Nat → Nat → Nat} {ms : Nat → Nat → Int} {d ow : Nat → Nat} {sh : Nat → Nat → Bool} {nx sz wt : Nat → Nat} {a e : List hq_M} {c b f r : Nat} {x : Int32} {nn : Int} (hZ : hz n t mx u w s ms d ow sh nx sz wt (a ++ e)) (hP : hk_P s ms d ow sh (a ++ (b, x, 4, f, c, nn, r) :: e)) (hN : hk_n n s wt) (hW : hk_W hk_F s nx sz wt (u 11) (u 12)) (hC : hq_C u (a ++ (b, x, 4, f, c, nn, r) :: e)) (hl : (a ++ (b, x, 4, f, c, nn, r) :: e).length ≤ 20) (hc : c < 4) (hb : b < 4) (hq : pr_fq c (hk_b b a) = []) (hst : ¬ (4 ≤ s b c ∧ s b c ≤ 7)) : c < n ∧ ∃ U' s' ms' wt' new, f_Core_receive c (hq_s u a.length) u = f_Core_performIfAllowed c (nI b) U' ∧ hS n t mx (fun c' b' => c' = c ∧ b' = b) U' (f_Mod_atCore (nI 4) (nI c) (nI b) x (Int32.ofInt nn) (hq_r r) w) s' ms' d ow sh nx sz wt' (a ++ e ++ new) (a ++ (b, x, 4, f, c, nn, r) :: e ++ new) := by
  have hm := hC.2.2.2.2 a.length (b, x, 4, f, c, nn, r) (by simp)
  unfold hq_c hq_e at hm
  simp only [Prod.mk.injEq] at hm
  obtain ⟨m0, m1, m2, m3, m4, m5, m6⟩ := hm
  have hI := hP.1 b hb
  rw [hk_b_app, hk_b_s] at hI
  have hlt := pr_c_le (hI.1 c hc)
  have hsh := pr_9_at hI.2.2.2.2.2
  unfold pr_sh at hsh
  simp only at hsh
  have hwt : wt c ≤ 2 := (hZ.2.2.2.2.2.2.2.2.2.2.1 c hc).2.2
  have u0 : u 10 c 0 = nI c := (hZ.2.2.2.2.2.2.2.2.2.2.2.2.2.2.2.2.2.1.2.2.2.2 c hc).1
  have i2 := ix1 hb
  have i1 := ix1 hc
  have i4 := ix4 hc hb
  have e13 : u 13 c b = nI (s b c) := hZ.2.2.2.1 c hc b hb
  have e28 : w 28 0 (4 * c + b) = nI (s b c) := (hZ.1 c hc b hb).trans e13
  have e29 : w 29 0 (4 * c + b) = u 14 c b := hZ.2.1 c hc b hb
  have hle : (a ++ e).length ≤ 19 := by
    rw [List.length_append, List.length_cons] at hl
    rw [List.length_append]
    omega
  have hn : ¬ s b c = 0 → c < n := fun z => by
    rcases Nat.lt_or_ge c n with y | y
    · exact y
    · exact absurd ((hN c y hc).2 b hb) z
  have hN' : ∀ x', c < n → hk_n n (pu s b c x') wt := fun x' hcn c' k1 k2 => ⟨(hN c' k1 k2).1, fun b' hb' => by rw [pu_e, if_neg (by omega)]; exact (hN c' k1 k2).2 b' hb'⟩
  have hmem : ∀ m ∈ a ++ e, m.1 < 4 := fun m hm => hP.2 m (by simp at hm ⊢; rcases hm with z | z <;> simp [z])

  have hr : r < 4 := (hsh.2.2.2.1 (by omega)).1
  have er : hq_r r = nI r := if_neg (by omega)
  have st : s b c = 2 ∨ s b c = 8 := by
    have := pr_tab_is4 (s b c) hlt _ _ (hI.2.1 c hc) (by rw [pr_fq_pop (by decide) hq]; rfl)
    clear hI hP hsh
    omega
  have g0 := hz_send (m := (b, u 14 c b, 8, c, r, 0, 5)) hZ hC (by simp at hl ⊢; omega) (by simp at hle ⊢; omega) (he_p (kk := 8) (by decide))
  have g1 := hz_send (m := (b, u 14 c b, 8, c, 4, 0, 5)) g0.1 g0.2 (by simp at hl ⊢; omega) (by simp at hle ⊢; omega) (he_4 (kk := 8) (by decide))
  rcases st with z | z
  · have hcn := hn (by omega)
    rw [z] at e13 e28
    have c1 : f_Core_share c (hq_s u a.length) u = hd_u (f_Net_send 8 (nI c) 4 (nI b) (u 14 c b) 0 (-1) (f_Net_send 8 (nI c) (nI r) (nI b) (u 14 c b) 0 (-1) u)) 13 c b (nI 1) := by
      unfold f_Core_share
      simp only [hu_k, hu_s, up2_s, hcol_n, hcol_s, ns_k, ms_k, ms_20, upd_s, upd_n, upd_id, up2_id, not_false_eq_true, Nat.reduceEqDiff, Nat.reduceLeDiff, false_and, and_false, if_true, if_false, f_Net_sendPlain, f_Net_sendFor, f_Net_sendWord, f_Net_sendData, f_Mod_data, u0, m3, m6, er, i2, e13, show (nI 2 = (8 : Int32)) = False by decide]
      rfl
    have w1 : f_Mod_atCore (nI 4) (nI c) (nI b) x (Int32.ofInt nn) (hq_r r) w = hd_u (f_Mod_send 8 (nI c) 4 (nI b) (u 14 c b) 0 (-1) (f_Mod_send 8 (nI c) (nI r) (nI b) (u 14 c b) 0 (-1) w)) 28 0 (4 * c + b) (nI 1) := by
      unfold f_Mod_atCore
      simp only [hu_k, hu_s, up2_s, hcol_n, hcol_s, ns_k, ms_k, ms_20, upd_s, upd_n, upd_id, up2_id, not_false_eq_true, Nat.reduceEqDiff, Nat.reduceLeDiff, false_and, and_false, if_true, if_false, f_Net_sendPlain, f_Net_sendFor, f_Net_sendWord, f_Net_sendData, f_Mod_data, er, i4, e28, e29, show (nI 4 = (8 : Int32)) = False by decide, show (nI 4 = (9 : Int32)) = False by decide, show (nI 4 = (6 : Int32)) = False by decide, show (nI 4 = (4 : Int32)) = True by decide, show (nI 2 = (2 : Int32)) = True by decide]
      rfl
    have hC2 : hq_C (hd_u (f_Net_send 8 (nI c) 4 (nI b) (u 14 c b) 0 (-1) (f_Net_send 8 (nI c) (nI r) (nI b) (u 14 c b) 0 (-1) u)) 13 c b (nI 1)) (a ++ (b, x, 4, f, c, nn, r) :: e ++ [(b, u 14 c b, 8, c, r, 0, 5), (b, u 14 c b, 8, c, 4, 0, 5)]) := hq_C_of (u := (f_Net_send 8 (nI c) 4 (nI b) (u 14 c b) 0 (-1) (f_Net_send 8 (nI c) (nI r) (nI b) (u 14 c b) 0 (-1) u))) (by simp only [hu_k, not_false_eq_true, Nat.reduceEqDiff]) (by simp only [hu_k, not_false_eq_true, Nat.reduceEqDiff]) (by simp only [hu_k, not_false_eq_true, Nat.reduceEqDiff]) (by have k := g1.2; simpa only [List.append_assoc, List.cons_append, List.nil_append] using k)
    refine ⟨hcn, hd_u (f_Net_send 8 (nI c) 4 (nI b) (u 14 c b) 0 (-1) (f_Net_send 8 (nI c) (nI r) (nI b) (u 14 c b) 0 (-1) u)) 13 c b (nI 1), pu s b c 1, ms, wt, [(b, u 14 c b, 8, c, r, 0, 5), (b, u 14 c b, 8, c, 4, 0, 5)], ?_, ?_, ?_, ?_, ?_, hC2⟩
    · unfold f_Core_receive
      simp only [m0, show (nI 4 = (4 : Int32)) = True by decide, if_true, if_false, c1]
      have k3 : hd_u (f_Net_send 8 (nI c) 4 (nI b) (u 14 c b) 0 (-1) (f_Net_send 8 (nI c) (nI r) (nI b) (u 14 c b) 0 (-1) u)) 13 c b (nI 1) 3 (hq_s u a.length) 3 = nI b := hq_C_3 (m := (b, x, 4, f, c, nn, r)) (p := e ++ [(b, u 14 c b, 8, c, r, 0, 5), (b, u 14 c b, 8, c, 4, 0, 5)]) (by simpa only [List.append_assoc, List.cons_append] using hC2) (by unfold hq_s; simp only [hu_k, hu_s, up2_s, hcol_n, hcol_s, ns_k, ms_k, ms_20, upd_s, upd_n, upd_id, up2_id, not_false_eq_true, Nat.reduceEqDiff, Nat.reduceLeDiff, false_and, and_false, if_true, if_false, f_Net_sendPlain, f_Net_sendFor, f_Net_sendWord, f_Net_sendData, f_Mod_data])
      rw [k3]
    · rw [w1]
      have k := hz_line g1.1 hc hb (x := 1) (fun q1 q2 => by omega)
      simpa only [List.append_assoc, List.cons_append, List.nil_append] using k
    · refine hk_P_of (b := b) hP (fun b' hb' => ⟨pu_n hb', rfl, rfl, rfl, rfl, ?_⟩) (fun _ => ?_) ?_
      · have hb2 : ¬ b = b' := fun q => hb' q.symm
        simp only [hk_b_app, hk_b_n hb2, hk_b_nil, List.append_nil]
      · rw [pu_s]
        have k := pr_I_D4_2 hI hc hq z
        simpa only [hk_b_app, hk_b_s, hk_b_nil] using k
      · intro m hm
        rcases List.mem_append.mp hm with k | k
        · exact hmem m k
        · simp only [List.mem_cons, List.not_mem_nil, or_false] at k
          rcases k with k | k <;> (rw [k]; exact hb)
    · exact hN' _ hcn
    · have k := hk_W_A (x := 1) hc hb (by omega) hwt hW
      simpa only [hu_k, hu_s, up2_s, hcol_n, hcol_s, ns_k, ms_k, ms_20, upd_s, upd_n, upd_id, up2_id, not_false_eq_true, Nat.reduceEqDiff, Nat.reduceLeDiff, false_and, and_false, if_true, if_false, f_Net_sendPlain, f_Net_sendFor, f_Net_sendWord, f_Net_sendData, f_Mod_data] using k
  · have hcn := hn (by omega)
    rw [z] at e13 e28
    have c1 : f_Core_share c (hq_s u a.length) u = hd_u (f_Net_send 8 (nI c) 4 (nI b) (u 14 c b) 0 (-1) (f_Net_send 8 (nI c) (nI r) (nI b) (u 14 c b) 0 (-1) u)) 13 c b (nI 9) := by
      unfold f_Core_share
      simp only [hu_k, hu_s, up2_s, hcol_n, hcol_s, ns_k, ms_k, ms_20, upd_s, upd_n, upd_id, up2_id, not_false_eq_true, Nat.reduceEqDiff, Nat.reduceLeDiff, false_and, and_false, if_true, if_false, f_Net_sendPlain, f_Net_sendFor, f_Net_sendWord, f_Net_sendData, f_Mod_data, u0, m3, m6, er, i2, e13, show (nI 8 = (8 : Int32)) = True by decide]
      rfl
    have w1 : f_Mod_atCore (nI 4) (nI c) (nI b) x (Int32.ofInt nn) (hq_r r) w = hd_u (f_Mod_send 8 (nI c) 4 (nI b) (u 14 c b) 0 (-1) (f_Mod_send 8 (nI c) (nI r) (nI b) (u 14 c b) 0 (-1) w)) 28 0 (4 * c + b) (nI 9) := by
      unfold f_Mod_atCore
      simp only [hu_k, hu_s, up2_s, hcol_n, hcol_s, ns_k, ms_k, ms_20, upd_s, upd_n, upd_id, up2_id, not_false_eq_true, Nat.reduceEqDiff, Nat.reduceLeDiff, false_and, and_false, if_true, if_false, f_Net_sendPlain, f_Net_sendFor, f_Net_sendWord, f_Net_sendData, f_Mod_data, er, i4, e28, e29, show (nI 4 = (8 : Int32)) = False by decide, show (nI 4 = (9 : Int32)) = False by decide, show (nI 4 = (6 : Int32)) = False by decide, show (nI 4 = (4 : Int32)) = True by decide, show (nI 8 = (2 : Int32)) = False by decide]
      rfl
    have hC2 : hq_C (hd_u (f_Net_send 8 (nI c) 4 (nI b) (u 14 c b) 0 (-1) (f_Net_send 8 (nI c) (nI r) (nI b) (u 14 c b) 0 (-1) u)) 13 c b (nI 9)) (a ++ (b, x, 4, f, c, nn, r) :: e ++ [(b, u 14 c b, 8, c, r, 0, 5), (b, u 14 c b, 8, c, 4, 0, 5)]) := hq_C_of (u := (f_Net_send 8 (nI c) 4 (nI b) (u 14 c b) 0 (-1) (f_Net_send 8 (nI c) (nI r) (nI b) (u 14 c b) 0 (-1) u))) (by simp only [hu_k, not_false_eq_true, Nat.reduceEqDiff]) (by simp only [hu_k, not_false_eq_true, Nat.reduceEqDiff]) (by simp only [hu_k, not_false_eq_true, Nat.reduceEqDiff]) (by have k := g1.2; simpa only [List.append_assoc, List.cons_append, List.nil_append] using k)
    refine ⟨hcn, hd_u (f_Net_send 8 (nI c) 4 (nI b) (u 14 c b) 0 (-1) (f_Net_send 8 (nI c) (nI r) (nI b) (u 14 c b) 0 (-1) u)) 13 c b (nI 9), pu s b c 9, ms, wt, [(b, u 14 c b, 8, c, r, 0, 5), (b, u 14 c b, 8, c, 4, 0, 5)], ?_, ?_, ?_, ?_, ?_, hC2⟩
    · unfold f_Core_receive
      simp only [m0, show (nI 4 = (4 : Int32)) = True by decide, if_true, if_false, c1]
      have k3 : hd_u (f_Net_send 8 (nI c) 4 (nI b) (u 14 c b) 0 (-1) (f_Net_send 8 (nI c) (nI r) (nI b) (u 14 c b) 0 (-1) u)) 13 c b (nI 9) 3 (hq_s u a.length) 3 = nI b := hq_C_3 (m := (b, x, 4, f, c, nn, r)) (p := e ++ [(b, u 14 c b, 8, c, r, 0, 5), (b, u 14 c b, 8, c, 4, 0, 5)]) (by simpa only [List.append_assoc, List.cons_append] using hC2) (by unfold hq_s; simp only [hu_k, hu_s, up2_s, hcol_n, hcol_s, ns_k, ms_k, ms_20, upd_s, upd_n, upd_id, up2_id, not_false_eq_true, Nat.reduceEqDiff, Nat.reduceLeDiff, false_and, and_false, if_true, if_false, f_Net_sendPlain, f_Net_sendFor, f_Net_sendWord, f_Net_sendData, f_Mod_data])
      rw [k3]
    · rw [w1]
      have k := hz_line g1.1 hc hb (x := 9) (fun q1 q2 => by omega)
      simpa only [List.append_assoc, List.cons_append, List.nil_append] using k
    · refine hk_P_of (b := b) hP (fun b' hb' => ⟨pu_n hb', rfl, rfl, rfl, rfl, ?_⟩) (fun _ => ?_) ?_
      · have hb2 : ¬ b = b' := fun q => hb' q.symm
        simp only [hk_b_app, hk_b_n hb2, hk_b_nil, List.append_nil]
      · rw [pu_s]
        have k := pr_I_D4_8 hI hc hq z
        simpa only [hk_b_app, hk_b_s, hk_b_nil] using k
      · intro m hm
        rcases List.mem_append.mp hm with k | k
        · exact hmem m k
        · simp only [List.mem_cons, List.not_mem_nil, or_false] at k
          rcases k with k | k <;> (rw [k]; exact hb)
    · exact hN' _ hcn
    · have k := hk_W_A (x := 9) hc hb (by omega) hwt hW
      simpa only [hu_k, hu_s, up2_s, hcol_n, hcol_s, ns_k, ms_k, ms_20, upd_s, upd_n, upd_id, up2_id, not_false_eq_true, Nat.reduceEqDiff, Nat.reduceLeDiff, false_and, and_false, if_true, if_false, f_Net_sendPlain, f_Net_sendFor, f_Net_sendWord, f_Net_sendData, f_Mod_data] using k
theorem hu_id' {v : hd_V} {k c i : Nat} {x : Int32} (h : v k c i = x) : hd_u v k c i x = v := by
  rw [← h]
  exact hu_id
theorem i_add {x : Int32} {m n : Int} (hx : x.toInt = m) (h1 : -3 ≤ m) (h2 : m ≤ 3) (h3 : 0 ≤ n) (h4 : n ≤ 3) : (x + Int32.ofInt n).toInt = m + n := by
  have e : (Int32.ofInt n).toInt = n := by
    rcases (show n = 0 ∨ n = 1 ∨ n = 2 ∨ n = 3 by omega) with z | z | z | z <;> subst z <;> decide
  rw [Int32.toInt_add, hx, e, Int.bmod_eq_of_le (by omega) (by omega)]
theorem i_sub {x : Int32} {m : Int} (hx : x.toInt = m) (h1 : -3 ≤ m) (h2 : m ≤ 3) : (x - 1).toInt = m - 1 := by
  rw [Int32.toInt_sub, hx, show (1 : Int32).toInt = 1 from rfl, Int.bmod_eq_of_le (by omega) (by omega)]
theorem i_zero {x : Int32} {m : Int} (hx : x.toInt = m) : x = 0 ↔ m = 0 := by
  rw [← hx]
  exact ⟨fun h => by rw [h]; rfl, fun h => Int32.toInt_inj.mp (h.trans (show (0 : Int) = (0 : Int32).toInt from rfl))⟩
/-- a PUTACK at a core -/
theorem sa_7 {n t mx : Nat} {u w : hd_V} {s : Nat → Nat → Nat} {ms : Nat → Nat → Int} {d ow : Nat → Nat} {sh : Nat → Nat → Bool} {nx sz wt : Nat → Nat} {a e : List hq_M} {c b f r : Nat} {x : Int32} {nn : Int} (hZ : hz n t mx u w s ms d ow sh nx sz wt (a ++ e)) (hP : hk_P s ms d ow sh (a ++ (b, x, 7, f, c, nn, r) :: e)) (hN : hk_n n s wt) (hW : hk_W hk_F s nx sz wt (u 11) (u 12)) (hC : hq_C u (a ++ (b, x, 7, f, c, nn, r) :: e)) (hl : (a ++ (b, x, 7, f, c, nn, r) :: e).length ≤ 20) (hc : c < 4) (hb : b < 4) (hq : pr_fq c (hk_b b a) = []) : c < n ∧ ∃ U' s' ms' wt' new, f_Core_receive c (hq_s u a.length) u = f_Core_performIfAllowed c (nI b) U' ∧ hS n t mx (fun c' b' => c' = c ∧ b' = b) U' (f_Mod_atCore (nI 7) (nI c) (nI b) x (Int32.ofInt nn) (hq_r r) w) s' ms' d ow sh nx sz wt' (a ++ e ++ new) (a ++ (b, x, 7, f, c, nn, r) :: e ++ new) := by
  have hm := hC.2.2.2.2 a.length (b, x, 7, f, c, nn, r) (by simp)
  unfold hq_c hq_e at hm
  simp only [Prod.mk.injEq] at hm
  obtain ⟨m0, m1, m2, m3, m4, m5, m6⟩ := hm
  have hI := hP.1 b hb
  rw [hk_b_app, hk_b_s] at hI
  have hlt := pr_c_le (hI.1 c hc)
  have hsh := pr_9_at hI.2.2.2.2.2
  unfold pr_sh at hsh
  simp only at hsh
  have hwt : wt c ≤ 2 := (hZ.2.2.2.2.2.2.2.2.2.2.1 c hc).2.2
  have u0 : u 10 c 0 = nI c := (hZ.2.2.2.2.2.2.2.2.2.2.2.2.2.2.2.2.2.1.2.2.2.2 c hc).1
  have i2 := ix1 hb
  have i1 := ix1 hc
  have i4 := ix4 hc hb
  have e13 : u 13 c b = nI (s b c) := hZ.2.2.2.1 c hc b hb
  have e28 : w 28 0 (4 * c + b) = nI (s b c) := (hZ.1 c hc b hb).trans e13
  have e29 : w 29 0 (4 * c + b) = u 14 c b := hZ.2.1 c hc b hb
  have hle : (a ++ e).length ≤ 19 := by
    rw [List.length_append, List.length_cons] at hl
    rw [List.length_append]
    omega
  have hn : ¬ s b c = 0 → c < n := fun z => by
    rcases Nat.lt_or_ge c n with y | y
    · exact y
    · exact absurd ((hN c y hc).2 b hb) z
  have hN' : ∀ x', c < n → hk_n n (pu s b c x') wt := fun x' hcn c' k1 k2 => ⟨(hN c' k1 k2).1, fun b' hb' => by rw [pu_e, if_neg (by omega)]; exact (hN c' k1 k2).2 b' hb'⟩
  have hmem : ∀ m ∈ a ++ e, m.1 < 4 := fun m hm => hP.2 m (by simp at hm ⊢; rcases hm with z | z <;> simp [z])

  have st := (pr_c_put (hI.1 c hc) (by have := pr_T_at 7 c (hk_b b a) (hk_b b e) f nn r; omega)).1
  have hcn := hn (by omega)
  have c1 : f_Core_endReplacement c (nI b) u = (hd_u (hd_u u 13 c b (nI 0)) 10 c 8 (nI 0)) := by
    unfold f_Core_endReplacement
    simp only [i2]
    rfl
  have w1 : f_Mod_atCore (nI 7) (nI c) (nI b) x (Int32.ofInt nn) (hq_r r) w = (hd_u (hd_u w 28 0 (4 * c + b) (nI 0)) 27 0 c (nI 0)) := by
    unfold f_Mod_atCore
    simp only [hu_k, hu_s, up2_s, hcol_n, hcol_s, ns_k, ms_k, ms_20, upd_s, upd_n, upd_id, up2_id, not_false_eq_true, Nat.reduceEqDiff, Nat.reduceLeDiff, false_and, and_false, if_true, if_false, f_Net_sendPlain, f_Net_sendFor, f_Net_sendWord, f_Net_sendData, f_Mod_data, i1, i4, show (nI 7 = (8 : Int32)) = False by decide, show (nI 7 = (9 : Int32)) = False by decide, show (nI 7 = (6 : Int32)) = False by decide, show (nI 7 = (4 : Int32)) = False by decide, show (nI 7 = (5 : Int32)) = False by decide]
    rfl
  have hC2 : hq_C (hd_u (hd_u u 13 c b (nI 0)) 10 c 8 (nI 0)) (a ++ (b, x, 7, f, c, nn, r) :: e ++ []) := hq_C_of (u := u) (by simp only [hu_k, not_false_eq_true, Nat.reduceEqDiff]) (by simp only [hu_k, not_false_eq_true, Nat.reduceEqDiff]) (by simp only [hu_k, not_false_eq_true, Nat.reduceEqDiff]) (by simpa only [List.append_assoc, List.cons_append, List.nil_append, List.append_nil] using hC)
  refine ⟨hcn, (hd_u (hd_u u 13 c b (nI 0)) 10 c 8 (nI 0)), pu s b c 0, ms, pr_up wt c 0, [], ?_, ?_, ?_, ?_, ?_, hC2⟩
  · unfold f_Core_receive
    simp only [m0, m3, show (nI 7 = (4 : Int32)) = False by decide, show (nI 7 = (5 : Int32)) = False by decide, show (nI 7 = (6 : Int32)) = False by decide, show (nI 7 = (7 : Int32)) = True by decide, if_true, if_false, c1]
    have k3 : (hd_u (hd_u u 13 c b (nI 0)) 10 c 8 (nI 0)) 3 (hq_s u a.length) 3 = nI b := hq_C_3 (m := (b, x, 7, f, c, nn, r)) (p := e) (by simpa only [List.append_assoc, List.cons_append, List.nil_append, List.append_nil] using hC2) (by unfold hq_s; simp only [hu_k, hu_s, up2_s, hcol_n, hcol_s, ns_k, ms_k, ms_20, upd_s, upd_n, upd_id, up2_id, not_false_eq_true, Nat.reduceEqDiff, Nat.reduceLeDiff, false_and, and_false, if_true, if_false, f_Net_sendPlain, f_Net_sendFor, f_Net_sendWord, f_Net_sendData, f_Mod_data])
    rw [k3]
  · rw [w1]
    have k := hz_put hZ hc hb
    simpa only [List.append_assoc, List.cons_append, List.nil_append, List.append_nil] using k
  · refine hk_P_of (b := b) hP (fun b' hb' => ⟨pu_n hb', rfl, rfl, rfl, rfl, ?_⟩) (fun _ => ?_) ?_
    · have hb2 : ¬ b = b' := fun q => hb' q.symm
      simp only [hk_b_app, hk_b_n hb2, hk_b_nil, List.append_nil]
    · have k := pr_I_D7 hI hc st hq
      simpa only [hk_b_app, hk_b_s, hk_b_nil, List.append_nil, pu_s] using k
    · intro m hm
      rw [List.append_nil] at hm
      exact hmem m hm
  · exact (fun c' k1 k2 => ⟨by rw [pr_up_n _ _ _ (by omega)]; exact (hN c' k1 k2).1, (hN' 0 hcn c' k1 k2).2⟩)
  · have k := hk_W_7 (X := fun c' b' => c' = c ∧ b' = b) hc hb (by omega) hwt hW
    simpa only [hu_k, hu_s, up2_s, hcol_n, hcol_s, ns_k, ms_k, ms_20, upd_s, upd_n, upd_id, up2_id, not_false_eq_true, Nat.reduceEqDiff, Nat.reduceLeDiff, false_and, and_false, if_true, if_false, f_Net_sendPlain, f_Net_sendFor, f_Net_sendWord, f_Net_sendData, f_Mod_data] using k
/-- DATA at a core -/
theorem sa_8 {n t mx : Nat} {u w : hd_V} {s : Nat → Nat → Nat} {ms : Nat → Nat → Int} {d ow : Nat → Nat} {sh : Nat → Nat → Bool} {nx sz wt : Nat → Nat} {a e : List hq_M} {c b f r : Nat} {x : Int32} {nn : Int} (hZ : hz n t mx u w s ms d ow sh nx sz wt (a ++ e)) (hP : hk_P s ms d ow sh (a ++ (b, x, 8, f, c, nn, r) :: e)) (hN : hk_n n s wt) (hW : hk_W hk_F s nx sz wt (u 11) (u 12)) (hC : hq_C u (a ++ (b, x, 8, f, c, nn, r) :: e)) (hl : (a ++ (b, x, 8, f, c, nn, r) :: e).length ≤ 20) (hc : c < 4) (hb : b < 4)  : c < n ∧ ∃ U' s' ms' wt' new, f_Core_receive c (hq_s u a.length) u = f_Core_performIfAllowed c (nI b) U' ∧ hS n t mx (fun c' b' => c' = c ∧ b' = b) U' (f_Mod_atCore (nI 8) (nI c) (nI b) x (Int32.ofInt nn) (hq_r r) w) s' ms' d ow sh nx sz wt' (a ++ e ++ new) (a ++ (b, x, 8, f, c, nn, r) :: e ++ new) := by
  have hm := hC.2.2.2.2 a.length (b, x, 8, f, c, nn, r) (by simp)
  unfold hq_c hq_e at hm
  simp only [Prod.mk.injEq] at hm
  obtain ⟨m0, m1, m2, m3, m4, m5, m6⟩ := hm
  have hI := hP.1 b hb
  rw [hk_b_app, hk_b_s] at hI
  have hlt := pr_c_le (hI.1 c hc)
  have hsh := pr_9_at hI.2.2.2.2.2
  unfold pr_sh at hsh
  simp only at hsh
  have hwt : wt c ≤ 2 := (hZ.2.2.2.2.2.2.2.2.2.2.1 c hc).2.2
  have u0 : u 10 c 0 = nI c := (hZ.2.2.2.2.2.2.2.2.2.2.2.2.2.2.2.2.2.1.2.2.2.2 c hc).1
  have i2 := ix1 hb
  have i1 := ix1 hc
  have i4 := ix4 hc hb
  have e13 : u 13 c b = nI (s b c) := hZ.2.2.2.1 c hc b hb
  have e28 : w 28 0 (4 * c + b) = nI (s b c) := (hZ.1 c hc b hb).trans e13
  have e29 : w 29 0 (4 * c + b) = u 14 c b := hZ.2.1 c hc b hb
  have hle : (a ++ e).length ≤ 19 := by
    rw [List.length_append, List.length_cons] at hl
    rw [List.length_append]
    omega
  have hn : ¬ s b c = 0 → c < n := fun z => by
    rcases Nat.lt_or_ge c n with y | y
    · exact y
    · exact absurd ((hN c y hc).2 b hb) z
  have hN' : ∀ x', c < n → hk_n n (pu s b c x') wt := fun x' hcn c' k1 k2 => ⟨(hN c' k1 k2).1, fun b' hb' => by rw [pu_e, if_neg (by omega)]; exact (hN c' k1 k2).2 b' hb'⟩
  have hmem : ∀ m ∈ a ++ e, m.1 < 4 := fun m hm => hP.2 m (by simp at hm ⊢; rcases hm with z | z <;> simp [z])

  have hr : r = 5 := hsh.2.2.2.2.2.2.1 (by decide)
  have hn0 := hsh.2.2.2.2.2.2.2.1
  have hn3 := hsh.2.2.2.2.2.2.2.2
  have st : s b c = 3 ∨ s b c = 4 ∨ s b c = 6 := by
    by_cases z : s b c = 3 ∨ s b c = 4 ∨ s b c = 6
    · exact z
    · have k1 := pr_c_noD (hI.1 c hc) z
      have k2 := pr_T_at 8 c (hk_b b a) (hk_b b e) f nn r
      clear hI hP hsh
      omega
  have e15 : (u 15 c b).toInt = ms b c := (hZ.2.2.1 c hc b hb).1
  have e30 := (hZ.2.2.1 c hc b hb).2
  have bnd := pr_msb hI hc
  have hcn := hn (by omega)
  by_cases z3 : s b c = 3
  · have c1 : f_Core_takeData c (hq_s u a.length) u = (hd_u (hd_u u 14 c b x) 13 c b (nI 1)) := by
      unfold f_Core_takeData
      simp only [hu_k, hu_s, up2_s, hcol_n, hcol_s, ns_k, ms_k, ms_20, upd_s, upd_n, upd_id, up2_id, not_false_eq_true, Nat.reduceEqDiff, Nat.reduceLeDiff, false_and, and_false, if_true, if_false, f_Net_sendPlain, f_Net_sendFor, f_Net_sendWord, f_Net_sendData, f_Mod_data, m3, m4, i2, e13, z3, show (nI 3 = (3 : Int32)) = True by decide]
      rfl
    have w1 : f_Mod_atCore (nI 8) (nI c) (nI b) x (Int32.ofInt nn) (hq_r r) w = hd_u (hd_u (hd_u w 29 0 (4 * c + b) x) 30 0 (4 * c + b) (w 30 0 (4 * c + b) + Int32.ofInt nn)) 28 0 (4 * c + b) (nI 1) := by
      unfold f_Mod_atCore
      simp only [hu_k, hu_s, up2_s, hcol_n, hcol_s, ns_k, ms_k, ms_20, upd_s, upd_n, upd_id, up2_id, not_false_eq_true, Nat.reduceEqDiff, Nat.reduceLeDiff, false_and, and_false, if_true, if_false, f_Net_sendPlain, f_Net_sendFor, f_Net_sendWord, f_Net_sendData, f_Mod_data, i4, e28, z3, show (nI 8 = (8 : Int32)) = True by decide, show (nI 3 = (6 : Int32)) = False by decide, show (nI 3 = (3 : Int32)) = True by decide]
      rfl
    have hC2 : hq_C (hd_u (hd_u u 14 c b x) 13 c b (nI 1)) (a ++ (b, x, 8, f, c, nn, r) :: e ++ []) := hq_C_of (u := u) (by simp only [hu_k, not_false_eq_true, Nat.reduceEqDiff]) (by simp only [hu_k, not_false_eq_true, Nat.reduceEqDiff]) (by simp only [hu_k, not_false_eq_true, Nat.reduceEqDiff]) (by simpa only [List.append_assoc, List.cons_append, List.nil_append, List.append_nil] using hC)
    refine ⟨hcn, (hd_u (hd_u u 14 c b x) 13 c b (nI 1)), pu s b c 1, ms, wt, [], ?_, ?_, ?_, ?_, ?_, hC2⟩
    · unfold f_Core_receive
      simp only [m0, show (nI 8 = (4 : Int32)) = False by decide, show (nI 8 = (5 : Int32)) = False by decide, show (nI 8 = (6 : Int32)) = False by decide, show (nI 8 = (7 : Int32)) = False by decide, show (nI 8 = (8 : Int32)) = True by decide, if_true, if_false, c1]
      have k3 : (hd_u (hd_u u 14 c b x) 13 c b (nI 1)) 3 (hq_s u a.length) 3 = nI b := hq_C_3 (m := (b, x, 8, f, c, nn, r)) (p := e) (by simpa only [List.append_assoc, List.cons_append, List.nil_append, List.append_nil] using hC2) (by unfold hq_s; simp only [hu_k, hu_s, up2_s, hcol_n, hcol_s, ns_k, ms_k, ms_20, upd_s, upd_n, upd_id, up2_id, not_false_eq_true, Nat.reduceEqDiff, Nat.reduceLeDiff, false_and, and_false, if_true, if_false, f_Net_sendPlain, f_Net_sendFor, f_Net_sendWord, f_Net_sendData, f_Mod_data])
      rw [k3]
    · rw [w1]
      have k := hz_data3 (y := x) (z := w 30 0 (4 * c + b) + Int32.ofInt nn) hZ hc hb
      simpa only [List.append_assoc, List.cons_append, List.nil_append, List.append_nil] using k
    · refine hk_P_of (b := b) hP (fun b' hb' => ⟨pu_n hb', rfl, rfl, rfl, rfl, ?_⟩) (fun _ => ?_) ?_
      · have hb2 : ¬ b = b' := fun q => hb' q.symm
        simp only [hk_b_app, hk_b_n hb2, hk_b_nil, List.append_nil]
      · have k := pr_I_D8r hI hc z3
        simpa only [hk_b_app, hk_b_s, hk_b_nil, List.append_nil, pu_s] using k
      · intro m hm
        rw [List.append_nil] at hm
        exact hmem m hm
    · exact hN' _ hcn
    · have k := hk_W_A (x := 1) hc hb (by omega) hwt hW
      simpa only [hu_k, hu_s, up2_s, hcol_n, hcol_s, ns_k, ms_k, ms_20, upd_s, upd_n, upd_id, up2_id, not_false_eq_true, Nat.reduceEqDiff, Nat.reduceLeDiff, false_and, and_false, if_true, if_false, f_Net_sendPlain, f_Net_sendFor, f_Net_sendWord, f_Net_sendData, f_Mod_data] using k
  · have hs47 : 4 ≤ s b c ∧ s b c ≤ 7 := by omega
    have hz1 := i_add e15 (bnd hs47).1 (bnd hs47).2 hn0 hn3
    have e30' := e30 hs47.1 hs47.2
    by_cases hz0 : u 15 c b + Int32.ofInt nn = 0
    · by_cases z : s b c = 4
      · have c1 : f_Core_takeData c (hq_s u a.length) u = (hd_u (hd_u (hd_u u 14 c b x) 15 c b (u 15 c b + Int32.ofInt nn)) 13 c b (nI 2)) := by
          unfold f_Core_takeData
          simp only [hu_k, hu_s, up2_s, hcol_n, hcol_s, ns_k, ms_k, ms_20, upd_s, upd_n, upd_id, up2_id, not_false_eq_true, Nat.reduceEqDiff, Nat.reduceLeDiff, false_and, and_false, if_true, if_false, f_Net_sendPlain, f_Net_sendFor, f_Net_sendWord, f_Net_sendData, f_Mod_data, m3, m4, m5, i2, e13, z, hz0, show (nI 4 = (3 : Int32)) = False by decide, show (nI 4 = (4 : Int32)) = True by decide]
          rfl
        have w1 : f_Mod_atCore (nI 8) (nI c) (nI b) x (Int32.ofInt nn) (hq_r r) w = hd_u (hd_u (hd_u w 29 0 (4 * c + b) x) 30 0 (4 * c + b) (u 15 c b + Int32.ofInt nn)) 28 0 (4 * c + b) (nI 2) := by
          unfold f_Mod_atCore
          simp only [hu_k, hu_s, up2_s, hcol_n, hcol_s, ns_k, ms_k, ms_20, upd_s, upd_n, upd_id, up2_id, not_false_eq_true, Nat.reduceEqDiff, Nat.reduceLeDiff, false_and, and_false, if_true, if_false, f_Net_sendPlain, f_Net_sendFor, f_Net_sendWord, f_Net_sendData, f_Mod_data, i4, e28, e30', z, hz0, show (nI 8 = (8 : Int32)) = True by decide, show (nI 4 = (6 : Int32)) = False by decide, show (nI 4 = (3 : Int32)) = False by decide]
          rfl
        have hzn : ms b c + nn = 0 := (i_zero hz1).mp hz0
        have hC2 : hq_C (hd_u (hd_u (hd_u u 14 c b x) 15 c b (u 15 c b + Int32.ofInt nn)) 13 c b (nI 2)) (a ++ (b, x, 8, f, c, nn, r) :: e ++ []) := hq_C_of (u := u) (by simp only [hu_k, not_false_eq_true, Nat.reduceEqDiff]) (by simp only [hu_k, not_false_eq_true, Nat.reduceEqDiff]) (by simp only [hu_k, not_false_eq_true, Nat.reduceEqDiff]) (by simpa only [List.append_assoc, List.cons_append, List.nil_append, List.append_nil] using hC)
        refine ⟨hcn, (hd_u (hd_u (hd_u u 14 c b x) 15 c b (u 15 c b + Int32.ofInt nn)) 13 c b (nI 2)), pu s b c 2, pu ms b c (u 15 c b + Int32.ofInt nn).toInt, wt, [], ?_, ?_, ?_, ?_, ?_, hC2⟩
        · unfold f_Core_receive
          simp only [m0, show (nI 8 = (4 : Int32)) = False by decide, show (nI 8 = (5 : Int32)) = False by decide, show (nI 8 = (6 : Int32)) = False by decide, show (nI 8 = (7 : Int32)) = False by decide, show (nI 8 = (8 : Int32)) = True by decide, if_true, if_false, c1]
          have k3 : (hd_u (hd_u (hd_u u 14 c b x) 15 c b (u 15 c b + Int32.ofInt nn)) 13 c b (nI 2)) 3 (hq_s u a.length) 3 = nI b := hq_C_3 (m := (b, x, 8, f, c, nn, r)) (p := e) (by simpa only [List.append_assoc, List.cons_append, List.nil_append, List.append_nil] using hC2) (by unfold hq_s; simp only [hu_k, hu_s, up2_s, hcol_n, hcol_s, ns_k, ms_k, ms_20, upd_s, upd_n, upd_id, up2_id, not_false_eq_true, Nat.reduceEqDiff, Nat.reduceLeDiff, false_and, and_false, if_true, if_false, f_Net_sendPlain, f_Net_sendFor, f_Net_sendWord, f_Net_sendData, f_Mod_data])
          rw [k3]
        · rw [w1]
          have k := hz_dataM (x := 2) (y := x) (z := u 15 c b + Int32.ofInt nn) hZ hc hb
          simpa only [List.append_assoc, List.cons_append, List.nil_append, List.append_nil] using k
        · refine hk_P_of (b := b) hP (fun b' hb' => ⟨pu_n hb', pu_n hb', rfl, rfl, rfl, ?_⟩) (fun _ => ?_) ?_
          · have hb2 : ¬ b = b' := fun q => hb' q.symm
            simp only [hk_b_app, hk_b_n hb2, hk_b_nil, List.append_nil]
          · have k := pr_I_D8m4 hI hc z hzn
            simpa only [hk_b_app, hk_b_s, hk_b_nil, List.append_nil, pu_s, hz1] using k
          · intro m hm
            rw [List.append_nil] at hm
            exact hmem m hm
        · exact hN' _ hcn
        · have k := hk_W_A (x := 2) hc hb (by omega) hwt hW
          simpa only [hu_k, hu_s, up2_s, hcol_n, hcol_s, ns_k, ms_k, ms_20, upd_s, upd_n, upd_id, up2_id, not_false_eq_true, Nat.reduceEqDiff, Nat.reduceLeDiff, false_and, and_false, if_true, if_false, f_Net_sendPlain, f_Net_sendFor, f_Net_sendWord, f_Net_sendData, f_Mod_data] using k
      · have z : s b c = 6 := by omega
        have c1 : f_Core_takeData c (hq_s u a.length) u = (hd_u (hd_u (hd_u u 14 c b x) 15 c b (u 15 c b + Int32.ofInt nn)) 13 c b (nI 2)) := by
          unfold f_Core_takeData
          simp only [hu_k, hu_s, up2_s, hcol_n, hcol_s, ns_k, ms_k, ms_20, upd_s, upd_n, upd_id, up2_id, not_false_eq_true, Nat.reduceEqDiff, Nat.reduceLeDiff, false_and, and_false, if_true, if_false, f_Net_sendPlain, f_Net_sendFor, f_Net_sendWord, f_Net_sendData, f_Mod_data, m3, m4, m5, i2, e13, z, hz0, show (nI 6 = (3 : Int32)) = False by decide, show (nI 6 = (4 : Int32)) = False by decide, show (nI 6 = (6 : Int32)) = True by decide]
          rfl
        have w1 : f_Mod_atCore (nI 8) (nI c) (nI b) x (Int32.ofInt nn) (hq_r r) w = hd_u (hd_u (hd_u w 29 0 (4 * c + b) x) 30 0 (4 * c + b) (u 15 c b + Int32.ofInt nn)) 28 0 (4 * c + b) (nI 2) := by
          unfold f_Mod_atCore
          simp only [hu_k, hu_s, up2_s, hcol_n, hcol_s, ns_k, ms_k, ms_20, upd_s, upd_n, upd_id, up2_id, not_false_eq_true, Nat.reduceEqDiff, Nat.reduceLeDiff, false_and, and_false, if_true, if_false, f_Net_sendPlain, f_Net_sendFor, f_Net_sendWord, f_Net_sendData, f_Mod_data, i4, e28, e30', z, hz0, show (nI 8 = (8 : Int32)) = True by decide, show (nI 6 = (6 : Int32)) = True by decide, show (nI 6 = (3 : Int32)) = False by decide]
          rfl
        have hzn : ms b c + nn = 0 := (i_zero hz1).mp hz0
        have hC2 : hq_C (hd_u (hd_u (hd_u u 14 c b x) 15 c b (u 15 c b + Int32.ofInt nn)) 13 c b (nI 2)) (a ++ (b, x, 8, f, c, nn, r) :: e ++ []) := hq_C_of (u := u) (by simp only [hu_k, not_false_eq_true, Nat.reduceEqDiff]) (by simp only [hu_k, not_false_eq_true, Nat.reduceEqDiff]) (by simp only [hu_k, not_false_eq_true, Nat.reduceEqDiff]) (by simpa only [List.append_assoc, List.cons_append, List.nil_append, List.append_nil] using hC)
        refine ⟨hcn, (hd_u (hd_u (hd_u u 14 c b x) 15 c b (u 15 c b + Int32.ofInt nn)) 13 c b (nI 2)), pu s b c 2, pu ms b c (u 15 c b + Int32.ofInt nn).toInt, wt, [], ?_, ?_, ?_, ?_, ?_, hC2⟩
        · unfold f_Core_receive
          simp only [m0, show (nI 8 = (4 : Int32)) = False by decide, show (nI 8 = (5 : Int32)) = False by decide, show (nI 8 = (6 : Int32)) = False by decide, show (nI 8 = (7 : Int32)) = False by decide, show (nI 8 = (8 : Int32)) = True by decide, if_true, if_false, c1]
          have k3 : (hd_u (hd_u (hd_u u 14 c b x) 15 c b (u 15 c b + Int32.ofInt nn)) 13 c b (nI 2)) 3 (hq_s u a.length) 3 = nI b := hq_C_3 (m := (b, x, 8, f, c, nn, r)) (p := e) (by simpa only [List.append_assoc, List.cons_append, List.nil_append, List.append_nil] using hC2) (by unfold hq_s; simp only [hu_k, hu_s, up2_s, hcol_n, hcol_s, ns_k, ms_k, ms_20, upd_s, upd_n, upd_id, up2_id, not_false_eq_true, Nat.reduceEqDiff, Nat.reduceLeDiff, false_and, and_false, if_true, if_false, f_Net_sendPlain, f_Net_sendFor, f_Net_sendWord, f_Net_sendData, f_Mod_data])
          rw [k3]
        · rw [w1]
          have k := hz_dataM (x := 2) (y := x) (z := u 15 c b + Int32.ofInt nn) hZ hc hb
          simpa only [List.append_assoc, List.cons_append, List.nil_append, List.append_nil] using k
        · refine hk_P_of (b := b) hP (fun b' hb' => ⟨pu_n hb', pu_n hb', rfl, rfl, rfl, ?_⟩) (fun _ => ?_) ?_
          · have hb2 : ¬ b = b' := fun q => hb' q.symm
            simp only [hk_b_app, hk_b_n hb2, hk_b_nil, List.append_nil]
          · have k := pr_I_D8m6 hI hc z hzn
            simpa only [hk_b_app, hk_b_s, hk_b_nil, List.append_nil, pu_s, hz1] using k
          · intro m hm
            rw [List.append_nil] at hm
            exact hmem m hm
        · exact hN' _ hcn
        · have k := hk_W_A (x := 2) hc hb (by omega) hwt hW
          simpa only [hu_k, hu_s, up2_s, hcol_n, hcol_s, ns_k, ms_k, ms_20, upd_s, upd_n, upd_id, up2_id, not_false_eq_true, Nat.reduceEqDiff, Nat.reduceLeDiff, false_and, and_false, if_true, if_false, f_Net_sendPlain, f_Net_sendFor, f_Net_sendWord, f_Net_sendData, f_Mod_data] using k
    · by_cases z : s b c = 4
      · have c1 : f_Core_takeData c (hq_s u a.length) u = (hd_u (hd_u (hd_u u 14 c b x) 15 c b (u 15 c b + Int32.ofInt nn)) 13 c b (nI 5)) := by
          unfold f_Core_takeData
          simp only [hu_k, hu_s, up2_s, hcol_n, hcol_s, ns_k, ms_k, ms_20, upd_s, upd_n, upd_id, up2_id, not_false_eq_true, Nat.reduceEqDiff, Nat.reduceLeDiff, false_and, and_false, if_true, if_false, f_Net_sendPlain, f_Net_sendFor, f_Net_sendWord, f_Net_sendData, f_Mod_data, m3, m4, m5, i2, e13, z, hz0, show (nI 4 = (3 : Int32)) = False by decide, show (nI 4 = (4 : Int32)) = True by decide]
          rfl
        have w1 : f_Mod_atCore (nI 8) (nI c) (nI b) x (Int32.ofInt nn) (hq_r r) w = hd_u (hd_u (hd_u w 29 0 (4 * c + b) x) 30 0 (4 * c + b) (u 15 c b + Int32.ofInt nn)) 28 0 (4 * c + b) (nI 5) := by
          unfold f_Mod_atCore
          simp only [hu_k, hu_s, up2_s, hcol_n, hcol_s, ns_k, ms_k, ms_20, upd_s, upd_n, upd_id, up2_id, not_false_eq_true, Nat.reduceEqDiff, Nat.reduceLeDiff, false_and, and_false, if_true, if_false, f_Net_sendPlain, f_Net_sendFor, f_Net_sendWord, f_Net_sendData, f_Mod_data, i4, e28, e30', z, hz0, show (nI 8 = (8 : Int32)) = True by decide, show (nI 4 = (6 : Int32)) = False by decide, show (nI 4 = (3 : Int32)) = False by decide]
          rfl
        have hzn : ¬ ms b c + nn = 0 := fun q => hz0 ((i_zero hz1).mpr q)
        have hC2 : hq_C (hd_u (hd_u (hd_u u 14 c b x) 15 c b (u 15 c b + Int32.ofInt nn)) 13 c b (nI 5)) (a ++ (b, x, 8, f, c, nn, r) :: e ++ []) := hq_C_of (u := u) (by simp only [hu_k, not_false_eq_true, Nat.reduceEqDiff]) (by simp only [hu_k, not_false_eq_true, Nat.reduceEqDiff]) (by simp only [hu_k, not_false_eq_true, Nat.reduceEqDiff]) (by simpa only [List.append_assoc, List.cons_append, List.nil_append, List.append_nil] using hC)
        refine ⟨hcn, (hd_u (hd_u (hd_u u 14 c b x) 15 c b (u 15 c b + Int32.ofInt nn)) 13 c b (nI 5)), pu s b c 5, pu ms b c (u 15 c b + Int32.ofInt nn).toInt, wt, [], ?_, ?_, ?_, ?_, ?_, hC2⟩
        · unfold f_Core_receive
          simp only [m0, show (nI 8 = (4 : Int32)) = False by decide, show (nI 8 = (5 : Int32)) = False by decide, show (nI 8 = (6 : Int32)) = False by decide, show (nI 8 = (7 : Int32)) = False by decide, show (nI 8 = (8 : Int32)) = True by decide, if_true, if_false, c1]
          have k3 : (hd_u (hd_u (hd_u u 14 c b x) 15 c b (u 15 c b + Int32.ofInt nn)) 13 c b (nI 5)) 3 (hq_s u a.length) 3 = nI b := hq_C_3 (m := (b, x, 8, f, c, nn, r)) (p := e) (by simpa only [List.append_assoc, List.cons_append, List.nil_append, List.append_nil] using hC2) (by unfold hq_s; simp only [hu_k, hu_s, up2_s, hcol_n, hcol_s, ns_k, ms_k, ms_20, upd_s, upd_n, upd_id, up2_id, not_false_eq_true, Nat.reduceEqDiff, Nat.reduceLeDiff, false_and, and_false, if_true, if_false, f_Net_sendPlain, f_Net_sendFor, f_Net_sendWord, f_Net_sendData, f_Mod_data])
          rw [k3]
        · rw [w1]
          have k := hz_dataM (x := 5) (y := x) (z := u 15 c b + Int32.ofInt nn) hZ hc hb
          simpa only [List.append_assoc, List.cons_append, List.nil_append, List.append_nil] using k
        · refine hk_P_of (b := b) hP (fun b' hb' => ⟨pu_n hb', pu_n hb', rfl, rfl, rfl, ?_⟩) (fun _ => ?_) ?_
          · have hb2 : ¬ b = b' := fun q => hb' q.symm
            simp only [hk_b_app, hk_b_n hb2, hk_b_nil, List.append_nil]
          · have k := pr_I_D8w4 hI hc z hzn
            simpa only [hk_b_app, hk_b_s, hk_b_nil, List.append_nil, pu_s, hz1] using k
          · intro m hm
            rw [List.append_nil] at hm
            exact hmem m hm
        · exact hN' _ hcn
        · have k := hk_W_A (x := 5) hc hb (by omega) hwt hW
          simpa only [hu_k, hu_s, up2_s, hcol_n, hcol_s, ns_k, ms_k, ms_20, upd_s, upd_n, upd_id, up2_id, not_false_eq_true, Nat.reduceEqDiff, Nat.reduceLeDiff, false_and, and_false, if_true, if_false, f_Net_sendPlain, f_Net_sendFor, f_Net_sendWord, f_Net_sendData, f_Mod_data] using k
      · have z : s b c = 6 := by omega
        have c1 : f_Core_takeData c (hq_s u a.length) u = (hd_u (hd_u (hd_u u 14 c b x) 15 c b (u 15 c b + Int32.ofInt nn)) 13 c b (nI 7)) := by
          unfold f_Core_takeData
          simp only [hu_k, hu_s, up2_s, hcol_n, hcol_s, ns_k, ms_k, ms_20, upd_s, upd_n, upd_id, up2_id, not_false_eq_true, Nat.reduceEqDiff, Nat.reduceLeDiff, false_and, and_false, if_true, if_false, f_Net_sendPlain, f_Net_sendFor, f_Net_sendWord, f_Net_sendData, f_Mod_data, m3, m4, m5, i2, e13, z, hz0, show (nI 6 = (3 : Int32)) = False by decide, show (nI 6 = (4 : Int32)) = False by decide, show (nI 6 = (6 : Int32)) = True by decide]
          rfl
        have w1 : f_Mod_atCore (nI 8) (nI c) (nI b) x (Int32.ofInt nn) (hq_r r) w = hd_u (hd_u (hd_u w 29 0 (4 * c + b) x) 30 0 (4 * c + b) (u 15 c b + Int32.ofInt nn)) 28 0 (4 * c + b) (nI 7) := by
          unfold f_Mod_atCore
          simp only [hu_k, hu_s, up2_s, hcol_n, hcol_s, ns_k, ms_k, ms_20, upd_s, upd_n, upd_id, up2_id, not_false_eq_true, Nat.reduceEqDiff, Nat.reduceLeDiff, false_and, and_false, if_true, if_false, f_Net_sendPlain, f_Net_sendFor, f_Net_sendWord, f_Net_sendData, f_Mod_data, i4, e28, e30', z, hz0, show (nI 8 = (8 : Int32)) = True by decide, show (nI 6 = (6 : Int32)) = True by decide, show (nI 6 = (3 : Int32)) = False by decide]
          rfl
        have hzn : ¬ ms b c + nn = 0 := fun q => hz0 ((i_zero hz1).mpr q)
        have hC2 : hq_C (hd_u (hd_u (hd_u u 14 c b x) 15 c b (u 15 c b + Int32.ofInt nn)) 13 c b (nI 7)) (a ++ (b, x, 8, f, c, nn, r) :: e ++ []) := hq_C_of (u := u) (by simp only [hu_k, not_false_eq_true, Nat.reduceEqDiff]) (by simp only [hu_k, not_false_eq_true, Nat.reduceEqDiff]) (by simp only [hu_k, not_false_eq_true, Nat.reduceEqDiff]) (by simpa only [List.append_assoc, List.cons_append, List.nil_append, List.append_nil] using hC)
        refine ⟨hcn, (hd_u (hd_u (hd_u u 14 c b x) 15 c b (u 15 c b + Int32.ofInt nn)) 13 c b (nI 7)), pu s b c 7, pu ms b c (u 15 c b + Int32.ofInt nn).toInt, wt, [], ?_, ?_, ?_, ?_, ?_, hC2⟩
        · unfold f_Core_receive
          simp only [m0, show (nI 8 = (4 : Int32)) = False by decide, show (nI 8 = (5 : Int32)) = False by decide, show (nI 8 = (6 : Int32)) = False by decide, show (nI 8 = (7 : Int32)) = False by decide, show (nI 8 = (8 : Int32)) = True by decide, if_true, if_false, c1]
          have k3 : (hd_u (hd_u (hd_u u 14 c b x) 15 c b (u 15 c b + Int32.ofInt nn)) 13 c b (nI 7)) 3 (hq_s u a.length) 3 = nI b := hq_C_3 (m := (b, x, 8, f, c, nn, r)) (p := e) (by simpa only [List.append_assoc, List.cons_append, List.nil_append, List.append_nil] using hC2) (by unfold hq_s; simp only [hu_k, hu_s, up2_s, hcol_n, hcol_s, ns_k, ms_k, ms_20, upd_s, upd_n, upd_id, up2_id, not_false_eq_true, Nat.reduceEqDiff, Nat.reduceLeDiff, false_and, and_false, if_true, if_false, f_Net_sendPlain, f_Net_sendFor, f_Net_sendWord, f_Net_sendData, f_Mod_data])
          rw [k3]
        · rw [w1]
          have k := hz_dataM (x := 7) (y := x) (z := u 15 c b + Int32.ofInt nn) hZ hc hb
          simpa only [List.append_assoc, List.cons_append, List.nil_append, List.append_nil] using k
        · refine hk_P_of (b := b) hP (fun b' hb' => ⟨pu_n hb', pu_n hb', rfl, rfl, rfl, ?_⟩) (fun _ => ?_) ?_
          · have hb2 : ¬ b = b' := fun q => hb' q.symm
            simp only [hk_b_app, hk_b_n hb2, hk_b_nil, List.append_nil]
          · have k := pr_I_D8w6 hI hc z hzn
            simpa only [hk_b_app, hk_b_s, hk_b_nil, List.append_nil, pu_s, hz1] using k
          · intro m hm
            rw [List.append_nil] at hm
            exact hmem m hm
        · exact hN' _ hcn
        · have k := hk_W_A (x := 7) hc hb (by omega) hwt hW
          simpa only [hu_k, hu_s, up2_s, hcol_n, hcol_s, ns_k, ms_k, ms_20, upd_s, upd_n, upd_id, up2_id, not_false_eq_true, Nat.reduceEqDiff, Nat.reduceLeDiff, false_and, and_false, if_true, if_false, f_Net_sendPlain, f_Net_sendFor, f_Net_sendWord, f_Net_sendData, f_Mod_data] using k
/-- an ACK at a core -/
theorem sa_9 {n t mx : Nat} {u w : hd_V} {s : Nat → Nat → Nat} {ms : Nat → Nat → Int} {d ow : Nat → Nat} {sh : Nat → Nat → Bool} {nx sz wt : Nat → Nat} {a e : List hq_M} {c b f r : Nat} {x : Int32} {nn : Int} (hZ : hz n t mx u w s ms d ow sh nx sz wt (a ++ e)) (hP : hk_P s ms d ow sh (a ++ (b, x, 9, f, c, nn, r) :: e)) (hN : hk_n n s wt) (hW : hk_W hk_F s nx sz wt (u 11) (u 12)) (hC : hq_C u (a ++ (b, x, 9, f, c, nn, r) :: e)) (hl : (a ++ (b, x, 9, f, c, nn, r) :: e).length ≤ 20) (hc : c < 4) (hb : b < 4)  : c < n ∧ ∃ U' s' ms' wt' new, f_Core_receive c (hq_s u a.length) u = f_Core_performIfAllowed c (nI b) U' ∧ hS n t mx (fun c' b' => c' = c ∧ b' = b) U' (f_Mod_atCore (nI 9) (nI c) (nI b) x (Int32.ofInt nn) (hq_r r) w) s' ms' d ow sh nx sz wt' (a ++ e ++ new) (a ++ (b, x, 9, f, c, nn, r) :: e ++ new) := by
  have hm := hC.2.2.2.2 a.length (b, x, 9, f, c, nn, r) (by simp)
  unfold hq_c hq_e at hm
  simp only [Prod.mk.injEq] at hm
  obtain ⟨m0, m1, m2, m3, m4, m5, m6⟩ := hm
  have hI := hP.1 b hb
  rw [hk_b_app, hk_b_s] at hI
  have hlt := pr_c_le (hI.1 c hc)
  have hsh := pr_9_at hI.2.2.2.2.2
  unfold pr_sh at hsh
  simp only at hsh
  have hwt : wt c ≤ 2 := (hZ.2.2.2.2.2.2.2.2.2.2.1 c hc).2.2
  have u0 : u 10 c 0 = nI c := (hZ.2.2.2.2.2.2.2.2.2.2.2.2.2.2.2.2.2.1.2.2.2.2 c hc).1
  have i2 := ix1 hb
  have i1 := ix1 hc
  have i4 := ix4 hc hb
  have e13 : u 13 c b = nI (s b c) := hZ.2.2.2.1 c hc b hb
  have e28 : w 28 0 (4 * c + b) = nI (s b c) := (hZ.1 c hc b hb).trans e13
  have e29 : w 29 0 (4 * c + b) = u 14 c b := hZ.2.1 c hc b hb
  have hle : (a ++ e).length ≤ 19 := by
    rw [List.length_append, List.length_cons] at hl
    rw [List.length_append]
    omega
  have hn : ¬ s b c = 0 → c < n := fun z => by
    rcases Nat.lt_or_ge c n with y | y
    · exact y
    · exact absurd ((hN c y hc).2 b hb) z
  have hN' : ∀ x', c < n → hk_n n (pu s b c x') wt := fun x' hcn c' k1 k2 => ⟨(hN c' k1 k2).1, fun b' hb' => by rw [pu_e, if_neg (by omega)]; exact (hN c' k1 k2).2 b' hb'⟩
  have hmem : ∀ m ∈ a ++ e, m.1 < 4 := fun m hm => hP.2 m (by simp at hm ⊢; rcases hm with z | z <;> simp [z])

  have st := pr_c_ack (hI.1 c hc) (pr_T_at 9 c (hk_b b a) (hk_b b e) f nn r)
  have e15 : (u 15 c b).toInt = ms b c := (hZ.2.2.1 c hc b hb).1
  have e30' := (hZ.2.2.1 c hc b hb).2 st.1 st.2
  have bnd := pr_msb hI hc st
  have hz1 := i_sub e15 bnd.1 bnd.2
  have hcn := hn (by omega)
  by_cases hz0 : u 15 c b - 1 = 0
  · have hzn : ms b c - 1 = 0 := (i_zero hz1).mp hz0
    by_cases z5 : s b c = 5
    · have z : s b c = 5 := by exact z5
      have c1 : f_Core_takeAck c (nI b) u = (hd_u (hd_u u 15 c b (u 15 c b - 1)) 13 c b (nI 2)) := by
        unfold f_Core_takeAck
        simp only [hu_k, hu_s, up2_s, hcol_n, hcol_s, ns_k, ms_k, ms_20, upd_s, upd_n, upd_id, up2_id, not_false_eq_true, Nat.reduceEqDiff, Nat.reduceLeDiff, false_and, and_false, if_true, if_false, f_Net_sendPlain, f_Net_sendFor, f_Net_sendWord, f_Net_sendData, f_Mod_data, i2, e13, z, hz0, show (nI 5 = (5 : Int32)) = True by decide, show (nI 5 = (7 : Int32)) = False by decide]
        try rfl
      have w1 : f_Mod_atCore (nI 9) (nI c) (nI b) x (Int32.ofInt nn) (hq_r r) w = hd_u (hd_u w 30 0 (4 * c + b) (u 15 c b - 1)) 28 0 (4 * c + b) (nI 2) := by
        unfold f_Mod_atCore
        simp only [hu_k, hu_s, up2_s, hcol_n, hcol_s, ns_k, ms_k, ms_20, upd_s, upd_n, upd_id, up2_id, not_false_eq_true, Nat.reduceEqDiff, Nat.reduceLeDiff, false_and, and_false, if_true, if_false, f_Net_sendPlain, f_Net_sendFor, f_Net_sendWord, f_Net_sendData, f_Mod_data, i4, e28, e30', z, hz0, show (nI 9 = (8 : Int32)) = False by decide, show (nI 9 = (9 : Int32)) = True by decide, show (nI 5 = (5 : Int32)) = True by decide, show (nI 5 = (7 : Int32)) = False by decide]
        rfl
      have hC2 : hq_C (hd_u (hd_u u 15 c b (u 15 c b - 1)) 13 c b (nI 2)) (a ++ (b, x, 9, f, c, nn, r) :: e ++ []) := hq_C_of (u := u) (by simp only [hu_k, not_false_eq_true, Nat.reduceEqDiff]) (by simp only [hu_k, not_false_eq_true, Nat.reduceEqDiff]) (by simp only [hu_k, not_false_eq_true, Nat.reduceEqDiff]) (by simpa only [List.append_assoc, List.cons_append, List.nil_append, List.append_nil] using hC)
      refine ⟨hcn, (hd_u (hd_u u 15 c b (u 15 c b - 1)) 13 c b (nI 2)), pu s b c 2, pu ms b c (u 15 c b - 1).toInt, wt, [], ?_, ?_, ?_, ?_, ?_, hC2⟩
      · unfold f_Core_receive
        simp only [m0, m3, show (nI 9 = (4 : Int32)) = False by decide, show (nI 9 = (5 : Int32)) = False by decide, show (nI 9 = (6 : Int32)) = False by decide, show (nI 9 = (7 : Int32)) = False by decide, show (nI 9 = (8 : Int32)) = False by decide, show (nI 9 = (9 : Int32)) = True by decide, if_true, if_false, c1]
        have k3 : (hd_u (hd_u u 15 c b (u 15 c b - 1)) 13 c b (nI 2)) 3 (hq_s u a.length) 3 = nI b := hq_C_3 (m := (b, x, 9, f, c, nn, r)) (p := e) (by simpa only [List.append_assoc, List.cons_append, List.nil_append, List.append_nil] using hC2) (by unfold hq_s; simp only [hu_k, hu_s, up2_s, hcol_n, hcol_s, ns_k, ms_k, ms_20, upd_s, upd_n, upd_id, up2_id, not_false_eq_true, Nat.reduceEqDiff, Nat.reduceLeDiff, false_and, and_false, if_true, if_false, f_Net_sendPlain, f_Net_sendFor, f_Net_sendWord, f_Net_sendData, f_Mod_data])
        rw [k3]
      · rw [w1]
        have k := hz_ackl (z := u 15 c b - 1) hZ hc hb
        simpa only [List.append_assoc, List.cons_append, List.nil_append, List.append_nil] using k
      · refine hk_P_of (b := b) hP (fun b' hb' => ⟨pu_n hb', pu_n hb', rfl, rfl, rfl, ?_⟩) (fun _ => ?_) ?_
        · have hb2 : ¬ b = b' := fun q => hb' q.symm
          simp only [hk_b_app, hk_b_n hb2, hk_b_nil, List.append_nil]
        · have k := pr_I_D9l hI hc (by omega) hzn
          simpa only [hk_b_app, hk_b_s, hk_b_nil, List.append_nil, pu_s, hz1] using k
        · intro m hm
          rw [List.append_nil] at hm
          exact hmem m hm
      · exact hN' _ hcn
      · have k := hk_W_A (x := 2) hc hb (by omega) hwt hW
        simpa only [hu_k, hu_s, up2_s, hcol_n, hcol_s, ns_k, ms_k, ms_20, upd_s, upd_n, upd_id, up2_id, not_false_eq_true, Nat.reduceEqDiff, Nat.reduceLeDiff, false_and, and_false, if_true, if_false, f_Net_sendPlain, f_Net_sendFor, f_Net_sendWord, f_Net_sendData, f_Mod_data] using k
    · by_cases z7 : s b c = 7
      · have z : s b c = 7 := by exact z7
        have c1 : f_Core_takeAck c (nI b) u = (hd_u (hd_u u 15 c b (u 15 c b - 1)) 13 c b (nI 2)) := by
          unfold f_Core_takeAck
          simp only [hu_k, hu_s, up2_s, hcol_n, hcol_s, ns_k, ms_k, ms_20, upd_s, upd_n, upd_id, up2_id, not_false_eq_true, Nat.reduceEqDiff, Nat.reduceLeDiff, false_and, and_false, if_true, if_false, f_Net_sendPlain, f_Net_sendFor, f_Net_sendWord, f_Net_sendData, f_Mod_data, i2, e13, z, hz0, show (nI 7 = (5 : Int32)) = False by decide, show (nI 7 = (7 : Int32)) = True by decide]
          try rfl
        have w1 : f_Mod_atCore (nI 9) (nI c) (nI b) x (Int32.ofInt nn) (hq_r r) w = hd_u (hd_u w 30 0 (4 * c + b) (u 15 c b - 1)) 28 0 (4 * c + b) (nI 2) := by
          unfold f_Mod_atCore
          simp only [hu_k, hu_s, up2_s, hcol_n, hcol_s, ns_k, ms_k, ms_20, upd_s, upd_n, upd_id, up2_id, not_false_eq_true, Nat.reduceEqDiff, Nat.reduceLeDiff, false_and, and_false, if_true, if_false, f_Net_sendPlain, f_Net_sendFor, f_Net_sendWord, f_Net_sendData, f_Mod_data, i4, e28, e30', z, hz0, show (nI 9 = (8 : Int32)) = False by decide, show (nI 9 = (9 : Int32)) = True by decide, show (nI 7 = (5 : Int32)) = False by decide, show (nI 7 = (7 : Int32)) = True by decide]
          rfl
        have hC2 : hq_C (hd_u (hd_u u 15 c b (u 15 c b - 1)) 13 c b (nI 2)) (a ++ (b, x, 9, f, c, nn, r) :: e ++ []) := hq_C_of (u := u) (by simp only [hu_k, not_false_eq_true, Nat.reduceEqDiff]) (by simp only [hu_k, not_false_eq_true, Nat.reduceEqDiff]) (by simp only [hu_k, not_false_eq_true, Nat.reduceEqDiff]) (by simpa only [List.append_assoc, List.cons_append, List.nil_append, List.append_nil] using hC)
        refine ⟨hcn, (hd_u (hd_u u 15 c b (u 15 c b - 1)) 13 c b (nI 2)), pu s b c 2, pu ms b c (u 15 c b - 1).toInt, wt, [], ?_, ?_, ?_, ?_, ?_, hC2⟩
        · unfold f_Core_receive
          simp only [m0, m3, show (nI 9 = (4 : Int32)) = False by decide, show (nI 9 = (5 : Int32)) = False by decide, show (nI 9 = (6 : Int32)) = False by decide, show (nI 9 = (7 : Int32)) = False by decide, show (nI 9 = (8 : Int32)) = False by decide, show (nI 9 = (9 : Int32)) = True by decide, if_true, if_false, c1]
          have k3 : (hd_u (hd_u u 15 c b (u 15 c b - 1)) 13 c b (nI 2)) 3 (hq_s u a.length) 3 = nI b := hq_C_3 (m := (b, x, 9, f, c, nn, r)) (p := e) (by simpa only [List.append_assoc, List.cons_append, List.nil_append, List.append_nil] using hC2) (by unfold hq_s; simp only [hu_k, hu_s, up2_s, hcol_n, hcol_s, ns_k, ms_k, ms_20, upd_s, upd_n, upd_id, up2_id, not_false_eq_true, Nat.reduceEqDiff, Nat.reduceLeDiff, false_and, and_false, if_true, if_false, f_Net_sendPlain, f_Net_sendFor, f_Net_sendWord, f_Net_sendData, f_Mod_data])
          rw [k3]
        · rw [w1]
          have k := hz_ackl (z := u 15 c b - 1) hZ hc hb
          simpa only [List.append_assoc, List.cons_append, List.nil_append, List.append_nil] using k
        · refine hk_P_of (b := b) hP (fun b' hb' => ⟨pu_n hb', pu_n hb', rfl, rfl, rfl, ?_⟩) (fun _ => ?_) ?_
          · have hb2 : ¬ b = b' := fun q => hb' q.symm
            simp only [hk_b_app, hk_b_n hb2, hk_b_nil, List.append_nil]
          · have k := pr_I_D9l hI hc (by omega) hzn
            simpa only [hk_b_app, hk_b_s, hk_b_nil, List.append_nil, pu_s, hz1] using k
          · intro m hm
            rw [List.append_nil] at hm
            exact hmem m hm
        · exact hN' _ hcn
        · have k := hk_W_A (x := 2) hc hb (by omega) hwt hW
          simpa only [hu_k, hu_s, up2_s, hcol_n, hcol_s, ns_k, ms_k, ms_20, upd_s, upd_n, upd_id, up2_id, not_false_eq_true, Nat.reduceEqDiff, Nat.reduceLeDiff, false_and, and_false, if_true, if_false, f_Net_sendPlain, f_Net_sendFor, f_Net_sendWord, f_Net_sendData, f_Mod_data] using k
      · by_cases z4 : s b c = 4
        · have z : s b c = 4 := by exact z4
          have c1 : f_Core_takeAck c (nI b) u = (hd_u u 15 c b (u 15 c b - 1)) := by
            unfold f_Core_takeAck
            simp only [hu_k, hu_s, up2_s, hcol_n, hcol_s, ns_k, ms_k, ms_20, upd_s, upd_n, upd_id, up2_id, not_false_eq_true, Nat.reduceEqDiff, Nat.reduceLeDiff, false_and, and_false, if_true, if_false, f_Net_sendPlain, f_Net_sendFor, f_Net_sendWord, f_Net_sendData, f_Mod_data, i2, e13, z, hz0, show (nI 4 = (5 : Int32)) = False by decide, show (nI 4 = (7 : Int32)) = False by decide]
            try rfl
          have w1 : f_Mod_atCore (nI 9) (nI c) (nI b) x (Int32.ofInt nn) (hq_r r) w = hd_u w 30 0 (4 * c + b) (u 15 c b - 1) := by
            unfold f_Mod_atCore
            simp only [hu_k, hu_s, up2_s, hcol_n, hcol_s, ns_k, ms_k, ms_20, upd_s, upd_n, upd_id, up2_id, not_false_eq_true, Nat.reduceEqDiff, Nat.reduceLeDiff, false_and, and_false, if_true, if_false, f_Net_sendPlain, f_Net_sendFor, f_Net_sendWord, f_Net_sendData, f_Mod_data, i4, e28, e30', z, hz0, show (nI 9 = (8 : Int32)) = False by decide, show (nI 9 = (9 : Int32)) = True by decide, show (nI 4 = (5 : Int32)) = False by decide, show (nI 4 = (7 : Int32)) = False by decide]
            exact hu_id' (by simp only [hu_k, hu_s, up2_s, hcol_n, hcol_s, ns_k, ms_k, ms_20, upd_s, upd_n, upd_id, up2_id, not_false_eq_true, Nat.reduceEqDiff, Nat.reduceLeDiff, false_and, and_false, if_true, if_false, f_Net_sendPlain, f_Net_sendFor, f_Net_sendWord, f_Net_sendData, f_Mod_data, e28, z])
          have hC2 : hq_C (hd_u u 15 c b (u 15 c b - 1)) (a ++ (b, x, 9, f, c, nn, r) :: e ++ []) := hq_C_of (u := u) (by simp only [hu_k, not_false_eq_true, Nat.reduceEqDiff]) (by simp only [hu_k, not_false_eq_true, Nat.reduceEqDiff]) (by simp only [hu_k, not_false_eq_true, Nat.reduceEqDiff]) (by simpa only [List.append_assoc, List.cons_append, List.nil_append, List.append_nil] using hC)
          refine ⟨hcn, (hd_u u 15 c b (u 15 c b - 1)), s, pu ms b c (u 15 c b - 1).toInt, wt, [], ?_, ?_, ?_, ?_, ?_, hC2⟩
          · unfold f_Core_receive
            simp only [m0, m3, show (nI 9 = (4 : Int32)) = False by decide, show (nI 9 = (5 : Int32)) = False by decide, show (nI 9 = (6 : Int32)) = False by decide, show (nI 9 = (7 : Int32)) = False by decide, show (nI 9 = (8 : Int32)) = False by decide, show (nI 9 = (9 : Int32)) = True by decide, if_true, if_false, c1]
            have k3 : (hd_u u 15 c b (u 15 c b - 1)) 3 (hq_s u a.length) 3 = nI b := hq_C_3 (m := (b, x, 9, f, c, nn, r)) (p := e) (by simpa only [List.append_assoc, List.cons_append, List.nil_append, List.append_nil] using hC2) (by unfold hq_s; simp only [hu_k, hu_s, up2_s, hcol_n, hcol_s, ns_k, ms_k, ms_20, upd_s, upd_n, upd_id, up2_id, not_false_eq_true, Nat.reduceEqDiff, Nat.reduceLeDiff, false_and, and_false, if_true, if_false, f_Net_sendPlain, f_Net_sendFor, f_Net_sendWord, f_Net_sendData, f_Mod_data])
            rw [k3]
          · rw [w1]
            have k := hz_ack (z := u 15 c b - 1) hZ hc hb
            simpa only [List.append_assoc, List.cons_append, List.nil_append, List.append_nil] using k
          · refine hk_P_of (b := b) hP (fun b' hb' => ⟨rfl, pu_n hb', rfl, rfl, rfl, ?_⟩) (fun _ => ?_) ?_
            · have hb2 : ¬ b = b' := fun q => hb' q.symm
              simp only [hk_b_app, hk_b_n hb2, hk_b_nil, List.append_nil]
            · have k := pr_I_D9 hI hc
              simpa only [hk_b_app, hk_b_s, hk_b_nil, List.append_nil, pu_s, hz1] using k
            · intro m hm
              rw [List.append_nil] at hm
              exact hmem m hm
          · exact hN
          · have k := hk_W_0 (X := fun c' b' => c' = c ∧ b' = b) hW
            simpa only [hu_k, hu_s, up2_s, hcol_n, hcol_s, ns_k, ms_k, ms_20, upd_s, upd_n, upd_id, up2_id, not_false_eq_true, Nat.reduceEqDiff, Nat.reduceLeDiff, false_and, and_false, if_true, if_false, f_Net_sendPlain, f_Net_sendFor, f_Net_sendWord, f_Net_sendData, f_Mod_data] using k
        · have z : s b c = 6 := by omega
          have c1 : f_Core_takeAck c (nI b) u = (hd_u u 15 c b (u 15 c b - 1)) := by
            unfold f_Core_takeAck
            simp only [hu_k, hu_s, up2_s, hcol_n, hcol_s, ns_k, ms_k, ms_20, upd_s, upd_n, upd_id, up2_id, not_false_eq_true, Nat.reduceEqDiff, Nat.reduceLeDiff, false_and, and_false, if_true, if_false, f_Net_sendPlain, f_Net_sendFor, f_Net_sendWord, f_Net_sendData, f_Mod_data, i2, e13, z, hz0, show (nI 6 = (5 : Int32)) = False by decide, show (nI 6 = (7 : Int32)) = False by decide]
            try rfl
          have w1 : f_Mod_atCore (nI 9) (nI c) (nI b) x (Int32.ofInt nn) (hq_r r) w = hd_u w 30 0 (4 * c + b) (u 15 c b - 1) := by
            unfold f_Mod_atCore
            simp only [hu_k, hu_s, up2_s, hcol_n, hcol_s, ns_k, ms_k, ms_20, upd_s, upd_n, upd_id, up2_id, not_false_eq_true, Nat.reduceEqDiff, Nat.reduceLeDiff, false_and, and_false, if_true, if_false, f_Net_sendPlain, f_Net_sendFor, f_Net_sendWord, f_Net_sendData, f_Mod_data, i4, e28, e30', z, hz0, show (nI 9 = (8 : Int32)) = False by decide, show (nI 9 = (9 : Int32)) = True by decide, show (nI 6 = (5 : Int32)) = False by decide, show (nI 6 = (7 : Int32)) = False by decide]
            exact hu_id' (by simp only [hu_k, hu_s, up2_s, hcol_n, hcol_s, ns_k, ms_k, ms_20, upd_s, upd_n, upd_id, up2_id, not_false_eq_true, Nat.reduceEqDiff, Nat.reduceLeDiff, false_and, and_false, if_true, if_false, f_Net_sendPlain, f_Net_sendFor, f_Net_sendWord, f_Net_sendData, f_Mod_data, e28, z])
          have hC2 : hq_C (hd_u u 15 c b (u 15 c b - 1)) (a ++ (b, x, 9, f, c, nn, r) :: e ++ []) := hq_C_of (u := u) (by simp only [hu_k, not_false_eq_true, Nat.reduceEqDiff]) (by simp only [hu_k, not_false_eq_true, Nat.reduceEqDiff]) (by simp only [hu_k, not_false_eq_true, Nat.reduceEqDiff]) (by simpa only [List.append_assoc, List.cons_append, List.nil_append, List.append_nil] using hC)
          refine ⟨hcn, (hd_u u 15 c b (u 15 c b - 1)), s, pu ms b c (u 15 c b - 1).toInt, wt, [], ?_, ?_, ?_, ?_, ?_, hC2⟩
          · unfold f_Core_receive
            simp only [m0, m3, show (nI 9 = (4 : Int32)) = False by decide, show (nI 9 = (5 : Int32)) = False by decide, show (nI 9 = (6 : Int32)) = False by decide, show (nI 9 = (7 : Int32)) = False by decide, show (nI 9 = (8 : Int32)) = False by decide, show (nI 9 = (9 : Int32)) = True by decide, if_true, if_false, c1]
            have k3 : (hd_u u 15 c b (u 15 c b - 1)) 3 (hq_s u a.length) 3 = nI b := hq_C_3 (m := (b, x, 9, f, c, nn, r)) (p := e) (by simpa only [List.append_assoc, List.cons_append, List.nil_append, List.append_nil] using hC2) (by unfold hq_s; simp only [hu_k, hu_s, up2_s, hcol_n, hcol_s, ns_k, ms_k, ms_20, upd_s, upd_n, upd_id, up2_id, not_false_eq_true, Nat.reduceEqDiff, Nat.reduceLeDiff, false_and, and_false, if_true, if_false, f_Net_sendPlain, f_Net_sendFor, f_Net_sendWord, f_Net_sendData, f_Mod_data])
            rw [k3]
          · rw [w1]
            have k := hz_ack (z := u 15 c b - 1) hZ hc hb
            simpa only [List.append_assoc, List.cons_append, List.nil_append, List.append_nil] using k
          · refine hk_P_of (b := b) hP (fun b' hb' => ⟨rfl, pu_n hb', rfl, rfl, rfl, ?_⟩) (fun _ => ?_) ?_
            · have hb2 : ¬ b = b' := fun q => hb' q.symm
              simp only [hk_b_app, hk_b_n hb2, hk_b_nil, List.append_nil]
            · have k := pr_I_D9 hI hc
              simpa only [hk_b_app, hk_b_s, hk_b_nil, List.append_nil, pu_s, hz1] using k
            · intro m hm
              rw [List.append_nil] at hm
              exact hmem m hm
          · exact hN
          · have k := hk_W_0 (X := fun c' b' => c' = c ∧ b' = b) hW
            simpa only [hu_k, hu_s, up2_s, hcol_n, hcol_s, ns_k, ms_k, ms_20, upd_s, upd_n, upd_id, up2_id, not_false_eq_true, Nat.reduceEqDiff, Nat.reduceLeDiff, false_and, and_false, if_true, if_false, f_Net_sendPlain, f_Net_sendFor, f_Net_sendWord, f_Net_sendData, f_Mod_data] using k
  · by_cases z5 : s b c = 5
    · have z : s b c = 5 := by exact z5
      have c1 : f_Core_takeAck c (nI b) u = (hd_u u 15 c b (u 15 c b - 1)) := by
        unfold f_Core_takeAck
        simp only [hu_k, hu_s, up2_s, hcol_n, hcol_s, ns_k, ms_k, ms_20, upd_s, upd_n, upd_id, up2_id, not_false_eq_true, Nat.reduceEqDiff, Nat.reduceLeDiff, false_and, and_false, if_true, if_false, f_Net_sendPlain, f_Net_sendFor, f_Net_sendWord, f_Net_sendData, f_Mod_data, i2, e13, z, hz0, show (nI 5 = (5 : Int32)) = True by decide, show (nI 5 = (7 : Int32)) = False by decide]
        try rfl
      have w1 : f_Mod_atCore (nI 9) (nI c) (nI b) x (Int32.ofInt nn) (hq_r r) w = hd_u w 30 0 (4 * c + b) (u 15 c b - 1) := by
        unfold f_Mod_atCore
        simp only [hu_k, hu_s, up2_s, hcol_n, hcol_s, ns_k, ms_k, ms_20, upd_s, upd_n, upd_id, up2_id, not_false_eq_true, Nat.reduceEqDiff, Nat.reduceLeDiff, false_and, and_false, if_true, if_false, f_Net_sendPlain, f_Net_sendFor, f_Net_sendWord, f_Net_sendData, f_Mod_data, i4, e28, e30', z, hz0, show (nI 9 = (8 : Int32)) = False by decide, show (nI 9 = (9 : Int32)) = True by decide, show (nI 5 = (5 : Int32)) = True by decide, show (nI 5 = (7 : Int32)) = False by decide]
        exact hu_id' (by simp only [hu_k, hu_s, up2_s, hcol_n, hcol_s, ns_k, ms_k, ms_20, upd_s, upd_n, upd_id, up2_id, not_false_eq_true, Nat.reduceEqDiff, Nat.reduceLeDiff, false_and, and_false, if_true, if_false, f_Net_sendPlain, f_Net_sendFor, f_Net_sendWord, f_Net_sendData, f_Mod_data, e28, z])
      have hC2 : hq_C (hd_u u 15 c b (u 15 c b - 1)) (a ++ (b, x, 9, f, c, nn, r) :: e ++ []) := hq_C_of (u := u) (by simp only [hu_k, not_false_eq_true, Nat.reduceEqDiff]) (by simp only [hu_k, not_false_eq_true, Nat.reduceEqDiff]) (by simp only [hu_k, not_false_eq_true, Nat.reduceEqDiff]) (by simpa only [List.append_assoc, List.cons_append, List.nil_append, List.append_nil] using hC)
      refine ⟨hcn, (hd_u u 15 c b (u 15 c b - 1)), s, pu ms b c (u 15 c b - 1).toInt, wt, [], ?_, ?_, ?_, ?_, ?_, hC2⟩
      · unfold f_Core_receive
        simp only [m0, m3, show (nI 9 = (4 : Int32)) = False by decide, show (nI 9 = (5 : Int32)) = False by decide, show (nI 9 = (6 : Int32)) = False by decide, show (nI 9 = (7 : Int32)) = False by decide, show (nI 9 = (8 : Int32)) = False by decide, show (nI 9 = (9 : Int32)) = True by decide, if_true, if_false, c1]
        have k3 : (hd_u u 15 c b (u 15 c b - 1)) 3 (hq_s u a.length) 3 = nI b := hq_C_3 (m := (b, x, 9, f, c, nn, r)) (p := e) (by simpa only [List.append_assoc, List.cons_append, List.nil_append, List.append_nil] using hC2) (by unfold hq_s; simp only [hu_k, hu_s, up2_s, hcol_n, hcol_s, ns_k, ms_k, ms_20, upd_s, upd_n, upd_id, up2_id, not_false_eq_true, Nat.reduceEqDiff, Nat.reduceLeDiff, false_and, and_false, if_true, if_false, f_Net_sendPlain, f_Net_sendFor, f_Net_sendWord, f_Net_sendData, f_Mod_data])
        rw [k3]
      · rw [w1]
        have k := hz_ack (z := u 15 c b - 1) hZ hc hb
        simpa only [List.append_assoc, List.cons_append, List.nil_append, List.append_nil] using k
      · refine hk_P_of (b := b) hP (fun b' hb' => ⟨rfl, pu_n hb', rfl, rfl, rfl, ?_⟩) (fun _ => ?_) ?_
        · have hb2 : ¬ b = b' := fun q => hb' q.symm
          simp only [hk_b_app, hk_b_n hb2, hk_b_nil, List.append_nil]
        · have k := pr_I_D9 hI hc
          simpa only [hk_b_app, hk_b_s, hk_b_nil, List.append_nil, pu_s, hz1] using k
        · intro m hm
          rw [List.append_nil] at hm
          exact hmem m hm
      · exact hN
      · have k := hk_W_0 (X := fun c' b' => c' = c ∧ b' = b) hW
        simpa only [hu_k, hu_s, up2_s, hcol_n, hcol_s, ns_k, ms_k, ms_20, upd_s, upd_n, upd_id, up2_id, not_false_eq_true, Nat.reduceEqDiff, Nat.reduceLeDiff, false_and, and_false, if_true, if_false, f_Net_sendPlain, f_Net_sendFor, f_Net_sendWord, f_Net_sendData, f_Mod_data] using k
    · by_cases z7 : s b c = 7
      · have z : s b c = 7 := by exact z7
        have c1 : f_Core_takeAck c (nI b) u = (hd_u u 15 c b (u 15 c b - 1)) := by
          unfold f_Core_takeAck
          simp only [hu_k, hu_s, up2_s, hcol_n, hcol_s, ns_k, ms_k, ms_20, upd_s, upd_n, upd_id, up2_id, not_false_eq_true, Nat.reduceEqDiff, Nat.reduceLeDiff, false_and, and_false, if_true, if_false, f_Net_sendPlain, f_Net_sendFor, f_Net_sendWord, f_Net_sendData, f_Mod_data, i2, e13, z, hz0, show (nI 7 = (5 : Int32)) = False by decide, show (nI 7 = (7 : Int32)) = True by decide]
          try rfl
        have w1 : f_Mod_atCore (nI 9) (nI c) (nI b) x (Int32.ofInt nn) (hq_r r) w = hd_u w 30 0 (4 * c + b) (u 15 c b - 1) := by
          unfold f_Mod_atCore
          simp only [hu_k, hu_s, up2_s, hcol_n, hcol_s, ns_k, ms_k, ms_20, upd_s, upd_n, upd_id, up2_id, not_false_eq_true, Nat.reduceEqDiff, Nat.reduceLeDiff, false_and, and_false, if_true, if_false, f_Net_sendPlain, f_Net_sendFor, f_Net_sendWord, f_Net_sendData, f_Mod_data, i4, e28, e30', z, hz0, show (nI 9 = (8 : Int32)) = False by decide, show (nI 9 = (9 : Int32)) = True by decide, show (nI 7 = (5 : Int32)) = False by decide, show (nI 7 = (7 : Int32)) = True by decide]
          exact hu_id' (by simp only [hu_k, hu_s, up2_s, hcol_n, hcol_s, ns_k, ms_k, ms_20, upd_s, upd_n, upd_id, up2_id, not_false_eq_true, Nat.reduceEqDiff, Nat.reduceLeDiff, false_and, and_false, if_true, if_false, f_Net_sendPlain, f_Net_sendFor, f_Net_sendWord, f_Net_sendData, f_Mod_data, e28, z])
        have hC2 : hq_C (hd_u u 15 c b (u 15 c b - 1)) (a ++ (b, x, 9, f, c, nn, r) :: e ++ []) := hq_C_of (u := u) (by simp only [hu_k, not_false_eq_true, Nat.reduceEqDiff]) (by simp only [hu_k, not_false_eq_true, Nat.reduceEqDiff]) (by simp only [hu_k, not_false_eq_true, Nat.reduceEqDiff]) (by simpa only [List.append_assoc, List.cons_append, List.nil_append, List.append_nil] using hC)
        refine ⟨hcn, (hd_u u 15 c b (u 15 c b - 1)), s, pu ms b c (u 15 c b - 1).toInt, wt, [], ?_, ?_, ?_, ?_, ?_, hC2⟩
        · unfold f_Core_receive
          simp only [m0, m3, show (nI 9 = (4 : Int32)) = False by decide, show (nI 9 = (5 : Int32)) = False by decide, show (nI 9 = (6 : Int32)) = False by decide, show (nI 9 = (7 : Int32)) = False by decide, show (nI 9 = (8 : Int32)) = False by decide, show (nI 9 = (9 : Int32)) = True by decide, if_true, if_false, c1]
          have k3 : (hd_u u 15 c b (u 15 c b - 1)) 3 (hq_s u a.length) 3 = nI b := hq_C_3 (m := (b, x, 9, f, c, nn, r)) (p := e) (by simpa only [List.append_assoc, List.cons_append, List.nil_append, List.append_nil] using hC2) (by unfold hq_s; simp only [hu_k, hu_s, up2_s, hcol_n, hcol_s, ns_k, ms_k, ms_20, upd_s, upd_n, upd_id, up2_id, not_false_eq_true, Nat.reduceEqDiff, Nat.reduceLeDiff, false_and, and_false, if_true, if_false, f_Net_sendPlain, f_Net_sendFor, f_Net_sendWord, f_Net_sendData, f_Mod_data])
          rw [k3]
        · rw [w1]
          have k := hz_ack (z := u 15 c b - 1) hZ hc hb
          simpa only [List.append_assoc, List.cons_append, List.nil_append, List.append_nil] using k
        · refine hk_P_of (b := b) hP (fun b' hb' => ⟨rfl, pu_n hb', rfl, rfl, rfl, ?_⟩) (fun _ => ?_) ?_
          · have hb2 : ¬ b = b' := fun q => hb' q.symm
            simp only [hk_b_app, hk_b_n hb2, hk_b_nil, List.append_nil]
          · have k := pr_I_D9 hI hc
            simpa only [hk_b_app, hk_b_s, hk_b_nil, List.append_nil, pu_s, hz1] using k
          · intro m hm
            rw [List.append_nil] at hm
            exact hmem m hm
        · exact hN
        · have k := hk_W_0 (X := fun c' b' => c' = c ∧ b' = b) hW
          simpa only [hu_k, hu_s, up2_s, hcol_n, hcol_s, ns_k, ms_k, ms_20, upd_s, upd_n, upd_id, up2_id, not_false_eq_true, Nat.reduceEqDiff, Nat.reduceLeDiff, false_and, and_false, if_true, if_false, f_Net_sendPlain, f_Net_sendFor, f_Net_sendWord, f_Net_sendData, f_Mod_data] using k
      · by_cases z4 : s b c = 4
        · have z : s b c = 4 := by exact z4
          have c1 : f_Core_takeAck c (nI b) u = (hd_u u 15 c b (u 15 c b - 1)) := by
            unfold f_Core_takeAck
            simp only [hu_k, hu_s, up2_s, hcol_n, hcol_s, ns_k, ms_k, ms_20, upd_s, upd_n, upd_id, up2_id, not_false_eq_true, Nat.reduceEqDiff, Nat.reduceLeDiff, false_and, and_false, if_true, if_false, f_Net_sendPlain, f_Net_sendFor, f_Net_sendWord, f_Net_sendData, f_Mod_data, i2, e13, z, hz0, show (nI 4 = (5 : Int32)) = False by decide, show (nI 4 = (7 : Int32)) = False by decide]
            try rfl
          have w1 : f_Mod_atCore (nI 9) (nI c) (nI b) x (Int32.ofInt nn) (hq_r r) w = hd_u w 30 0 (4 * c + b) (u 15 c b - 1) := by
            unfold f_Mod_atCore
            simp only [hu_k, hu_s, up2_s, hcol_n, hcol_s, ns_k, ms_k, ms_20, upd_s, upd_n, upd_id, up2_id, not_false_eq_true, Nat.reduceEqDiff, Nat.reduceLeDiff, false_and, and_false, if_true, if_false, f_Net_sendPlain, f_Net_sendFor, f_Net_sendWord, f_Net_sendData, f_Mod_data, i4, e28, e30', z, hz0, show (nI 9 = (8 : Int32)) = False by decide, show (nI 9 = (9 : Int32)) = True by decide, show (nI 4 = (5 : Int32)) = False by decide, show (nI 4 = (7 : Int32)) = False by decide]
            exact hu_id' (by simp only [hu_k, hu_s, up2_s, hcol_n, hcol_s, ns_k, ms_k, ms_20, upd_s, upd_n, upd_id, up2_id, not_false_eq_true, Nat.reduceEqDiff, Nat.reduceLeDiff, false_and, and_false, if_true, if_false, f_Net_sendPlain, f_Net_sendFor, f_Net_sendWord, f_Net_sendData, f_Mod_data, e28, z])
          have hC2 : hq_C (hd_u u 15 c b (u 15 c b - 1)) (a ++ (b, x, 9, f, c, nn, r) :: e ++ []) := hq_C_of (u := u) (by simp only [hu_k, not_false_eq_true, Nat.reduceEqDiff]) (by simp only [hu_k, not_false_eq_true, Nat.reduceEqDiff]) (by simp only [hu_k, not_false_eq_true, Nat.reduceEqDiff]) (by simpa only [List.append_assoc, List.cons_append, List.nil_append, List.append_nil] using hC)
          refine ⟨hcn, (hd_u u 15 c b (u 15 c b - 1)), s, pu ms b c (u 15 c b - 1).toInt, wt, [], ?_, ?_, ?_, ?_, ?_, hC2⟩
          · unfold f_Core_receive
            simp only [m0, m3, show (nI 9 = (4 : Int32)) = False by decide, show (nI 9 = (5 : Int32)) = False by decide, show (nI 9 = (6 : Int32)) = False by decide, show (nI 9 = (7 : Int32)) = False by decide, show (nI 9 = (8 : Int32)) = False by decide, show (nI 9 = (9 : Int32)) = True by decide, if_true, if_false, c1]
            have k3 : (hd_u u 15 c b (u 15 c b - 1)) 3 (hq_s u a.length) 3 = nI b := hq_C_3 (m := (b, x, 9, f, c, nn, r)) (p := e) (by simpa only [List.append_assoc, List.cons_append, List.nil_append, List.append_nil] using hC2) (by unfold hq_s; simp only [hu_k, hu_s, up2_s, hcol_n, hcol_s, ns_k, ms_k, ms_20, upd_s, upd_n, upd_id, up2_id, not_false_eq_true, Nat.reduceEqDiff, Nat.reduceLeDiff, false_and, and_false, if_true, if_false, f_Net_sendPlain, f_Net_sendFor, f_Net_sendWord, f_Net_sendData, f_Mod_data])
            rw [k3]
          · rw [w1]
            have k := hz_ack (z := u 15 c b - 1) hZ hc hb
            simpa only [List.append_assoc, List.cons_append, List.nil_append, List.append_nil] using k
          · refine hk_P_of (b := b) hP (fun b' hb' => ⟨rfl, pu_n hb', rfl, rfl, rfl, ?_⟩) (fun _ => ?_) ?_
            · have hb2 : ¬ b = b' := fun q => hb' q.symm
              simp only [hk_b_app, hk_b_n hb2, hk_b_nil, List.append_nil]
            · have k := pr_I_D9 hI hc
              simpa only [hk_b_app, hk_b_s, hk_b_nil, List.append_nil, pu_s, hz1] using k
            · intro m hm
              rw [List.append_nil] at hm
              exact hmem m hm
          · exact hN
          · have k := hk_W_0 (X := fun c' b' => c' = c ∧ b' = b) hW
            simpa only [hu_k, hu_s, up2_s, hcol_n, hcol_s, ns_k, ms_k, ms_20, upd_s, upd_n, upd_id, up2_id, not_false_eq_true, Nat.reduceEqDiff, Nat.reduceLeDiff, false_and, and_false, if_true, if_false, f_Net_sendPlain, f_Net_sendFor, f_Net_sendWord, f_Net_sendData, f_Mod_data] using k
        · have z : s b c = 6 := by omega
          have c1 : f_Core_takeAck c (nI b) u = (hd_u u 15 c b (u 15 c b - 1)) := by
            unfold f_Core_takeAck
            simp only [hu_k, hu_s, up2_s, hcol_n, hcol_s, ns_k, ms_k, ms_20, upd_s, upd_n, upd_id, up2_id, not_false_eq_true, Nat.reduceEqDiff, Nat.reduceLeDiff, false_and, and_false, if_true, if_false, f_Net_sendPlain, f_Net_sendFor, f_Net_sendWord, f_Net_sendData, f_Mod_data, i2, e13, z, hz0, show (nI 6 = (5 : Int32)) = False by decide, show (nI 6 = (7 : Int32)) = False by decide]
            try rfl
          have w1 : f_Mod_atCore (nI 9) (nI c) (nI b) x (Int32.ofInt nn) (hq_r r) w = hd_u w 30 0 (4 * c + b) (u 15 c b - 1) := by
            unfold f_Mod_atCore
            simp only [hu_k, hu_s, up2_s, hcol_n, hcol_s, ns_k, ms_k, ms_20, upd_s, upd_n, upd_id, up2_id, not_false_eq_true, Nat.reduceEqDiff, Nat.reduceLeDiff, false_and, and_false, if_true, if_false, f_Net_sendPlain, f_Net_sendFor, f_Net_sendWord, f_Net_sendData, f_Mod_data, i4, e28, e30', z, hz0, show (nI 9 = (8 : Int32)) = False by decide, show (nI 9 = (9 : Int32)) = True by decide, show (nI 6 = (5 : Int32)) = False by decide, show (nI 6 = (7 : Int32)) = False by decide]
            exact hu_id' (by simp only [hu_k, hu_s, up2_s, hcol_n, hcol_s, ns_k, ms_k, ms_20, upd_s, upd_n, upd_id, up2_id, not_false_eq_true, Nat.reduceEqDiff, Nat.reduceLeDiff, false_and, and_false, if_true, if_false, f_Net_sendPlain, f_Net_sendFor, f_Net_sendWord, f_Net_sendData, f_Mod_data, e28, z])
          have hC2 : hq_C (hd_u u 15 c b (u 15 c b - 1)) (a ++ (b, x, 9, f, c, nn, r) :: e ++ []) := hq_C_of (u := u) (by simp only [hu_k, not_false_eq_true, Nat.reduceEqDiff]) (by simp only [hu_k, not_false_eq_true, Nat.reduceEqDiff]) (by simp only [hu_k, not_false_eq_true, Nat.reduceEqDiff]) (by simpa only [List.append_assoc, List.cons_append, List.nil_append, List.append_nil] using hC)
          refine ⟨hcn, (hd_u u 15 c b (u 15 c b - 1)), s, pu ms b c (u 15 c b - 1).toInt, wt, [], ?_, ?_, ?_, ?_, ?_, hC2⟩
          · unfold f_Core_receive
            simp only [m0, m3, show (nI 9 = (4 : Int32)) = False by decide, show (nI 9 = (5 : Int32)) = False by decide, show (nI 9 = (6 : Int32)) = False by decide, show (nI 9 = (7 : Int32)) = False by decide, show (nI 9 = (8 : Int32)) = False by decide, show (nI 9 = (9 : Int32)) = True by decide, if_true, if_false, c1]
            have k3 : (hd_u u 15 c b (u 15 c b - 1)) 3 (hq_s u a.length) 3 = nI b := hq_C_3 (m := (b, x, 9, f, c, nn, r)) (p := e) (by simpa only [List.append_assoc, List.cons_append, List.nil_append, List.append_nil] using hC2) (by unfold hq_s; simp only [hu_k, hu_s, up2_s, hcol_n, hcol_s, ns_k, ms_k, ms_20, upd_s, upd_n, upd_id, up2_id, not_false_eq_true, Nat.reduceEqDiff, Nat.reduceLeDiff, false_and, and_false, if_true, if_false, f_Net_sendPlain, f_Net_sendFor, f_Net_sendWord, f_Net_sendData, f_Mod_data])
            rw [k3]
          · rw [w1]
            have k := hz_ack (z := u 15 c b - 1) hZ hc hb
            simpa only [List.append_assoc, List.cons_append, List.nil_append, List.append_nil] using k
          · refine hk_P_of (b := b) hP (fun b' hb' => ⟨rfl, pu_n hb', rfl, rfl, rfl, ?_⟩) (fun _ => ?_) ?_
            · have hb2 : ¬ b = b' := fun q => hb' q.symm
              simp only [hk_b_app, hk_b_n hb2, hk_b_nil, List.append_nil]
            · have k := pr_I_D9 hI hc
              simpa only [hk_b_app, hk_b_s, hk_b_nil, List.append_nil, pu_s, hz1] using k
            · intro m hm
              rw [List.append_nil] at hm
              exact hmem m hm
          · exact hN
          · have k := hk_W_0 (X := fun c' b' => c' = c ∧ b' = b) hW
            simpa only [hu_k, hu_s, up2_s, hcol_n, hcol_s, ns_k, ms_k, ms_20, upd_s, upd_n, upd_id, up2_id, not_false_eq_true, Nat.reduceEqDiff, Nat.reduceLeDiff, false_and, and_false, if_true, if_false, f_Net_sendPlain, f_Net_sendFor, f_Net_sendWord, f_Net_sendData, f_Mod_data] using k
