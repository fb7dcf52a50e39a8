/-- both send the same -/
theorem hz_send {n t mx : Nat} {u w : hd_V} {s : Nat → Nat → Nat} {ms : Nat → Nat → Int} {d ow : Nat → Nat} {sh : Nat → Nat → Bool} {nx sz wt : Nat → Nat} {q : List hq_M} {qc : List hq_M} {m : hq_M} {k_ f_ t_ b_ w_ n_ r_ : Int32} (hZ : hz n t mx u w s ms d ow sh nx sz wt q) (hC : hq_C u qc) (hl : qc.length < 32) (hl2 : q.length < 32) (he : hq_e m = (k_, f_, t_, b_, w_, n_, r_)) : hz n t mx (f_Net_send k_ f_ t_ b_ w_ n_ r_ u) (f_Mod_send k_ f_ t_ b_ w_ n_ r_ w) s ms d ow sh nx sz wt (q ++ [m]) ∧ hq_C (f_Net_send k_ f_ t_ b_ w_ n_ r_ u) (qc ++ [m]) := by
  obtain ⟨h1, h2, h3, h4, h5, h6, h7, h8, h9, h10, h11, h12, h13, h14, h15, h16, h17, h18, h19, h20, h21⟩ := hZ
  have g := hq_send hC hl he
  refine ⟨⟨?_, ?_, ?_, ?_, ?_, ?_, ?_, ?_, ?_, ?_, ?_, ?_, ?_, ?_, ?_, ?_, ?_, ?_, ?_, ?_, mq_send h21 hl2 he⟩, g.1⟩
  case refine_20 => rw [g.2, ms_20, upd_s, h20]
  all_goals simp only [hu_k, hu_s, up2_s, hcol_n, hcol_s, ns_k, ms_k, ms_20, upd_s, upd_n, upd_id, up2_id, not_false_eq_true, Nat.reduceEqDiff, Nat.reduceLeDiff, false_and, and_false, if_true, if_false, f_Net_sendPlain, f_Net_sendFor, f_Net_sendWord, f_Net_sendData, f_Mod_data]
  all_goals assumption
/-- the line changes, its count doesn't -/
theorem hz_line {n t mx : Nat} {u w : hd_V} {s : Nat → Nat → Nat} {ms : Nat → Nat → Int} {d ow : Nat → Nat} {sh : Nat → Nat → Bool} {nx sz wt : Nat → Nat} {q : List hq_M} {c b : Nat} (hZ : hz n t mx u w s ms d ow sh nx sz wt q) (hc : c < 4) (hb : b < 4) {x : Nat} (hx : 4 ≤ x → x ≤ 7 → 4 ≤ s b c ∧ s b c ≤ 7) : hz n t mx (hd_u u 13 c b (nI x)) (hd_u w 28 0 (4 * c + b) (nI x)) (pu s b c x) ms d ow sh nx sz wt q := by
  obtain ⟨h1, h2, h3, h4, h5, h6, h7, h8, h9, h10, h11, h12, h13, h14, h15, h16, h17, h18, h19, h20, h21⟩ := hZ
  refine ⟨?_, ?_, ?_, ?_, ?_, ?_, ?_, ?_, ?_, ?_, ?_, ?_, ?_, ?_, ?_, ?_, ?_, ?_, ?_, ?_, ?_⟩
  case refine_21 => exact hq_R_of (by simp only [hu_k, hu_s, up2_s, hcol_n, hcol_s, ns_k, ms_k, ms_20, upd_s, upd_n, upd_id, up2_id, not_false_eq_true, Nat.reduceEqDiff, Nat.reduceLeDiff, false_and, and_false, if_true, if_false, f_Net_sendPlain, f_Net_sendFor, f_Net_sendWord, f_Net_sendData, f_Mod_data]) (fun k k1 k2 => by simp only [hu_k (show ¬ k = 28 by omega)]) h21
  all_goals simp only [hu_k, hu_s, up2_s, hcol_n, hcol_s, ns_k, ms_k, ms_20, upd_s, upd_n, upd_id, up2_id, not_false_eq_true, Nat.reduceEqDiff, Nat.reduceLeDiff, false_and, and_false, if_true, if_false, f_Net_sendPlain, f_Net_sendFor, f_Net_sendWord, f_Net_sendData, f_Mod_data]
  all_goals first | assumption | exact t_2_u hb h1 | exact t_m_s hx h3 | exact t_s_u rfl h4
/-- DATA for a reader -/
theorem hz_data3 {n t mx : Nat} {u w : hd_V} {s : Nat → Nat → Nat} {ms : Nat → Nat → Int} {d ow : Nat → Nat} {sh : Nat → Nat → Bool} {nx sz wt : Nat → Nat} {q : List hq_M} {c b : Nat} (hZ : hz n t mx u w s ms d ow sh nx sz wt q) (hc : c < 4) (hb : b < 4) {y z : Int32} : hz n t mx (hd_u (hd_u u 14 c b y) 13 c b (nI 1)) (hd_u (hd_u (hd_u w 29 0 (4 * c + b) y) 30 0 (4 * c + b) z) 28 0 (4 * c + b) (nI 1)) (pu s b c 1) ms d ow sh nx sz wt q := by
  obtain ⟨h1, h2, h3, h4, h5, h6, h7, h8, h9, h10, h11, h12, h13, h14, h15, h16, h17, h18, h19, h20, h21⟩ := hZ
  refine ⟨?_, ?_, ?_, ?_, ?_, ?_, ?_, ?_, ?_, ?_, ?_, ?_, ?_, ?_, ?_, ?_, ?_, ?_, ?_, ?_, ?_⟩
  case refine_21 => exact hq_R_of (by simp only [hu_k, hu_s, up2_s, hcol_n, hcol_s, ns_k, ms_k, ms_20, upd_s, upd_n, upd_id, up2_id, not_false_eq_true, Nat.reduceEqDiff, Nat.reduceLeDiff, false_and, and_false, if_true, if_false, f_Net_sendPlain, f_Net_sendFor, f_Net_sendWord, f_Net_sendData, f_Mod_data]) (fun k k1 k2 => by simp only [hu_k (show ¬ k = 28 by omega), hu_k (show ¬ k = 29 by omega), hu_k (show ¬ k = 30 by omega)]) h21
  all_goals simp only [hu_k, hu_s, up2_s, hcol_n, hcol_s, ns_k, ms_k, ms_20, upd_s, upd_n, upd_id, up2_id, not_false_eq_true, Nat.reduceEqDiff, Nat.reduceLeDiff, false_and, and_false, if_true, if_false, f_Net_sendPlain, f_Net_sendFor, f_Net_sendWord, f_Net_sendData, f_Mod_data]
  all_goals first | assumption | exact t_2_u hb h1 | exact t_2_u hb h2 | exact t_m_w hb (by decide) h3 | exact t_s_u rfl h4
/-- DATA for a writer -/
theorem hz_dataM {n t mx : Nat} {u w : hd_V} {s : Nat → Nat → Nat} {ms : Nat → Nat → Int} {d ow : Nat → Nat} {sh : Nat → Nat → Bool} {nx sz wt : Nat → Nat} {q : List hq_M} {c b : Nat} (hZ : hz n t mx u w s ms d ow sh nx sz wt q) (hc : c < 4) (hb : b < 4) {x : Nat} {y z : Int32} : hz n t mx (hd_u (hd_u (hd_u u 14 c b y) 15 c b z) 13 c b (nI x)) (hd_u (hd_u (hd_u w 29 0 (4 * c + b) y) 30 0 (4 * c + b) z) 28 0 (4 * c + b) (nI x)) (pu s b c x) (pu ms b c z.toInt) d ow sh nx sz wt q := by
  obtain ⟨h1, h2, h3, h4, h5, h6, h7, h8, h9, h10, h11, h12, h13, h14, h15, h16, h17, h18, h19, h20, h21⟩ := hZ
  refine ⟨?_, ?_, ?_, ?_, ?_, ?_, ?_, ?_, ?_, ?_, ?_, ?_, ?_, ?_, ?_, ?_, ?_, ?_, ?_, ?_, ?_⟩
  case refine_21 => exact hq_R_of (by simp only [hu_k, hu_s, up2_s, hcol_n, hcol_s, ns_k, ms_k, ms_20, upd_s, upd_n, upd_id, up2_id, not_false_eq_true, Nat.reduceEqDiff, Nat.reduceLeDiff, false_and, and_false, if_true, if_false, f_Net_sendPlain, f_Net_sendFor, f_Net_sendWord, f_Net_sendData, f_Mod_data]) (fun k k1 k2 => by simp only [hu_k (show ¬ k = 28 by omega), hu_k (show ¬ k = 29 by omega), hu_k (show ¬ k = 30 by omega)]) h21
  all_goals simp only [hu_k, hu_s, up2_s, hcol_n, hcol_s, ns_k, ms_k, ms_20, upd_s, upd_n, upd_id, up2_id, not_false_eq_true, Nat.reduceEqDiff, Nat.reduceLeDiff, false_and, and_false, if_true, if_false, f_Net_sendPlain, f_Net_sendFor, f_Net_sendWord, f_Net_sendData, f_Mod_data]
  all_goals first | assumption | exact t_2_u hb h1 | exact t_2_u hb h2 | exact t_m_u hb rfl h3 | exact t_s_u rfl h4
/-- an ACK -/
theorem hz_ack {n t mx : Nat} {u w : hd_V} {s : Nat → Nat → Nat} {ms : Nat → Nat → Int} {d ow : Nat → Nat} {sh : Nat → Nat → Bool} {nx sz wt : Nat → Nat} {q : List hq_M} {c b : Nat} (hZ : hz n t mx u w s ms d ow sh nx sz wt q) (hc : c < 4) (hb : b < 4) {z : Int32} : hz n t mx (hd_u u 15 c b z) (hd_u w 30 0 (4 * c + b) z) s (pu ms b c z.toInt) d ow sh nx sz wt q := by
  obtain ⟨h1, h2, h3, h4, h5, h6, h7, h8, h9, h10, h11, h12, h13, h14, h15, h16, h17, h18, h19, h20, h21⟩ := hZ
  refine ⟨?_, ?_, ?_, ?_, ?_, ?_, ?_, ?_, ?_, ?_, ?_, ?_, ?_, ?_, ?_, ?_, ?_, ?_, ?_, ?_, ?_⟩
  case refine_21 => exact hq_R_of (by simp only [hu_k, hu_s, up2_s, hcol_n, hcol_s, ns_k, ms_k, ms_20, upd_s, upd_n, upd_id, up2_id, not_false_eq_true, Nat.reduceEqDiff, Nat.reduceLeDiff, false_and, and_false, if_true, if_false, f_Net_sendPlain, f_Net_sendFor, f_Net_sendWord, f_Net_sendData, f_Mod_data]) (fun k k1 k2 => by simp only [hu_k (show ¬ k = 30 by omega)]) h21
  all_goals simp only [hu_k, hu_s, up2_s, hcol_n, hcol_s, ns_k, ms_k, ms_20, upd_s, upd_n, upd_id, up2_id, not_false_eq_true, Nat.reduceEqDiff, Nat.reduceLeDiff, false_and, and_false, if_true, if_false, f_Net_sendPlain, f_Net_sendFor, f_Net_sendWord, f_Net_sendData, f_Mod_data]
  all_goals first | assumption | exact t_m_v hb rfl h3
/-- the last ACK -/
theorem hz_ackl {n t mx : Nat} {u w : hd_V} {s : Nat → Nat → Nat} {ms : Nat → Nat → Int} {d ow : Nat → Nat} {sh : Nat → Nat → Bool} {nx sz wt : Nat → Nat} {q : List hq_M} {c b : Nat} (hZ : hz n t mx u w s ms d ow sh nx sz wt q) (hc : c < 4) (hb : b < 4) {z : Int32} : hz n t mx (hd_u (hd_u u 15 c b z) 13 c b (nI 2)) (hd_u (hd_u w 30 0 (4 * c + b) z) 28 0 (4 * c + b) (nI 2)) (pu s b c 2) (pu ms b c z.toInt) d ow sh nx sz wt q := by
  obtain ⟨h1, h2, h3, h4, h5, h6, h7, h8, h9, h10, h11, h12, h13, h14, h15, h16, h17, h18, h19, h20, h21⟩ := hZ
  refine ⟨?_, ?_, ?_, ?_, ?_, ?_, ?_, ?_, ?_, ?_, ?_, ?_, ?_, ?_, ?_, ?_, ?_, ?_, ?_, ?_, ?_⟩
  case refine_21 => exact hq_R_of (by simp only [hu_k, hu_s, up2_s, hcol_n, hcol_s, ns_k, ms_k, ms_20, upd_s, upd_n, upd_id, up2_id, not_false_eq_true, Nat.reduceEqDiff, Nat.reduceLeDiff, false_and, and_false, if_true, if_false, f_Net_sendPlain, f_Net_sendFor, f_Net_sendWord, f_Net_sendData, f_Mod_data]) (fun k k1 k2 => by simp only [hu_k (show ¬ k = 28 by omega), hu_k (show ¬ k = 30 by omega)]) h21
  all_goals simp only [hu_k, hu_s, up2_s, hcol_n, hcol_s, ns_k, ms_k, ms_20, upd_s, upd_n, upd_id, up2_id, not_false_eq_true, Nat.reduceEqDiff, Nat.reduceLeDiff, false_and, and_false, if_true, if_false, f_Net_sendPlain, f_Net_sendFor, f_Net_sendWord, f_Net_sendData, f_Mod_data]
  all_goals first | assumption | exact t_2_u hb h1 | exact t_m_u hb rfl h3 | exact t_s_u rfl h4
/-- a PUTACK -/
theorem hz_put {n t mx : Nat} {u w : hd_V} {s : Nat → Nat → Nat} {ms : Nat → Nat → Int} {d ow : Nat → Nat} {sh : Nat → Nat → Bool} {nx sz wt : Nat → Nat} {q : List hq_M} {c b : Nat} (hZ : hz n t mx u w s ms d ow sh nx sz wt q) (hc : c < 4) (hb : b < 4)  : hz n t mx (hd_u (hd_u u 13 c b (nI 0)) 10 c 8 (nI 0)) (hd_u (hd_u w 28 0 (4 * c + b) (nI 0)) 27 0 c (nI 0)) (pu s b c 0) ms d ow sh nx sz (pr_up wt c 0) q := by
  obtain ⟨h1, h2, h3, h4, h5, h6, h7, h8, h9, h10, h11, h12, h13, h14, h15, h16, h17, h18, h19, h20, h21⟩ := hZ
  refine ⟨?_, ?_, ?_, ?_, ?_, ?_, ?_, ?_, ?_, ?_, ?_, ?_, ?_, ?_, ?_, ?_, ?_, ?_, ?_, ?_, ?_⟩
  case refine_21 => exact hq_R_of (by simp only [hu_k, hu_s, up2_s, hcol_n, hcol_s, ns_k, ms_k, ms_20, upd_s, upd_n, upd_id, up2_id, not_false_eq_true, Nat.reduceEqDiff, Nat.reduceLeDiff, false_and, and_false, if_true, if_false, f_Net_sendPlain, f_Net_sendFor, f_Net_sendWord, f_Net_sendData, f_Mod_data]) (fun k k1 k2 => by simp only [hu_k (show ¬ k = 27 by omega), hu_k (show ¬ k = 28 by omega)]) h21
  all_goals simp only [hu_k, hu_s, up2_s, hcol_n, hcol_s, ns_k, ms_k, ms_20, upd_s, upd_n, upd_id, up2_id, not_false_eq_true, Nat.reduceEqDiff, Nat.reduceLeDiff, false_and, and_false, if_true, if_false, f_Net_sendPlain, f_Net_sendFor, f_Net_sendWord, f_Net_sendData, f_Mod_data]
  all_goals first | assumption | exact t_2_u hb h1 | exact t_m_s (fun h _ => absurd h (by decide)) h3 | exact t_s_u rfl h4 | exact t_w_u rfl rfl (by decide) h11
/-- a request to read -/
theorem hz_req3 {n t mx : Nat} {u w : hd_V} {s : Nat → Nat → Nat} {ms : Nat → Nat → Int} {d ow : Nat → Nat} {sh : Nat → Nat → Bool} {nx sz wt : Nat → Nat} {q : List hq_M} {c b : Nat} (hZ : hz n t mx u w s ms d ow sh nx sz wt q) (hc : c < 4) (hb : b < 4)  : hz n t mx (hd_u (hd_u u 13 c b (nI 3)) 10 c 8 32) (hd_u (hd_u (hd_u w 28 0 (4 * c + b) (nI 3)) 30 0 (4 * c + b) 0) 27 0 c 1) (pu s b c 3) ms d ow sh nx sz (pr_up wt c 1) q := by
  obtain ⟨h1, h2, h3, h4, h5, h6, h7, h8, h9, h10, h11, h12, h13, h14, h15, h16, h17, h18, h19, h20, h21⟩ := hZ
  refine ⟨?_, ?_, ?_, ?_, ?_, ?_, ?_, ?_, ?_, ?_, ?_, ?_, ?_, ?_, ?_, ?_, ?_, ?_, ?_, ?_, ?_⟩
  case refine_21 => exact hq_R_of (by simp only [hu_k, hu_s, up2_s, hcol_n, hcol_s, ns_k, ms_k, ms_20, upd_s, upd_n, upd_id, up2_id, not_false_eq_true, Nat.reduceEqDiff, Nat.reduceLeDiff, false_and, and_false, if_true, if_false, f_Net_sendPlain, f_Net_sendFor, f_Net_sendWord, f_Net_sendData, f_Mod_data]) (fun k k1 k2 => by simp only [hu_k (show ¬ k = 27 by omega), hu_k (show ¬ k = 28 by omega), hu_k (show ¬ k = 30 by omega)]) h21
  all_goals simp only [hu_k, hu_s, up2_s, hcol_n, hcol_s, ns_k, ms_k, ms_20, upd_s, upd_n, upd_id, up2_id, not_false_eq_true, Nat.reduceEqDiff, Nat.reduceLeDiff, false_and, and_false, if_true, if_false, f_Net_sendPlain, f_Net_sendFor, f_Net_sendWord, f_Net_sendData, f_Mod_data]
  all_goals first | assumption | exact t_2_u hb h1 | exact t_m_w hb (by decide) h3 | exact t_s_u rfl h4 | exact t_w_u (y := 1) (by decide) (by decide) (by decide) h11
/-- a request to write -/
theorem hz_reqM {n t mx : Nat} {u w : hd_V} {s : Nat → Nat → Nat} {ms : Nat → Nat → Int} {d ow : Nat → Nat} {sh : Nat → Nat → Bool} {nx sz wt : Nat → Nat} {q : List hq_M} {c b : Nat} (hZ : hz n t mx u w s ms d ow sh nx sz wt q) (hc : c < 4) (hb : b < 4) {x : Nat} : hz n t mx (hd_u (hd_u (hd_u u 13 c b (nI x)) 15 c b 0) 10 c 8 32) (hd_u (hd_u (hd_u w 28 0 (4 * c + b) (nI x)) 30 0 (4 * c + b) 0) 27 0 c 1) (pu s b c x) (pu ms b c 0) d ow sh nx sz (pr_up wt c 1) q := by
  obtain ⟨h1, h2, h3, h4, h5, h6, h7, h8, h9, h10, h11, h12, h13, h14, h15, h16, h17, h18, h19, h20, h21⟩ := hZ
  refine ⟨?_, ?_, ?_, ?_, ?_, ?_, ?_, ?_, ?_, ?_, ?_, ?_, ?_, ?_, ?_, ?_, ?_, ?_, ?_, ?_, ?_⟩
  case refine_21 => exact hq_R_of (by simp only [hu_k, hu_s, up2_s, hcol_n, hcol_s, ns_k, ms_k, ms_20, upd_s, upd_n, upd_id, up2_id, not_false_eq_true, Nat.reduceEqDiff, Nat.reduceLeDiff, false_and, and_false, if_true, if_false, f_Net_sendPlain, f_Net_sendFor, f_Net_sendWord, f_Net_sendData, f_Mod_data]) (fun k k1 k2 => by simp only [hu_k (show ¬ k = 27 by omega), hu_k (show ¬ k = 28 by omega), hu_k (show ¬ k = 30 by omega)]) h21
  all_goals simp only [hu_k, hu_s, up2_s, hcol_n, hcol_s, ns_k, ms_k, ms_20, upd_s, upd_n, upd_id, up2_id, not_false_eq_true, Nat.reduceEqDiff, Nat.reduceLeDiff, false_and, and_false, if_true, if_false, f_Net_sendPlain, f_Net_sendFor, f_Net_sendWord, f_Net_sendData, f_Mod_data]
  all_goals first | assumption | exact t_2_u hb h1 | exact t_m_u hb rfl h3 | exact t_s_u rfl h4 | exact t_w_u (y := 1) (by decide) (by decide) (by decide) h11
/-- a replacement -/
theorem hz_rep {n t mx : Nat} {u w : hd_V} {s : Nat → Nat → Nat} {ms : Nat → Nat → Int} {d ow : Nat → Nat} {sh : Nat → Nat → Bool} {nx sz wt : Nat → Nat} {q : List hq_M} {c b : Nat} (hZ : hz n t mx u w s ms d ow sh nx sz wt q) (hc : c < 4) (hb : b < 4) {x : Nat} (hx : 8 ≤ x) : hz n t mx (hd_u (hd_u u 13 c b (nI x)) 10 c 8 64) (hd_u (hd_u w 28 0 (4 * c + b) (nI x)) 27 0 c 2) (pu s b c x) ms d ow sh nx sz (pr_up wt c 2) q := by
  obtain ⟨h1, h2, h3, h4, h5, h6, h7, h8, h9, h10, h11, h12, h13, h14, h15, h16, h17, h18, h19, h20, h21⟩ := hZ
  refine ⟨?_, ?_, ?_, ?_, ?_, ?_, ?_, ?_, ?_, ?_, ?_, ?_, ?_, ?_, ?_, ?_, ?_, ?_, ?_, ?_, ?_⟩
  case refine_21 => exact hq_R_of (by simp only [hu_k, hu_s, up2_s, hcol_n, hcol_s, ns_k, ms_k, ms_20, upd_s, upd_n, upd_id, up2_id, not_false_eq_true, Nat.reduceEqDiff, Nat.reduceLeDiff, false_and, and_false, if_true, if_false, f_Net_sendPlain, f_Net_sendFor, f_Net_sendWord, f_Net_sendData, f_Mod_data]) (fun k k1 k2 => by simp only [hu_k (show ¬ k = 27 by omega), hu_k (show ¬ k = 28 by omega)]) h21
  all_goals simp only [hu_k, hu_s, up2_s, hcol_n, hcol_s, ns_k, ms_k, ms_20, upd_s, upd_n, upd_id, up2_id, not_false_eq_true, Nat.reduceEqDiff, Nat.reduceLeDiff, false_and, and_false, if_true, if_false, f_Net_sendPlain, f_Net_sendFor, f_Net_sendWord, f_Net_sendData, f_Mod_data]
  all_goals first | assumption | exact t_2_u hb h1 | exact t_m_s (fun _ h => absurd hx (by omega)) h3 | exact t_s_u rfl h4 | exact t_w_u (y := 2) (by decide) (by decide) (by decide) h11
/-! the count of a line that waits stays small -/
theorem pr_D_le (c : Nat) (q : List pr_M) (h : pr_9 q) : 0 ≤ pr_D c q ∧ pr_D c q ≤ 3 * pr_T 8 c q := by
  induction q with
  | nil => simp [pr_D, pr_T]
  | cons m q ih =>
    have h1 := ih (fun x hx => h x (List.mem_cons_of_mem _ hx))
    have h2 := h m List.mem_cons_self
    clear ih h
    obtain ⟨k, f, t, n, r⟩ := m
    unfold pr_sh at h2
    simp only at h2
    have h3 := h2.2.2.2.2.2.2.2.1
    have h4 := h2.2.2.2.2.2.2.2.2
    clear h2
    simp only [pr_D, pr_T]
    by_cases z : k = 8 ∧ t = c
    · rw [if_pos z, if_pos z]
      omega
    · rw [if_neg z, if_neg z]
      omega
theorem pr_msb {s : Nat → Nat} {ms : Nat → Int} {d ow : Nat} {sh : Nat → Bool} {q : List pr_M} {c : Nat} (h : pr_I s ms d ow sh q) (hc : c < 4) (hs : 4 ≤ s c ∧ s c ≤ 7) : -3 ≤ ms c ∧ ms c ≤ 3 := by
  have h1 := h.1 c hc
  have h2 := pr_D_le c q h.2.2.2.2.2
  have h3 : pr_T 8 c q ≤ 1 := by
    by_cases z : s c = 3 ∨ s c = 4 ∨ s c = 6
    · have := pr_c_req h1 z; omega
    · have := pr_c_noD h1 z; omega
  unfold pr_c pr_C at h1
  have h4 := h1.2.2.2.2.2.1 hs
  have h5 := h1.2.2.2.2.2.2.2.2.2.2.2.1
  clear h1 h
  omega
theorem pr_c_ack {s : Nat → Nat} {ms : Nat → Int} {q : List pr_M} {c : Nat} (h : pr_c s ms q c) (hp : 0 < pr_T 9 c q) : 4 ≤ s c ∧ s c ≤ 7 := by
  have f3 := pr_N_D c q
  unfold pr_c pr_C at h
  have h6 := h.2.2.2.2.2.2.1
  have h8 := h.2.2.2.2.2.2.2.1
  clear h
  omega
theorem pr_T_at (k c : Nat) (a b : List pr_M) (f : Nat) (n : Int) (r : Nat) : 0 < pr_T k c (a ++ (k, f, c, n, r) :: b) := by
  rw [pr_T_app]
  simp [pr_T]
  omega
