/-! What both tell -/
theorem q_messages {n t mx : Nat} {s : Nat → Nat → Nat} {ms : Nat → Nat → Int} {d ow : Nat → Nat} {sh : Nat → Nat → Bool} {nx sz wt : Nat → Nat} {v : hd_V} {q : List hq_M} (h : hS n t mx hk_F v v s ms d ow sh nx sz wt q q) : f_HD_messages v = f_Mod_messages v := h.2.2.2.2.1.trans (h.1.2.2.2.2.2.2.2.2.2.2.2.2.2.2.2.2.2.2.2.2.1).symm
theorem q_sent {n t mx : Nat} {s : Nat → Nat → Nat} {ms : Nat → Nat → Int} {d ow : Nat → Nat} {sh : Nat → Nat → Bool} {nx sz wt : Nat → Nat} {v : hd_V} {q : List hq_M} (h : hS n t mx hk_F v v s ms d ow sh nx sz wt q q) : f_HD_sent v = f_Mod_sent v := (h.1.2.2.2.2.2.2.2.2.2.2.2.2.2.2.2.2.2.2.2.1).symm
theorem bl_of {x : Int32} (h : ¬ f_HD_isBlock x = 0) : ∃ j, j < 4 ∧ x = nI j := by
  unfold f_HD_isBlock at h
  by_cases h0 : x < 0
  · rw [if_pos h0] at h; exact absurd rfl h
  · rw [if_neg h0] at h
    by_cases h1 : 4 ≤ x
    · rw [if_pos h1] at h; exact absurd rfl h
    · obtain ⟨j, hj, rfl⟩ := nI_of h0
      refine ⟨j, ?_, rfl⟩
      rcases Nat.lt_or_ge j 4 with z | z
      · exact z
      · exact absurd (nI_le (a := 4) z hj) h1
theorem q_line {n t mx : Nat} {s : Nat → Nat → Nat} {ms : Nat → Nat → Int} {d ow : Nat → Nat} {sh : Nat → Nat → Bool} {nx sz wt : Nat → Nat} {v : hd_V} {q : List hq_M} (h : hS n t mx hk_F v v s ms d ow sh nx sz wt q q) (hn4 : n ≤ 4) (a b : Int32) : f_HD_line n a b v = f_Mod_line a b v := by
  have co := co_eq h.1 hn4 a
  unfold f_HD_line f_Mod_line
  rw [co.1, bl_eq]
  by_cases h1 : f_HD_isCore n a = 0
  · rw [if_pos h1, if_pos h1]
  · rw [if_neg h1, if_neg h1]
    by_cases h2 : f_HD_isBlock b = 0
    · rw [if_pos h2, if_pos h2]
    · rw [if_neg h2, if_neg h2]
      obtain ⟨c, hc, rfl⟩ := co.2 h1
      obtain ⟨j, hj, rfl⟩ := bl_of h2
      have hc4 : c < 4 := by omega
      rw [ix1 hc4, ix1 hj, ix4 hc4 hj]
      exact (h.1.1 c hc4 j hj).symm
theorem q_word {n t mx : Nat} {s : Nat → Nat → Nat} {ms : Nat → Nat → Int} {d ow : Nat → Nat} {sh : Nat → Nat → Bool} {nx sz wt : Nat → Nat} {v : hd_V} {q : List hq_M} (h : hS n t mx hk_F v v s ms d ow sh nx sz wt q q) (hn4 : n ≤ 4) (a b : Int32) : f_HD_word n a b v = f_Mod_word a b v := by
  have co := co_eq h.1 hn4 a
  unfold f_HD_word f_Mod_word
  rw [co.1, bl_eq]
  by_cases h1 : f_HD_isCore n a = 0
  · rw [if_pos h1, if_pos h1]
  · rw [if_neg h1, if_neg h1]
    by_cases h2 : f_HD_isBlock b = 0
    · rw [if_pos h2, if_pos h2]
    · rw [if_neg h2, if_neg h2]
      obtain ⟨c, hc, rfl⟩ := co.2 h1
      obtain ⟨j, hj, rfl⟩ := bl_of h2
      have hc4 : c < 4 := by omega
      unfold f_Core_meaningOf
      rw [ix1 hc4, ix1 hj, ix4 hc4 hj, h.1.1 c hc4 j hj, h.1.2.1 c hc4 j hj]
theorem q_memory {n t mx : Nat} {s : Nat → Nat → Nat} {ms : Nat → Nat → Int} {d ow : Nat → Nat} {sh : Nat → Nat → Bool} {nx sz wt : Nat → Nat} {v : hd_V} {q : List hq_M} (h : hS n t mx hk_F v v s ms d ow sh nx sz wt q q) (b : Int32) : f_HD_memory b v = f_Mod_memory b v := by
  unfold f_HD_memory f_Mod_memory
  rw [bl_eq]
  by_cases h2 : f_HD_isBlock b = 0
  · rw [if_pos h2, if_pos h2]
  · rw [if_neg h2, if_neg h2]
    obtain ⟨j, hj, rfl⟩ := bl_of h2
    rw [ix1 hj]
    exact (h.1.2.2.2.2.2.2.2.2.2.2.2.1 j hj).symm
theorem q_acc {n t mx : Nat} {s : Nat → Nat → Nat} {ms : Nat → Nat → Int} {d ow : Nat → Nat} {sh : Nat → Nat → Bool} {nx sz wt : Nat → Nat} {v : hd_V} {q : List hq_M} (h : hS n t mx hk_F v v s ms d ow sh nx sz wt q q) (hn4 : n ≤ 4) (a : Int32) : f_HD_accumulator n a v = f_Mod_accumulator a v := by
  have co := co_eq h.1 hn4 a
  unfold f_HD_accumulator f_Mod_accumulator
  rw [co.1]
  by_cases h1 : f_HD_isCore n a = 0
  · rw [if_pos h1, if_pos h1]
  · rw [if_neg h1, if_neg h1]
    obtain ⟨c, hc, rfl⟩ := co.2 h1
    have hc4 : c < 4 := by omega
    rw [ix1 hc4]
    exact (h.1.2.2.2.2.2.2.1 c hc4).symm
theorem q_place {n t mx : Nat} {s : Nat → Nat → Nat} {ms : Nat → Nat → Int} {d ow : Nat → Nat} {sh : Nat → Nat → Bool} {nx sz wt : Nat → Nat} {v : hd_V} {q : List hq_M} (h : hS n t mx hk_F v v s ms d ow sh nx sz wt q q) (hn4 : n ≤ 4) (a : Int32) : f_HD_place n a v = f_Mod_place a v := by
  have co := co_eq h.1 hn4 a
  unfold f_HD_place f_Mod_place
  rw [co.1]
  by_cases h1 : f_HD_isCore n a = 0
  · rw [if_pos h1, if_pos h1]
  · rw [if_neg h1, if_neg h1]
    obtain ⟨c, hc, rfl⟩ := co.2 h1
    have hc4 : c < 4 := by omega
    rw [ix1 hc4]
    have k1 : v 26 0 c = v 10 c 7 := h.1.2.2.2.2.2.2.2.1 c hc4
    obtain ⟨k2, k3, k4⟩ := h.1.2.2.2.2.2.2.2.2.2.2.1 c hc4
    have k2' : v 10 c 8 = nI (32 * wt c) := k2
    have k3' : v 27 0 c = nI (wt c) := k3
    rw [k1, k2', k3']
    rcases (show wt c = 0 ∨ wt c = 1 ∨ wt c = 2 by omega) with z | z | z <;> rw [z]
    · rw [show 32 * nI 0 = nI (32 * 0) by decide]
    · rw [show 32 * nI 1 = nI (32 * 1) by decide]
    · rw [show 32 * nI 2 = nI (32 * 2) by decide]
theorem q_home {n t mx : Nat} {s : Nat → Nat → Nat} {ms : Nat → Nat → Int} {d ow : Nat → Nat} {sh : Nat → Nat → Bool} {nx sz wt : Nat → Nat} {v : hd_V} {q : List hq_M} (h : hS n t mx hk_F v v s ms d ow sh nx sz wt q q) (b : Int32) : f_HD_home b v = f_Mod_home b v := by
  unfold f_HD_home f_Mod_home
  rw [bl_eq]
  by_cases h2 : f_HD_isBlock b = 0
  · rw [if_pos h2, if_pos h2]
  · rw [if_neg h2, if_neg h2]
    obtain ⟨b, hb, rfl⟩ := bl_of h2
    have k6 : v 34 0 b = v 6 0 b := h.1.2.2.2.2.2.2.2.2.2.2.2.2.1 b hb
    have k7 : v 35 0 b = v 7 0 b := h.1.2.2.2.2.2.2.2.2.2.2.2.2.2.1 b hb
    have k8 : v 8 0 b = hk_m (sh b) := (h.1.2.2.2.2.2.2.2.2.2.2.2.2.2.2.2.2.1 b hb).1
    have hg := (h.1.2.2.2.2.2.2.2.2.2.2.2.2.2.2.2.2.1 b hb).2
    have step : ∀ (y2 : Int32) (k y : Nat), y < 4 → f_Mod_home_L13 (nI b) (k + 1) y2 (nI y) v = f_Mod_home_L13 (nI b) k (if sh b y = true then y2 + (1 <<< (nI y &&& 31)) else y2) (nI (y + 1)) v := by
      intro y2 k y hy
      conv => lhs; unfold f_Mod_home_L13
      dsimp only
      rw [if_neg (show ¬ (4 : Int32) ≤ nI y from nI_ge (a := y) (b := 4) hy (by decide)), ix4 hb hy, hg y hy, nI_1]
      by_cases z : sh b y = true
      · rw [if_pos z, if_pos z, if_neg (by decide)]
      · rw [if_neg z, if_neg z, if_pos rfl]
    have last : ∀ (y2 : Int32), f_Mod_home_L13 (nI b) 1 y2 (nI 4) v = if v 34 0 b = 2 then ((v 34 0 b) + (4 * ((v 35 0 b) + 1))) + (32 * y2) else ((v 34 0 b) + 0) + (32 * y2) := by
      intro y2
      unfold f_Mod_home_L13
      rw [if_pos (show (4 : Int32) ≤ nI 4 by decide), ix1 hb]
    have key : ∀ a b c d : Bool, (if d = true then (if c = true then (if b = true then (if a = true then (0 : Int32) + (1 <<< (nI 0 &&& 31)) else 0) + (1 <<< (nI 1 &&& 31)) else (if a = true then (0 : Int32) + (1 <<< (nI 0 &&& 31)) else 0)) + (1 <<< (nI 2 &&& 31)) else (if b = true then (if a = true then (0 : Int32) + (1 <<< (nI 0 &&& 31)) else 0) + (1 <<< (nI 1 &&& 31)) else (if a = true then (0 : Int32) + (1 <<< (nI 0 &&& 31)) else 0))) + (1 <<< (nI 3 &&& 31)) else (if c = true then (if b = true then (if a = true then (0 : Int32) + (1 <<< (nI 0 &&& 31)) else 0) + (1 <<< (nI 1 &&& 31)) else (if a = true then (0 : Int32) + (1 <<< (nI 0 &&& 31)) else 0)) + (1 <<< (nI 2 &&& 31)) else (if b = true then (if a = true then (0 : Int32) + (1 <<< (nI 0 &&& 31)) else 0) + (1 <<< (nI 1 &&& 31)) else (if a = true then (0 : Int32) + (1 <<< (nI 0 &&& 31)) else 0)))) = hk_4 a b c d := by decide
    show f_Home_summary (nI b) v = f_Mod_home_L13 (nI b) 5 0 (nI 0) v
    rw [step 0 4 0 (by decide), step _ 3 1 (by decide), step _ 2 2 (by decide), step _ 1 3 (by decide), last, key (sh b 0) (sh b 1) (sh b 2) (sh b 3)]
    unfold f_Home_summary
    dsimp only
    rw [ix1 hb, k6, k7, k8]
    rfl
theorem q_message {n t mx : Nat} {s : Nat → Nat → Nat} {ms : Nat → Nat → Int} {d ow : Nat → Nat} {sh : Nat → Nat → Bool} {nx sz wt : Nat → Nat} {v : hd_V} {q : List hq_M} (h : hS n t mx hk_F v v s ms d ow sh nx sz wt q q) (a b : Int32) : f_HD_message a b v = f_Mod_message a b v := by
  have hC := h.2.2.2.2
  have hR := h.1.2.2.2.2.2.2.2.2.2.2.2.2.2.2.2.2.2.2.2.2
  unfold f_HD_message f_Mod_message f_Net_has
  rw [hC.1, hR.1]
  by_cases h0 : a < 0
  · simp only [h0, if_true]
  · obtain ⟨k, hk, rfl⟩ := nI_of h0
    by_cases hkl : k < q.length
    · have k1 : ¬ nI q.length ≤ nI k := nI_ge hkl (by have := hC.2.1; omega)
      have ik : (nI k).toNatClampNeg = k := nI_clamp hk
      have hm : hq_c v (hq_s v k) = hq_m v k := (hC.2.2.2.2 k q[k] (List.getElem?_eq_getElem hkl)).trans (hR.2.2 k q[k] (List.getElem?_eq_getElem hkl)).symm
      unfold hq_c hq_m hq_s at hm
      simp only [Prod.mk.injEq] at hm
      obtain ⟨m0, m1, m2, m3, m4, m5, m6⟩ := hm
      unfold f_Msg_part
      simp only [h0, k1, if_false, ik, m0, m1, m2, m3, m4, m5, m6, Z10]
      by_cases b0 : b < 0
      · have nb : ∀ j : Nat, j < 7 → ¬ b = nI j := fun j hj z => by rw [z] at b0; exact nI_pos (by omega) b0
        have n0 : ¬ b = 0 := nb 0 (by decide)
        have n1 : ¬ b = 1 := nb 1 (by decide)
        have n2 : ¬ b = 2 := nb 2 (by decide)
        have n3 : ¬ b = 3 := nb 3 (by decide)
        have n4 : ¬ b = 4 := nb 4 (by decide)
        have n5 : ¬ b = 5 := nb 5 (by decide)
        have n6 : ¬ b = 6 := nb 6 (by decide)
        simp only [b0, n0, n1, n2, n3, n4, n5, n6, if_true, if_false]
      · obtain ⟨j, hj, rfl⟩ := nI_of b0
        by_cases b6 : j ≤ 6
        · have k6 : nI j ≤ 6 := nI_le (b := 6) b6 (by decide)
          simp only [b0, k6, if_true, if_false]
          rcases (show j = 0 ∨ j = 1 ∨ j = 2 ∨ j = 3 ∨ j = 4 ∨ j = 5 ∨ j = 6 by omega) with z | z | z | z | z | z | z <;> subst z <;> simp (decide := true) only [if_true, if_false]
        · have k6 : ¬ nI j ≤ 6 := nI_ge (a := 6) (by omega) hj
          have nb : ∀ i : Nat, i < 7 → ¬ nI j = nI i := fun i hi z => by
            have := (nI_eq hj (by omega)).mp z
            omega
          have n0 : ¬ nI j = 0 := nb 0 (by decide)
          have n1 : ¬ nI j = 1 := nb 1 (by decide)
          have n2 : ¬ nI j = 2 := nb 2 (by decide)
          have n3 : ¬ nI j = 3 := nb 3 (by decide)
          have n4 : ¬ nI j = 4 := nb 4 (by decide)
          have n5 : ¬ nI j = 5 := nb 5 (by decide)
          have n6 : ¬ nI j = 6 := nb 6 (by decide)
          simp only [b0, k6, n0, n1, n2, n3, n4, n5, n6, if_false]
    · have k1 : nI q.length ≤ nI k := nI_le (by omega) hk
      simp only [h0, k1, if_true, if_false]
theorem q_performed {n t mx : Nat} {s : Nat → Nat → Nat} {ms : Nat → Nat → Int} {d ow : Nat → Nat} {sh : Nat → Nat → Bool} {nx sz wt : Nat → Nat} {v : hd_V} {q : List hq_M} (h : hS n t mx hk_F v v s ms d ow sh nx sz wt q q) (hn4 : n ≤ 4) : f_HD_performed n v = f_Mod_performed v := by
  obtain ⟨N, ac, la, lm, q1, q2, q3, q4, q5, q6, q7⟩ := h.1.2.2.2.2.2.2.2.2.2.2.2.2.2.2.2.2.2.2.1
  have e : ∀ c, c < 4 → v 10 c 13 = nI (ac c) := fun c hc => (q7 c hc).1
  have step : ∀ (k y x : Nat), y < n → f_HD_performed_L4 n (k + 1) (nI x) (nI y) v = f_HD_performed_L4 n k (nI (x + ac y)) (nI (y + 1)) v := by
    intro k y x hy
    conv => lhs; unfold f_HD_performed_L4
    dsimp only
    rw [if_neg (nI_ge hy (by omega)), ix1 (show y < 4 by omega), e y (by omega), nI_1, nI_add]
  have last : ∀ (k x : Nat), f_HD_performed_L4 n (k + 1) (nI x) (nI n) v = nI x := by
    intro k x
    unfold f_HD_performed_L4
    rw [if_pos (nI_le (Nat.le_refl _) (by omega))]
  unfold f_HD_performed f_Mod_performed
  rw [show v 20 0 19 = nI N from q5]
  have fin : ∀ x, x = N → nI x = nI N := fun x hx => by rw [hx]
  rcases (show n = 0 ∨ n = 1 ∨ n = 2 ∨ n = 3 ∨ n = 4 by omega) with z | z | z | z | z <;> subst z
  · have a0 := q6 0 (by decide) (by decide); have a1 := q6 1 (by decide) (by decide); have a2 := q6 2 (by decide) (by decide); have a3 := q6 3 (by decide) (by decide)
    exact (last 4 0).trans (fin _ (by omega))
  · have a1 := q6 1 (by decide) (by decide); have a2 := q6 2 (by decide) (by decide); have a3 := q6 3 (by decide) (by decide)
    exact (step 4 0 0 (by decide)).trans ((last 3 _).trans (fin _ (by omega)))
  · have a2 := q6 2 (by decide) (by decide); have a3 := q6 3 (by decide) (by decide)
    exact (step 4 0 0 (by decide)).trans ((step 3 1 _ (by decide)).trans ((last 2 _).trans (fin _ (by omega))))
  · have a3 := q6 3 (by decide) (by decide)
    exact (step 4 0 0 (by decide)).trans ((step 3 1 _ (by decide)).trans ((step 2 2 _ (by decide)).trans ((last 1 _).trans (fin _ (by omega)))))
  · exact (step 4 0 0 (by decide)).trans ((step 3 1 _ (by decide)).trans ((step 2 2 _ (by decide)).trans ((step 1 3 _ (by decide)).trans ((last 0 _).trans (fin _ (by omega))))))

/-! What the methods need -/
theorem i_S {n t mx : Nat} {s : Nat → Nat → Nat} {ms : Nat → Nat → Int} {d ow : Nat → Nat} {sh : Nat → Nat → Bool} {nx sz wt : Nat → Nat} {v : hd_V} {q : List hq_M} (h : hS n t mx hk_F v v s ms d ow sh nx sz wt q q) (hn4 : n ≤ 4) : hi_S n v := by
  have hC := h.2.2.2.2
  have l32 := hC.2.1
  have e5 : ∀ c, c < 4 → v 10 c 5 = nI (sz c) ∧ sz c ≤ 16 := fun c hc => h.1.2.2.2.2.2.2.2.2.1 c hc
  have e7 : ∀ c, c < 4 → v 10 c 7 = nI (nx c) ∧ nx c ≤ 16 := fun c hc => h.1.2.2.2.2.2.2.2.2.2.1 c hc
  refine ⟨⟨by rw [hC.1]; exact nI_pos' (by omega), hC.2.2.1⟩, by rw [hC.1, nI_toInt (by omega)]; omega, fun c hc => by rw [(e5 c (by omega)).1]; exact nI_pos' (by have := (e5 c (by omega)).2; omega), fun c hc => ⟨by rw [(e7 c (by omega)).1]; exact nI_pos' (by have := (e7 c (by omega)).2; omega), by rw [(e5 c (by omega)).1, nI_toInt (by have := (e5 c (by omega)).2; omega)]; have := (e5 c (by omega)).2; omega⟩, fun c hc => (h.1.2.2.2.2.1.2.1 c (by omega) _).1, fun k_ hk1 hk2 => ?_⟩
  obtain ⟨k, hk, rfl⟩ := vp_in_of hk1 (by decide)
  rw [hC.1] at hk2
  have hkl : k < q.length := (nI_ltI (by omega) (by omega)).mp hk2
  rw [nI_clamp (show k < 2 ^ 31 by omega)]
  have hm := hC.2.2.2.2 k q[k] (List.getElem?_eq_getElem hkl)
  unfold hq_c hq_e at hm
  simp only [Prod.mk.injEq] at hm
  have hs : (v 2 0 k).toNatClampNeg = hq_s v k := rfl
  refine ⟨?_, fun j hj1 hj2 hj3 => ?_⟩
  · rw [hs, hm.2.2.2.1]
    exact vp_in_nI (h.2.1.2 q[k] (List.getElem_mem hkl)) (by decide)
  · have := hC.2.2.2.1 j hj1 k hk hj3
    subst this
    rw [hC.1, nI_toInt (by omega)] at hj2
    omega
theorem i_T {n t mx : Nat} {s : Nat → Nat → Nat} {ms : Nat → Nat → Int} {d ow : Nat → Nat} {sh : Nat → Nat → Bool} {nx sz wt : Nat → Nat} {u w : hd_V} {q : List hq_M} (h : hS n t mx hk_F u w s ms d ow sh nx sz wt q q) (hn4 : n ≤ 4) : hi_T w := by
  have hR := h.1.2.2.2.2.2.2.2.2.2.2.2.2.2.2.2.2.2.2.2.2
  have hl := hk_20 h.2.1 h.2.2.2.1 (fun c hc => (h.1.2.2.2.2.2.2.2.2.2.2.1 c hc).2.2)
  have e0 : w 20 0 0 = nI n := h.1.2.2.2.2.2.2.2.2.2.2.2.2.2.2.2.2.2.1.1
  have em := h.1.2.2.2.2.2.2.2.2.2.2.2.2.2.2.2.2.2.1
  have e1 : w 20 0 1 = nI mx := em.2.1
  have m1 : 1 ≤ mx := em.2.2.1
  have m3 : mx ≤ 3 := em.2.2.2.1
  have e5 : ∀ c, c < 4 → w 25 0 c = nI (sz c) ∧ sz c ≤ 16 := fun c hc => ⟨(h.1.2.2.2.2.2.1 c hc).trans (h.1.2.2.2.2.2.2.2.2.1 c hc).1, (h.1.2.2.2.2.2.2.2.2.1 c hc).2⟩
  have e7 : ∀ c, c < 4 → w 26 0 c = nI (nx c) ∧ nx c ≤ 16 := fun c hc => ⟨(h.1.2.2.2.2.2.2.2.1 c hc).trans (h.1.2.2.2.2.2.2.2.2.2.1 c hc).1, (h.1.2.2.2.2.2.2.2.2.2.1 c hc).2⟩
  have t5 : ∀ c, c < 4 → (w 25 0 c).toInt = sz c := fun c hc => by
    have := (e5 c hc).2
    rw [(e5 c hc).1, nI_toInt (by omega)]
  refine ⟨by rw [e0, nI_toInt (by omega)]; omega, fun c hc => by have := (e5 c hc).2; rw [t5 c hc]; omega, by rw [e1, nI_toInt (by omega)]; omega, fun c hc => ⟨by rw [(e7 c hc).1]; exact nI_pos' (by have := (e7 c hc).2; omega), by have := (e5 c hc).2; rw [t5 c hc]; omega⟩, fun c _ => h.1.2.2.2.2.1.2.2 _, ⟨by rw [hR.1, nI_toInt (by omega)]; omega, by rw [hR.1, nI_toInt (by omega)]; omega⟩, fun k_ hk1 hk2 => ?_, fun b hb hb2 => ?_, fun c hc hc2 => ?_⟩
  · obtain ⟨k, hk, rfl⟩ := vp_in_of hk1 (by decide)
    rw [hR.1] at hk2
    have hkl : k < q.length := (nI_ltI (by omega) (by omega)).mp hk2
    rw [nI_clamp (show k < 2 ^ 31 by omega)]
    have hm := hR.2.2 k q[k] (List.getElem?_eq_getElem hkl)
    have hmem := List.getElem_mem hkl
    generalize q[k] = m at hm hmem
    obtain ⟨b, x, K, f, c, nn, r⟩ := m
    unfold hq_m hq_e at hm
    simp only [Prod.mk.injEq] at hm
    obtain ⟨r0, r1, r2, r3, r4, r5, r6⟩ := hm
    have hb : b < 4 := h.2.1.2 _ hmem
    have hmb : (K, f, c, nn, r) ∈ hk_b b q := by
      unfold hk_b
      exact List.mem_map.mpr ⟨_, List.mem_filter.mpr ⟨hmem, by simp⟩, rfl⟩
    have hsh := (h.2.1.1 b hb).2.2.2.2.2 _ hmb
    unfold pr_sh at hsh
    simp only at hsh
    have k0 := hsh.1
    have k1 := hsh.2.1
    have k2 := hsh.2.2.1
    have k3 := hsh.2.2.2.2.2.1
    have k4 := hsh.2.2.2.2.1
    clear hsh
    rw [r3, r2, r0, r1]
    refine ⟨vp_in_nI hb (by decide), fun z => ?_, fun z1 z2 => ?_⟩
    · have hc4 : ¬ c = 4 := fun q => z (by rw [q]; decide)
      exact vp_in_nI (by omega) (by decide)
    · have hc4 : c = 4 := (nIe (b := 4) (by omega) (by omega)).mp z1
      have hK8 : ¬ K = 8 := fun q => z2 (by rw [q]; decide)
      exact vp_in_nI (by omega) (by decide)
  · have e6 : w 34 0 b = nI (d b) := (h.1.2.2.2.2.2.2.2.2.2.2.2.2.1 b hb).trans (h.1.2.2.2.2.2.2.2.2.2.2.2.2.2.2.1 b hb).1
    have d3 := (h.1.2.2.2.2.2.2.2.2.2.2.2.2.2.2.1 b hb).2
    have ew : w 35 0 b = hq_r (ow b) := (h.1.2.2.2.2.2.2.2.2.2.2.2.2.2.1 b hb).trans (h.1.2.2.2.2.2.2.2.2.2.2.2.2.2.2.2.1 b hb)
    rw [e6] at hb2
    have d2 : d b = 2 := (nIe (b := 2) (by omega) (by omega)).mp hb2
    have o4 := (h.2.1.1 b hb).2.2.2.2.1.2.1 d2
    rw [ew, show hq_r (ow b) = nI (ow b) from if_neg (by omega)]
    exact vp_in_nI o4 (by decide)
  · have ewt := h.1.2.2.2.2.2.2.2.2.2.2.1 c hc
    have w2 := ewt.2.2
    have ew : w 27 0 c = nI (wt c) := ewt.2.1
    rw [ew] at hc2
    have w1 : wt c = 1 := (nIe (b := 1) (by omega) (by omega)).mp hc2
    have k := ((h.2.2.2.1 c hc).2.1 w1).1
    have k2 := (e5 c hc).2
    rw [(e7 c hc).1]
    exact vp_in_nI (by omega) (by decide)

/-! The invariant of the law's loop -/
def hI (n mx t : Nat) (v : hd_V) : Prop := ∃ s ms d ow sh nx sz wt q, hS n t mx hk_F v v s ms d ow sh nx sz wt q q
theorem hI_ok {n mx : Nat} (hn4 : n ≤ 4) : hi_Ok n (hI n mx) := by
  refine ⟨?_, ?_, ?_, ?_, ?_, ?_, ?_, ?_, ?_, ?_, ?_, ?_, ?_, ?_, ?_, ?_, ?_⟩
  · rintro t v ⟨s, ms, d, ow, sh, nx, sz, wt, q, h⟩
    exact i_S h hn4
  · rintro t v ⟨s, ms, d, ow, sh, nx, sz, wt, q, h⟩
    exact i_T h hn4
  · rintro t v a b c ht ⟨s, ms, d, ow, sh, nx, sz, wt, q, h⟩
    have h1 := hS_part (w := (f_HD_code n a b c v).2) h (fun k hk => fc_code n a b c v hk)
    have h2 := st_code h1 hn4 a b c
    refine ⟨i_T h1 hn4, h2.1, ?_⟩
    obtain ⟨s', ms', d', ow', sh', nx', sz', wt', q', h3⟩ := h2.2
    exact ⟨s', ms', d', ow', sh', nx', sz', wt', q', hS_fuse h3 (fun k hk => fm_code a b c _ hk)⟩
  · rintro t v a b ht ⟨s, ms, d, ow, sh, nx, sz, wt, q, h⟩
    have h1 := hS_part (w := (f_HD_go n a b v).2) h (fun k hk => fc_go n a b v hk)
    have h2 := st_go h1 hn4 a b
    refine ⟨i_T h1 hn4, h2.1, ?_⟩
    obtain ⟨s', ms', d', ow', sh', nx', sz', wt', q', h3⟩ := h2.2
    exact ⟨s', ms', d', ow', sh', nx', sz', wt', q', hS_fuse h3 (fun k hk => fm_go a b _ hk)⟩
  · rintro t v a ht ⟨s, ms, d, ow, sh, nx, sz, wt, q, h⟩
    have h1 := hS_part (w := (f_HD_step n a v).2) h (fun k hk => fc_step n a v hk)
    have h2 := st_step h1 ht hn4 a
    refine ⟨i_T h1 hn4, h2.1, ?_⟩
    obtain ⟨s', ms', d', ow', sh', nx', sz', wt', q', h3⟩ := h2.2
    exact ⟨s', ms', d', ow', sh', nx', sz', wt', q', hS_fuse h3 (fun k hk => fm_step a _ hk)⟩
  · rintro t v a ht ⟨s, ms, d, ow, sh, nx, sz, wt, q, h⟩
    have h1 := hS_part (w := (f_HD_deliver n a v).2) h (fun k hk => fc_deliver n a v hk)
    have h2 := dv h1 (fun k hk => fc_deliver n a v hk) ht hn4 a
    refine ⟨i_T h1 hn4, h2.1, ?_⟩
    obtain ⟨s', ms', d', ow', sh', nx', sz', wt', q', h3⟩ := h2.2
    exact ⟨s', ms', d', ow', sh', nx', sz', wt', q', hS_fuse h3 (fun k hk => fm_deliver a _ hk)⟩
  · rintro t v ⟨s, ms, d, ow, sh, nx, sz, wt, q, h⟩
    exact q_messages h
  · rintro t v a b ⟨s, ms, d, ow, sh, nx, sz, wt, q, h⟩
    exact q_message h a b
  · rintro t v a b ⟨s, ms, d, ow, sh, nx, sz, wt, q, h⟩
    exact q_line h hn4 a b
  · rintro t v a b ⟨s, ms, d, ow, sh, nx, sz, wt, q, h⟩
    exact q_word h hn4 a b
  · rintro t v a ⟨s, ms, d, ow, sh, nx, sz, wt, q, h⟩
    exact q_home h a
  · rintro t v a ⟨s, ms, d, ow, sh, nx, sz, wt, q, h⟩
    exact q_memory h a
  · rintro t v a ⟨s, ms, d, ow, sh, nx, sz, wt, q, h⟩
    exact q_acc h hn4 a
  · rintro t v a ⟨s, ms, d, ow, sh, nx, sz, wt, q, h⟩
    exact q_place h hn4 a
  · rintro t v ⟨s, ms, d, ow, sh, nx, sz, wt, q, h⟩
    exact q_sent h
  · rintro t v ⟨s, ms, d, ow, sh, nx, sz, wt, q, h⟩
    exact q_performed h hn4
  · rintro t v ⟨s, ms, d, ow, sh, nx, sz, wt, q, h⟩
    exact ⟨s, ms, d, ow, sh, nx, sz, wt, q, hS_t h⟩
theorem pr_I_0 : pr_I (fun _ => 0) (fun _ => 0) 0 5 (fun _ => false) [] := by
  refine ⟨fun i hi => ?_, fun i hi => ?_, ?_, ?_, ?_, ?_⟩
  · unfold pr_c pr_C
    simp only [pr_F, pr_T, pr_R, pr_N, pr_D]
    decide
  · have : pr_v 5 (fun _ => false) i = 0 := by
      unfold pr_v
      rw [if_neg (by omega)]
      rfl
    unfold pr_A
    rw [this]
    show ([], 0) ∈ [([], 0)]
    exact List.mem_singleton.mpr rfl
  · intro i hi j hj hij h1 h2
    unfold pr_h at h1 h2
    simp only [pr_T] at h1 h2
    omega
  · unfold pr_7
    simp only [pr_K, pr_T]
    decide
  · exact ⟨by decide, fun h => absurd h (by decide), fun _ => rfl, fun _ _ _ => rfl⟩
  · intro m hm
    cases hm
theorem hI_0 {n mx : Nat} (h1 : 1 ≤ mx) (h3 : mx ≤ 3) : hI n mx 0 (hc_v0 (nI mx) (nI n) (nI mx)) := by
  refine ⟨fun _ _ => 0, fun _ _ => 0, fun _ => 0, fun _ => 5, fun _ _ => false, fun _ => 0, fun _ => 0, fun _ => 0, [], ⟨?_, ?_, ?_, ?_, ?_, ?_, ?_, ?_, ?_, ?_, ?_, ?_, ?_, ?_, ?_, ?_, ?_, ?_, ?_, ?_, ?_⟩, ⟨fun b hb => pr_I_0, fun m hm => by cases hm⟩, fun c _ _ => ⟨rfl, fun _ _ => rfl⟩, fun c hc => ⟨fun _ _ _ => Nat.zero_le _, fun z => absurd z Nat.zero_ne_one, fun z => absurd z (show ¬ (0 : Nat) = 2 by decide)⟩, ?_⟩
  · intro c hc b hb; rfl
  · intro c hc b hb; rfl
  · intro c hc b hb; exact ⟨rfl, fun z _ => absurd z (show ¬ 4 ≤ (0 : Nat) by decide)⟩
  · intro c hc b hb; rfl
  · exact ⟨fun c hc i hi => ⟨rfl, rfl⟩, fun c hc i => ⟨fun _ => vp_in_nI (n := 0) (by decide) (by decide), fun _ => vp_in_nI (n := 0) (by decide) (by decide)⟩, fun i _ => vp_in_nI (n := 0) (by decide) (by decide)⟩
  · intro c hc; rfl
  · intro c hc; rfl
  · intro c hc; rfl
  · intro c hc; exact ⟨rfl, Nat.zero_le _⟩
  · intro c hc; exact ⟨rfl, Nat.zero_le _⟩
  · intro c hc; exact ⟨rfl, rfl, Nat.zero_le _⟩
  · intro c hc; rfl
  · intro c hc; rfl
  · intro c hc; rfl
  · intro c hc; exact ⟨rfl, Nat.zero_le _⟩
  · intro c hc; rfl
  · intro b hb; exact ⟨rfl, fun c hc => rfl⟩
  · exact ⟨rfl, rfl, h1, h3, fun c hc => ⟨rfl, rfl⟩⟩
  · exact ⟨0, fun _ => 0, fun _ _ => 0, fun _ _ => 0, rfl, Nat.le_refl _, Nat.zero_le _, rfl, rfl, fun _ _ _ => rfl, fun c hc => ⟨rfl, fun b hb => ⟨rfl, rfl, Nat.le_refl _, Nat.le_refl _, fun b' hb' => Iff.rfl⟩⟩⟩
  · rfl
  · exact ⟨rfl, Nat.zero_le _, fun k m hm => by simp at hm⟩
  · have hs : ∀ k, k < 32 → hq_s (hc_v0 (nI mx) (nI n) (nI mx)) k = k := fun k hk => nI_clamp (by omega)
    exact ⟨rfl, Nat.zero_le _, fun k hk => by rw [hs k hk]; exact hk, fun k hk j hj z => by rw [hs k hk, hs j hj] at z; exact z, fun k m hm => by simp at hm⟩
