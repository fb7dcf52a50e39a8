/-! The home's ties -/
theorem t_h_of {sh : Nat → Nat → Bool} {f g f' g' : Nat → Int32} {b : Nat} {S : Nat → Bool} (h : t_h sh f g) (hf : f' = upd f b (hk_m S)) (hg : ∀ i, ¬ (4 * b ≤ i ∧ i < 4 * b + 4) → g' i = g i) (hg2 : ∀ c, c < 4 → g' (4 * b + c) = if S c = true then 1 else 0) : t_h (pr_up sh b S) f' g' := by
  intro b' hb'
  have h1 := h b' hb'
  rw [hf, upd_e, pr_up_e]
  by_cases e : b' = b
  · subst e
    rw [if_pos rfl, if_pos rfl]
    exact ⟨rfl, hg2⟩
  · rw [if_neg e, if_neg e]
    exact ⟨h1.1, fun c hc => by rw [hg _ (by omega)]; exact h1.2 c hc⟩
theorem hh_home {n t mx : Nat} {u w : hd_V} {s : Nat → Nat → Nat} {ms : Nat → Nat → Int} {d ow : Nat → Nat} {sh : Nat → Nat → Bool} {nx sz wt : Nat → Nat} {q : List hq_M} {u' w' : hd_V} {d' ow' : Nat → Nat} {sh' : Nat → Nat → Bool} (hZ : hz n t mx u w s ms d ow sh nx sz wt q) (hu : ∀ k, ¬ (5 ≤ k ∧ k ≤ 8) → u' k = u k) (hw : ∀ k, ¬ (33 ≤ k ∧ k ≤ 36) → w' k = w k) (k5 : t_1 (u' 5 0) (w' 33 0)) (k6 : t_1 (u' 6 0) (w' 34 0)) (k7 : t_1 (u' 7 0) (w' 35 0)) (kd : t_n d' 3 (u' 6 0)) (ko : t_o ow' (u' 7 0)) (kh : t_h sh' (u' 8 0) (w' 36 0)) : hz n t mx u' w' s ms d' ow' sh' nx sz wt q := by
  obtain ⟨h1, h2, h3, h4, h5, h6, h7, h8, h9, h10, h11, h12, h13, h14, h15, h16, h17, h18, h19, h20, h21⟩ := hZ
  refine ⟨?_, ?_, ?_, ?_, ?_, ?_, ?_, ?_, ?_, ?_, ?_, k5, k6, k7, kd, ko, kh, ?_, ?_, ?_, ?_⟩
  case refine_15 => exact hq_R_of (by rw [hw 20 (by decide)]) (fun k q1 q2 => hw k (by omega)) h21
  all_goals (simp only [hu 13 (by decide), hu 14 (by decide), hu 15 (by decide), hu 11 (by decide), hu 12 (by decide), hu 10 (by decide), hu 16 (by decide), hu 1 (by decide), hw 28 (by decide), hw 29 (by decide), hw 30 (by decide), hw 23 (by decide), hw 24 (by decide), hw 25 (by decide), hw 22 (by decide), hw 26 (by decide), hw 27 (by decide), hw 20 (by decide), hw 31 (by decide)]; assumption)
/-! A row of INVs -/
def cS (r b : Nat) : List Nat → hd_V → hd_V
  | [], u => u
  | i :: l, u => cS r b l (f_Net_send 6 4 (nI i) (nI b) 0 0 (nI r) u)
def mS (r b : Nat) : List Nat → hd_V → hd_V
  | [], w => w
  | i :: l, w => mS r b l (f_Mod_send 6 4 (nI i) (nI b) 0 0 (nI r) w)
def iN (b r : Nat) (l : List Nat) : List hq_M := l.map (fun i => (b, 0, 6, 4, i, 0, r))
theorem cS_k {r b k : Nat} (h1 : ¬ k = 1) (h3 : ¬ k = 3) : ∀ (l : List Nat) (u : hd_V), cS r b l u k = u k := by
  intro l
  induction l with
  | nil => intro u; rfl
  | cons i l ih => intro u; exact (ih _).trans (ns_k h1 h3)
theorem mS_k {r b k : Nat} (h1 : ¬ k = 20) (h3 : ¬ (40 ≤ k ∧ k ≤ 46)) : ∀ (l : List Nat) (w : hd_V), mS r b l w k = w k := by
  intro l
  induction l with
  | nil => intro w; rfl
  | cons i l ih => intro w; exact (ih _).trans (ms_k h1 h3)
theorem iN_len {b r : Nat} {l : List Nat} : (iN b r l).length = l.length := List.length_map _
theorem iN_b {b r : Nat} (l : List Nat) : hk_b b (iN b r l) = pr_inv r l := by
  induction l with
  | nil => rfl
  | cons i l ih =>
    show hk_b b ((b, 0, 6, 4, i, 0, r) :: iN b r l) = _
    rw [hk_b_s, ih]
    rfl
theorem hk_b_none {b : Nat} {q : List hq_M} (h : ∀ m ∈ q, ¬ m.1 = b) : hk_b b q = [] := by
  induction q with
  | nil => rfl
  | cons m q ih =>
    obtain ⟨b', x, m⟩ := m
    rw [hk_b_n (h _ List.mem_cons_self), ih (fun m hm => h m (List.mem_cons_of_mem _ hm))]
theorem iN_m {b r : Nat} {l : List Nat} : ∀ m ∈ iN b r l, m.1 = b := by
  intro m hm
  obtain ⟨i, _, rfl⟩ := List.mem_map.mp hm
  rfl
theorem hz_sends {n t mx : Nat} {s : Nat → Nat → Nat} {ms : Nat → Nat → Int} {d ow : Nat → Nat} {sh : Nat → Nat → Bool} {nx sz wt : Nat → Nat} {r b : Nat} (hr : r < 4) : ∀ (l : List Nat) (u w : hd_V) (q qc : List hq_M), hz n t mx u w s ms d ow sh nx sz wt q → hq_C u qc → qc.length + l.length ≤ 32 → q.length + l.length ≤ 32 → hz n t mx (cS r b l u) (mS r b l w) s ms d ow sh nx sz wt (q ++ iN b r l) ∧ hq_C (cS r b l u) (qc ++ iN b r l) := by
  intro l
  induction l with
  | nil =>
    intro u w q qc h1 h2 _ _
    unfold iN
    rw [List.map_nil, List.append_nil, List.append_nil]
    exact ⟨h1, h2⟩
  | cons i l ih =>
    intro u w q qc h1 h2 h3 h4
    rw [List.length_cons] at h3 h4
    have g := hz_send (m := (b, 0, 6, 4, i, 0, r)) h1 h2 (by omega) (by omega) (he_f (kk := 6) (by decide) hr)
    have k := ih _ _ _ _ g.1 g.2 (by rw [List.length_append, List.length_singleton]; omega) (by rw [List.length_append, List.length_singleton]; omega)
    rw [List.append_assoc, List.append_assoc] at k
    exact k
theorem inv_c {r b : Nat} (S : Nat → Bool) (u : hd_V) : f_Home_invalidate (hk_m S) (nI b) (nI r) u = cS r b (hm_l S) u := by
  have step : ∀ (k y : Nat) (u : hd_V), y < 4 → f_Home_invalidate_L3 (hk_m S) (nI b) (nI r) (k + 1) (nI y) u = f_Home_invalidate_L3 (hk_m S) (nI b) (nI r) k (nI (y + 1)) (if S y = true then f_Net_send 6 4 (nI y) (nI b) 0 0 (nI r) u else u) := by
    intro k y u hy
    conv => lhs; unfold f_Home_invalidate_L3
    dsimp only [f_Net_sendFor]
    rw [if_neg (show ¬ (4 : Int32) ≤ nI y from nI_ge (a := y) (b := 4) hy (by decide)), nI_1]
    by_cases z : S y = true
    · rw [if_pos z, if_neg (fun q => by rw [(hm_bit S hy).mp q] at z; cases z)]
    · rw [if_neg z, if_pos ((hm_bit S hy).mpr (by cases h : S y; rfl; exact absurd h z))]
  have last : ∀ (u : hd_V), f_Home_invalidate_L3 (hk_m S) (nI b) (nI r) 1 (nI 4) u = u := by
    intro u
    unfold f_Home_invalidate_L3
    exact if_pos (by decide)
  show f_Home_invalidate_L3 (hk_m S) (nI b) (nI r) 5 (nI 0) u = _
  rw [step 4 0 _ (by decide), step 3 1 _ (by decide), step 2 2 _ (by decide), step 1 3 _ (by decide), last]
  unfold hm_l
  cases S 0 <;> cases S 1 <;> cases S 2 <;> cases S 3 <;> simp only [Bool.false_eq_true, if_false, if_true, List.nil_append, List.cons_append, List.append_nil, cS]
theorem msu {a b c d e f g : Int32} {v : hd_V} {i : Nat} {x : Int32} : f_Mod_send a b c d e f g (hd_u v 36 0 i x) = hd_u (f_Mod_send a b c d e f g v) 36 0 i x := by
  funext k c' i'
  unfold f_Mod_send
  simp only [hd_u_eq, Nat.reduceEqDiff, false_and, if_false]
  by_cases h : k = 36
  · subst h; simp
  · simp [h]
theorem inv_m {r b : Nat} {sh : Nat → Nat → Bool} {w : hd_V} (hr : r < 4) (hb : b < 4) (hg : ∀ c, c < 4 → w 36 0 (4 * b + c) = if sh b c = true then 1 else 0) : f_Mod_getm_L50 (nI r) (nI b) 5 0 w = hd_u (hd_u (hd_u (hd_u (hd_u (hd_u (mS r b (hm_l (pr_up (sh b) r false)) w) 36 0 (4 * b + 0) 0) 36 0 (4 * b + 1) 0) 36 0 (4 * b + 2) 0) 36 0 (4 * b + 3) 0) 35 0 b (nI r)) 34 0 b 2 := by
  have step : ∀ (k y : Nat) (w : hd_V), y < 4 → (w 36 0 (4 * b + y) = if sh b y = true then 1 else 0) → f_Mod_getm_L50 (nI r) (nI b) (k + 1) (nI y) w = f_Mod_getm_L50 (nI r) (nI b) k (nI (y + 1)) (hd_u (if pr_up (sh b) r false y = true then f_Mod_send 6 4 (nI y) (nI b) 0 0 (nI r) w else w) 36 0 (4 * b + y) 0) := by
    intro k y w hy hw
    conv => lhs; unfold f_Mod_getm_L50
    dsimp only
    rw [if_neg (show ¬ (4 : Int32) ≤ nI y from nI_ge (a := y) (b := 4) hy (by decide)), nI_1, ix4 hb hy, hw, pr_up_e]
    by_cases z : sh b y = true
    · rw [if_pos z, if_neg (by decide)]
      by_cases e : y = r
      · subst e
        rw [if_pos rfl, if_pos rfl, if_neg (by decide)]
      · rw [if_neg (fun q => e ((nIe (by omega) (by omega)).mp q)), if_neg e, if_pos z]
    · rw [if_neg z, if_pos rfl]
      by_cases e : y = r
      · rw [if_pos e, if_neg (by decide)]
      · rw [if_neg e, if_neg z]
  have last : ∀ (w : hd_V), f_Mod_getm_L50 (nI r) (nI b) 1 (nI 4) w = hd_u (hd_u w 35 0 b (nI r)) 34 0 b 2 := by
    intro w
    unfold f_Mod_getm_L50
    rw [if_pos (show (4 : Int32) ≤ nI 4 by decide), ix1 hb]
  have k36 : ∀ (S : Bool) (a b c d e f g : Int32) (w : hd_V), (if S = true then f_Mod_send a b c d e f g w else w) 36 = w 36 := by
    intro S a b c d e f g w
    split
    · exact ms_k (by decide) (by decide)
    · rfl
  have com : ∀ (S : Bool) (a b c d e f g : Int32) (w : hd_V) (i : Nat) (x : Int32), (if S = true then f_Mod_send a b c d e f g (hd_u w 36 0 i x) else hd_u w 36 0 i x) = hd_u (if S = true then f_Mod_send a b c d e f g w else w) 36 0 i x := by
    intro S a b c d e f g w i x
    split
    · exact msu
    · rfl
  have nx : ∀ (S : Bool) (a b c d e f g : Int32) (w : hd_V) (i j : Nat) (x : Int32), ¬ j = i → hd_u (if S = true then f_Mod_send a b c d e f g w else w) 36 0 i x 36 0 j = w 36 0 j := by
    intro S a b c d e f g w i j x hj
    rw [hd_un _ _ _ _ _ (fun z => hj z.2.2), k36]
  show f_Mod_getm_L50 (nI r) (nI b) 5 (nI 0) w = _
  have g0 := hg 0 (by decide)
  have g1 := hg 1 (by decide)
  have g2 := hg 2 (by decide)
  have g3 := hg 3 (by decide)
  rw [step 4 0 w (by decide) g0]
  rw [step 3 1 _ (by decide) ((nx _ _ _ _ _ _ _ _ _ _ _ _ (by omega)).trans g1)]
  rw [step 2 2 _ (by decide) ((nx _ _ _ _ _ _ _ _ _ _ _ _ (by omega)).trans ((nx _ _ _ _ _ _ _ _ _ _ _ _ (by omega)).trans g2))]
  rw [step 1 3 _ (by decide) ((nx _ _ _ _ _ _ _ _ _ _ _ _ (by omega)).trans ((nx _ _ _ _ _ _ _ _ _ _ _ _ (by omega)).trans ((nx _ _ _ _ _ _ _ _ _ _ _ _ (by omega)).trans g3))), last]
  simp only [com]
  unfold hm_l
  cases pr_up (sh b) r false 0 <;> cases pr_up (sh b) r false 1 <;> cases pr_up (sh b) r false 2 <;> cases pr_up (sh b) r false 3 <;> simp only [Bool.false_eq_true, if_false, if_true, List.nil_append, List.cons_append, List.append_nil, mS]
theorem hm_l0 (f : Nat → Bool) : nI (hm_l f).length = 0 ↔ hk_m f = 0 := by
  unfold hk_m hm_l
  cases f 0 <;> cases f 1 <;> cases f 2 <;> cases f 3 <;> decide
theorem hP_h {s : Nat → Nat → Nat} {ms : Nat → Nat → Int} {d ow : Nat → Nat} {sh : Nat → Nat → Bool} {a e new : List hq_M} {m : hq_M} {d' ow' : Nat} {S : Nat → Bool} (hb : m.1 < 4) (hP : hk_P s ms d ow sh (a ++ m :: e)) (hnew : ∀ x ∈ new, x.1 = m.1) (hI : pr_I (s m.1) (ms m.1) d' ow' S (hk_b m.1 a ++ hk_b m.1 e ++ hk_b m.1 new)) : hk_P s ms (pr_up d m.1 d') (pr_up ow m.1 ow') (pr_up sh m.1 S) (a ++ e ++ new) := by
  refine hk_P_of (b := m.1) hP (fun b' hb' => ⟨rfl, rfl, pr_up_n _ _ _ hb', pr_up_n _ _ _ hb', pr_up_n _ _ _ hb', ?_⟩) (fun _ => ?_) ?_
  · obtain ⟨b, x, m⟩ := m
    have hb2 : ¬ b = b' := fun q => hb' q.symm
    rw [hk_b_app, hk_b_app, hk_b_app, hk_b_n hb2, hk_b_none (q := new) (fun x hx => by rw [hnew x hx]; exact hb2), List.append_nil]
  · rw [pr_up_s, pr_up_s, pr_up_s, hk_b_app, hk_b_app]
    exact hI
  · intro x hx
    rcases List.mem_append.mp hx with k | k
    · exact hP.2 x (by simp at k ⊢; rcases k with z | z <;> simp [z])
    · rw [hnew x k]; exact hb
