/-! The ties of the class's ints (u) and the reference's (w), and the document's machine's numbers -/
def pu {α : Type} (s : Nat → Nat → α) (b c : Nat) (x : α) : Nat → Nat → α := pr_up s b (pr_up (s b) c x)
theorem pu_e {α : Type} {s : Nat → Nat → α} {b c : Nat} {x : α} {b' c' : Nat} : pu s b c x b' c' = if b' = b ∧ c' = c then x else s b' c' := by
  unfold pu pr_up
  by_cases h : b' = b
  · subst h; simp
  · simp [h]
theorem pu_s {α : Type} {s : Nat → Nat → α} {b c : Nat} {x : α} : pu s b c x b = pr_up (s b) c x := pr_up_s _ _ _
theorem pu_n {α : Type} {s : Nat → Nat → α} {b c : Nat} {x : α} {b' : Nat} (h : ¬ b' = b) : pu s b c x b' = s b' := pr_up_n _ _ _ h
theorem pr_up_e {α : Type} {f : Nat → α} {k : Nat} {x : α} {j : Nat} : pr_up f k x j = if j = k then x else f j := rfl
theorem upd_e {f : Nat → Int32} {k : Nat} {x : Int32} {j : Nat} : upd f k x j = if j = k then x else f j := rfl
def hcol (T : Nat → Nat → Int32) (i : Nat) : Nat → Int32 := fun c => T c i
theorem hcol_n {T : Nat → Nat → Int32} {c i j : Nat} {x : Int32} (h : ¬ j = i) : hcol (up2 T c i x) j = hcol T j := by
  funext d
  unfold hcol
  rw [up2_e, if_neg (fun z => h z.2)]
theorem hcol_s {T : Nat → Nat → Int32} {c i : Nat} {x : Int32} : hcol (up2 T c i x) i = upd (hcol T i) c x := by
  funext d
  unfold hcol upd
  rw [up2_e]
  simp
def t_2 (F : Nat → Nat → Int32) (g : Nat → Int32) : Prop := ∀ c, c < 4 → ∀ b, b < 4 → g (4 * c + b) = F c b
def t_1 (f g : Nat → Int32) : Prop := ∀ c, c < 4 → g c = f c
def t_s (s : Nat → Nat → Nat) (F : Nat → Nat → Int32) : Prop := ∀ c, c < 4 → ∀ b, b < 4 → F c b = nI (s b c)
def t_m (s : Nat → Nat → Nat) (ms : Nat → Nat → Int) (F : Nat → Nat → Int32) (g : Nat → Int32) : Prop := ∀ c, c < 4 → ∀ b, b < 4 → (F c b).toInt = ms b c ∧ (4 ≤ s b c → s b c ≤ 7 → g (4 * c + b) = F c b)
def t_n (x : Nat → Nat) (N : Nat) (f : Nat → Int32) : Prop := ∀ c, c < 4 → f c = nI (x c) ∧ x c ≤ N
def t_o (x : Nat → Nat) (f : Nat → Int32) : Prop := ∀ c, c < 4 → f c = hq_r (x c)
def t_w (x : Nat → Nat) (f g : Nat → Int32) : Prop := ∀ c, c < 4 → f c = nI (32 * x c) ∧ g c = nI (x c) ∧ x c ≤ 2
def t_p (U X : Nat → Nat → Int32) (g h : Nat → Int32) : Prop := (∀ c, c < 4 → ∀ i, i < 16 → g (16 * c + i) = U c i ∧ h (16 * c + i) = X c i) ∧ (∀ c, c < 4 → ∀ i, (¬ f_Core_isAccess (U c i) = 0 → vp_in (X c i) 4) ∧ (U c i = 3 → vp_in (X c i) 16)) ∧ ∀ i, ¬ f_Mod_access (g i) = 0 → vp_in (h i) 4
def hk_m (f : Nat → Bool) : Int32 := (if f 0 = true then 1 else 0) + (if f 1 = true then 2 else 0) + (if f 2 = true then 4 else 0) + (if f 3 = true then 8 else 0)
def t_h (sh : Nat → Nat → Bool) (f g : Nat → Int32) : Prop := ∀ b, b < 4 → f b = hk_m (sh b) ∧ ∀ c, c < 4 → g (4 * b + c) = if sh b c = true then 1 else 0
def t_c (n mx : Nat) (f g : Nat → Int32) (x y : Int32) : Prop := x = nI n ∧ y = nI mx ∧ 1 ≤ mx ∧ mx ≤ 3 ∧ ∀ c, c < 4 → f c = nI c ∧ g c = nI mx
def t_t (n t : Nat) (f : Nat → Int32) (F : Nat → Nat → Int32) (x y : Int32) (g : Nat → Int32) : Prop := ∃ (N : Nat) (ac : Nat → Nat) (la lm : Nat → Nat → Nat), N = ac 0 + ac 1 + ac 2 + ac 3 ∧ N ≤ t ∧ N ≤ 512 ∧ x = nI N ∧ y = nI N ∧ (∀ c, n ≤ c → c < 4 → ac c = 0) ∧ ∀ c, c < 4 → f c = nI (ac c) ∧ ∀ b, b < 4 → F c b = nI (la c b) ∧ g (4 * c + b) = nI (lm c b) ∧ la c b ≤ ac c ∧ lm c b ≤ N ∧ ∀ b', b' < 4 → (la c b ≤ la c b' ↔ lm c b ≤ lm c b')
def hz (n t mx : Nat) (u w : hd_V) (s : Nat → Nat → Nat) (ms : Nat → Nat → Int) (d ow : Nat → Nat) (sh : Nat → Nat → Bool) (nx sz wt : Nat → Nat) (q : List hq_M) : Prop :=
  t_2 (u 13) (w 28 0) ∧ t_2 (u 14) (w 29 0) ∧ t_m s ms (u 15) (w 30 0) ∧ t_s s (u 13) ∧ t_p (u 11) (u 12) (w 23 0) (w 24 0) ∧
  t_1 (hcol (u 10) 5) (w 25 0) ∧ t_1 (hcol (u 10) 6) (w 22 0) ∧ t_1 (hcol (u 10) 7) (w 26 0) ∧ t_n sz 16 (hcol (u 10) 5) ∧ t_n nx 16 (hcol (u 10) 7) ∧ t_w wt (hcol (u 10) 8) (w 27 0) ∧
  t_1 (u 5 0) (w 33 0) ∧ t_1 (u 6 0) (w 34 0) ∧ t_1 (u 7 0) (w 35 0) ∧ t_n d 3 (u 6 0) ∧ t_o ow (u 7 0) ∧ t_h sh (u 8 0) (w 36 0) ∧
  t_c n mx (hcol (u 10) 0) (hcol (u 10) 1) (w 20 0 0) (w 20 0 1) ∧ t_t n t (hcol (u 10) 13) (u 16) (w 20 0 12) (w 20 0 19) (w 31 0) ∧ w 20 0 18 = u 1 0 2 ∧ hq_R w q
/-! How the ties are kept -/
theorem t_2_u {F : Nat → Nat → Int32} {g : Nat → Int32} {c b : Nat} {x : Int32} (hb : b < 4) (h : t_2 F g) : t_2 (up2 F c b x) (upd g (4 * c + b) x) := by
  intro c' hc' b' hb'
  have h1 := h c' hc' b' hb'
  rw [up2_e, upd_e]
  by_cases e : c' = c ∧ b' = b
  · rw [if_pos e, if_pos (by omega)]
  · rw [if_neg e, if_neg (by omega)]; exact h1
theorem t_1_u {f g : Nat → Int32} {c : Nat} {x : Int32} (h : t_1 f g) : t_1 (upd f c x) (upd g c x) := by
  intro c' hc'
  have h1 := h c' hc'
  rw [upd_e, upd_e]
  split
  · rfl
  · exact h1
theorem t_s_u {s : Nat → Nat → Nat} {F : Nat → Nat → Int32} {c b x : Nat} {y : Int32} (hy : y = nI x) (h : t_s s F) : t_s (pu s b c x) (up2 F c b y) := by
  intro c' hc' b' hb'
  have h1 := h c' hc' b' hb'
  rw [up2_e, pu_e]
  by_cases e : c' = c ∧ b' = b
  · rw [if_pos e, if_pos ⟨e.2, e.1⟩, hy]
  · rw [if_neg e, if_neg (fun z => e ⟨z.2, z.1⟩)]; exact h1
/-- the line's state changes -/
theorem t_m_s {s : Nat → Nat → Nat} {ms : Nat → Nat → Int} {F : Nat → Nat → Int32} {g : Nat → Int32} {c b x : Nat} (hx : 4 ≤ x → x ≤ 7 → 4 ≤ s b c ∧ s b c ≤ 7) (h : t_m s ms F g) : t_m (pu s b c x) ms F g := by
  intro c' hc' b' hb'
  have h1 := h c' hc' b' hb'
  refine ⟨h1.1, ?_⟩
  rw [pu_e]
  by_cases e : b' = b ∧ c' = c
  · rw [if_pos e]
    obtain ⟨rfl, rfl⟩ := e
    intro a1 a2
    exact h1.2 (hx a1 a2).1 (hx a1 a2).2
  · rw [if_neg e]
    exact h1.2
/-- both counts change -/
theorem t_m_u {s : Nat → Nat → Nat} {ms : Nat → Nat → Int} {F : Nat → Nat → Int32} {g : Nat → Int32} {c b x : Nat} {y : Int32} {z : Int} (hb : b < 4) (hz : y.toInt = z) (h : t_m s ms F g) : t_m (pu s b c x) (pu ms b c z) (up2 F c b y) (upd g (4 * c + b) y) := by
  intro c' hc' b' hb'
  have h1 := h c' hc' b' hb'
  rw [up2_e, upd_e, pu_e, pu_e]
  by_cases e : c' = c ∧ b' = b
  · rw [if_pos e, if_pos ⟨e.2, e.1⟩, if_pos ⟨e.2, e.1⟩, if_pos (by omega)]
    exact ⟨hz, fun _ _ => rfl⟩
  · rw [if_neg e, if_neg (fun z => e ⟨z.2, z.1⟩), if_neg (fun z => e ⟨z.2, z.1⟩), if_neg (by omega)]
    exact h1
/-- both counts change, the line doesn't -/
theorem t_m_v {s : Nat → Nat → Nat} {ms : Nat → Nat → Int} {F : Nat → Nat → Int32} {g : Nat → Int32} {c b : Nat} {y : Int32} {z : Int} (hb : b < 4) (hz : y.toInt = z) (h : t_m s ms F g) : t_m s (pu ms b c z) (up2 F c b y) (upd g (4 * c + b) y) := by
  intro c' hc' b' hb'
  have h1 := h c' hc' b' hb'
  rw [up2_e, upd_e, pu_e]
  by_cases e : c' = c ∧ b' = b
  · rw [if_pos e, if_pos ⟨e.2, e.1⟩, if_pos (by omega)]
    exact ⟨hz, fun _ _ => rfl⟩
  · rw [if_neg e, if_neg (fun z => e ⟨z.2, z.1⟩), if_neg (by omega)]
    exact h1
/-- the reference's count changes where nobody asks for it -/
theorem t_m_w {s : Nat → Nat → Nat} {ms : Nat → Nat → Int} {F : Nat → Nat → Int32} {g : Nat → Int32} {c b x : Nat} {y : Int32} (hb : b < 4) (hx : ¬ (4 ≤ x ∧ x ≤ 7)) (h : t_m s ms F g) : t_m (pu s b c x) ms F (upd g (4 * c + b) y) := by
  intro c' hc' b' hb'
  have h1 := h c' hc' b' hb'
  refine ⟨h1.1, ?_⟩
  rw [pu_e, upd_e]
  by_cases e : b' = b ∧ c' = c
  · rw [if_pos e]
    intro a1 a2
    exact absurd ⟨a1, a2⟩ hx
  · rw [if_neg e, if_neg (by omega)]
    exact h1.2
theorem t_n_u {x : Nat → Nat} {N : Nat} {f : Nat → Int32} {c y : Nat} {z : Int32} (hz : z = nI y) (hy : y ≤ N) (h : t_n x N f) : t_n (pr_up x c y) N (upd f c z) := by
  intro c' hc'
  have h1 := h c' hc'
  rw [upd_e, pr_up_e]
  split
  · exact ⟨hz, hy⟩
  · exact h1
theorem t_o_u {x : Nat → Nat} {f : Nat → Int32} {c y : Nat} {z : Int32} (hz : z = hq_r y) (h : t_o x f) : t_o (pr_up x c y) (upd f c z) := by
  intro c' hc'
  have h1 := h c' hc'
  rw [upd_e, pr_up_e]
  split
  · exact hz
  · exact h1
theorem t_w_u {x : Nat → Nat} {f g : Nat → Int32} {c y : Nat} {z z' : Int32} (hz : z = nI (32 * y)) (hz' : z' = nI y) (hy : y ≤ 2) (h : t_w x f g) : t_w (pr_up x c y) (upd f c z) (upd g c z') := by
  intro c' hc'
  have h1 := h c' hc'
  rw [upd_e, upd_e, pr_up_e]
  split
  · exact ⟨hz, hz', hy⟩
  · exact h1
/-- an access done: the core's count and the clock go on, the line is the one used last -/
theorem t_t_u {n t : Nat} {f : Nat → Int32} {F : Nat → Nat → Int32} {x y : Int32} {g : Nat → Int32} {c b : Nat} (ht : t < 512) (hc : c < n) (hc4 : c < 4) (hb : b < 4) (h : t_t n t f F x y g) : t_t n (t + 1) (upd f c (f c + 1)) (up2 F c b (f c + 1)) (x + 1) (y + 1) (upd g (4 * c + b) (x + 1)) := by
  obtain ⟨N, ac, la, lm, h1, h2, h3, h4, h5, h6, h7⟩ := h
  have hs : ∀ i, i < 4 → pr_up ac c (ac c + 1) i = if i = c then ac c + 1 else ac i := fun i _ => rfl
  refine ⟨N + 1, pr_up ac c (ac c + 1), fun c' => if c' = c then pr_up (la c) b (ac c + 1) else la c', fun c' => if c' = c then pr_up (lm c) b (N + 1) else lm c', ?_, by omega, by omega, by rw [h4, nI_1], by rw [h5, nI_1], ?_, ?_⟩
  · rw [hs 0 (by decide), hs 1 (by decide), hs 2 (by decide), hs 3 (by decide)]
    rcases (show c = 0 ∨ c = 1 ∨ c = 2 ∨ c = 3 by omega) with z | z | z | z <;> subst z <;> simp <;> omega
  · intro c' h1 h2
    rw [pr_up_n _ _ _ (by omega)]
    exact h6 c' h1 h2
  · intro c' hc'
    have k := h7 c' hc'
    by_cases e : c' = c
    · subst e
      refine ⟨by rw [upd_s, pr_up_s, k.1, nI_1], fun b' hb' => ?_⟩
      have kb := k.2 b' hb'
      have kb0 := k.2 b hb
      rw [up2_e, upd_e, pr_up_s]
      simp only [if_true]
      by_cases eb : b' = b
      · subst eb
        rw [if_pos (by simp), if_pos rfl, pr_up_s, pr_up_s]
        refine ⟨by rw [k.1, nI_1], by rw [h4, nI_1], Nat.le_refl _, Nat.le_refl _, fun b'' hb'' => ?_⟩
        have kk := k.2 b'' hb''
        by_cases e2 : b'' = b'
        · subst e2; rw [pr_up_s, pr_up_s]; simp
        · rw [pr_up_n _ _ _ e2, pr_up_n _ _ _ e2]
          have := kk.2.2.1
          have := kk.2.2.2.1
          omega
      · rw [if_neg (by simpa using eb), if_neg (by omega), pr_up_n _ _ _ eb, pr_up_n _ _ _ eb]
        refine ⟨kb.1, kb.2.1, by have := kb.2.2.1; omega, by have := kb.2.2.2.1; omega, fun b'' hb'' => ?_⟩
        by_cases e2 : b'' = b
        · subst e2
          rw [pr_up_s, pr_up_s]
          have := kb.2.2.1
          have := kb.2.2.2.1
          omega
        · rw [pr_up_n _ _ _ e2, pr_up_n _ _ _ e2]
          exact kb.2.2.2.2 b'' hb''
    · rw [upd_n e, pr_up_n _ _ _ e]
      refine ⟨k.1, fun b' hb' => ?_⟩
      have kb := k.2 b' hb'
      rw [up2_e, if_neg (fun z => e z.1), upd_e, if_neg (by omega)]
      simp only [if_neg e]
      exact ⟨kb.1, kb.2.1, kb.2.2.1, by have := kb.2.2.2.1; omega, kb.2.2.2.2⟩
theorem t_t_w {n t : Nat} {f : Nat → Int32} {F : Nat → Nat → Int32} {x y : Int32} {g : Nat → Int32} (h : t_t n t f F x y g) : t_t n (t + 1) f F x y g := by
  obtain ⟨N, ac, la, lm, h1, h2, h3, h4⟩ := h
  exact ⟨N, ac, la, lm, h1, by omega, h3, h4⟩
theorem hq_R_of {w w' : hd_V} {q : List hq_M} (h0 : w' 20 0 17 = w 20 0 17) (h : ∀ k, 40 ≤ k → k ≤ 46 → w' k = w k) (hr : hq_R w q) : hq_R w' q := by
  obtain ⟨h1, h2, h3⟩ := hr
  refine ⟨by rw [h0]; exact h1, h2, fun k m hm => ?_⟩
  rw [← h3 k m hm]
  unfold hq_m
  rw [h 40 (by decide) (by decide), h 41 (by decide) (by decide), h 42 (by decide) (by decide), h 43 (by decide) (by decide), h 44 (by decide) (by decide), h 45 (by decide) (by decide), h 46 (by decide) (by decide)]
theorem hz_t {n t mx : Nat} {u w : hd_V} {s : Nat → Nat → Nat} {ms : Nat → Nat → Int} {d ow : Nat → Nat} {sh : Nat → Nat → Bool} {nx sz wt : Nat → Nat} {q : List hq_M} (h : hz n t mx u w s ms d ow sh nx sz wt q) : hz n (t + 1) mx u w s ms d ow sh nx sz wt q := by
  obtain ⟨h1, h2, h3, h4, h5, h6, h7, h8, h9, h10, h11, h12, h13, h14, h15, h16, h17, h18, h19, h20, h21⟩ := h
  exact ⟨h1, h2, h3, h4, h5, h6, h7, h8, h9, h10, h11, h12, h13, h14, h15, h16, h17, h18, t_t_w h19, h20, h21⟩
/-- what lies in u from 20 on, and in w below, plays no part -/
theorem hz_of {n t mx : Nat} {u w u' w' : hd_V} {s : Nat → Nat → Nat} {ms : Nat → Nat → Int} {d ow : Nat → Nat} {sh : Nat → Nat → Bool} {nx sz wt : Nat → Nat} {q : List hq_M} (hu : ∀ k, k < 20 → u' k = u k) (hw : ∀ k, 20 ≤ k → w' k = w k) (h : hz n t mx u w s ms d ow sh nx sz wt q) : hz n t mx u' w' s ms d ow sh nx sz wt q := by
  obtain ⟨h1, h2, h3, h4, h5, h6, h7, h8, h9, h10, h11, h12, h13, h14, h15, h16, h17, h18, h19, h20, h21⟩ := h
  refine ⟨?_, ?_, ?_, ?_, ?_, ?_, ?_, ?_, ?_, ?_, ?_, ?_, ?_, ?_, ?_, ?_, ?_, ?_, ?_, ?_, ?_⟩
  case refine_21 => exact hq_R_of (by rw [hw 20 (by decide)]) (fun k h1 h2 => hw k (by omega)) h21
  all_goals (simp only [hu 13 (by decide), hu 14 (by decide), hu 15 (by decide), hu 11 (by decide), hu 12 (by decide), hu 10 (by decide), hu 5 (by decide), hu 6 (by decide), hu 7 (by decide), hu 8 (by decide), hu 16 (by decide), hu 1 (by decide), hw 28 (by decide), hw 29 (by decide), hw 30 (by decide), hw 23 (by decide), hw 24 (by decide), hw 25 (by decide), hw 22 (by decide), hw 26 (by decide), hw 27 (by decide), hw 33 (by decide), hw 34 (by decide), hw 35 (by decide), hw 36 (by decide), hw 20 (by decide), hw 31 (by decide)]; assumption)
