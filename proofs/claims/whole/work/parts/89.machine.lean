/-! The messages of one block; the machine over all blocks -/
def hk_b (b : Nat) (q : List hq_M) : List pr_M := (q.filter (fun m => m.1 == b)).map (fun m => m.2.2)
theorem hk_b_app (b : Nat) (p q : List hq_M) : hk_b b (p ++ q) = hk_b b p ++ hk_b b q := by
  unfold hk_b
  rw [List.filter_append, List.map_append]
theorem hk_b_s (b : Nat) (x : Int32) (m : pr_M) (q : List hq_M) : hk_b b ((b, x, m) :: q) = m :: hk_b b q := by
  unfold hk_b
  rw [List.filter_cons_of_pos (by simp)]
  rfl
theorem hk_b_n {b b' : Nat} (h : ¬ b' = b) (x : Int32) (m : pr_M) (q : List hq_M) : hk_b b ((b', x, m) :: q) = hk_b b q := by
  unfold hk_b
  rw [List.filter_cons_of_neg (by simp [h])]
theorem hk_b_nil (b : Nat) : hk_b b [] = [] := rfl
def hk_P (s : Nat → Nat → Nat) (ms : Nat → Nat → Int) (d ow : Nat → Nat) (sh : Nat → Nat → Bool) (q : List hq_M) : Prop := (∀ b, b < 4 → pr_I (s b) (ms b) (d b) (ow b) (sh b) (hk_b b q)) ∧ ∀ m ∈ q, m.1 < 4
def hk_n (n : Nat) (s : Nat → Nat → Nat) (wt : Nat → Nat) : Prop := ∀ c, n ≤ c → c < 4 → wt c = 0 ∧ ∀ b, b < 4 → s b c = 0
def hk_w (X : Nat → Nat → Prop) (s : Nat → Nat → Nat) (nx sz wt : Nat → Nat) (U V : Nat → Nat → Int32) (c : Nat) : Prop :=
  (wt c = 0 → ∀ b, b < 4 → s b c ≤ 2) ∧
  (wt c = 1 → nx c < sz c ∧ ¬ f_Core_isAccess (U c (nx c)) = 0 ∧ ∃ b, b < 4 ∧ V c (nx c) = nI b ∧ ((U c (nx c) = 0 ∧ s b c = 3) ∨ (¬ U c (nx c) = 0 ∧ 4 ≤ s b c ∧ s b c ≤ 7) ∨ (X c b ∧ ((U c (nx c) = 0 ∧ (s b c = 1 ∨ s b c = 2)) ∨ (¬ U c (nx c) = 0 ∧ s b c = 2)))) ∧ ∀ b', b' < 4 → ¬ b' = b → s b' c ≤ 2) ∧
  (wt c = 2 → ∃ b, b < 4 ∧ 8 ≤ s b c ∧ ∀ b', b' < 4 → ¬ b' = b → s b' c ≤ 2)
def hk_W (X : Nat → Nat → Prop) (s : Nat → Nat → Nat) (nx sz wt : Nat → Nat) (U V : Nat → Nat → Int32) : Prop := ∀ c, c < 4 → hk_w X s nx sz wt U V c
def hk_F : Nat → Nat → Prop := fun _ _ => False
/-- another core's line changes -/
theorem hk_w_o {X X' : Nat → Nat → Prop} {s s' : Nat → Nat → Nat} {nx sz wt nx' sz' wt' : Nat → Nat} {U V U' V' : Nat → Nat → Int32} {c : Nat} (hX : ∀ b, X c b → X' c b) (hs : ∀ b, b < 4 → s' b c = s b c) (h1 : nx' c = nx c) (h2 : sz' c = sz c) (h3 : wt' c = wt c) (h4 : wt c = 1 → U' c (nx c) = U c (nx c) ∧ V' c (nx c) = V c (nx c)) (h : hk_w X s nx sz wt U V c) : hk_w X' s' nx' sz' wt' U' V' c := by
  obtain ⟨a0, a1, a2⟩ := h
  unfold hk_w
  rw [h1, h2, h3]
  refine ⟨fun z b hb => by rw [hs b hb]; exact a0 z b hb, fun z => ?_, fun z => ?_⟩
  · obtain ⟨e1, e2, b, hb, e3, e4, e5⟩ := a1 z
    obtain ⟨z1, z2⟩ := h4 z
    rw [z1, z2]
    refine ⟨e1, e2, b, hb, e3, ?_, fun b' hb' hn => by rw [hs b' hb']; exact e5 b' hb' hn⟩
    rw [hs b hb]
    rcases e4 with e4 | e4 | e4
    · exact Or.inl e4
    · exact Or.inr (Or.inl e4)
    · exact Or.inr (Or.inr ⟨hX b e4.1, e4.2⟩)
  · obtain ⟨b, hb, e4, e5⟩ := a2 z
    exact ⟨b, hb, by rw [hs b hb]; exact e4, fun b' hb' hn => by rw [hs b' hb']; exact e5 b' hb' hn⟩
theorem hk_W_o {X X' : Nat → Nat → Prop} {s s' : Nat → Nat → Nat} {nx sz wt nx' sz' wt' : Nat → Nat} {U V : Nat → Nat → Int32} {c0 : Nat} (hX : ∀ c b, X c b → X' c b) (hs : ∀ c b, ¬ c = c0 → s' b c = s b c) (h1 : ∀ c, ¬ c = c0 → nx' c = nx c) (h2 : ∀ c, ¬ c = c0 → sz' c = sz c) (h3 : ∀ c, ¬ c = c0 → wt' c = wt c) (h0 : c0 < 4 → hk_w X' s' nx' sz' wt' U V c0) (h : hk_W X s nx sz wt U V) : hk_W X' s' nx' sz' wt' U V := by
  intro c hc
  by_cases e : c = c0
  · subst e; exact h0 hc
  · exact hk_w_o (hX c) (fun b _ => hs c b e) (h1 c e) (h2 c e) (h3 c e) (fun _ => ⟨rfl, rfl⟩) (h c hc)
theorem hk_up {s : Nat → Nat → Nat} {b c x : Nat} (c' b' : Nat) (h : ¬ c' = c) : pu s b c x b' c' = s b' c' := by
  rw [pu_e, if_neg (fun z => h z.2)]
theorem hk_upn {α : Type} {s : Nat → α} {c : Nat} {x : α} (c' : Nat) (h : ¬ c' = c) : pr_up s c x c' = s c' := pr_up_n _ _ _ h
/-- a message changes the line of block b at core c -/
theorem hk_W_A {s : Nat → Nat → Nat} {nx sz wt : Nat → Nat} {U V : Nat → Nat → Int32} {c b x : Nat} (hc : c < 4) (hb : b < 4) (hx : (s b c ≤ 2 ∧ x ≤ 2) ∨ (4 ≤ s b c ∧ s b c ≤ 7 ∧ ((4 ≤ x ∧ x ≤ 7) ∨ x = 2)) ∨ (s b c = 3 ∧ x = 1) ∨ (8 ≤ s b c ∧ 8 ≤ x)) (hw2 : wt c ≤ 2) (h : hk_W hk_F s nx sz wt U V) : hk_W (fun c' b' => c' = c ∧ b' = b) (pu s b c x) nx sz wt U V := by
  refine hk_W_o (c0 := c) (fun c b z => z.elim) (fun c' b' z => hk_up c' b' z) (fun _ _ => rfl) (fun _ _ => rfl) (fun _ _ => rfl) (fun _ => ?_) h
  obtain ⟨a0, a1, a2⟩ := h c hc
  have es : ∀ b', pu s b c x b' c = if b' = b then x else s b' c := fun b' => by rw [pu_e]; simp
  refine ⟨fun z b' hb' => ?_, fun z => ?_, fun z => ?_⟩
  · rw [es]
    have k0 := a0 z b hb
    have k1 := a0 z b' hb'
    split
    · (clear a0 a1 a2; omega)
    · exact k1
  · obtain ⟨e1, e2, b0, hb0, e3, e4, e5⟩ := a1 z
    refine ⟨e1, e2, b0, hb0, e3, ?_, fun b' hb' hn => ?_⟩
    · rw [es]
      by_cases eb : b0 = b
      · subst eb
        rw [if_pos rfl]
        rcases e4 with e4 | e4 | e4
        · obtain ⟨o0, o1⟩ := e4
          rw [o1] at hx
          have : x = 1 := by (clear a0 a1 a2; omega)
          exact Or.inr (Or.inr ⟨⟨rfl, rfl⟩, Or.inl ⟨o0, Or.inl this⟩⟩)
        · obtain ⟨o0, o1, o2⟩ := e4
          have : (4 ≤ x ∧ x ≤ 7) ∨ x = 2 := by (clear a0 a1 a2; omega)
          rcases this with y | y
          · exact Or.inr (Or.inl ⟨o0, y⟩)
          · exact Or.inr (Or.inr ⟨⟨rfl, rfl⟩, Or.inr ⟨o0, y⟩⟩)
        · exact e4.1.elim
      · rw [if_neg eb]
        rcases e4 with e4 | e4 | e4
        · exact Or.inl e4
        · exact Or.inr (Or.inl e4)
        · exact e4.1.elim
    · rw [es]
      split
      · rename_i eb
        have := e5 b hb (by rw [← eb]; exact hn)
        (clear a0 a1 a2; omega)
      · exact e5 b' hb' hn
  · obtain ⟨b0, hb0, e4, e5⟩ := a2 z
    refine ⟨b0, hb0, ?_, fun b' hb' hn => ?_⟩
    · rw [es]
      split
      · rename_i eb
        rw [eb] at e4
        (clear a0 a1 a2; omega)
      · exact e4
    · rw [es]
      split
      · rename_i eb
        have := e5 b hb (by rw [← eb]; exact hn)
        (clear a0 a1 a2; omega)
      · exact e5 b' hb' hn
/-- nothing changes at the lines -/
theorem hk_W_0 {s : Nat → Nat → Nat} {nx sz wt : Nat → Nat} {U V : Nat → Nat → Int32} {X : Nat → Nat → Prop} (h : hk_W hk_F s nx sz wt U V) : hk_W X s nx sz wt U V := fun c hc => hk_w_o (fun b z => z.elim) (fun _ _ => rfl) rfl rfl rfl (fun _ => ⟨rfl, rfl⟩) (h c hc)
/-- PUTACK -/
theorem hk_W_7 {s : Nat → Nat → Nat} {nx sz wt : Nat → Nat} {U V : Nat → Nat → Int32} {c b : Nat} {X : Nat → Nat → Prop} (hc : c < 4) (hb : b < 4) (hx : 8 ≤ s b c) (hw2 : wt c ≤ 2) (h : hk_W hk_F s nx sz wt U V) : hk_W X (pu s b c 0) nx sz (pr_up wt c 0) U V := by
  refine hk_W_o (c0 := c) (fun c b z => z.elim) (fun c' b' z => hk_up c' b' z) (fun _ _ => rfl) (fun _ _ => rfl) (fun c' z => hk_upn c' z) (fun _ => ?_) h
  obtain ⟨a0, a1, a2⟩ := h c hc
  have es : ∀ b', pu s b c 0 b' c = if b' = b then 0 else s b' c := fun b' => by rw [pu_e]; simp
  have hw : wt c = 2 := by
    rcases (show wt c = 0 ∨ wt c = 1 ∨ wt c = 2 by clear a0 a1 a2; omega) with z | z | z
    · have := a0 z b hb; clear a0 a1 a2; omega
    · obtain ⟨_, _, b0, _, _, e4, e5⟩ := a1 z
      by_cases eb : b0 = b
      · subst eb
        rcases e4 with e4 | e4 | e4
        · clear a0 a1 a2; omega
        · clear a0 a1 a2; omega
        · exact e4.1.elim
      · have := e5 b hb (fun z => eb z.symm); clear a0 a1 a2; omega
    · exact z
  refine ⟨fun _ b' hb' => ?_, fun z => ?_, fun z => ?_⟩
  · rw [es]
    split
    · clear a0 a1 a2; omega
    · rename_i eb
      obtain ⟨b0, hb0, e4, e5⟩ := a2 hw
      by_cases e0 : b0 = b
      · subst e0; exact e5 b' hb' eb
      · have := e5 b hb (fun z => e0 z.symm); clear a0 a1 a2; omega
  · rw [pr_up_s] at z; cases z
  · rw [pr_up_s] at z; cases z
/-- a request goes out -/
theorem hk_W_q {s : Nat → Nat → Nat} {nx sz wt : Nat → Nat} {U V : Nat → Nat → Int32} {c b x : Nat} (hc : c < 4) (hb : b < 4) (hw : wt c = 0) (h1 : nx c < sz c) (h2 : ¬ f_Core_isAccess (U c (nx c)) = 0) (h3 : V c (nx c) = nI b) (hx : (U c (nx c) = 0 ∧ x = 3) ∨ (¬ U c (nx c) = 0 ∧ 4 ≤ x ∧ x ≤ 7)) (h : hk_W hk_F s nx sz wt U V) : hk_W hk_F (pu s b c x) nx sz (pr_up wt c 1) U V := by
  refine hk_W_o (c0 := c) (fun c b z => z.elim) (fun c' b' z => hk_up c' b' z) (fun _ _ => rfl) (fun _ _ => rfl) (fun c' z => hk_upn c' z) (fun _ => ?_) h
  obtain ⟨a0, a1, a2⟩ := h c hc
  have es : ∀ b', pu s b c x b' c = if b' = b then x else s b' c := fun b' => by rw [pu_e]; simp
  refine ⟨fun z => ?_, fun _ => ?_, fun z => ?_⟩
  · rw [pr_up_s] at z; cases z
  · refine ⟨h1, h2, b, hb, h3, ?_, fun b' hb' hn => ?_⟩
    · rw [es, if_pos rfl]
      rcases hx with z | z
      · exact Or.inl z
      · exact Or.inr (Or.inl z)
    · rw [es, if_neg hn]
      exact a0 hw b' hb'
  · rw [pr_up_s] at z; cases z
/-- a replacement goes out -/
theorem hk_W_p {s : Nat → Nat → Nat} {nx sz wt : Nat → Nat} {U V : Nat → Nat → Int32} {c b x : Nat} (hc : c < 4) (hb : b < 4) (hw : wt c = 0) (hx : 8 ≤ x) (h : hk_W hk_F s nx sz wt U V) : hk_W hk_F (pu s b c x) nx sz (pr_up wt c 2) U V := by
  refine hk_W_o (c0 := c) (fun c b z => z.elim) (fun c' b' z => hk_up c' b' z) (fun _ _ => rfl) (fun _ _ => rfl) (fun c' z => hk_upn c' z) (fun _ => ?_) h
  obtain ⟨a0, a1, a2⟩ := h c hc
  have es : ∀ b', pu s b c x b' c = if b' = b then x else s b' c := fun b' => by rw [pu_e]; simp
  refine ⟨fun z => ?_, fun z => ?_, fun _ => ⟨b, hb, by rw [es, if_pos rfl]; exact hx, fun b' hb' hn => by rw [es, if_neg hn]; exact a0 hw b' hb'⟩⟩
  · rw [pr_up_s] at z; cases z
  · rw [pr_up_s] at z; cases z
/-- a core that doesn't wait moves in its program -/
theorem hk_W_x {s : Nat → Nat → Nat} {nx sz wt : Nat → Nat} {U V : Nat → Nat → Int32} {c y : Nat} (hw : wt c = 0) (h : hk_W hk_F s nx sz wt U V) : hk_W hk_F s (pr_up nx c y) sz wt U V := by
  refine hk_W_o (c0 := c) (fun c b z => z.elim) (fun _ _ _ => rfl) (fun c' z => hk_upn c' z) (fun _ _ => rfl) (fun _ _ => rfl) (fun hc => ?_) h
  obtain ⟨a0, a1, a2⟩ := h c hc
  exact ⟨a0, fun z => absurd (hw.symm.trans z) (by decide), fun z => absurd (hw.symm.trans z) (by decide)⟩
/-! How many messages there can be -/
theorem hk_len {q : List hq_M} (h : ∀ m ∈ q, m.1 < 4) : q.length = (hk_b 0 q).length + (hk_b 1 q).length + (hk_b 2 q).length + (hk_b 3 q).length := by
  induction q with
  | nil => rfl
  | cons m q ih =>
    have h1 := ih (fun x hx => h x (List.mem_cons_of_mem _ hx))
    have h2 := h m List.mem_cons_self
    obtain ⟨b, x, m⟩ := m
    simp only at h2
    rcases (show b = 0 ∨ b = 1 ∨ b = 2 ∨ b = 3 by omega) with z | z | z | z
    · subst z
      rw [hk_b_s, hk_b_n (by decide), hk_b_n (by decide), hk_b_n (by decide), List.length_cons, List.length_cons]
      omega
    · subst z
      rw [hk_b_s, hk_b_n (by decide), hk_b_n (by decide), hk_b_n (by decide), List.length_cons, List.length_cons]
      omega
    · subst z
      rw [hk_b_s, hk_b_n (by decide), hk_b_n (by decide), hk_b_n (by decide), List.length_cons, List.length_cons]
      omega
    · subst z
      rw [hk_b_s, hk_b_n (by decide), hk_b_n (by decide), hk_b_n (by decide), List.length_cons, List.length_cons]
      omega
theorem hk_20 {s : Nat → Nat → Nat} {ms : Nat → Nat → Int} {d ow : Nat → Nat} {sh : Nat → Nat → Bool} {q : List hq_M} {nx sz wt : Nat → Nat} {U V : Nat → Nat → Int32} {X : Nat → Nat → Prop} (hP : hk_P s ms d ow sh q) (hW : hk_W X s nx sz wt U V) (hw : ∀ c, c < 4 → wt c ≤ 2) : q.length ≤ 20 := by
  obtain ⟨hI, hb⟩ := hP
  have e := hk_len hb
  have lb : ∀ b, b < 4 → (hk_b b q).length ≤ 1 + pr_w 0 (hk_b b q) + pr_w 1 (hk_b b q) + pr_w 2 (hk_b b q) + pr_w 3 (hk_b b q) := by
    intro b hb
    obtain ⟨_, _, _, h7, _, h9⟩ := hI b hb
    have := pr_len _ h9
    have h8 : pr_T 8 4 (hk_b b q) ≤ 1 := by
      unfold pr_7 at h7
      by_cases z : d b = 3
      · have := h7.1 z; omega
      · have := h7.2 z; omega
    omega
  have lc : ∀ c, c < 4 → pr_w c (hk_b 0 q) + pr_w c (hk_b 1 q) + pr_w c (hk_b 2 q) + pr_w c (hk_b 3 q) ≤ 4 := by
    intro c hc
    have k0 := pr_w_le ((hI 0 (by decide)).1 c hc)
    have k1 := pr_w_le ((hI 1 (by decide)).1 c hc)
    have k2 := pr_w_le ((hI 2 (by decide)).1 c hc)
    have k3 := pr_w_le ((hI 3 (by decide)).1 c hc)
    obtain ⟨a0, a1, a2⟩ := hW c hc
    have one : ∀ b, b < 4 → (∀ b', b' < 4 → ¬ b' = b → s b' c ≤ 2) → pr_w c (hk_b 0 q) + pr_w c (hk_b 1 q) + pr_w c (hk_b 2 q) + pr_w c (hk_b 3 q) ≤ 4 := by
      intro b hb ho
      rcases (show b = 0 ∨ b = 1 ∨ b = 2 ∨ b = 3 by omega) with z | z | z | z
      · subst z
        have := k1.2 (ho 1 (by decide) (by decide)); have := k2.2 (ho 2 (by decide) (by decide)); have := k3.2 (ho 3 (by decide) (by decide)); have := k0.1; omega
      · subst z
        have := k0.2 (ho 0 (by decide) (by decide)); have := k2.2 (ho 2 (by decide) (by decide)); have := k3.2 (ho 3 (by decide) (by decide)); have := k1.1; omega
      · subst z
        have := k0.2 (ho 0 (by decide) (by decide)); have := k1.2 (ho 1 (by decide) (by decide)); have := k3.2 (ho 3 (by decide) (by decide)); have := k2.1; omega
      · subst z
        have := k0.2 (ho 0 (by decide) (by decide)); have := k1.2 (ho 1 (by decide) (by decide)); have := k2.2 (ho 2 (by decide) (by decide)); have := k3.1; omega
    rcases (show wt c = 0 ∨ wt c = 1 ∨ wt c = 2 by clear a0 a1 a2; have := hw c hc; omega) with z | z | z
    · exact one 0 (by decide) (fun b' hb' _ => a0 z b' hb')
    · obtain ⟨_, _, b, hb, _, _, ho⟩ := a1 z
      exact one b hb ho
    · obtain ⟨b, hb, _, ho⟩ := a2 z
      exact one b hb ho
  have l0 := lb 0 (by decide)
  have l1 := lb 1 (by decide)
  have l2 := lb 2 (by decide)
  have l3 := lb 3 (by decide)
  have c0 := lc 0 (by decide)
  have c1 := lc 1 (by decide)
  have c2 := lc 2 (by decide)
  have c3 := lc 3 (by decide)
  omega
/-- one block moves -/
theorem hk_P_of {s s' : Nat → Nat → Nat} {ms ms' : Nat → Nat → Int} {d ow d' ow' : Nat → Nat} {sh sh' : Nat → Nat → Bool} {q q' : List hq_M} {b : Nat} (hP : hk_P s ms d ow sh q) (h1 : ∀ b', ¬ b' = b → s' b' = s b' ∧ ms' b' = ms b' ∧ d' b' = d b' ∧ ow' b' = ow b' ∧ sh' b' = sh b' ∧ hk_b b' q' = hk_b b' q) (h2 : b < 4 → pr_I (s' b) (ms' b) (d' b) (ow' b) (sh' b) (hk_b b q')) (h3 : ∀ m ∈ q', m.1 < 4) : hk_P s' ms' d' ow' sh' q' := by
  refine ⟨fun b' hb' => ?_, h3⟩
  by_cases e : b' = b
  · subst e; exact h2 hb'
  · obtain ⟨e1, e2, e3, e4, e5, e6⟩ := h1 b' e
    rw [e1, e2, e3, e4, e5, e6]
    exact hP.1 b' hb'
