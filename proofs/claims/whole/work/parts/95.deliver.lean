/-! Two worlds and one -/
theorem hS_fuse {n t mx : Nat} {s : Nat → Nat → Nat} {ms : Nat → Nat → Int} {d ow : Nat → Nat} {sh : Nat → Nat → Bool} {nx sz wt : Nat → Nat} {X : Nat → Nat → Prop} {u w : hd_V} {q qc : List hq_M} (h : hS n t mx X u w s ms d ow sh nx sz wt q qc) (hw : ∀ k, k < 20 → w k = u k) : hS n t mx X w w s ms d ow sh nx sz wt q qc := by
  obtain ⟨h1, h2, h3, h4, h5⟩ := h
  exact ⟨hz_of hw (fun _ _ => rfl) h1, h2, h3, by rw [hw 11 (by decide), hw 12 (by decide)]; exact h4, hq_C_of (hw 1 (by decide)) (hw 2 (by decide)) (hw 3 (by decide)) h5⟩
theorem hS_part {n t mx : Nat} {s : Nat → Nat → Nat} {ms : Nat → Nat → Int} {d ow : Nat → Nat} {sh : Nat → Nat → Bool} {nx sz wt : Nat → Nat} {X : Nat → Nat → Prop} {v w : hd_V} {q qc : List hq_M} (h : hS n t mx X v v s ms d ow sh nx sz wt q qc) (hw : ∀ k, 20 ≤ k → w k = v k) : hS n t mx X v w s ms d ow sh nx sz wt q qc := by
  obtain ⟨h1, h2, h3, h4, h5⟩ := h
  exact ⟨hz_of (fun _ _ => rfl) hw h1, h2, h3, h4, h5⟩
theorem hS_t {n t mx : Nat} {s : Nat → Nat → Nat} {ms : Nat → Nat → Int} {d ow : Nat → Nat} {sh : Nat → Nat → Bool} {nx sz wt : Nat → Nat} {X : Nat → Nat → Prop} {u w : hd_V} {q qc : List hq_M} (h : hS n t mx X u w s ms d ow sh nx sz wt q qc) : hS n (t + 1) mx X u w s ms d ow sh nx sz wt q qc := ⟨hz_t h.1, h.2⟩
theorem er_app {α : Type} (a e : List α) (m : α) : (a ++ m :: e).eraseIdx a.length = a ++ e := by
  rw [List.eraseIdx_append_of_length_le (Nat.le_refl _), Nat.sub_self]
  rfl
/-- the message taken out of the class's net -/
theorem hS_to {n t mx : Nat} {s : Nat → Nat → Nat} {ms : Nat → Nat → Int} {d ow : Nat → Nat} {sh : Nat → Nat → Bool} {nx sz wt : Nat → Nat} {X : Nat → Nat → Prop} {u w : hd_V} {a e : List hq_M} {m : hq_M} (h : hS n t mx X u w s ms d ow sh nx sz wt (a ++ e) (a ++ m :: e)) : hS n t mx X (f_Net_takeOut (nI a.length) u) w s ms d ow sh nx sz wt (a ++ e) (a ++ e) := by
  obtain ⟨hZ, h2, h3, h4, hC⟩ := h
  have hk : a.length < (a ++ m :: e).length := by rw [List.length_append, List.length_cons]; omega
  have k := fun (k' : Nat) (h1 : ¬ k' = 1) (h2 : ¬ k' = 2) => to_k hC hk (k' := k') h1 h2
  refine ⟨?_, h2, h3, by rw [k 11 (by decide) (by decide), k 12 (by decide) (by decide)]; exact h4, by have z := to_C hC hk; rw [er_app] at z; exact z⟩
  obtain ⟨h1, h2, h3, h4, h5, h6, h7, h8, h9, h10, h11, h12, h13, h14, h15, h16, h17, h18, h19, h20, h21⟩ := hZ
  refine ⟨?_, ?_, ?_, ?_, ?_, ?_, ?_, ?_, ?_, ?_, ?_, ?_, ?_, ?_, ?_, ?_, ?_, ?_, ?_, ?_, h21⟩
  case refine_20 => rw [to_12 hC hk]; exact h20
  all_goals ((try simp only [k 13 (by decide) (by decide), k 14 (by decide) (by decide), k 15 (by decide) (by decide), k 11 (by decide) (by decide), k 12 (by decide) (by decide), k 10 (by decide) (by decide), k 5 (by decide) (by decide), k 6 (by decide) (by decide), k 7 (by decide) (by decide), k 8 (by decide) (by decide), k 16 (by decide) (by decide)]); assumption)
/-- .. and out of the reference's -/
theorem hz_rm {n t mx : Nat} {s : Nat → Nat → Nat} {ms : Nat → Nat → Int} {d ow : Nat → Nat} {sh : Nat → Nat → Bool} {nx sz wt : Nat → Nat} {u w : hd_V} {a e : List hq_M} {m : hq_M} (hZ : hz n t mx u w s ms d ow sh nx sz wt (a ++ m :: e)) : hz n t mx u (f_Mod_remove (nI a.length) w) s ms d ow sh nx sz wt (a ++ e) := by
  obtain ⟨h1, h2, h3, h4, h5, h6, h7, h8, h9, h10, h11, h12, h13, h14, h15, h16, h17, h18, h19, h20, h21⟩ := hZ
  have hk : a.length < (a ++ m :: e).length := by rw [List.length_append, List.length_cons]; omega
  have k := fun (k' : Nat) (h1 : ¬ k' = 20) (h2 : ¬ (40 ≤ k' ∧ k' ≤ 46)) => rm_k h21 hk (k' := k') h1 h2
  have k20 := rm_20 h21 hk
  have z := rm_R h21 hk
  rw [er_app] at z
  refine ⟨?_, ?_, ?_, ?_, ?_, ?_, ?_, ?_, ?_, ?_, ?_, ?_, ?_, ?_, ?_, ?_, ?_, ?_, ?_, ?_, z⟩
  all_goals ((try simp only [k20, upd_n, not_false_eq_true, Nat.reduceEqDiff, k 28 (by decide) (by decide), k 29 (by decide) (by decide), k 30 (by decide) (by decide), k 23 (by decide) (by decide), k 24 (by decide) (by decide), k 25 (by decide) (by decide), k 22 (by decide) (by decide), k 26 (by decide) (by decide), k 27 (by decide) (by decide), k 33 (by decide) (by decide), k 34 (by decide) (by decide), k 35 (by decide) (by decide), k 36 (by decide) (by decide), k 31 (by decide) (by decide)]); assumption)
/-- no forward to c before -/
theorem fq_none {b c : Nat} {a : List hq_M} (h : ∀ m ∈ a, ¬ (4 ≤ m.2.2.1 ∧ m.2.2.1 ≤ 7 ∧ m.1 = b ∧ m.2.2.2.2.1 = c)) : pr_fq c (hk_b b a) = [] := by
  induction a with
  | nil => rfl
  | cons m a ih =>
    have h1 := h m List.mem_cons_self
    have h2 := ih (fun x hx => h x (List.mem_cons_of_mem _ hx))
    obtain ⟨b', x, m⟩ := m
    by_cases e : b' = b
    · subst e
      rw [hk_b_s]
      simp only [pr_fq]
      rw [if_neg (fun z => h1 ⟨z.1, z.2.1, rfl, z.2.2⟩)]
      exact h2
    · rw [hk_b_n e]
      exact h2
theorem hq_f_n {k : Nat} (hk : k < 100) : hq_f (nI k) ↔ 4 ≤ k ∧ k ≤ 7 := by
  unfold hq_f
  constructor
  · rintro ⟨z1, z2⟩
    constructor
    · rcases Nat.lt_or_ge k 4 with y | y
      · exact absurd (show nI k < 4 from nI_lt (b := 4) y (by decide)) z1
      · exact y
    · rcases Nat.lt_or_ge 7 k with y | y
      · exact absurd (show 7 < nI k from nI_lt (a := 7) y (by omega)) z2
      · exact y
  · rintro ⟨z1, z2⟩
    exact ⟨show ¬ nI k < 4 from nI_nlt (b := 4) z1 (by omega), show ¬ 7 < nI k from nI_nlt (a := 7) z2 (by decide)⟩
/-- what both ask before they deliver -/
def hD (s : Nat → Nat → Nat) (d : Nat → Nat) (K c b : Nat) : Prop := (c = 4 → K ≤ 1 → ¬ d b = 3) ∧ (c < 4 → K = 6 → ¬ s b c = 3) ∧ (c < 4 → K = 4 ∨ K = 5 → ¬ (4 ≤ s b c ∧ s b c ≤ 7))

/-- both say the same of 'stalled' -/
theorem st_eq {n t mx : Nat} {s : Nat → Nat → Nat} {ms : Nat → Nat → Int} {d ow : Nat → Nat} {sh : Nat → Nat → Bool} {nx sz wt : Nat → Nat} {u w : hd_V} {a e : List hq_M} {b K f c r : Nat} {x : Int32} {nn : Int} (h : hS n t mx hk_F u w s ms d ow sh nx sz wt (a ++ (b, x, K, f, c, nn, r) :: e) (a ++ (b, x, K, f, c, nn, r) :: e)) (hn4 : n ≤ 4) : f_HD_isStalled n (hq_s u a.length) u = f_Mod_stalls (nI a.length) w ∧ (f_Mod_stalls (nI a.length) w = 0 → hD s d K c b) := by
  obtain ⟨hZ, hP, hN, hW, hC⟩ := h
  have hb : b < 4 := hP.2 (b, x, K, f, c, nn, r) (by simp)
  have hm := hC.2.2.2.2 a.length (b, x, K, f, c, nn, r) (by simp)
  have hR := hZ.2.2.2.2.2.2.2.2.2.2.2.2.2.2.2.2.2.2.2.2
  have hl : a.length < 32 := by
    have := hR.2.1
    rw [List.length_append, List.length_cons] at this
    omega
  have hr := hR.2.2 a.length (b, x, K, f, c, nn, r) (by simp)
  unfold hq_c hq_e at hm
  unfold hq_m hq_e at hr
  simp only [Prod.mk.injEq] at hm hr
  obtain ⟨m0, m1, m2, m3, m4, m5, m6⟩ := hm
  obtain ⟨r0, r1, r2, r3, r4, r5, r6⟩ := hr
  have hI := hP.1 b hb
  rw [hk_b_app, hk_b_s] at hI
  have hsh := pr_9_at hI.2.2.2.2.2
  unfold pr_sh at hsh
  simp only at hsh
  have ia : (nI a.length).toNatClampNeg = a.length := nI_clamp (by omega)
  have ib := ix1 hb
  have e6 : u 6 0 b = nI (d b) := (hZ.2.2.2.2.2.2.2.2.2.2.2.2.2.2.1 b hb).1
  have f6 : w 34 0 b = nI (d b) := (hZ.2.2.2.2.2.2.2.2.2.2.2.2.1 b hb).trans e6
  have hd3 : d b ≤ 3 := hI.2.2.2.2.1.1
  unfold f_HD_isStalled f_Home_stalls f_Mod_stalls hD
  simp only [m0, m2, m3, r0, r2, r3, ia, ib, e6, f6]
  by_cases hc : c = 4
  · subst hc
    simp only [show (nI 4 = (4 : Int32)) = True by decide, if_true]
    have hK : K = 0 ∨ K = 1 ∨ K = 2 ∨ K = 3 ∨ K = 8 := by
      have k1 := hsh.1
      have k2 := hsh.2.2.1
      have k3 := hsh.2.2.2.2.2.1
      clear hsh hI hP
      omega
    have hdv : d b = 0 ∨ d b = 1 ∨ d b = 2 ∨ d b = 3 := by omega
    generalize d b = D at *
    clear hI hP hsh
    rcases hK with z | z | z | z | z <;> subst z <;> rcases hdv with y | y | y | y <;> subst y <;> refine ⟨by decide, fun q => ⟨?_, fun z => absurd z (by decide), fun z => absurd z (by decide)⟩⟩ <;> first | (intro _ k; exact absurd k (by decide)) | (intro _ _; decide) | exact absurd q (by decide)
  · have hK : 4 ≤ K ∧ K ≤ 9 := by
      have k1 := hsh.1
      have k2 := hsh.2.1
      clear hsh hI hP
      omega
    have hc4 : c < 4 := by
      have k2 := hsh.2.2.1
      have k3 := hsh.2.2.2.2.2.1
      have k4 := hsh.2.2.2.2.1
      clear hsh hI hP
      omega
    have hlt := pr_c_le (hI.1 c hc4)
    have e13 : u 13 c b = nI (s b c) := hZ.2.2.2.1 c hc4 b hb
    have e28 : w 28 0 (4 * c + b) = nI (s b c) := (hZ.1 c hc4 b hb).trans e13
    have nc : (nI c = 4) = False := propext ⟨fun q => hc ((nIe (b := 4) (by omega) (by omega)).mp q), False.elim⟩
    have hn0 : n ≤ c → s b c = 0 := fun z => (hN c z hc4).2 b hb
    have ic : f_HD_isCore n (nI c) = if c < n then 1 else 0 := by
      unfold f_HD_isCore
      rw [if_neg (nI_pos (by omega))]
      by_cases z : c < n
      · rw [if_neg (nI_ge z (by omega)), if_pos z]
      · rw [if_pos (nI_le (by omega) (by omega)), if_neg z]
    unfold f_Core_stalls
    simp only [nc, ic, if_false, ix1 hc4, ix4 hc4 hb, e28, e13, m0, m3, ib]
    have hKv : K = 4 ∨ K = 5 ∨ K = 6 ∨ K = 7 ∨ K = 8 ∨ K = 9 := by omega
    have hsv : s b c = 0 ∨ s b c = 1 ∨ s b c = 2 ∨ s b c = 3 ∨ s b c = 4 ∨ s b c = 5 ∨ s b c = 6 ∨ s b c = 7 ∨ s b c = 8 ∨ s b c = 9 ∨ s b c = 10 := by omega
    have key : ∀ (S : Nat), (n ≤ c → S = 0) → (S = 0 ∨ S = 1 ∨ S = 2 ∨ S = 3 ∨ S = 4 ∨ S = 5 ∨ S = 6 ∨ S = 7 ∨ S = 8 ∨ S = 9 ∨ S = 10) → (S = 0 ∨ c < n) := fun S h _ => by
      rcases Nat.lt_or_ge c n with z | z
      · exact Or.inr z
      · exact Or.inl (h z)
    have hor := key _ hn0 hsv
    generalize s b c = S at *
    clear hI hP hsh key hn0 e13 e28
    rcases hKv with z | z | z | z | z | z <;> subst z <;> rcases hsv with y | y | y | y | y | y | y | y | y | y | y <;> subst y <;> refine ⟨?_, fun q => ⟨fun z => absurd z hc, ?_, ?_⟩⟩ <;> first | (intro _ k; exact absurd k (by decide)) | (intro _ _; decide) | exact absurd q (by decide) | (rw [if_pos (show c < n by rcases hor with k | k; exact absurd k (by decide); exact k)]; decide) | (by_cases z : c < n <;> simp only [z, if_true, if_false] <;> decide)
/-- a message for the home, out of both nets -/
theorem dv_home {n t mx : Nat} {s : Nat → Nat → Nat} {ms : Nat → Nat → Int} {d ow : Nat → Nat} {sh : Nat → Nat → Bool} {nx sz wt : Nat → Nat} {u w : hd_V} {a e : List hq_M} {b K f r : Nat} {x : Int32} {nn : Int} (h : hS n t mx hk_F u w s ms d ow sh nx sz wt (a ++ (b, x, K, f, 4, nn, r) :: e) (a ++ (b, x, K, f, 4, nn, r) :: e)) (hst : hD s d K 4 b) : ∃ d' ow' sh' q', hS n t mx hk_F (f_Net_takeOut (nI a.length) (f_Home_receive (hq_s u a.length) u)) (f_Mod_atHome (nI K) (nI f) (nI b) x (f_Mod_remove (nI a.length) w)) s ms d' ow' sh' nx sz wt q' q' := by
  obtain ⟨hZ, hP, hN, hW, hC⟩ := h
  have hb : b < 4 := hP.2 (b, x, K, f, 4, nn, r) (by simp)
  have hw2 : ∀ c, c < 4 → wt c ≤ 2 := fun c hc => (hZ.2.2.2.2.2.2.2.2.2.2.1 c hc).2.2
  have hl := hk_20 hP hW hw2
  have hZ1 := hz_rm hZ
  have hI := hP.1 b hb
  rw [hk_b_app, hk_b_s] at hI
  have hsh := pr_9_at hI.2.2.2.2.2
  unfold pr_sh at hsh
  simp only at hsh
  have hK : K = 0 ∨ K = 1 ∨ K = 2 ∨ K = 3 ∨ K = 8 := by
    have k1 := hsh.1
    have k2 := hsh.2.2.1
    have k3 := hsh.2.2.2.2.2.1
    clear hsh hI hP
    omega
  have fin : (∃ d' ow' sh' new, hS n t mx hk_F (f_Home_receive (hq_s u a.length) u) (f_Mod_atHome (nI K) (nI f) (nI b) x (f_Mod_remove (nI a.length) w)) s ms d' ow' sh' nx sz wt (a ++ e ++ new) (a ++ (b, x, K, f, 4, nn, r) :: e ++ new)) → ∃ d' ow' sh' q', hS n t mx hk_F (f_Net_takeOut (nI a.length) (f_Home_receive (hq_s u a.length) u)) (f_Mod_atHome (nI K) (nI f) (nI b) x (f_Mod_remove (nI a.length) w)) s ms d' ow' sh' nx sz wt q' q' := by
    rintro ⟨d', ow', sh', new, k⟩
    rw [List.append_assoc, List.append_assoc, List.cons_append] at k
    exact ⟨d', ow', sh', a ++ (e ++ new), hS_to k⟩
  apply fin
  rcases hK with z | z | z | z | z <;> subst z
  · exact sh_0 hZ1 hP hN hW hC hl hb (hst.1 rfl (by decide))
  · exact sh_1 hZ1 hP hN hW hC hl hb (hst.1 rfl (by decide))
  · exact sh_2 hZ1 hP hN hW hC hl hb
  · exact sh_3 hZ1 hP hN hW hC hl hb
  · exact sh_8 hZ1 hP hN hW hC hl hb
/-- a message for a core, out of both nets -/
theorem dv_core {n t mx : Nat} {s : Nat → Nat → Nat} {ms : Nat → Nat → Int} {d ow : Nat → Nat} {sh : Nat → Nat → Bool} {nx sz wt : Nat → Nat} {u w : hd_V} {a e : List hq_M} {b K f c r : Nat} {x : Int32} {nn : Int} (h : hS n t mx hk_F u w s ms d ow sh nx sz wt (a ++ (b, x, K, f, c, nn, r) :: e) (a ++ (b, x, K, f, c, nn, r) :: e)) (ht : t < 512) (hc : c < 4) (hst : hD s d K c b) (hq : 4 ≤ K ∧ K ≤ 7 → pr_fq c (hk_b b a) = []) : c < n ∧ ∃ s' ms' nx' wt' q', hS n (t + 1) mx hk_F (f_Net_takeOut (nI a.length) (f_Core_receive c (hq_s u a.length) u)) (f_Mod_finish (nI c) (nI b) (f_Mod_atCore (nI K) (nI c) (nI b) x (Int32.ofInt nn) (hq_r r) (f_Mod_remove (nI a.length) w))) s' ms' d ow sh nx' sz wt' q' q' := by
  obtain ⟨hZ, hP, hN, hW, hC⟩ := h
  have hb : b < 4 := hP.2 (b, x, K, f, c, nn, r) (by simp)
  have hw2 : ∀ c, c < 4 → wt c ≤ 2 := fun c hc => (hZ.2.2.2.2.2.2.2.2.2.2.1 c hc).2.2
  have hl := hk_20 hP hW hw2
  have hZ1 := hz_rm hZ
  have hI := hP.1 b hb
  rw [hk_b_app, hk_b_s] at hI
  have hsh := pr_9_at hI.2.2.2.2.2
  unfold pr_sh at hsh
  simp only at hsh
  have hK : K = 4 ∨ K = 5 ∨ K = 6 ∨ K = 7 ∨ K = 8 ∨ K = 9 := by
    have k1 := hsh.1
    have k2 := hsh.2.1
    clear hsh hI hP
    omega
  have fin : (c < n ∧ ∃ U' s' ms' wt' new, f_Core_receive c (hq_s u a.length) u = f_Core_performIfAllowed c (nI b) U' ∧ hS n t mx (fun c' b' => c' = c ∧ b' = b) U' (f_Mod_atCore (nI K) (nI c) (nI b) x (Int32.ofInt nn) (hq_r r) (f_Mod_remove (nI a.length) w)) s' ms' d ow sh nx sz wt' (a ++ e ++ new) (a ++ (b, x, K, f, c, nn, r) :: e ++ new)) → c < n ∧ ∃ s' ms' nx' wt' q', hS n (t + 1) mx hk_F (f_Net_takeOut (nI a.length) (f_Core_receive c (hq_s u a.length) u)) (f_Mod_finish (nI c) (nI b) (f_Mod_atCore (nI K) (nI c) (nI b) x (Int32.ofInt nn) (hq_r r) (f_Mod_remove (nI a.length) w))) s' ms' d ow sh nx' sz wt' q' q' := by
    rintro ⟨hcn, U', s', ms', wt', new, k1, k2⟩
    obtain ⟨nx', wt'', k3⟩ := st_B k2 ht hc hb hcn
    rw [List.append_assoc, List.append_assoc, List.cons_append] at k3
    rw [k1]
    exact ⟨hcn, s', ms', nx', wt'', a ++ (e ++ new), hS_to k3⟩
  apply fin
  rcases hK with z | z | z | z | z | z <;> subst z
  · exact sa_4 hZ1 hP hN hW hC hl hc hb (hq (by decide)) (hst.2.2 hc (Or.inl rfl))
  · exact sa_5 hZ1 hP hN hW hC hl hc hb (hq (by decide)) (hst.2.2 hc (Or.inr rfl))
  · exact sa_6 hZ1 hP hN hW hC hl hc hb (hq (by decide)) (hst.2.1 hc rfl)
  · exact sa_7 hZ1 hP hN hW hC hl hc hb (hq (by decide))
  · exact sa_8 hZ1 hP hN hW hC hl hc hb
  · exact sa_9 hZ1 hP hN hW hC hl hc hb

/-- deliver: both answer the same and stay tied -/
theorem dv {n t mx : Nat} {s : Nat → Nat → Nat} {ms : Nat → Nat → Int} {d ow : Nat → Nat} {sh : Nat → Nat → Bool} {nx sz wt : Nat → Nat} {u w : hd_V} {q : List hq_M} (h : hS n t mx hk_F u w s ms d ow sh nx sz wt q q) (he : ∀ k, 20 ≤ k → w k = u k) (ht : t < 512) (hn4 : n ≤ 4) (k_ : Int32) : (f_HD_deliver n k_ u).1 = (f_Mod_deliver k_ w).1 ∧ ∃ s' ms' d' ow' sh' nx' sz' wt' q', hS n (t + 1) mx hk_F (f_HD_deliver n k_ u).2 (f_Mod_deliver k_ w).2 s' ms' d' ow' sh' nx' sz' wt' q' q' := by
  have hC := h.2.2.2.2
  have hR := h.1.2.2.2.2.2.2.2.2.2.2.2.2.2.2.2.2.2.2.2.2
  have same : ∃ s' ms' d' ow' sh' nx' sz' wt' q', hS n (t + 1) mx hk_F u w s' ms' d' ow' sh' nx' sz' wt' q' q' := ⟨s, ms, d, ow, sh, nx, sz, wt, q, hS_t h⟩
  have c1 := hC.1
  have r1 := hR.1
  have c2 := hC.2.1
  by_cases h0 : k_ < 0
  · unfold f_HD_deliver f_Mod_deliver f_Net_has
    simp only [h0, if_true]
    exact ⟨trivial, same⟩
  · obtain ⟨k, hk, rfl⟩ := nI_of h0
    by_cases hkl : k < q.length
    · obtain ⟨⟨b, x, K, f, c, nn, r⟩, hmq⟩ : ∃ m, q[k]? = some m := ⟨q[k], List.getElem?_eq_getElem hkl⟩
      obtain ⟨a, e, hq, hak⟩ : ∃ a e, q = a ++ (b, x, K, f, c, nn, r) :: e ∧ a.length = k := by
        refine ⟨q.take k, q.drop (k + 1), ?_, by rw [List.length_take]; omega⟩
        have h1 : q[k] = (b, x, K, f, c, nn, r) := by
          rw [List.getElem?_eq_getElem hkl] at hmq
          exact Option.some.inj hmq
        rw [← h1, ← List.drop_eq_getElem_cons hkl, List.take_append_drop]
      subst hak
      subst hq
      have hm := hC.2.2.2.2 a.length (b, x, K, f, c, nn, r) (by simp)
      have hr := hR.2.2 a.length (b, x, K, f, c, nn, r) (by simp)
      unfold hq_c hq_e at hm
      unfold hq_m hq_e at hr
      simp only [Prod.mk.injEq] at hm hr
      obtain ⟨m0, m1, m2, m3, m4, m5, m6⟩ := hm
      obtain ⟨r0, r1', r2, r3, r4, r5, r6⟩ := hr
      have ia : (nI a.length).toNatClampNeg = a.length := nI_clamp (by omega)
      have has : (f_Net_has (nI a.length) u = 0) = False := by
        unfold f_Net_has
        rw [if_neg h0, c1, if_neg (nI_ge hkl (by omega))]
        decide
      have hlt : nI a.length < w 20 0 17 := by rw [r1]; exact nI_lt hkl (by omega)
      have hbh := bh_eq hC hR (fun k h1 h2 => (he k (by omega)).symm) hkl
      unfold f_HD_deliver f_Mod_deliver
      simp only [has, h0, hlt, if_false, if_true]
      by_cases hB : f_Mod_behind (nI a.length) w = 0
      · have hB2 : f_Net_isBehind (nI a.length) u = 0 := hbh.1.mpr (hbh.2.mp hB)
        have hcond := hbh.2.mp hB
        have hst := st_eq h hn4
        simp only [hB, hB2, if_true, ia]
        have hsl : (u 2 0 a.length).toNatClampNeg = hq_s u a.length := rfl
        rw [hsl, hst.1]
        by_cases hS0 : f_Mod_stalls (nI a.length) w = 0
        · simp only [hS0, if_true, r0, r1', r2, r3, r4, r5, r6]
          have hDD := hst.2 hS0
          by_cases hc : c = 4
          · subst hc
            obtain ⟨d', ow', sh', q', k⟩ := dv_home h hDD
            have o1 : f_HD_handOver n (hq_s u a.length) u = f_Home_receive (hq_s u a.length) u := by
              unfold f_HD_handOver
              rw [m2, if_pos (by decide)]
            rw [o1, if_pos (show nI 4 = 4 by decide)]
            refine ⟨?_, s, ms, d', ow', sh', nx, sz, wt, q', hS_t k⟩
            have x1 := k.2.2.2.2.1
            have x2 := k.1.2.2.2.2.2.2.2.2.2.2.2.2.2.2.2.2.2.2.2.2.1
            exact x1.trans x2.symm
          · have hb : b < 4 := h.2.1.2 (b, x, K, f, c, nn, r) (by simp)
            have hI := h.2.1.1 b hb
            rw [hk_b_app, hk_b_s] at hI
            have hsh := pr_9_at hI.2.2.2.2.2
            unfold pr_sh at hsh
            simp only at hsh
            have hK : K ≤ 9 := hsh.1
            have hc4 : c < 4 := by
              have k0 := hsh.1
              have k1 := hsh.2.1
              have k2 := hsh.2.2.1
              have k3 := hsh.2.2.2.2.2.1
              have k4 := hsh.2.2.2.2.1
              clear hsh hI
              omega
            have hfq : 4 ≤ K ∧ K ≤ 7 → pr_fq c (hk_b b a) = [] := by
              intro hf
              refine fq_none (fun m' hm' => ?_)
              rintro ⟨p1, p2, p3, p4⟩
              obtain ⟨j, hj, hj2⟩ := List.getElem_of_mem hm'
              have hjq : (a ++ (b, x, K, f, c, nn, r) :: e)[j]? = some m' := by
                rw [List.getElem?_append_left hj, List.getElem?_eq_getElem hj, hj2]
              have hmj := hR.2.2 j m' hjq
              unfold hq_m hq_e at hmj
              simp only [Prod.mk.injEq] at hmj
              refine hcond (by rw [r0]; exact (hq_f_n (by omega)).mpr hf) j hj ⟨?_, ?_, ?_⟩
              · rw [hmj.1]; exact (hq_f_n (by omega)).mpr ⟨p1, p2⟩
              · rw [hmj.2.2.2.1, r3, p3]
              · rw [hmj.2.2.1, r2, p4]
            obtain ⟨hcn, s', ms', nx', wt', q', k⟩ := dv_core h ht hc4 hDD hfq
            have nc : ¬ nI c = 4 := fun q => hc ((nIe (b := 4) (by omega) (by omega)).mp q)
            have o1 : f_HD_handOver n (hq_s u a.length) u = f_Core_receive c (hq_s u a.length) u := by
              unfold f_HD_handOver f_HD_isCore
              rw [m2, if_neg nc, if_neg (nI_pos (by omega)), if_neg (nI_ge hcn (by omega)), if_neg (by decide), ix1 hc4]
            rw [o1, if_neg nc]
            refine ⟨?_, s', ms', d, ow, sh, nx', sz, wt', q', k⟩
            have x1 := k.2.2.2.2.1
            have x2 := k.1.2.2.2.2.2.2.2.2.2.2.2.2.2.2.2.2.2.2.2.2.1
            exact x1.trans x2.symm
        · simp only [hS0, if_false]
          exact ⟨trivial, same⟩
      · have hB2 : ¬ f_Net_isBehind (nI a.length) u = 0 := fun z => hB (hbh.2.mpr (hbh.1.mp z))
        simp only [hB, hB2, if_false]
        exact ⟨trivial, same⟩
    · have has : f_Net_has (nI k) u = 0 := by
        unfold f_Net_has
        rw [if_neg h0, c1, if_pos (nI_le (by omega) (by omega))]
      have hlt : ¬ nI k < w 20 0 17 := by rw [r1]; exact nI_nlt (by omega) (by omega)
      unfold f_HD_deliver f_Mod_deliver
      simp only [has, h0, hlt, if_true, if_false]
      exact ⟨trivial, same⟩
