/-! Worlds by their parts -/
def up2 (f : Nat → Nat → Int32) (c i : Nat) (x : Int32) : Nat → Nat → Int32 := fun c' => if c' = c then upd (f c) i x else f c'
theorem up2_s {f : Nat → Nat → Int32} {c i : Nat} {x : Int32} : up2 f c i x c = upd (f c) i x := if_pos rfl
theorem up2_n {f : Nat → Nat → Int32} {c i : Nat} {x : Int32} {c' : Nat} (h : ¬ c' = c) : up2 f c i x c' = f c' := if_neg h
theorem up2_e {f : Nat → Nat → Int32} {c i : Nat} {x : Int32} {c' i' : Nat} : up2 f c i x c' i' = if c' = c ∧ i' = i then x else f c' i' := by
  unfold up2 upd
  by_cases h : c' = c
  · subst h; simp
  · simp [h]
theorem upd_s {f : Nat → Int32} {i : Nat} {x : Int32} : upd f i x i = x := if_pos rfl
theorem upd_n {f : Nat → Int32} {i : Nat} {x : Int32} {j : Nat} (h : ¬ j = i) : upd f i x j = f j := if_neg h
theorem upd_id {f : Nat → Int32} {i : Nat} : upd f i (f i) = f := by
  funext j
  unfold upd
  split
  · rename_i h; rw [h]
  · rfl
theorem up2_id {f : Nat → Nat → Int32} {c i : Nat} : up2 f c i (f c i) = f := by
  funext c'
  unfold up2
  split
  · rename_i h; rw [h, upd_id]
  · rfl
theorem hu_k {v : hd_V} {k c i k' : Nat} {x : Int32} (h : ¬ k' = k) : hd_u v k c i x k' = v k' := by
  funext c'
  simp [hd_u, h]
theorem hu_s {v : hd_V} {k c i : Nat} {x : Int32} : hd_u v k c i x k = up2 (v k) c i x := by
  funext c'
  unfold hd_u up2
  by_cases h : c' = c <;> simp [h]
theorem hu_id {v : hd_V} {k c i : Nat} : hd_u v k c i (v k c i) = v := by
  funext k' c'
  unfold hd_u
  split
  · rename_i h; rw [h.1, h.2, upd_id]
  · rfl
/-! The network as a list: block, word, message -/
abbrev hq_M : Type := Nat × Int32 × pr_M
abbrev hq_I : Type := Int32 × Int32 × Int32 × Int32 × Int32 × Int32 × Int32
def hq_r (r : Nat) : Int32 := if r = 5 then -1 else nI r
def hq_e (m : hq_M) : hq_I := (nI m.2.2.1, nI m.2.2.2.1, nI m.2.2.2.2.1, nI m.1, m.2.1, Int32.ofInt m.2.2.2.2.2.1, hq_r m.2.2.2.2.2.2)
def hq_s (v : hd_V) (k : Nat) : Nat := (v 2 0 k).toNatClampNeg
def hq_c (v : hd_V) (j : Nat) : hq_I := (v 3 j 0, v 3 j 1, v 3 j 2, v 3 j 3, v 3 j 4, v 3 j 5, v 3 j 6)
def hq_m (v : hd_V) (k : Nat) : hq_I := (v 40 0 k, v 41 0 k, v 42 0 k, v 43 0 k, v 44 0 k, v 45 0 k, v 46 0 k)
def hq_C (v : hd_V) (q : List hq_M) : Prop := v 1 0 1 = nI q.length ∧ q.length ≤ 32 ∧ (∀ k, k < 32 → hq_s v k < 32) ∧ (∀ k, k < 32 → ∀ j, j < 32 → hq_s v k = hq_s v j → k = j) ∧ ∀ k m, q[k]? = some m → hq_c v (hq_s v k) = hq_e m
def hq_R (v : hd_V) (q : List hq_M) : Prop := v 20 0 17 = nI q.length ∧ q.length ≤ 32 ∧ ∀ k m, q[k]? = some m → hq_m v k = hq_e m
theorem ns_k {a b c d e f g : Int32} {v : hd_V} {k : Nat} (h1 : ¬ k = 1) (h3 : ¬ k = 3) : f_Net_send a b c d e f g v k = v k := by
  unfold f_Net_send
  split
  · simp only [hu_k h1, hu_k h3]
  · rfl
theorem ms_k {a b c d e f g : Int32} {v : hd_V} {k : Nat} (h1 : ¬ k = 20) (h3 : ¬ (40 ≤ k ∧ k ≤ 46)) : f_Mod_send a b c d e f g v k = v k := by
  unfold f_Mod_send
  simp only [hu_k h1, hu_k (show ¬ k = 40 by omega), hu_k (show ¬ k = 41 by omega), hu_k (show ¬ k = 42 by omega), hu_k (show ¬ k = 43 by omega), hu_k (show ¬ k = 44 by omega), hu_k (show ¬ k = 45 by omega), hu_k (show ¬ k = 46 by omega)]
theorem ms_20 {a b c d e f g : Int32} {v : hd_V} : f_Mod_send a b c d e f g v 20 0 = upd (upd (v 20 0) 17 (v 20 0 17 + 1)) 18 (v 20 0 18 + 1) := by
  unfold f_Mod_send
  simp only [hu_k, hu_s, up2_s, not_false_eq_true, Nat.reduceEqDiff, upd_n (f := upd (v 20 0) 17 (v 20 0 17 + 1)), upd_n (i := 17) (show ¬ 18 = 17 by decide)]
theorem nI32 {a : Nat} (h : a ≤ 32) : (nI a).toNatClampNeg = a := nI_clamp (by omega)
/-- a message more -/
theorem hq_send {v : hd_V} {q : List hq_M} (h : hq_C v q) (hl : q.length < 32) {m : hq_M} {k_ f_ t_ b_ w_ n_ r_ : Int32} (he : hq_e m = (k_, f_, t_, b_, w_, n_, r_)) : hq_C (f_Net_send k_ f_ t_ b_ w_ n_ r_ v) (q ++ [m]) ∧ f_Net_send k_ f_ t_ b_ w_ n_ r_ v 1 0 2 = v 1 0 2 + 1 := by
  obtain ⟨h1, h2, h3, h4, h5⟩ := h
  have hr : v 1 0 1 < 32 := by
    rw [h1]
    exact nI_lt hl (by decide)
  have e2 : f_Net_send k_ f_ t_ b_ w_ n_ r_ v 2 = v 2 := ns_k (by decide) (by decide)
  have es : ∀ k, hq_s (f_Net_send k_ f_ t_ b_ w_ n_ r_ v) k = hq_s v k := fun k => by unfold hq_s; rw [e2]
  have e1 : f_Net_send k_ f_ t_ b_ w_ n_ r_ v 1 = up2 (up2 (v 1) 0 1 (v 1 0 1 + 1)) 0 2 (v 1 0 2 + 1) := by
    unfold f_Net_send
    rw [if_pos hr]
    simp only [hu_k, hu_s, not_false_eq_true, Nat.reduceEqDiff, up2_e, and_false, and_true, if_false]
  have e3 : f_Net_send k_ f_ t_ b_ w_ n_ r_ v 3 = up2 (up2 (up2 (up2 (up2 (up2 (up2 (v 3) (hq_s v q.length) 0 k_) (hq_s v q.length) 1 f_) (hq_s v q.length) 2 t_) (hq_s v q.length) 3 b_) (hq_s v q.length) 4 w_) (hq_s v q.length) 5 n_) (hq_s v q.length) 6 r_ := by
    unfold f_Net_send hq_s
    rw [if_pos hr, h1, nI32 h2]
    simp only [hu_k, hu_s, not_false_eq_true, Nat.reduceEqDiff]
  refine ⟨⟨?_, ?_, ?_, ?_, ?_⟩, ?_⟩
  · rw [e1, up2_e, up2_e, if_neg (by decide), if_pos (by decide), h1, nI_1, List.length_append, List.length_singleton]
  · rw [List.length_append, List.length_singleton]; omega
  · intro k hk; rw [es]; exact h3 k hk
  · intro k hk j hj; rw [es, es]; exact h4 k hk j hj
  · intro k x hx
    rw [es]
    unfold hq_c
    rw [e3]
    simp only [up2_e]
    rcases Nat.lt_or_ge k q.length with hk | hk
    · have hne : ¬ hq_s v k = hq_s v q.length := fun z => by
        have := h4 k (by omega) q.length hl z
        omega
      simp only [hne, false_and, if_false]
      exact h5 k x (by rw [List.getElem?_append_left hk] at hx; exact hx)
    · have hk2 : k = q.length := by
        have : k < (q ++ [m]).length := by
          rcases Nat.lt_or_ge k (q ++ [m]).length with z | z
          · exact z
          · rw [List.getElem?_eq_none z] at hx; cases hx
        rw [List.length_append, List.length_singleton] at this
        omega
      subst hk2
      rw [List.getElem?_append_right (Nat.le_refl _), Nat.sub_self] at hx
      cases hx
      simp [he]
  · rw [e1, up2_e, if_pos (by decide)]
theorem mq_send {v : hd_V} {q : List hq_M} (h : hq_R v q) (hl : q.length < 32) {m : hq_M} {k_ f_ t_ b_ w_ n_ r_ : Int32} (he : hq_e m = (k_, f_, t_, b_, w_, n_, r_)) : hq_R (f_Mod_send k_ f_ t_ b_ w_ n_ r_ v) (q ++ [m]) := by
  obtain ⟨h1, h2, h5⟩ := h
  have e0 : f_Mod_send k_ f_ t_ b_ w_ n_ r_ v 20 0 17 = nI (q.length + 1) := by
    rw [ms_20, upd_n (by decide), upd_s, h1, nI_1]
  have ea : ∀ k, hq_m (f_Mod_send k_ f_ t_ b_ w_ n_ r_ v) k = if k = q.length then (k_, f_, t_, b_, w_, n_, r_) else hq_m v k := by
    intro k
    unfold hq_m f_Mod_send
    simp only [hu_k, hu_s, not_false_eq_true, Nat.reduceEqDiff, up2_e, true_and, h1, nI32 h2]
    by_cases hk : k = q.length
    · simp [hk]
    · simp [hk]
  refine ⟨by rw [e0, List.length_append, List.length_singleton], by rw [List.length_append, List.length_singleton]; omega, ?_⟩
  intro k x hx
  rw [ea]
  rcases Nat.lt_or_ge k q.length with hk | hk
  · rw [if_neg (by omega)]
    exact h5 k x (by rw [List.getElem?_append_left hk] at hx; exact hx)
  · have hk2 : k = q.length := by
      have : k < (q ++ [m]).length := by
        rcases Nat.lt_or_ge k (q ++ [m]).length with z | z
        · exact z
        · rw [List.getElem?_eq_none z] at hx; cases hx
      rw [List.length_append, List.length_singleton] at this
      omega
    subst hk2
    rw [List.getElem?_append_right (Nat.le_refl _), Nat.sub_self] at hx
    cases hx
    rw [if_pos rfl, he]
