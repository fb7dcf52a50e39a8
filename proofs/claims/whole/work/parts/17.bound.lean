/-! How many messages of a block there can be -/
def pr_w (c : Nat) (q : List pr_M) : Nat := pr_F 0 c q + pr_F 1 c q + pr_T 8 c q + pr_R 4 c q + pr_R 5 c q + pr_F 2 c q + pr_F 3 c q + pr_T 7 c q + pr_R 6 c q + pr_T 9 c q
theorem pr_len (q : List pr_M) (h : pr_9 q) : q.length ≤ pr_T 8 4 q + pr_w 0 q + pr_w 1 q + pr_w 2 q + pr_w 3 q := by
  induction q with
  | nil => simp
  | cons m q ih =>
    have h1 := ih (fun x hx => h x (List.mem_cons_of_mem _ hx))
    have h2 := h m List.mem_cons_self
    clear ih h
    obtain ⟨k, f, t, n, r⟩ := m
    have key : 1 ≤ pr_T 8 4 [(k, f, t, n, r)] + pr_w 0 [(k, f, t, n, r)] + pr_w 1 [(k, f, t, n, r)] + pr_w 2 [(k, f, t, n, r)] + pr_w 3 [(k, f, t, n, r)] := by
      have pos : ∀ c, c < 4 → 1 ≤ pr_w c [(k, f, t, n, r)] → 1 ≤ pr_T 8 4 [(k, f, t, n, r)] + pr_w 0 [(k, f, t, n, r)] + pr_w 1 [(k, f, t, n, r)] + pr_w 2 [(k, f, t, n, r)] + pr_w 3 [(k, f, t, n, r)] := by
        intro c hc hw
        rcases (show c = 0 ∨ c = 1 ∨ c = 2 ∨ c = 3 by omega) with z | z | z | z <;> subst z <;> omega
      unfold pr_sh at h2
      simp only at h2
      have hk : k = 0 ∨ k = 1 ∨ k = 2 ∨ k = 3 ∨ k = 4 ∨ k = 5 ∨ k = 6 ∨ k = 7 ∨ k = 8 ∨ k = 9 := by omega
      rcases hk with z | z | z | z | z | z | z | z | z | z
      · exact pos f (by omega) (by simp [pr_w, pr_F, pr_T, pr_R, z])
      · exact pos f (by omega) (by simp [pr_w, pr_F, pr_T, pr_R, z])
      · exact pos f (by omega) (by simp [pr_w, pr_F, pr_T, pr_R, z])
      · exact pos f (by omega) (by simp [pr_w, pr_F, pr_T, pr_R, z])
      · exact pos r (by omega) (by simp [pr_w, pr_F, pr_T, pr_R, z])
      · exact pos r (by omega) (by simp [pr_w, pr_F, pr_T, pr_R, z])
      · exact pos r (by omega) (by simp [pr_w, pr_F, pr_T, pr_R, z])
      · exact pos t (by omega) (by simp [pr_w, pr_F, pr_T, pr_R, z])
      · by_cases h4 : t = 4
        · simp [pr_T, z, h4]
          omega
        · exact pos t (by omega) (by simp [pr_w, pr_F, pr_T, pr_R, z])
      · exact pos t (by omega) (by simp [pr_w, pr_F, pr_T, pr_R, z])
    have ea : ∀ c, pr_w c ((k, f, t, n, r) :: q) = pr_w c [(k, f, t, n, r)] + pr_w c q := by
      intro c
      simp only [pr_w, pr_F, pr_T, pr_R]
      omega
    have et : pr_T 8 4 ((k, f, t, n, r) :: q) = pr_T 8 4 [(k, f, t, n, r)] + pr_T 8 4 q := by
      simp only [pr_T]
      omega
    rw [ea, ea, ea, ea, et, List.length_cons]
    omega
theorem pr_w_le {s : Nat → Nat} {ms : Nat → Int} {q : List pr_M} {c : Nat} (h : pr_c s ms q c) : pr_w c q ≤ 4 ∧ (s c ≤ 2 → pr_w c q = 0) := by
  have f1 := pr_N_T c q
  have f3 := pr_N_D c q
  unfold pr_c pr_C at h
  unfold pr_w
  omega
