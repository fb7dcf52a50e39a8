/-! The cells lie one behind another, in the order in which they are made: z is the first -/
def hx_off (n k c : Nat) : Nat := match k with
  | 0 => 0
  | 1 => 1
  | 2 => 2
  | 3 => 3 + c
  | 4 => 35
  | 5 => 36
  | 6 => 37
  | 7 => 38
  | 8 => 39
  | 9 => 40
  | 10 => 41 + 7 * c
  | 11 => 42 + 7 * c
  | 12 => 43 + 7 * c
  | 13 => 44 + 7 * c
  | 14 => 45 + 7 * c
  | 15 => 46 + 7 * c
  | 16 => 47 + 7 * c
  | 20 => 41 + 7 * n
  | 22 => 42 + 7 * n
  | 23 => 43 + 7 * n
  | 24 => 44 + 7 * n
  | 25 => 45 + 7 * n
  | 26 => 46 + 7 * n
  | 27 => 47 + 7 * n
  | 28 => 48 + 7 * n
  | 29 => 49 + 7 * n
  | 30 => 50 + 7 * n
  | 31 => 51 + 7 * n
  | 33 => 52 + 7 * n
  | 34 => 53 + 7 * n
  | 35 => 54 + 7 * n
  | 36 => 55 + 7 * n
  | 40 => 56 + 7 * n
  | 41 => 57 + 7 * n
  | 42 => 58 + 7 * n
  | 43 => 59 + 7 * n
  | 44 => 60 + 7 * n
  | 45 => 61 + 7 * n
  | 46 => 62 + 7 * n
  | _ => 0
def hx_ad (z n : Nat) : Nat → Nat → Nat := fun k c => z + hx_off n k c
/-- which cell lies at a place -/
def hx_inv (n o : Nat) : Nat × Nat :=
  if o < 3 then (o, 0) else if o < 35 then (3, o - 3) else if o < 41 then (o - 31, 0) else if o < 41 + 7 * n then (10 + (o - 41) % 7, (o - 41) / 7) else
  if o < 42 + 7 * n then (20, 0) else if o < 52 + 7 * n then (o - (42 + 7 * n) + 22, 0) else if o < 56 + 7 * n then (o - (52 + 7 * n) + 33, 0) else (o - (56 + 7 * n) + 40, 0)
theorem hx_k47 {n k c : Nat} (h : hx_L n k c) : k = 0 ∨ k = 1 ∨ k = 2 ∨ k = 3 ∨ k = 4 ∨ k = 5 ∨ k = 6 ∨ k = 7 ∨ k = 8 ∨ k = 9 ∨ k = 10 ∨ k = 11 ∨ k = 12 ∨ k = 13 ∨ k = 14 ∨ k = 15 ∨ k = 16 ∨ k = 20 ∨ k = 22 ∨ k = 23 ∨ k = 24 ∨ k = 25 ∨ k = 26 ∨ k = 27 ∨ k = 28 ∨ k = 29 ∨ k = 30 ∨ k = 31 ∨ k = 33 ∨ k = 34 ∨ k = 35 ∨ k = 36 ∨ k = 40 ∨ k = 41 ∨ k = 42 ∨ k = 43 ∨ k = 44 ∨ k = 45 ∨ k = 46 := by
  by_cases h47 : k < 47
  · have h1 : ¬ k = 17 ∧ ¬ k = 18 ∧ ¬ k = 19 ∧ ¬ k = 21 ∧ ¬ k = 32 ∧ ¬ k = 37 ∧ ¬ k = 38 ∧ ¬ k = 39 := by
      refine ⟨?_, ?_, ?_, ?_, ?_, ?_, ?_, ?_⟩ <;> (intro z; subst z; exact absurd h (Nat.not_lt_zero c))
    omega
  · exfalso
    have h1 : hx_n n k = 0 := by
      unfold hx_n
      split <;> first | omega | (simp at h47; done) | simp [h47]
    unfold hx_L at h
    omega
theorem hx_inv_off {n k c : Nat} (h : hx_L n k c) : hx_inv n (hx_off n k c) = (k, c) := by
  rcases hx_k47 h with z | z | z | z | z | z | z | z | z | z | z | z | z | z | z | z | z | z | z | z | z | z | z | z | z | z | z | z | z | z | z | z | z | z | z | z | z | z | z <;> subst z <;> simp only [hx_L, hx_n] at h <;> simp only [hx_off, hx_inv]
  · have h0 : c = 0 := by simp at h; omega
    (repeat' split) <;> first | omega | (apply Prod.ext <;> simp <;> omega)
  · have h0 : c = 0 := by simp at h; omega
    (repeat' split) <;> first | omega | (apply Prod.ext <;> simp <;> omega)
  · have h0 : c = 0 := by simp at h; omega
    (repeat' split) <;> first | omega | (apply Prod.ext <;> simp <;> omega)
  · have h0 : c < 32 := h
    (repeat' split) <;> first | omega | (apply Prod.ext <;> simp <;> omega)
  · have h0 : c = 0 := by simp at h; omega
    (repeat' split) <;> first | omega | (apply Prod.ext <;> simp <;> omega)
  · have h0 : c = 0 := by simp at h; omega
    (repeat' split) <;> first | omega | (apply Prod.ext <;> simp <;> omega)
  · have h0 : c = 0 := by simp at h; omega
    (repeat' split) <;> first | omega | (apply Prod.ext <;> simp <;> omega)
  · have h0 : c = 0 := by simp at h; omega
    (repeat' split) <;> first | omega | (apply Prod.ext <;> simp <;> omega)
  · have h0 : c = 0 := by simp at h; omega
    (repeat' split) <;> first | omega | (apply Prod.ext <;> simp <;> omega)
  · have h0 : c = 0 := by simp at h; omega
    (repeat' split) <;> first | omega | (apply Prod.ext <;> simp <;> omega)
  · have h0 : c < n := h
    (repeat' split) <;> first | omega | (apply Prod.ext <;> simp <;> omega)
  · have h0 : c < n := h
    (repeat' split) <;> first | omega | (apply Prod.ext <;> simp <;> omega)
  · have h0 : c < n := h
    (repeat' split) <;> first | omega | (apply Prod.ext <;> simp <;> omega)
  · have h0 : c < n := h
    (repeat' split) <;> first | omega | (apply Prod.ext <;> simp <;> omega)
  · have h0 : c < n := h
    (repeat' split) <;> first | omega | (apply Prod.ext <;> simp <;> omega)
  · have h0 : c < n := h
    (repeat' split) <;> first | omega | (apply Prod.ext <;> simp <;> omega)
  · have h0 : c < n := h
    (repeat' split) <;> first | omega | (apply Prod.ext <;> simp <;> omega)
  · have h0 : c = 0 := by simp at h; omega
    (repeat' split) <;> first | omega | (apply Prod.ext <;> simp <;> omega)
  · have h0 : c = 0 := by simp at h; omega
    (repeat' split) <;> first | omega | (apply Prod.ext <;> simp <;> omega)
  · have h0 : c = 0 := by simp at h; omega
    (repeat' split) <;> first | omega | (apply Prod.ext <;> simp <;> omega)
  · have h0 : c = 0 := by simp at h; omega
    (repeat' split) <;> first | omega | (apply Prod.ext <;> simp <;> omega)
  · have h0 : c = 0 := by simp at h; omega
    (repeat' split) <;> first | omega | (apply Prod.ext <;> simp <;> omega)
  · have h0 : c = 0 := by simp at h; omega
    (repeat' split) <;> first | omega | (apply Prod.ext <;> simp <;> omega)
  · have h0 : c = 0 := by simp at h; omega
    (repeat' split) <;> first | omega | (apply Prod.ext <;> simp <;> omega)
  · have h0 : c = 0 := by simp at h; omega
    (repeat' split) <;> first | omega | (apply Prod.ext <;> simp <;> omega)
  · have h0 : c = 0 := by simp at h; omega
    (repeat' split) <;> first | omega | (apply Prod.ext <;> simp <;> omega)
  · have h0 : c = 0 := by simp at h; omega
    (repeat' split) <;> first | omega | (apply Prod.ext <;> simp <;> omega)
  · have h0 : c = 0 := by simp at h; omega
    (repeat' split) <;> first | omega | (apply Prod.ext <;> simp <;> omega)
  · have h0 : c = 0 := by simp at h; omega
    (repeat' split) <;> first | omega | (apply Prod.ext <;> simp <;> omega)
  · have h0 : c = 0 := by simp at h; omega
    (repeat' split) <;> first | omega | (apply Prod.ext <;> simp <;> omega)
  · have h0 : c = 0 := by simp at h; omega
    (repeat' split) <;> first | omega | (apply Prod.ext <;> simp <;> omega)
  · have h0 : c = 0 := by simp at h; omega
    (repeat' split) <;> first | omega | (apply Prod.ext <;> simp <;> omega)
  · have h0 : c = 0 := by simp at h; omega
    (repeat' split) <;> first | omega | (apply Prod.ext <;> simp <;> omega)
  · have h0 : c = 0 := by simp at h; omega
    (repeat' split) <;> first | omega | (apply Prod.ext <;> simp <;> omega)
  · have h0 : c = 0 := by simp at h; omega
    (repeat' split) <;> first | omega | (apply Prod.ext <;> simp <;> omega)
  · have h0 : c = 0 := by simp at h; omega
    (repeat' split) <;> first | omega | (apply Prod.ext <;> simp <;> omega)
  · have h0 : c = 0 := by simp at h; omega
    (repeat' split) <;> first | omega | (apply Prod.ext <;> simp <;> omega)
  · have h0 : c = 0 := by simp at h; omega
    (repeat' split) <;> first | omega | (apply Prod.ext <;> simp <;> omega)
  · have h0 : c = 0 := by simp at h; omega
    (repeat' split) <;> first | omega | (apply Prod.ext <;> simp <;> omega)
theorem hx_J {z n : Nat} : hd_J (hx_L n) (hx_ad z n) := by
  intro k c k' c' h h' e
  have e1 : hx_off n k c = hx_off n k' c' := by
    unfold hx_ad at e
    omega
  have e2 := hx_inv_off h
  rw [e1, hx_inv_off h'] at e2
  have e3 := Prod.mk.inj e2
  exact ⟨e3.1.symm, e3.2.symm⟩
