/-! What the new cells hold; a cell under construction is set over that -/
def hc_v0 (mx co mo : Int32) : hd_V := fun k c i => match k with
  | 2 => nI i
  | 7 => -1
  | 10 => if i = 0 then nI c else if i = 1 then mx else 0
  | 20 => if i = 0 then co else if i = 1 then mo else 0
  | 35 => -1
  | _ => 0
def hc_E (cI cZ cM cC : ClassId) (n z : Nat) (mx co mo : Int32) : Nat → Nat → va_E := fun k c => hx_ce cI cZ cM cC n (hx_ad z n) k c (hc_v0 mx co mo k c)
theorem hc_drop {D : va_G} {n z k0 c0 : Nat} {e : Nat → Nat → va_E} {x : va_E} {H : Heap} (h : hc_P D n z (hc_u e k0 c0 x) H) (he : e k0 c0 = x) : hc_P D n z e H := h.to (fun k c _ _ => by
  by_cases w : k = k0 ∧ c = c0
  · obtain ⟨rfl, rfl⟩ := w
    rw [hc_us, he]
  · rw [hc_un w])
theorem hc_over {D : va_G} {n z k0 c0 : Nat} {e : Nat → Nat → va_E} {x y : va_E} {H : Heap} (h : hc_P D n z (hc_u (hc_u e k0 c0 x) k0 c0 y) H) : hc_P D n z (hc_u e k0 c0 y) H := h.to (fun k c _ _ => by
  by_cases w : k = k0 ∧ c = c0
  · obtain ⟨rfl, rfl⟩ := w
    rw [hc_us, hc_us]
  · rw [hc_un w, hc_un w, hc_un w])
theorem hc_swap {D : va_G} {n z k0 c0 k1 c1 : Nat} {e : Nat → Nat → va_E} {x y : va_E} {H : Heap} (hne : ¬ (k1 = k0 ∧ c1 = c0)) (h : hc_P D n z (hc_u (hc_u e k0 c0 x) k1 c1 y) H) : hc_P D n z (hc_u (hc_u e k1 c1 y) k0 c0 x) H := h.to (fun k c _ _ => by
  by_cases w : k = k0 ∧ c = c0
  · obtain ⟨rfl, rfl⟩ := w
    rw [hc_us, hc_un (fun q => hne ⟨q.1.symm, q.2.symm⟩), hc_us]
  · rw [hc_un w]
    by_cases w1 : k = k1 ∧ c = c1
    · obtain ⟨rfl, rfl⟩ := w1
      rw [hc_us, hc_us]
    · rw [hc_un w1, hc_un w1, hc_un w])
theorem hc_dropx {D : va_G} {n z k0 c0 N : Nat} {e : Nat → Nat → va_E} {cA : ClassId} {x y : (Nat → Int32) ⊕ (Nat → Int64) ⊕ (Nat → UInt32) ⊕ (Nat → UInt64) ⊕ (Nat → Option Nat)} {H : Heap} (h : hc_P D n z (hc_u e k0 c0 (.inl (cA, N, x))) H) (he : e k0 c0 = .inl (cA, N, y)) (hxy : vp_cell cA (N, x) = vp_cell cA (N, y)) : hc_P D n z e H := by
  intro k c hL hlt
  have h1 := h k c hL hlt
  by_cases w : k = k0 ∧ c = c0
  · obtain ⟨rfl, rfl⟩ := w
    rw [hc_us] at h1
    rw [he]
    show H[_]? = some (vp_cell _ _)
    rw [← hxy]
    exact h1
  · rw [hc_un w] at h1
    exact h1
theorem hc_qext {cA : ClassId} {N : Nat} {f g : Nat → Option Nat} (h : ∀ j, j < N → f j = g j) : vp_cell cA (N, .inr (.inr (.inr (.inr f)))) = vp_cell cA (N, .inr (.inr (.inr (.inr g)))) := by
  rw [vp_cell_q, vp_cell_q]
  unfold arrV
  congr 1
  congr 1
  funext j
  show va_rf (f j.val) = va_rf (g j.val)
  rw [h j.val j.isLt]
theorem hc_iext {cA : ClassId} {N : Nat} {f g : Nat → Int32} (h : ∀ j, j < N → f j = g j) : vp_cell cA (N, .inl f) = vp_cell cA (N, .inl g) := by
  rw [vp_cell_i, vp_cell_i]
  unfold arrV
  congr 1
  congr 1
  funext j
  show Value.int (f j.val) = Value.int (g j.val)
  rw [h j.val j.isLt]
set_option maxRecDepth 20000 in
theorem k_obj : Cond.code Lib.objectInit ⟨#[0xb1]⟩ 1 none ∈ lw_g := g_in (List.mem_append_right _ (List.mem_append_left _ (List.mem_of_getElem? (i := 17) rfl))) rfl
theorem hd_geB {x y : Int32} {i B : Nat} (hx : x = nI i) (hy : y = nI B) (hB : B < 2 ^ 31) (hi : i ≤ B) (h : y ≤ x) : i = B := by
  rw [hx, hy, Int32.le_iff_toInt_le, nI_toInt hB, nI_toInt (by omega)] at h
  omega
theorem hc_fi {g : Nat → Nat} {i : Nat} : va_up (fun j => if j < i then some (g j) else none) i (some (g i)) = fun j => if j < i + 1 then some (g j) else none := by
  funext q
  unfold va_up
  by_cases w : q = i
  · rw [if_pos w, if_pos (by omega), w]
  · rw [if_neg w]
    show (if q < i then some (g q) else none) = _
    by_cases w2 : q < i
    · rw [if_pos w2, if_pos (by omega)]
    · rw [if_neg w2, if_neg (by omega)]
set_option maxRecDepth 20000 in
theorem k_max : Cond.code Lib.Math.max.name Lib.Math.max.code 2 (some .int) ∈ lw_g := g_in (List.mem_append_right _ (List.mem_append_left _ (List.mem_of_getElem? (i := 23) rfl))) rfl
set_option maxRecDepth 20000 in
theorem k_min : Cond.code Lib.Math.min.name Lib.Math.min.code 2 (some .int) ∈ lw_g := g_in (List.mem_append_right _ (List.mem_append_left _ (List.mem_of_getElem? (i := 20) rfl))) rfl
