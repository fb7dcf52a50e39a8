theorem hx_lt {n k c : Nat} (h : hx_L n k c) : hx_off n k c < 63 + 7 * n := by
  rcases hx_k47 h with w | w | w | w | w | w | w | w | w | w | w | w | w | w | w | w | w | w | w | w | w | w | w | w | w | w | w | w | w | w | w | w | w | w | w | w | w | w | w <;> subst w <;> simp only [hx_L, hx_n] at h <;> simp only [hx_off] <;> omega
theorem hc_P.kept {D : va_G} {n z : Nat} {e : Nat → Nat → va_E} {H H1 : Heap} (h : hc_P D n z e H) (hz : H1.size = H.size) (hk : ∀ q : Nat, q < H.size → H1[q]? = H[q]?) : hc_P D n z e H1 := fun k c hL hlt => (h k c hL (by omega)).kept (hk _ (by omega))
theorem hc_done {D : va_G} {cI cZ cM cC : ClassId} {n z : Nat} {mx co mo : Int32} {H : Heap} (h : hc_P D n z (hc_E cI cZ cM cC n z mx co mo) H) (hz : H.size = hx_ad z n 46 0 + 1) : hd_P D hx_cl (hx_L n) (hx_ad z n) (hx_ce cI cZ cM cC n (hx_ad z n)) (hc_v0 mx co mo) H := fun k c hL => h k c hL (by
  have h1 := hx_lt hL
  rw [hz]
  simp only [hx_ad, hx_off] at *
  omega)
theorem hd_N_of {s : State} {args : Array Value} (h : ∀ w ∈ hx_nest, w.before args s = true) : hd_N s := fun w hw => by
  have h2 := hx_nest_is w hw
  have h1 := h w hw
  cases w <;> first | exact va_Nw.of rfl h1 | (cases h2; done)
/-- the classes and array classes -/
theorem law_K {s : State} {args : Array Value} (hts0 : ∀ w ∈ lw_tbl, w.before args s = true) : ∃ (D : va_G) (cI cZ cM cC : ClassId), va_K D hx_cl (hx_ty cI cZ cM cC) s ∧ hd_N s ∧ va_AO R_Msg s ∧ va_AO R_Core s := by
  have hts : ∀ w ∈ lw_g, w.before args s = true := fun w hw => hts0 w (List.mem_filter.mp hw).1
  obtain ⟨c0, i0, h0⟩ := u_known (C := R_Msg) (T := F_Msg) (N := 7) (n := 7) hts i_Msg (hts _ k_32)
  obtain ⟨c1, i1, h1⟩ := u_known (C := R_Net) (T := F_Net) (N := 3) (n := 3) hts i_Net (hts _ k_25)
  obtain ⟨c2, i2, h2⟩ := u_known (C := R_Core) (T := F_Core) (N := 14) (n := 14) hts i_Core (hts _ k_117)
  obtain ⟨c3, i3, h3⟩ := u_known (C := R_Home) (T := F_Home) (N := 5) (n := 5) hts i_Home (hts _ k_89)
  obtain ⟨c4, i4, h4⟩ := u_known (C := R_HD) (T := F_HD) (N := 3) (n := 3) hts i_HD (hts _ k_11)
  obtain ⟨c5, i5, h5⟩ := u_known (C := R_Mod) (T := F_Mod) (N := 27) (n := 27) hts i_Mod (hts _ k_441)
  obtain ⟨cI, kI, mI, a1, a2, a3⟩ := Cond.arrayClass_spec (hts _ k_114)
  obtain ⟨cZ, kZ, mZ, b1, b2, b3⟩ := Cond.arrayClass_spec (hts _ k_528)
  obtain ⟨mM, cM, kM, d1, -, d2, d3, d4⟩ := Cond.arrayOver_spec (hts0 _ k_31)
  obtain ⟨mC, cC, kC, e1, -, e2, e3, e4⟩ := Cond.arrayOver_spec (hts0 _ k_116)
  refine ⟨(fun k => match k with | 0 => c0 | 1 => c1 | 2 => c2 | 3 => c3 | 4 => c4 | _ => c5, fun k => match k with | 0 => i0 | 1 => i1 | 2 => i2 | 3 => i3 | 4 => i4 | _ => i5), cI, cZ, cM, cC, ⟨?_, ?_⟩, hd_N_of (fun w hw => hts0 w (hx_nest_tbl w hw)), va_AO.of (hts0 _ k_31), va_AO.of (hts0 _ k_116)⟩
  · intro k q hq
    match k, hq with
    | 0, hq => cases hq; exact h0
    | 1, hq => cases hq; exact h1
    | 2, hq => cases hq; exact h2
    | 3, hq => cases hq; exact h3
    | 4, hq => cases hq; exact h4
    | 5, hq => cases hq; exact h5
    | k + 6, hq => simp [hx_cl] at hq
  · intro k q hq
    match k, hq with
    | 0, hq => cases hq; exact ⟨fun N z => ⟨fun k h => (by cases h), kI, a2, mI, a3⟩, a1⟩
    | 1, hq => cases hq; exact ⟨fun N z => ⟨fun k h => (by cases h), kZ, b2, mZ, b3⟩, b1⟩
    | 2, hq => cases hq; exact ⟨fun N z => ⟨fun k h => (by cases h), kM, d2, mM, d3⟩, kM, mM, d2, d3, d1, d4⟩
    | 3, hq => cases hq; exact ⟨fun N z => ⟨fun k h => (by cases h), kC, e2, mC, e3⟩, kC, mC, e2, e3, e1, e4⟩
    | k + 4, hq => simp [hx_ty] at hq
set_option maxHeartbeats 4000000 in
set_option maxRecDepth 100000 in
theorem c_Law_cell (l : Launch) (b L : Nat) (xs : Nat → Int32) (k_ : Int32) (j : Nat) (hL : L < 2 ^ 31) (hk : 0 ≤ k_) : Met l y_Law_cell w_Law_cell { frames := 0, cells := 0, slots := 0, locals := 0 } (va_Pc [.ref b, .int k_] (fun U => va_X b L xs U U.heap ∧ b < U.heap.size ∧ U.heap.size = j)) (va_Qi (fun r (_ : Unit) => r = if Int32.ofNat L ≤ k_ then 0 else xs k_.toNatClampNeg) (fun _ t => t.heap.size = j) (fun _ => False)) 0 0 (fun _ => False) := by
  refine Met.ofW (cc := b_Law_cell) (maxL := 2) (ret := (some .int)) (by decide) rfl ?_
  intro p ev s m args below meth c s₁ B hml hv
  obtain ⟨rfl, hX, hbl, hj⟩ := hv
  have hx := B.exec
  have hb := B.bytes
  have hr := B.returns
  have hlk := B.notSynchronized
  have hS : va_S (fun _ => False) s.heap s.heap [] := va_S.rf
  have hl := lv_entry ([.ref b, .int k_]) (n := 2) (Nat.le_of_ble_eq_true rfl)
  rw [lg_entry_eq]
  generalize (lg_sl ([.ref b, .int k_]) ++ List.replicate (2 - (lg_sl ([.ref b, .int k_])).length) Slot.unset).toArray = ls at hl ⊢
  have hl : lv_has ls 2 [(0, .ref b), (1, .int k_)] := hl
  refine lv_iload_n hx hb d_Law_cell_0 rfl (lv_at hl 1 rfl) ?_
  refine lv_aload_n hx hb d_Law_cell_1 rfl (lv_at hl 0 rfl) ?_
  refine va_slen (A := fun _ => False) hx hb hX hbl (fun h => h) hS d_Law_cell_2 ?_
  refine lv_icmp_ge (tgt := 12) hx hb d_Law_cell_3 (by decide) (fun h1 => ?_) (fun h1 => ?_)
  · refine lv_iconst (v := 0) hx hb d_Law_cell_12 (by decide) ?_
    exact W.iret hx hb hr (fun t ht hW => ⟨⟨0, (), rfl, by rw [if_pos h1], (show t.heap.size = j by rw [ht]; exact hj)⟩, hS.F ht⟩) hS.2.2 d_Law_cell_13 hlk
  · refine lv_aload_n hx hb d_Law_cell_6 rfl (lv_at hl 0 rfl) ?_
    refine lv_iload_n hx hb d_Law_cell_7 rfl (lv_at hl 1 rfl) ?_
    refine va_sld (A := fun _ => False) hx hb hX hbl (fun h => h) hS (hd_in (y := Int32.ofNat L) (nI_toInt hL) hk h1) d_Law_cell_8 ?_
    refine lv_goto (tgt := 13) hx hb d_Law_cell_9 (by decide) ?_
    exact W.iret hx hb hr (fun t ht hW => ⟨⟨_, (), rfl, by rw [if_neg h1], (show t.heap.size = j by rw [ht]; exact hj)⟩, hS.F ht⟩) hS.2.2 d_Law_cell_13 hlk
/-- the clamped numbers of cores and lines, as the class and as the reference make them -/
theorem law_n (c : Int32) : ∃ n : Nat, 2 ≤ n ∧ n ≤ 4 ∧ (if 2 < (if c < 4 then c else 4) then (if c < 4 then c else 4) else 2) = nI n ∧ (if 2 ≤ c then (if c ≤ 4 then c else 4) else 2) = nI n := by
  by_cases h1 : c < 4
  · by_cases h2 : 2 < c
    · have h3 : c = 3 := by
        rw [Int32.lt_iff_toInt_lt] at h1 h2
        rw [show (4 : Int32).toInt = 4 from rfl] at h1
        rw [show (2 : Int32).toInt = 2 from rfl] at h2
        exact Int32.toInt_inj.mp (by rw [show (3 : Int32).toInt = 3 from rfl]; omega)
      subst h3
      exact ⟨3, by decide, by decide, by decide, by decide⟩
    · refine ⟨2, by decide, by decide, ?_, ?_⟩
      · rw [if_pos h1, if_neg h2]
        rfl
      · by_cases h3 : 2 ≤ c
        · have h4 : c = 2 := by
            rw [Int32.lt_iff_toInt_lt] at h2
            rw [Int32.le_iff_toInt_le] at h3
            exact Int32.toInt_inj.mp (by omega)
          subst h4
          decide
        · rw [if_neg h3]
          rfl
  · refine ⟨4, by decide, by decide, ?_, ?_⟩
    · rw [if_neg h1]
      decide
    · rw [Int32.lt_iff_toInt_lt, show (4 : Int32).toInt = 4 from rfl] at h1
      have h2 : 2 ≤ c := by
        rw [Int32.le_iff_toInt_le, show (2 : Int32).toInt = 2 from rfl]
        omega
      rw [if_pos h2]
      by_cases h3 : c ≤ 4
      · rw [if_pos h3]
        rw [Int32.le_iff_toInt_le, show (4 : Int32).toInt = 4 from rfl] at h3
        exact Int32.toInt_inj.mp (by rw [nI_toInt (by decide)]; omega)
      · rw [if_neg h3]
        rfl
theorem law_m (c : Int32) : ∃ q : Nat, 1 ≤ q ∧ q ≤ 3 ∧ (if 1 < (if c < 3 then c else 3) then (if c < 3 then c else 3) else 1) = nI q ∧ (if 1 ≤ c then (if c ≤ 3 then c else 3) else 1) = nI q := by
  by_cases h1 : c < 3
  · by_cases h2 : 1 < c
    · have h3 : c = 2 := by
        rw [Int32.lt_iff_toInt_lt] at h1 h2
        rw [show (3 : Int32).toInt = 3 from rfl] at h1
        rw [show (1 : Int32).toInt = 1 from rfl] at h2
        exact Int32.toInt_inj.mp (by rw [show (2 : Int32).toInt = 2 from rfl]; omega)
      subst h3
      exact ⟨2, by decide, by decide, by decide, by decide⟩
    · refine ⟨1, by decide, by decide, ?_, ?_⟩
      · rw [if_pos h1, if_neg h2]
        rfl
      · by_cases h3 : 1 ≤ c
        · have h4 : c = 1 := by
            rw [Int32.lt_iff_toInt_lt] at h2
            rw [Int32.le_iff_toInt_le] at h3
            exact Int32.toInt_inj.mp (by omega)
          subst h4
          decide
        · rw [if_neg h3]
          rfl
  · refine ⟨3, by decide, by decide, ?_, ?_⟩
    · rw [if_neg h1]
      decide
    · rw [Int32.lt_iff_toInt_lt, show (3 : Int32).toInt = 3 from rfl] at h1
      have h2 : 1 ≤ c := by
        rw [Int32.le_iff_toInt_le, show (1 : Int32).toInt = 1 from rfl]
        omega
      rw [if_pos h2]
      by_cases h3 : c ≤ 3
      · rw [if_pos h3]
        rw [Int32.le_iff_toInt_le, show (3 : Int32).toInt = 3 from rfl] at h3
        exact Int32.toInt_inj.mp (by rw [nI_toInt (by decide)]; omega)
      · rw [if_neg h3]
        rfl
