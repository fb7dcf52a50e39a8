def f_Core_linesInUse_L4 (cx : Nat) : Nat → Int32 → Int32 → hd_V → Int32
  | 0, _, _, _ => 0
  | k + 1, y1, y2, v =>
    if 4 ≤ y2 then
      y1
    else
      if (v 13 cx y2.toNatClampNeg) = 0 then
        let x103 : Int32 := y2 + 1
        f_Core_linesInUse_L4 cx k y1 x103 v
      else
        let x104 : Int32 := y1 + 1
        let x105 : Int32 := y2 + 1
        f_Core_linesInUse_L4 cx k x104 x105 v
def f_Core_linesInUse (cx : Nat) (v : hd_V) : Int32 :=
  f_Core_linesInUse_L4 cx 5 0 0 v
set_option maxHeartbeats 4000000 in
set_option maxRecDepth 100000 in
theorem c_Core_linesInUse (l : Launch) {D : va_G} {cI cZ cM cC : ClassId} {n : Nat} {ad : Nat → Nat → Nat} (hJ : hd_J (hx_L n) ad) (cx : Nat) (v : hd_V) (hcx : cx < n) : Met l y_Core_linesInUse w_Core_linesInUse { frames := 0, cells := 0, slots := 0, locals := 0 } (va_Pc [.ref (ad 10 cx)] (hx_B D cI cZ cM cC n ad v)) (va_Qi (fun r u => r = f_Core_linesInUse cx v ∧ u = v) (fun u => hx_B D cI cZ cM cC n ad u) (hx_A n ad)) 0 0 (hx_A n ad) := by
  refine Met.ofW (cc := b_Core_linesInUse) (maxL := 3) (ret := (some .int)) (by decide) rfl ?_
  intro p e s m args below meth c s₁ B hml hv
  obtain ⟨rfl, hP, hK, hN⟩ := hv
  have hx := B.exec
  have hb := B.bytes
  have hr := B.returns
  have hlk := B.notSynchronized
  have hts0 := atoms_spec (ws := w_Core_linesInUse) B.pre
  have hts := fun w (hw : w ∈ lw_g) => hts0 w (List.mem_cons_of_mem _ hw)
  have hown : s.vm.findClass R_Core = some m.cls := findClass_of_methodNamed B.named
  have hA : ∀ q, hx_A n ad q → hx_A n ad q := fun _ h => h
  have hS : va_S (hx_A n ad) s.heap s.heap [] := va_S.rf
  have hl := lv_entry ([.ref (ad 10 cx)]) (n := 3) (Nat.le_of_ble_eq_true rfl)
  rw [lg_entry_eq]
  generalize (lg_sl ([.ref (ad 10 cx)]) ++ List.replicate (3 - (lg_sl ([.ref (ad 10 cx)])).length) Slot.unset).toArray = ls at hl ⊢
  have hl : lv_has ls 3 [(0, .ref (ad 10 cx))] := hl
  have loop4 : ∀ (k i : Nat) (y1 y2 : Int32), (i ≤ 4) → (4 < i + k) → (y2 = nI i) → f_Core_linesInUse cx v = f_Core_linesInUse_L4 cx k y1 y2 v → ∀ (H : Heap) (locs : List Loc) (ls : Array Slot), hd_P D hx_cl (hx_L n) ad (hx_ce cI cZ cM cC n ad) v H → va_S (hx_A n ad) s.heap H locs → lv_has ls 3 [(2, .int y2), (1, .int y1), (0, .ref (ad 10 cx))] → W p l e (headSpec w_Core_linesInUse { frames := 0, cells := 0, slots := 0, locals := 0 }).room s m [.ref (ad 10 cx)].toArray below meth c H locs 0 0 (MQ below (va_Qi (fun r u => r = f_Core_linesInUse cx v ∧ u = v) (fun u => hx_B D cI cZ cM cC n ad u) (hx_A n ad)) [.ref (ad 10 cx)].toArray s 0 0 (hx_A n ad)) (F0 m 4 ls []) := by
    intro k
    induction k with
    | zero =>
      intro i y1 y2 hi1 hi2 hi3
      exact absurd hi2 (by omega)
    | succ k ih =>
      intro i y1 y2 hi1 hi2 hi3 hf H locs ls hP hS hl
      refine lv_iload_n hx hb d_Core_linesInUse_4 rfl (lv_at hl 0 rfl) ?_
      refine lv_iconst (v := 4) hx hb d_Core_linesInUse_5 (by decide) ?_
      refine lv_icmp_ge (tgt := 27) hx hb d_Core_linesInUse_6 (by decide) (fun h101 => ?_) (fun h101 => ?_)
      · refine lv_iload_n hx hb d_Core_linesInUse_27 rfl (lv_at hl 1 rfl) ?_
        exact hd_iret hx hb hr hlk hK hN hP hS d_Core_linesInUse_28 ⟨by rw [hf]; simp only [f_Core_linesInUse_L4]; rw [if_pos h101], rfl⟩
      · have hlt : i < 4 := hd_lp hi3 (show (4 : Int32) = nI 4 from rfl) (by omega) h101
        have hin : vp_in y2 4 := hd_lpin hi3 (by omega) (by decide)
        refine lv_aload_n hx hb d_Core_linesInUse_9 rfl (lv_at hl 2 rfl) ?_
        refine hd_get (C := R_Core) (T := F_Core) (N := 14) hx hb hts i_Core hown hK hP 10 cx hcx rfl rfl 9 (by decide) (hts _ k_134) (fun _ h9 => h9) rfl d_Core_linesInUse_10 ?_
        refine lv_iload_n hx hb d_Core_linesInUse_13 rfl (lv_at hl 0 rfl) ?_
        refine hd_iald hx hb hK hP 13 cx 0 hcx rfl rfl hin d_Core_linesInUse_14 ?_
        refine lv_if_eq (tgt := 21) hx hb d_Core_linesInUse_15 (by decide) (fun h102 => ?_) (fun h102 => ?_)
        · obtain ⟨x103, ex103⟩ : ∃ y : Int32, y = y2 + 1 := ⟨_, rfl⟩
          refine lv_iinc (v := x103) (lv' := [(2, .int x103), (1, .int y1), (0, .ref (ad 10 cx))]) hx hb d_Core_linesInUse_21 hl (k := 0) rfl (by rw [ex103]; rfl) (by decide) rfl (fun ls hl => ?_)
          refine lv_goto (tgt := 4) hx hb d_Core_linesInUse_24 (by decide) ?_
          exact ih (i + 1) y1 x103 hlt (by omega) (by rw [ex103, hi3]; exact nI_1 i) (by rw [hf]; subst ex103; simp only [f_Core_linesInUse_L4]; rw [if_neg h101, if_pos h102]) _ _ _ hP hS (lv_sub hl [0, 1, 2] rfl)
        · obtain ⟨x104, ex104⟩ : ∃ y : Int32, y = y1 + 1 := ⟨_, rfl⟩
          refine lv_iinc (v := x104) (lv' := [(1, .int x104), (2, .int y2), (0, .ref (ad 10 cx))]) hx hb d_Core_linesInUse_18 hl (k := 1) rfl (by rw [ex104]; rfl) (by decide) rfl (fun ls hl => ?_)
          obtain ⟨x105, ex105⟩ : ∃ y : Int32, y = y2 + 1 := ⟨_, rfl⟩
          refine lv_iinc (v := x105) (lv' := [(2, .int x105), (1, .int x104), (0, .ref (ad 10 cx))]) hx hb d_Core_linesInUse_21 hl (k := 1) rfl (by rw [ex105]; rfl) (by decide) rfl (fun ls hl => ?_)
          refine lv_goto (tgt := 4) hx hb d_Core_linesInUse_24 (by decide) ?_
          exact ih (i + 1) x104 x105 hlt (by omega) (by rw [ex105, hi3]; exact nI_1 i) (by rw [hf]; subst ex105; subst ex104; simp only [f_Core_linesInUse_L4]; rw [if_neg h101, if_neg h102]) _ _ _ hP hS (lv_sub hl [0, 1, 2] rfl)
  refine lv_iconst (v := 0) hx hb d_Core_linesInUse_0 (by decide) ?_
  refine lv_istore_n (lv' := [(1, .int 0), (0, .ref (ad 10 cx))]) hx hb d_Core_linesInUse_1 rfl hl (by decide) rfl (fun ls hl => ?_)
  refine lv_iconst (v := 0) hx hb d_Core_linesInUse_2 (by decide) ?_
  refine lv_istore_n (lv' := [(2, .int 0), (1, .int 0), (0, .ref (ad 10 cx))]) hx hb d_Core_linesInUse_3 rfl hl (by decide) rfl (fun ls hl => ?_)
  exact loop4 5 0 0 0 (by omega) (by omega) nI_0.symm (by simp only [f_Core_linesInUse]) _ _ _ hP hS (lv_sub hl [0, 1, 2] rfl)
def f_Core_leastLatelyUsed_L4 (cx : Nat) : Nat → Int32 → Int32 → hd_V → Int32
  | 0, _, _, _ => 0
  | k + 1, y1, y2, v =>
    if 4 ≤ y2 then
      y1
    else
      if (v 13 cx y2.toNatClampNeg) = 0 then
        let x103 : Int32 := y2 + 1
        f_Core_leastLatelyUsed_L4 cx k y1 x103 v
      else
        if (v 13 cx y1.toNatClampNeg) = 0 then
          let x105 : Int32 := y2 + 1
          f_Core_leastLatelyUsed_L4 cx k y2 x105 v
        else
          if (v 16 cx y1.toNatClampNeg) ≤ (v 16 cx y2.toNatClampNeg) then
            let x107 : Int32 := y2 + 1
            f_Core_leastLatelyUsed_L4 cx k y1 x107 v
          else
            let x108 : Int32 := y2 + 1
            f_Core_leastLatelyUsed_L4 cx k y2 x108 v
def f_Core_leastLatelyUsed (cx : Nat) (v : hd_V) : Int32 :=
  f_Core_leastLatelyUsed_L4 cx 5 0 1 v
set_option maxHeartbeats 4000000 in
set_option maxRecDepth 100000 in
theorem c_Core_leastLatelyUsed (l : Launch) {D : va_G} {cI cZ cM cC : ClassId} {n : Nat} {ad : Nat → Nat → Nat} (hJ : hd_J (hx_L n) ad) (cx : Nat) (v : hd_V) (hcx : cx < n) : Met l y_Core_leastLatelyUsed w_Core_leastLatelyUsed { frames := 0, cells := 0, slots := 0, locals := 0 } (va_Pc [.ref (ad 10 cx)] (hx_B D cI cZ cM cC n ad v)) (va_Qi (fun r u => r = f_Core_leastLatelyUsed cx v ∧ u = v) (fun u => hx_B D cI cZ cM cC n ad u) (hx_A n ad)) 0 0 (hx_A n ad) := by
  refine Met.ofW (cc := b_Core_leastLatelyUsed) (maxL := 3) (ret := (some .int)) (by decide) rfl ?_
  intro p e s m args below meth c s₁ B hml hv
  obtain ⟨rfl, hP, hK, hN⟩ := hv
  have hx := B.exec
  have hb := B.bytes
  have hr := B.returns
  have hlk := B.notSynchronized
  have hts0 := atoms_spec (ws := w_Core_leastLatelyUsed) B.pre
  have hts := fun w (hw : w ∈ lw_g) => hts0 w (List.mem_cons_of_mem _ hw)
  have hown : s.vm.findClass R_Core = some m.cls := findClass_of_methodNamed B.named
  have hA : ∀ q, hx_A n ad q → hx_A n ad q := fun _ h => h
  have hS : va_S (hx_A n ad) s.heap s.heap [] := va_S.rf
  have hl := lv_entry ([.ref (ad 10 cx)]) (n := 3) (Nat.le_of_ble_eq_true rfl)
  rw [lg_entry_eq]
  generalize (lg_sl ([.ref (ad 10 cx)]) ++ List.replicate (3 - (lg_sl ([.ref (ad 10 cx)])).length) Slot.unset).toArray = ls at hl ⊢
  have hl : lv_has ls 3 [(0, .ref (ad 10 cx))] := hl
  have loop4 : ∀ (k i : Nat) (y1 y2 : Int32), (i ≤ 4) → (4 < i + k) → (y2 = nI i) → (vp_in y1 4) → f_Core_leastLatelyUsed cx v = f_Core_leastLatelyUsed_L4 cx k y1 y2 v → ∀ (H : Heap) (locs : List Loc) (ls : Array Slot), hd_P D hx_cl (hx_L n) ad (hx_ce cI cZ cM cC n ad) v H → va_S (hx_A n ad) s.heap H locs → lv_has ls 3 [(2, .int y2), (1, .int y1), (0, .ref (ad 10 cx))] → W p l e (headSpec w_Core_leastLatelyUsed { frames := 0, cells := 0, slots := 0, locals := 0 }).room s m [.ref (ad 10 cx)].toArray below meth c H locs 0 0 (MQ below (va_Qi (fun r u => r = f_Core_leastLatelyUsed cx v ∧ u = v) (fun u => hx_B D cI cZ cM cC n ad u) (hx_A n ad)) [.ref (ad 10 cx)].toArray s 0 0 (hx_A n ad)) (F0 m 4 ls []) := by
    intro k
    induction k with
    | zero =>
      intro i y1 y2 hi1 hi2 hi3 hy1
      exact absurd hi2 (by omega)
    | succ k ih =>
      intro i y1 y2 hi1 hi2 hi3 hy1 hf H locs ls hP hS hl
      refine lv_iload_n hx hb d_Core_leastLatelyUsed_4 rfl (lv_at hl 0 rfl) ?_
      refine lv_iconst (v := 4) hx hb d_Core_leastLatelyUsed_5 (by decide) ?_
      refine lv_icmp_ge (tgt := 50) hx hb d_Core_leastLatelyUsed_6 (by decide) (fun h101 => ?_) (fun h101 => ?_)
      · refine lv_iload_n hx hb d_Core_leastLatelyUsed_50 rfl (lv_at hl 1 rfl) ?_
        exact hd_iret hx hb hr hlk hK hN hP hS d_Core_leastLatelyUsed_51 ⟨by rw [hf]; simp only [f_Core_leastLatelyUsed_L4]; rw [if_pos h101], rfl⟩
      · have hlt : i < 4 := hd_lp hi3 (show (4 : Int32) = nI 4 from rfl) (by omega) h101
        have hin : vp_in y2 4 := hd_lpin hi3 (by omega) (by decide)
        refine lv_aload_n hx hb d_Core_leastLatelyUsed_9 rfl (lv_at hl 2 rfl) ?_
        refine hd_get (C := R_Core) (T := F_Core) (N := 14) hx hb hts i_Core hown hK hP 10 cx hcx rfl rfl 9 (by decide) (hts _ k_134) (fun _ h9 => h9) rfl d_Core_leastLatelyUsed_10 ?_
        refine lv_iload_n hx hb d_Core_leastLatelyUsed_13 rfl (lv_at hl 0 rfl) ?_
        refine hd_iald hx hb hK hP 13 cx 0 hcx rfl rfl hin d_Core_leastLatelyUsed_14 ?_
        refine lv_if_eq (tgt := 44) hx hb d_Core_leastLatelyUsed_15 (by decide) (fun h102 => ?_) (fun h102 => ?_)
        · obtain ⟨x103, ex103⟩ : ∃ y : Int32, y = y2 + 1 := ⟨_, rfl⟩
          refine lv_iinc (v := x103) (lv' := [(2, .int x103), (1, .int y1), (0, .ref (ad 10 cx))]) hx hb d_Core_leastLatelyUsed_44 hl (k := 0) rfl (by rw [ex103]; rfl) (by decide) rfl (fun ls hl => ?_)
          refine lv_goto (tgt := 4) hx hb d_Core_leastLatelyUsed_47 (by decide) ?_
          exact ih (i + 1) y1 x103 hlt (by omega) (by rw [ex103, hi3]; exact nI_1 i) hy1 (by rw [hf]; subst ex103; simp only [f_Core_leastLatelyUsed_L4]; rw [if_neg h101, if_pos h102]) _ _ _ hP hS (lv_sub hl [0, 1, 2] rfl)
        · refine lv_aload_n hx hb d_Core_leastLatelyUsed_18 rfl (lv_at hl 2 rfl) ?_
          refine hd_get (C := R_Core) (T := F_Core) (N := 14) hx hb hts i_Core hown hK hP 10 cx hcx rfl rfl 9 (by decide) (hts _ k_134) (fun _ h9 => h9) rfl d_Core_leastLatelyUsed_19 ?_
          refine lv_iload_n hx hb d_Core_leastLatelyUsed_22 rfl (lv_at hl 1 rfl) ?_
          refine hd_iald hx hb hK hP 13 cx 0 hcx rfl rfl hy1 d_Core_leastLatelyUsed_23 ?_
          refine lv_if_eq (tgt := 42) hx hb d_Core_leastLatelyUsed_24 (by decide) (fun h104 => ?_) (fun h104 => ?_)
          · refine lv_iload_n hx hb d_Core_leastLatelyUsed_42 rfl (lv_at hl 0 rfl) ?_
            refine lv_istore_n (lv' := [(1, .int y2), (2, .int y2), (0, .ref (ad 10 cx))]) hx hb d_Core_leastLatelyUsed_43 rfl hl (by decide) rfl (fun ls hl => ?_)
            obtain ⟨x105, ex105⟩ : ∃ y : Int32, y = y2 + 1 := ⟨_, rfl⟩
            refine lv_iinc (v := x105) (lv' := [(2, .int x105), (1, .int y2), (0, .ref (ad 10 cx))]) hx hb d_Core_leastLatelyUsed_44 hl (k := 1) rfl (by rw [ex105]; rfl) (by decide) rfl (fun ls hl => ?_)
            refine lv_goto (tgt := 4) hx hb d_Core_leastLatelyUsed_47 (by decide) ?_
            exact ih (i + 1) y2 x105 hlt (by omega) (by rw [ex105, hi3]; exact nI_1 i) hin (by rw [hf]; subst ex105; simp only [f_Core_leastLatelyUsed_L4]; rw [if_neg h101, if_neg h102, if_pos h104]) _ _ _ hP hS (lv_sub hl [0, 1, 2] rfl)
          · refine lv_aload_n hx hb d_Core_leastLatelyUsed_27 rfl (lv_at hl 2 rfl) ?_
            refine hd_get (C := R_Core) (T := F_Core) (N := 14) hx hb hts i_Core hown hK hP 10 cx hcx rfl rfl 12 (by decide) (hts _ k_138) (fun _ h9 => h9) rfl d_Core_leastLatelyUsed_28 ?_
            refine lv_iload_n hx hb d_Core_leastLatelyUsed_31 rfl (lv_at hl 0 rfl) ?_
            refine hd_iald hx hb hK hP 16 cx 0 hcx rfl rfl hin d_Core_leastLatelyUsed_32 ?_
            refine lv_aload_n hx hb d_Core_leastLatelyUsed_33 rfl (lv_at hl 2 rfl) ?_
            refine hd_get (C := R_Core) (T := F_Core) (N := 14) hx hb hts i_Core hown hK hP 10 cx hcx rfl rfl 12 (by decide) (hts _ k_138) (fun _ h9 => h9) rfl d_Core_leastLatelyUsed_34 ?_
            refine lv_iload_n hx hb d_Core_leastLatelyUsed_37 rfl (lv_at hl 1 rfl) ?_
            refine hd_iald hx hb hK hP 16 cx 0 hcx rfl rfl hy1 d_Core_leastLatelyUsed_38 ?_
            refine lv_icmp_ge (tgt := 44) hx hb d_Core_leastLatelyUsed_39 (by decide) (fun h106 => ?_) (fun h106 => ?_)
            · obtain ⟨x107, ex107⟩ : ∃ y : Int32, y = y2 + 1 := ⟨_, rfl⟩
              refine lv_iinc (v := x107) (lv' := [(2, .int x107), (1, .int y1), (0, .ref (ad 10 cx))]) hx hb d_Core_leastLatelyUsed_44 hl (k := 0) rfl (by rw [ex107]; rfl) (by decide) rfl (fun ls hl => ?_)
              refine lv_goto (tgt := 4) hx hb d_Core_leastLatelyUsed_47 (by decide) ?_
              exact ih (i + 1) y1 x107 hlt (by omega) (by rw [ex107, hi3]; exact nI_1 i) hy1 (by rw [hf]; subst ex107; simp only [f_Core_leastLatelyUsed_L4]; rw [if_neg h101, if_neg h102, if_neg h104, if_pos h106]) _ _ _ hP hS (lv_sub hl [0, 1, 2] rfl)
            · refine lv_iload_n hx hb d_Core_leastLatelyUsed_42 rfl (lv_at hl 0 rfl) ?_
              refine lv_istore_n (lv' := [(1, .int y2), (2, .int y2), (0, .ref (ad 10 cx))]) hx hb d_Core_leastLatelyUsed_43 rfl hl (by decide) rfl (fun ls hl => ?_)
              obtain ⟨x108, ex108⟩ : ∃ y : Int32, y = y2 + 1 := ⟨_, rfl⟩
              refine lv_iinc (v := x108) (lv' := [(2, .int x108), (1, .int y2), (0, .ref (ad 10 cx))]) hx hb d_Core_leastLatelyUsed_44 hl (k := 1) rfl (by rw [ex108]; rfl) (by decide) rfl (fun ls hl => ?_)
              refine lv_goto (tgt := 4) hx hb d_Core_leastLatelyUsed_47 (by decide) ?_
              exact ih (i + 1) y2 x108 hlt (by omega) (by rw [ex108, hi3]; exact nI_1 i) hin (by rw [hf]; subst ex108; simp only [f_Core_leastLatelyUsed_L4]; rw [if_neg h101, if_neg h102, if_neg h104, if_neg h106]) _ _ _ hP hS (lv_sub hl [0, 1, 2] rfl)
  refine lv_iconst (v := 0) hx hb d_Core_leastLatelyUsed_0 (by decide) ?_
  refine lv_istore_n (lv' := [(1, .int 0), (0, .ref (ad 10 cx))]) hx hb d_Core_leastLatelyUsed_1 rfl hl (by decide) rfl (fun ls hl => ?_)
  refine lv_iconst (v := 1) hx hb d_Core_leastLatelyUsed_2 (by decide) ?_
  refine lv_istore_n (lv' := [(2, .int 1), (1, .int 0), (0, .ref (ad 10 cx))]) hx hb d_Core_leastLatelyUsed_3 rfl hl (by decide) rfl (fun ls hl => ?_)
  exact loop4 5 1 0 1 (by omega) (by omega) rfl (vp_in_nI (n := 0) (by decide) (by decide)) (by simp only [f_Core_leastLatelyUsed]) _ _ _ hP hS (lv_sub hl [0, 1, 2] rfl)
theorem in_Core_leastLatelyUsed_L {cx : Nat} {v : hd_V} : ∀ (k i : Nat) (y1 y2 : Int32), i ≤ 4 → y2 = nI i → vp_in y1 4 → vp_in (f_Core_leastLatelyUsed_L4 cx k y1 y2 v) 4 := by
  intro k
  induction k with
  | zero =>
    intro i y1 y2 _ _ _
    exact vp_in_nI (n := 0) (by decide) (by decide)
  | succ k ih =>
    intro i y1 y2 hi hy h1
    simp only [f_Core_leastLatelyUsed_L4]
    split
    · exact h1
    · rename_i h
      have hlt : i < 4 := hd_lp hy (show (4 : Int32) = nI 4 from rfl) (by omega) h
      have hin : vp_in y2 4 := hd_lpin hy hlt (by decide)
      have e1 : y2 + 1 = nI (i + 1) := by rw [hy]; exact nI_1 i
      (repeat' split) <;> first | exact ih (i + 1) _ _ hlt e1 h1 | exact ih (i + 1) _ _ hlt e1 hin
theorem in_Core_leastLatelyUsed {cx : Nat} {v : hd_V} : vp_in (f_Core_leastLatelyUsed cx v) 4 := in_Core_leastLatelyUsed_L 5 1 0 1 (by omega) rfl (vp_in_nI (n := 0) (by decide) (by decide))
def f_Core_access (cx : Nat) (op_ : Int32) (block_ : Int32) (v : hd_V) : Int32 × hd_V :=
  if (f_Core_allows cx block_ op_ v) = 0 then
    if (v 13 cx block_.toNatClampNeg) = 0 then
      if (f_Core_linesInUse cx v) < (v 10 cx 1) then
        let v5 := f_Core_request cx op_ block_ v
        (2, v5)
      else
        let v6 := f_Core_replace cx (f_Core_leastLatelyUsed cx v) v
        (3, v6)
    else
      let v3 := f_Core_request cx op_ block_ v
      (2, v3)
  else
    let v7 := f_Core_perform cx op_ block_ v
    (1, v7)
set_option maxHeartbeats 4000000 in
set_option maxRecDepth 100000 in
theorem c_Core_access (l : Launch) {D : va_G} {cI cZ cM cC : ClassId} {n : Nat} {ad : Nat → Nat → Nat} (hJ : hd_J (hx_L n) ad) (cx : Nat) (op_ : Int32) (block_ : Int32) (v : hd_V) (hcx : cx < n) (hbl : vp_in block_ 4) (hnet : hx_net v) : Met l y_Core_access w_Core_access { frames := 3, cells := 0, slots := 0, locals := 74 } (va_Pc [.ref (ad 10 cx), .int op_, .int block_] (hx_B D cI cZ cM cC n ad v)) (va_Qi (fun r u => r = (f_Core_access cx op_ block_ v).1 ∧ u = (f_Core_access cx op_ block_ v).2) (fun u => hx_B D cI cZ cM cC n ad u) (hx_A n ad)) 0 0 (hx_A n ad) := by
  refine Met.ofW (cc := b_Core_access) (maxL := 3) (ret := (some .int)) (by decide) rfl ?_
  intro p e s m args below meth c s₁ B hml hv
  obtain ⟨rfl, hP, hK, hN⟩ := hv
  have hx := B.exec
  have hb := B.bytes
  have hr := B.returns
  have hlk := B.notSynchronized
  have hts0 := atoms_spec (ws := w_Core_access) B.pre
  have hts := fun w (hw : w ∈ lw_g) => hts0 w (List.mem_cons_of_mem _ hw)
  have hown : s.vm.findClass R_Core = some m.cls := findClass_of_methodNamed B.named
  have hA : ∀ q, hx_A n ad q → hx_A n ad q := fun _ h => h
  have hS : va_S (hx_A n ad) s.heap s.heap [] := va_S.rf
  have hl := lv_entry ([.ref (ad 10 cx), .int op_, .int block_]) (n := 3) (Nat.le_of_ble_eq_true rfl)
  rw [lg_entry_eq]
  generalize (lg_sl ([.ref (ad 10 cx), .int op_, .int block_]) ++ List.replicate (3 - (lg_sl ([.ref (ad 10 cx), .int op_, .int block_])).length) Slot.unset).toArray = ls at hl ⊢
  have hl : lv_has ls 3 [(0, .ref (ad 10 cx)), (1, .int op_), (2, .int block_)] := hl
  refine lv_aload_n hx hb d_Core_access_0 rfl (lv_at hl 0 rfl) ?_
  refine lv_iload_n hx hb d_Core_access_1 rfl (lv_at hl 2 rfl) ?_
  refine lv_iload_n hx hb d_Core_access_2 rfl (lv_at hl 1 rfl) ?_
  refine hd_cI hK (va_runV (As := [.int block_, .int op_]) (rest := []) ⟨hx, hb, hml, hown, hts⟩ (c_Core_allows l hJ cx block_ op_ v hcx hbl) (cwV 2 hts (hd_gV g_Core_allows k_221 k_223 s_2 k_7) rfl rfl rfl (by decide +kernel) ⟨Nat.le_of_ble_eq_true rfl, Nat.le_of_ble_eq_true rfl⟩) (hd_preV hK hN hP 10 cx hcx rfl rfl [.int block_, .int op_]) rfl rfl hl.1 rfl (lv_room (Nat.le_of_ble_eq_true rfl)) d_Core_access_3 ⟨Nat.zero_le _, Nat.zero_le _⟩) hS hA (fun H locs hP hS => ?_)
  refine lv_if_eq (tgt := 17) hx hb d_Core_access_6 (by decide) (fun h1 => ?_) (fun h1 => ?_)
  · refine lv_aload_n hx hb d_Core_access_17 rfl (lv_at hl 0 rfl) ?_
    refine hd_get (C := R_Core) (T := F_Core) (N := 14) hx hb hts i_Core hown hK hP 10 cx hcx rfl rfl 9 (by decide) (hts _ k_134) (fun _ h9 => h9) rfl d_Core_access_18 ?_
    refine lv_iload_n hx hb d_Core_access_21 rfl (lv_at hl 2 rfl) ?_
    refine hd_iald hx hb hK hP 13 cx 0 hcx rfl rfl hbl d_Core_access_22 ?_
    refine lv_if_ne (tgt := 47) hx hb d_Core_access_23 (by decide) (fun h2 => ?_) (fun h2 => ?_)
    · refine lv_aload_n hx hb d_Core_access_47 rfl (lv_at hl 0 rfl) ?_
      refine lv_iload_n hx hb d_Core_access_48 rfl (lv_at hl 1 rfl) ?_
      refine lv_iload_n hx hb d_Core_access_49 rfl (lv_at hl 2 rfl) ?_
      refine hd_cV hK (va_runV (As := [.int op_, .int block_]) (rest := []) ⟨hx, hb, hml, hown, hts⟩ (c_Core_request l hJ cx op_ block_ v hcx hbl hnet) (cwV 2 hts (hd_gV g_Core_request k_253 k_255 s_8 k_7) rfl rfl rfl (by decide +kernel) ⟨Nat.le_of_ble_eq_true rfl, Nat.le_of_ble_eq_true rfl⟩) (hd_preV hK hN hP 10 cx hcx rfl rfl [.int op_, .int block_]) rfl rfl hl.1 rfl (lv_room (Nat.le_of_ble_eq_true rfl)) d_Core_access_50 ⟨Nat.zero_le _, Nat.zero_le _⟩) hS hA (fun H locs hP hS => ?_)
      refine lv_iconst (v := 2) hx hb d_Core_access_53 (by decide) ?_
      exact hd_iret hx hb hr hlk hK hN hP hS d_Core_access_54 ⟨by simp only [f_Core_access]; rw [if_pos h1, if_neg h2], by simp only [f_Core_access]; rw [if_pos h1, if_neg h2]⟩
    · refine lv_aload_n hx hb d_Core_access_26 rfl (lv_at hl 0 rfl) ?_
      refine hd_cI hK (va_runV (As := []) (rest := []) ⟨hx, hb, hml, hown, hts⟩ (c_Core_linesInUse l hJ cx v hcx) (cwV 0 hts (hd_gV g_Core_linesInUse k_229 k_231 s_4 k_7) rfl rfl rfl (by decide +kernel) ⟨Nat.le_of_ble_eq_true rfl, Nat.le_of_ble_eq_true rfl⟩) (hd_preV hK hN hP 10 cx hcx rfl rfl []) rfl rfl hl.1 rfl (lv_room (Nat.le_of_ble_eq_true rfl)) d_Core_access_27 ⟨Nat.zero_le _, Nat.zero_le _⟩) hS hA (fun H locs hP hS => ?_)
      refine lv_aload_n hx hb d_Core_access_30 rfl (lv_at hl 0 rfl) ?_
      refine hd_get (C := R_Core) (T := F_Core) (N := 14) hx hb hts i_Core hown hK hP 10 cx hcx rfl rfl 1 (by decide) (hts _ k_123) (fun _ h9 => h9) rfl d_Core_access_31 ?_
      refine lv_icmp_lt (tgt := 47) hx hb d_Core_access_34 (by decide) (fun h4 => ?_) (fun h4 => ?_)
      · refine lv_aload_n hx hb d_Core_access_47 rfl (lv_at hl 0 rfl) ?_
        refine lv_iload_n hx hb d_Core_access_48 rfl (lv_at hl 1 rfl) ?_
        refine lv_iload_n hx hb d_Core_access_49 rfl (lv_at hl 2 rfl) ?_
        refine hd_cV hK (va_runV (As := [.int op_, .int block_]) (rest := []) ⟨hx, hb, hml, hown, hts⟩ (c_Core_request l hJ cx op_ block_ v hcx hbl hnet) (cwV 2 hts (hd_gV g_Core_request k_253 k_255 s_8 k_7) rfl rfl rfl (by decide +kernel) ⟨Nat.le_of_ble_eq_true rfl, Nat.le_of_ble_eq_true rfl⟩) (hd_preV hK hN hP 10 cx hcx rfl rfl [.int op_, .int block_]) rfl rfl hl.1 rfl (lv_room (Nat.le_of_ble_eq_true rfl)) d_Core_access_50 ⟨Nat.zero_le _, Nat.zero_le _⟩) hS hA (fun H locs hP hS => ?_)
        refine lv_iconst (v := 2) hx hb d_Core_access_53 (by decide) ?_
        exact hd_iret hx hb hr hlk hK hN hP hS d_Core_access_54 ⟨by simp only [f_Core_access]; rw [if_pos h1, if_pos h2, if_pos h4], by simp only [f_Core_access]; rw [if_pos h1, if_pos h2, if_pos h4]⟩
      · refine lv_aload_n hx hb d_Core_access_37 rfl (lv_at hl 0 rfl) ?_
        refine lv_aload_n hx hb d_Core_access_38 rfl (lv_at hl 0 rfl) ?_
        refine hd_cI hK (va_runV (As := []) (rest := [.ref (ad 10 cx)]) ⟨hx, hb, hml, hown, hts⟩ (c_Core_leastLatelyUsed l hJ cx v hcx) (cwV 0 hts (hd_gV g_Core_leastLatelyUsed k_233 k_235 s_5 k_7) rfl rfl rfl (by decide +kernel) ⟨Nat.le_of_ble_eq_true rfl, Nat.le_of_ble_eq_true rfl⟩) (hd_preV hK hN hP 10 cx hcx rfl rfl []) rfl rfl hl.1 rfl (lv_room (Nat.le_of_ble_eq_true rfl)) d_Core_access_39 ⟨Nat.zero_le _, Nat.zero_le _⟩) hS hA (fun H locs hP hS => ?_)
        refine hd_cV hK (va_runV (As := [.int (f_Core_leastLatelyUsed cx v)]) (rest := []) ⟨hx, hb, hml, hown, hts⟩ (c_Core_replace l hJ cx (f_Core_leastLatelyUsed cx v) v hcx in_Core_leastLatelyUsed hnet) (cwV 1 hts (hd_gV g_Core_replace k_237 k_239 s_6 k_7) rfl rfl rfl (by decide +kernel) ⟨Nat.le_of_ble_eq_true rfl, Nat.le_of_ble_eq_true rfl⟩) (hd_preV hK hN hP 10 cx hcx rfl rfl [.int (f_Core_leastLatelyUsed cx v)]) rfl rfl hl.1 rfl (lv_room (Nat.le_of_ble_eq_true rfl)) d_Core_access_42 ⟨Nat.zero_le _, Nat.zero_le _⟩) hS hA (fun H locs hP hS => ?_)
        refine lv_iconst (v := 3) hx hb d_Core_access_45 (by decide) ?_
        exact hd_iret hx hb hr hlk hK hN hP hS d_Core_access_46 ⟨by simp only [f_Core_access]; rw [if_pos h1, if_pos h2, if_neg h4], by simp only [f_Core_access]; rw [if_pos h1, if_pos h2, if_neg h4]⟩
  · refine lv_aload_n hx hb d_Core_access_9 rfl (lv_at hl 0 rfl) ?_
    refine lv_iload_n hx hb d_Core_access_10 rfl (lv_at hl 1 rfl) ?_
    refine lv_iload_n hx hb d_Core_access_11 rfl (lv_at hl 2 rfl) ?_
    refine hd_cV hK (va_runV (As := [.int op_, .int block_]) (rest := []) ⟨hx, hb, hml, hown, hts⟩ (c_Core_perform l hJ cx op_ block_ v hcx hbl) (cwV 2 hts (hd_gV g_Core_perform k_225 k_227 s_3 k_7) rfl rfl rfl (by decide +kernel) ⟨Nat.le_of_ble_eq_true rfl, Nat.le_of_ble_eq_true rfl⟩) (hd_preV hK hN hP 10 cx hcx rfl rfl [.int op_, .int block_]) rfl rfl hl.1 rfl (lv_room (Nat.le_of_ble_eq_true rfl)) d_Core_access_12 ⟨Nat.zero_le _, Nat.zero_le _⟩) hS hA (fun H locs hP hS => ?_)
    refine lv_iconst (v := 1) hx hb d_Core_access_15 (by decide) ?_
    exact hd_iret hx hb hr hlk hK hN hP hS d_Core_access_16 ⟨by simp only [f_Core_access]; rw [if_neg h1], by simp only [f_Core_access]; rw [if_neg h1]⟩
def f_Core_advance (cx : Nat) (v : hd_V) : Int32 × hd_V :=
  if (v 10 cx 8) = 0 then
    if (v 10 cx 7) < (v 10 cx 5) then
      if (f_Core_isAccess (v 11 cx (v 10 cx 7).toNatClampNeg)) = 0 then
        let v4 := f_Core_compute cx (v 11 cx (v 10 cx 7).toNatClampNeg) (v 12 cx (v 10 cx 7).toNatClampNeg) v
        (1, v4)
      else
        let v5 := f_Core_access cx (v 11 cx (v 10 cx 7).toNatClampNeg) (v 12 cx (v 10 cx 7).toNatClampNeg) v
        let v6 := v5.2
        (v5.1, v6)
    else
      (4, v)
  else
    (0, v)
set_option maxHeartbeats 4000000 in
set_option maxRecDepth 100000 in
theorem c_Core_advance (l : Launch) {D : va_G} {cI cZ cM cC : ClassId} {n : Nat} {ad : Nat → Nat → Nat} (hJ : hd_J (hx_L n) ad) (cx : Nat) (v : hd_V) (hcx : cx < n) (hprog : hx_prog cx v) (hxs : ¬ f_Core_isAccess (v 11 cx (v 10 cx 7).toNatClampNeg) = 0 → vp_in (v 12 cx (v 10 cx 7).toNatClampNeg) 4) (hnet : hx_net v) : Met l y_Core_advance w_Core_advance { frames := 4, cells := 0, slots := 0, locals := 96 } (va_Pc [.ref (ad 10 cx)] (hx_B D cI cZ cM cC n ad v)) (va_Qi (fun r u => r = (f_Core_advance cx v).1 ∧ u = (f_Core_advance cx v).2) (fun u => hx_B D cI cZ cM cC n ad u) (hx_A n ad)) 0 0 (hx_A n ad) := by
  refine Met.ofW (cc := b_Core_advance) (maxL := 1) (ret := (some .int)) (by decide) rfl ?_
  intro p e s m args below meth c s₁ B hml hv
  obtain ⟨rfl, hP, hK, hN⟩ := hv
  have hx := B.exec
  have hb := B.bytes
  have hr := B.returns
  have hlk := B.notSynchronized
  have hts0 := atoms_spec (ws := w_Core_advance) B.pre
  have hts := fun w (hw : w ∈ lw_g) => hts0 w (List.mem_cons_of_mem _ hw)
  have hown : s.vm.findClass R_Core = some m.cls := findClass_of_methodNamed B.named
  have hA : ∀ q, hx_A n ad q → hx_A n ad q := fun _ h => h
  have hS : va_S (hx_A n ad) s.heap s.heap [] := va_S.rf
  have hl := lv_entry ([.ref (ad 10 cx)]) (n := 1) (Nat.le_of_ble_eq_true rfl)
  rw [lg_entry_eq]
  generalize (lg_sl ([.ref (ad 10 cx)]) ++ List.replicate (1 - (lg_sl ([.ref (ad 10 cx)])).length) Slot.unset).toArray = ls at hl ⊢
  have hl : lv_has ls 1 [(0, .ref (ad 10 cx))] := hl
  refine lv_aload_n hx hb d_Core_advance_0 rfl (lv_at hl 0 rfl) ?_
  refine hd_get (C := R_Core) (T := F_Core) (N := 14) hx hb hts i_Core hown hK hP 10 cx hcx rfl rfl 8 (by decide) (hts _ k_132) (fun _ h9 => h9) rfl d_Core_advance_1 ?_
  refine lv_if_eq (tgt := 9) hx hb d_Core_advance_4 (by decide) (fun h1 => ?_) (fun h1 => ?_)
  · refine lv_aload_n hx hb d_Core_advance_9 rfl (lv_at hl 0 rfl) ?_
    refine hd_get (C := R_Core) (T := F_Core) (N := 14) hx hb hts i_Core hown hK hP 10 cx hcx rfl rfl 7 (by decide) (hts _ k_130) (fun _ h9 => h9) rfl d_Core_advance_10 ?_
    refine lv_aload_n hx hb d_Core_advance_13 rfl (lv_at hl 0 rfl) ?_
    refine hd_get (C := R_Core) (T := F_Core) (N := 14) hx hb hts i_Core hown hK hP 10 cx hcx rfl rfl 5 (by decide) (hts _ k_127) (fun _ h9 => h9) rfl d_Core_advance_14 ?_
    refine lv_icmp_lt (tgt := 22) hx hb d_Core_advance_17 (by decide) (fun h2 => ?_) (fun h2 => ?_)
    · have hin : vp_in (v 10 cx 7) 16 := hd_in5 hprog.1 h2 hprog.2
      refine lv_aload_n hx hb d_Core_advance_22 rfl (lv_at hl 0 rfl) ?_
      refine hd_get (C := R_Core) (T := F_Core) (N := 14) hx hb hts i_Core hown hK hP 10 cx hcx rfl rfl 3 (by decide) (hts _ k_125) (fun _ h9 => h9) rfl d_Core_advance_23 ?_
      refine lv_aload_n hx hb d_Core_advance_26 rfl (lv_at hl 0 rfl) ?_
      refine hd_get (C := R_Core) (T := F_Core) (N := 14) hx hb hts i_Core hown hK hP 10 cx hcx rfl rfl 7 (by decide) (hts _ k_130) (fun _ h9 => h9) rfl d_Core_advance_27 ?_
      refine hd_iald hx hb hK hP 11 cx 0 hcx rfl rfl hin d_Core_advance_30 ?_
      refine hd_cI hK (va_runS (As := [.int (v 11 cx (v 10 cx 7).toNatClampNeg)]) (rest := []) ⟨hx, hb, hml, hown, hts⟩ (c_Core_isAccess l hJ (v 11 cx (v 10 cx 7).toNatClampNeg) v ) (va_cwS 1 hts (hd_gS g_Core_isAccess k_195 k_196 k_7) rfl rfl rfl (by decide +kernel) ⟨Nat.le_of_ble_eq_true rfl, Nat.le_of_ble_eq_true rfl⟩) (hd_preS hK hN hP [.int (v 11 cx (v 10 cx 7).toNatClampNeg)]) rfl rfl hl.1 rfl (lv_room (Nat.le_of_ble_eq_true rfl)) d_Core_advance_31 ⟨Nat.zero_le _, Nat.zero_le _⟩) hS hA (fun H locs hP hS => ?_)
      refine lv_if_eq (tgt := 60) hx hb d_Core_advance_34 (by decide) (fun h3 => ?_) (fun h3 => ?_)
      · refine lv_aload_n hx hb d_Core_advance_60 rfl (lv_at hl 0 rfl) ?_
        refine lv_aload_n hx hb d_Core_advance_61 rfl (lv_at hl 0 rfl) ?_
        refine hd_get (C := R_Core) (T := F_Core) (N := 14) hx hb hts i_Core hown hK hP 10 cx hcx rfl rfl 3 (by decide) (hts _ k_125) (fun _ h9 => h9) rfl d_Core_advance_62 ?_
        refine lv_aload_n hx hb d_Core_advance_65 rfl (lv_at hl 0 rfl) ?_
        refine hd_get (C := R_Core) (T := F_Core) (N := 14) hx hb hts i_Core hown hK hP 10 cx hcx rfl rfl 7 (by decide) (hts _ k_130) (fun _ h9 => h9) rfl d_Core_advance_66 ?_
        refine hd_iald hx hb hK hP 11 cx 0 hcx rfl rfl hin d_Core_advance_69 ?_
        refine lv_aload_n hx hb d_Core_advance_70 rfl (lv_at hl 0 rfl) ?_
        refine hd_get (C := R_Core) (T := F_Core) (N := 14) hx hb hts i_Core hown hK hP 10 cx hcx rfl rfl 4 (by decide) (hts _ k_126) (fun _ h9 => h9) rfl d_Core_advance_71 ?_
        refine lv_aload_n hx hb d_Core_advance_74 rfl (lv_at hl 0 rfl) ?_
        refine hd_get (C := R_Core) (T := F_Core) (N := 14) hx hb hts i_Core hown hK hP 10 cx hcx rfl rfl 7 (by decide) (hts _ k_130) (fun _ h9 => h9) rfl d_Core_advance_75 ?_
        refine hd_iald hx hb hK hP 12 cx 0 hcx rfl rfl hin d_Core_advance_78 ?_
        refine hd_cV hK (va_runV (As := [.int (v 11 cx (v 10 cx 7).toNatClampNeg), .int (v 12 cx (v 10 cx 7).toNatClampNeg)]) (rest := []) ⟨hx, hb, hml, hown, hts⟩ (c_Core_compute l hJ cx (v 11 cx (v 10 cx 7).toNatClampNeg) (v 12 cx (v 10 cx 7).toNatClampNeg) v hcx) (cwV 2 hts (hd_gV g_Core_compute k_257 k_259 s_9 k_7) rfl rfl rfl (by decide +kernel) ⟨Nat.le_of_ble_eq_true rfl, Nat.le_of_ble_eq_true rfl⟩) (hd_preV hK hN hP 10 cx hcx rfl rfl [.int (v 11 cx (v 10 cx 7).toNatClampNeg), .int (v 12 cx (v 10 cx 7).toNatClampNeg)]) rfl rfl hl.1 rfl (lv_room (Nat.le_of_ble_eq_true rfl)) d_Core_advance_79 ⟨Nat.zero_le _, Nat.zero_le _⟩) hS hA (fun H locs hP hS => ?_)
        refine lv_iconst (v := 1) hx hb d_Core_advance_82 (by decide) ?_
        exact hd_iret hx hb hr hlk hK hN hP hS d_Core_advance_83 ⟨by simp only [f_Core_advance]; rw [if_pos h1, if_pos h2, if_pos h3], by simp only [f_Core_advance]; rw [if_pos h1, if_pos h2, if_pos h3]⟩
      · refine lv_aload_n hx hb d_Core_advance_37 rfl (lv_at hl 0 rfl) ?_
        refine lv_aload_n hx hb d_Core_advance_38 rfl (lv_at hl 0 rfl) ?_
        refine hd_get (C := R_Core) (T := F_Core) (N := 14) hx hb hts i_Core hown hK hP 10 cx hcx rfl rfl 3 (by decide) (hts _ k_125) (fun _ h9 => h9) rfl d_Core_advance_39 ?_
        refine lv_aload_n hx hb d_Core_advance_42 rfl (lv_at hl 0 rfl) ?_
        refine hd_get (C := R_Core) (T := F_Core) (N := 14) hx hb hts i_Core hown hK hP 10 cx hcx rfl rfl 7 (by decide) (hts _ k_130) (fun _ h9 => h9) rfl d_Core_advance_43 ?_
        refine hd_iald hx hb hK hP 11 cx 0 hcx rfl rfl hin d_Core_advance_46 ?_
        refine lv_aload_n hx hb d_Core_advance_47 rfl (lv_at hl 0 rfl) ?_
        refine hd_get (C := R_Core) (T := F_Core) (N := 14) hx hb hts i_Core hown hK hP 10 cx hcx rfl rfl 4 (by decide) (hts _ k_126) (fun _ h9 => h9) rfl d_Core_advance_48 ?_
        refine lv_aload_n hx hb d_Core_advance_51 rfl (lv_at hl 0 rfl) ?_
        refine hd_get (C := R_Core) (T := F_Core) (N := 14) hx hb hts i_Core hown hK hP 10 cx hcx rfl rfl 7 (by decide) (hts _ k_130) (fun _ h9 => h9) rfl d_Core_advance_52 ?_
        refine hd_iald hx hb hK hP 12 cx 0 hcx rfl rfl hin d_Core_advance_55 ?_
        refine hd_cIV hK (va_runV (As := [.int (v 11 cx (v 10 cx 7).toNatClampNeg), .int (v 12 cx (v 10 cx 7).toNatClampNeg)]) (rest := []) ⟨hx, hb, hml, hown, hts⟩ (c_Core_access l hJ cx (v 11 cx (v 10 cx 7).toNatClampNeg) (v 12 cx (v 10 cx 7).toNatClampNeg) v hcx (hxs h3) hnet) (cwV 2 hts (hd_gV g_Core_access k_217 k_219 s_1 k_7) rfl rfl rfl (by decide +kernel) ⟨Nat.le_of_ble_eq_true rfl, Nat.le_of_ble_eq_true rfl⟩) (hd_preV hK hN hP 10 cx hcx rfl rfl [.int (v 11 cx (v 10 cx 7).toNatClampNeg), .int (v 12 cx (v 10 cx 7).toNatClampNeg)]) rfl rfl hl.1 rfl (lv_room (Nat.le_of_ble_eq_true rfl)) d_Core_advance_56 ⟨Nat.zero_le _, Nat.zero_le _⟩) hS hA (fun H locs hP hS => ?_)
        exact hd_iret hx hb hr hlk hK hN hP hS d_Core_advance_59 ⟨by simp only [f_Core_advance]; rw [if_pos h1, if_pos h2, if_neg h3], by simp only [f_Core_advance]; rw [if_pos h1, if_pos h2, if_neg h3]⟩
    · refine lv_iconst (v := 4) hx hb d_Core_advance_20 (by decide) ?_
      exact hd_iret hx hb hr hlk hK hN hP hS d_Core_advance_21 ⟨by simp only [f_Core_advance]; rw [if_pos h1, if_neg h2], by simp only [f_Core_advance]; rw [if_pos h1, if_neg h2]⟩
  · refine lv_iconst (v := 0) hx hb d_Core_advance_7 (by decide) ?_
    exact hd_iret hx hb hr hlk hK hN hP hS d_Core_advance_8 ⟨by simp only [f_Core_advance]; rw [if_neg h1], by simp only [f_Core_advance]; rw [if_neg h1]⟩
def f_Core_performIfAllowed (cx : Nat) (block_ : Int32) (v : hd_V) : hd_V :=
  if (v 10 cx 8) = 32 then
    if (v 10 cx 5) ≤ (v 10 cx 7) then
      v
    else
      if (v 12 cx (v 10 cx 7).toNatClampNeg) = block_ then
        if (f_Core_allows cx block_ (v 11 cx (v 10 cx 7).toNatClampNeg) v) = 0 then
          v
        else
          let v9 := f_Core_perform cx (v 11 cx (v 10 cx 7).toNatClampNeg) block_ v
          let v10 := hd_u v9 10 cx 8 0
          v10
      else
        v
  else
    v
set_option maxHeartbeats 4000000 in
set_option maxRecDepth 100000 in
theorem c_Core_performIfAllowed (l : Launch) {D : va_G} {cI cZ cM cC : ClassId} {n : Nat} {ad : Nat → Nat → Nat} (hJ : hd_J (hx_L n) ad) (cx : Nat) (block_ : Int32) (v : hd_V) (hcx : cx < n) (hbl : vp_in block_ 4) (hprog : hx_prog cx v) : Met l y_Core_performIfAllowed w_Core_performIfAllowed { frames := 1, cells := 0, slots := 0, locals := 23 } (va_Pc [.ref (ad 10 cx), .int block_] (hx_B D cI cZ cM cC n ad v)) (va_Qv (fun u => u = f_Core_performIfAllowed cx block_ v) (fun u => hx_B D cI cZ cM cC n ad u) (hx_A n ad)) 0 0 (hx_A n ad) := by
  refine Met.ofW (cc := b_Core_performIfAllowed) (maxL := 3) (ret := none) (by decide) rfl ?_
  intro p e s m args below meth c s₁ B hml hv
  obtain ⟨rfl, hP, hK, hN⟩ := hv
  have hx := B.exec
  have hb := B.bytes
  have hr := B.returns
  have hlk := B.notSynchronized
  have hts0 := atoms_spec (ws := w_Core_performIfAllowed) B.pre
  have hts := fun w (hw : w ∈ lw_g) => hts0 w (List.mem_cons_of_mem _ hw)
  have hown : s.vm.findClass R_Core = some m.cls := findClass_of_methodNamed B.named
  have hA : ∀ q, hx_A n ad q → hx_A n ad q := fun _ h => h
  have hS : va_S (hx_A n ad) s.heap s.heap [] := va_S.rf
  have hl := lv_entry ([.ref (ad 10 cx), .int block_]) (n := 3) (Nat.le_of_ble_eq_true rfl)
  rw [lg_entry_eq]
  generalize (lg_sl ([.ref (ad 10 cx), .int block_]) ++ List.replicate (3 - (lg_sl ([.ref (ad 10 cx), .int block_])).length) Slot.unset).toArray = ls at hl ⊢
  have hl : lv_has ls 3 [(0, .ref (ad 10 cx)), (1, .int block_)] := hl
  refine lv_aload_n hx hb d_Core_performIfAllowed_0 rfl (lv_at hl 0 rfl) ?_
  refine hd_get (C := R_Core) (T := F_Core) (N := 14) hx hb hts i_Core hown hK hP 10 cx hcx rfl rfl 8 (by decide) (hts _ k_132) (fun _ h9 => h9) rfl d_Core_performIfAllowed_1 ?_
  refine lv_bipush (v := 32) hx hb d_Core_performIfAllowed_4 (by decide) ?_
  refine lv_icmp_ne (tgt := 37) hx hb d_Core_performIfAllowed_6 (by decide) (fun h1 => ?_) (fun h1 => ?_)
  · refine lv_iconst (v := 0) hx hb d_Core_performIfAllowed_37 (by decide) ?_
    refine lv_istore_n (lv' := [(2, .int 0), (0, .ref (ad 10 cx)), (1, .int block_)]) hx hb d_Core_performIfAllowed_38 rfl hl (by decide) rfl (fun ls hl => ?_)
    refine lv_iload_n hx hb d_Core_performIfAllowed_39 rfl (lv_at hl 0 rfl) ?_
    refine lv_if_eq (tgt := 79) hx hb d_Core_performIfAllowed_40 (by decide) (fun h2 => ?_) (fun h2 => absurd (by decide) h2)
    exact hd_vret hx hb hr hlk hK hN hP hS d_Core_performIfAllowed_79 (by simp only [f_Core_performIfAllowed]; rw [if_neg h1])
  · refine lv_aload_n hx hb d_Core_performIfAllowed_9 rfl (lv_at hl 0 rfl) ?_
    refine hd_get (C := R_Core) (T := F_Core) (N := 14) hx hb hts i_Core hown hK hP 10 cx hcx rfl rfl 7 (by decide) (hts _ k_130) (fun _ h9 => h9) rfl d_Core_performIfAllowed_10 ?_
    refine lv_aload_n hx hb d_Core_performIfAllowed_13 rfl (lv_at hl 0 rfl) ?_
    refine hd_get (C := R_Core) (T := F_Core) (N := 14) hx hb hts i_Core hown hK hP 10 cx hcx rfl rfl 5 (by decide) (hts _ k_127) (fun _ h9 => h9) rfl d_Core_performIfAllowed_14 ?_
    refine lv_icmp_ge (tgt := 37) hx hb d_Core_performIfAllowed_17 (by decide) (fun h3 => ?_) (fun h3 => ?_)
    · refine lv_iconst (v := 0) hx hb d_Core_performIfAllowed_37 (by decide) ?_
      refine lv_istore_n (lv' := [(2, .int 0), (0, .ref (ad 10 cx)), (1, .int block_)]) hx hb d_Core_performIfAllowed_38 rfl hl (by decide) rfl (fun ls hl => ?_)
      refine lv_iload_n hx hb d_Core_performIfAllowed_39 rfl (lv_at hl 0 rfl) ?_
      refine lv_if_eq (tgt := 79) hx hb d_Core_performIfAllowed_40 (by decide) (fun h4 => ?_) (fun h4 => absurd (by decide) h4)
      exact hd_vret hx hb hr hlk hK hN hP hS d_Core_performIfAllowed_79 (by simp only [f_Core_performIfAllowed]; rw [if_pos h1, if_pos h3])
    · have hin : vp_in (v 10 cx 7) 16 := hd_in3 hprog.1 h3 hprog.2
      refine lv_aload_n hx hb d_Core_performIfAllowed_20 rfl (lv_at hl 0 rfl) ?_
      refine hd_get (C := R_Core) (T := F_Core) (N := 14) hx hb hts i_Core hown hK hP 10 cx hcx rfl rfl 4 (by decide) (hts _ k_126) (fun _ h9 => h9) rfl d_Core_performIfAllowed_21 ?_
      refine lv_aload_n hx hb d_Core_performIfAllowed_24 rfl (lv_at hl 0 rfl) ?_
      refine hd_get (C := R_Core) (T := F_Core) (N := 14) hx hb hts i_Core hown hK hP 10 cx hcx rfl rfl 7 (by decide) (hts _ k_130) (fun _ h9 => h9) rfl d_Core_performIfAllowed_25 ?_
      refine hd_iald hx hb hK hP 12 cx 0 hcx rfl rfl hin d_Core_performIfAllowed_28 ?_
      refine lv_iload_n hx hb d_Core_performIfAllowed_29 rfl (lv_at hl 1 rfl) ?_
      refine lv_icmp_ne (tgt := 37) hx hb d_Core_performIfAllowed_30 (by decide) (fun h5 => ?_) (fun h5 => ?_)
      · refine lv_iconst (v := 0) hx hb d_Core_performIfAllowed_37 (by decide) ?_
        refine lv_istore_n (lv' := [(2, .int 0), (0, .ref (ad 10 cx)), (1, .int block_)]) hx hb d_Core_performIfAllowed_38 rfl hl (by decide) rfl (fun ls hl => ?_)
        refine lv_iload_n hx hb d_Core_performIfAllowed_39 rfl (lv_at hl 0 rfl) ?_
        refine lv_if_eq (tgt := 79) hx hb d_Core_performIfAllowed_40 (by decide) (fun h6 => ?_) (fun h6 => absurd (by decide) h6)
        exact hd_vret hx hb hr hlk hK hN hP hS d_Core_performIfAllowed_79 (by simp only [f_Core_performIfAllowed]; rw [if_pos h1, if_neg h3, if_neg h5])
      · refine lv_iconst (v := 1) hx hb d_Core_performIfAllowed_33 (by decide) ?_
        refine lv_goto (tgt := 38) hx hb d_Core_performIfAllowed_34 (by decide) ?_
        refine lv_istore_n (lv' := [(2, .int 1), (0, .ref (ad 10 cx)), (1, .int block_)]) hx hb d_Core_performIfAllowed_38 rfl hl (by decide) rfl (fun ls hl => ?_)
        refine lv_iload_n hx hb d_Core_performIfAllowed_39 rfl (lv_at hl 0 rfl) ?_
        refine lv_if_eq (tgt := 79) hx hb d_Core_performIfAllowed_40 (by decide) (fun h7 => absurd h7 (by decide)) (fun h7 => ?_)
        refine lv_aload_n hx hb d_Core_performIfAllowed_43 rfl (lv_at hl 1 rfl) ?_
        refine lv_iload_n hx hb d_Core_performIfAllowed_44 rfl (lv_at hl 2 rfl) ?_
        refine lv_aload_n hx hb d_Core_performIfAllowed_45 rfl (lv_at hl 1 rfl) ?_
        refine hd_get (C := R_Core) (T := F_Core) (N := 14) hx hb hts i_Core hown hK hP 10 cx hcx rfl rfl 3 (by decide) (hts _ k_125) (fun _ h9 => h9) rfl d_Core_performIfAllowed_46 ?_
        refine lv_aload_n hx hb d_Core_performIfAllowed_49 rfl (lv_at hl 1 rfl) ?_
        refine hd_get (C := R_Core) (T := F_Core) (N := 14) hx hb hts i_Core hown hK hP 10 cx hcx rfl rfl 7 (by decide) (hts _ k_130) (fun _ h9 => h9) rfl d_Core_performIfAllowed_50 ?_
        refine hd_iald hx hb hK hP 11 cx 0 hcx rfl rfl hin d_Core_performIfAllowed_53 ?_
        refine hd_cI hK (va_runV (As := [.int block_, .int (v 11 cx (v 10 cx 7).toNatClampNeg)]) (rest := []) ⟨hx, hb, hml, hown, hts⟩ (c_Core_allows l hJ cx block_ (v 11 cx (v 10 cx 7).toNatClampNeg) v hcx hbl) (cwV 2 hts (hd_gV g_Core_allows k_221 k_223 s_2 k_7) rfl rfl rfl (by decide +kernel) ⟨Nat.le_of_ble_eq_true rfl, Nat.le_of_ble_eq_true rfl⟩) (hd_preV hK hN hP 10 cx hcx rfl rfl [.int block_, .int (v 11 cx (v 10 cx 7).toNatClampNeg)]) rfl rfl hl.1 rfl (lv_room (Nat.le_of_ble_eq_true rfl)) d_Core_performIfAllowed_54 ⟨Nat.zero_le _, Nat.zero_le _⟩) hS hA (fun H locs hP hS => ?_)
        refine lv_if_eq (tgt := 79) hx hb d_Core_performIfAllowed_57 (by decide) (fun h8 => ?_) (fun h8 => ?_)
        · exact hd_vret hx hb hr hlk hK hN hP hS d_Core_performIfAllowed_79 (by simp only [f_Core_performIfAllowed]; rw [if_pos h1, if_neg h3, if_pos h5, if_pos h8])
        · refine lv_aload_n hx hb d_Core_performIfAllowed_60 rfl (lv_at hl 1 rfl) ?_
          refine lv_aload_n hx hb d_Core_performIfAllowed_61 rfl (lv_at hl 1 rfl) ?_
          refine hd_get (C := R_Core) (T := F_Core) (N := 14) hx hb hts i_Core hown hK hP 10 cx hcx rfl rfl 3 (by decide) (hts _ k_125) (fun _ h9 => h9) rfl d_Core_performIfAllowed_62 ?_
          refine lv_aload_n hx hb d_Core_performIfAllowed_65 rfl (lv_at hl 1 rfl) ?_
          refine hd_get (C := R_Core) (T := F_Core) (N := 14) hx hb hts i_Core hown hK hP 10 cx hcx rfl rfl 7 (by decide) (hts _ k_130) (fun _ h9 => h9) rfl d_Core_performIfAllowed_66 ?_
          refine hd_iald hx hb hK hP 11 cx 0 hcx rfl rfl hin d_Core_performIfAllowed_69 ?_
          refine lv_iload_n hx hb d_Core_performIfAllowed_70 rfl (lv_at hl 2 rfl) ?_
          refine hd_cV hK (va_runV (As := [.int (v 11 cx (v 10 cx 7).toNatClampNeg), .int block_]) (rest := []) ⟨hx, hb, hml, hown, hts⟩ (c_Core_perform l hJ cx (v 11 cx (v 10 cx 7).toNatClampNeg) block_ v hcx hbl) (cwV 2 hts (hd_gV g_Core_perform k_225 k_227 s_3 k_7) rfl rfl rfl (by decide +kernel) ⟨Nat.le_of_ble_eq_true rfl, Nat.le_of_ble_eq_true rfl⟩) (hd_preV hK hN hP 10 cx hcx rfl rfl [.int (v 11 cx (v 10 cx 7).toNatClampNeg), .int block_]) rfl rfl hl.1 rfl (lv_room (Nat.le_of_ble_eq_true rfl)) d_Core_performIfAllowed_71 ⟨Nat.zero_le _, Nat.zero_le _⟩) hS hA (fun H locs hP hS => ?_)
          refine lv_aload_n hx hb d_Core_performIfAllowed_74 rfl (lv_at hl 1 rfl) ?_
          refine lv_iconst (v := 0) hx hb d_Core_performIfAllowed_75 (by decide) ?_
          refine hd_put (ty := .int) (C := R_Core) (T := F_Core) (N := 14) hx hb hts i_Core t_Core t_Core_ok n_Core hown hK hP hJ hA hS 10 cx hcx rfl rfl 8 (by decide) (hts _ k_132) (fun _ h9 => h9) rfl (by decide +kernel) rfl rfl (Nat.le_of_ble_eq_true rfl) rfl d_Core_performIfAllowed_76 (fun H locs hP hS => ?_)
          exact hd_vret hx hb hr hlk hK hN hP hS d_Core_performIfAllowed_79 (by simp only [f_Core_performIfAllowed]; rw [if_pos h1, if_neg h3, if_pos h5, if_neg h8])
