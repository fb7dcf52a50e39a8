def f_Core_append (cx : Nat) (op_ : Int32) (x_ : Int32) (v : hd_V) : Int32 × hd_V :=
  if op_ < 0 then
    (0, v)
  else
    if 5 < op_ then
      (0, v)
    else
      if (f_Core_fits op_ x_) = 0 then
        (0, v)
      else
        if (v 10 cx 5) < 16 then
          let v5 := hd_u v 11 cx (v 10 cx 5).toNatClampNeg op_
          let v6 := hd_u v5 12 cx (v5 10 cx 5).toNatClampNeg x_
          let v7 := hd_u v6 10 cx 5 ((v6 10 cx 5) + 1)
          (1, v7)
        else
          (0, v)
set_option maxHeartbeats 4000000 in
set_option maxRecDepth 100000 in
theorem c_Core_append (l : Launch) {D : va_G} {cI cZ cM cC : ClassId} {n : Nat} {ad : Nat → Nat → Nat} (hJ : hd_J (hx_L n) ad) (cx : Nat) (op_ : Int32) (x_ : Int32) (v : hd_V) (hcx : cx < n) (hins : 0 ≤ v 10 cx 5) : Met l y_Core_append w_Core_append { frames := 2, cells := 0, slots := 0, locals := 41 } (va_Pc [.ref (ad 10 cx), .int op_, .int x_] (hx_B D cI cZ cM cC n ad v)) (va_Qi (fun r u => r = (f_Core_append cx op_ x_ v).1 ∧ u = (f_Core_append cx op_ x_ v).2) (fun u => hx_B D cI cZ cM cC n ad u) (hx_A n ad)) 0 0 (hx_A n ad) := by
  refine Met.ofW (cc := b_Core_append) (maxL := 3) (ret := (some .boolean)) (by decide) rfl ?_
  intro p e s m args below meth c s₁ B hml hv
  obtain ⟨rfl, hP, hK, hN⟩ := hv
  have hx := B.exec
  have hb := B.bytes
  have hr := B.returns
  have hlk := B.notSynchronized
  have hts0 := atoms_spec (ws := w_Core_append) B.pre
  have hts := fun w (hw : w ∈ lw_g) => hts0 w (List.mem_cons_of_mem _ hw)
  have hown : s.vm.findClass R_Core = some m.cls := findClass_of_methodNamed B.named
  have hA : ∀ q, hx_A n ad q → hx_A n ad q := fun _ h => h
  have hS : va_S (hx_A n ad) s.heap s.heap [] := va_S.rf
  have hl := lv_entry ([.ref (ad 10 cx), .int op_, .int x_]) (n := 3) (Nat.le_of_ble_eq_true rfl)
  rw [lg_entry_eq]
  generalize (lg_sl ([.ref (ad 10 cx), .int op_, .int x_]) ++ List.replicate (3 - (lg_sl ([.ref (ad 10 cx), .int op_, .int x_])).length) Slot.unset).toArray = ls at hl ⊢
  have hl : lv_has ls 3 [(0, .ref (ad 10 cx)), (1, .int op_), (2, .int x_)] := hl
  refine lv_iload_n hx hb d_Core_append_0 rfl (lv_at hl 1 rfl) ?_
  refine lv_if_lt (tgt := 26) hx hb d_Core_append_1 (by decide) (fun h1 => ?_) (fun h1 => ?_)
  · refine lv_iconst (v := 0) hx hb d_Core_append_26 (by decide) ?_
    exact hd_zret hx hb hr hlk hK hN hP hS d_Core_append_27 rfl ⟨by simp only [f_Core_append]; rw [if_pos h1], by simp only [f_Core_append]; rw [if_pos h1]⟩
  · refine lv_iload_n hx hb d_Core_append_4 rfl (lv_at hl 1 rfl) ?_
    refine lv_iconst (v := 5) hx hb d_Core_append_5 (by decide) ?_
    refine lv_icmp_gt (tgt := 26) hx hb d_Core_append_6 (by decide) (fun h2 => ?_) (fun h2 => ?_)
    · refine lv_iconst (v := 0) hx hb d_Core_append_26 (by decide) ?_
      exact hd_zret hx hb hr hlk hK hN hP hS d_Core_append_27 rfl ⟨by simp only [f_Core_append]; rw [if_neg h1, if_pos h2], by simp only [f_Core_append]; rw [if_neg h1, if_pos h2]⟩
    · refine lv_iload_n hx hb d_Core_append_9 rfl (lv_at hl 1 rfl) ?_
      refine lv_iload_n hx hb d_Core_append_10 rfl (lv_at hl 2 rfl) ?_
      refine hd_cI hK (va_runS (As := [.int op_, .int x_]) (rest := []) ⟨hx, hb, hml, hown, hts⟩ (c_Core_fits l hJ op_ x_ v ) (va_cwS 2 hts (hd_gS g_Core_fits k_192 k_193 k_7) rfl rfl rfl (by decide +kernel) ⟨Nat.le_of_ble_eq_true rfl, Nat.le_of_ble_eq_true rfl⟩) (hd_preS hK hN hP [.int op_, .int x_]) rfl rfl hl.1 rfl (lv_room (Nat.le_of_ble_eq_true rfl)) d_Core_append_11 ⟨Nat.zero_le _, Nat.zero_le _⟩) hS hA (fun H locs hP hS => ?_)
      refine lv_if_eq (tgt := 26) hx hb d_Core_append_14 (by decide) (fun h3 => ?_) (fun h3 => ?_)
      · refine lv_iconst (v := 0) hx hb d_Core_append_26 (by decide) ?_
        exact hd_zret hx hb hr hlk hK hN hP hS d_Core_append_27 rfl ⟨by simp only [f_Core_append]; rw [if_neg h1, if_neg h2, if_pos h3], by simp only [f_Core_append]; rw [if_neg h1, if_neg h2, if_pos h3]⟩
      · refine lv_aload_n hx hb d_Core_append_17 rfl (lv_at hl 0 rfl) ?_
        refine hd_get (C := R_Core) (T := F_Core) (N := 14) hx hb hts i_Core hown hK hP 10 cx hcx rfl rfl 5 (by decide) (hts _ k_127) (fun _ h9 => h9) rfl d_Core_append_18 ?_
        refine lv_bipush (v := 16) hx hb d_Core_append_21 (by decide) ?_
        refine lv_icmp_lt (tgt := 28) hx hb d_Core_append_23 (by decide) (fun h4 => ?_) (fun h4 => ?_)
        · have hin : vp_in (v 10 cx 5) 16 := hd_in4 rfl hins h4
          refine lv_aload_n hx hb d_Core_append_28 rfl (lv_at hl 0 rfl) ?_
          refine hd_get (C := R_Core) (T := F_Core) (N := 14) hx hb hts i_Core hown hK hP 10 cx hcx rfl rfl 3 (by decide) (hts _ k_125) (fun _ h9 => h9) rfl d_Core_append_29 ?_
          refine lv_aload_n hx hb d_Core_append_32 rfl (lv_at hl 0 rfl) ?_
          refine hd_get (C := R_Core) (T := F_Core) (N := 14) hx hb hts i_Core hown hK hP 10 cx hcx rfl rfl 5 (by decide) (hts _ k_127) (fun _ h9 => h9) rfl d_Core_append_33 ?_
          refine lv_iload_n hx hb d_Core_append_36 rfl (lv_at hl 1 rfl) ?_
          refine hd_iast hx hb hK hP hJ hA hS 11 cx 0 hcx (fun _ => rfl) rfl hin d_Core_append_37 (fun H locs hP hS => ?_)
          refine lv_aload_n hx hb d_Core_append_38 rfl (lv_at hl 0 rfl) ?_
          refine hd_get (C := R_Core) (T := F_Core) (N := 14) hx hb hts i_Core hown hK hP 10 cx hcx rfl rfl 4 (by decide) (hts _ k_126) (fun _ h9 => h9) rfl d_Core_append_39 ?_
          refine lv_aload_n hx hb d_Core_append_42 rfl (lv_at hl 0 rfl) ?_
          refine hd_get (C := R_Core) (T := F_Core) (N := 14) hx hb hts i_Core hown hK hP 10 cx hcx rfl rfl 5 (by decide) (hts _ k_127) (fun _ h9 => h9) rfl d_Core_append_43 ?_
          refine lv_iload_n hx hb d_Core_append_46 rfl (lv_at hl 2 rfl) ?_
          refine hd_iast hx hb hK hP hJ hA hS 12 cx 0 hcx (fun _ => rfl) rfl hin d_Core_append_47 (fun H locs hP hS => ?_)
          refine lv_aload_n hx hb d_Core_append_48 rfl (lv_at hl 0 rfl) ?_
          refine lv_dup hx hb d_Core_append_49 rfl ?_
          refine hd_get (C := R_Core) (T := F_Core) (N := 14) hx hb hts i_Core hown hK hP 10 cx hcx rfl rfl 5 (by decide) (hts _ k_127) (fun _ h9 => h9) rfl d_Core_append_50 ?_
          refine lv_iconst (v := 1) hx hb d_Core_append_53 (by decide) ?_
          refine lv_iadd hx hb d_Core_append_54 ?_
          refine hd_put (ty := .int) (C := R_Core) (T := F_Core) (N := 14) hx hb hts i_Core t_Core t_Core_ok n_Core hown hK hP hJ hA hS 10 cx hcx rfl rfl 5 (by decide) (hts _ k_127) (fun _ h9 => h9) rfl (by decide +kernel) rfl rfl (Nat.le_of_ble_eq_true rfl) rfl d_Core_append_55 (fun H locs hP hS => ?_)
          refine lv_iconst (v := 1) hx hb d_Core_append_58 (by decide) ?_
          exact hd_zret hx hb hr hlk hK hN hP hS d_Core_append_59 rfl ⟨by simp only [f_Core_append]; rw [if_neg h1, if_neg h2, if_neg h3, if_pos h4], by simp only [f_Core_append]; rw [if_neg h1, if_neg h2, if_neg h3, if_pos h4]⟩
        · refine lv_iconst (v := 0) hx hb d_Core_append_26 (by decide) ?_
          exact hd_zret hx hb hr hlk hK hN hP hS d_Core_append_27 rfl ⟨by simp only [f_Core_append]; rw [if_neg h1, if_neg h2, if_neg h3, if_neg h4], by simp only [f_Core_append]; rw [if_neg h1, if_neg h2, if_neg h3, if_neg h4]⟩
def f_Core_moveTo (cx : Nat) (place_ : Int32) (v : hd_V) : Int32 × hd_V :=
  if (v 10 cx 8) = 0 then
    if place_ < 0 then
      (0, v)
    else
      if place_ ≤ 16 then
        let v4 := hd_u v 10 cx 7 place_
        (1, v4)
      else
        (0, v)
  else
    (0, v)
set_option maxHeartbeats 4000000 in
set_option maxRecDepth 100000 in
theorem c_Core_moveTo (l : Launch) {D : va_G} {cI cZ cM cC : ClassId} {n : Nat} {ad : Nat → Nat → Nat} (hJ : hd_J (hx_L n) ad) (cx : Nat) (place_ : Int32) (v : hd_V) (hcx : cx < n) : Met l y_Core_moveTo w_Core_moveTo { frames := 0, cells := 0, slots := 0, locals := 0 } (va_Pc [.ref (ad 10 cx), .int place_] (hx_B D cI cZ cM cC n ad v)) (va_Qi (fun r u => r = (f_Core_moveTo cx place_ v).1 ∧ u = (f_Core_moveTo cx place_ v).2) (fun u => hx_B D cI cZ cM cC n ad u) (hx_A n ad)) 0 0 (hx_A n ad) := by
  refine Met.ofW (cc := b_Core_moveTo) (maxL := 2) (ret := (some .boolean)) (by decide) rfl ?_
  intro p e s m args below meth c s₁ B hml hv
  obtain ⟨rfl, hP, hK, hN⟩ := hv
  have hx := B.exec
  have hb := B.bytes
  have hr := B.returns
  have hlk := B.notSynchronized
  have hts0 := atoms_spec (ws := w_Core_moveTo) B.pre
  have hts := fun w (hw : w ∈ lw_g) => hts0 w (List.mem_cons_of_mem _ hw)
  have hown : s.vm.findClass R_Core = some m.cls := findClass_of_methodNamed B.named
  have hA : ∀ q, hx_A n ad q → hx_A n ad q := fun _ h => h
  have hS : va_S (hx_A n ad) s.heap s.heap [] := va_S.rf
  have hl := lv_entry ([.ref (ad 10 cx), .int place_]) (n := 2) (Nat.le_of_ble_eq_true rfl)
  rw [lg_entry_eq]
  generalize (lg_sl ([.ref (ad 10 cx), .int place_]) ++ List.replicate (2 - (lg_sl ([.ref (ad 10 cx), .int place_])).length) Slot.unset).toArray = ls at hl ⊢
  have hl : lv_has ls 2 [(0, .ref (ad 10 cx)), (1, .int place_)] := hl
  refine lv_aload_n hx hb d_Core_moveTo_0 rfl (lv_at hl 0 rfl) ?_
  refine hd_get (C := R_Core) (T := F_Core) (N := 14) hx hb hts i_Core hown hK hP 10 cx hcx rfl rfl 8 (by decide) (hts _ k_132) (fun _ h9 => h9) rfl d_Core_moveTo_1 ?_
  refine lv_if_ne (tgt := 17) hx hb d_Core_moveTo_4 (by decide) (fun h1 => ?_) (fun h1 => ?_)
  · refine lv_iconst (v := 0) hx hb d_Core_moveTo_17 (by decide) ?_
    exact hd_zret hx hb hr hlk hK hN hP hS d_Core_moveTo_18 rfl ⟨by simp only [f_Core_moveTo]; rw [if_neg h1], by simp only [f_Core_moveTo]; rw [if_neg h1]⟩
  · refine lv_iload_n hx hb d_Core_moveTo_7 rfl (lv_at hl 1 rfl) ?_
    refine lv_if_lt (tgt := 17) hx hb d_Core_moveTo_8 (by decide) (fun h2 => ?_) (fun h2 => ?_)
    · refine lv_iconst (v := 0) hx hb d_Core_moveTo_17 (by decide) ?_
      exact hd_zret hx hb hr hlk hK hN hP hS d_Core_moveTo_18 rfl ⟨by simp only [f_Core_moveTo]; rw [if_pos h1, if_pos h2], by simp only [f_Core_moveTo]; rw [if_pos h1, if_pos h2]⟩
    · refine lv_iload_n hx hb d_Core_moveTo_11 rfl (lv_at hl 1 rfl) ?_
      refine lv_bipush (v := 16) hx hb d_Core_moveTo_12 (by decide) ?_
      refine lv_icmp_le (tgt := 19) hx hb d_Core_moveTo_14 (by decide) (fun h3 => ?_) (fun h3 => ?_)
      · refine lv_aload_n hx hb d_Core_moveTo_19 rfl (lv_at hl 0 rfl) ?_
        refine lv_iload_n hx hb d_Core_moveTo_20 rfl (lv_at hl 1 rfl) ?_
        refine hd_put (ty := .int) (C := R_Core) (T := F_Core) (N := 14) hx hb hts i_Core t_Core t_Core_ok n_Core hown hK hP hJ hA hS 10 cx hcx rfl rfl 7 (by decide) (hts _ k_130) (fun _ h9 => h9) rfl (by decide +kernel) rfl rfl (Nat.le_of_ble_eq_true rfl) rfl d_Core_moveTo_21 (fun H locs hP hS => ?_)
        refine lv_iconst (v := 1) hx hb d_Core_moveTo_24 (by decide) ?_
        exact hd_zret hx hb hr hlk hK hN hP hS d_Core_moveTo_25 rfl ⟨by simp only [f_Core_moveTo]; rw [if_pos h1, if_neg h2, if_pos h3], by simp only [f_Core_moveTo]; rw [if_pos h1, if_neg h2, if_pos h3]⟩
      · refine lv_iconst (v := 0) hx hb d_Core_moveTo_17 (by decide) ?_
        exact hd_zret hx hb hr hlk hK hN hP hS d_Core_moveTo_18 rfl ⟨by simp only [f_Core_moveTo]; rw [if_pos h1, if_neg h2, if_neg h3], by simp only [f_Core_moveTo]; rw [if_pos h1, if_neg h2, if_neg h3]⟩
def f_Core_compute (cx : Nat) (op_ : Int32) (x_ : Int32) (v : hd_V) : hd_V :=
  if op_ = 3 then
    if (v 10 cx 6) = 0 then
      if op_ = 2 then
        let v15 := hd_u v 10 cx 6 ((v 10 cx 6) + x_)
        let v16 := hd_u v15 10 cx 7 ((v15 10 cx 7) + 1)
        v16
      else
        if op_ = 4 then
          let v13 := hd_u v 10 cx 6 x_
          let v14 := hd_u v13 10 cx 7 ((v13 10 cx 7) + 1)
          v14
        else
          let v12 := hd_u v 10 cx 7 ((v 10 cx 7) + 1)
          v12
    else
      let v17 := hd_u v 10 cx 7 x_
      v17
  else
    if op_ = 2 then
      let v7 := hd_u v 10 cx 6 ((v 10 cx 6) + x_)
      let v8 := hd_u v7 10 cx 7 ((v7 10 cx 7) + 1)
      v8
    else
      if op_ = 4 then
        let v5 := hd_u v 10 cx 6 x_
        let v6 := hd_u v5 10 cx 7 ((v5 10 cx 7) + 1)
        v6
      else
        let v4 := hd_u v 10 cx 7 ((v 10 cx 7) + 1)
        v4
set_option maxHeartbeats 4000000 in
set_option maxRecDepth 100000 in
theorem c_Core_compute (l : Launch) {D : va_G} {cI cZ cM cC : ClassId} {n : Nat} {ad : Nat → Nat → Nat} (hJ : hd_J (hx_L n) ad) (cx : Nat) (op_ : Int32) (x_ : Int32) (v : hd_V) (hcx : cx < n) : Met l y_Core_compute w_Core_compute { frames := 0, cells := 0, slots := 0, locals := 0 } (va_Pc [.ref (ad 10 cx), .int op_, .int x_] (hx_B D cI cZ cM cC n ad v)) (va_Qv (fun u => u = f_Core_compute cx op_ x_ v) (fun u => hx_B D cI cZ cM cC n ad u) (hx_A n ad)) 0 0 (hx_A n ad) := by
  refine Met.ofW (cc := b_Core_compute) (maxL := 3) (ret := none) (by decide) rfl ?_
  intro p e s m args below meth c s₁ B hml hv
  obtain ⟨rfl, hP, hK, hN⟩ := hv
  have hx := B.exec
  have hb := B.bytes
  have hr := B.returns
  have hlk := B.notSynchronized
  have hts0 := atoms_spec (ws := w_Core_compute) B.pre
  have hts := fun w (hw : w ∈ lw_g) => hts0 w (List.mem_cons_of_mem _ hw)
  have hown : s.vm.findClass R_Core = some m.cls := findClass_of_methodNamed B.named
  have hA : ∀ q, hx_A n ad q → hx_A n ad q := fun _ h => h
  have hS : va_S (hx_A n ad) s.heap s.heap [] := va_S.rf
  have hl := lv_entry ([.ref (ad 10 cx), .int op_, .int x_]) (n := 3) (Nat.le_of_ble_eq_true rfl)
  rw [lg_entry_eq]
  generalize (lg_sl ([.ref (ad 10 cx), .int op_, .int x_]) ++ List.replicate (3 - (lg_sl ([.ref (ad 10 cx), .int op_, .int x_])).length) Slot.unset).toArray = ls at hl ⊢
  have hl : lv_has ls 3 [(0, .ref (ad 10 cx)), (1, .int op_), (2, .int x_)] := hl
  refine lv_iload_n hx hb d_Core_compute_0 rfl (lv_at hl 1 rfl) ?_
  refine lv_iconst (v := 3) hx hb d_Core_compute_1 (by decide) ?_
  refine lv_icmp_ne (tgt := 18) hx hb d_Core_compute_2 (by decide) (fun h1 => ?_) (fun h1 => ?_)
  · refine lv_iload_n hx hb d_Core_compute_18 rfl (lv_at hl 1 rfl) ?_
    refine lv_iconst (v := 2) hx hb d_Core_compute_19 (by decide) ?_
    refine lv_icmp_ne (tgt := 36) hx hb d_Core_compute_20 (by decide) (fun h2 => ?_) (fun h2 => ?_)
    · refine lv_iload_n hx hb d_Core_compute_36 rfl (lv_at hl 1 rfl) ?_
      refine lv_iconst (v := 4) hx hb d_Core_compute_37 (by decide) ?_
      refine lv_icmp_ne (tgt := 46) hx hb d_Core_compute_38 (by decide) (fun h3 => ?_) (fun h3 => ?_)
      · refine lv_aload_n hx hb d_Core_compute_46 rfl (lv_at hl 0 rfl) ?_
        refine lv_dup hx hb d_Core_compute_47 rfl ?_
        refine hd_get (C := R_Core) (T := F_Core) (N := 14) hx hb hts i_Core hown hK hP 10 cx hcx rfl rfl 7 (by decide) (hts _ k_130) (fun _ h9 => h9) rfl d_Core_compute_48 ?_
        refine lv_iconst (v := 1) hx hb d_Core_compute_51 (by decide) ?_
        refine lv_iadd hx hb d_Core_compute_52 ?_
        refine hd_put (ty := .int) (C := R_Core) (T := F_Core) (N := 14) hx hb hts i_Core t_Core t_Core_ok n_Core hown hK hP hJ hA hS 10 cx hcx rfl rfl 7 (by decide) (hts _ k_130) (fun _ h9 => h9) rfl (by decide +kernel) rfl rfl (Nat.le_of_ble_eq_true rfl) rfl d_Core_compute_53 (fun H locs hP hS => ?_)
        exact hd_vret hx hb hr hlk hK hN hP hS d_Core_compute_56 (by simp only [f_Core_compute]; rw [if_neg h1, if_neg h2, if_neg h3])
      · refine lv_aload_n hx hb d_Core_compute_41 rfl (lv_at hl 0 rfl) ?_
        refine lv_iload_n hx hb d_Core_compute_42 rfl (lv_at hl 2 rfl) ?_
        refine hd_put (ty := .int) (C := R_Core) (T := F_Core) (N := 14) hx hb hts i_Core t_Core t_Core_ok n_Core hown hK hP hJ hA hS 10 cx hcx rfl rfl 6 (by decide) (hts _ k_128) (fun _ h9 => h9) rfl (by decide +kernel) rfl rfl (Nat.le_of_ble_eq_true rfl) rfl d_Core_compute_43 (fun H locs hP hS => ?_)
        refine lv_aload_n hx hb d_Core_compute_46 rfl (lv_at hl 0 rfl) ?_
        refine lv_dup hx hb d_Core_compute_47 rfl ?_
        refine hd_get (C := R_Core) (T := F_Core) (N := 14) hx hb hts i_Core hown hK hP 10 cx hcx rfl rfl 7 (by decide) (hts _ k_130) (fun _ h9 => h9) rfl d_Core_compute_48 ?_
        refine lv_iconst (v := 1) hx hb d_Core_compute_51 (by decide) ?_
        refine lv_iadd hx hb d_Core_compute_52 ?_
        refine hd_put (ty := .int) (C := R_Core) (T := F_Core) (N := 14) hx hb hts i_Core t_Core t_Core_ok n_Core hown hK hP hJ hA hS 10 cx hcx rfl rfl 7 (by decide) (hts _ k_130) (fun _ h9 => h9) rfl (by decide +kernel) rfl rfl (Nat.le_of_ble_eq_true rfl) rfl d_Core_compute_53 (fun H locs hP hS => ?_)
        exact hd_vret hx hb hr hlk hK hN hP hS d_Core_compute_56 (by simp only [f_Core_compute]; rw [if_neg h1, if_neg h2, if_pos h3])
    · refine lv_aload_n hx hb d_Core_compute_23 rfl (lv_at hl 0 rfl) ?_
      refine lv_dup hx hb d_Core_compute_24 rfl ?_
      refine hd_get (C := R_Core) (T := F_Core) (N := 14) hx hb hts i_Core hown hK hP 10 cx hcx rfl rfl 6 (by decide) (hts _ k_128) (fun _ h9 => h9) rfl d_Core_compute_25 ?_
      refine lv_iload_n hx hb d_Core_compute_28 rfl (lv_at hl 2 rfl) ?_
      refine lv_iadd hx hb d_Core_compute_29 ?_
      refine hd_put (ty := .int) (C := R_Core) (T := F_Core) (N := 14) hx hb hts i_Core t_Core t_Core_ok n_Core hown hK hP hJ hA hS 10 cx hcx rfl rfl 6 (by decide) (hts _ k_128) (fun _ h9 => h9) rfl (by decide +kernel) rfl rfl (Nat.le_of_ble_eq_true rfl) rfl d_Core_compute_30 (fun H locs hP hS => ?_)
      refine lv_goto (tgt := 46) hx hb d_Core_compute_33 (by decide) ?_
      refine lv_aload_n hx hb d_Core_compute_46 rfl (lv_at hl 0 rfl) ?_
      refine lv_dup hx hb d_Core_compute_47 rfl ?_
      refine hd_get (C := R_Core) (T := F_Core) (N := 14) hx hb hts i_Core hown hK hP 10 cx hcx rfl rfl 7 (by decide) (hts _ k_130) (fun _ h9 => h9) rfl d_Core_compute_48 ?_
      refine lv_iconst (v := 1) hx hb d_Core_compute_51 (by decide) ?_
      refine lv_iadd hx hb d_Core_compute_52 ?_
      refine hd_put (ty := .int) (C := R_Core) (T := F_Core) (N := 14) hx hb hts i_Core t_Core t_Core_ok n_Core hown hK hP hJ hA hS 10 cx hcx rfl rfl 7 (by decide) (hts _ k_130) (fun _ h9 => h9) rfl (by decide +kernel) rfl rfl (Nat.le_of_ble_eq_true rfl) rfl d_Core_compute_53 (fun H locs hP hS => ?_)
      exact hd_vret hx hb hr hlk hK hN hP hS d_Core_compute_56 (by simp only [f_Core_compute]; rw [if_neg h1, if_pos h2])
  · refine lv_aload_n hx hb d_Core_compute_5 rfl (lv_at hl 0 rfl) ?_
    refine hd_get (C := R_Core) (T := F_Core) (N := 14) hx hb hts i_Core hown hK hP 10 cx hcx rfl rfl 6 (by decide) (hts _ k_128) (fun _ h9 => h9) rfl d_Core_compute_6 ?_
    refine lv_if_eq (tgt := 18) hx hb d_Core_compute_9 (by decide) (fun h9 => ?_) (fun h9 => ?_)
    · refine lv_iload_n hx hb d_Core_compute_18 rfl (lv_at hl 1 rfl) ?_
      refine lv_iconst (v := 2) hx hb d_Core_compute_19 (by decide) ?_
      refine lv_icmp_ne (tgt := 36) hx hb d_Core_compute_20 (by decide) (fun h10 => ?_) (fun h10 => ?_)
      · refine lv_iload_n hx hb d_Core_compute_36 rfl (lv_at hl 1 rfl) ?_
        refine lv_iconst (v := 4) hx hb d_Core_compute_37 (by decide) ?_
        refine lv_icmp_ne (tgt := 46) hx hb d_Core_compute_38 (by decide) (fun h11 => ?_) (fun h11 => ?_)
        · refine lv_aload_n hx hb d_Core_compute_46 rfl (lv_at hl 0 rfl) ?_
          refine lv_dup hx hb d_Core_compute_47 rfl ?_
          refine hd_get (C := R_Core) (T := F_Core) (N := 14) hx hb hts i_Core hown hK hP 10 cx hcx rfl rfl 7 (by decide) (hts _ k_130) (fun _ h9 => h9) rfl d_Core_compute_48 ?_
          refine lv_iconst (v := 1) hx hb d_Core_compute_51 (by decide) ?_
          refine lv_iadd hx hb d_Core_compute_52 ?_
          refine hd_put (ty := .int) (C := R_Core) (T := F_Core) (N := 14) hx hb hts i_Core t_Core t_Core_ok n_Core hown hK hP hJ hA hS 10 cx hcx rfl rfl 7 (by decide) (hts _ k_130) (fun _ h9 => h9) rfl (by decide +kernel) rfl rfl (Nat.le_of_ble_eq_true rfl) rfl d_Core_compute_53 (fun H locs hP hS => ?_)
          exact hd_vret hx hb hr hlk hK hN hP hS d_Core_compute_56 (by simp only [f_Core_compute]; rw [if_pos h1, if_pos h9, if_neg h10, if_neg h11])
        · refine lv_aload_n hx hb d_Core_compute_41 rfl (lv_at hl 0 rfl) ?_
          refine lv_iload_n hx hb d_Core_compute_42 rfl (lv_at hl 2 rfl) ?_
          refine hd_put (ty := .int) (C := R_Core) (T := F_Core) (N := 14) hx hb hts i_Core t_Core t_Core_ok n_Core hown hK hP hJ hA hS 10 cx hcx rfl rfl 6 (by decide) (hts _ k_128) (fun _ h9 => h9) rfl (by decide +kernel) rfl rfl (Nat.le_of_ble_eq_true rfl) rfl d_Core_compute_43 (fun H locs hP hS => ?_)
          refine lv_aload_n hx hb d_Core_compute_46 rfl (lv_at hl 0 rfl) ?_
          refine lv_dup hx hb d_Core_compute_47 rfl ?_
          refine hd_get (C := R_Core) (T := F_Core) (N := 14) hx hb hts i_Core hown hK hP 10 cx hcx rfl rfl 7 (by decide) (hts _ k_130) (fun _ h9 => h9) rfl d_Core_compute_48 ?_
          refine lv_iconst (v := 1) hx hb d_Core_compute_51 (by decide) ?_
          refine lv_iadd hx hb d_Core_compute_52 ?_
          refine hd_put (ty := .int) (C := R_Core) (T := F_Core) (N := 14) hx hb hts i_Core t_Core t_Core_ok n_Core hown hK hP hJ hA hS 10 cx hcx rfl rfl 7 (by decide) (hts _ k_130) (fun _ h9 => h9) rfl (by decide +kernel) rfl rfl (Nat.le_of_ble_eq_true rfl) rfl d_Core_compute_53 (fun H locs hP hS => ?_)
          exact hd_vret hx hb hr hlk hK hN hP hS d_Core_compute_56 (by simp only [f_Core_compute]; rw [if_pos h1, if_pos h9, if_neg h10, if_pos h11])
      · refine lv_aload_n hx hb d_Core_compute_23 rfl (lv_at hl 0 rfl) ?_
        refine lv_dup hx hb d_Core_compute_24 rfl ?_
        refine hd_get (C := R_Core) (T := F_Core) (N := 14) hx hb hts i_Core hown hK hP 10 cx hcx rfl rfl 6 (by decide) (hts _ k_128) (fun _ h9 => h9) rfl d_Core_compute_25 ?_
        refine lv_iload_n hx hb d_Core_compute_28 rfl (lv_at hl 2 rfl) ?_
        refine lv_iadd hx hb d_Core_compute_29 ?_
        refine hd_put (ty := .int) (C := R_Core) (T := F_Core) (N := 14) hx hb hts i_Core t_Core t_Core_ok n_Core hown hK hP hJ hA hS 10 cx hcx rfl rfl 6 (by decide) (hts _ k_128) (fun _ h9 => h9) rfl (by decide +kernel) rfl rfl (Nat.le_of_ble_eq_true rfl) rfl d_Core_compute_30 (fun H locs hP hS => ?_)
        refine lv_goto (tgt := 46) hx hb d_Core_compute_33 (by decide) ?_
        refine lv_aload_n hx hb d_Core_compute_46 rfl (lv_at hl 0 rfl) ?_
        refine lv_dup hx hb d_Core_compute_47 rfl ?_
        refine hd_get (C := R_Core) (T := F_Core) (N := 14) hx hb hts i_Core hown hK hP 10 cx hcx rfl rfl 7 (by decide) (hts _ k_130) (fun _ h9 => h9) rfl d_Core_compute_48 ?_
        refine lv_iconst (v := 1) hx hb d_Core_compute_51 (by decide) ?_
        refine lv_iadd hx hb d_Core_compute_52 ?_
        refine hd_put (ty := .int) (C := R_Core) (T := F_Core) (N := 14) hx hb hts i_Core t_Core t_Core_ok n_Core hown hK hP hJ hA hS 10 cx hcx rfl rfl 7 (by decide) (hts _ k_130) (fun _ h9 => h9) rfl (by decide +kernel) rfl rfl (Nat.le_of_ble_eq_true rfl) rfl d_Core_compute_53 (fun H locs hP hS => ?_)
        exact hd_vret hx hb hr hlk hK hN hP hS d_Core_compute_56 (by simp only [f_Core_compute]; rw [if_pos h1, if_pos h9, if_pos h10])
    · refine lv_aload_n hx hb d_Core_compute_12 rfl (lv_at hl 0 rfl) ?_
      refine lv_iload_n hx hb d_Core_compute_13 rfl (lv_at hl 2 rfl) ?_
      refine hd_put (ty := .int) (C := R_Core) (T := F_Core) (N := 14) hx hb hts i_Core t_Core t_Core_ok n_Core hown hK hP hJ hA hS 10 cx hcx rfl rfl 7 (by decide) (hts _ k_130) (fun _ h9 => h9) rfl (by decide +kernel) rfl rfl (Nat.le_of_ble_eq_true rfl) rfl d_Core_compute_14 (fun H locs hP hS => ?_)
      exact hd_vret hx hb hr hlk hK hN hP hS d_Core_compute_17 (by simp only [f_Core_compute]; rw [if_pos h1, if_neg h9])
def f_Core_allows (cx : Nat) (block_ : Int32) (op_ : Int32) (v : hd_V) : Int32 :=
  if (v 13 cx block_.toNatClampNeg) = 2 then
    1
  else
    if (v 13 cx block_.toNatClampNeg) = 1 then
      if op_ = 0 then
        1
      else
        0
    else
      0
theorem z_Core_allows (cx : Nat) (block_ : Int32) (op_ : Int32) (v : hd_V) : f_Core_allows cx block_ op_ v = 0 ∨ f_Core_allows cx block_ op_ v = 1 := by
  simp only [f_Core_allows]
  (repeat' split) <;> simp
set_option maxHeartbeats 4000000 in
set_option maxRecDepth 100000 in
theorem c_Core_allows (l : Launch) {D : va_G} {cI cZ cM cC : ClassId} {n : Nat} {ad : Nat → Nat → Nat} (hJ : hd_J (hx_L n) ad) (cx : Nat) (block_ : Int32) (op_ : Int32) (v : hd_V) (hcx : cx < n) (hbl : vp_in block_ 4) : Met l y_Core_allows w_Core_allows { frames := 0, cells := 0, slots := 0, locals := 0 } (va_Pc [.ref (ad 10 cx), .int block_, .int op_] (hx_B D cI cZ cM cC n ad v)) (va_Qi (fun r u => r = f_Core_allows cx block_ op_ v ∧ u = v) (fun u => hx_B D cI cZ cM cC n ad u) (hx_A n ad)) 0 0 (hx_A n ad) := by
  refine Met.ofW (cc := b_Core_allows) (maxL := 3) (ret := (some .boolean)) (by decide) rfl ?_
  intro p e s m args below meth c s₁ B hml hv
  obtain ⟨rfl, hP, hK, hN⟩ := hv
  have hx := B.exec
  have hb := B.bytes
  have hr := B.returns
  have hlk := B.notSynchronized
  have hts0 := atoms_spec (ws := w_Core_allows) B.pre
  have hts := fun w (hw : w ∈ lw_g) => hts0 w (List.mem_cons_of_mem _ hw)
  have hown : s.vm.findClass R_Core = some m.cls := findClass_of_methodNamed B.named
  have hA : ∀ q, hx_A n ad q → hx_A n ad q := fun _ h => h
  have hS : va_S (hx_A n ad) s.heap s.heap [] := va_S.rf
  have hl := lv_entry ([.ref (ad 10 cx), .int block_, .int op_]) (n := 3) (Nat.le_of_ble_eq_true rfl)
  rw [lg_entry_eq]
  generalize (lg_sl ([.ref (ad 10 cx), .int block_, .int op_]) ++ List.replicate (3 - (lg_sl ([.ref (ad 10 cx), .int block_, .int op_])).length) Slot.unset).toArray = ls at hl ⊢
  have hl : lv_has ls 3 [(0, .ref (ad 10 cx)), (1, .int block_), (2, .int op_)] := hl
  refine lv_aload_n hx hb d_Core_allows_0 rfl (lv_at hl 0 rfl) ?_
  refine hd_get (C := R_Core) (T := F_Core) (N := 14) hx hb hts i_Core hown hK hP 10 cx hcx rfl rfl 9 (by decide) (hts _ k_134) (fun _ h9 => h9) rfl d_Core_allows_1 ?_
  refine lv_iload_n hx hb d_Core_allows_4 rfl (lv_at hl 1 rfl) ?_
  refine hd_iald hx hb hK hP 13 cx 0 hcx rfl rfl hbl d_Core_allows_5 ?_
  refine lv_iconst (v := 2) hx hb d_Core_allows_6 (by decide) ?_
  refine lv_icmp_eq (tgt := 24) hx hb d_Core_allows_7 (by decide) (fun h1 => ?_) (fun h1 => ?_)
  · refine lv_iconst (v := 1) hx hb d_Core_allows_24 (by decide) ?_
    refine lv_goto (tgt := 29) hx hb d_Core_allows_25 (by decide) ?_
    exact hd_zret hx hb hr hlk hK hN hP hS d_Core_allows_29 rfl ⟨by simp only [f_Core_allows]; rw [if_pos h1], rfl⟩
  · refine lv_aload_n hx hb d_Core_allows_10 rfl (lv_at hl 0 rfl) ?_
    refine hd_get (C := R_Core) (T := F_Core) (N := 14) hx hb hts i_Core hown hK hP 10 cx hcx rfl rfl 9 (by decide) (hts _ k_134) (fun _ h9 => h9) rfl d_Core_allows_11 ?_
    refine lv_iload_n hx hb d_Core_allows_14 rfl (lv_at hl 1 rfl) ?_
    refine hd_iald hx hb hK hP 13 cx 0 hcx rfl rfl hbl d_Core_allows_15 ?_
    refine lv_iconst (v := 1) hx hb d_Core_allows_16 (by decide) ?_
    refine lv_icmp_ne (tgt := 28) hx hb d_Core_allows_17 (by decide) (fun h2 => ?_) (fun h2 => ?_)
    · refine lv_iconst (v := 0) hx hb d_Core_allows_28 (by decide) ?_
      exact hd_zret hx hb hr hlk hK hN hP hS d_Core_allows_29 rfl ⟨by simp only [f_Core_allows]; rw [if_neg h1, if_neg h2], rfl⟩
    · refine lv_iload_n hx hb d_Core_allows_20 rfl (lv_at hl 2 rfl) ?_
      refine lv_if_ne (tgt := 28) hx hb d_Core_allows_21 (by decide) (fun h3 => ?_) (fun h3 => ?_)
      · refine lv_iconst (v := 0) hx hb d_Core_allows_28 (by decide) ?_
        exact hd_zret hx hb hr hlk hK hN hP hS d_Core_allows_29 rfl ⟨by simp only [f_Core_allows]; rw [if_neg h1, if_pos h2, if_neg h3], rfl⟩
      · refine lv_iconst (v := 1) hx hb d_Core_allows_24 (by decide) ?_
        refine lv_goto (tgt := 29) hx hb d_Core_allows_25 (by decide) ?_
        exact hd_zret hx hb hr hlk hK hN hP hS d_Core_allows_29 rfl ⟨by simp only [f_Core_allows]; rw [if_neg h1, if_pos h2, if_pos h3], rfl⟩
def f_Core_perform (cx : Nat) (op_ : Int32) (block_ : Int32) (v : hd_V) : hd_V :=
  let x1 : Int32 := v 14 cx block_.toNatClampNeg
  if op_ = 0 then
    if op_ = 1 then
      let v4 := hd_u v 10 cx 13 ((v 10 cx 13) + 1)
      let v5 := hd_u v4 16 cx block_.toNatClampNeg (v4 10 cx 13)
      let v6 := hd_u v5 10 cx 7 ((v5 10 cx 7) + 1)
      v6
    else
      let v7 := hd_u v 10 cx 6 x1
      let v8 := hd_u v7 10 cx 13 ((v7 10 cx 13) + 1)
      let v9 := hd_u v8 16 cx block_.toNatClampNeg (v8 10 cx 13)
      let v10 := hd_u v9 10 cx 7 ((v9 10 cx 7) + 1)
      v10
  else
    let v11 := hd_u v 14 cx block_.toNatClampNeg (v 10 cx 6)
    if op_ = 1 then
      let v13 := hd_u v11 10 cx 13 ((v11 10 cx 13) + 1)
      let v14 := hd_u v13 16 cx block_.toNatClampNeg (v13 10 cx 13)
      let v15 := hd_u v14 10 cx 7 ((v14 10 cx 7) + 1)
      v15
    else
      let v16 := hd_u v11 10 cx 6 x1
      let v17 := hd_u v16 10 cx 13 ((v16 10 cx 13) + 1)
      let v18 := hd_u v17 16 cx block_.toNatClampNeg (v17 10 cx 13)
      let v19 := hd_u v18 10 cx 7 ((v18 10 cx 7) + 1)
      v19
set_option maxHeartbeats 4000000 in
set_option maxRecDepth 100000 in
theorem c_Core_perform (l : Launch) {D : va_G} {cI cZ cM cC : ClassId} {n : Nat} {ad : Nat → Nat → Nat} (hJ : hd_J (hx_L n) ad) (cx : Nat) (op_ : Int32) (block_ : Int32) (v : hd_V) (hcx : cx < n) (hbl : vp_in block_ 4) : Met l y_Core_perform w_Core_perform { frames := 0, cells := 0, slots := 0, locals := 0 } (va_Pc [.ref (ad 10 cx), .int op_, .int block_] (hx_B D cI cZ cM cC n ad v)) (va_Qv (fun u => u = f_Core_perform cx op_ block_ v) (fun u => hx_B D cI cZ cM cC n ad u) (hx_A n ad)) 0 0 (hx_A n ad) := by
  refine Met.ofW (cc := b_Core_perform) (maxL := 4) (ret := none) (by decide) rfl ?_
  intro p e s m args below meth c s₁ B hml hv
  obtain ⟨rfl, hP, hK, hN⟩ := hv
  have hx := B.exec
  have hb := B.bytes
  have hr := B.returns
  have hlk := B.notSynchronized
  have hts0 := atoms_spec (ws := w_Core_perform) B.pre
  have hts := fun w (hw : w ∈ lw_g) => hts0 w (List.mem_cons_of_mem _ hw)
  have hown : s.vm.findClass R_Core = some m.cls := findClass_of_methodNamed B.named
  have hA : ∀ q, hx_A n ad q → hx_A n ad q := fun _ h => h
  have hS : va_S (hx_A n ad) s.heap s.heap [] := va_S.rf
  have hl := lv_entry ([.ref (ad 10 cx), .int op_, .int block_]) (n := 4) (Nat.le_of_ble_eq_true rfl)
  rw [lg_entry_eq]
  generalize (lg_sl ([.ref (ad 10 cx), .int op_, .int block_]) ++ List.replicate (4 - (lg_sl ([.ref (ad 10 cx), .int op_, .int block_])).length) Slot.unset).toArray = ls at hl ⊢
  have hl : lv_has ls 4 [(0, .ref (ad 10 cx)), (1, .int op_), (2, .int block_)] := hl
  refine lv_aload_n hx hb d_Core_perform_0 rfl (lv_at hl 0 rfl) ?_
  refine hd_get (C := R_Core) (T := F_Core) (N := 14) hx hb hts i_Core hown hK hP 10 cx hcx rfl rfl 10 (by decide) (hts _ k_136) (fun _ h9 => h9) rfl d_Core_perform_1 ?_
  refine lv_iload_n hx hb d_Core_perform_4 rfl (lv_at hl 2 rfl) ?_
  refine hd_iald hx hb hK hP 14 cx 0 hcx rfl rfl hbl d_Core_perform_5 ?_
  refine lv_topi (fun x1 ex1 => ?_)
  refine lv_istore_n (lv' := [(3, .int x1), (0, .ref (ad 10 cx)), (1, .int op_), (2, .int block_)]) hx hb d_Core_perform_6 rfl hl (by decide) rfl (fun ls hl => ?_)
  refine lv_iload_n hx hb d_Core_perform_7 rfl (lv_at hl 2 rfl) ?_
  refine lv_if_eq (tgt := 21) hx hb d_Core_perform_8 (by decide) (fun h2 => ?_) (fun h2 => ?_)
  · refine lv_iload_n hx hb d_Core_perform_21 rfl (lv_at hl 2 rfl) ?_
    refine lv_iconst (v := 1) hx hb d_Core_perform_22 (by decide) ?_
    refine lv_icmp_eq (tgt := 31) hx hb d_Core_perform_23 (by decide) (fun h3 => ?_) (fun h3 => ?_)
    · refine lv_aload_n hx hb d_Core_perform_31 rfl (lv_at hl 1 rfl) ?_
      refine lv_dup hx hb d_Core_perform_32 rfl ?_
      refine hd_get (C := R_Core) (T := F_Core) (N := 14) hx hb hts i_Core hown hK hP 10 cx hcx rfl rfl 13 (by decide) (hts _ k_139) (fun _ h9 => h9) rfl d_Core_perform_33 ?_
      refine lv_iconst (v := 1) hx hb d_Core_perform_36 (by decide) ?_
      refine lv_iadd hx hb d_Core_perform_37 ?_
      refine hd_put (ty := .int) (C := R_Core) (T := F_Core) (N := 14) hx hb hts i_Core t_Core t_Core_ok n_Core hown hK hP hJ hA hS 10 cx hcx rfl rfl 13 (by decide) (hts _ k_139) (fun _ h9 => h9) rfl (by decide +kernel) rfl rfl (Nat.le_of_ble_eq_true rfl) rfl d_Core_perform_38 (fun H locs hP hS => ?_)
      refine lv_aload_n hx hb d_Core_perform_41 rfl (lv_at hl 1 rfl) ?_
      refine hd_get (C := R_Core) (T := F_Core) (N := 14) hx hb hts i_Core hown hK hP 10 cx hcx rfl rfl 12 (by decide) (hts _ k_138) (fun _ h9 => h9) rfl d_Core_perform_42 ?_
      refine lv_iload_n hx hb d_Core_perform_45 rfl (lv_at hl 3 rfl) ?_
      refine lv_aload_n hx hb d_Core_perform_46 rfl (lv_at hl 1 rfl) ?_
      refine hd_get (C := R_Core) (T := F_Core) (N := 14) hx hb hts i_Core hown hK hP 10 cx hcx rfl rfl 13 (by decide) (hts _ k_139) (fun _ h9 => h9) rfl d_Core_perform_47 ?_
      refine hd_iast hx hb hK hP hJ hA hS 16 cx 0 hcx (fun _ => rfl) rfl hbl d_Core_perform_50 (fun H locs hP hS => ?_)
      refine lv_aload_n hx hb d_Core_perform_51 rfl (lv_at hl 1 rfl) ?_
      refine lv_dup hx hb d_Core_perform_52 rfl ?_
      refine hd_get (C := R_Core) (T := F_Core) (N := 14) hx hb hts i_Core hown hK hP 10 cx hcx rfl rfl 7 (by decide) (hts _ k_130) (fun _ h9 => h9) rfl d_Core_perform_53 ?_
      refine lv_iconst (v := 1) hx hb d_Core_perform_56 (by decide) ?_
      refine lv_iadd hx hb d_Core_perform_57 ?_
      refine hd_put (ty := .int) (C := R_Core) (T := F_Core) (N := 14) hx hb hts i_Core t_Core t_Core_ok n_Core hown hK hP hJ hA hS 10 cx hcx rfl rfl 7 (by decide) (hts _ k_130) (fun _ h9 => h9) rfl (by decide +kernel) rfl rfl (Nat.le_of_ble_eq_true rfl) rfl d_Core_perform_58 (fun H locs hP hS => ?_)
      exact hd_vret hx hb hr hlk hK hN hP hS d_Core_perform_61 (by subst ex1; simp only [f_Core_perform]; rw [if_pos h2, if_pos h3])
    · refine lv_aload_n hx hb d_Core_perform_26 rfl (lv_at hl 1 rfl) ?_
      refine lv_iload_n hx hb d_Core_perform_27 rfl (lv_at hl 0 rfl) ?_
      refine hd_put (ty := .int) (C := R_Core) (T := F_Core) (N := 14) hx hb hts i_Core t_Core t_Core_ok n_Core hown hK hP hJ hA hS 10 cx hcx rfl rfl 6 (by decide) (hts _ k_128) (fun _ h9 => h9) rfl (by decide +kernel) rfl rfl (Nat.le_of_ble_eq_true rfl) rfl d_Core_perform_28 (fun H locs hP hS => ?_)
      refine lv_aload_n hx hb d_Core_perform_31 rfl (lv_at hl 1 rfl) ?_
      refine lv_dup hx hb d_Core_perform_32 rfl ?_
      refine hd_get (C := R_Core) (T := F_Core) (N := 14) hx hb hts i_Core hown hK hP 10 cx hcx rfl rfl 13 (by decide) (hts _ k_139) (fun _ h9 => h9) rfl d_Core_perform_33 ?_
      refine lv_iconst (v := 1) hx hb d_Core_perform_36 (by decide) ?_
      refine lv_iadd hx hb d_Core_perform_37 ?_
      refine hd_put (ty := .int) (C := R_Core) (T := F_Core) (N := 14) hx hb hts i_Core t_Core t_Core_ok n_Core hown hK hP hJ hA hS 10 cx hcx rfl rfl 13 (by decide) (hts _ k_139) (fun _ h9 => h9) rfl (by decide +kernel) rfl rfl (Nat.le_of_ble_eq_true rfl) rfl d_Core_perform_38 (fun H locs hP hS => ?_)
      refine lv_aload_n hx hb d_Core_perform_41 rfl (lv_at hl 1 rfl) ?_
      refine hd_get (C := R_Core) (T := F_Core) (N := 14) hx hb hts i_Core hown hK hP 10 cx hcx rfl rfl 12 (by decide) (hts _ k_138) (fun _ h9 => h9) rfl d_Core_perform_42 ?_
      refine lv_iload_n hx hb d_Core_perform_45 rfl (lv_at hl 3 rfl) ?_
      refine lv_aload_n hx hb d_Core_perform_46 rfl (lv_at hl 1 rfl) ?_
      refine hd_get (C := R_Core) (T := F_Core) (N := 14) hx hb hts i_Core hown hK hP 10 cx hcx rfl rfl 13 (by decide) (hts _ k_139) (fun _ h9 => h9) rfl d_Core_perform_47 ?_
      refine hd_iast hx hb hK hP hJ hA hS 16 cx 0 hcx (fun _ => rfl) rfl hbl d_Core_perform_50 (fun H locs hP hS => ?_)
      refine lv_aload_n hx hb d_Core_perform_51 rfl (lv_at hl 1 rfl) ?_
      refine lv_dup hx hb d_Core_perform_52 rfl ?_
      refine hd_get (C := R_Core) (T := F_Core) (N := 14) hx hb hts i_Core hown hK hP 10 cx hcx rfl rfl 7 (by decide) (hts _ k_130) (fun _ h9 => h9) rfl d_Core_perform_53 ?_
      refine lv_iconst (v := 1) hx hb d_Core_perform_56 (by decide) ?_
      refine lv_iadd hx hb d_Core_perform_57 ?_
      refine hd_put (ty := .int) (C := R_Core) (T := F_Core) (N := 14) hx hb hts i_Core t_Core t_Core_ok n_Core hown hK hP hJ hA hS 10 cx hcx rfl rfl 7 (by decide) (hts _ k_130) (fun _ h9 => h9) rfl (by decide +kernel) rfl rfl (Nat.le_of_ble_eq_true rfl) rfl d_Core_perform_58 (fun H locs hP hS => ?_)
      exact hd_vret hx hb hr hlk hK hN hP hS d_Core_perform_61 (by subst ex1; simp only [f_Core_perform]; rw [if_pos h2, if_neg h3])
  · refine lv_aload_n hx hb d_Core_perform_11 rfl (lv_at hl 1 rfl) ?_
    refine hd_get (C := R_Core) (T := F_Core) (N := 14) hx hb hts i_Core hown hK hP 10 cx hcx rfl rfl 10 (by decide) (hts _ k_136) (fun _ h9 => h9) rfl d_Core_perform_12 ?_
    refine lv_iload_n hx hb d_Core_perform_15 rfl (lv_at hl 3 rfl) ?_
    refine lv_aload_n hx hb d_Core_perform_16 rfl (lv_at hl 1 rfl) ?_
    refine hd_get (C := R_Core) (T := F_Core) (N := 14) hx hb hts i_Core hown hK hP 10 cx hcx rfl rfl 6 (by decide) (hts _ k_128) (fun _ h9 => h9) rfl d_Core_perform_17 ?_
    refine hd_iast hx hb hK hP hJ hA hS 14 cx 0 hcx (fun _ => rfl) rfl hbl d_Core_perform_20 (fun H locs hP hS => ?_)
    refine lv_iload_n hx hb d_Core_perform_21 rfl (lv_at hl 2 rfl) ?_
    refine lv_iconst (v := 1) hx hb d_Core_perform_22 (by decide) ?_
    refine lv_icmp_eq (tgt := 31) hx hb d_Core_perform_23 (by decide) (fun h12 => ?_) (fun h12 => ?_)
    · refine lv_aload_n hx hb d_Core_perform_31 rfl (lv_at hl 1 rfl) ?_
      refine lv_dup hx hb d_Core_perform_32 rfl ?_
      refine hd_get (C := R_Core) (T := F_Core) (N := 14) hx hb hts i_Core hown hK hP 10 cx hcx rfl rfl 13 (by decide) (hts _ k_139) (fun _ h9 => h9) rfl d_Core_perform_33 ?_
      refine lv_iconst (v := 1) hx hb d_Core_perform_36 (by decide) ?_
      refine lv_iadd hx hb d_Core_perform_37 ?_
      refine hd_put (ty := .int) (C := R_Core) (T := F_Core) (N := 14) hx hb hts i_Core t_Core t_Core_ok n_Core hown hK hP hJ hA hS 10 cx hcx rfl rfl 13 (by decide) (hts _ k_139) (fun _ h9 => h9) rfl (by decide +kernel) rfl rfl (Nat.le_of_ble_eq_true rfl) rfl d_Core_perform_38 (fun H locs hP hS => ?_)
      refine lv_aload_n hx hb d_Core_perform_41 rfl (lv_at hl 1 rfl) ?_
      refine hd_get (C := R_Core) (T := F_Core) (N := 14) hx hb hts i_Core hown hK hP 10 cx hcx rfl rfl 12 (by decide) (hts _ k_138) (fun _ h9 => h9) rfl d_Core_perform_42 ?_
      refine lv_iload_n hx hb d_Core_perform_45 rfl (lv_at hl 3 rfl) ?_
      refine lv_aload_n hx hb d_Core_perform_46 rfl (lv_at hl 1 rfl) ?_
      refine hd_get (C := R_Core) (T := F_Core) (N := 14) hx hb hts i_Core hown hK hP 10 cx hcx rfl rfl 13 (by decide) (hts _ k_139) (fun _ h9 => h9) rfl d_Core_perform_47 ?_
      refine hd_iast hx hb hK hP hJ hA hS 16 cx 0 hcx (fun _ => rfl) rfl hbl d_Core_perform_50 (fun H locs hP hS => ?_)
      refine lv_aload_n hx hb d_Core_perform_51 rfl (lv_at hl 1 rfl) ?_
      refine lv_dup hx hb d_Core_perform_52 rfl ?_
      refine hd_get (C := R_Core) (T := F_Core) (N := 14) hx hb hts i_Core hown hK hP 10 cx hcx rfl rfl 7 (by decide) (hts _ k_130) (fun _ h9 => h9) rfl d_Core_perform_53 ?_
      refine lv_iconst (v := 1) hx hb d_Core_perform_56 (by decide) ?_
      refine lv_iadd hx hb d_Core_perform_57 ?_
      refine hd_put (ty := .int) (C := R_Core) (T := F_Core) (N := 14) hx hb hts i_Core t_Core t_Core_ok n_Core hown hK hP hJ hA hS 10 cx hcx rfl rfl 7 (by decide) (hts _ k_130) (fun _ h9 => h9) rfl (by decide +kernel) rfl rfl (Nat.le_of_ble_eq_true rfl) rfl d_Core_perform_58 (fun H locs hP hS => ?_)
      exact hd_vret hx hb hr hlk hK hN hP hS d_Core_perform_61 (by subst ex1; simp only [f_Core_perform]; rw [if_neg h2, if_pos h12])
    · refine lv_aload_n hx hb d_Core_perform_26 rfl (lv_at hl 1 rfl) ?_
      refine lv_iload_n hx hb d_Core_perform_27 rfl (lv_at hl 0 rfl) ?_
      refine hd_put (ty := .int) (C := R_Core) (T := F_Core) (N := 14) hx hb hts i_Core t_Core t_Core_ok n_Core hown hK hP hJ hA hS 10 cx hcx rfl rfl 6 (by decide) (hts _ k_128) (fun _ h9 => h9) rfl (by decide +kernel) rfl rfl (Nat.le_of_ble_eq_true rfl) rfl d_Core_perform_28 (fun H locs hP hS => ?_)
      refine lv_aload_n hx hb d_Core_perform_31 rfl (lv_at hl 1 rfl) ?_
      refine lv_dup hx hb d_Core_perform_32 rfl ?_
      refine hd_get (C := R_Core) (T := F_Core) (N := 14) hx hb hts i_Core hown hK hP 10 cx hcx rfl rfl 13 (by decide) (hts _ k_139) (fun _ h9 => h9) rfl d_Core_perform_33 ?_
      refine lv_iconst (v := 1) hx hb d_Core_perform_36 (by decide) ?_
      refine lv_iadd hx hb d_Core_perform_37 ?_
      refine hd_put (ty := .int) (C := R_Core) (T := F_Core) (N := 14) hx hb hts i_Core t_Core t_Core_ok n_Core hown hK hP hJ hA hS 10 cx hcx rfl rfl 13 (by decide) (hts _ k_139) (fun _ h9 => h9) rfl (by decide +kernel) rfl rfl (Nat.le_of_ble_eq_true rfl) rfl d_Core_perform_38 (fun H locs hP hS => ?_)
      refine lv_aload_n hx hb d_Core_perform_41 rfl (lv_at hl 1 rfl) ?_
      refine hd_get (C := R_Core) (T := F_Core) (N := 14) hx hb hts i_Core hown hK hP 10 cx hcx rfl rfl 12 (by decide) (hts _ k_138) (fun _ h9 => h9) rfl d_Core_perform_42 ?_
      refine lv_iload_n hx hb d_Core_perform_45 rfl (lv_at hl 3 rfl) ?_
      refine lv_aload_n hx hb d_Core_perform_46 rfl (lv_at hl 1 rfl) ?_
      refine hd_get (C := R_Core) (T := F_Core) (N := 14) hx hb hts i_Core hown hK hP 10 cx hcx rfl rfl 13 (by decide) (hts _ k_139) (fun _ h9 => h9) rfl d_Core_perform_47 ?_
      refine hd_iast hx hb hK hP hJ hA hS 16 cx 0 hcx (fun _ => rfl) rfl hbl d_Core_perform_50 (fun H locs hP hS => ?_)
      refine lv_aload_n hx hb d_Core_perform_51 rfl (lv_at hl 1 rfl) ?_
      refine lv_dup hx hb d_Core_perform_52 rfl ?_
      refine hd_get (C := R_Core) (T := F_Core) (N := 14) hx hb hts i_Core hown hK hP 10 cx hcx rfl rfl 7 (by decide) (hts _ k_130) (fun _ h9 => h9) rfl d_Core_perform_53 ?_
      refine lv_iconst (v := 1) hx hb d_Core_perform_56 (by decide) ?_
      refine lv_iadd hx hb d_Core_perform_57 ?_
      refine hd_put (ty := .int) (C := R_Core) (T := F_Core) (N := 14) hx hb hts i_Core t_Core t_Core_ok n_Core hown hK hP hJ hA hS 10 cx hcx rfl rfl 7 (by decide) (hts _ k_130) (fun _ h9 => h9) rfl (by decide +kernel) rfl rfl (Nat.le_of_ble_eq_true rfl) rfl d_Core_perform_58 (fun H locs hP hS => ?_)
      exact hd_vret hx hb hr hlk hK hN hP hS d_Core_perform_61 (by subst ex1; simp only [f_Core_perform]; rw [if_neg h2, if_neg h12])
def f_Core_replace (cx : Nat) (block_ : Int32) (v : hd_V) : hd_V :=
  if (v 13 cx block_.toNatClampNeg) = 2 then
    let v5 := f_Net_sendWord 3 (v 10 cx 0) 4 block_ (v 14 cx block_.toNatClampNeg) v
    let v6 := hd_u v5 13 cx block_.toNatClampNeg 8
    let v7 := hd_u v6 10 cx 8 64
    v7
  else
    let v2 := f_Net_sendPlain 2 (v 10 cx 0) 4 block_ v
    let v3 := hd_u v2 13 cx block_.toNatClampNeg 9
    let v4 := hd_u v3 10 cx 8 64
    v4
set_option maxHeartbeats 4000000 in
set_option maxRecDepth 100000 in
theorem c_Core_replace (l : Launch) {D : va_G} {cI cZ cM cC : ClassId} {n : Nat} {ad : Nat → Nat → Nat} (hJ : hd_J (hx_L n) ad) (cx : Nat) (block_ : Int32) (v : hd_V) (hcx : cx < n) (hbl : vp_in block_ 4) (hnet : hx_net v) : Met l y_Core_replace w_Core_replace { frames := 2, cells := 0, slots := 0, locals := 53 } (va_Pc [.ref (ad 10 cx), .int block_] (hx_B D cI cZ cM cC n ad v)) (va_Qv (fun u => u = f_Core_replace cx block_ v) (fun u => hx_B D cI cZ cM cC n ad u) (hx_A n ad)) 0 0 (hx_A n ad) := by
  refine Met.ofW (cc := b_Core_replace) (maxL := 2) (ret := none) (by decide) rfl ?_
  intro p e s m args below meth c s₁ B hml hv
  obtain ⟨rfl, hP, hK, hN⟩ := hv
  have hx := B.exec
  have hb := B.bytes
  have hr := B.returns
  have hlk := B.notSynchronized
  have hts0 := atoms_spec (ws := w_Core_replace) B.pre
  have hts := fun w (hw : w ∈ lw_g) => hts0 w (List.mem_cons_of_mem _ hw)
  have hown : s.vm.findClass R_Core = some m.cls := findClass_of_methodNamed B.named
  have hA : ∀ q, hx_A n ad q → hx_A n ad q := fun _ h => h
  have hS : va_S (hx_A n ad) s.heap s.heap [] := va_S.rf
  have hl := lv_entry ([.ref (ad 10 cx), .int block_]) (n := 2) (Nat.le_of_ble_eq_true rfl)
  rw [lg_entry_eq]
  generalize (lg_sl ([.ref (ad 10 cx), .int block_]) ++ List.replicate (2 - (lg_sl ([.ref (ad 10 cx), .int block_])).length) Slot.unset).toArray = ls at hl ⊢
  have hl : lv_has ls 2 [(0, .ref (ad 10 cx)), (1, .int block_)] := hl
  refine lv_aload_n hx hb d_Core_replace_0 rfl (lv_at hl 0 rfl) ?_
  refine hd_get (C := R_Core) (T := F_Core) (N := 14) hx hb hts i_Core hown hK hP 10 cx hcx rfl rfl 9 (by decide) (hts _ k_134) (fun _ h9 => h9) rfl d_Core_replace_1 ?_
  refine lv_iload_n hx hb d_Core_replace_4 rfl (lv_at hl 1 rfl) ?_
  refine hd_iald hx hb hK hP 13 cx 0 hcx rfl rfl hbl d_Core_replace_5 ?_
  refine lv_iconst (v := 2) hx hb d_Core_replace_6 (by decide) ?_
  refine lv_icmp_ne (tgt := 41) hx hb d_Core_replace_7 (by decide) (fun h1 => ?_) (fun h1 => ?_)
  · refine lv_aload_n hx hb d_Core_replace_41 rfl (lv_at hl 0 rfl) ?_
    refine hd_get (C := R_Core) (T := F_Core) (N := 14) hx hb hts i_Core hown hK hP 10 cx hcx rfl rfl 2 (by decide) (hts _ k_124) (fun _ h9 => h9) rfl d_Core_replace_42 ?_
    refine lv_iconst (v := 2) hx hb d_Core_replace_45 (by decide) ?_
    refine lv_aload_n hx hb d_Core_replace_46 rfl (lv_at hl 0 rfl) ?_
    refine hd_get (C := R_Core) (T := F_Core) (N := 14) hx hb hts i_Core hown hK hP 10 cx hcx rfl rfl 0 (by decide) (hts _ k_122) (fun _ h9 => h9) rfl d_Core_replace_47 ?_
    refine lv_iconst (v := 4) hx hb d_Core_replace_50 (by decide) ?_
    refine lv_iload_n hx hb d_Core_replace_51 rfl (lv_at hl 1 rfl) ?_
    refine hd_cV hK (va_runV (As := [.int 2, .int (v 10 cx 0), .int 4, .int block_]) (rest := []) ⟨hx, hb, hml, hown, hts⟩ (c_Net_sendPlain l hJ 2 (v 10 cx 0) 4 block_ v hnet) (cwV 4 hts (hd_gV g_Net_sendPlain k_249 k_250 k_251 k_3) rfl rfl rfl (by decide +kernel) ⟨Nat.le_of_ble_eq_true rfl, Nat.le_of_ble_eq_true rfl⟩) (hd_preV hK hN hP 1 0 Nat.one_pos rfl rfl [.int 2, .int (v 10 cx 0), .int 4, .int block_]) rfl rfl hl.1 rfl (lv_room (Nat.le_of_ble_eq_true rfl)) d_Core_replace_52 ⟨Nat.zero_le _, Nat.zero_le _⟩) hS hA (fun H locs hP hS => ?_)
    refine lv_aload_n hx hb d_Core_replace_55 rfl (lv_at hl 0 rfl) ?_
    refine hd_get (C := R_Core) (T := F_Core) (N := 14) hx hb hts i_Core hown hK hP 10 cx hcx rfl rfl 9 (by decide) (hts _ k_134) (fun _ h9 => h9) rfl d_Core_replace_56 ?_
    refine lv_iload_n hx hb d_Core_replace_59 rfl (lv_at hl 1 rfl) ?_
    refine lv_bipush (v := 9) hx hb d_Core_replace_60 (by decide) ?_
    refine hd_iast hx hb hK hP hJ hA hS 13 cx 0 hcx (fun _ => rfl) rfl hbl d_Core_replace_62 (fun H locs hP hS => ?_)
    refine lv_aload_n hx hb d_Core_replace_63 rfl (lv_at hl 0 rfl) ?_
    refine lv_bipush (v := 64) hx hb d_Core_replace_64 (by decide) ?_
    refine hd_put (ty := .int) (C := R_Core) (T := F_Core) (N := 14) hx hb hts i_Core t_Core t_Core_ok n_Core hown hK hP hJ hA hS 10 cx hcx rfl rfl 8 (by decide) (hts _ k_132) (fun _ h9 => h9) rfl (by decide +kernel) rfl rfl (Nat.le_of_ble_eq_true rfl) rfl d_Core_replace_66 (fun H locs hP hS => ?_)
    exact hd_vret hx hb hr hlk hK hN hP hS d_Core_replace_69 (by simp only [f_Core_replace]; rw [if_neg h1])
  · refine lv_aload_n hx hb d_Core_replace_10 rfl (lv_at hl 0 rfl) ?_
    refine hd_get (C := R_Core) (T := F_Core) (N := 14) hx hb hts i_Core hown hK hP 10 cx hcx rfl rfl 2 (by decide) (hts _ k_124) (fun _ h9 => h9) rfl d_Core_replace_11 ?_
    refine lv_iconst (v := 3) hx hb d_Core_replace_14 (by decide) ?_
    refine lv_aload_n hx hb d_Core_replace_15 rfl (lv_at hl 0 rfl) ?_
    refine hd_get (C := R_Core) (T := F_Core) (N := 14) hx hb hts i_Core hown hK hP 10 cx hcx rfl rfl 0 (by decide) (hts _ k_122) (fun _ h9 => h9) rfl d_Core_replace_16 ?_
    refine lv_iconst (v := 4) hx hb d_Core_replace_19 (by decide) ?_
    refine lv_iload_n hx hb d_Core_replace_20 rfl (lv_at hl 1 rfl) ?_
    refine lv_aload_n hx hb d_Core_replace_21 rfl (lv_at hl 0 rfl) ?_
    refine hd_get (C := R_Core) (T := F_Core) (N := 14) hx hb hts i_Core hown hK hP 10 cx hcx rfl rfl 10 (by decide) (hts _ k_136) (fun _ h9 => h9) rfl d_Core_replace_22 ?_
    refine lv_iload_n hx hb d_Core_replace_25 rfl (lv_at hl 1 rfl) ?_
    refine hd_iald hx hb hK hP 14 cx 0 hcx rfl rfl hbl d_Core_replace_26 ?_
    refine hd_cV hK (va_runV (As := [.int 3, .int (v 10 cx 0), .int 4, .int block_, .int (v 14 cx block_.toNatClampNeg)]) (rest := []) ⟨hx, hb, hml, hown, hts⟩ (c_Net_sendWord l hJ 3 (v 10 cx 0) 4 block_ (v 14 cx block_.toNatClampNeg) v hnet) (cwV 5 hts (hd_gV g_Net_sendWord k_241 k_242 k_243 k_3) rfl rfl rfl (by decide +kernel) ⟨Nat.le_of_ble_eq_true rfl, Nat.le_of_ble_eq_true rfl⟩) (hd_preV hK hN hP 1 0 Nat.one_pos rfl rfl [.int 3, .int (v 10 cx 0), .int 4, .int block_, .int (v 14 cx block_.toNatClampNeg)]) rfl rfl hl.1 rfl (lv_room (Nat.le_of_ble_eq_true rfl)) d_Core_replace_27 ⟨Nat.zero_le _, Nat.zero_le _⟩) hS hA (fun H locs hP hS => ?_)
    refine lv_aload_n hx hb d_Core_replace_30 rfl (lv_at hl 0 rfl) ?_
    refine hd_get (C := R_Core) (T := F_Core) (N := 14) hx hb hts i_Core hown hK hP 10 cx hcx rfl rfl 9 (by decide) (hts _ k_134) (fun _ h9 => h9) rfl d_Core_replace_31 ?_
    refine lv_iload_n hx hb d_Core_replace_34 rfl (lv_at hl 1 rfl) ?_
    refine lv_bipush (v := 8) hx hb d_Core_replace_35 (by decide) ?_
    refine hd_iast hx hb hK hP hJ hA hS 13 cx 0 hcx (fun _ => rfl) rfl hbl d_Core_replace_37 (fun H locs hP hS => ?_)
    refine lv_goto (tgt := 63) hx hb d_Core_replace_38 (by decide) ?_
    refine lv_aload_n hx hb d_Core_replace_63 rfl (lv_at hl 0 rfl) ?_
    refine lv_bipush (v := 64) hx hb d_Core_replace_64 (by decide) ?_
    refine hd_put (ty := .int) (C := R_Core) (T := F_Core) (N := 14) hx hb hts i_Core t_Core t_Core_ok n_Core hown hK hP hJ hA hS 10 cx hcx rfl rfl 8 (by decide) (hts _ k_132) (fun _ h9 => h9) rfl (by decide +kernel) rfl rfl (Nat.le_of_ble_eq_true rfl) rfl d_Core_replace_66 (fun H locs hP hS => ?_)
    exact hd_vret hx hb hr hlk hK hN hP hS d_Core_replace_69 (by simp only [f_Core_replace]; rw [if_pos h1])
def f_Core_request (cx : Nat) (op_ : Int32) (block_ : Int32) (v : hd_V) : hd_V :=
  if op_ = 0 then
    let v10 := f_Net_sendPlain 0 (v 10 cx 0) 4 block_ v
    let v11 := hd_u v10 13 cx block_.toNatClampNeg 3
    let v12 := hd_u v11 10 cx 8 32
    v12
  else
    let v2 := f_Net_sendPlain 1 (v 10 cx 0) 4 block_ v
    if (v2 13 cx block_.toNatClampNeg) = 1 then
      let v7 := hd_u v2 13 cx block_.toNatClampNeg 6
      let v8 := hd_u v7 15 cx block_.toNatClampNeg 0
      let v9 := hd_u v8 10 cx 8 32
      v9
    else
      let v4 := hd_u v2 13 cx block_.toNatClampNeg 4
      let v5 := hd_u v4 15 cx block_.toNatClampNeg 0
      let v6 := hd_u v5 10 cx 8 32
      v6
set_option maxHeartbeats 4000000 in
set_option maxRecDepth 100000 in
theorem c_Core_request (l : Launch) {D : va_G} {cI cZ cM cC : ClassId} {n : Nat} {ad : Nat → Nat → Nat} (hJ : hd_J (hx_L n) ad) (cx : Nat) (op_ : Int32) (block_ : Int32) (v : hd_V) (hcx : cx < n) (hbl : vp_in block_ 4) (hnet : hx_net v) : Met l y_Core_request w_Core_request { frames := 2, cells := 0, slots := 0, locals := 52 } (va_Pc [.ref (ad 10 cx), .int op_, .int block_] (hx_B D cI cZ cM cC n ad v)) (va_Qv (fun u => u = f_Core_request cx op_ block_ v) (fun u => hx_B D cI cZ cM cC n ad u) (hx_A n ad)) 0 0 (hx_A n ad) := by
  refine Met.ofW (cc := b_Core_request) (maxL := 3) (ret := none) (by decide) rfl ?_
  intro p e s m args below meth c s₁ B hml hv
  obtain ⟨rfl, hP, hK, hN⟩ := hv
  have hx := B.exec
  have hb := B.bytes
  have hr := B.returns
  have hlk := B.notSynchronized
  have hts0 := atoms_spec (ws := w_Core_request) B.pre
  have hts := fun w (hw : w ∈ lw_g) => hts0 w (List.mem_cons_of_mem _ hw)
  have hown : s.vm.findClass R_Core = some m.cls := findClass_of_methodNamed B.named
  have hA : ∀ q, hx_A n ad q → hx_A n ad q := fun _ h => h
  have hS : va_S (hx_A n ad) s.heap s.heap [] := va_S.rf
  have hl := lv_entry ([.ref (ad 10 cx), .int op_, .int block_]) (n := 3) (Nat.le_of_ble_eq_true rfl)
  rw [lg_entry_eq]
  generalize (lg_sl ([.ref (ad 10 cx), .int op_, .int block_]) ++ List.replicate (3 - (lg_sl ([.ref (ad 10 cx), .int op_, .int block_])).length) Slot.unset).toArray = ls at hl ⊢
  have hl : lv_has ls 3 [(0, .ref (ad 10 cx)), (1, .int op_), (2, .int block_)] := hl
  refine lv_iload_n hx hb d_Core_request_0 rfl (lv_at hl 1 rfl) ?_
  refine lv_if_ne (tgt := 28) hx hb d_Core_request_1 (by decide) (fun h1 => ?_) (fun h1 => ?_)
  · refine lv_aload_n hx hb d_Core_request_28 rfl (lv_at hl 0 rfl) ?_
    refine hd_get (C := R_Core) (T := F_Core) (N := 14) hx hb hts i_Core hown hK hP 10 cx hcx rfl rfl 2 (by decide) (hts _ k_124) (fun _ h9 => h9) rfl d_Core_request_29 ?_
    refine lv_iconst (v := 1) hx hb d_Core_request_32 (by decide) ?_
    refine lv_aload_n hx hb d_Core_request_33 rfl (lv_at hl 0 rfl) ?_
    refine hd_get (C := R_Core) (T := F_Core) (N := 14) hx hb hts i_Core hown hK hP 10 cx hcx rfl rfl 0 (by decide) (hts _ k_122) (fun _ h9 => h9) rfl d_Core_request_34 ?_
    refine lv_iconst (v := 4) hx hb d_Core_request_37 (by decide) ?_
    refine lv_iload_n hx hb d_Core_request_38 rfl (lv_at hl 2 rfl) ?_
    refine hd_cV hK (va_runV (As := [.int 1, .int (v 10 cx 0), .int 4, .int block_]) (rest := []) ⟨hx, hb, hml, hown, hts⟩ (c_Net_sendPlain l hJ 1 (v 10 cx 0) 4 block_ v hnet) (cwV 4 hts (hd_gV g_Net_sendPlain k_249 k_250 k_251 k_3) rfl rfl rfl (by decide +kernel) ⟨Nat.le_of_ble_eq_true rfl, Nat.le_of_ble_eq_true rfl⟩) (hd_preV hK hN hP 1 0 Nat.one_pos rfl rfl [.int 1, .int (v 10 cx 0), .int 4, .int block_]) rfl rfl hl.1 rfl (lv_room (Nat.le_of_ble_eq_true rfl)) d_Core_request_39 ⟨Nat.zero_le _, Nat.zero_le _⟩) hS hA (fun H locs hP hS => ?_)
    refine lv_aload_n hx hb d_Core_request_42 rfl (lv_at hl 0 rfl) ?_
    refine hd_get (C := R_Core) (T := F_Core) (N := 14) hx hb hts i_Core hown hK hP 10 cx hcx rfl rfl 9 (by decide) (hts _ k_134) (fun _ h9 => h9) rfl d_Core_request_43 ?_
    refine lv_iload_n hx hb d_Core_request_46 rfl (lv_at hl 2 rfl) ?_
    refine lv_aload_n hx hb d_Core_request_47 rfl (lv_at hl 0 rfl) ?_
    refine hd_get (C := R_Core) (T := F_Core) (N := 14) hx hb hts i_Core hown hK hP 10 cx hcx rfl rfl 9 (by decide) (hts _ k_134) (fun _ h9 => h9) rfl d_Core_request_48 ?_
    refine lv_iload_n hx hb d_Core_request_51 rfl (lv_at hl 2 rfl) ?_
    refine hd_iald hx hb hK hP 13 cx 0 hcx rfl rfl hbl d_Core_request_52 ?_
    refine lv_iconst (v := 1) hx hb d_Core_request_53 (by decide) ?_
    refine lv_icmp_ne (tgt := 62) hx hb d_Core_request_54 (by decide) (fun h3 => ?_) (fun h3 => ?_)
    · refine lv_iconst (v := 4) hx hb d_Core_request_62 (by decide) ?_
      refine hd_iast hx hb hK hP hJ hA hS 13 cx 0 hcx (fun _ => rfl) rfl hbl d_Core_request_63 (fun H locs hP hS => ?_)
      refine lv_aload_n hx hb d_Core_request_64 rfl (lv_at hl 0 rfl) ?_
      refine hd_get (C := R_Core) (T := F_Core) (N := 14) hx hb hts i_Core hown hK hP 10 cx hcx rfl rfl 11 (by decide) (hts _ k_137) (fun _ h9 => h9) rfl d_Core_request_65 ?_
      refine lv_iload_n hx hb d_Core_request_68 rfl (lv_at hl 2 rfl) ?_
      refine lv_iconst (v := 0) hx hb d_Core_request_69 (by decide) ?_
      refine hd_iast hx hb hK hP hJ hA hS 15 cx 0 hcx (fun _ => rfl) rfl hbl d_Core_request_70 (fun H locs hP hS => ?_)
      refine lv_aload_n hx hb d_Core_request_71 rfl (lv_at hl 0 rfl) ?_
      refine lv_bipush (v := 32) hx hb d_Core_request_72 (by decide) ?_
      refine hd_put (ty := .int) (C := R_Core) (T := F_Core) (N := 14) hx hb hts i_Core t_Core t_Core_ok n_Core hown hK hP hJ hA hS 10 cx hcx rfl rfl 8 (by decide) (hts _ k_132) (fun _ h9 => h9) rfl (by decide +kernel) rfl rfl (Nat.le_of_ble_eq_true rfl) rfl d_Core_request_74 (fun H locs hP hS => ?_)
      exact hd_vret hx hb hr hlk hK hN hP hS d_Core_request_77 (by simp only [f_Core_request]; rw [if_neg h1, if_neg h3])
    · refine lv_bipush (v := 6) hx hb d_Core_request_57 (by decide) ?_
      refine lv_goto (tgt := 63) hx hb d_Core_request_59 (by decide) ?_
      refine hd_iast hx hb hK hP hJ hA hS 13 cx 0 hcx (fun _ => rfl) rfl hbl d_Core_request_63 (fun H locs hP hS => ?_)
      refine lv_aload_n hx hb d_Core_request_64 rfl (lv_at hl 0 rfl) ?_
      refine hd_get (C := R_Core) (T := F_Core) (N := 14) hx hb hts i_Core hown hK hP 10 cx hcx rfl rfl 11 (by decide) (hts _ k_137) (fun _ h9 => h9) rfl d_Core_request_65 ?_
      refine lv_iload_n hx hb d_Core_request_68 rfl (lv_at hl 2 rfl) ?_
      refine lv_iconst (v := 0) hx hb d_Core_request_69 (by decide) ?_
      refine hd_iast hx hb hK hP hJ hA hS 15 cx 0 hcx (fun _ => rfl) rfl hbl d_Core_request_70 (fun H locs hP hS => ?_)
      refine lv_aload_n hx hb d_Core_request_71 rfl (lv_at hl 0 rfl) ?_
      refine lv_bipush (v := 32) hx hb d_Core_request_72 (by decide) ?_
      refine hd_put (ty := .int) (C := R_Core) (T := F_Core) (N := 14) hx hb hts i_Core t_Core t_Core_ok n_Core hown hK hP hJ hA hS 10 cx hcx rfl rfl 8 (by decide) (hts _ k_132) (fun _ h9 => h9) rfl (by decide +kernel) rfl rfl (Nat.le_of_ble_eq_true rfl) rfl d_Core_request_74 (fun H locs hP hS => ?_)
      exact hd_vret hx hb hr hlk hK hN hP hS d_Core_request_77 (by simp only [f_Core_request]; rw [if_neg h1, if_pos h3])
  · refine lv_aload_n hx hb d_Core_request_4 rfl (lv_at hl 0 rfl) ?_
    refine hd_get (C := R_Core) (T := F_Core) (N := 14) hx hb hts i_Core hown hK hP 10 cx hcx rfl rfl 2 (by decide) (hts _ k_124) (fun _ h9 => h9) rfl d_Core_request_5 ?_
    refine lv_iconst (v := 0) hx hb d_Core_request_8 (by decide) ?_
    refine lv_aload_n hx hb d_Core_request_9 rfl (lv_at hl 0 rfl) ?_
    refine hd_get (C := R_Core) (T := F_Core) (N := 14) hx hb hts i_Core hown hK hP 10 cx hcx rfl rfl 0 (by decide) (hts _ k_122) (fun _ h9 => h9) rfl d_Core_request_10 ?_
    refine lv_iconst (v := 4) hx hb d_Core_request_13 (by decide) ?_
    refine lv_iload_n hx hb d_Core_request_14 rfl (lv_at hl 2 rfl) ?_
    refine hd_cV hK (va_runV (As := [.int 0, .int (v 10 cx 0), .int 4, .int block_]) (rest := []) ⟨hx, hb, hml, hown, hts⟩ (c_Net_sendPlain l hJ 0 (v 10 cx 0) 4 block_ v hnet) (cwV 4 hts (hd_gV g_Net_sendPlain k_249 k_250 k_251 k_3) rfl rfl rfl (by decide +kernel) ⟨Nat.le_of_ble_eq_true rfl, Nat.le_of_ble_eq_true rfl⟩) (hd_preV hK hN hP 1 0 Nat.one_pos rfl rfl [.int 0, .int (v 10 cx 0), .int 4, .int block_]) rfl rfl hl.1 rfl (lv_room (Nat.le_of_ble_eq_true rfl)) d_Core_request_15 ⟨Nat.zero_le _, Nat.zero_le _⟩) hS hA (fun H locs hP hS => ?_)
    refine lv_aload_n hx hb d_Core_request_18 rfl (lv_at hl 0 rfl) ?_
    refine hd_get (C := R_Core) (T := F_Core) (N := 14) hx hb hts i_Core hown hK hP 10 cx hcx rfl rfl 9 (by decide) (hts _ k_134) (fun _ h9 => h9) rfl d_Core_request_19 ?_
    refine lv_iload_n hx hb d_Core_request_22 rfl (lv_at hl 2 rfl) ?_
    refine lv_iconst (v := 3) hx hb d_Core_request_23 (by decide) ?_
    refine hd_iast hx hb hK hP hJ hA hS 13 cx 0 hcx (fun _ => rfl) rfl hbl d_Core_request_24 (fun H locs hP hS => ?_)
    refine lv_goto (tgt := 71) hx hb d_Core_request_25 (by decide) ?_
    refine lv_aload_n hx hb d_Core_request_71 rfl (lv_at hl 0 rfl) ?_
    refine lv_bipush (v := 32) hx hb d_Core_request_72 (by decide) ?_
    refine hd_put (ty := .int) (C := R_Core) (T := F_Core) (N := 14) hx hb hts i_Core t_Core t_Core_ok n_Core hown hK hP hJ hA hS 10 cx hcx rfl rfl 8 (by decide) (hts _ k_132) (fun _ h9 => h9) rfl (by decide +kernel) rfl rfl (Nat.le_of_ble_eq_true rfl) rfl d_Core_request_74 (fun H locs hP hS => ?_)
    exact hd_vret hx hb hr hlk hK hN hP hS d_Core_request_77 (by simp only [f_Core_request]; rw [if_pos h1])
def f_Core_meaningOf (cx : Nat) (block_ : Int32) (v : hd_V) : Int32 :=
  let x1 : Int32 := v 13 cx block_.toNatClampNeg
  if x1 = 1 then
    v 14 cx block_.toNatClampNeg
  else
    if x1 = 2 then
      v 14 cx block_.toNatClampNeg
    else
      if x1 = 6 then
        v 14 cx block_.toNatClampNeg
      else
        if x1 = 7 then
          v 14 cx block_.toNatClampNeg
        else
          if x1 = 8 then
            v 14 cx block_.toNatClampNeg
          else
            if x1 = 9 then
              v 14 cx block_.toNatClampNeg
            else
              0
set_option maxHeartbeats 4000000 in
set_option maxRecDepth 100000 in
theorem c_Core_meaningOf (l : Launch) {D : va_G} {cI cZ cM cC : ClassId} {n : Nat} {ad : Nat → Nat → Nat} (hJ : hd_J (hx_L n) ad) (cx : Nat) (block_ : Int32) (v : hd_V) (hcx : cx < n) (hbl : vp_in block_ 4) : Met l y_Core_meaningOf w_Core_meaningOf { frames := 0, cells := 0, slots := 0, locals := 0 } (va_Pc [.ref (ad 10 cx), .int block_] (hx_B D cI cZ cM cC n ad v)) (va_Qi (fun r u => r = f_Core_meaningOf cx block_ v ∧ u = v) (fun u => hx_B D cI cZ cM cC n ad u) (hx_A n ad)) 0 0 (hx_A n ad) := by
  refine Met.ofW (cc := b_Core_meaningOf) (maxL := 2) (ret := (some .int)) (by decide) rfl ?_
  intro p e s m args below meth c s₁ B hml hv
  obtain ⟨rfl, hP, hK, hN⟩ := hv
  have hx := B.exec
  have hb := B.bytes
  have hr := B.returns
  have hlk := B.notSynchronized
  have hts0 := atoms_spec (ws := w_Core_meaningOf) B.pre
  have hts := fun w (hw : w ∈ lw_g) => hts0 w (List.mem_cons_of_mem _ hw)
  have hown : s.vm.findClass R_Core = some m.cls := findClass_of_methodNamed B.named
  have hA : ∀ q, hx_A n ad q → hx_A n ad q := fun _ h => h
  have hS : va_S (hx_A n ad) s.heap s.heap [] := va_S.rf
  have hl := lv_entry ([.ref (ad 10 cx), .int block_]) (n := 2) (Nat.le_of_ble_eq_true rfl)
  rw [lg_entry_eq]
  generalize (lg_sl ([.ref (ad 10 cx), .int block_]) ++ List.replicate (2 - (lg_sl ([.ref (ad 10 cx), .int block_])).length) Slot.unset).toArray = ls at hl ⊢
  have hl : lv_has ls 2 [(0, .ref (ad 10 cx)), (1, .int block_)] := hl
  refine lv_aload_n hx hb d_Core_meaningOf_0 rfl (lv_at hl 0 rfl) ?_
  refine hd_get (C := R_Core) (T := F_Core) (N := 14) hx hb hts i_Core hown hK hP 10 cx hcx rfl rfl 9 (by decide) (hts _ k_134) (fun _ h9 => h9) rfl d_Core_meaningOf_1 ?_
  refine lv_iload_n hx hb d_Core_meaningOf_4 rfl (lv_at hl 1 rfl) ?_
  refine hd_iald hx hb hK hP 13 cx 0 hcx rfl rfl hbl d_Core_meaningOf_5 ?_
  refine lv_topi (fun x1 ex1 => ?_)
  by_cases h2 : x1 = 1
  · refine lv_tableIn (off := 50) (tgt := 56) hx hb d_Core_meaningOf_6 (by rw [h2]; decide) (by rw [h2]; decide) (by rw [h2]; rfl) (by decide) ?_
    refine lv_aload_n hx hb d_Core_meaningOf_56 rfl (lv_at hl 0 rfl) ?_
    refine hd_get (C := R_Core) (T := F_Core) (N := 14) hx hb hts i_Core hown hK hP 10 cx hcx rfl rfl 10 (by decide) (hts _ k_136) (fun _ h9 => h9) rfl d_Core_meaningOf_57 ?_
    refine lv_iload_n hx hb d_Core_meaningOf_60 rfl (lv_at hl 1 rfl) ?_
    refine hd_iald hx hb hK hP 14 cx 0 hcx rfl rfl hbl d_Core_meaningOf_61 ?_
    exact hd_iret hx hb hr hlk hK hN hP hS d_Core_meaningOf_62 ⟨by subst ex1; simp only [f_Core_meaningOf]; rw [if_pos h2], rfl⟩
  · skip
    by_cases h3 : x1 = 2
    · refine lv_tableIn (off := 50) (tgt := 56) hx hb d_Core_meaningOf_6 (by rw [h3]; decide) (by rw [h3]; decide) (by rw [h3]; rfl) (by decide) ?_
      refine lv_aload_n hx hb d_Core_meaningOf_56 rfl (lv_at hl 0 rfl) ?_
      refine hd_get (C := R_Core) (T := F_Core) (N := 14) hx hb hts i_Core hown hK hP 10 cx hcx rfl rfl 10 (by decide) (hts _ k_136) (fun _ h9 => h9) rfl d_Core_meaningOf_57 ?_
      refine lv_iload_n hx hb d_Core_meaningOf_60 rfl (lv_at hl 1 rfl) ?_
      refine hd_iald hx hb hK hP 14 cx 0 hcx rfl rfl hbl d_Core_meaningOf_61 ?_
      exact hd_iret hx hb hr hlk hK hN hP hS d_Core_meaningOf_62 ⟨by subst ex1; simp only [f_Core_meaningOf]; rw [if_neg h2, if_pos h3], rfl⟩
    · skip
      by_cases h4 : x1 = 6
      · refine lv_tableIn (off := 50) (tgt := 56) hx hb d_Core_meaningOf_6 (by rw [h4]; decide) (by rw [h4]; decide) (by rw [h4]; rfl) (by decide) ?_
        refine lv_aload_n hx hb d_Core_meaningOf_56 rfl (lv_at hl 0 rfl) ?_
        refine hd_get (C := R_Core) (T := F_Core) (N := 14) hx hb hts i_Core hown hK hP 10 cx hcx rfl rfl 10 (by decide) (hts _ k_136) (fun _ h9 => h9) rfl d_Core_meaningOf_57 ?_
        refine lv_iload_n hx hb d_Core_meaningOf_60 rfl (lv_at hl 1 rfl) ?_
        refine hd_iald hx hb hK hP 14 cx 0 hcx rfl rfl hbl d_Core_meaningOf_61 ?_
        exact hd_iret hx hb hr hlk hK hN hP hS d_Core_meaningOf_62 ⟨by subst ex1; simp only [f_Core_meaningOf]; rw [if_neg h2, if_neg h3, if_pos h4], rfl⟩
      · skip
        by_cases h5 : x1 = 7
        · refine lv_tableIn (off := 50) (tgt := 56) hx hb d_Core_meaningOf_6 (by rw [h5]; decide) (by rw [h5]; decide) (by rw [h5]; rfl) (by decide) ?_
          refine lv_aload_n hx hb d_Core_meaningOf_56 rfl (lv_at hl 0 rfl) ?_
          refine hd_get (C := R_Core) (T := F_Core) (N := 14) hx hb hts i_Core hown hK hP 10 cx hcx rfl rfl 10 (by decide) (hts _ k_136) (fun _ h9 => h9) rfl d_Core_meaningOf_57 ?_
          refine lv_iload_n hx hb d_Core_meaningOf_60 rfl (lv_at hl 1 rfl) ?_
          refine hd_iald hx hb hK hP 14 cx 0 hcx rfl rfl hbl d_Core_meaningOf_61 ?_
          exact hd_iret hx hb hr hlk hK hN hP hS d_Core_meaningOf_62 ⟨by subst ex1; simp only [f_Core_meaningOf]; rw [if_neg h2, if_neg h3, if_neg h4, if_pos h5], rfl⟩
        · skip
          by_cases h6 : x1 = 8
          · refine lv_tableIn (off := 50) (tgt := 56) hx hb d_Core_meaningOf_6 (by rw [h6]; decide) (by rw [h6]; decide) (by rw [h6]; rfl) (by decide) ?_
            refine lv_aload_n hx hb d_Core_meaningOf_56 rfl (lv_at hl 0 rfl) ?_
            refine hd_get (C := R_Core) (T := F_Core) (N := 14) hx hb hts i_Core hown hK hP 10 cx hcx rfl rfl 10 (by decide) (hts _ k_136) (fun _ h9 => h9) rfl d_Core_meaningOf_57 ?_
            refine lv_iload_n hx hb d_Core_meaningOf_60 rfl (lv_at hl 1 rfl) ?_
            refine hd_iald hx hb hK hP 14 cx 0 hcx rfl rfl hbl d_Core_meaningOf_61 ?_
            exact hd_iret hx hb hr hlk hK hN hP hS d_Core_meaningOf_62 ⟨by subst ex1; simp only [f_Core_meaningOf]; rw [if_neg h2, if_neg h3, if_neg h4, if_neg h5, if_pos h6], rfl⟩
          · skip
            by_cases h7 : x1 = 9
            · refine lv_tableIn (off := 50) (tgt := 56) hx hb d_Core_meaningOf_6 (by rw [h7]; decide) (by rw [h7]; decide) (by rw [h7]; rfl) (by decide) ?_
              refine lv_aload_n hx hb d_Core_meaningOf_56 rfl (lv_at hl 0 rfl) ?_
              refine hd_get (C := R_Core) (T := F_Core) (N := 14) hx hb hts i_Core hown hK hP 10 cx hcx rfl rfl 10 (by decide) (hts _ k_136) (fun _ h9 => h9) rfl d_Core_meaningOf_57 ?_
              refine lv_iload_n hx hb d_Core_meaningOf_60 rfl (lv_at hl 1 rfl) ?_
              refine hd_iald hx hb hK hP 14 cx 0 hcx rfl rfl hbl d_Core_meaningOf_61 ?_
              exact hd_iret hx hb hr hlk hK hN hP hS d_Core_meaningOf_62 ⟨by subst ex1; simp only [f_Core_meaningOf]; rw [if_neg h2, if_neg h3, if_neg h4, if_neg h5, if_neg h6, if_pos h7], rfl⟩
            · skip
              by_cases h8 : x1 = 3
              · refine lv_tableIn (off := 57) (tgt := 63) hx hb d_Core_meaningOf_6 (by rw [h8]; decide) (by rw [h8]; decide) (by rw [h8]; rfl) (by decide) ?_
                refine lv_iconst (v := 0) hx hb d_Core_meaningOf_63 (by decide) ?_
                exact hd_iret hx hb hr hlk hK hN hP hS d_Core_meaningOf_64 ⟨by subst ex1; simp only [f_Core_meaningOf]; rw [if_neg h2, if_neg h3, if_neg h4, if_neg h5, if_neg h6, if_neg h7], rfl⟩
              · skip
                by_cases h9 : x1 = 4
                · refine lv_tableIn (off := 57) (tgt := 63) hx hb d_Core_meaningOf_6 (by rw [h9]; decide) (by rw [h9]; decide) (by rw [h9]; rfl) (by decide) ?_
                  refine lv_iconst (v := 0) hx hb d_Core_meaningOf_63 (by decide) ?_
                  exact hd_iret hx hb hr hlk hK hN hP hS d_Core_meaningOf_64 ⟨by subst ex1; simp only [f_Core_meaningOf]; rw [if_neg h2, if_neg h3, if_neg h4, if_neg h5, if_neg h6, if_neg h7], rfl⟩
                · skip
                  by_cases h10 : x1 = 5
                  · refine lv_tableIn (off := 57) (tgt := 63) hx hb d_Core_meaningOf_6 (by rw [h10]; decide) (by rw [h10]; decide) (by rw [h10]; rfl) (by decide) ?_
                    refine lv_iconst (v := 0) hx hb d_Core_meaningOf_63 (by decide) ?_
                    exact hd_iret hx hb hr hlk hK hN hP hS d_Core_meaningOf_64 ⟨by subst ex1; simp only [f_Core_meaningOf]; rw [if_neg h2, if_neg h3, if_neg h4, if_neg h5, if_neg h6, if_neg h7], rfl⟩
                  · skip
                    refine lv_tableOut (tgt := 63) hx hb d_Core_meaningOf_6 (by have t0 := lv_neT h2 (a := 1) rfl; have t1 := lv_neT h3 (a := 2) rfl; have t2 := lv_neT h4 (a := 6) rfl; have t3 := lv_neT h5 (a := 7) rfl; have t4 := lv_neT h6 (a := 8) rfl; have t5 := lv_neT h7 (a := 9) rfl; have t6 := lv_neT h8 (a := 3) rfl; have t7 := lv_neT h9 (a := 4) rfl; have t8 := lv_neT h10 (a := 5) rfl; omega) (by decide) ?_
                    refine lv_iconst (v := 0) hx hb d_Core_meaningOf_63 (by decide) ?_
                    exact hd_iret hx hb hr hlk hK hN hP hS d_Core_meaningOf_64 ⟨by subst ex1; simp only [f_Core_meaningOf]; rw [if_neg h2, if_neg h3, if_neg h4, if_neg h5, if_neg h6, if_neg h7], rfl⟩
def f_Core_stalls (cx : Nat) (mj : Nat) (v : hd_V) : Int32 :=
  let x1 : Int32 := v 13 cx (v 3 mj 3).toNatClampNeg
  if (v 3 mj 0) = 6 then
    if x1 = 3 then
      1
    else
      0
  else
    if (v 3 mj 0) = 4 then
      if x1 = 4 then
        1
      else
        if x1 = 5 then
          1
        else
          if x1 = 6 then
            1
          else
            if x1 = 7 then
              1
            else
              0
    else
      if (v 3 mj 0) = 5 then
        if x1 = 4 then
          1
        else
          if x1 = 5 then
            1
          else
            if x1 = 6 then
              1
            else
              if x1 = 7 then
                1
              else
                0
      else
        0
theorem z_Core_stalls (cx : Nat) (mj : Nat) (v : hd_V) : f_Core_stalls cx mj v = 0 ∨ f_Core_stalls cx mj v = 1 := by
  simp only [f_Core_stalls]
  (repeat' split) <;> simp
set_option maxHeartbeats 4000000 in
set_option maxRecDepth 100000 in
theorem c_Core_stalls (l : Launch) {D : va_G} {cI cZ cM cC : ClassId} {n : Nat} {ad : Nat → Nat → Nat} (hJ : hd_J (hx_L n) ad) (cx : Nat) (mj : Nat) (v : hd_V) (hcx : cx < n) (hmj : mj < 32) (hbl : vp_in (v 3 mj 3) 4) : Met l y_Core_stalls w_Core_stalls { frames := 0, cells := 0, slots := 0, locals := 0 } (va_Pc [.ref (ad 10 cx), .ref (ad 3 mj)] (hx_B D cI cZ cM cC n ad v)) (va_Qi (fun r u => r = f_Core_stalls cx mj v ∧ u = v) (fun u => hx_B D cI cZ cM cC n ad u) (hx_A n ad)) 0 0 (hx_A n ad) := by
  refine Met.ofW (cc := b_Core_stalls) (maxL := 4) (ret := (some .boolean)) (by decide) rfl ?_
  intro p e s m args below meth c s₁ B hml hv
  obtain ⟨rfl, hP, hK, hN⟩ := hv
  have hx := B.exec
  have hb := B.bytes
  have hr := B.returns
  have hlk := B.notSynchronized
  have hts0 := atoms_spec (ws := w_Core_stalls) B.pre
  have hts := fun w (hw : w ∈ lw_g) => hts0 w (List.mem_cons_of_mem _ hw)
  have hown : s.vm.findClass R_Core = some m.cls := findClass_of_methodNamed B.named
  have hA : ∀ q, hx_A n ad q → hx_A n ad q := fun _ h => h
  have hS : va_S (hx_A n ad) s.heap s.heap [] := va_S.rf
  have hl := lv_entry ([.ref (ad 10 cx), .ref (ad 3 mj)]) (n := 4) (Nat.le_of_ble_eq_true rfl)
  rw [lg_entry_eq]
  generalize (lg_sl ([.ref (ad 10 cx), .ref (ad 3 mj)]) ++ List.replicate (4 - (lg_sl ([.ref (ad 10 cx), .ref (ad 3 mj)])).length) Slot.unset).toArray = ls at hl ⊢
  have hl : lv_has ls 4 [(0, .ref (ad 10 cx)), (1, .ref (ad 3 mj))] := hl
  refine lv_aload_n hx hb d_Core_stalls_0 rfl (lv_at hl 0 rfl) ?_
  refine hd_get (C := R_Core) (T := F_Core) (N := 14) hx hb hts i_Core hown hK hP 10 cx hcx rfl rfl 9 (by decide) (hts _ k_134) (fun _ h9 => h9) rfl d_Core_stalls_1 ?_
  refine lv_aload_n hx hb d_Core_stalls_4 rfl (lv_at hl 1 rfl) ?_
  refine hd_getN (C := R_Msg) (T := F_Msg) (N := 7) hx hb hts i_Msg hown hK hP 3 mj hmj rfl rfl 3 (by decide) (hN.use k_50) (fun _ h9 => h9) rfl d_Core_stalls_5 ?_
  refine hd_iald hx hb hK hP 13 cx 0 hcx rfl rfl hbl d_Core_stalls_8 ?_
  refine lv_topi (fun x1 ex1 => ?_)
  refine lv_istore_n (lv' := [(2, .int x1), (0, .ref (ad 10 cx)), (1, .ref (ad 3 mj))]) hx hb d_Core_stalls_9 rfl hl (by decide) rfl (fun ls hl => ?_)
  refine lv_aload_n hx hb d_Core_stalls_10 rfl (lv_at hl 2 rfl) ?_
  refine hd_getN (C := R_Msg) (T := F_Msg) (N := 7) hx hb hts i_Msg hown hK hP 3 mj hmj rfl rfl 0 (by decide) (hN.use k_40) (fun _ h9 => h9) rfl d_Core_stalls_11 ?_
  refine lv_bipush (v := 6) hx hb d_Core_stalls_14 (by decide) ?_
  refine lv_icmp_ne (tgt := 30) hx hb d_Core_stalls_16 (by decide) (fun h2 => ?_) (fun h2 => ?_)
  · refine lv_aload_n hx hb d_Core_stalls_30 rfl (lv_at hl 2 rfl) ?_
    refine hd_getN (C := R_Msg) (T := F_Msg) (N := 7) hx hb hts i_Msg hown hK hP 3 mj hmj rfl rfl 0 (by decide) (hN.use k_40) (fun _ h9 => h9) rfl d_Core_stalls_31 ?_
    refine lv_iconst (v := 4) hx hb d_Core_stalls_34 (by decide) ?_
    refine lv_icmp_eq (tgt := 46) hx hb d_Core_stalls_35 (by decide) (fun h3 => ?_) (fun h3 => ?_)
    · refine lv_iconst (v := 1) hx hb d_Core_stalls_46 (by decide) ?_
      refine lv_goto (tgt := 51) hx hb d_Core_stalls_47 (by decide) ?_
      refine lv_istore_n (lv' := [(3, .int 1), (2, .int x1), (0, .ref (ad 10 cx)), (1, .ref (ad 3 mj))]) hx hb d_Core_stalls_51 rfl hl (by decide) rfl (fun ls hl => ?_)
      refine lv_iload_n hx hb d_Core_stalls_52 rfl (lv_at hl 0 rfl) ?_
      refine lv_if_eq (tgt := 82) hx hb d_Core_stalls_53 (by decide) (fun h4 => absurd h4 (by decide)) (fun h4 => ?_)
      refine lv_iload_n hx hb d_Core_stalls_56 rfl (lv_at hl 1 rfl) ?_
      refine lv_iconst (v := 4) hx hb d_Core_stalls_57 (by decide) ?_
      refine lv_icmp_eq (tgt := 78) hx hb d_Core_stalls_58 (by decide) (fun h5 => ?_) (fun h5 => ?_)
      · refine lv_iconst (v := 1) hx hb d_Core_stalls_78 (by decide) ?_
        refine lv_goto (tgt := 83) hx hb d_Core_stalls_79 (by decide) ?_
        exact hd_zret hx hb hr hlk hK hN hP hS d_Core_stalls_83 rfl ⟨by subst ex1; simp only [f_Core_stalls]; rw [if_neg h2, if_pos h3, if_pos h5], rfl⟩
      · refine lv_iload_n hx hb d_Core_stalls_61 rfl (lv_at hl 1 rfl) ?_
        refine lv_iconst (v := 5) hx hb d_Core_stalls_62 (by decide) ?_
        refine lv_icmp_eq (tgt := 78) hx hb d_Core_stalls_63 (by decide) (fun h6 => ?_) (fun h6 => ?_)
        · refine lv_iconst (v := 1) hx hb d_Core_stalls_78 (by decide) ?_
          refine lv_goto (tgt := 83) hx hb d_Core_stalls_79 (by decide) ?_
          exact hd_zret hx hb hr hlk hK hN hP hS d_Core_stalls_83 rfl ⟨by subst ex1; simp only [f_Core_stalls]; rw [if_neg h2, if_pos h3, if_neg h5, if_pos h6], rfl⟩
        · refine lv_iload_n hx hb d_Core_stalls_66 rfl (lv_at hl 1 rfl) ?_
          refine lv_bipush (v := 6) hx hb d_Core_stalls_67 (by decide) ?_
          refine lv_icmp_eq (tgt := 78) hx hb d_Core_stalls_69 (by decide) (fun h7 => ?_) (fun h7 => ?_)
          · refine lv_iconst (v := 1) hx hb d_Core_stalls_78 (by decide) ?_
            refine lv_goto (tgt := 83) hx hb d_Core_stalls_79 (by decide) ?_
            exact hd_zret hx hb hr hlk hK hN hP hS d_Core_stalls_83 rfl ⟨by subst ex1; simp only [f_Core_stalls]; rw [if_neg h2, if_pos h3, if_neg h5, if_neg h6, if_pos h7], rfl⟩
          · refine lv_iload_n hx hb d_Core_stalls_72 rfl (lv_at hl 1 rfl) ?_
            refine lv_bipush (v := 7) hx hb d_Core_stalls_73 (by decide) ?_
            refine lv_icmp_ne (tgt := 82) hx hb d_Core_stalls_75 (by decide) (fun h8 => ?_) (fun h8 => ?_)
            · refine lv_iconst (v := 0) hx hb d_Core_stalls_82 (by decide) ?_
              exact hd_zret hx hb hr hlk hK hN hP hS d_Core_stalls_83 rfl ⟨by subst ex1; simp only [f_Core_stalls]; rw [if_neg h2, if_pos h3, if_neg h5, if_neg h6, if_neg h7, if_neg h8], rfl⟩
            · refine lv_iconst (v := 1) hx hb d_Core_stalls_78 (by decide) ?_
              refine lv_goto (tgt := 83) hx hb d_Core_stalls_79 (by decide) ?_
              exact hd_zret hx hb hr hlk hK hN hP hS d_Core_stalls_83 rfl ⟨by subst ex1; simp only [f_Core_stalls]; rw [if_neg h2, if_pos h3, if_neg h5, if_neg h6, if_neg h7, if_pos h8], rfl⟩
    · refine lv_aload_n hx hb d_Core_stalls_38 rfl (lv_at hl 2 rfl) ?_
      refine hd_getN (C := R_Msg) (T := F_Msg) (N := 7) hx hb hts i_Msg hown hK hP 3 mj hmj rfl rfl 0 (by decide) (hN.use k_40) (fun _ h9 => h9) rfl d_Core_stalls_39 ?_
      refine lv_iconst (v := 5) hx hb d_Core_stalls_42 (by decide) ?_
      refine lv_icmp_ne (tgt := 50) hx hb d_Core_stalls_43 (by decide) (fun h9 => ?_) (fun h9 => ?_)
      · refine lv_iconst (v := 0) hx hb d_Core_stalls_50 (by decide) ?_
        refine lv_istore_n (lv' := [(3, .int 0), (2, .int x1), (0, .ref (ad 10 cx)), (1, .ref (ad 3 mj))]) hx hb d_Core_stalls_51 rfl hl (by decide) rfl (fun ls hl => ?_)
        refine lv_iload_n hx hb d_Core_stalls_52 rfl (lv_at hl 0 rfl) ?_
        refine lv_if_eq (tgt := 82) hx hb d_Core_stalls_53 (by decide) (fun h10 => ?_) (fun h10 => absurd (by decide) h10)
        refine lv_iconst (v := 0) hx hb d_Core_stalls_82 (by decide) ?_
        exact hd_zret hx hb hr hlk hK hN hP hS d_Core_stalls_83 rfl ⟨by subst ex1; simp only [f_Core_stalls]; rw [if_neg h2, if_neg h3, if_neg h9], rfl⟩
      · refine lv_iconst (v := 1) hx hb d_Core_stalls_46 (by decide) ?_
        refine lv_goto (tgt := 51) hx hb d_Core_stalls_47 (by decide) ?_
        refine lv_istore_n (lv' := [(3, .int 1), (2, .int x1), (0, .ref (ad 10 cx)), (1, .ref (ad 3 mj))]) hx hb d_Core_stalls_51 rfl hl (by decide) rfl (fun ls hl => ?_)
        refine lv_iload_n hx hb d_Core_stalls_52 rfl (lv_at hl 0 rfl) ?_
        refine lv_if_eq (tgt := 82) hx hb d_Core_stalls_53 (by decide) (fun h11 => absurd h11 (by decide)) (fun h11 => ?_)
        refine lv_iload_n hx hb d_Core_stalls_56 rfl (lv_at hl 1 rfl) ?_
        refine lv_iconst (v := 4) hx hb d_Core_stalls_57 (by decide) ?_
        refine lv_icmp_eq (tgt := 78) hx hb d_Core_stalls_58 (by decide) (fun h12 => ?_) (fun h12 => ?_)
        · refine lv_iconst (v := 1) hx hb d_Core_stalls_78 (by decide) ?_
          refine lv_goto (tgt := 83) hx hb d_Core_stalls_79 (by decide) ?_
          exact hd_zret hx hb hr hlk hK hN hP hS d_Core_stalls_83 rfl ⟨by subst ex1; simp only [f_Core_stalls]; rw [if_neg h2, if_neg h3, if_pos h9, if_pos h12], rfl⟩
        · refine lv_iload_n hx hb d_Core_stalls_61 rfl (lv_at hl 1 rfl) ?_
          refine lv_iconst (v := 5) hx hb d_Core_stalls_62 (by decide) ?_
          refine lv_icmp_eq (tgt := 78) hx hb d_Core_stalls_63 (by decide) (fun h13 => ?_) (fun h13 => ?_)
          · refine lv_iconst (v := 1) hx hb d_Core_stalls_78 (by decide) ?_
            refine lv_goto (tgt := 83) hx hb d_Core_stalls_79 (by decide) ?_
            exact hd_zret hx hb hr hlk hK hN hP hS d_Core_stalls_83 rfl ⟨by subst ex1; simp only [f_Core_stalls]; rw [if_neg h2, if_neg h3, if_pos h9, if_neg h12, if_pos h13], rfl⟩
          · refine lv_iload_n hx hb d_Core_stalls_66 rfl (lv_at hl 1 rfl) ?_
            refine lv_bipush (v := 6) hx hb d_Core_stalls_67 (by decide) ?_
            refine lv_icmp_eq (tgt := 78) hx hb d_Core_stalls_69 (by decide) (fun h14 => ?_) (fun h14 => ?_)
            · refine lv_iconst (v := 1) hx hb d_Core_stalls_78 (by decide) ?_
              refine lv_goto (tgt := 83) hx hb d_Core_stalls_79 (by decide) ?_
              exact hd_zret hx hb hr hlk hK hN hP hS d_Core_stalls_83 rfl ⟨by subst ex1; simp only [f_Core_stalls]; rw [if_neg h2, if_neg h3, if_pos h9, if_neg h12, if_neg h13, if_pos h14], rfl⟩
            · refine lv_iload_n hx hb d_Core_stalls_72 rfl (lv_at hl 1 rfl) ?_
              refine lv_bipush (v := 7) hx hb d_Core_stalls_73 (by decide) ?_
              refine lv_icmp_ne (tgt := 82) hx hb d_Core_stalls_75 (by decide) (fun h15 => ?_) (fun h15 => ?_)
              · refine lv_iconst (v := 0) hx hb d_Core_stalls_82 (by decide) ?_
                exact hd_zret hx hb hr hlk hK hN hP hS d_Core_stalls_83 rfl ⟨by subst ex1; simp only [f_Core_stalls]; rw [if_neg h2, if_neg h3, if_pos h9, if_neg h12, if_neg h13, if_neg h14, if_neg h15], rfl⟩
              · refine lv_iconst (v := 1) hx hb d_Core_stalls_78 (by decide) ?_
                refine lv_goto (tgt := 83) hx hb d_Core_stalls_79 (by decide) ?_
                exact hd_zret hx hb hr hlk hK hN hP hS d_Core_stalls_83 rfl ⟨by subst ex1; simp only [f_Core_stalls]; rw [if_neg h2, if_neg h3, if_pos h9, if_neg h12, if_neg h13, if_neg h14, if_pos h15], rfl⟩
  · refine lv_iload_n hx hb d_Core_stalls_19 rfl (lv_at hl 0 rfl) ?_
    refine lv_iconst (v := 3) hx hb d_Core_stalls_20 (by decide) ?_
    refine lv_icmp_ne (tgt := 28) hx hb d_Core_stalls_21 (by decide) (fun h16 => ?_) (fun h16 => ?_)
    · refine lv_iconst (v := 0) hx hb d_Core_stalls_28 (by decide) ?_
      exact hd_zret hx hb hr hlk hK hN hP hS d_Core_stalls_29 rfl ⟨by subst ex1; simp only [f_Core_stalls]; rw [if_pos h2, if_neg h16], rfl⟩
    · refine lv_iconst (v := 1) hx hb d_Core_stalls_24 (by decide) ?_
      refine lv_goto (tgt := 29) hx hb d_Core_stalls_25 (by decide) ?_
      exact hd_zret hx hb hr hlk hK hN hP hS d_Core_stalls_29 rfl ⟨by subst ex1; simp only [f_Core_stalls]; rw [if_pos h2, if_pos h16], rfl⟩
def f_Core_takeData (cx : Nat) (mj : Nat) (v : hd_V) : hd_V :=
  let x1 : Int32 := v 3 mj 3
  let x2 : Int32 := v 13 cx x1.toNatClampNeg
  if x2 = 3 then
    let v18 := hd_u v 14 cx x1.toNatClampNeg (v 3 mj 4)
    let v19 := hd_u v18 13 cx x1.toNatClampNeg 1
    v19
  else
    if x2 = 4 then
      let v5 := hd_u v 14 cx x1.toNatClampNeg (v 3 mj 4)
      let v6 := hd_u v5 15 cx x1.toNatClampNeg ((v5 15 cx x1.toNatClampNeg) + (v5 3 mj 5))
      if (v6 15 cx x1.toNatClampNeg) = 0 then
        let v10 := hd_u v6 13 cx x1.toNatClampNeg 2
        v10
      else
        let v9 := hd_u v6 13 cx x1.toNatClampNeg 5
        v9
    else
      if x2 = 6 then
        let v12 := hd_u v 14 cx x1.toNatClampNeg (v 3 mj 4)
        let v13 := hd_u v12 15 cx x1.toNatClampNeg ((v12 15 cx x1.toNatClampNeg) + (v12 3 mj 5))
        if (v13 15 cx x1.toNatClampNeg) = 0 then
          let v17 := hd_u v13 13 cx x1.toNatClampNeg 2
          v17
        else
          let v16 := hd_u v13 13 cx x1.toNatClampNeg 7
          v16
      else
        v
set_option maxHeartbeats 4000000 in
set_option maxRecDepth 100000 in
theorem c_Core_takeData (l : Launch) {D : va_G} {cI cZ cM cC : ClassId} {n : Nat} {ad : Nat → Nat → Nat} (hJ : hd_J (hx_L n) ad) (cx : Nat) (mj : Nat) (v : hd_V) (hcx : cx < n) (hmj : mj < 32) (hbl : vp_in (v 3 mj 3) 4) : Met l y_Core_takeData w_Core_takeData { frames := 0, cells := 0, slots := 0, locals := 0 } (va_Pc [.ref (ad 10 cx), .ref (ad 3 mj)] (hx_B D cI cZ cM cC n ad v)) (va_Qv (fun u => u = f_Core_takeData cx mj v) (fun u => hx_B D cI cZ cM cC n ad u) (hx_A n ad)) 0 0 (hx_A n ad) := by
  refine Met.ofW (cc := b_Core_takeData) (maxL := 4) (ret := none) (by decide) rfl ?_
  intro p e s m args below meth c s₁ B hml hv
  obtain ⟨rfl, hP, hK, hN⟩ := hv
  have hx := B.exec
  have hb := B.bytes
  have hr := B.returns
  have hlk := B.notSynchronized
  have hts0 := atoms_spec (ws := w_Core_takeData) B.pre
  have hts := fun w (hw : w ∈ lw_g) => hts0 w (List.mem_cons_of_mem _ hw)
  have hown : s.vm.findClass R_Core = some m.cls := findClass_of_methodNamed B.named
  have hA : ∀ q, hx_A n ad q → hx_A n ad q := fun _ h => h
  have hS : va_S (hx_A n ad) s.heap s.heap [] := va_S.rf
  have hl := lv_entry ([.ref (ad 10 cx), .ref (ad 3 mj)]) (n := 4) (Nat.le_of_ble_eq_true rfl)
  rw [lg_entry_eq]
  generalize (lg_sl ([.ref (ad 10 cx), .ref (ad 3 mj)]) ++ List.replicate (4 - (lg_sl ([.ref (ad 10 cx), .ref (ad 3 mj)])).length) Slot.unset).toArray = ls at hl ⊢
  have hl : lv_has ls 4 [(0, .ref (ad 10 cx)), (1, .ref (ad 3 mj))] := hl
  refine lv_aload_n hx hb d_Core_takeData_0 rfl (lv_at hl 1 rfl) ?_
  refine hd_getN (C := R_Msg) (T := F_Msg) (N := 7) hx hb hts i_Msg hown hK hP 3 mj hmj rfl rfl 3 (by decide) (hN.use k_50) (fun _ h9 => h9) rfl d_Core_takeData_1 ?_
  refine lv_topi (fun x1 ex1 => ?_)
  refine lv_istore_n (lv' := [(2, .int x1), (0, .ref (ad 10 cx)), (1, .ref (ad 3 mj))]) hx hb d_Core_takeData_4 rfl hl (by decide) rfl (fun ls hl => ?_)
  refine lv_aload_n hx hb d_Core_takeData_5 rfl (lv_at hl 1 rfl) ?_
  refine hd_get (C := R_Core) (T := F_Core) (N := 14) hx hb hts i_Core hown hK hP 10 cx hcx rfl rfl 9 (by decide) (hts _ k_134) (fun _ h9 => h9) rfl d_Core_takeData_6 ?_
  refine lv_iload_n hx hb d_Core_takeData_9 rfl (lv_at hl 0 rfl) ?_
  refine hd_iald hx hb hK hP 13 cx 0 hcx rfl rfl (by rw [ex1]; exact hbl) d_Core_takeData_10 ?_
  refine lv_topi (fun x2 ex2 => ?_)
  refine lv_istore_n (lv' := [(3, .int x2), (2, .int x1), (0, .ref (ad 10 cx)), (1, .ref (ad 3 mj))]) hx hb d_Core_takeData_11 rfl hl (by decide) rfl (fun ls hl => ?_)
  refine lv_iload_n hx hb d_Core_takeData_12 rfl (lv_at hl 0 rfl) ?_
  refine lv_iconst (v := 3) hx hb d_Core_takeData_13 (by decide) ?_
  refine lv_icmp_ne (tgt := 37) hx hb d_Core_takeData_14 (by decide) (fun h3 => ?_) (fun h3 => ?_)
  · refine lv_iload_n hx hb d_Core_takeData_37 rfl (lv_at hl 0 rfl) ?_
    refine lv_iconst (v := 4) hx hb d_Core_takeData_38 (by decide) ?_
    refine lv_icmp_eq (tgt := 48) hx hb d_Core_takeData_39 (by decide) (fun h4 => ?_) (fun h4 => ?_)
    · refine lv_aload_n hx hb d_Core_takeData_48 rfl (lv_at hl 2 rfl) ?_
      refine hd_get (C := R_Core) (T := F_Core) (N := 14) hx hb hts i_Core hown hK hP 10 cx hcx rfl rfl 10 (by decide) (hts _ k_136) (fun _ h9 => h9) rfl d_Core_takeData_49 ?_
      refine lv_iload_n hx hb d_Core_takeData_52 rfl (lv_at hl 1 rfl) ?_
      refine lv_aload_n hx hb d_Core_takeData_53 rfl (lv_at hl 3 rfl) ?_
      refine hd_getN (C := R_Msg) (T := F_Msg) (N := 7) hx hb hts i_Msg hown hK hP 3 mj hmj rfl rfl 4 (by decide) (hN.use k_54) (fun _ h9 => h9) rfl d_Core_takeData_54 ?_
      refine hd_iast hx hb hK hP hJ hA hS 14 cx 0 hcx (fun _ => rfl) rfl (by rw [ex1]; exact hbl) d_Core_takeData_57 (fun H locs hP hS => ?_)
      refine lv_aload_n hx hb d_Core_takeData_58 rfl (lv_at hl 2 rfl) ?_
      refine hd_get (C := R_Core) (T := F_Core) (N := 14) hx hb hts i_Core hown hK hP 10 cx hcx rfl rfl 11 (by decide) (hts _ k_137) (fun _ h9 => h9) rfl d_Core_takeData_59 ?_
      refine lv_iload_n hx hb d_Core_takeData_62 rfl (lv_at hl 1 rfl) ?_
      refine lv_dup2_11 hx hb d_Core_takeData_63 rfl rfl ?_
      refine hd_iald hx hb hK hP 15 cx 0 hcx rfl rfl (by rw [ex1]; exact hbl) d_Core_takeData_64 ?_
      refine lv_aload_n hx hb d_Core_takeData_65 rfl (lv_at hl 3 rfl) ?_
      refine hd_getN (C := R_Msg) (T := F_Msg) (N := 7) hx hb hts i_Msg hown hK hP 3 mj hmj rfl rfl 5 (by decide) (hN.use k_57) (fun _ h9 => h9) rfl d_Core_takeData_66 ?_
      refine lv_iadd hx hb d_Core_takeData_69 ?_
      refine hd_iast hx hb hK hP hJ hA hS 15 cx 0 hcx (fun _ => rfl) rfl (by rw [ex1]; exact hbl) d_Core_takeData_70 (fun H locs hP hS => ?_)
      refine lv_aload_n hx hb d_Core_takeData_71 rfl (lv_at hl 2 rfl) ?_
      refine hd_get (C := R_Core) (T := F_Core) (N := 14) hx hb hts i_Core hown hK hP 10 cx hcx rfl rfl 11 (by decide) (hts _ k_137) (fun _ h9 => h9) rfl d_Core_takeData_72 ?_
      refine lv_iload_n hx hb d_Core_takeData_75 rfl (lv_at hl 1 rfl) ?_
      refine hd_iald hx hb hK hP 15 cx 0 hcx rfl rfl (by rw [ex1]; exact hbl) d_Core_takeData_76 ?_
      refine lv_if_ne (tgt := 90) hx hb d_Core_takeData_77 (by decide) (fun h7 => ?_) (fun h7 => ?_)
      · refine lv_aload_n hx hb d_Core_takeData_90 rfl (lv_at hl 2 rfl) ?_
        refine hd_get (C := R_Core) (T := F_Core) (N := 14) hx hb hts i_Core hown hK hP 10 cx hcx rfl rfl 9 (by decide) (hts _ k_134) (fun _ h9 => h9) rfl d_Core_takeData_91 ?_
        refine lv_iload_n hx hb d_Core_takeData_94 rfl (lv_at hl 1 rfl) ?_
        refine lv_iload_n hx hb d_Core_takeData_95 rfl (lv_at hl 0 rfl) ?_
        refine lv_iconst (v := 4) hx hb d_Core_takeData_96 (by decide) ?_
        refine lv_icmp_ne (tgt := 104) hx hb d_Core_takeData_97 (by decide) (fun h8 => absurd h4 h8) (fun h8 => ?_)
        refine lv_iconst (v := 5) hx hb d_Core_takeData_100 (by decide) ?_
        refine lv_goto (tgt := 106) hx hb d_Core_takeData_101 (by decide) ?_
        refine hd_iast hx hb hK hP hJ hA hS 13 cx 0 hcx (fun _ => rfl) rfl (by rw [ex1]; exact hbl) d_Core_takeData_106 (fun H locs hP hS => ?_)
        exact hd_vret hx hb hr hlk hK hN hP hS d_Core_takeData_107 (by subst ex2; subst ex1; simp only [f_Core_takeData]; rw [if_neg h3, if_pos h4, if_neg h7])
      · refine lv_aload_n hx hb d_Core_takeData_80 rfl (lv_at hl 2 rfl) ?_
        refine hd_get (C := R_Core) (T := F_Core) (N := 14) hx hb hts i_Core hown hK hP 10 cx hcx rfl rfl 9 (by decide) (hts _ k_134) (fun _ h9 => h9) rfl d_Core_takeData_81 ?_
        refine lv_iload_n hx hb d_Core_takeData_84 rfl (lv_at hl 1 rfl) ?_
        refine lv_iconst (v := 2) hx hb d_Core_takeData_85 (by decide) ?_
        refine hd_iast hx hb hK hP hJ hA hS 13 cx 0 hcx (fun _ => rfl) rfl (by rw [ex1]; exact hbl) d_Core_takeData_86 (fun H locs hP hS => ?_)
        refine lv_goto (tgt := 107) hx hb d_Core_takeData_87 (by decide) ?_
        exact hd_vret hx hb hr hlk hK hN hP hS d_Core_takeData_107 (by subst ex2; subst ex1; simp only [f_Core_takeData]; rw [if_neg h3, if_pos h4, if_pos h7])
    · refine lv_iload_n hx hb d_Core_takeData_42 rfl (lv_at hl 0 rfl) ?_
      refine lv_bipush (v := 6) hx hb d_Core_takeData_43 (by decide) ?_
      refine lv_icmp_ne (tgt := 107) hx hb d_Core_takeData_45 (by decide) (fun h11 => ?_) (fun h11 => ?_)
      · exact hd_vret hx hb hr hlk hK hN hP hS d_Core_takeData_107 (by subst ex2; subst ex1; simp only [f_Core_takeData]; rw [if_neg h3, if_neg h4, if_neg h11])
      · refine lv_aload_n hx hb d_Core_takeData_48 rfl (lv_at hl 2 rfl) ?_
        refine hd_get (C := R_Core) (T := F_Core) (N := 14) hx hb hts i_Core hown hK hP 10 cx hcx rfl rfl 10 (by decide) (hts _ k_136) (fun _ h9 => h9) rfl d_Core_takeData_49 ?_
        refine lv_iload_n hx hb d_Core_takeData_52 rfl (lv_at hl 1 rfl) ?_
        refine lv_aload_n hx hb d_Core_takeData_53 rfl (lv_at hl 3 rfl) ?_
        refine hd_getN (C := R_Msg) (T := F_Msg) (N := 7) hx hb hts i_Msg hown hK hP 3 mj hmj rfl rfl 4 (by decide) (hN.use k_54) (fun _ h9 => h9) rfl d_Core_takeData_54 ?_
        refine hd_iast hx hb hK hP hJ hA hS 14 cx 0 hcx (fun _ => rfl) rfl (by rw [ex1]; exact hbl) d_Core_takeData_57 (fun H locs hP hS => ?_)
        refine lv_aload_n hx hb d_Core_takeData_58 rfl (lv_at hl 2 rfl) ?_
        refine hd_get (C := R_Core) (T := F_Core) (N := 14) hx hb hts i_Core hown hK hP 10 cx hcx rfl rfl 11 (by decide) (hts _ k_137) (fun _ h9 => h9) rfl d_Core_takeData_59 ?_
        refine lv_iload_n hx hb d_Core_takeData_62 rfl (lv_at hl 1 rfl) ?_
        refine lv_dup2_11 hx hb d_Core_takeData_63 rfl rfl ?_
        refine hd_iald hx hb hK hP 15 cx 0 hcx rfl rfl (by rw [ex1]; exact hbl) d_Core_takeData_64 ?_
        refine lv_aload_n hx hb d_Core_takeData_65 rfl (lv_at hl 3 rfl) ?_
        refine hd_getN (C := R_Msg) (T := F_Msg) (N := 7) hx hb hts i_Msg hown hK hP 3 mj hmj rfl rfl 5 (by decide) (hN.use k_57) (fun _ h9 => h9) rfl d_Core_takeData_66 ?_
        refine lv_iadd hx hb d_Core_takeData_69 ?_
        refine hd_iast hx hb hK hP hJ hA hS 15 cx 0 hcx (fun _ => rfl) rfl (by rw [ex1]; exact hbl) d_Core_takeData_70 (fun H locs hP hS => ?_)
        refine lv_aload_n hx hb d_Core_takeData_71 rfl (lv_at hl 2 rfl) ?_
        refine hd_get (C := R_Core) (T := F_Core) (N := 14) hx hb hts i_Core hown hK hP 10 cx hcx rfl rfl 11 (by decide) (hts _ k_137) (fun _ h9 => h9) rfl d_Core_takeData_72 ?_
        refine lv_iload_n hx hb d_Core_takeData_75 rfl (lv_at hl 1 rfl) ?_
        refine hd_iald hx hb hK hP 15 cx 0 hcx rfl rfl (by rw [ex1]; exact hbl) d_Core_takeData_76 ?_
        refine lv_if_ne (tgt := 90) hx hb d_Core_takeData_77 (by decide) (fun h14 => ?_) (fun h14 => ?_)
        · refine lv_aload_n hx hb d_Core_takeData_90 rfl (lv_at hl 2 rfl) ?_
          refine hd_get (C := R_Core) (T := F_Core) (N := 14) hx hb hts i_Core hown hK hP 10 cx hcx rfl rfl 9 (by decide) (hts _ k_134) (fun _ h9 => h9) rfl d_Core_takeData_91 ?_
          refine lv_iload_n hx hb d_Core_takeData_94 rfl (lv_at hl 1 rfl) ?_
          refine lv_iload_n hx hb d_Core_takeData_95 rfl (lv_at hl 0 rfl) ?_
          refine lv_iconst (v := 4) hx hb d_Core_takeData_96 (by decide) ?_
          refine lv_icmp_ne (tgt := 104) hx hb d_Core_takeData_97 (by decide) (fun h15 => ?_) (fun h15 => absurd h15 h4)
          refine lv_bipush (v := 7) hx hb d_Core_takeData_104 (by decide) ?_
          refine hd_iast hx hb hK hP hJ hA hS 13 cx 0 hcx (fun _ => rfl) rfl (by rw [ex1]; exact hbl) d_Core_takeData_106 (fun H locs hP hS => ?_)
          exact hd_vret hx hb hr hlk hK hN hP hS d_Core_takeData_107 (by subst ex2; subst ex1; simp only [f_Core_takeData]; rw [if_neg h3, if_neg h4, if_pos h11, if_neg h14])
        · refine lv_aload_n hx hb d_Core_takeData_80 rfl (lv_at hl 2 rfl) ?_
          refine hd_get (C := R_Core) (T := F_Core) (N := 14) hx hb hts i_Core hown hK hP 10 cx hcx rfl rfl 9 (by decide) (hts _ k_134) (fun _ h9 => h9) rfl d_Core_takeData_81 ?_
          refine lv_iload_n hx hb d_Core_takeData_84 rfl (lv_at hl 1 rfl) ?_
          refine lv_iconst (v := 2) hx hb d_Core_takeData_85 (by decide) ?_
          refine hd_iast hx hb hK hP hJ hA hS 13 cx 0 hcx (fun _ => rfl) rfl (by rw [ex1]; exact hbl) d_Core_takeData_86 (fun H locs hP hS => ?_)
          refine lv_goto (tgt := 107) hx hb d_Core_takeData_87 (by decide) ?_
          exact hd_vret hx hb hr hlk hK hN hP hS d_Core_takeData_107 (by subst ex2; subst ex1; simp only [f_Core_takeData]; rw [if_neg h3, if_neg h4, if_pos h11, if_pos h14])
  · refine lv_aload_n hx hb d_Core_takeData_17 rfl (lv_at hl 2 rfl) ?_
    refine hd_get (C := R_Core) (T := F_Core) (N := 14) hx hb hts i_Core hown hK hP 10 cx hcx rfl rfl 10 (by decide) (hts _ k_136) (fun _ h9 => h9) rfl d_Core_takeData_18 ?_
    refine lv_iload_n hx hb d_Core_takeData_21 rfl (lv_at hl 1 rfl) ?_
    refine lv_aload_n hx hb d_Core_takeData_22 rfl (lv_at hl 3 rfl) ?_
    refine hd_getN (C := R_Msg) (T := F_Msg) (N := 7) hx hb hts i_Msg hown hK hP 3 mj hmj rfl rfl 4 (by decide) (hN.use k_54) (fun _ h9 => h9) rfl d_Core_takeData_23 ?_
    refine hd_iast hx hb hK hP hJ hA hS 14 cx 0 hcx (fun _ => rfl) rfl (by rw [ex1]; exact hbl) d_Core_takeData_26 (fun H locs hP hS => ?_)
    refine lv_aload_n hx hb d_Core_takeData_27 rfl (lv_at hl 2 rfl) ?_
    refine hd_get (C := R_Core) (T := F_Core) (N := 14) hx hb hts i_Core hown hK hP 10 cx hcx rfl rfl 9 (by decide) (hts _ k_134) (fun _ h9 => h9) rfl d_Core_takeData_28 ?_
    refine lv_iload_n hx hb d_Core_takeData_31 rfl (lv_at hl 1 rfl) ?_
    refine lv_iconst (v := 1) hx hb d_Core_takeData_32 (by decide) ?_
    refine hd_iast hx hb hK hP hJ hA hS 13 cx 0 hcx (fun _ => rfl) rfl (by rw [ex1]; exact hbl) d_Core_takeData_33 (fun H locs hP hS => ?_)
    refine lv_goto (tgt := 107) hx hb d_Core_takeData_34 (by decide) ?_
    exact hd_vret hx hb hr hlk hK hN hP hS d_Core_takeData_107 (by subst ex2; subst ex1; simp only [f_Core_takeData]; rw [if_pos h3])
def f_Core_takeAck (cx : Nat) (block_ : Int32) (v : hd_V) : hd_V :=
  let x1 : Int32 := v 13 cx block_.toNatClampNeg
  let v2 := hd_u v 15 cx block_.toNatClampNeg ((v 15 cx block_.toNatClampNeg) - 1)
  if x1 = 5 then
    if (v2 15 cx block_.toNatClampNeg) = 0 then
      let v5 := hd_u v2 13 cx block_.toNatClampNeg 2
      v5
    else
      v2
  else
    if x1 = 7 then
      if (v2 15 cx block_.toNatClampNeg) = 0 then
        let v8 := hd_u v2 13 cx block_.toNatClampNeg 2
        v8
      else
        v2
    else
      v2
set_option maxHeartbeats 4000000 in
set_option maxRecDepth 100000 in
theorem c_Core_takeAck (l : Launch) {D : va_G} {cI cZ cM cC : ClassId} {n : Nat} {ad : Nat → Nat → Nat} (hJ : hd_J (hx_L n) ad) (cx : Nat) (block_ : Int32) (v : hd_V) (hcx : cx < n) (hbl : vp_in block_ 4) : Met l y_Core_takeAck w_Core_takeAck { frames := 0, cells := 0, slots := 0, locals := 0 } (va_Pc [.ref (ad 10 cx), .int block_] (hx_B D cI cZ cM cC n ad v)) (va_Qv (fun u => u = f_Core_takeAck cx block_ v) (fun u => hx_B D cI cZ cM cC n ad u) (hx_A n ad)) 0 0 (hx_A n ad) := by
  refine Met.ofW (cc := b_Core_takeAck) (maxL := 3) (ret := none) (by decide) rfl ?_
  intro p e s m args below meth c s₁ B hml hv
  obtain ⟨rfl, hP, hK, hN⟩ := hv
  have hx := B.exec
  have hb := B.bytes
  have hr := B.returns
  have hlk := B.notSynchronized
  have hts0 := atoms_spec (ws := w_Core_takeAck) B.pre
  have hts := fun w (hw : w ∈ lw_g) => hts0 w (List.mem_cons_of_mem _ hw)
  have hown : s.vm.findClass R_Core = some m.cls := findClass_of_methodNamed B.named
  have hA : ∀ q, hx_A n ad q → hx_A n ad q := fun _ h => h
  have hS : va_S (hx_A n ad) s.heap s.heap [] := va_S.rf
  have hl := lv_entry ([.ref (ad 10 cx), .int block_]) (n := 3) (Nat.le_of_ble_eq_true rfl)
  rw [lg_entry_eq]
  generalize (lg_sl ([.ref (ad 10 cx), .int block_]) ++ List.replicate (3 - (lg_sl ([.ref (ad 10 cx), .int block_])).length) Slot.unset).toArray = ls at hl ⊢
  have hl : lv_has ls 3 [(0, .ref (ad 10 cx)), (1, .int block_)] := hl
  refine lv_aload_n hx hb d_Core_takeAck_0 rfl (lv_at hl 0 rfl) ?_
  refine hd_get (C := R_Core) (T := F_Core) (N := 14) hx hb hts i_Core hown hK hP 10 cx hcx rfl rfl 9 (by decide) (hts _ k_134) (fun _ h9 => h9) rfl d_Core_takeAck_1 ?_
  refine lv_iload_n hx hb d_Core_takeAck_4 rfl (lv_at hl 1 rfl) ?_
  refine hd_iald hx hb hK hP 13 cx 0 hcx rfl rfl hbl d_Core_takeAck_5 ?_
  refine lv_topi (fun x1 ex1 => ?_)
  refine lv_istore_n (lv' := [(2, .int x1), (0, .ref (ad 10 cx)), (1, .int block_)]) hx hb d_Core_takeAck_6 rfl hl (by decide) rfl (fun ls hl => ?_)
  refine lv_aload_n hx hb d_Core_takeAck_7 rfl (lv_at hl 1 rfl) ?_
  refine hd_get (C := R_Core) (T := F_Core) (N := 14) hx hb hts i_Core hown hK hP 10 cx hcx rfl rfl 11 (by decide) (hts _ k_137) (fun _ h9 => h9) rfl d_Core_takeAck_8 ?_
  refine lv_iload_n hx hb d_Core_takeAck_11 rfl (lv_at hl 2 rfl) ?_
  refine lv_dup2_11 hx hb d_Core_takeAck_12 rfl rfl ?_
  refine hd_iald hx hb hK hP 15 cx 0 hcx rfl rfl hbl d_Core_takeAck_13 ?_
  refine lv_iconst (v := 1) hx hb d_Core_takeAck_14 (by decide) ?_
  refine lv_isub hx hb d_Core_takeAck_15 ?_
  refine hd_iast hx hb hK hP hJ hA hS 15 cx 0 hcx (fun _ => rfl) rfl hbl d_Core_takeAck_16 (fun H locs hP hS => ?_)
  refine lv_iload_n hx hb d_Core_takeAck_17 rfl (lv_at hl 0 rfl) ?_
  refine lv_iconst (v := 5) hx hb d_Core_takeAck_18 (by decide) ?_
  refine lv_icmp_eq (tgt := 28) hx hb d_Core_takeAck_19 (by decide) (fun h3 => ?_) (fun h3 => ?_)
  · refine lv_aload_n hx hb d_Core_takeAck_28 rfl (lv_at hl 1 rfl) ?_
    refine hd_get (C := R_Core) (T := F_Core) (N := 14) hx hb hts i_Core hown hK hP 10 cx hcx rfl rfl 11 (by decide) (hts _ k_137) (fun _ h9 => h9) rfl d_Core_takeAck_29 ?_
    refine lv_iload_n hx hb d_Core_takeAck_32 rfl (lv_at hl 2 rfl) ?_
    refine hd_iald hx hb hK hP 15 cx 0 hcx rfl rfl hbl d_Core_takeAck_33 ?_
    refine lv_if_ne (tgt := 44) hx hb d_Core_takeAck_34 (by decide) (fun h4 => ?_) (fun h4 => ?_)
    · exact hd_vret hx hb hr hlk hK hN hP hS d_Core_takeAck_44 (by subst ex1; simp only [f_Core_takeAck]; rw [if_pos h3, if_neg h4])
    · refine lv_aload_n hx hb d_Core_takeAck_37 rfl (lv_at hl 1 rfl) ?_
      refine hd_get (C := R_Core) (T := F_Core) (N := 14) hx hb hts i_Core hown hK hP 10 cx hcx rfl rfl 9 (by decide) (hts _ k_134) (fun _ h9 => h9) rfl d_Core_takeAck_38 ?_
      refine lv_iload_n hx hb d_Core_takeAck_41 rfl (lv_at hl 2 rfl) ?_
      refine lv_iconst (v := 2) hx hb d_Core_takeAck_42 (by decide) ?_
      refine hd_iast hx hb hK hP hJ hA hS 13 cx 0 hcx (fun _ => rfl) rfl hbl d_Core_takeAck_43 (fun H locs hP hS => ?_)
      exact hd_vret hx hb hr hlk hK hN hP hS d_Core_takeAck_44 (by subst ex1; simp only [f_Core_takeAck]; rw [if_pos h3, if_pos h4])
  · refine lv_iload_n hx hb d_Core_takeAck_22 rfl (lv_at hl 0 rfl) ?_
    refine lv_bipush (v := 7) hx hb d_Core_takeAck_23 (by decide) ?_
    refine lv_icmp_ne (tgt := 44) hx hb d_Core_takeAck_25 (by decide) (fun h6 => ?_) (fun h6 => ?_)
    · exact hd_vret hx hb hr hlk hK hN hP hS d_Core_takeAck_44 (by subst ex1; simp only [f_Core_takeAck]; rw [if_neg h3, if_neg h6])
    · refine lv_aload_n hx hb d_Core_takeAck_28 rfl (lv_at hl 1 rfl) ?_
      refine hd_get (C := R_Core) (T := F_Core) (N := 14) hx hb hts i_Core hown hK hP 10 cx hcx rfl rfl 11 (by decide) (hts _ k_137) (fun _ h9 => h9) rfl d_Core_takeAck_29 ?_
      refine lv_iload_n hx hb d_Core_takeAck_32 rfl (lv_at hl 2 rfl) ?_
      refine hd_iald hx hb hK hP 15 cx 0 hcx rfl rfl hbl d_Core_takeAck_33 ?_
      refine lv_if_ne (tgt := 44) hx hb d_Core_takeAck_34 (by decide) (fun h7 => ?_) (fun h7 => ?_)
      · exact hd_vret hx hb hr hlk hK hN hP hS d_Core_takeAck_44 (by subst ex1; simp only [f_Core_takeAck]; rw [if_neg h3, if_pos h6, if_neg h7])
      · refine lv_aload_n hx hb d_Core_takeAck_37 rfl (lv_at hl 1 rfl) ?_
        refine hd_get (C := R_Core) (T := F_Core) (N := 14) hx hb hts i_Core hown hK hP 10 cx hcx rfl rfl 9 (by decide) (hts _ k_134) (fun _ h9 => h9) rfl d_Core_takeAck_38 ?_
        refine lv_iload_n hx hb d_Core_takeAck_41 rfl (lv_at hl 2 rfl) ?_
        refine lv_iconst (v := 2) hx hb d_Core_takeAck_42 (by decide) ?_
        refine hd_iast hx hb hK hP hJ hA hS 13 cx 0 hcx (fun _ => rfl) rfl hbl d_Core_takeAck_43 (fun H locs hP hS => ?_)
        exact hd_vret hx hb hr hlk hK hN hP hS d_Core_takeAck_44 (by subst ex1; simp only [f_Core_takeAck]; rw [if_neg h3, if_pos h6, if_pos h7])
def f_Core_giveUp (cx : Nat) (mj : Nat) (v : hd_V) : hd_V :=
  let x1 : Int32 := v 3 mj 3
  let v2 := f_Net_sendPlain 9 (v 10 cx 0) (v 3 mj 6) x1 v
  let x3 : Int32 := v2 13 cx x1.toNatClampNeg
  if x3 = 1 then
    let v5 := hd_u v2 13 cx x1.toNatClampNeg 0
    v5
  else
    if x3 = 6 then
      let v7 := hd_u v2 13 cx x1.toNatClampNeg 4
      v7
    else
      if x3 = 9 then
        let v9 := hd_u v2 13 cx x1.toNatClampNeg 10
        v9
      else
        v2
set_option maxHeartbeats 4000000 in
set_option maxRecDepth 100000 in
theorem c_Core_giveUp (l : Launch) {D : va_G} {cI cZ cM cC : ClassId} {n : Nat} {ad : Nat → Nat → Nat} (hJ : hd_J (hx_L n) ad) (cx : Nat) (mj : Nat) (v : hd_V) (hcx : cx < n) (hmj : mj < 32) (hbl : vp_in (v 3 mj 3) 4) (hnet : hx_net v) : Met l y_Core_giveUp w_Core_giveUp { frames := 2, cells := 0, slots := 0, locals := 52 } (va_Pc [.ref (ad 10 cx), .ref (ad 3 mj)] (hx_B D cI cZ cM cC n ad v)) (va_Qv (fun u => u = f_Core_giveUp cx mj v) (fun u => hx_B D cI cZ cM cC n ad u) (hx_A n ad)) 0 0 (hx_A n ad) := by
  refine Met.ofW (cc := b_Core_giveUp) (maxL := 3) (ret := none) (by decide) rfl ?_
  intro p e s m args below meth c s₁ B hml hv
  obtain ⟨rfl, hP, hK, hN⟩ := hv
  have hx := B.exec
  have hb := B.bytes
  have hr := B.returns
  have hlk := B.notSynchronized
  have hts0 := atoms_spec (ws := w_Core_giveUp) B.pre
  have hts := fun w (hw : w ∈ lw_g) => hts0 w (List.mem_cons_of_mem _ hw)
  have hown : s.vm.findClass R_Core = some m.cls := findClass_of_methodNamed B.named
  have hA : ∀ q, hx_A n ad q → hx_A n ad q := fun _ h => h
  have hS : va_S (hx_A n ad) s.heap s.heap [] := va_S.rf
  have hl := lv_entry ([.ref (ad 10 cx), .ref (ad 3 mj)]) (n := 3) (Nat.le_of_ble_eq_true rfl)
  rw [lg_entry_eq]
  generalize (lg_sl ([.ref (ad 10 cx), .ref (ad 3 mj)]) ++ List.replicate (3 - (lg_sl ([.ref (ad 10 cx), .ref (ad 3 mj)])).length) Slot.unset).toArray = ls at hl ⊢
  have hl : lv_has ls 3 [(0, .ref (ad 10 cx)), (1, .ref (ad 3 mj))] := hl
  refine lv_aload_n hx hb d_Core_giveUp_0 rfl (lv_at hl 1 rfl) ?_
  refine hd_getN (C := R_Msg) (T := F_Msg) (N := 7) hx hb hts i_Msg hown hK hP 3 mj hmj rfl rfl 3 (by decide) (hN.use k_50) (fun _ h9 => h9) rfl d_Core_giveUp_1 ?_
  refine lv_topi (fun x1 ex1 => ?_)
  refine lv_istore_n (lv' := [(2, .int x1), (0, .ref (ad 10 cx)), (1, .ref (ad 3 mj))]) hx hb d_Core_giveUp_4 rfl hl (by decide) rfl (fun ls hl => ?_)
  refine lv_aload_n hx hb d_Core_giveUp_5 rfl (lv_at hl 1 rfl) ?_
  refine hd_get (C := R_Core) (T := F_Core) (N := 14) hx hb hts i_Core hown hK hP 10 cx hcx rfl rfl 2 (by decide) (hts _ k_124) (fun _ h9 => h9) rfl d_Core_giveUp_6 ?_
  refine lv_bipush (v := 9) hx hb d_Core_giveUp_9 (by decide) ?_
  refine lv_aload_n hx hb d_Core_giveUp_11 rfl (lv_at hl 1 rfl) ?_
  refine hd_get (C := R_Core) (T := F_Core) (N := 14) hx hb hts i_Core hown hK hP 10 cx hcx rfl rfl 0 (by decide) (hts _ k_122) (fun _ h9 => h9) rfl d_Core_giveUp_12 ?_
  refine lv_aload_n hx hb d_Core_giveUp_15 rfl (lv_at hl 2 rfl) ?_
  refine hd_getN (C := R_Msg) (T := F_Msg) (N := 7) hx hb hts i_Msg hown hK hP 3 mj hmj rfl rfl 6 (by decide) (hN.use k_60) (fun _ h9 => h9) rfl d_Core_giveUp_16 ?_
  refine lv_iload_n hx hb d_Core_giveUp_19 rfl (lv_at hl 0 rfl) ?_
  refine hd_cV hK (va_runV (As := [.int 9, .int (v 10 cx 0), .int (v 3 mj 6), .int x1]) (rest := []) ⟨hx, hb, hml, hown, hts⟩ (c_Net_sendPlain l hJ 9 (v 10 cx 0) (v 3 mj 6) x1 v hnet) (cwV 4 hts (hd_gV g_Net_sendPlain k_249 k_250 k_251 k_3) rfl rfl rfl (by decide +kernel) ⟨Nat.le_of_ble_eq_true rfl, Nat.le_of_ble_eq_true rfl⟩) (hd_preV hK hN hP 1 0 Nat.one_pos rfl rfl [.int 9, .int (v 10 cx 0), .int (v 3 mj 6), .int x1]) rfl rfl hl.1 rfl (lv_room (Nat.le_of_ble_eq_true rfl)) d_Core_giveUp_20 ⟨Nat.zero_le _, Nat.zero_le _⟩) hS hA (fun H locs hP hS => ?_)
  refine lv_aload_n hx hb d_Core_giveUp_23 rfl (lv_at hl 1 rfl) ?_
  refine hd_get (C := R_Core) (T := F_Core) (N := 14) hx hb hts i_Core hown hK hP 10 cx hcx rfl rfl 9 (by decide) (hts _ k_134) (fun _ h9 => h9) rfl d_Core_giveUp_24 ?_
  refine lv_iload_n hx hb d_Core_giveUp_27 rfl (lv_at hl 0 rfl) ?_
  refine hd_iald hx hb hK hP 13 cx 0 hcx rfl rfl (by rw [ex1]; exact hbl) d_Core_giveUp_28 ?_
  refine lv_topi (fun x3 ex3 => ?_)
  by_cases h4 : x3 = 1
  · refine lv_lookup (off := 35) (tgt := 64) hx hb d_Core_giveUp_29 (by decide) (by rw [h4]; rfl) (by decide) ?_
    refine lv_aload_n hx hb d_Core_giveUp_64 rfl (lv_at hl 1 rfl) ?_
    refine hd_get (C := R_Core) (T := F_Core) (N := 14) hx hb hts i_Core hown hK hP 10 cx hcx rfl rfl 9 (by decide) (hts _ k_134) (fun _ h9 => h9) rfl d_Core_giveUp_65 ?_
    refine lv_iload_n hx hb d_Core_giveUp_68 rfl (lv_at hl 0 rfl) ?_
    refine lv_iconst (v := 0) hx hb d_Core_giveUp_69 (by decide) ?_
    refine hd_iast hx hb hK hP hJ hA hS 13 cx 0 hcx (fun _ => rfl) rfl (by rw [ex1]; exact hbl) d_Core_giveUp_70 (fun H locs hP hS => ?_)
    refine lv_goto (tgt := 95) hx hb d_Core_giveUp_71 (by decide) ?_
    exact hd_vret hx hb hr hlk hK hN hP hS d_Core_giveUp_95 (by subst ex3; subst ex1; simp only [f_Core_giveUp]; rw [if_pos h4])
  · skip
    by_cases h6 : x3 = 6
    · refine lv_lookup (off := 45) (tgt := 74) hx hb d_Core_giveUp_29 (by decide) (by rw [h6]; rfl) (by decide) ?_
      refine lv_aload_n hx hb d_Core_giveUp_74 rfl (lv_at hl 1 rfl) ?_
      refine hd_get (C := R_Core) (T := F_Core) (N := 14) hx hb hts i_Core hown hK hP 10 cx hcx rfl rfl 9 (by decide) (hts _ k_134) (fun _ h9 => h9) rfl d_Core_giveUp_75 ?_
      refine lv_iload_n hx hb d_Core_giveUp_78 rfl (lv_at hl 0 rfl) ?_
      refine lv_iconst (v := 4) hx hb d_Core_giveUp_79 (by decide) ?_
      refine hd_iast hx hb hK hP hJ hA hS 13 cx 0 hcx (fun _ => rfl) rfl (by rw [ex1]; exact hbl) d_Core_giveUp_80 (fun H locs hP hS => ?_)
      refine lv_goto (tgt := 95) hx hb d_Core_giveUp_81 (by decide) ?_
      exact hd_vret hx hb hr hlk hK hN hP hS d_Core_giveUp_95 (by subst ex3; subst ex1; simp only [f_Core_giveUp]; rw [if_neg h4, if_pos h6])
    · skip
      by_cases h8 : x3 = 9
      · refine lv_lookup (off := 55) (tgt := 84) hx hb d_Core_giveUp_29 (by decide) (by rw [h8]; rfl) (by decide) ?_
        refine lv_aload_n hx hb d_Core_giveUp_84 rfl (lv_at hl 1 rfl) ?_
        refine hd_get (C := R_Core) (T := F_Core) (N := 14) hx hb hts i_Core hown hK hP 10 cx hcx rfl rfl 9 (by decide) (hts _ k_134) (fun _ h9 => h9) rfl d_Core_giveUp_85 ?_
        refine lv_iload_n hx hb d_Core_giveUp_88 rfl (lv_at hl 0 rfl) ?_
        refine lv_bipush (v := 10) hx hb d_Core_giveUp_89 (by decide) ?_
        refine hd_iast hx hb hK hP hJ hA hS 13 cx 0 hcx (fun _ => rfl) rfl (by rw [ex1]; exact hbl) d_Core_giveUp_91 (fun H locs hP hS => ?_)
        refine lv_goto (tgt := 95) hx hb d_Core_giveUp_92 (by decide) ?_
        exact hd_vret hx hb hr hlk hK hN hP hS d_Core_giveUp_95 (by subst ex3; subst ex1; simp only [f_Core_giveUp]; rw [if_neg h4, if_neg h6, if_pos h8])
      · skip
        refine lv_lookup (off := 66) (tgt := 95) hx hb d_Core_giveUp_29 (by decide) (by show Op.lookupswitch.offset [(1, 35), (6, 45), (9, 55)] _ _ = _; rw [lv_osw (a := 1) h4 rfl, lv_osw (a := 6) h6 rfl, lv_osw (a := 9) h8 rfl]; rfl) (by decide) ?_
        exact hd_vret hx hb hr hlk hK hN hP hS d_Core_giveUp_95 (by subst ex3; subst ex1; simp only [f_Core_giveUp]; rw [if_neg h4, if_neg h6, if_neg h8])
def f_Core_share (cx : Nat) (mj : Nat) (v : hd_V) : hd_V :=
  let x1 : Int32 := v 3 mj 3
  let v2 := f_Net_sendData (v 10 cx 0) (v 3 mj 6) x1 (v 14 cx x1.toNatClampNeg) 0 v
  let v3 := f_Net_sendData (v2 10 cx 0) 4 x1 (v2 14 cx x1.toNatClampNeg) 0 v2
  if (v3 13 cx x1.toNatClampNeg) = 8 then
    let v6 := hd_u v3 13 cx x1.toNatClampNeg 9
    v6
  else
    let v5 := hd_u v3 13 cx x1.toNatClampNeg 1
    v5
set_option maxHeartbeats 4000000 in
set_option maxRecDepth 100000 in
theorem c_Core_share (l : Launch) {D : va_G} {cI cZ cM cC : ClassId} {n : Nat} {ad : Nat → Nat → Nat} (hJ : hd_J (hx_L n) ad) (cx : Nat) (mj : Nat) (v : hd_V) (hcx : cx < n) (hmj : mj < 32) (hbl : vp_in (v 3 mj 3) 4) (hnet : hx_net v) : Met l y_Core_share w_Core_share { frames := 2, cells := 0, slots := 0, locals := 53 } (va_Pc [.ref (ad 10 cx), .ref (ad 3 mj)] (hx_B D cI cZ cM cC n ad v)) (va_Qv (fun u => u = f_Core_share cx mj v) (fun u => hx_B D cI cZ cM cC n ad u) (hx_A n ad)) 0 0 (hx_A n ad) := by
  refine Met.ofW (cc := b_Core_share) (maxL := 3) (ret := none) (by decide) rfl ?_
  intro p e s m args below meth c s₁ B hml hv
  obtain ⟨rfl, hP, hK, hN⟩ := hv
  have hx := B.exec
  have hb := B.bytes
  have hr := B.returns
  have hlk := B.notSynchronized
  have hts0 := atoms_spec (ws := w_Core_share) B.pre
  have hts := fun w (hw : w ∈ lw_g) => hts0 w (List.mem_cons_of_mem _ hw)
  have hown : s.vm.findClass R_Core = some m.cls := findClass_of_methodNamed B.named
  have hA : ∀ q, hx_A n ad q → hx_A n ad q := fun _ h => h
  have hS : va_S (hx_A n ad) s.heap s.heap [] := va_S.rf
  have hl := lv_entry ([.ref (ad 10 cx), .ref (ad 3 mj)]) (n := 3) (Nat.le_of_ble_eq_true rfl)
  rw [lg_entry_eq]
  generalize (lg_sl ([.ref (ad 10 cx), .ref (ad 3 mj)]) ++ List.replicate (3 - (lg_sl ([.ref (ad 10 cx), .ref (ad 3 mj)])).length) Slot.unset).toArray = ls at hl ⊢
  have hl : lv_has ls 3 [(0, .ref (ad 10 cx)), (1, .ref (ad 3 mj))] := hl
  refine lv_aload_n hx hb d_Core_share_0 rfl (lv_at hl 1 rfl) ?_
  refine hd_getN (C := R_Msg) (T := F_Msg) (N := 7) hx hb hts i_Msg hown hK hP 3 mj hmj rfl rfl 3 (by decide) (hN.use k_50) (fun _ h9 => h9) rfl d_Core_share_1 ?_
  refine lv_topi (fun x1 ex1 => ?_)
  refine lv_istore_n (lv' := [(2, .int x1), (0, .ref (ad 10 cx)), (1, .ref (ad 3 mj))]) hx hb d_Core_share_4 rfl hl (by decide) rfl (fun ls hl => ?_)
  refine lv_aload_n hx hb d_Core_share_5 rfl (lv_at hl 1 rfl) ?_
  refine hd_get (C := R_Core) (T := F_Core) (N := 14) hx hb hts i_Core hown hK hP 10 cx hcx rfl rfl 2 (by decide) (hts _ k_124) (fun _ h9 => h9) rfl d_Core_share_6 ?_
  refine lv_aload_n hx hb d_Core_share_9 rfl (lv_at hl 1 rfl) ?_
  refine hd_get (C := R_Core) (T := F_Core) (N := 14) hx hb hts i_Core hown hK hP 10 cx hcx rfl rfl 0 (by decide) (hts _ k_122) (fun _ h9 => h9) rfl d_Core_share_10 ?_
  refine lv_aload_n hx hb d_Core_share_13 rfl (lv_at hl 2 rfl) ?_
  refine hd_getN (C := R_Msg) (T := F_Msg) (N := 7) hx hb hts i_Msg hown hK hP 3 mj hmj rfl rfl 6 (by decide) (hN.use k_60) (fun _ h9 => h9) rfl d_Core_share_14 ?_
  refine lv_iload_n hx hb d_Core_share_17 rfl (lv_at hl 0 rfl) ?_
  refine lv_aload_n hx hb d_Core_share_18 rfl (lv_at hl 1 rfl) ?_
  refine hd_get (C := R_Core) (T := F_Core) (N := 14) hx hb hts i_Core hown hK hP 10 cx hcx rfl rfl 10 (by decide) (hts _ k_136) (fun _ h9 => h9) rfl d_Core_share_19 ?_
  refine lv_iload_n hx hb d_Core_share_22 rfl (lv_at hl 0 rfl) ?_
  refine hd_iald hx hb hK hP 14 cx 0 hcx rfl rfl (by rw [ex1]; exact hbl) d_Core_share_23 ?_
  refine lv_iconst (v := 0) hx hb d_Core_share_24 (by decide) ?_
  refine hd_cV hK (va_runV (As := [.int (v 10 cx 0), .int (v 3 mj 6), .int x1, .int (v 14 cx x1.toNatClampNeg), .int 0]) (rest := []) ⟨hx, hb, hml, hown, hts⟩ (c_Net_sendData l hJ (v 10 cx 0) (v 3 mj 6) x1 (v 14 cx x1.toNatClampNeg) 0 v hnet) (cwV 5 hts (hd_gV g_Net_sendData k_367 k_317 k_318 k_3) rfl rfl rfl (by decide +kernel) ⟨Nat.le_of_ble_eq_true rfl, Nat.le_of_ble_eq_true rfl⟩) (hd_preV hK hN hP 1 0 Nat.one_pos rfl rfl [.int (v 10 cx 0), .int (v 3 mj 6), .int x1, .int (v 14 cx x1.toNatClampNeg), .int 0]) rfl rfl hl.1 rfl (lv_room (Nat.le_of_ble_eq_true rfl)) d_Core_share_25 ⟨Nat.zero_le _, Nat.zero_le _⟩) hS hA (fun H locs hP hS => ?_)
  refine lv_aload_n hx hb d_Core_share_28 rfl (lv_at hl 1 rfl) ?_
  refine hd_get (C := R_Core) (T := F_Core) (N := 14) hx hb hts i_Core hown hK hP 10 cx hcx rfl rfl 2 (by decide) (hts _ k_124) (fun _ h9 => h9) rfl d_Core_share_29 ?_
  refine lv_aload_n hx hb d_Core_share_32 rfl (lv_at hl 1 rfl) ?_
  refine hd_get (C := R_Core) (T := F_Core) (N := 14) hx hb hts i_Core hown hK hP 10 cx hcx rfl rfl 0 (by decide) (hts _ k_122) (fun _ h9 => h9) rfl d_Core_share_33 ?_
  refine lv_iconst (v := 4) hx hb d_Core_share_36 (by decide) ?_
  refine lv_iload_n hx hb d_Core_share_37 rfl (lv_at hl 0 rfl) ?_
  refine lv_aload_n hx hb d_Core_share_38 rfl (lv_at hl 1 rfl) ?_
  refine hd_get (C := R_Core) (T := F_Core) (N := 14) hx hb hts i_Core hown hK hP 10 cx hcx rfl rfl 10 (by decide) (hts _ k_136) (fun _ h9 => h9) rfl d_Core_share_39 ?_
  refine lv_iload_n hx hb d_Core_share_42 rfl (lv_at hl 0 rfl) ?_
  refine hd_iald hx hb hK hP 14 cx 0 hcx rfl rfl (by rw [ex1]; exact hbl) d_Core_share_43 ?_
  refine lv_iconst (v := 0) hx hb d_Core_share_44 (by decide) ?_
  refine hd_cV hK (va_runV (As := [.int ((f_Net_sendData (v 10 cx 0) (v 3 mj 6) x1 (v 14 cx x1.toNatClampNeg) 0 v) 10 cx 0), .int 4, .int x1, .int ((f_Net_sendData (v 10 cx 0) (v 3 mj 6) x1 (v 14 cx x1.toNatClampNeg) 0 v) 14 cx x1.toNatClampNeg), .int 0]) (rest := []) ⟨hx, hb, hml, hown, hts⟩ (c_Net_sendData l hJ ((f_Net_sendData (v 10 cx 0) (v 3 mj 6) x1 (v 14 cx x1.toNatClampNeg) 0 v) 10 cx 0) 4 x1 ((f_Net_sendData (v 10 cx 0) (v 3 mj 6) x1 (v 14 cx x1.toNatClampNeg) 0 v) 14 cx x1.toNatClampNeg) 0 (f_Net_sendData (v 10 cx 0) (v 3 mj 6) x1 (v 14 cx x1.toNatClampNeg) 0 v) (net_Net_sendData hnet)) (cwV 5 hts (hd_gV g_Net_sendData k_367 k_317 k_318 k_3) rfl rfl rfl (by decide +kernel) ⟨Nat.le_of_ble_eq_true rfl, Nat.le_of_ble_eq_true rfl⟩) (hd_preV hK hN hP 1 0 Nat.one_pos rfl rfl [.int ((f_Net_sendData (v 10 cx 0) (v 3 mj 6) x1 (v 14 cx x1.toNatClampNeg) 0 v) 10 cx 0), .int 4, .int x1, .int ((f_Net_sendData (v 10 cx 0) (v 3 mj 6) x1 (v 14 cx x1.toNatClampNeg) 0 v) 14 cx x1.toNatClampNeg), .int 0]) rfl rfl hl.1 rfl (lv_room (Nat.le_of_ble_eq_true rfl)) d_Core_share_45 ⟨Nat.zero_le _, Nat.zero_le _⟩) hS hA (fun H locs hP hS => ?_)
  refine lv_aload_n hx hb d_Core_share_48 rfl (lv_at hl 1 rfl) ?_
  refine hd_get (C := R_Core) (T := F_Core) (N := 14) hx hb hts i_Core hown hK hP 10 cx hcx rfl rfl 9 (by decide) (hts _ k_134) (fun _ h9 => h9) rfl d_Core_share_49 ?_
  refine lv_iload_n hx hb d_Core_share_52 rfl (lv_at hl 0 rfl) ?_
  refine lv_aload_n hx hb d_Core_share_53 rfl (lv_at hl 1 rfl) ?_
  refine hd_get (C := R_Core) (T := F_Core) (N := 14) hx hb hts i_Core hown hK hP 10 cx hcx rfl rfl 9 (by decide) (hts _ k_134) (fun _ h9 => h9) rfl d_Core_share_54 ?_
  refine lv_iload_n hx hb d_Core_share_57 rfl (lv_at hl 0 rfl) ?_
  refine hd_iald hx hb hK hP 13 cx 0 hcx rfl rfl (by rw [ex1]; exact hbl) d_Core_share_58 ?_
  refine lv_bipush (v := 8) hx hb d_Core_share_59 (by decide) ?_
  refine lv_icmp_ne (tgt := 69) hx hb d_Core_share_61 (by decide) (fun h4 => ?_) (fun h4 => ?_)
  · refine lv_iconst (v := 1) hx hb d_Core_share_69 (by decide) ?_
    refine hd_iast hx hb hK hP hJ hA hS 13 cx 0 hcx (fun _ => rfl) rfl (by rw [ex1]; exact hbl) d_Core_share_70 (fun H locs hP hS => ?_)
    exact hd_vret hx hb hr hlk hK hN hP hS d_Core_share_71 (by subst ex1; simp only [f_Core_share]; rw [if_neg h4])
  · refine lv_bipush (v := 9) hx hb d_Core_share_64 (by decide) ?_
    refine lv_goto (tgt := 70) hx hb d_Core_share_66 (by decide) ?_
    refine hd_iast hx hb hK hP hJ hA hS 13 cx 0 hcx (fun _ => rfl) rfl (by rw [ex1]; exact hbl) d_Core_share_70 (fun H locs hP hS => ?_)
    exact hd_vret hx hb hr hlk hK hN hP hS d_Core_share_71 (by subst ex1; simp only [f_Core_share]; rw [if_pos h4])
def f_Core_handOn (cx : Nat) (mj : Nat) (v : hd_V) : hd_V :=
  let x1 : Int32 := v 3 mj 3
  let v2 := f_Net_sendData (v 10 cx 0) (v 3 mj 6) x1 (v 14 cx x1.toNatClampNeg) 0 v
  if (v2 13 cx x1.toNatClampNeg) = 8 then
    let v5 := hd_u v2 13 cx x1.toNatClampNeg 10
    v5
  else
    let v4 := hd_u v2 13 cx x1.toNatClampNeg 0
    v4
set_option maxHeartbeats 4000000 in
set_option maxRecDepth 100000 in
theorem c_Core_handOn (l : Launch) {D : va_G} {cI cZ cM cC : ClassId} {n : Nat} {ad : Nat → Nat → Nat} (hJ : hd_J (hx_L n) ad) (cx : Nat) (mj : Nat) (v : hd_V) (hcx : cx < n) (hmj : mj < 32) (hbl : vp_in (v 3 mj 3) 4) (hnet : hx_net v) : Met l y_Core_handOn w_Core_handOn { frames := 2, cells := 0, slots := 0, locals := 53 } (va_Pc [.ref (ad 10 cx), .ref (ad 3 mj)] (hx_B D cI cZ cM cC n ad v)) (va_Qv (fun u => u = f_Core_handOn cx mj v) (fun u => hx_B D cI cZ cM cC n ad u) (hx_A n ad)) 0 0 (hx_A n ad) := by
  refine Met.ofW (cc := b_Core_handOn) (maxL := 3) (ret := none) (by decide) rfl ?_
  intro p e s m args below meth c s₁ B hml hv
  obtain ⟨rfl, hP, hK, hN⟩ := hv
  have hx := B.exec
  have hb := B.bytes
  have hr := B.returns
  have hlk := B.notSynchronized
  have hts0 := atoms_spec (ws := w_Core_handOn) B.pre
  have hts := fun w (hw : w ∈ lw_g) => hts0 w (List.mem_cons_of_mem _ hw)
  have hown : s.vm.findClass R_Core = some m.cls := findClass_of_methodNamed B.named
  have hA : ∀ q, hx_A n ad q → hx_A n ad q := fun _ h => h
  have hS : va_S (hx_A n ad) s.heap s.heap [] := va_S.rf
  have hl := lv_entry ([.ref (ad 10 cx), .ref (ad 3 mj)]) (n := 3) (Nat.le_of_ble_eq_true rfl)
  rw [lg_entry_eq]
  generalize (lg_sl ([.ref (ad 10 cx), .ref (ad 3 mj)]) ++ List.replicate (3 - (lg_sl ([.ref (ad 10 cx), .ref (ad 3 mj)])).length) Slot.unset).toArray = ls at hl ⊢
  have hl : lv_has ls 3 [(0, .ref (ad 10 cx)), (1, .ref (ad 3 mj))] := hl
  refine lv_aload_n hx hb d_Core_handOn_0 rfl (lv_at hl 1 rfl) ?_
  refine hd_getN (C := R_Msg) (T := F_Msg) (N := 7) hx hb hts i_Msg hown hK hP 3 mj hmj rfl rfl 3 (by decide) (hN.use k_50) (fun _ h9 => h9) rfl d_Core_handOn_1 ?_
  refine lv_topi (fun x1 ex1 => ?_)
  refine lv_istore_n (lv' := [(2, .int x1), (0, .ref (ad 10 cx)), (1, .ref (ad 3 mj))]) hx hb d_Core_handOn_4 rfl hl (by decide) rfl (fun ls hl => ?_)
  refine lv_aload_n hx hb d_Core_handOn_5 rfl (lv_at hl 1 rfl) ?_
  refine hd_get (C := R_Core) (T := F_Core) (N := 14) hx hb hts i_Core hown hK hP 10 cx hcx rfl rfl 2 (by decide) (hts _ k_124) (fun _ h9 => h9) rfl d_Core_handOn_6 ?_
  refine lv_aload_n hx hb d_Core_handOn_9 rfl (lv_at hl 1 rfl) ?_
  refine hd_get (C := R_Core) (T := F_Core) (N := 14) hx hb hts i_Core hown hK hP 10 cx hcx rfl rfl 0 (by decide) (hts _ k_122) (fun _ h9 => h9) rfl d_Core_handOn_10 ?_
  refine lv_aload_n hx hb d_Core_handOn_13 rfl (lv_at hl 2 rfl) ?_
  refine hd_getN (C := R_Msg) (T := F_Msg) (N := 7) hx hb hts i_Msg hown hK hP 3 mj hmj rfl rfl 6 (by decide) (hN.use k_60) (fun _ h9 => h9) rfl d_Core_handOn_14 ?_
  refine lv_iload_n hx hb d_Core_handOn_17 rfl (lv_at hl 0 rfl) ?_
  refine lv_aload_n hx hb d_Core_handOn_18 rfl (lv_at hl 1 rfl) ?_
  refine hd_get (C := R_Core) (T := F_Core) (N := 14) hx hb hts i_Core hown hK hP 10 cx hcx rfl rfl 10 (by decide) (hts _ k_136) (fun _ h9 => h9) rfl d_Core_handOn_19 ?_
  refine lv_iload_n hx hb d_Core_handOn_22 rfl (lv_at hl 0 rfl) ?_
  refine hd_iald hx hb hK hP 14 cx 0 hcx rfl rfl (by rw [ex1]; exact hbl) d_Core_handOn_23 ?_
  refine lv_iconst (v := 0) hx hb d_Core_handOn_24 (by decide) ?_
  refine hd_cV hK (va_runV (As := [.int (v 10 cx 0), .int (v 3 mj 6), .int x1, .int (v 14 cx x1.toNatClampNeg), .int 0]) (rest := []) ⟨hx, hb, hml, hown, hts⟩ (c_Net_sendData l hJ (v 10 cx 0) (v 3 mj 6) x1 (v 14 cx x1.toNatClampNeg) 0 v hnet) (cwV 5 hts (hd_gV g_Net_sendData k_367 k_317 k_318 k_3) rfl rfl rfl (by decide +kernel) ⟨Nat.le_of_ble_eq_true rfl, Nat.le_of_ble_eq_true rfl⟩) (hd_preV hK hN hP 1 0 Nat.one_pos rfl rfl [.int (v 10 cx 0), .int (v 3 mj 6), .int x1, .int (v 14 cx x1.toNatClampNeg), .int 0]) rfl rfl hl.1 rfl (lv_room (Nat.le_of_ble_eq_true rfl)) d_Core_handOn_25 ⟨Nat.zero_le _, Nat.zero_le _⟩) hS hA (fun H locs hP hS => ?_)
  refine lv_aload_n hx hb d_Core_handOn_28 rfl (lv_at hl 1 rfl) ?_
  refine hd_get (C := R_Core) (T := F_Core) (N := 14) hx hb hts i_Core hown hK hP 10 cx hcx rfl rfl 9 (by decide) (hts _ k_134) (fun _ h9 => h9) rfl d_Core_handOn_29 ?_
  refine lv_iload_n hx hb d_Core_handOn_32 rfl (lv_at hl 0 rfl) ?_
  refine lv_aload_n hx hb d_Core_handOn_33 rfl (lv_at hl 1 rfl) ?_
  refine hd_get (C := R_Core) (T := F_Core) (N := 14) hx hb hts i_Core hown hK hP 10 cx hcx rfl rfl 9 (by decide) (hts _ k_134) (fun _ h9 => h9) rfl d_Core_handOn_34 ?_
  refine lv_iload_n hx hb d_Core_handOn_37 rfl (lv_at hl 0 rfl) ?_
  refine hd_iald hx hb hK hP 13 cx 0 hcx rfl rfl (by rw [ex1]; exact hbl) d_Core_handOn_38 ?_
  refine lv_bipush (v := 8) hx hb d_Core_handOn_39 (by decide) ?_
  refine lv_icmp_ne (tgt := 49) hx hb d_Core_handOn_41 (by decide) (fun h3 => ?_) (fun h3 => ?_)
  · refine lv_iconst (v := 0) hx hb d_Core_handOn_49 (by decide) ?_
    refine hd_iast hx hb hK hP hJ hA hS 13 cx 0 hcx (fun _ => rfl) rfl (by rw [ex1]; exact hbl) d_Core_handOn_50 (fun H locs hP hS => ?_)
    exact hd_vret hx hb hr hlk hK hN hP hS d_Core_handOn_51 (by subst ex1; simp only [f_Core_handOn]; rw [if_neg h3])
  · refine lv_bipush (v := 10) hx hb d_Core_handOn_44 (by decide) ?_
    refine lv_goto (tgt := 50) hx hb d_Core_handOn_46 (by decide) ?_
    refine hd_iast hx hb hK hP hJ hA hS 13 cx 0 hcx (fun _ => rfl) rfl (by rw [ex1]; exact hbl) d_Core_handOn_50 (fun H locs hP hS => ?_)
    exact hd_vret hx hb hr hlk hK hN hP hS d_Core_handOn_51 (by subst ex1; simp only [f_Core_handOn]; rw [if_pos h3])
def f_Core_endReplacement (cx : Nat) (block_ : Int32) (v : hd_V) : hd_V :=
  let v1 := hd_u v 13 cx block_.toNatClampNeg 0
  let v2 := hd_u v1 10 cx 8 0
  v2
set_option maxHeartbeats 4000000 in
set_option maxRecDepth 100000 in
theorem c_Core_endReplacement (l : Launch) {D : va_G} {cI cZ cM cC : ClassId} {n : Nat} {ad : Nat → Nat → Nat} (hJ : hd_J (hx_L n) ad) (cx : Nat) (block_ : Int32) (v : hd_V) (hcx : cx < n) (hbl : vp_in block_ 4) : Met l y_Core_endReplacement w_Core_endReplacement { frames := 0, cells := 0, slots := 0, locals := 0 } (va_Pc [.ref (ad 10 cx), .int block_] (hx_B D cI cZ cM cC n ad v)) (va_Qv (fun u => u = f_Core_endReplacement cx block_ v) (fun u => hx_B D cI cZ cM cC n ad u) (hx_A n ad)) 0 0 (hx_A n ad) := by
  refine Met.ofW (cc := b_Core_endReplacement) (maxL := 2) (ret := none) (by decide) rfl ?_
  intro p e s m args below meth c s₁ B hml hv
  obtain ⟨rfl, hP, hK, hN⟩ := hv
  have hx := B.exec
  have hb := B.bytes
  have hr := B.returns
  have hlk := B.notSynchronized
  have hts0 := atoms_spec (ws := w_Core_endReplacement) B.pre
  have hts := fun w (hw : w ∈ lw_g) => hts0 w (List.mem_cons_of_mem _ hw)
  have hown : s.vm.findClass R_Core = some m.cls := findClass_of_methodNamed B.named
  have hA : ∀ q, hx_A n ad q → hx_A n ad q := fun _ h => h
  have hS : va_S (hx_A n ad) s.heap s.heap [] := va_S.rf
  have hl := lv_entry ([.ref (ad 10 cx), .int block_]) (n := 2) (Nat.le_of_ble_eq_true rfl)
  rw [lg_entry_eq]
  generalize (lg_sl ([.ref (ad 10 cx), .int block_]) ++ List.replicate (2 - (lg_sl ([.ref (ad 10 cx), .int block_])).length) Slot.unset).toArray = ls at hl ⊢
  have hl : lv_has ls 2 [(0, .ref (ad 10 cx)), (1, .int block_)] := hl
  refine lv_aload_n hx hb d_Core_endReplacement_0 rfl (lv_at hl 0 rfl) ?_
  refine hd_get (C := R_Core) (T := F_Core) (N := 14) hx hb hts i_Core hown hK hP 10 cx hcx rfl rfl 9 (by decide) (hts _ k_134) (fun _ h9 => h9) rfl d_Core_endReplacement_1 ?_
  refine lv_iload_n hx hb d_Core_endReplacement_4 rfl (lv_at hl 1 rfl) ?_
  refine lv_iconst (v := 0) hx hb d_Core_endReplacement_5 (by decide) ?_
  refine hd_iast hx hb hK hP hJ hA hS 13 cx 0 hcx (fun _ => rfl) rfl hbl d_Core_endReplacement_6 (fun H locs hP hS => ?_)
  refine lv_aload_n hx hb d_Core_endReplacement_7 rfl (lv_at hl 0 rfl) ?_
  refine lv_iconst (v := 0) hx hb d_Core_endReplacement_8 (by decide) ?_
  refine hd_put (ty := .int) (C := R_Core) (T := F_Core) (N := 14) hx hb hts i_Core t_Core t_Core_ok n_Core hown hK hP hJ hA hS 10 cx hcx rfl rfl 8 (by decide) (hts _ k_132) (fun _ h9 => h9) rfl (by decide +kernel) rfl rfl (Nat.le_of_ble_eq_true rfl) rfl d_Core_endReplacement_9 (fun H locs hP hS => ?_)
  exact hd_vret hx hb hr hlk hK hN hP hS d_Core_endReplacement_12 (by simp only [f_Core_endReplacement])
