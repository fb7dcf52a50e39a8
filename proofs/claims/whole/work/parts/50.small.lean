def f_Msg_isForward (mj : Nat) (v : hd_V) : Int32 :=
  if (v 3 mj 0) < 4 then
    0
  else
    if 7 < (v 3 mj 0) then
      0
    else
      1
theorem z_Msg_isForward (mj : Nat) (v : hd_V) : f_Msg_isForward mj v = 0 ∨ f_Msg_isForward mj v = 1 := by
  simp only [f_Msg_isForward]
  (repeat' split) <;> simp
set_option maxHeartbeats 4000000 in
set_option maxRecDepth 100000 in
theorem c_Msg_isForward (l : Launch) {D : va_G} {cI cZ cM cC : ClassId} {n : Nat} {ad : Nat → Nat → Nat} (hJ : hd_J (hx_L n) ad) (mj : Nat) (v : hd_V) (hmj : mj < 32) : Met l y_Msg_isForward w_Msg_isForward { frames := 0, cells := 0, slots := 0, locals := 0 } (va_Pc [.ref (ad 3 mj)] (hx_B D cI cZ cM cC n ad v)) (va_Qi (fun r u => r = f_Msg_isForward mj v ∧ u = v) (fun u => hx_B D cI cZ cM cC n ad u) (hx_A n ad)) 0 0 (hx_A n ad) := by
  refine Met.ofW (cc := b_Msg_isForward) (maxL := 1) (ret := (some .boolean)) (by decide) rfl ?_
  intro p e s m args below meth c s₁ B hml hv
  obtain ⟨rfl, hP, hK, hN⟩ := hv
  have hx := B.exec
  have hb := B.bytes
  have hr := B.returns
  have hlk := B.notSynchronized
  have hts0 := atoms_spec (ws := w_Msg_isForward) B.pre
  have hts := fun w (hw : w ∈ lw_g) => hts0 w (List.mem_cons_of_mem _ hw)
  have hown : s.vm.findClass R_Msg = some m.cls := findClass_of_methodNamed B.named
  have hA : ∀ q, hx_A n ad q → hx_A n ad q := fun _ h => h
  have hS : va_S (hx_A n ad) s.heap s.heap [] := va_S.rf
  have hl := lv_entry ([.ref (ad 3 mj)]) (n := 1) (Nat.le_of_ble_eq_true rfl)
  rw [lg_entry_eq]
  generalize (lg_sl ([.ref (ad 3 mj)]) ++ List.replicate (1 - (lg_sl ([.ref (ad 3 mj)])).length) Slot.unset).toArray = ls at hl ⊢
  have hl : lv_has ls 1 [(0, .ref (ad 3 mj))] := hl
  refine lv_aload_n hx hb d_Msg_isForward_0 rfl (lv_at hl 0 rfl) ?_
  refine hd_get (C := R_Msg) (T := F_Msg) (N := 7) hx hb hts i_Msg hown hK hP 3 mj hmj rfl rfl 0 (by decide) (hts _ k_37) (fun _ h9 => h9) rfl d_Msg_isForward_1 ?_
  refine lv_iconst (v := 4) hx hb d_Msg_isForward_4 (by decide) ?_
  refine lv_icmp_lt (tgt := 21) hx hb d_Msg_isForward_5 (by decide) (fun h1 => ?_) (fun h1 => ?_)
  · refine lv_iconst (v := 0) hx hb d_Msg_isForward_21 (by decide) ?_
    exact hd_zret hx hb hr hlk hK hN hP hS d_Msg_isForward_22 rfl ⟨by simp only [f_Msg_isForward]; rw [if_pos h1], rfl⟩
  · refine lv_aload_n hx hb d_Msg_isForward_8 rfl (lv_at hl 0 rfl) ?_
    refine hd_get (C := R_Msg) (T := F_Msg) (N := 7) hx hb hts i_Msg hown hK hP 3 mj hmj rfl rfl 0 (by decide) (hts _ k_37) (fun _ h9 => h9) rfl d_Msg_isForward_9 ?_
    refine lv_bipush (v := 7) hx hb d_Msg_isForward_12 (by decide) ?_
    refine lv_icmp_gt (tgt := 21) hx hb d_Msg_isForward_14 (by decide) (fun h2 => ?_) (fun h2 => ?_)
    · refine lv_iconst (v := 0) hx hb d_Msg_isForward_21 (by decide) ?_
      exact hd_zret hx hb hr hlk hK hN hP hS d_Msg_isForward_22 rfl ⟨by simp only [f_Msg_isForward]; rw [if_neg h1, if_pos h2], rfl⟩
    · refine lv_iconst (v := 1) hx hb d_Msg_isForward_17 (by decide) ?_
      refine lv_goto (tgt := 22) hx hb d_Msg_isForward_18 (by decide) ?_
      exact hd_zret hx hb hr hlk hK hN hP hS d_Msg_isForward_22 rfl ⟨by simp only [f_Msg_isForward]; rw [if_neg h1, if_neg h2], rfl⟩
def f_Msg_hasWayOf (mj : Nat) (mo : Nat) (v : hd_V) : Int32 :=
  if (v 3 mj 3) = (v 3 mo 3) then
    if (v 3 mj 2) = (v 3 mo 2) then
      1
    else
      0
  else
    0
theorem z_Msg_hasWayOf (mj : Nat) (mo : Nat) (v : hd_V) : f_Msg_hasWayOf mj mo v = 0 ∨ f_Msg_hasWayOf mj mo v = 1 := by
  simp only [f_Msg_hasWayOf]
  (repeat' split) <;> simp
set_option maxHeartbeats 4000000 in
set_option maxRecDepth 100000 in
theorem c_Msg_hasWayOf (l : Launch) {D : va_G} {cI cZ cM cC : ClassId} {n : Nat} {ad : Nat → Nat → Nat} (hJ : hd_J (hx_L n) ad) (mj : Nat) (mo : Nat) (v : hd_V) (hmj : mj < 32) (hmo : mo < 32) : Met l y_Msg_hasWayOf w_Msg_hasWayOf { frames := 0, cells := 0, slots := 0, locals := 0 } (va_Pc [.ref (ad 3 mj), .ref (ad 3 mo)] (hx_B D cI cZ cM cC n ad v)) (va_Qi (fun r u => r = f_Msg_hasWayOf mj mo v ∧ u = v) (fun u => hx_B D cI cZ cM cC n ad u) (hx_A n ad)) 0 0 (hx_A n ad) := by
  refine Met.ofW (cc := b_Msg_hasWayOf) (maxL := 2) (ret := (some .boolean)) (by decide) rfl ?_
  intro p e s m args below meth c s₁ B hml hv
  obtain ⟨rfl, hP, hK, hN⟩ := hv
  have hx := B.exec
  have hb := B.bytes
  have hr := B.returns
  have hlk := B.notSynchronized
  have hts0 := atoms_spec (ws := w_Msg_hasWayOf) B.pre
  have hts := fun w (hw : w ∈ lw_g) => hts0 w (List.mem_cons_of_mem _ hw)
  have hown : s.vm.findClass R_Msg = some m.cls := findClass_of_methodNamed B.named
  have hA : ∀ q, hx_A n ad q → hx_A n ad q := fun _ h => h
  have hS : va_S (hx_A n ad) s.heap s.heap [] := va_S.rf
  have hl := lv_entry ([.ref (ad 3 mj), .ref (ad 3 mo)]) (n := 2) (Nat.le_of_ble_eq_true rfl)
  rw [lg_entry_eq]
  generalize (lg_sl ([.ref (ad 3 mj), .ref (ad 3 mo)]) ++ List.replicate (2 - (lg_sl ([.ref (ad 3 mj), .ref (ad 3 mo)])).length) Slot.unset).toArray = ls at hl ⊢
  have hl : lv_has ls 2 [(0, .ref (ad 3 mj)), (1, .ref (ad 3 mo))] := hl
  refine lv_aload_n hx hb d_Msg_hasWayOf_0 rfl (lv_at hl 0 rfl) ?_
  refine hd_get (C := R_Msg) (T := F_Msg) (N := 7) hx hb hts i_Msg hown hK hP 3 mj hmj rfl rfl 3 (by decide) (hts _ k_47) (fun _ h9 => h9) rfl d_Msg_hasWayOf_1 ?_
  refine lv_aload_n hx hb d_Msg_hasWayOf_4 rfl (lv_at hl 1 rfl) ?_
  refine hd_get (C := R_Msg) (T := F_Msg) (N := 7) hx hb hts i_Msg hown hK hP 3 mo hmo rfl rfl 3 (by decide) (hts _ k_47) (fun _ h9 => h9) rfl d_Msg_hasWayOf_5 ?_
  refine lv_icmp_ne (tgt := 26) hx hb d_Msg_hasWayOf_8 (by decide) (fun h1 => ?_) (fun h1 => ?_)
  · refine lv_iconst (v := 0) hx hb d_Msg_hasWayOf_26 (by decide) ?_
    exact hd_zret hx hb hr hlk hK hN hP hS d_Msg_hasWayOf_27 rfl ⟨by simp only [f_Msg_hasWayOf]; rw [if_neg h1], rfl⟩
  · refine lv_aload_n hx hb d_Msg_hasWayOf_11 rfl (lv_at hl 0 rfl) ?_
    refine hd_get (C := R_Msg) (T := F_Msg) (N := 7) hx hb hts i_Msg hown hK hP 3 mj hmj rfl rfl 2 (by decide) (hts _ k_44) (fun _ h9 => h9) rfl d_Msg_hasWayOf_12 ?_
    refine lv_aload_n hx hb d_Msg_hasWayOf_15 rfl (lv_at hl 1 rfl) ?_
    refine hd_get (C := R_Msg) (T := F_Msg) (N := 7) hx hb hts i_Msg hown hK hP 3 mo hmo rfl rfl 2 (by decide) (hts _ k_44) (fun _ h9 => h9) rfl d_Msg_hasWayOf_16 ?_
    refine lv_icmp_ne (tgt := 26) hx hb d_Msg_hasWayOf_19 (by decide) (fun h2 => ?_) (fun h2 => ?_)
    · refine lv_iconst (v := 0) hx hb d_Msg_hasWayOf_26 (by decide) ?_
      exact hd_zret hx hb hr hlk hK hN hP hS d_Msg_hasWayOf_27 rfl ⟨by simp only [f_Msg_hasWayOf]; rw [if_pos h1, if_neg h2], rfl⟩
    · refine lv_iconst (v := 1) hx hb d_Msg_hasWayOf_22 (by decide) ?_
      refine lv_goto (tgt := 27) hx hb d_Msg_hasWayOf_23 (by decide) ?_
      exact hd_zret hx hb hr hlk hK hN hP hS d_Msg_hasWayOf_27 rfl ⟨by simp only [f_Msg_hasWayOf]; rw [if_pos h1, if_pos h2], rfl⟩
def f_Msg_part (mj : Nat) (what : Int32) (v : hd_V) : Int32 :=
  if what = 0 then
    v 3 mj 0
  else
    if what = 1 then
      v 3 mj 1
    else
      if what = 2 then
        v 3 mj 2
      else
        if what = 3 then
          v 3 mj 3
        else
          if what = 4 then
            v 3 mj 4
          else
            if what = 5 then
              v 3 mj 5
            else
              if what = 6 then
                v 3 mj 6
              else
                (-1)
set_option maxHeartbeats 4000000 in
set_option maxRecDepth 100000 in
theorem c_Msg_part (l : Launch) {D : va_G} {cI cZ cM cC : ClassId} {n : Nat} {ad : Nat → Nat → Nat} (hJ : hd_J (hx_L n) ad) (mj : Nat) (what : Int32) (v : hd_V) (hmj : mj < 32) : Met l y_Msg_part w_Msg_part { frames := 0, cells := 0, slots := 0, locals := 0 } (va_Pc [.ref (ad 3 mj), .int what] (hx_B D cI cZ cM cC n ad v)) (va_Qi (fun r u => r = f_Msg_part mj what v ∧ u = v) (fun u => hx_B D cI cZ cM cC n ad u) (hx_A n ad)) 0 0 (hx_A n ad) := by
  refine Met.ofW (cc := b_Msg_part) (maxL := 2) (ret := (some .int)) (by decide) rfl ?_
  intro p e s m args below meth c s₁ B hml hv
  obtain ⟨rfl, hP, hK, hN⟩ := hv
  have hx := B.exec
  have hb := B.bytes
  have hr := B.returns
  have hlk := B.notSynchronized
  have hts0 := atoms_spec (ws := w_Msg_part) B.pre
  have hts := fun w (hw : w ∈ lw_g) => hts0 w (List.mem_cons_of_mem _ hw)
  have hown : s.vm.findClass R_Msg = some m.cls := findClass_of_methodNamed B.named
  have hA : ∀ q, hx_A n ad q → hx_A n ad q := fun _ h => h
  have hS : va_S (hx_A n ad) s.heap s.heap [] := va_S.rf
  have hl := lv_entry ([.ref (ad 3 mj), .int what]) (n := 2) (Nat.le_of_ble_eq_true rfl)
  rw [lg_entry_eq]
  generalize (lg_sl ([.ref (ad 3 mj), .int what]) ++ List.replicate (2 - (lg_sl ([.ref (ad 3 mj), .int what])).length) Slot.unset).toArray = ls at hl ⊢
  have hl : lv_has ls 2 [(0, .ref (ad 3 mj)), (1, .int what)] := hl
  refine lv_iload_n hx hb d_Msg_part_0 rfl (lv_at hl 1 rfl) ?_
  by_cases h1 : what = 0
  · refine lv_tableIn (off := 43) (tgt := 44) hx hb d_Msg_part_1 (by rw [h1]; decide) (by rw [h1]; decide) (by rw [h1]; rfl) (by decide) ?_
    refine lv_aload_n hx hb d_Msg_part_44 rfl (lv_at hl 0 rfl) ?_
    refine hd_get (C := R_Msg) (T := F_Msg) (N := 7) hx hb hts i_Msg hown hK hP 3 mj hmj rfl rfl 0 (by decide) (hts _ k_37) (fun _ h9 => h9) rfl d_Msg_part_45 ?_
    exact hd_iret hx hb hr hlk hK hN hP hS d_Msg_part_48 ⟨by simp only [f_Msg_part]; rw [if_pos h1], rfl⟩
  · skip
    by_cases h2 : what = 1
    · refine lv_tableIn (off := 48) (tgt := 49) hx hb d_Msg_part_1 (by rw [h2]; decide) (by rw [h2]; decide) (by rw [h2]; rfl) (by decide) ?_
      refine lv_aload_n hx hb d_Msg_part_49 rfl (lv_at hl 0 rfl) ?_
      refine hd_get (C := R_Msg) (T := F_Msg) (N := 7) hx hb hts i_Msg hown hK hP 3 mj hmj rfl rfl 1 (by decide) (hts _ k_41) (fun _ h9 => h9) rfl d_Msg_part_50 ?_
      exact hd_iret hx hb hr hlk hK hN hP hS d_Msg_part_53 ⟨by simp only [f_Msg_part]; rw [if_neg h1, if_pos h2], rfl⟩
    · skip
      by_cases h3 : what = 2
      · refine lv_tableIn (off := 53) (tgt := 54) hx hb d_Msg_part_1 (by rw [h3]; decide) (by rw [h3]; decide) (by rw [h3]; rfl) (by decide) ?_
        refine lv_aload_n hx hb d_Msg_part_54 rfl (lv_at hl 0 rfl) ?_
        refine hd_get (C := R_Msg) (T := F_Msg) (N := 7) hx hb hts i_Msg hown hK hP 3 mj hmj rfl rfl 2 (by decide) (hts _ k_44) (fun _ h9 => h9) rfl d_Msg_part_55 ?_
        exact hd_iret hx hb hr hlk hK hN hP hS d_Msg_part_58 ⟨by simp only [f_Msg_part]; rw [if_neg h1, if_neg h2, if_pos h3], rfl⟩
      · skip
        by_cases h4 : what = 3
        · refine lv_tableIn (off := 58) (tgt := 59) hx hb d_Msg_part_1 (by rw [h4]; decide) (by rw [h4]; decide) (by rw [h4]; rfl) (by decide) ?_
          refine lv_aload_n hx hb d_Msg_part_59 rfl (lv_at hl 0 rfl) ?_
          refine hd_get (C := R_Msg) (T := F_Msg) (N := 7) hx hb hts i_Msg hown hK hP 3 mj hmj rfl rfl 3 (by decide) (hts _ k_47) (fun _ h9 => h9) rfl d_Msg_part_60 ?_
          exact hd_iret hx hb hr hlk hK hN hP hS d_Msg_part_63 ⟨by simp only [f_Msg_part]; rw [if_neg h1, if_neg h2, if_neg h3, if_pos h4], rfl⟩
        · skip
          by_cases h5 : what = 4
          · refine lv_tableIn (off := 63) (tgt := 64) hx hb d_Msg_part_1 (by rw [h5]; decide) (by rw [h5]; decide) (by rw [h5]; rfl) (by decide) ?_
            refine lv_aload_n hx hb d_Msg_part_64 rfl (lv_at hl 0 rfl) ?_
            refine hd_get (C := R_Msg) (T := F_Msg) (N := 7) hx hb hts i_Msg hown hK hP 3 mj hmj rfl rfl 4 (by decide) (hts _ k_51) (fun _ h9 => h9) rfl d_Msg_part_65 ?_
            exact hd_iret hx hb hr hlk hK hN hP hS d_Msg_part_68 ⟨by simp only [f_Msg_part]; rw [if_neg h1, if_neg h2, if_neg h3, if_neg h4, if_pos h5], rfl⟩
          · skip
            by_cases h6 : what = 5
            · refine lv_tableIn (off := 68) (tgt := 69) hx hb d_Msg_part_1 (by rw [h6]; decide) (by rw [h6]; decide) (by rw [h6]; rfl) (by decide) ?_
              refine lv_aload_n hx hb d_Msg_part_69 rfl (lv_at hl 0 rfl) ?_
              refine hd_get (C := R_Msg) (T := F_Msg) (N := 7) hx hb hts i_Msg hown hK hP 3 mj hmj rfl rfl 5 (by decide) (hts _ k_55) (fun _ h9 => h9) rfl d_Msg_part_70 ?_
              exact hd_iret hx hb hr hlk hK hN hP hS d_Msg_part_73 ⟨by simp only [f_Msg_part]; rw [if_neg h1, if_neg h2, if_neg h3, if_neg h4, if_neg h5, if_pos h6], rfl⟩
            · skip
              by_cases h7 : what = 6
              · refine lv_tableIn (off := 73) (tgt := 74) hx hb d_Msg_part_1 (by rw [h7]; decide) (by rw [h7]; decide) (by rw [h7]; rfl) (by decide) ?_
                refine lv_aload_n hx hb d_Msg_part_74 rfl (lv_at hl 0 rfl) ?_
                refine hd_get (C := R_Msg) (T := F_Msg) (N := 7) hx hb hts i_Msg hown hK hP 3 mj hmj rfl rfl 6 (by decide) (hts _ k_58) (fun _ h9 => h9) rfl d_Msg_part_75 ?_
                exact hd_iret hx hb hr hlk hK hN hP hS d_Msg_part_78 ⟨by simp only [f_Msg_part]; rw [if_neg h1, if_neg h2, if_neg h3, if_neg h4, if_neg h5, if_neg h6, if_pos h7], rfl⟩
              · skip
                refine lv_tableOut (tgt := 79) hx hb d_Msg_part_1 (by have t0 := lv_neT h1 (a := 0) rfl; have t1 := lv_neT h2 (a := 1) rfl; have t2 := lv_neT h3 (a := 2) rfl; have t3 := lv_neT h4 (a := 3) rfl; have t4 := lv_neT h5 (a := 4) rfl; have t5 := lv_neT h6 (a := 5) rfl; have t6 := lv_neT h7 (a := 6) rfl; omega) (by decide) ?_
                refine lv_iconst (v := -1) hx hb d_Msg_part_79 (by decide) ?_
                exact hd_iret hx hb hr hlk hK hN hP hS d_Msg_part_80 ⟨by simp only [f_Msg_part]; rw [if_neg h1, if_neg h2, if_neg h3, if_neg h4, if_neg h5, if_neg h6, if_neg h7], rfl⟩
def f_Net_has (k_ : Int32) (v : hd_V) : Int32 :=
  if k_ < 0 then
    0
  else
    if (v 1 0 1) ≤ k_ then
      0
    else
      1
theorem z_Net_has (k_ : Int32) (v : hd_V) : f_Net_has k_ v = 0 ∨ f_Net_has k_ v = 1 := by
  simp only [f_Net_has]
  (repeat' split) <;> simp
set_option maxHeartbeats 4000000 in
set_option maxRecDepth 100000 in
theorem c_Net_has (l : Launch) {D : va_G} {cI cZ cM cC : ClassId} {n : Nat} {ad : Nat → Nat → Nat} (hJ : hd_J (hx_L n) ad) (k_ : Int32) (v : hd_V) : Met l y_Net_has w_Net_has { frames := 0, cells := 0, slots := 0, locals := 0 } (va_Pc [.ref (ad 1 0), .int k_] (hx_B D cI cZ cM cC n ad v)) (va_Qi (fun r u => r = f_Net_has k_ v ∧ u = v) (fun u => hx_B D cI cZ cM cC n ad u) (hx_A n ad)) 0 0 (hx_A n ad) := by
  refine Met.ofW (cc := b_Net_has) (maxL := 2) (ret := (some .boolean)) (by decide) rfl ?_
  intro p e s m args below meth c s₁ B hml hv
  obtain ⟨rfl, hP, hK, hN⟩ := hv
  have hx := B.exec
  have hb := B.bytes
  have hr := B.returns
  have hlk := B.notSynchronized
  have hts0 := atoms_spec (ws := w_Net_has) B.pre
  have hts := fun w (hw : w ∈ lw_g) => hts0 w (List.mem_cons_of_mem _ hw)
  have hown : s.vm.findClass R_Net = some m.cls := findClass_of_methodNamed B.named
  have hA : ∀ q, hx_A n ad q → hx_A n ad q := fun _ h => h
  have hS : va_S (hx_A n ad) s.heap s.heap [] := va_S.rf
  have hl := lv_entry ([.ref (ad 1 0), .int k_]) (n := 2) (Nat.le_of_ble_eq_true rfl)
  rw [lg_entry_eq]
  generalize (lg_sl ([.ref (ad 1 0), .int k_]) ++ List.replicate (2 - (lg_sl ([.ref (ad 1 0), .int k_])).length) Slot.unset).toArray = ls at hl ⊢
  have hl : lv_has ls 2 [(0, .ref (ad 1 0)), (1, .int k_)] := hl
  refine lv_iload_n hx hb d_Net_has_0 rfl (lv_at hl 1 rfl) ?_
  refine lv_if_lt (tgt := 16) hx hb d_Net_has_1 (by decide) (fun h1 => ?_) (fun h1 => ?_)
  · refine lv_iconst (v := 0) hx hb d_Net_has_16 (by decide) ?_
    exact hd_zret hx hb hr hlk hK hN hP hS d_Net_has_17 rfl ⟨by simp only [f_Net_has]; rw [if_pos h1], rfl⟩
  · refine lv_iload_n hx hb d_Net_has_4 rfl (lv_at hl 1 rfl) ?_
    refine lv_aload_n hx hb d_Net_has_5 rfl (lv_at hl 0 rfl) ?_
    refine hd_get (C := R_Net) (T := F_Net) (N := 3) hx hb hts i_Net hown hK hP 1 0 Nat.one_pos rfl rfl 1 (by decide) (hts _ k_77) (fun _ h9 => h9) rfl d_Net_has_6 ?_
    refine lv_icmp_ge (tgt := 16) hx hb d_Net_has_9 (by decide) (fun h2 => ?_) (fun h2 => ?_)
    · refine lv_iconst (v := 0) hx hb d_Net_has_16 (by decide) ?_
      exact hd_zret hx hb hr hlk hK hN hP hS d_Net_has_17 rfl ⟨by simp only [f_Net_has]; rw [if_neg h1, if_pos h2], rfl⟩
    · refine lv_iconst (v := 1) hx hb d_Net_has_12 (by decide) ?_
      refine lv_goto (tgt := 17) hx hb d_Net_has_13 (by decide) ?_
      exact hd_zret hx hb hr hlk hK hN hP hS d_Net_has_17 rfl ⟨by simp only [f_Net_has]; rw [if_neg h1, if_neg h2], rfl⟩
def f_HD_isBlock (block_ : Int32) : Int32 :=
  if block_ < 0 then
    0
  else
    if 4 ≤ block_ then
      0
    else
      1
theorem z_HD_isBlock (block_ : Int32) : f_HD_isBlock block_ = 0 ∨ f_HD_isBlock block_ = 1 := by
  simp only [f_HD_isBlock]
  (repeat' split) <;> simp
set_option maxHeartbeats 4000000 in
set_option maxRecDepth 100000 in
theorem c_HD_isBlock (l : Launch) {D : va_G} {cI cZ cM cC : ClassId} {n : Nat} {ad : Nat → Nat → Nat} (hJ : hd_J (hx_L n) ad) (block_ : Int32) (v : hd_V) : Met l y_HD_isBlock w_HD_isBlock { frames := 0, cells := 0, slots := 0, locals := 0 } (va_Pc [.int block_] (hx_B D cI cZ cM cC n ad v)) (va_Qi (fun r u => r = f_HD_isBlock block_ ∧ u = v) (fun u => hx_B D cI cZ cM cC n ad u) (hx_A n ad)) 0 0 (hx_A n ad) := by
  refine Met.ofW (cc := b_HD_isBlock) (maxL := 1) (ret := (some .boolean)) (by decide) rfl ?_
  intro p e s m args below meth c s₁ B hml hv
  obtain ⟨rfl, hP, hK, hN⟩ := hv
  have hx := B.exec
  have hb := B.bytes
  have hr := B.returns
  have hlk := B.notSynchronized
  have hts0 := atoms_spec (ws := w_HD_isBlock) B.pre
  have hts := fun w (hw : w ∈ lw_g) => hts0 w (List.mem_cons_of_mem _ hw)
  have hown : s.vm.findClass R_HD = some m.cls := findClass_of_methodNamed B.named
  have hA : ∀ q, hx_A n ad q → hx_A n ad q := fun _ h => h
  have hS : va_S (hx_A n ad) s.heap s.heap [] := va_S.rf
  have hl := lv_entry ([.int block_]) (n := 1) (Nat.le_of_ble_eq_true rfl)
  rw [lg_entry_eq]
  generalize (lg_sl ([.int block_]) ++ List.replicate (1 - (lg_sl ([.int block_])).length) Slot.unset).toArray = ls at hl ⊢
  have hl : lv_has ls 1 [(0, .int block_)] := hl
  refine lv_iload_n hx hb d_HD_isBlock_0 rfl (lv_at hl 0 rfl) ?_
  refine lv_if_lt (tgt := 13) hx hb d_HD_isBlock_1 (by decide) (fun h1 => ?_) (fun h1 => ?_)
  · refine lv_iconst (v := 0) hx hb d_HD_isBlock_13 (by decide) ?_
    exact hd_zret hx hb hr hlk hK hN hP hS d_HD_isBlock_14 rfl ⟨by simp only [f_HD_isBlock]; rw [if_pos h1], rfl⟩
  · refine lv_iload_n hx hb d_HD_isBlock_4 rfl (lv_at hl 0 rfl) ?_
    refine lv_iconst (v := 4) hx hb d_HD_isBlock_5 (by decide) ?_
    refine lv_icmp_ge (tgt := 13) hx hb d_HD_isBlock_6 (by decide) (fun h2 => ?_) (fun h2 => ?_)
    · refine lv_iconst (v := 0) hx hb d_HD_isBlock_13 (by decide) ?_
      exact hd_zret hx hb hr hlk hK hN hP hS d_HD_isBlock_14 rfl ⟨by simp only [f_HD_isBlock]; rw [if_neg h1, if_pos h2], rfl⟩
    · refine lv_iconst (v := 1) hx hb d_HD_isBlock_9 (by decide) ?_
      refine lv_goto (tgt := 14) hx hb d_HD_isBlock_10 (by decide) ?_
      exact hd_zret hx hb hr hlk hK hN hP hS d_HD_isBlock_14 rfl ⟨by simp only [f_HD_isBlock]; rw [if_neg h1, if_neg h2], rfl⟩
def f_HD_isCore (n : Nat) (core_ : Int32) : Int32 :=
  if core_ < 0 then
    0
  else
    if (nI n) ≤ core_ then
      0
    else
      1
theorem z_HD_isCore (n : Nat) (core_ : Int32) : f_HD_isCore n core_ = 0 ∨ f_HD_isCore n core_ = 1 := by
  simp only [f_HD_isCore]
  (repeat' split) <;> simp
set_option maxHeartbeats 4000000 in
set_option maxRecDepth 100000 in
theorem c_HD_isCore (l : Launch) {D : va_G} {cI cZ cM cC : ClassId} {n : Nat} {ad : Nat → Nat → Nat} (hJ : hd_J (hx_L n) ad) (core_ : Int32) (v : hd_V) : Met l y_HD_isCore w_HD_isCore { frames := 0, cells := 0, slots := 0, locals := 0 } (va_Pc [.ref (ad 0 0), .int core_] (hx_B D cI cZ cM cC n ad v)) (va_Qi (fun r u => r = f_HD_isCore n core_ ∧ u = v) (fun u => hx_B D cI cZ cM cC n ad u) (hx_A n ad)) 0 0 (hx_A n ad) := by
  refine Met.ofW (cc := b_HD_isCore) (maxL := 2) (ret := (some .boolean)) (by decide) rfl ?_
  intro p e s m args below meth c s₁ B hml hv
  obtain ⟨rfl, hP, hK, hN⟩ := hv
  have hx := B.exec
  have hb := B.bytes
  have hr := B.returns
  have hlk := B.notSynchronized
  have hts0 := atoms_spec (ws := w_HD_isCore) B.pre
  have hts := fun w (hw : w ∈ lw_g) => hts0 w (List.mem_cons_of_mem _ hw)
  have hown : s.vm.findClass R_HD = some m.cls := findClass_of_methodNamed B.named
  have hA : ∀ q, hx_A n ad q → hx_A n ad q := fun _ h => h
  have hS : va_S (hx_A n ad) s.heap s.heap [] := va_S.rf
  have hl := lv_entry ([.ref (ad 0 0), .int core_]) (n := 2) (Nat.le_of_ble_eq_true rfl)
  rw [lg_entry_eq]
  generalize (lg_sl ([.ref (ad 0 0), .int core_]) ++ List.replicate (2 - (lg_sl ([.ref (ad 0 0), .int core_])).length) Slot.unset).toArray = ls at hl ⊢
  have hl : lv_has ls 2 [(0, .ref (ad 0 0)), (1, .int core_)] := hl
  refine lv_iload_n hx hb d_HD_isCore_0 rfl (lv_at hl 1 rfl) ?_
  refine lv_if_lt (tgt := 17) hx hb d_HD_isCore_1 (by decide) (fun h1 => ?_) (fun h1 => ?_)
  · refine lv_iconst (v := 0) hx hb d_HD_isCore_17 (by decide) ?_
    exact hd_zret hx hb hr hlk hK hN hP hS d_HD_isCore_18 rfl ⟨by simp only [f_HD_isCore]; rw [if_pos h1], rfl⟩
  · refine lv_iload_n hx hb d_HD_isCore_4 rfl (lv_at hl 1 rfl) ?_
    refine lv_aload_n hx hb d_HD_isCore_5 rfl (lv_at hl 0 rfl) ?_
    refine hd_get (C := R_HD) (T := F_HD) (N := 3) hx hb hts i_HD hown hK hP 0 0 Nat.one_pos rfl rfl 2 (by decide) (hts _ k_172) (fun _ h9 => h9) rfl d_HD_isCore_6 ?_
    refine hd_alen (x := nI n) hx hb hK hP 9 0 3 Nat.one_pos rfl rfl rfl d_HD_isCore_9 ?_
    refine lv_icmp_ge (tgt := 17) hx hb d_HD_isCore_10 (by decide) (fun h2 => ?_) (fun h2 => ?_)
    · refine lv_iconst (v := 0) hx hb d_HD_isCore_17 (by decide) ?_
      exact hd_zret hx hb hr hlk hK hN hP hS d_HD_isCore_18 rfl ⟨by simp only [f_HD_isCore]; rw [if_neg h1, if_pos h2], rfl⟩
    · refine lv_iconst (v := 1) hx hb d_HD_isCore_13 (by decide) ?_
      refine lv_goto (tgt := 18) hx hb d_HD_isCore_14 (by decide) ?_
      exact hd_zret hx hb hr hlk hK hN hP hS d_HD_isCore_18 rfl ⟨by simp only [f_HD_isCore]; rw [if_neg h1, if_neg h2], rfl⟩
def f_Core_isAccess (op_ : Int32) : Int32 :=
  if op_ = 0 then
    1
  else
    if op_ = 1 then
      1
    else
      if op_ = 5 then
        1
      else
        0
theorem z_Core_isAccess (op_ : Int32) : f_Core_isAccess op_ = 0 ∨ f_Core_isAccess op_ = 1 := by
  simp only [f_Core_isAccess]
  (repeat' split) <;> simp
set_option maxHeartbeats 4000000 in
set_option maxRecDepth 100000 in
theorem c_Core_isAccess (l : Launch) {D : va_G} {cI cZ cM cC : ClassId} {n : Nat} {ad : Nat → Nat → Nat} (hJ : hd_J (hx_L n) ad) (op_ : Int32) (v : hd_V) : Met l y_Core_isAccess w_Core_isAccess { frames := 0, cells := 0, slots := 0, locals := 0 } (va_Pc [.int op_] (hx_B D cI cZ cM cC n ad v)) (va_Qi (fun r u => r = f_Core_isAccess op_ ∧ u = v) (fun u => hx_B D cI cZ cM cC n ad u) (hx_A n ad)) 0 0 (hx_A n ad) := by
  refine Met.ofW (cc := b_Core_isAccess) (maxL := 1) (ret := (some .boolean)) (by decide) rfl ?_
  intro p e s m args below meth c s₁ B hml hv
  obtain ⟨rfl, hP, hK, hN⟩ := hv
  have hx := B.exec
  have hb := B.bytes
  have hr := B.returns
  have hlk := B.notSynchronized
  have hts0 := atoms_spec (ws := w_Core_isAccess) B.pre
  have hts := fun w (hw : w ∈ lw_g) => hts0 w (List.mem_cons_of_mem _ hw)
  have hown : s.vm.findClass R_Core = some m.cls := findClass_of_methodNamed B.named
  have hA : ∀ q, hx_A n ad q → hx_A n ad q := fun _ h => h
  have hS : va_S (hx_A n ad) s.heap s.heap [] := va_S.rf
  have hl := lv_entry ([.int op_]) (n := 1) (Nat.le_of_ble_eq_true rfl)
  rw [lg_entry_eq]
  generalize (lg_sl ([.int op_]) ++ List.replicate (1 - (lg_sl ([.int op_])).length) Slot.unset).toArray = ls at hl ⊢
  have hl : lv_has ls 1 [(0, .int op_)] := hl
  refine lv_iload_n hx hb d_Core_isAccess_0 rfl (lv_at hl 0 rfl) ?_
  refine lv_if_eq (tgt := 14) hx hb d_Core_isAccess_1 (by decide) (fun h1 => ?_) (fun h1 => ?_)
  · refine lv_iconst (v := 1) hx hb d_Core_isAccess_14 (by decide) ?_
    refine lv_goto (tgt := 19) hx hb d_Core_isAccess_15 (by decide) ?_
    exact hd_zret hx hb hr hlk hK hN hP hS d_Core_isAccess_19 rfl ⟨by simp only [f_Core_isAccess]; rw [if_pos h1], rfl⟩
  · refine lv_iload_n hx hb d_Core_isAccess_4 rfl (lv_at hl 0 rfl) ?_
    refine lv_iconst (v := 1) hx hb d_Core_isAccess_5 (by decide) ?_
    refine lv_icmp_eq (tgt := 14) hx hb d_Core_isAccess_6 (by decide) (fun h2 => ?_) (fun h2 => ?_)
    · refine lv_iconst (v := 1) hx hb d_Core_isAccess_14 (by decide) ?_
      refine lv_goto (tgt := 19) hx hb d_Core_isAccess_15 (by decide) ?_
      exact hd_zret hx hb hr hlk hK hN hP hS d_Core_isAccess_19 rfl ⟨by simp only [f_Core_isAccess]; rw [if_neg h1, if_pos h2], rfl⟩
    · refine lv_iload_n hx hb d_Core_isAccess_9 rfl (lv_at hl 0 rfl) ?_
      refine lv_iconst (v := 5) hx hb d_Core_isAccess_10 (by decide) ?_
      refine lv_icmp_ne (tgt := 18) hx hb d_Core_isAccess_11 (by decide) (fun h3 => ?_) (fun h3 => ?_)
      · refine lv_iconst (v := 0) hx hb d_Core_isAccess_18 (by decide) ?_
        exact hd_zret hx hb hr hlk hK hN hP hS d_Core_isAccess_19 rfl ⟨by simp only [f_Core_isAccess]; rw [if_neg h1, if_neg h2, if_neg h3], rfl⟩
      · refine lv_iconst (v := 1) hx hb d_Core_isAccess_14 (by decide) ?_
        refine lv_goto (tgt := 19) hx hb d_Core_isAccess_15 (by decide) ?_
        exact hd_zret hx hb hr hlk hK hN hP hS d_Core_isAccess_19 rfl ⟨by simp only [f_Core_isAccess]; rw [if_neg h1, if_neg h2, if_pos h3], rfl⟩
def f_Core_fits (op_ : Int32) (x_ : Int32) : Int32 :=
  if (f_Core_isAccess op_) = 0 then
    if op_ = 3 then
      if x_ < 0 then
        0
      else
        if 16 ≤ x_ then
          0
        else
          1
    else
      1
  else
    f_HD_isBlock x_
theorem z_Core_fits (op_ : Int32) (x_ : Int32) : f_Core_fits op_ x_ = 0 ∨ f_Core_fits op_ x_ = 1 := by
  simp only [f_Core_fits]
  (repeat' split) <;> first | simp | exact z_HD_isBlock _
set_option maxHeartbeats 4000000 in
set_option maxRecDepth 100000 in
theorem c_Core_fits (l : Launch) {D : va_G} {cI cZ cM cC : ClassId} {n : Nat} {ad : Nat → Nat → Nat} (hJ : hd_J (hx_L n) ad) (op_ : Int32) (x_ : Int32) (v : hd_V) : Met l y_Core_fits w_Core_fits { frames := 1, cells := 0, slots := 0, locals := 20 } (va_Pc [.int op_, .int x_] (hx_B D cI cZ cM cC n ad v)) (va_Qi (fun r u => r = f_Core_fits op_ x_ ∧ u = v) (fun u => hx_B D cI cZ cM cC n ad u) (hx_A n ad)) 0 0 (hx_A n ad) := by
  refine Met.ofW (cc := b_Core_fits) (maxL := 2) (ret := (some .boolean)) (by decide) rfl ?_
  intro p e s m args below meth c s₁ B hml hv
  obtain ⟨rfl, hP, hK, hN⟩ := hv
  have hx := B.exec
  have hb := B.bytes
  have hr := B.returns
  have hlk := B.notSynchronized
  have hts0 := atoms_spec (ws := w_Core_fits) B.pre
  have hts := fun w (hw : w ∈ lw_g) => hts0 w (List.mem_cons_of_mem _ hw)
  have hown : s.vm.findClass R_Core = some m.cls := findClass_of_methodNamed B.named
  have hA : ∀ q, hx_A n ad q → hx_A n ad q := fun _ h => h
  have hS : va_S (hx_A n ad) s.heap s.heap [] := va_S.rf
  have hl := lv_entry ([.int op_, .int x_]) (n := 2) (Nat.le_of_ble_eq_true rfl)
  rw [lg_entry_eq]
  generalize (lg_sl ([.int op_, .int x_]) ++ List.replicate (2 - (lg_sl ([.int op_, .int x_])).length) Slot.unset).toArray = ls at hl ⊢
  have hl : lv_has ls 2 [(0, .int op_), (1, .int x_)] := hl
  refine lv_iload_n hx hb d_Core_fits_0 rfl (lv_at hl 0 rfl) ?_
  refine hd_cI hK (va_runS (As := [.int op_]) (rest := []) ⟨hx, hb, hml, hown, hts⟩ (c_Core_isAccess l hJ op_ v ) (va_cwS 1 hts (hd_gS g_Core_isAccess k_195 k_196 k_7) rfl rfl rfl (by decide +kernel) ⟨Nat.le_of_ble_eq_true rfl, Nat.le_of_ble_eq_true rfl⟩) (hd_preS hK hN hP [.int op_]) rfl rfl hl.1 rfl (lv_room (Nat.le_of_ble_eq_true rfl)) d_Core_fits_1 ⟨Nat.zero_le _, Nat.zero_le _⟩) hS hA (fun H locs hP hS => ?_)
  refine lv_if_eq (tgt := 12) hx hb d_Core_fits_4 (by decide) (fun h1 => ?_) (fun h1 => ?_)
  · refine lv_iload_n hx hb d_Core_fits_12 rfl (lv_at hl 0 rfl) ?_
    refine lv_iconst (v := 3) hx hb d_Core_fits_13 (by decide) ?_
    refine lv_icmp_ne (tgt := 27) hx hb d_Core_fits_14 (by decide) (fun h2 => ?_) (fun h2 => ?_)
    · refine lv_iconst (v := 1) hx hb d_Core_fits_27 (by decide) ?_
      refine lv_goto (tgt := 32) hx hb d_Core_fits_28 (by decide) ?_
      exact hd_zret hx hb hr hlk hK hN hP hS d_Core_fits_32 rfl ⟨by simp only [f_Core_fits]; rw [if_pos h1, if_neg h2], rfl⟩
    · refine lv_iload_n hx hb d_Core_fits_17 rfl (lv_at hl 1 rfl) ?_
      refine lv_if_lt (tgt := 31) hx hb d_Core_fits_18 (by decide) (fun h3 => ?_) (fun h3 => ?_)
      · refine lv_iconst (v := 0) hx hb d_Core_fits_31 (by decide) ?_
        exact hd_zret hx hb hr hlk hK hN hP hS d_Core_fits_32 rfl ⟨by simp only [f_Core_fits]; rw [if_pos h1, if_pos h2, if_pos h3], rfl⟩
      · refine lv_iload_n hx hb d_Core_fits_21 rfl (lv_at hl 1 rfl) ?_
        refine lv_bipush (v := 16) hx hb d_Core_fits_22 (by decide) ?_
        refine lv_icmp_ge (tgt := 31) hx hb d_Core_fits_24 (by decide) (fun h4 => ?_) (fun h4 => ?_)
        · refine lv_iconst (v := 0) hx hb d_Core_fits_31 (by decide) ?_
          exact hd_zret hx hb hr hlk hK hN hP hS d_Core_fits_32 rfl ⟨by simp only [f_Core_fits]; rw [if_pos h1, if_pos h2, if_neg h3, if_pos h4], rfl⟩
        · refine lv_iconst (v := 1) hx hb d_Core_fits_27 (by decide) ?_
          refine lv_goto (tgt := 32) hx hb d_Core_fits_28 (by decide) ?_
          exact hd_zret hx hb hr hlk hK hN hP hS d_Core_fits_32 rfl ⟨by simp only [f_Core_fits]; rw [if_pos h1, if_pos h2, if_neg h3, if_neg h4], rfl⟩
  · refine lv_iload_n hx hb d_Core_fits_7 rfl (lv_at hl 1 rfl) ?_
    refine hd_cI hK (va_runSN (As := [.int x_]) (rest := []) ⟨hx, hb, hml, hown, hts⟩ (c_HD_isBlock l hJ x_ v ) ⟨va_cnB 1 hts g_HD_isBlock rfl rfl rfl (hN _ k_198) (hts _ k_1) (by decide +kernel) ⟨Nat.le_of_ble_eq_true rfl, Nat.le_of_ble_eq_true rfl⟩, hts _ k_199, trivial⟩ (hd_preS hK hN hP [.int x_]) rfl rfl hl.1 rfl (lv_room (Nat.le_of_ble_eq_true rfl)) d_Core_fits_8 ⟨Nat.zero_le _, Nat.zero_le _⟩) hS hA (fun H locs hP hS => ?_)
    exact hd_zret hx hb hr hlk hK hN hP hS d_Core_fits_11 (hd_nz (z_HD_isBlock ..)) ⟨by simp only [f_Core_fits]; rw [if_neg h1], rfl⟩
def f_Home_bit (core_ : Int32) : Int32 :=
  1 <<< (core_ &&& 31)
set_option maxHeartbeats 4000000 in
set_option maxRecDepth 100000 in
theorem c_Home_bit (l : Launch) {D : va_G} {cI cZ cM cC : ClassId} {n : Nat} {ad : Nat → Nat → Nat} (hJ : hd_J (hx_L n) ad) (core_ : Int32) (v : hd_V) : Met l y_Home_bit w_Home_bit { frames := 0, cells := 0, slots := 0, locals := 0 } (va_Pc [.int core_] (hx_B D cI cZ cM cC n ad v)) (va_Qi (fun r u => r = f_Home_bit core_ ∧ u = v) (fun u => hx_B D cI cZ cM cC n ad u) (hx_A n ad)) 0 0 (hx_A n ad) := by
  refine Met.ofW (cc := b_Home_bit) (maxL := 1) (ret := (some .int)) (by decide) rfl ?_
  intro p e s m args below meth c s₁ B hml hv
  obtain ⟨rfl, hP, hK, hN⟩ := hv
  have hx := B.exec
  have hb := B.bytes
  have hr := B.returns
  have hlk := B.notSynchronized
  have hts0 := atoms_spec (ws := w_Home_bit) B.pre
  have hts := fun w (hw : w ∈ lw_g) => hts0 w (List.mem_cons_of_mem _ hw)
  have hown : s.vm.findClass R_Home = some m.cls := findClass_of_methodNamed B.named
  have hA : ∀ q, hx_A n ad q → hx_A n ad q := fun _ h => h
  have hS : va_S (hx_A n ad) s.heap s.heap [] := va_S.rf
  have hl := lv_entry ([.int core_]) (n := 1) (Nat.le_of_ble_eq_true rfl)
  rw [lg_entry_eq]
  generalize (lg_sl ([.int core_]) ++ List.replicate (1 - (lg_sl ([.int core_])).length) Slot.unset).toArray = ls at hl ⊢
  have hl : lv_has ls 1 [(0, .int core_)] := hl
  refine lv_iconst (v := 1) hx hb d_Home_bit_0 (by decide) ?_
  refine lv_iload_n hx hb d_Home_bit_1 rfl (lv_at hl 0 rfl) ?_
  refine lv_ishl hx hb d_Home_bit_2 ?_
  exact hd_iret hx hb hr hlk hK hN hP hS d_Home_bit_3 ⟨by simp only [f_Home_bit], rfl⟩
