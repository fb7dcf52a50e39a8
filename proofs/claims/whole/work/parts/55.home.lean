def f_Int_bitCount (i_ : Int32) : Int32 :=
  let x1 : Int32 := i_ - (((Int32.toUInt32 i_ >>> (Int32.toUInt32 1 &&& Int32.toUInt32 31)).toInt32) &&& 1431655765)
  let x2 : Int32 := (x1 &&& 858993459) + (((Int32.toUInt32 x1 >>> (Int32.toUInt32 2 &&& Int32.toUInt32 31)).toInt32) &&& 858993459)
  let x3 : Int32 := (x2 + ((Int32.toUInt32 x2 >>> (Int32.toUInt32 4 &&& Int32.toUInt32 31)).toInt32)) &&& 252645135
  let x4 : Int32 := x3 + ((Int32.toUInt32 x3 >>> (Int32.toUInt32 8 &&& Int32.toUInt32 31)).toInt32)
  let x5 : Int32 := x4 + ((Int32.toUInt32 x4 >>> (Int32.toUInt32 16 &&& Int32.toUInt32 31)).toInt32)
  x5 &&& 63
set_option maxHeartbeats 4000000 in
set_option maxRecDepth 100000 in
theorem c_Int_bitCount (l : Launch) {D : va_G} {cI cZ cM cC : ClassId} {n : Nat} {ad : Nat → Nat → Nat} (hJ : hd_J (hx_L n) ad) (i_ : Int32) (v : hd_V) : Met l y_Int_bitCount w_Int_bitCount { frames := 0, cells := 0, slots := 0, locals := 0 } (va_Pc [.int i_] (hx_B D cI cZ cM cC n ad v)) (va_Qi (fun r u => r = f_Int_bitCount i_ ∧ u = v) (fun u => hx_B D cI cZ cM cC n ad u) (hx_A n ad)) 0 0 (hx_A n ad) := by
  refine Met.ofW (cc := b_Int_bitCount) (maxL := 1) (ret := (some .int)) (by decide) rfl ?_
  intro p e s m args below meth c s₁ B hml hv
  obtain ⟨rfl, hP, hK, hN⟩ := hv
  have hx := B.exec
  have hb := B.bytes
  have hr := B.returns
  have hlk := B.notSynchronized
  have hts0 := atoms_spec (ws := w_Int_bitCount) B.pre
  have hts := fun w (hw : w ∈ lw_g) => hts0 w (List.mem_cons_of_mem _ hw)
  have hown : s.vm.findClass R_Int = some m.cls := findClass_of_methodNamed B.named
  have hA : ∀ q, hx_A n ad q → hx_A n ad q := fun _ h => h
  have hS : va_S (hx_A n ad) s.heap s.heap [] := va_S.rf
  have hl := lv_entry ([.int i_]) (n := 1) (Nat.le_of_ble_eq_true rfl)
  rw [lg_entry_eq]
  generalize (lg_sl ([.int i_]) ++ List.replicate (1 - (lg_sl ([.int i_])).length) Slot.unset).toArray = ls at hl ⊢
  have hl : lv_has ls 1 [(0, .int i_)] := hl
  refine lv_iload_n hx hb d_Int_bitCount_0 rfl (lv_at hl 0 rfl) ?_
  refine lv_iload_n hx hb d_Int_bitCount_1 rfl (lv_at hl 0 rfl) ?_
  refine lv_iconst (v := 1) hx hb d_Int_bitCount_2 (by decide) ?_
  refine lv_iushr hx hb d_Int_bitCount_3 rfl ?_
  refine lv_ldcw (own := R_Int) (v := 1431655765) hx hb hown (hts _ k_327) d_Int_bitCount_4 ?_
  refine lv_iand hx hb d_Int_bitCount_7 ?_
  refine lv_isub hx hb d_Int_bitCount_8 ?_
  refine lv_topi (fun x1 ex1 => ?_)
  refine lv_istore_n (lv' := [(0, .int x1)]) hx hb d_Int_bitCount_9 rfl hl (by decide) rfl (fun ls hl => ?_)
  refine lv_iload_n hx hb d_Int_bitCount_10 rfl (lv_at hl 0 rfl) ?_
  refine lv_ldcw (own := R_Int) (v := 858993459) hx hb hown (hts _ k_328) d_Int_bitCount_11 ?_
  refine lv_iand hx hb d_Int_bitCount_14 ?_
  refine lv_iload_n hx hb d_Int_bitCount_15 rfl (lv_at hl 0 rfl) ?_
  refine lv_iconst (v := 2) hx hb d_Int_bitCount_16 (by decide) ?_
  refine lv_iushr hx hb d_Int_bitCount_17 rfl ?_
  refine lv_ldcw (own := R_Int) (v := 858993459) hx hb hown (hts _ k_328) d_Int_bitCount_18 ?_
  refine lv_iand hx hb d_Int_bitCount_21 ?_
  refine lv_iadd hx hb d_Int_bitCount_22 ?_
  refine lv_topi (fun x2 ex2 => ?_)
  refine lv_istore_n (lv' := [(0, .int x2)]) hx hb d_Int_bitCount_23 rfl hl (by decide) rfl (fun ls hl => ?_)
  refine lv_iload_n hx hb d_Int_bitCount_24 rfl (lv_at hl 0 rfl) ?_
  refine lv_iload_n hx hb d_Int_bitCount_25 rfl (lv_at hl 0 rfl) ?_
  refine lv_iconst (v := 4) hx hb d_Int_bitCount_26 (by decide) ?_
  refine lv_iushr hx hb d_Int_bitCount_27 rfl ?_
  refine lv_iadd hx hb d_Int_bitCount_28 ?_
  refine lv_ldcw (own := R_Int) (v := 252645135) hx hb hown (hts _ k_329) d_Int_bitCount_29 ?_
  refine lv_iand hx hb d_Int_bitCount_32 ?_
  refine lv_topi (fun x3 ex3 => ?_)
  refine lv_istore_n (lv' := [(0, .int x3)]) hx hb d_Int_bitCount_33 rfl hl (by decide) rfl (fun ls hl => ?_)
  refine lv_iload_n hx hb d_Int_bitCount_34 rfl (lv_at hl 0 rfl) ?_
  refine lv_iload_n hx hb d_Int_bitCount_35 rfl (lv_at hl 0 rfl) ?_
  refine lv_bipush (v := 8) hx hb d_Int_bitCount_36 (by decide) ?_
  refine lv_iushr hx hb d_Int_bitCount_38 rfl ?_
  refine lv_iadd hx hb d_Int_bitCount_39 ?_
  refine lv_topi (fun x4 ex4 => ?_)
  refine lv_istore_n (lv' := [(0, .int x4)]) hx hb d_Int_bitCount_40 rfl hl (by decide) rfl (fun ls hl => ?_)
  refine lv_iload_n hx hb d_Int_bitCount_41 rfl (lv_at hl 0 rfl) ?_
  refine lv_iload_n hx hb d_Int_bitCount_42 rfl (lv_at hl 0 rfl) ?_
  refine lv_bipush (v := 16) hx hb d_Int_bitCount_43 (by decide) ?_
  refine lv_iushr hx hb d_Int_bitCount_45 rfl ?_
  refine lv_iadd hx hb d_Int_bitCount_46 ?_
  refine lv_topi (fun x5 ex5 => ?_)
  refine lv_istore_n (lv' := [(0, .int x5)]) hx hb d_Int_bitCount_47 rfl hl (by decide) rfl (fun ls hl => ?_)
  refine lv_iload_n hx hb d_Int_bitCount_48 rfl (lv_at hl 0 rfl) ?_
  refine lv_bipush (v := 63) hx hb d_Int_bitCount_49 (by decide) ?_
  refine lv_iand hx hb d_Int_bitCount_51 ?_
  exact hd_iret hx hb hr hlk hK hN hP hS d_Int_bitCount_52 ⟨by subst ex5; subst ex4; subst ex3; subst ex2; subst ex1; simp only [f_Int_bitCount], rfl⟩
def f_Home_summary (block_ : Int32) (v : hd_V) : Int32 :=
  if (v 6 0 block_.toNatClampNeg) = 2 then
    let x2 : Int32 := 4 * ((v 7 0 block_.toNatClampNeg) + 1)
    ((v 6 0 block_.toNatClampNeg) + x2) + (32 * (v 8 0 block_.toNatClampNeg))
  else
    ((v 6 0 block_.toNatClampNeg) + 0) + (32 * (v 8 0 block_.toNatClampNeg))
set_option maxHeartbeats 4000000 in
set_option maxRecDepth 100000 in
theorem c_Home_summary (l : Launch) {D : va_G} {cI cZ cM cC : ClassId} {n : Nat} {ad : Nat → Nat → Nat} (hJ : hd_J (hx_L n) ad) (block_ : Int32) (v : hd_V) (hbl : vp_in block_ 4) : Met l y_Home_summary w_Home_summary { frames := 0, cells := 0, slots := 0, locals := 0 } (va_Pc [.ref (ad 4 0), .int block_] (hx_B D cI cZ cM cC n ad v)) (va_Qi (fun r u => r = f_Home_summary block_ v ∧ u = v) (fun u => hx_B D cI cZ cM cC n ad u) (hx_A n ad)) 0 0 (hx_A n ad) := by
  refine Met.ofW (cc := b_Home_summary) (maxL := 3) (ret := (some .int)) (by decide) rfl ?_
  intro p e s m args below meth c s₁ B hml hv
  obtain ⟨rfl, hP, hK, hN⟩ := hv
  have hx := B.exec
  have hb := B.bytes
  have hr := B.returns
  have hlk := B.notSynchronized
  have hts0 := atoms_spec (ws := w_Home_summary) B.pre
  have hts := fun w (hw : w ∈ lw_g) => hts0 w (List.mem_cons_of_mem _ hw)
  have hown : s.vm.findClass R_Home = some m.cls := findClass_of_methodNamed B.named
  have hA : ∀ q, hx_A n ad q → hx_A n ad q := fun _ h => h
  have hS : va_S (hx_A n ad) s.heap s.heap [] := va_S.rf
  have hl := lv_entry ([.ref (ad 4 0), .int block_]) (n := 3) (Nat.le_of_ble_eq_true rfl)
  rw [lg_entry_eq]
  generalize (lg_sl ([.ref (ad 4 0), .int block_]) ++ List.replicate (3 - (lg_sl ([.ref (ad 4 0), .int block_])).length) Slot.unset).toArray = ls at hl ⊢
  have hl : lv_has ls 3 [(0, .ref (ad 4 0)), (1, .int block_)] := hl
  refine lv_aload_n hx hb d_Home_summary_0 rfl (lv_at hl 0 rfl) ?_
  refine hd_get (C := R_Home) (T := F_Home) (N := 5) hx hb hts i_Home hown hK hP 4 0 Nat.one_pos rfl rfl 2 (by decide) (hts _ k_100) (fun _ h9 => h9) rfl d_Home_summary_1 ?_
  refine lv_iload_n hx hb d_Home_summary_4 rfl (lv_at hl 1 rfl) ?_
  refine hd_iald hx hb hK hP 6 0 0 Nat.one_pos rfl rfl hbl d_Home_summary_5 ?_
  refine lv_iconst (v := 2) hx hb d_Home_summary_6 (by decide) ?_
  refine lv_icmp_ne (tgt := 23) hx hb d_Home_summary_7 (by decide) (fun h1 => ?_) (fun h1 => ?_)
  · refine lv_iconst (v := 0) hx hb d_Home_summary_23 (by decide) ?_
    refine lv_istore_n (lv' := [(2, .int 0), (0, .ref (ad 4 0)), (1, .int block_)]) hx hb d_Home_summary_24 rfl hl (by decide) rfl (fun ls hl => ?_)
    refine lv_aload_n hx hb d_Home_summary_25 rfl (lv_at hl 1 rfl) ?_
    refine hd_get (C := R_Home) (T := F_Home) (N := 5) hx hb hts i_Home hown hK hP 4 0 Nat.one_pos rfl rfl 2 (by decide) (hts _ k_100) (fun _ h9 => h9) rfl d_Home_summary_26 ?_
    refine lv_iload_n hx hb d_Home_summary_29 rfl (lv_at hl 2 rfl) ?_
    refine hd_iald hx hb hK hP 6 0 0 Nat.one_pos rfl rfl hbl d_Home_summary_30 ?_
    refine lv_iload_n hx hb d_Home_summary_31 rfl (lv_at hl 0 rfl) ?_
    refine lv_iadd hx hb d_Home_summary_32 ?_
    refine lv_bipush (v := 32) hx hb d_Home_summary_33 (by decide) ?_
    refine lv_aload_n hx hb d_Home_summary_35 rfl (lv_at hl 1 rfl) ?_
    refine hd_get (C := R_Home) (T := F_Home) (N := 5) hx hb hts i_Home hown hK hP 4 0 Nat.one_pos rfl rfl 4 (by decide) (hts _ k_102) (fun _ h9 => h9) rfl d_Home_summary_36 ?_
    refine lv_iload_n hx hb d_Home_summary_39 rfl (lv_at hl 2 rfl) ?_
    refine hd_iald hx hb hK hP 8 0 0 Nat.one_pos rfl rfl hbl d_Home_summary_40 ?_
    refine lv_imul hx hb d_Home_summary_41 ?_
    refine lv_iadd hx hb d_Home_summary_42 ?_
    exact hd_iret hx hb hr hlk hK hN hP hS d_Home_summary_43 ⟨by simp only [f_Home_summary]; rw [if_neg h1], rfl⟩
  · refine lv_iconst (v := 4) hx hb d_Home_summary_10 (by decide) ?_
    refine lv_aload_n hx hb d_Home_summary_11 rfl (lv_at hl 0 rfl) ?_
    refine hd_get (C := R_Home) (T := F_Home) (N := 5) hx hb hts i_Home hown hK hP 4 0 Nat.one_pos rfl rfl 3 (by decide) (hts _ k_101) (fun _ h9 => h9) rfl d_Home_summary_12 ?_
    refine lv_iload_n hx hb d_Home_summary_15 rfl (lv_at hl 1 rfl) ?_
    refine hd_iald hx hb hK hP 7 0 0 Nat.one_pos rfl rfl hbl d_Home_summary_16 ?_
    refine lv_iconst (v := 1) hx hb d_Home_summary_17 (by decide) ?_
    refine lv_iadd hx hb d_Home_summary_18 ?_
    refine lv_imul hx hb d_Home_summary_19 ?_
    refine lv_goto (tgt := 24) hx hb d_Home_summary_20 (by decide) ?_
    refine lv_topi (fun x2 ex2 => ?_)
    refine lv_istore_n (lv' := [(2, .int x2), (0, .ref (ad 4 0)), (1, .int block_)]) hx hb d_Home_summary_24 rfl hl (by decide) rfl (fun ls hl => ?_)
    refine lv_aload_n hx hb d_Home_summary_25 rfl (lv_at hl 1 rfl) ?_
    refine hd_get (C := R_Home) (T := F_Home) (N := 5) hx hb hts i_Home hown hK hP 4 0 Nat.one_pos rfl rfl 2 (by decide) (hts _ k_100) (fun _ h9 => h9) rfl d_Home_summary_26 ?_
    refine lv_iload_n hx hb d_Home_summary_29 rfl (lv_at hl 2 rfl) ?_
    refine hd_iald hx hb hK hP 6 0 0 Nat.one_pos rfl rfl hbl d_Home_summary_30 ?_
    refine lv_iload_n hx hb d_Home_summary_31 rfl (lv_at hl 0 rfl) ?_
    refine lv_iadd hx hb d_Home_summary_32 ?_
    refine lv_bipush (v := 32) hx hb d_Home_summary_33 (by decide) ?_
    refine lv_aload_n hx hb d_Home_summary_35 rfl (lv_at hl 1 rfl) ?_
    refine hd_get (C := R_Home) (T := F_Home) (N := 5) hx hb hts i_Home hown hK hP 4 0 Nat.one_pos rfl rfl 4 (by decide) (hts _ k_102) (fun _ h9 => h9) rfl d_Home_summary_36 ?_
    refine lv_iload_n hx hb d_Home_summary_39 rfl (lv_at hl 2 rfl) ?_
    refine hd_iald hx hb hK hP 8 0 0 Nat.one_pos rfl rfl hbl d_Home_summary_40 ?_
    refine lv_imul hx hb d_Home_summary_41 ?_
    refine lv_iadd hx hb d_Home_summary_42 ?_
    exact hd_iret hx hb hr hlk hK hN hP hS d_Home_summary_43 ⟨by subst ex2; simp only [f_Home_summary]; rw [if_pos h1], rfl⟩
def f_Home_stalls (mj : Nat) (v : hd_V) : Int32 :=
  if (v 3 mj 0) = 0 then
    if (v 6 0 (v 3 mj 3).toNatClampNeg) = 3 then
      1
    else
      0
  else
    if (v 3 mj 0) = 1 then
      if (v 6 0 (v 3 mj 3).toNatClampNeg) = 3 then
        1
      else
        0
    else
      0
theorem z_Home_stalls (mj : Nat) (v : hd_V) : f_Home_stalls mj v = 0 ∨ f_Home_stalls mj v = 1 := by
  simp only [f_Home_stalls]
  (repeat' split) <;> simp
set_option maxHeartbeats 4000000 in
set_option maxRecDepth 100000 in
theorem c_Home_stalls (l : Launch) {D : va_G} {cI cZ cM cC : ClassId} {n : Nat} {ad : Nat → Nat → Nat} (hJ : hd_J (hx_L n) ad) (mj : Nat) (v : hd_V) (hmj : mj < 32) (hbl : vp_in (v 3 mj 3) 4) : Met l y_Home_stalls w_Home_stalls { frames := 0, cells := 0, slots := 0, locals := 0 } (va_Pc [.ref (ad 4 0), .ref (ad 3 mj)] (hx_B D cI cZ cM cC n ad v)) (va_Qi (fun r u => r = f_Home_stalls mj v ∧ u = v) (fun u => hx_B D cI cZ cM cC n ad u) (hx_A n ad)) 0 0 (hx_A n ad) := by
  refine Met.ofW (cc := b_Home_stalls) (maxL := 2) (ret := (some .boolean)) (by decide) rfl ?_
  intro p e s m args below meth c s₁ B hml hv
  obtain ⟨rfl, hP, hK, hN⟩ := hv
  have hx := B.exec
  have hb := B.bytes
  have hr := B.returns
  have hlk := B.notSynchronized
  have hts0 := atoms_spec (ws := w_Home_stalls) B.pre
  have hts := fun w (hw : w ∈ lw_g) => hts0 w (List.mem_cons_of_mem _ hw)
  have hown : s.vm.findClass R_Home = some m.cls := findClass_of_methodNamed B.named
  have hA : ∀ q, hx_A n ad q → hx_A n ad q := fun _ h => h
  have hS : va_S (hx_A n ad) s.heap s.heap [] := va_S.rf
  have hl := lv_entry ([.ref (ad 4 0), .ref (ad 3 mj)]) (n := 2) (Nat.le_of_ble_eq_true rfl)
  rw [lg_entry_eq]
  generalize (lg_sl ([.ref (ad 4 0), .ref (ad 3 mj)]) ++ List.replicate (2 - (lg_sl ([.ref (ad 4 0), .ref (ad 3 mj)])).length) Slot.unset).toArray = ls at hl ⊢
  have hl : lv_has ls 2 [(0, .ref (ad 4 0)), (1, .ref (ad 3 mj))] := hl
  refine lv_aload_n hx hb d_Home_stalls_0 rfl (lv_at hl 1 rfl) ?_
  refine hd_getN (C := R_Msg) (T := F_Msg) (N := 7) hx hb hts i_Msg hown hK hP 3 mj hmj rfl rfl 0 (by decide) (hN.use k_38) (fun _ h9 => h9) rfl d_Home_stalls_1 ?_
  refine lv_if_eq (tgt := 15) hx hb d_Home_stalls_4 (by decide) (fun h1 => ?_) (fun h1 => ?_)
  · refine lv_aload_n hx hb d_Home_stalls_15 rfl (lv_at hl 0 rfl) ?_
    refine hd_get (C := R_Home) (T := F_Home) (N := 5) hx hb hts i_Home hown hK hP 4 0 Nat.one_pos rfl rfl 2 (by decide) (hts _ k_100) (fun _ h9 => h9) rfl d_Home_stalls_16 ?_
    refine lv_aload_n hx hb d_Home_stalls_19 rfl (lv_at hl 1 rfl) ?_
    refine hd_getN (C := R_Msg) (T := F_Msg) (N := 7) hx hb hts i_Msg hown hK hP 3 mj hmj rfl rfl 3 (by decide) (hN.use k_48) (fun _ h9 => h9) rfl d_Home_stalls_20 ?_
    refine hd_iald hx hb hK hP 6 0 0 Nat.one_pos rfl rfl hbl d_Home_stalls_23 ?_
    refine lv_iconst (v := 3) hx hb d_Home_stalls_24 (by decide) ?_
    refine lv_icmp_ne (tgt := 32) hx hb d_Home_stalls_25 (by decide) (fun h2 => ?_) (fun h2 => ?_)
    · refine lv_iconst (v := 0) hx hb d_Home_stalls_32 (by decide) ?_
      exact hd_zret hx hb hr hlk hK hN hP hS d_Home_stalls_33 rfl ⟨by simp only [f_Home_stalls]; rw [if_pos h1, if_neg h2], rfl⟩
    · refine lv_iconst (v := 1) hx hb d_Home_stalls_28 (by decide) ?_
      refine lv_goto (tgt := 33) hx hb d_Home_stalls_29 (by decide) ?_
      exact hd_zret hx hb hr hlk hK hN hP hS d_Home_stalls_33 rfl ⟨by simp only [f_Home_stalls]; rw [if_pos h1, if_pos h2], rfl⟩
  · refine lv_aload_n hx hb d_Home_stalls_7 rfl (lv_at hl 1 rfl) ?_
    refine hd_getN (C := R_Msg) (T := F_Msg) (N := 7) hx hb hts i_Msg hown hK hP 3 mj hmj rfl rfl 0 (by decide) (hN.use k_38) (fun _ h9 => h9) rfl d_Home_stalls_8 ?_
    refine lv_iconst (v := 1) hx hb d_Home_stalls_11 (by decide) ?_
    refine lv_icmp_ne (tgt := 32) hx hb d_Home_stalls_12 (by decide) (fun h3 => ?_) (fun h3 => ?_)
    · refine lv_iconst (v := 0) hx hb d_Home_stalls_32 (by decide) ?_
      exact hd_zret hx hb hr hlk hK hN hP hS d_Home_stalls_33 rfl ⟨by simp only [f_Home_stalls]; rw [if_neg h1, if_neg h3], rfl⟩
    · refine lv_aload_n hx hb d_Home_stalls_15 rfl (lv_at hl 0 rfl) ?_
      refine hd_get (C := R_Home) (T := F_Home) (N := 5) hx hb hts i_Home hown hK hP 4 0 Nat.one_pos rfl rfl 2 (by decide) (hts _ k_100) (fun _ h9 => h9) rfl d_Home_stalls_16 ?_
      refine lv_aload_n hx hb d_Home_stalls_19 rfl (lv_at hl 1 rfl) ?_
      refine hd_getN (C := R_Msg) (T := F_Msg) (N := 7) hx hb hts i_Msg hown hK hP 3 mj hmj rfl rfl 3 (by decide) (hN.use k_48) (fun _ h9 => h9) rfl d_Home_stalls_20 ?_
      refine hd_iald hx hb hK hP 6 0 0 Nat.one_pos rfl rfl hbl d_Home_stalls_23 ?_
      refine lv_iconst (v := 3) hx hb d_Home_stalls_24 (by decide) ?_
      refine lv_icmp_ne (tgt := 32) hx hb d_Home_stalls_25 (by decide) (fun h4 => ?_) (fun h4 => ?_)
      · refine lv_iconst (v := 0) hx hb d_Home_stalls_32 (by decide) ?_
        exact hd_zret hx hb hr hlk hK hN hP hS d_Home_stalls_33 rfl ⟨by simp only [f_Home_stalls]; rw [if_neg h1, if_pos h3, if_neg h4], rfl⟩
      · refine lv_iconst (v := 1) hx hb d_Home_stalls_28 (by decide) ?_
        refine lv_goto (tgt := 33) hx hb d_Home_stalls_29 (by decide) ?_
        exact hd_zret hx hb hr hlk hK hN hP hS d_Home_stalls_33 rfl ⟨by simp only [f_Home_stalls]; rw [if_neg h1, if_pos h3, if_pos h4], rfl⟩
def f_Home_giveToRead (block_ : Int32) (reader_ : Int32) (v : hd_V) : hd_V :=
  if (v 6 0 block_.toNatClampNeg) = 2 then
    let v5 := f_Net_sendFor 4 (v 7 0 block_.toNatClampNeg) block_ reader_ v
    let v6 := hd_u v5 8 0 block_.toNatClampNeg ((v5 8 0 block_.toNatClampNeg) ||| ((f_Home_bit reader_) ||| (f_Home_bit (v5 7 0 block_.toNatClampNeg))))
    let v7 := hd_u v6 7 0 block_.toNatClampNeg (-1)
    let v8 := hd_u v7 6 0 block_.toNatClampNeg 3
    v8
  else
    let v2 := f_Net_sendData 4 reader_ block_ (v 5 0 block_.toNatClampNeg) 0 v
    let v3 := hd_u v2 8 0 block_.toNatClampNeg ((v2 8 0 block_.toNatClampNeg) ||| (f_Home_bit reader_))
    let v4 := hd_u v3 6 0 block_.toNatClampNeg 1
    v4
set_option maxHeartbeats 4000000 in
set_option maxRecDepth 100000 in
theorem c_Home_giveToRead (l : Launch) {D : va_G} {cI cZ cM cC : ClassId} {n : Nat} {ad : Nat → Nat → Nat} (hJ : hd_J (hx_L n) ad) (block_ : Int32) (reader_ : Int32) (v : hd_V) (hbl : vp_in block_ 4) (hnet : hx_net v) : Met l y_Home_giveToRead w_Home_giveToRead { frames := 2, cells := 0, slots := 0, locals := 53 } (va_Pc [.ref (ad 4 0), .int block_, .int reader_] (hx_B D cI cZ cM cC n ad v)) (va_Qv (fun u => u = f_Home_giveToRead block_ reader_ v) (fun u => hx_B D cI cZ cM cC n ad u) (hx_A n ad)) 0 0 (hx_A n ad) := by
  refine Met.ofW (cc := b_Home_giveToRead) (maxL := 3) (ret := none) (by decide) rfl ?_
  intro p e s m args below meth c s₁ B hml hv
  obtain ⟨rfl, hP, hK, hN⟩ := hv
  have hx := B.exec
  have hb := B.bytes
  have hr := B.returns
  have hlk := B.notSynchronized
  have hts0 := atoms_spec (ws := w_Home_giveToRead) B.pre
  have hts := fun w (hw : w ∈ lw_g) => hts0 w (List.mem_cons_of_mem _ hw)
  have hown : s.vm.findClass R_Home = some m.cls := findClass_of_methodNamed B.named
  have hA : ∀ q, hx_A n ad q → hx_A n ad q := fun _ h => h
  have hS : va_S (hx_A n ad) s.heap s.heap [] := va_S.rf
  have hl := lv_entry ([.ref (ad 4 0), .int block_, .int reader_]) (n := 3) (Nat.le_of_ble_eq_true rfl)
  rw [lg_entry_eq]
  generalize (lg_sl ([.ref (ad 4 0), .int block_, .int reader_]) ++ List.replicate (3 - (lg_sl ([.ref (ad 4 0), .int block_, .int reader_])).length) Slot.unset).toArray = ls at hl ⊢
  have hl : lv_has ls 3 [(0, .ref (ad 4 0)), (1, .int block_), (2, .int reader_)] := hl
  refine lv_aload_n hx hb d_Home_giveToRead_0 rfl (lv_at hl 0 rfl) ?_
  refine hd_get (C := R_Home) (T := F_Home) (N := 5) hx hb hts i_Home hown hK hP 4 0 Nat.one_pos rfl rfl 2 (by decide) (hts _ k_100) (fun _ h9 => h9) rfl d_Home_giveToRead_1 ?_
  refine lv_iload_n hx hb d_Home_giveToRead_4 rfl (lv_at hl 1 rfl) ?_
  refine hd_iald hx hb hK hP 6 0 0 Nat.one_pos rfl rfl hbl d_Home_giveToRead_5 ?_
  refine lv_iconst (v := 2) hx hb d_Home_giveToRead_6 (by decide) ?_
  refine lv_icmp_ne (tgt := 66) hx hb d_Home_giveToRead_7 (by decide) (fun h1 => ?_) (fun h1 => ?_)
  · refine lv_aload_n hx hb d_Home_giveToRead_66 rfl (lv_at hl 0 rfl) ?_
    refine hd_get (C := R_Home) (T := F_Home) (N := 5) hx hb hts i_Home hown hK hP 4 0 Nat.one_pos rfl rfl 0 (by decide) (hts _ k_97) (fun _ h9 => h9) rfl d_Home_giveToRead_67 ?_
    refine lv_iconst (v := 4) hx hb d_Home_giveToRead_70 (by decide) ?_
    refine lv_iload_n hx hb d_Home_giveToRead_71 rfl (lv_at hl 2 rfl) ?_
    refine lv_iload_n hx hb d_Home_giveToRead_72 rfl (lv_at hl 1 rfl) ?_
    refine lv_aload_n hx hb d_Home_giveToRead_73 rfl (lv_at hl 0 rfl) ?_
    refine hd_get (C := R_Home) (T := F_Home) (N := 5) hx hb hts i_Home hown hK hP 4 0 Nat.one_pos rfl rfl 1 (by decide) (hts _ k_98) (fun _ h9 => h9) rfl d_Home_giveToRead_74 ?_
    refine lv_iload_n hx hb d_Home_giveToRead_77 rfl (lv_at hl 1 rfl) ?_
    refine hd_iald hx hb hK hP 5 0 0 Nat.one_pos rfl rfl hbl d_Home_giveToRead_78 ?_
    refine lv_iconst (v := 0) hx hb d_Home_giveToRead_79 (by decide) ?_
    refine hd_cV hK (va_runV (As := [.int 4, .int reader_, .int block_, .int (v 5 0 block_.toNatClampNeg), .int 0]) (rest := []) ⟨hx, hb, hml, hown, hts⟩ (c_Net_sendData l hJ 4 reader_ block_ (v 5 0 block_.toNatClampNeg) 0 v hnet) (cwV 5 hts (hd_gV g_Net_sendData k_316 k_317 k_318 k_3) rfl rfl rfl (by decide +kernel) ⟨Nat.le_of_ble_eq_true rfl, Nat.le_of_ble_eq_true rfl⟩) (hd_preV hK hN hP 1 0 Nat.one_pos rfl rfl [.int 4, .int reader_, .int block_, .int (v 5 0 block_.toNatClampNeg), .int 0]) rfl rfl hl.1 rfl (lv_room (Nat.le_of_ble_eq_true rfl)) d_Home_giveToRead_80 ⟨Nat.zero_le _, Nat.zero_le _⟩) hS hA (fun H locs hP hS => ?_)
    refine lv_aload_n hx hb d_Home_giveToRead_83 rfl (lv_at hl 0 rfl) ?_
    refine hd_get (C := R_Home) (T := F_Home) (N := 5) hx hb hts i_Home hown hK hP 4 0 Nat.one_pos rfl rfl 4 (by decide) (hts _ k_102) (fun _ h9 => h9) rfl d_Home_giveToRead_84 ?_
    refine lv_iload_n hx hb d_Home_giveToRead_87 rfl (lv_at hl 1 rfl) ?_
    refine lv_dup2_11 hx hb d_Home_giveToRead_88 rfl rfl ?_
    refine hd_iald hx hb hK hP 8 0 0 Nat.one_pos rfl rfl hbl d_Home_giveToRead_89 ?_
    refine lv_iload_n hx hb d_Home_giveToRead_90 rfl (lv_at hl 2 rfl) ?_
    refine hd_cI hK (va_runS (As := [.int reader_]) (rest := [.int ((f_Net_sendData 4 reader_ block_ (v 5 0 block_.toNatClampNeg) 0 v) 8 0 block_.toNatClampNeg), .int block_, .ref (ad 8 0)]) ⟨hx, hb, hml, hown, hts⟩ (c_Home_bit l hJ reader_ (f_Net_sendData 4 reader_ block_ (v 5 0 block_.toNatClampNeg) 0 v) ) (va_cwS 1 hts (hd_gS g_Home_bit k_313 k_314 k_5) rfl rfl rfl (by decide +kernel) ⟨Nat.le_of_ble_eq_true rfl, Nat.le_of_ble_eq_true rfl⟩) (hd_preS hK hN hP [.int reader_]) rfl rfl hl.1 rfl (lv_room (Nat.le_of_ble_eq_true rfl)) d_Home_giveToRead_91 ⟨Nat.zero_le _, Nat.zero_le _⟩) hS hA (fun H locs hP hS => ?_)
    refine lv_ior hx hb d_Home_giveToRead_94 ?_
    refine hd_iast hx hb hK hP hJ hA hS 8 0 0 Nat.one_pos (fun _ => rfl) rfl hbl d_Home_giveToRead_95 (fun H locs hP hS => ?_)
    refine lv_aload_n hx hb d_Home_giveToRead_96 rfl (lv_at hl 0 rfl) ?_
    refine hd_get (C := R_Home) (T := F_Home) (N := 5) hx hb hts i_Home hown hK hP 4 0 Nat.one_pos rfl rfl 2 (by decide) (hts _ k_100) (fun _ h9 => h9) rfl d_Home_giveToRead_97 ?_
    refine lv_iload_n hx hb d_Home_giveToRead_100 rfl (lv_at hl 1 rfl) ?_
    refine lv_iconst (v := 1) hx hb d_Home_giveToRead_101 (by decide) ?_
    refine hd_iast hx hb hK hP hJ hA hS 6 0 0 Nat.one_pos (fun _ => rfl) rfl hbl d_Home_giveToRead_102 (fun H locs hP hS => ?_)
    exact hd_vret hx hb hr hlk hK hN hP hS d_Home_giveToRead_103 (by simp only [f_Home_giveToRead]; rw [if_neg h1])
  · refine lv_aload_n hx hb d_Home_giveToRead_10 rfl (lv_at hl 0 rfl) ?_
    refine hd_get (C := R_Home) (T := F_Home) (N := 5) hx hb hts i_Home hown hK hP 4 0 Nat.one_pos rfl rfl 0 (by decide) (hts _ k_97) (fun _ h9 => h9) rfl d_Home_giveToRead_11 ?_
    refine lv_iconst (v := 4) hx hb d_Home_giveToRead_14 (by decide) ?_
    refine lv_aload_n hx hb d_Home_giveToRead_15 rfl (lv_at hl 0 rfl) ?_
    refine hd_get (C := R_Home) (T := F_Home) (N := 5) hx hb hts i_Home hown hK hP 4 0 Nat.one_pos rfl rfl 3 (by decide) (hts _ k_101) (fun _ h9 => h9) rfl d_Home_giveToRead_16 ?_
    refine lv_iload_n hx hb d_Home_giveToRead_19 rfl (lv_at hl 1 rfl) ?_
    refine hd_iald hx hb hK hP 7 0 0 Nat.one_pos rfl rfl hbl d_Home_giveToRead_20 ?_
    refine lv_iload_n hx hb d_Home_giveToRead_21 rfl (lv_at hl 1 rfl) ?_
    refine lv_iload_n hx hb d_Home_giveToRead_22 rfl (lv_at hl 2 rfl) ?_
    refine hd_cV hK (va_runV (As := [.int 4, .int (v 7 0 block_.toNatClampNeg), .int block_, .int reader_]) (rest := []) ⟨hx, hb, hml, hown, hts⟩ (c_Net_sendFor l hJ 4 (v 7 0 block_.toNatClampNeg) block_ reader_ v hnet) (cwV 4 hts (hd_gV g_Net_sendFor k_309 k_310 k_311 k_3) rfl rfl rfl (by decide +kernel) ⟨Nat.le_of_ble_eq_true rfl, Nat.le_of_ble_eq_true rfl⟩) (hd_preV hK hN hP 1 0 Nat.one_pos rfl rfl [.int 4, .int (v 7 0 block_.toNatClampNeg), .int block_, .int reader_]) rfl rfl hl.1 rfl (lv_room (Nat.le_of_ble_eq_true rfl)) d_Home_giveToRead_23 ⟨Nat.zero_le _, Nat.zero_le _⟩) hS hA (fun H locs hP hS => ?_)
    refine lv_aload_n hx hb d_Home_giveToRead_26 rfl (lv_at hl 0 rfl) ?_
    refine hd_get (C := R_Home) (T := F_Home) (N := 5) hx hb hts i_Home hown hK hP 4 0 Nat.one_pos rfl rfl 4 (by decide) (hts _ k_102) (fun _ h9 => h9) rfl d_Home_giveToRead_27 ?_
    refine lv_iload_n hx hb d_Home_giveToRead_30 rfl (lv_at hl 1 rfl) ?_
    refine lv_dup2_11 hx hb d_Home_giveToRead_31 rfl rfl ?_
    refine hd_iald hx hb hK hP 8 0 0 Nat.one_pos rfl rfl hbl d_Home_giveToRead_32 ?_
    refine lv_iload_n hx hb d_Home_giveToRead_33 rfl (lv_at hl 2 rfl) ?_
    refine hd_cI hK (va_runS (As := [.int reader_]) (rest := [.int ((f_Net_sendFor 4 (v 7 0 block_.toNatClampNeg) block_ reader_ v) 8 0 block_.toNatClampNeg), .int block_, .ref (ad 8 0)]) ⟨hx, hb, hml, hown, hts⟩ (c_Home_bit l hJ reader_ (f_Net_sendFor 4 (v 7 0 block_.toNatClampNeg) block_ reader_ v) ) (va_cwS 1 hts (hd_gS g_Home_bit k_313 k_314 k_5) rfl rfl rfl (by decide +kernel) ⟨Nat.le_of_ble_eq_true rfl, Nat.le_of_ble_eq_true rfl⟩) (hd_preS hK hN hP [.int reader_]) rfl rfl hl.1 rfl (lv_room (Nat.le_of_ble_eq_true rfl)) d_Home_giveToRead_34 ⟨Nat.zero_le _, Nat.zero_le _⟩) hS hA (fun H locs hP hS => ?_)
    refine lv_aload_n hx hb d_Home_giveToRead_37 rfl (lv_at hl 0 rfl) ?_
    refine hd_get (C := R_Home) (T := F_Home) (N := 5) hx hb hts i_Home hown hK hP 4 0 Nat.one_pos rfl rfl 3 (by decide) (hts _ k_101) (fun _ h9 => h9) rfl d_Home_giveToRead_38 ?_
    refine lv_iload_n hx hb d_Home_giveToRead_41 rfl (lv_at hl 1 rfl) ?_
    refine hd_iald hx hb hK hP 7 0 0 Nat.one_pos rfl rfl hbl d_Home_giveToRead_42 ?_
    refine hd_cI hK (va_runS (As := [.int ((f_Net_sendFor 4 (v 7 0 block_.toNatClampNeg) block_ reader_ v) 7 0 block_.toNatClampNeg)]) (rest := [.int (f_Home_bit reader_), .int ((f_Net_sendFor 4 (v 7 0 block_.toNatClampNeg) block_ reader_ v) 8 0 block_.toNatClampNeg), .int block_, .ref (ad 8 0)]) ⟨hx, hb, hml, hown, hts⟩ (c_Home_bit l hJ ((f_Net_sendFor 4 (v 7 0 block_.toNatClampNeg) block_ reader_ v) 7 0 block_.toNatClampNeg) (f_Net_sendFor 4 (v 7 0 block_.toNatClampNeg) block_ reader_ v) ) (va_cwS 1 hts (hd_gS g_Home_bit k_313 k_314 k_5) rfl rfl rfl (by decide +kernel) ⟨Nat.le_of_ble_eq_true rfl, Nat.le_of_ble_eq_true rfl⟩) (hd_preS hK hN hP [.int ((f_Net_sendFor 4 (v 7 0 block_.toNatClampNeg) block_ reader_ v) 7 0 block_.toNatClampNeg)]) rfl rfl hl.1 rfl (lv_room (Nat.le_of_ble_eq_true rfl)) d_Home_giveToRead_43 ⟨Nat.zero_le _, Nat.zero_le _⟩) hS hA (fun H locs hP hS => ?_)
    refine lv_ior hx hb d_Home_giveToRead_46 ?_
    refine lv_ior hx hb d_Home_giveToRead_47 ?_
    refine hd_iast hx hb hK hP hJ hA hS 8 0 0 Nat.one_pos (fun _ => rfl) rfl hbl d_Home_giveToRead_48 (fun H locs hP hS => ?_)
    refine lv_aload_n hx hb d_Home_giveToRead_49 rfl (lv_at hl 0 rfl) ?_
    refine hd_get (C := R_Home) (T := F_Home) (N := 5) hx hb hts i_Home hown hK hP 4 0 Nat.one_pos rfl rfl 3 (by decide) (hts _ k_101) (fun _ h9 => h9) rfl d_Home_giveToRead_50 ?_
    refine lv_iload_n hx hb d_Home_giveToRead_53 rfl (lv_at hl 1 rfl) ?_
    refine lv_iconst (v := -1) hx hb d_Home_giveToRead_54 (by decide) ?_
    refine hd_iast hx hb hK hP hJ hA hS 7 0 0 Nat.one_pos (fun _ => rfl) rfl hbl d_Home_giveToRead_55 (fun H locs hP hS => ?_)
    refine lv_aload_n hx hb d_Home_giveToRead_56 rfl (lv_at hl 0 rfl) ?_
    refine hd_get (C := R_Home) (T := F_Home) (N := 5) hx hb hts i_Home hown hK hP 4 0 Nat.one_pos rfl rfl 2 (by decide) (hts _ k_100) (fun _ h9 => h9) rfl d_Home_giveToRead_57 ?_
    refine lv_iload_n hx hb d_Home_giveToRead_60 rfl (lv_at hl 1 rfl) ?_
    refine lv_iconst (v := 3) hx hb d_Home_giveToRead_61 (by decide) ?_
    refine hd_iast hx hb hK hP hJ hA hS 6 0 0 Nat.one_pos (fun _ => rfl) rfl hbl d_Home_giveToRead_62 (fun H locs hP hS => ?_)
    refine lv_goto (tgt := 103) hx hb d_Home_giveToRead_63 (by decide) ?_
    exact hd_vret hx hb hr hlk hK hN hP hS d_Home_giveToRead_103 (by simp only [f_Home_giveToRead]; rw [if_pos h1])
def f_Home_invalidate_L3 (others_ block_ writer_ : Int32) : Nat → Int32 → hd_V → hd_V
  | 0, _, w => w
  | k + 1, y4, w =>
    if 4 ≤ y4 then
      w
    else
      if (others_ &&& (f_Home_bit y4)) = 0 then
        let x103 : Int32 := y4 + 1
        f_Home_invalidate_L3 others_ block_ writer_ k x103 w
      else
        let v104 := f_Net_sendFor 6 y4 block_ writer_ w
        let x105 : Int32 := y4 + 1
        f_Home_invalidate_L3 others_ block_ writer_ k x105 v104
def f_Home_invalidate (others_ : Int32) (block_ : Int32) (writer_ : Int32) (v : hd_V) : hd_V :=
  f_Home_invalidate_L3 others_ block_ writer_ 5 0 v
set_option maxHeartbeats 4000000 in
set_option maxRecDepth 100000 in
theorem c_Home_invalidate (l : Launch) {D : va_G} {cI cZ cM cC : ClassId} {n : Nat} {ad : Nat → Nat → Nat} (hJ : hd_J (hx_L n) ad) (others_ : Int32) (block_ : Int32) (writer_ : Int32) (v : hd_V) (hnet : hx_net v) : Met l y_Home_invalidate w_Home_invalidate { frames := 2, cells := 0, slots := 0, locals := 52 } (va_Pc [.ref (ad 4 0), .int others_, .int block_, .int writer_] (hx_B D cI cZ cM cC n ad v)) (va_Qv (fun u => u = f_Home_invalidate others_ block_ writer_ v) (fun u => hx_B D cI cZ cM cC n ad u) (hx_A n ad)) 0 0 (hx_A n ad) := by
  refine Met.ofW (cc := b_Home_invalidate) (maxL := 5) (ret := none) (by decide) rfl ?_
  intro p e s m args below meth c s₁ B hml hv
  obtain ⟨rfl, hP, hK, hN⟩ := hv
  have hx := B.exec
  have hb := B.bytes
  have hr := B.returns
  have hlk := B.notSynchronized
  have hts0 := atoms_spec (ws := w_Home_invalidate) B.pre
  have hts := fun w (hw : w ∈ lw_g) => hts0 w (List.mem_cons_of_mem _ hw)
  have hown : s.vm.findClass R_Home = some m.cls := findClass_of_methodNamed B.named
  have hA : ∀ q, hx_A n ad q → hx_A n ad q := fun _ h => h
  have hS : va_S (hx_A n ad) s.heap s.heap [] := va_S.rf
  have hl := lv_entry ([.ref (ad 4 0), .int others_, .int block_, .int writer_]) (n := 5) (Nat.le_of_ble_eq_true rfl)
  rw [lg_entry_eq]
  generalize (lg_sl ([.ref (ad 4 0), .int others_, .int block_, .int writer_]) ++ List.replicate (5 - (lg_sl ([.ref (ad 4 0), .int others_, .int block_, .int writer_])).length) Slot.unset).toArray = ls at hl ⊢
  have hl : lv_has ls 5 [(0, .ref (ad 4 0)), (1, .int others_), (2, .int block_), (3, .int writer_)] := hl
  have loop3 : ∀ (k i : Nat) (y4 : Int32) (w : hd_V), (i ≤ 4) → (4 < i + k) → (y4 = nI i) → (hx_net w) → f_Home_invalidate others_ block_ writer_ v = f_Home_invalidate_L3 others_ block_ writer_ k y4 w → ∀ (H : Heap) (locs : List Loc) (ls : Array Slot), hd_P D hx_cl (hx_L n) ad (hx_ce cI cZ cM cC n ad) w H → va_S (hx_A n ad) s.heap H locs → lv_has ls 5 [(4, .int y4), (0, .ref (ad 4 0)), (1, .int others_), (2, .int block_), (3, .int writer_)] → W p l e (headSpec w_Home_invalidate { frames := 2, cells := 0, slots := 0, locals := 52 }).room s m [.ref (ad 4 0), .int others_, .int block_, .int writer_].toArray below meth c H locs 0 0 (MQ below (va_Qv (fun u => u = f_Home_invalidate others_ block_ writer_ v) (fun u => hx_B D cI cZ cM cC n ad u) (hx_A n ad)) [.ref (ad 4 0), .int others_, .int block_, .int writer_].toArray s 0 0 (hx_A n ad)) (F0 m 3 ls []) := by
    intro k
    induction k with
    | zero =>
      intro i y4 w hi1 hi2 hi3 hn
      exact absurd hi2 (by omega)
    | succ k ih =>
      intro i y4 w hi1 hi2 hi3 hn hf H locs ls hP hS hl
      refine lv_iload hx hb d_Home_invalidate_3 (lv_at hl 0 rfl) ?_
      refine lv_iconst (v := 4) hx hb d_Home_invalidate_5 (by decide) ?_
      refine lv_icmp_ge (tgt := 38) hx hb d_Home_invalidate_6 (by decide) (fun h101 => ?_) (fun h101 => ?_)
      · exact hd_vret hx hb hr hlk hK hN hP hS d_Home_invalidate_38 (by rw [hf]; simp only [f_Home_invalidate_L3]; rw [if_pos h101])
      · have hlt : i < 4 := hd_lp hi3 (show (4 : Int32) = nI 4 from rfl) (by omega) h101
        have hin : vp_in y4 4 := hd_lpin hi3 (by omega) (by decide)
        refine lv_iload_n hx hb d_Home_invalidate_9 rfl (lv_at hl 2 rfl) ?_
        refine lv_iload hx hb d_Home_invalidate_10 (lv_at hl 0 rfl) ?_
        refine hd_cI hK (va_runS (As := [.int y4]) (rest := [.int others_]) ⟨hx, hb, hml, hown, hts⟩ (c_Home_bit l hJ y4 w ) (va_cwS 1 hts (hd_gS g_Home_bit k_313 k_314 k_5) rfl rfl rfl (by decide +kernel) ⟨Nat.le_of_ble_eq_true rfl, Nat.le_of_ble_eq_true rfl⟩) (hd_preS hK hN hP [.int y4]) rfl rfl hl.1 rfl (lv_room (Nat.le_of_ble_eq_true rfl)) d_Home_invalidate_12 ⟨Nat.zero_le _, Nat.zero_le _⟩) hS hA (fun H locs hP hS => ?_)
        refine lv_iand hx hb d_Home_invalidate_15 ?_
        refine lv_if_eq (tgt := 32) hx hb d_Home_invalidate_16 (by decide) (fun h102 => ?_) (fun h102 => ?_)
        · obtain ⟨x103, ex103⟩ : ∃ y : Int32, y = y4 + 1 := ⟨_, rfl⟩
          refine lv_iinc (v := x103) (lv' := [(4, .int x103), (0, .ref (ad 4 0)), (1, .int others_), (2, .int block_), (3, .int writer_)]) hx hb d_Home_invalidate_32 hl (k := 0) rfl (by rw [ex103]; rfl) (by decide) rfl (fun ls hl => ?_)
          refine lv_goto (tgt := 3) hx hb d_Home_invalidate_35 (by decide) ?_
          exact ih (i + 1) x103 w hlt (by omega) (by rw [ex103, hi3]; exact nI_1 i) hn (by rw [hf]; subst ex103; simp only [f_Home_invalidate_L3]; rw [if_neg h101, if_pos h102]) _ _ _ hP hS (lv_sub hl [0, 1, 2, 3, 4] rfl)
        · refine lv_aload_n hx hb d_Home_invalidate_19 rfl (lv_at hl 1 rfl) ?_
          refine hd_get (C := R_Home) (T := F_Home) (N := 5) hx hb hts i_Home hown hK hP 4 0 Nat.one_pos rfl rfl 0 (by decide) (hts _ k_97) (fun _ h9 => h9) rfl d_Home_invalidate_20 ?_
          refine lv_bipush (v := 6) hx hb d_Home_invalidate_23 (by decide) ?_
          refine lv_iload hx hb d_Home_invalidate_25 (lv_at hl 0 rfl) ?_
          refine lv_iload_n hx hb d_Home_invalidate_27 rfl (lv_at hl 3 rfl) ?_
          refine lv_iload_n hx hb d_Home_invalidate_28 rfl (lv_at hl 4 rfl) ?_
          refine hd_cV hK (va_runV (As := [.int 6, .int y4, .int block_, .int writer_]) (rest := []) ⟨hx, hb, hml, hown, hts⟩ (c_Net_sendFor l hJ 6 y4 block_ writer_ w hn) (cwV 4 hts (hd_gV g_Net_sendFor k_309 k_310 k_311 k_3) rfl rfl rfl (by decide +kernel) ⟨Nat.le_of_ble_eq_true rfl, Nat.le_of_ble_eq_true rfl⟩) (hd_preV hK hN hP 1 0 Nat.one_pos rfl rfl [.int 6, .int y4, .int block_, .int writer_]) rfl rfl hl.1 rfl (lv_room (Nat.le_of_ble_eq_true rfl)) d_Home_invalidate_29 ⟨Nat.zero_le _, Nat.zero_le _⟩) hS hA (fun H locs hP hS => ?_)
          obtain ⟨x105, ex105⟩ : ∃ y : Int32, y = y4 + 1 := ⟨_, rfl⟩
          refine lv_iinc (v := x105) (lv' := [(4, .int x105), (0, .ref (ad 4 0)), (1, .int others_), (2, .int block_), (3, .int writer_)]) hx hb d_Home_invalidate_32 hl (k := 0) rfl (by rw [ex105]; rfl) (by decide) rfl (fun ls hl => ?_)
          refine lv_goto (tgt := 3) hx hb d_Home_invalidate_35 (by decide) ?_
          exact ih (i + 1) x105 (f_Net_sendFor 6 y4 block_ writer_ w) hlt (by omega) (by rw [ex105, hi3]; exact nI_1 i) (net_Net_sendFor hn) (by rw [hf]; subst ex105; simp only [f_Home_invalidate_L3]; rw [if_neg h101, if_neg h102]) _ _ _ hP hS (lv_sub hl [0, 1, 2, 3, 4] rfl)
  refine lv_iconst (v := 0) hx hb d_Home_invalidate_0 (by decide) ?_
  refine lv_istore (lv' := [(4, .int 0), (0, .ref (ad 4 0)), (1, .int others_), (2, .int block_), (3, .int writer_)]) hx hb d_Home_invalidate_1 hl (by decide) rfl (fun ls hl => ?_)
  exact loop3 5 0 0 v (by omega) (by omega) nI_0.symm hnet (by simp only [f_Home_invalidate]) _ _ _ hP hS (lv_sub hl [0, 1, 2, 3, 4] rfl)
theorem net_Home_invalidate_L {a b c : Int32} : ∀ (k : Nat) (y : Int32) (v : hd_V), hx_net v → hx_net (f_Home_invalidate_L3 a b c k y v) := by
  intro k
  induction k with
  | zero =>
    intro y v h
    exact h
  | succ k ih =>
    intro y v h
    simp only [f_Home_invalidate_L3]
    (repeat' split) <;> first | exact h | exact ih _ _ h | exact ih _ _ (net_Net_sendFor h)
theorem net_Home_invalidate {a b c : Int32} {v : hd_V} (h : hx_net v) : hx_net (f_Home_invalidate a b c v) := net_Home_invalidate_L _ _ _ h
def f_Home_giveToWrite (block_ : Int32) (writer_ : Int32) (v : hd_V) : hd_V :=
  if (v 6 0 block_.toNatClampNeg) = 2 then
    let v8 := f_Net_sendFor 5 (v 7 0 block_.toNatClampNeg) block_ writer_ v
    let v9 := hd_u v8 7 0 block_.toNatClampNeg writer_
    v9
  else
    let x2 : Int32 := (v 8 0 block_.toNatClampNeg) &&& ((f_Home_bit writer_) ^^^ (-1))
    let v3 := f_Net_sendData 4 writer_ block_ (v 5 0 block_.toNatClampNeg) (f_Int_bitCount x2) v
    let v4 := f_Home_invalidate x2 block_ writer_ v3
    let v5 := hd_u v4 8 0 block_.toNatClampNeg 0
    let v6 := hd_u v5 6 0 block_.toNatClampNeg 2
    let v7 := hd_u v6 7 0 block_.toNatClampNeg writer_
    v7
set_option maxHeartbeats 4000000 in
set_option maxRecDepth 100000 in
theorem c_Home_giveToWrite (l : Launch) {D : va_G} {cI cZ cM cC : ClassId} {n : Nat} {ad : Nat → Nat → Nat} (hJ : hd_J (hx_L n) ad) (block_ : Int32) (writer_ : Int32) (v : hd_V) (hbl : vp_in block_ 4) (hnet : hx_net v) : Met l y_Home_giveToWrite w_Home_giveToWrite { frames := 3, cells := 0, slots := 0, locals := 76 } (va_Pc [.ref (ad 4 0), .int block_, .int writer_] (hx_B D cI cZ cM cC n ad v)) (va_Qv (fun u => u = f_Home_giveToWrite block_ writer_ v) (fun u => hx_B D cI cZ cM cC n ad u) (hx_A n ad)) 0 0 (hx_A n ad) := by
  refine Met.ofW (cc := b_Home_giveToWrite) (maxL := 4) (ret := none) (by decide) rfl ?_
  intro p e s m args below meth c s₁ B hml hv
  obtain ⟨rfl, hP, hK, hN⟩ := hv
  have hx := B.exec
  have hb := B.bytes
  have hr := B.returns
  have hlk := B.notSynchronized
  have hts0 := atoms_spec (ws := w_Home_giveToWrite) B.pre
  have hts := fun w (hw : w ∈ lw_g) => hts0 w (List.mem_cons_of_mem _ hw)
  have hown : s.vm.findClass R_Home = some m.cls := findClass_of_methodNamed B.named
  have hA : ∀ q, hx_A n ad q → hx_A n ad q := fun _ h => h
  have hS : va_S (hx_A n ad) s.heap s.heap [] := va_S.rf
  have hl := lv_entry ([.ref (ad 4 0), .int block_, .int writer_]) (n := 4) (Nat.le_of_ble_eq_true rfl)
  rw [lg_entry_eq]
  generalize (lg_sl ([.ref (ad 4 0), .int block_, .int writer_]) ++ List.replicate (4 - (lg_sl ([.ref (ad 4 0), .int block_, .int writer_])).length) Slot.unset).toArray = ls at hl ⊢
  have hl : lv_has ls 4 [(0, .ref (ad 4 0)), (1, .int block_), (2, .int writer_)] := hl
  refine lv_aload_n hx hb d_Home_giveToWrite_0 rfl (lv_at hl 0 rfl) ?_
  refine hd_get (C := R_Home) (T := F_Home) (N := 5) hx hb hts i_Home hown hK hP 4 0 Nat.one_pos rfl rfl 2 (by decide) (hts _ k_100) (fun _ h9 => h9) rfl d_Home_giveToWrite_1 ?_
  refine lv_iload_n hx hb d_Home_giveToWrite_4 rfl (lv_at hl 1 rfl) ?_
  refine hd_iald hx hb hK hP 6 0 0 Nat.one_pos rfl rfl hbl d_Home_giveToWrite_5 ?_
  refine lv_iconst (v := 2) hx hb d_Home_giveToWrite_6 (by decide) ?_
  refine lv_icmp_ne (tgt := 29) hx hb d_Home_giveToWrite_7 (by decide) (fun h1 => ?_) (fun h1 => ?_)
  · refine lv_aload_n hx hb d_Home_giveToWrite_29 rfl (lv_at hl 0 rfl) ?_
    refine hd_get (C := R_Home) (T := F_Home) (N := 5) hx hb hts i_Home hown hK hP 4 0 Nat.one_pos rfl rfl 4 (by decide) (hts _ k_102) (fun _ h9 => h9) rfl d_Home_giveToWrite_30 ?_
    refine lv_iload_n hx hb d_Home_giveToWrite_33 rfl (lv_at hl 1 rfl) ?_
    refine hd_iald hx hb hK hP 8 0 0 Nat.one_pos rfl rfl hbl d_Home_giveToWrite_34 ?_
    refine lv_iload_n hx hb d_Home_giveToWrite_35 rfl (lv_at hl 2 rfl) ?_
    refine hd_cI hK (va_runS (As := [.int writer_]) (rest := [.int (v 8 0 block_.toNatClampNeg)]) ⟨hx, hb, hml, hown, hts⟩ (c_Home_bit l hJ writer_ v ) (va_cwS 1 hts (hd_gS g_Home_bit k_313 k_314 k_5) rfl rfl rfl (by decide +kernel) ⟨Nat.le_of_ble_eq_true rfl, Nat.le_of_ble_eq_true rfl⟩) (hd_preS hK hN hP [.int writer_]) rfl rfl hl.1 rfl (lv_room (Nat.le_of_ble_eq_true rfl)) d_Home_giveToWrite_36 ⟨Nat.zero_le _, Nat.zero_le _⟩) hS hA (fun H locs hP hS => ?_)
    refine lv_iconst (v := -1) hx hb d_Home_giveToWrite_39 (by decide) ?_
    refine lv_ixor hx hb d_Home_giveToWrite_40 ?_
    refine lv_iand hx hb d_Home_giveToWrite_41 ?_
    refine lv_topi (fun x2 ex2 => ?_)
    refine lv_istore_n (lv' := [(3, .int x2), (0, .ref (ad 4 0)), (1, .int block_), (2, .int writer_)]) hx hb d_Home_giveToWrite_42 rfl hl (by decide) rfl (fun ls hl => ?_)
    refine lv_aload_n hx hb d_Home_giveToWrite_43 rfl (lv_at hl 1 rfl) ?_
    refine hd_get (C := R_Home) (T := F_Home) (N := 5) hx hb hts i_Home hown hK hP 4 0 Nat.one_pos rfl rfl 0 (by decide) (hts _ k_97) (fun _ h9 => h9) rfl d_Home_giveToWrite_44 ?_
    refine lv_iconst (v := 4) hx hb d_Home_giveToWrite_47 (by decide) ?_
    refine lv_iload_n hx hb d_Home_giveToWrite_48 rfl (lv_at hl 3 rfl) ?_
    refine lv_iload_n hx hb d_Home_giveToWrite_49 rfl (lv_at hl 2 rfl) ?_
    refine lv_aload_n hx hb d_Home_giveToWrite_50 rfl (lv_at hl 1 rfl) ?_
    refine hd_get (C := R_Home) (T := F_Home) (N := 5) hx hb hts i_Home hown hK hP 4 0 Nat.one_pos rfl rfl 1 (by decide) (hts _ k_98) (fun _ h9 => h9) rfl d_Home_giveToWrite_51 ?_
    refine lv_iload_n hx hb d_Home_giveToWrite_54 rfl (lv_at hl 2 rfl) ?_
    refine hd_iald hx hb hK hP 5 0 0 Nat.one_pos rfl rfl hbl d_Home_giveToWrite_55 ?_
    refine lv_iload_n hx hb d_Home_giveToWrite_56 rfl (lv_at hl 0 rfl) ?_
    refine hd_cI hK (va_runS (As := [.int x2]) (rest := [.int (v 5 0 block_.toNatClampNeg), .int block_, .int writer_, .int 4, .ref (ad 1 0)]) ⟨hx, hb, hml, hown, hts⟩ (c_Int_bitCount l hJ x2 v ) (va_cwS 1 hts (hd_gS g_Int_bitCount k_324 k_325 k_9) rfl rfl rfl (by decide +kernel) ⟨Nat.le_of_ble_eq_true rfl, Nat.le_of_ble_eq_true rfl⟩) (hd_preS hK hN hP [.int x2]) rfl rfl hl.1 rfl (lv_room (Nat.le_of_ble_eq_true rfl)) d_Home_giveToWrite_57 ⟨Nat.zero_le _, Nat.zero_le _⟩) hS hA (fun H locs hP hS => ?_)
    refine hd_cV hK (va_runV (As := [.int 4, .int writer_, .int block_, .int (v 5 0 block_.toNatClampNeg), .int (f_Int_bitCount x2)]) (rest := []) ⟨hx, hb, hml, hown, hts⟩ (c_Net_sendData l hJ 4 writer_ block_ (v 5 0 block_.toNatClampNeg) (f_Int_bitCount x2) v hnet) (cwV 5 hts (hd_gV g_Net_sendData k_316 k_317 k_318 k_3) rfl rfl rfl (by decide +kernel) ⟨Nat.le_of_ble_eq_true rfl, Nat.le_of_ble_eq_true rfl⟩) (hd_preV hK hN hP 1 0 Nat.one_pos rfl rfl [.int 4, .int writer_, .int block_, .int (v 5 0 block_.toNatClampNeg), .int (f_Int_bitCount x2)]) rfl rfl hl.1 rfl (lv_room (Nat.le_of_ble_eq_true rfl)) d_Home_giveToWrite_60 ⟨Nat.zero_le _, Nat.zero_le _⟩) hS hA (fun H locs hP hS => ?_)
    refine lv_aload_n hx hb d_Home_giveToWrite_63 rfl (lv_at hl 1 rfl) ?_
    refine lv_iload_n hx hb d_Home_giveToWrite_64 rfl (lv_at hl 0 rfl) ?_
    refine lv_iload_n hx hb d_Home_giveToWrite_65 rfl (lv_at hl 2 rfl) ?_
    refine lv_iload_n hx hb d_Home_giveToWrite_66 rfl (lv_at hl 3 rfl) ?_
    refine hd_cV hK (va_runV (As := [.int x2, .int block_, .int writer_]) (rest := []) ⟨hx, hb, hml, hown, hts⟩ (c_Home_invalidate l hJ x2 block_ writer_ (f_Net_sendData 4 writer_ block_ (v 5 0 block_.toNatClampNeg) (f_Int_bitCount x2) v) (net_Net_sendData hnet)) (cwV 3 hts (hd_gV g_Home_invalidate k_330 k_332 s_14 k_5) rfl rfl rfl (by decide +kernel) ⟨Nat.le_of_ble_eq_true rfl, Nat.le_of_ble_eq_true rfl⟩) (hd_preV hK hN hP 4 0 Nat.one_pos rfl rfl [.int x2, .int block_, .int writer_]) rfl rfl hl.1 rfl (lv_room (Nat.le_of_ble_eq_true rfl)) d_Home_giveToWrite_67 ⟨Nat.zero_le _, Nat.zero_le _⟩) hS hA (fun H locs hP hS => ?_)
    refine lv_aload_n hx hb d_Home_giveToWrite_70 rfl (lv_at hl 1 rfl) ?_
    refine hd_get (C := R_Home) (T := F_Home) (N := 5) hx hb hts i_Home hown hK hP 4 0 Nat.one_pos rfl rfl 4 (by decide) (hts _ k_102) (fun _ h9 => h9) rfl d_Home_giveToWrite_71 ?_
    refine lv_iload_n hx hb d_Home_giveToWrite_74 rfl (lv_at hl 2 rfl) ?_
    refine lv_iconst (v := 0) hx hb d_Home_giveToWrite_75 (by decide) ?_
    refine hd_iast hx hb hK hP hJ hA hS 8 0 0 Nat.one_pos (fun _ => rfl) rfl hbl d_Home_giveToWrite_76 (fun H locs hP hS => ?_)
    refine lv_aload_n hx hb d_Home_giveToWrite_77 rfl (lv_at hl 1 rfl) ?_
    refine hd_get (C := R_Home) (T := F_Home) (N := 5) hx hb hts i_Home hown hK hP 4 0 Nat.one_pos rfl rfl 2 (by decide) (hts _ k_100) (fun _ h9 => h9) rfl d_Home_giveToWrite_78 ?_
    refine lv_iload_n hx hb d_Home_giveToWrite_81 rfl (lv_at hl 2 rfl) ?_
    refine lv_iconst (v := 2) hx hb d_Home_giveToWrite_82 (by decide) ?_
    refine hd_iast hx hb hK hP hJ hA hS 6 0 0 Nat.one_pos (fun _ => rfl) rfl hbl d_Home_giveToWrite_83 (fun H locs hP hS => ?_)
    refine lv_aload_n hx hb d_Home_giveToWrite_84 rfl (lv_at hl 1 rfl) ?_
    refine hd_get (C := R_Home) (T := F_Home) (N := 5) hx hb hts i_Home hown hK hP 4 0 Nat.one_pos rfl rfl 3 (by decide) (hts _ k_101) (fun _ h9 => h9) rfl d_Home_giveToWrite_85 ?_
    refine lv_iload_n hx hb d_Home_giveToWrite_88 rfl (lv_at hl 2 rfl) ?_
    refine lv_iload_n hx hb d_Home_giveToWrite_89 rfl (lv_at hl 3 rfl) ?_
    refine hd_iast hx hb hK hP hJ hA hS 7 0 0 Nat.one_pos (fun _ => rfl) rfl hbl d_Home_giveToWrite_90 (fun H locs hP hS => ?_)
    exact hd_vret hx hb hr hlk hK hN hP hS d_Home_giveToWrite_91 (by subst ex2; simp only [f_Home_giveToWrite]; rw [if_neg h1])
  · refine lv_aload_n hx hb d_Home_giveToWrite_10 rfl (lv_at hl 0 rfl) ?_
    refine hd_get (C := R_Home) (T := F_Home) (N := 5) hx hb hts i_Home hown hK hP 4 0 Nat.one_pos rfl rfl 0 (by decide) (hts _ k_97) (fun _ h9 => h9) rfl d_Home_giveToWrite_11 ?_
    refine lv_iconst (v := 5) hx hb d_Home_giveToWrite_14 (by decide) ?_
    refine lv_aload_n hx hb d_Home_giveToWrite_15 rfl (lv_at hl 0 rfl) ?_
    refine hd_get (C := R_Home) (T := F_Home) (N := 5) hx hb hts i_Home hown hK hP 4 0 Nat.one_pos rfl rfl 3 (by decide) (hts _ k_101) (fun _ h9 => h9) rfl d_Home_giveToWrite_16 ?_
    refine lv_iload_n hx hb d_Home_giveToWrite_19 rfl (lv_at hl 1 rfl) ?_
    refine hd_iald hx hb hK hP 7 0 0 Nat.one_pos rfl rfl hbl d_Home_giveToWrite_20 ?_
    refine lv_iload_n hx hb d_Home_giveToWrite_21 rfl (lv_at hl 1 rfl) ?_
    refine lv_iload_n hx hb d_Home_giveToWrite_22 rfl (lv_at hl 2 rfl) ?_
    refine hd_cV hK (va_runV (As := [.int 5, .int (v 7 0 block_.toNatClampNeg), .int block_, .int writer_]) (rest := []) ⟨hx, hb, hml, hown, hts⟩ (c_Net_sendFor l hJ 5 (v 7 0 block_.toNatClampNeg) block_ writer_ v hnet) (cwV 4 hts (hd_gV g_Net_sendFor k_309 k_310 k_311 k_3) rfl rfl rfl (by decide +kernel) ⟨Nat.le_of_ble_eq_true rfl, Nat.le_of_ble_eq_true rfl⟩) (hd_preV hK hN hP 1 0 Nat.one_pos rfl rfl [.int 5, .int (v 7 0 block_.toNatClampNeg), .int block_, .int writer_]) rfl rfl hl.1 rfl (lv_room (Nat.le_of_ble_eq_true rfl)) d_Home_giveToWrite_23 ⟨Nat.zero_le _, Nat.zero_le _⟩) hS hA (fun H locs hP hS => ?_)
    refine lv_goto (tgt := 84) hx hb d_Home_giveToWrite_26 (by decide) ?_
    refine lv_aload_n hx hb d_Home_giveToWrite_84 rfl (lv_at hl 0 rfl) ?_
    refine hd_get (C := R_Home) (T := F_Home) (N := 5) hx hb hts i_Home hown hK hP 4 0 Nat.one_pos rfl rfl 3 (by decide) (hts _ k_101) (fun _ h9 => h9) rfl d_Home_giveToWrite_85 ?_
    refine lv_iload_n hx hb d_Home_giveToWrite_88 rfl (lv_at hl 1 rfl) ?_
    refine lv_iload_n hx hb d_Home_giveToWrite_89 rfl (lv_at hl 2 rfl) ?_
    refine hd_iast hx hb hK hP hJ hA hS 7 0 0 Nat.one_pos (fun _ => rfl) rfl hbl d_Home_giveToWrite_90 (fun H locs hP hS => ?_)
    exact hd_vret hx hb hr hlk hK hN hP hS d_Home_giveToWrite_91 (by simp only [f_Home_giveToWrite]; rw [if_pos h1])
def f_Home_takeBack (block_ : Int32) (core_ : Int32) (v : hd_V) : hd_V :=
  let v1 := hd_u v 8 0 block_.toNatClampNeg ((v 8 0 block_.toNatClampNeg) &&& ((f_Home_bit core_) ^^^ (-1)))
  if (v1 6 0 block_.toNatClampNeg) = 1 then
    if (v1 8 0 block_.toNatClampNeg) = 0 then
      let v6 := hd_u v1 6 0 block_.toNatClampNeg 0
      let v7 := f_Net_sendPlain 7 4 core_ block_ v6
      v7
    else
      let v5 := f_Net_sendPlain 7 4 core_ block_ v1
      v5
  else
    let v3 := f_Net_sendPlain 7 4 core_ block_ v1
    v3
set_option maxHeartbeats 4000000 in
set_option maxRecDepth 100000 in
theorem c_Home_takeBack (l : Launch) {D : va_G} {cI cZ cM cC : ClassId} {n : Nat} {ad : Nat → Nat → Nat} (hJ : hd_J (hx_L n) ad) (block_ : Int32) (core_ : Int32) (v : hd_V) (hbl : vp_in block_ 4) (hnet : hx_net v) : Met l y_Home_takeBack w_Home_takeBack { frames := 2, cells := 0, slots := 0, locals := 52 } (va_Pc [.ref (ad 4 0), .int block_, .int core_] (hx_B D cI cZ cM cC n ad v)) (va_Qv (fun u => u = f_Home_takeBack block_ core_ v) (fun u => hx_B D cI cZ cM cC n ad u) (hx_A n ad)) 0 0 (hx_A n ad) := by
  refine Met.ofW (cc := b_Home_takeBack) (maxL := 3) (ret := none) (by decide) rfl ?_
  intro p e s m args below meth c s₁ B hml hv
  obtain ⟨rfl, hP, hK, hN⟩ := hv
  have hx := B.exec
  have hb := B.bytes
  have hr := B.returns
  have hlk := B.notSynchronized
  have hts0 := atoms_spec (ws := w_Home_takeBack) B.pre
  have hts := fun w (hw : w ∈ lw_g) => hts0 w (List.mem_cons_of_mem _ hw)
  have hown : s.vm.findClass R_Home = some m.cls := findClass_of_methodNamed B.named
  have hA : ∀ q, hx_A n ad q → hx_A n ad q := fun _ h => h
  have hS : va_S (hx_A n ad) s.heap s.heap [] := va_S.rf
  have hl := lv_entry ([.ref (ad 4 0), .int block_, .int core_]) (n := 3) (Nat.le_of_ble_eq_true rfl)
  rw [lg_entry_eq]
  generalize (lg_sl ([.ref (ad 4 0), .int block_, .int core_]) ++ List.replicate (3 - (lg_sl ([.ref (ad 4 0), .int block_, .int core_])).length) Slot.unset).toArray = ls at hl ⊢
  have hl : lv_has ls 3 [(0, .ref (ad 4 0)), (1, .int block_), (2, .int core_)] := hl
  refine lv_aload_n hx hb d_Home_takeBack_0 rfl (lv_at hl 0 rfl) ?_
  refine hd_get (C := R_Home) (T := F_Home) (N := 5) hx hb hts i_Home hown hK hP 4 0 Nat.one_pos rfl rfl 4 (by decide) (hts _ k_102) (fun _ h9 => h9) rfl d_Home_takeBack_1 ?_
  refine lv_iload_n hx hb d_Home_takeBack_4 rfl (lv_at hl 1 rfl) ?_
  refine lv_dup2_11 hx hb d_Home_takeBack_5 rfl rfl ?_
  refine hd_iald hx hb hK hP 8 0 0 Nat.one_pos rfl rfl hbl d_Home_takeBack_6 ?_
  refine lv_iload_n hx hb d_Home_takeBack_7 rfl (lv_at hl 2 rfl) ?_
  refine hd_cI hK (va_runS (As := [.int core_]) (rest := [.int (v 8 0 block_.toNatClampNeg), .int block_, .ref (ad 8 0)]) ⟨hx, hb, hml, hown, hts⟩ (c_Home_bit l hJ core_ v ) (va_cwS 1 hts (hd_gS g_Home_bit k_313 k_314 k_5) rfl rfl rfl (by decide +kernel) ⟨Nat.le_of_ble_eq_true rfl, Nat.le_of_ble_eq_true rfl⟩) (hd_preS hK hN hP [.int core_]) rfl rfl hl.1 rfl (lv_room (Nat.le_of_ble_eq_true rfl)) d_Home_takeBack_8 ⟨Nat.zero_le _, Nat.zero_le _⟩) hS hA (fun H locs hP hS => ?_)
  refine lv_iconst (v := -1) hx hb d_Home_takeBack_11 (by decide) ?_
  refine lv_ixor hx hb d_Home_takeBack_12 ?_
  refine lv_iand hx hb d_Home_takeBack_13 ?_
  refine hd_iast hx hb hK hP hJ hA hS 8 0 0 Nat.one_pos (fun _ => rfl) rfl hbl d_Home_takeBack_14 (fun H locs hP hS => ?_)
  refine lv_aload_n hx hb d_Home_takeBack_15 rfl (lv_at hl 0 rfl) ?_
  refine hd_get (C := R_Home) (T := F_Home) (N := 5) hx hb hts i_Home hown hK hP 4 0 Nat.one_pos rfl rfl 2 (by decide) (hts _ k_100) (fun _ h9 => h9) rfl d_Home_takeBack_16 ?_
  refine lv_iload_n hx hb d_Home_takeBack_19 rfl (lv_at hl 1 rfl) ?_
  refine hd_iald hx hb hK hP 6 0 0 Nat.one_pos rfl rfl hbl d_Home_takeBack_20 ?_
  refine lv_iconst (v := 1) hx hb d_Home_takeBack_21 (by decide) ?_
  refine lv_icmp_ne (tgt := 41) hx hb d_Home_takeBack_22 (by decide) (fun h2 => ?_) (fun h2 => ?_)
  · refine lv_aload_n hx hb d_Home_takeBack_41 rfl (lv_at hl 0 rfl) ?_
    refine hd_get (C := R_Home) (T := F_Home) (N := 5) hx hb hts i_Home hown hK hP 4 0 Nat.one_pos rfl rfl 0 (by decide) (hts _ k_97) (fun _ h9 => h9) rfl d_Home_takeBack_42 ?_
    refine lv_bipush (v := 7) hx hb d_Home_takeBack_45 (by decide) ?_
    refine lv_iconst (v := 4) hx hb d_Home_takeBack_47 (by decide) ?_
    refine lv_iload_n hx hb d_Home_takeBack_48 rfl (lv_at hl 2 rfl) ?_
    refine lv_iload_n hx hb d_Home_takeBack_49 rfl (lv_at hl 1 rfl) ?_
    refine hd_cV hK (va_runV (As := [.int 7, .int 4, .int core_, .int block_]) (rest := []) ⟨hx, hb, hml, hown, hts⟩ (c_Net_sendPlain l hJ 7 4 core_ block_ (hd_u v 8 0 block_.toNatClampNeg ((v 8 0 block_.toNatClampNeg) &&& ((f_Home_bit core_) ^^^ (-1)))) hnet) (cwV 4 hts (hd_gV g_Net_sendPlain k_338 k_250 k_251 k_3) rfl rfl rfl (by decide +kernel) ⟨Nat.le_of_ble_eq_true rfl, Nat.le_of_ble_eq_true rfl⟩) (hd_preV hK hN hP 1 0 Nat.one_pos rfl rfl [.int 7, .int 4, .int core_, .int block_]) rfl rfl hl.1 rfl (lv_room (Nat.le_of_ble_eq_true rfl)) d_Home_takeBack_50 ⟨Nat.zero_le _, Nat.zero_le _⟩) hS hA (fun H locs hP hS => ?_)
    exact hd_vret hx hb hr hlk hK hN hP hS d_Home_takeBack_53 (by simp only [f_Home_takeBack]; rw [if_neg h2])
  · refine lv_aload_n hx hb d_Home_takeBack_25 rfl (lv_at hl 0 rfl) ?_
    refine hd_get (C := R_Home) (T := F_Home) (N := 5) hx hb hts i_Home hown hK hP 4 0 Nat.one_pos rfl rfl 4 (by decide) (hts _ k_102) (fun _ h9 => h9) rfl d_Home_takeBack_26 ?_
    refine lv_iload_n hx hb d_Home_takeBack_29 rfl (lv_at hl 1 rfl) ?_
    refine hd_iald hx hb hK hP 8 0 0 Nat.one_pos rfl rfl hbl d_Home_takeBack_30 ?_
    refine lv_if_ne (tgt := 41) hx hb d_Home_takeBack_31 (by decide) (fun h4 => ?_) (fun h4 => ?_)
    · refine lv_aload_n hx hb d_Home_takeBack_41 rfl (lv_at hl 0 rfl) ?_
      refine hd_get (C := R_Home) (T := F_Home) (N := 5) hx hb hts i_Home hown hK hP 4 0 Nat.one_pos rfl rfl 0 (by decide) (hts _ k_97) (fun _ h9 => h9) rfl d_Home_takeBack_42 ?_
      refine lv_bipush (v := 7) hx hb d_Home_takeBack_45 (by decide) ?_
      refine lv_iconst (v := 4) hx hb d_Home_takeBack_47 (by decide) ?_
      refine lv_iload_n hx hb d_Home_takeBack_48 rfl (lv_at hl 2 rfl) ?_
      refine lv_iload_n hx hb d_Home_takeBack_49 rfl (lv_at hl 1 rfl) ?_
      refine hd_cV hK (va_runV (As := [.int 7, .int 4, .int core_, .int block_]) (rest := []) ⟨hx, hb, hml, hown, hts⟩ (c_Net_sendPlain l hJ 7 4 core_ block_ (hd_u v 8 0 block_.toNatClampNeg ((v 8 0 block_.toNatClampNeg) &&& ((f_Home_bit core_) ^^^ (-1)))) hnet) (cwV 4 hts (hd_gV g_Net_sendPlain k_338 k_250 k_251 k_3) rfl rfl rfl (by decide +kernel) ⟨Nat.le_of_ble_eq_true rfl, Nat.le_of_ble_eq_true rfl⟩) (hd_preV hK hN hP 1 0 Nat.one_pos rfl rfl [.int 7, .int 4, .int core_, .int block_]) rfl rfl hl.1 rfl (lv_room (Nat.le_of_ble_eq_true rfl)) d_Home_takeBack_50 ⟨Nat.zero_le _, Nat.zero_le _⟩) hS hA (fun H locs hP hS => ?_)
      exact hd_vret hx hb hr hlk hK hN hP hS d_Home_takeBack_53 (by simp only [f_Home_takeBack]; rw [if_pos h2, if_neg h4])
    · refine lv_aload_n hx hb d_Home_takeBack_34 rfl (lv_at hl 0 rfl) ?_
      refine hd_get (C := R_Home) (T := F_Home) (N := 5) hx hb hts i_Home hown hK hP 4 0 Nat.one_pos rfl rfl 2 (by decide) (hts _ k_100) (fun _ h9 => h9) rfl d_Home_takeBack_35 ?_
      refine lv_iload_n hx hb d_Home_takeBack_38 rfl (lv_at hl 1 rfl) ?_
      refine lv_iconst (v := 0) hx hb d_Home_takeBack_39 (by decide) ?_
      refine hd_iast hx hb hK hP hJ hA hS 6 0 0 Nat.one_pos (fun _ => rfl) rfl hbl d_Home_takeBack_40 (fun H locs hP hS => ?_)
      refine lv_aload_n hx hb d_Home_takeBack_41 rfl (lv_at hl 0 rfl) ?_
      refine hd_get (C := R_Home) (T := F_Home) (N := 5) hx hb hts i_Home hown hK hP 4 0 Nat.one_pos rfl rfl 0 (by decide) (hts _ k_97) (fun _ h9 => h9) rfl d_Home_takeBack_42 ?_
      refine lv_bipush (v := 7) hx hb d_Home_takeBack_45 (by decide) ?_
      refine lv_iconst (v := 4) hx hb d_Home_takeBack_47 (by decide) ?_
      refine lv_iload_n hx hb d_Home_takeBack_48 rfl (lv_at hl 2 rfl) ?_
      refine lv_iload_n hx hb d_Home_takeBack_49 rfl (lv_at hl 1 rfl) ?_
      refine hd_cV hK (va_runV (As := [.int 7, .int 4, .int core_, .int block_]) (rest := []) ⟨hx, hb, hml, hown, hts⟩ (c_Net_sendPlain l hJ 7 4 core_ block_ (hd_u (hd_u v 8 0 block_.toNatClampNeg ((v 8 0 block_.toNatClampNeg) &&& ((f_Home_bit core_) ^^^ (-1)))) 6 0 block_.toNatClampNeg 0) hnet) (cwV 4 hts (hd_gV g_Net_sendPlain k_338 k_250 k_251 k_3) rfl rfl rfl (by decide +kernel) ⟨Nat.le_of_ble_eq_true rfl, Nat.le_of_ble_eq_true rfl⟩) (hd_preV hK hN hP 1 0 Nat.one_pos rfl rfl [.int 7, .int 4, .int core_, .int block_]) rfl rfl hl.1 rfl (lv_room (Nat.le_of_ble_eq_true rfl)) d_Home_takeBack_50 ⟨Nat.zero_le _, Nat.zero_le _⟩) hS hA (fun H locs hP hS => ?_)
      exact hd_vret hx hb hr hlk hK hN hP hS d_Home_takeBack_53 (by simp only [f_Home_takeBack]; rw [if_pos h2, if_pos h4])
def f_Home_takeBackWord (block_ : Int32) (core_ : Int32) (word_ : Int32) (v : hd_V) : hd_V :=
  if (v 7 0 block_.toNatClampNeg) = core_ then
    let v2 := hd_u v 5 0 block_.toNatClampNeg word_
    let v3 := hd_u v2 7 0 block_.toNatClampNeg (-1)
    let v4 := hd_u v3 6 0 block_.toNatClampNeg 0
    let v5 := f_Net_sendPlain 7 4 core_ block_ v4
    v5
  else
    let v6 := f_Home_takeBack block_ core_ v
    v6
set_option maxHeartbeats 4000000 in
set_option maxRecDepth 100000 in
theorem c_Home_takeBackWord (l : Launch) {D : va_G} {cI cZ cM cC : ClassId} {n : Nat} {ad : Nat → Nat → Nat} (hJ : hd_J (hx_L n) ad) (block_ : Int32) (core_ : Int32) (word_ : Int32) (v : hd_V) (hbl : vp_in block_ 4) (hnet : hx_net v) : Met l y_Home_takeBackWord w_Home_takeBackWord { frames := 3, cells := 0, slots := 0, locals := 74 } (va_Pc [.ref (ad 4 0), .int block_, .int core_, .int word_] (hx_B D cI cZ cM cC n ad v)) (va_Qv (fun u => u = f_Home_takeBackWord block_ core_ word_ v) (fun u => hx_B D cI cZ cM cC n ad u) (hx_A n ad)) 0 0 (hx_A n ad) := by
  refine Met.ofW (cc := b_Home_takeBackWord) (maxL := 4) (ret := none) (by decide) rfl ?_
  intro p e s m args below meth c s₁ B hml hv
  obtain ⟨rfl, hP, hK, hN⟩ := hv
  have hx := B.exec
  have hb := B.bytes
  have hr := B.returns
  have hlk := B.notSynchronized
  have hts0 := atoms_spec (ws := w_Home_takeBackWord) B.pre
  have hts := fun w (hw : w ∈ lw_g) => hts0 w (List.mem_cons_of_mem _ hw)
  have hown : s.vm.findClass R_Home = some m.cls := findClass_of_methodNamed B.named
  have hA : ∀ q, hx_A n ad q → hx_A n ad q := fun _ h => h
  have hS : va_S (hx_A n ad) s.heap s.heap [] := va_S.rf
  have hl := lv_entry ([.ref (ad 4 0), .int block_, .int core_, .int word_]) (n := 4) (Nat.le_of_ble_eq_true rfl)
  rw [lg_entry_eq]
  generalize (lg_sl ([.ref (ad 4 0), .int block_, .int core_, .int word_]) ++ List.replicate (4 - (lg_sl ([.ref (ad 4 0), .int block_, .int core_, .int word_])).length) Slot.unset).toArray = ls at hl ⊢
  have hl : lv_has ls 4 [(0, .ref (ad 4 0)), (1, .int block_), (2, .int core_), (3, .int word_)] := hl
  refine lv_aload_n hx hb d_Home_takeBackWord_0 rfl (lv_at hl 0 rfl) ?_
  refine hd_get (C := R_Home) (T := F_Home) (N := 5) hx hb hts i_Home hown hK hP 4 0 Nat.one_pos rfl rfl 3 (by decide) (hts _ k_101) (fun _ h9 => h9) rfl d_Home_takeBackWord_1 ?_
  refine lv_iload_n hx hb d_Home_takeBackWord_4 rfl (lv_at hl 1 rfl) ?_
  refine hd_iald hx hb hK hP 7 0 0 Nat.one_pos rfl rfl hbl d_Home_takeBackWord_5 ?_
  refine lv_iload_n hx hb d_Home_takeBackWord_6 rfl (lv_at hl 2 rfl) ?_
  refine lv_icmp_eq (tgt := 17) hx hb d_Home_takeBackWord_7 (by decide) (fun h1 => ?_) (fun h1 => ?_)
  · refine lv_aload_n hx hb d_Home_takeBackWord_17 rfl (lv_at hl 0 rfl) ?_
    refine hd_get (C := R_Home) (T := F_Home) (N := 5) hx hb hts i_Home hown hK hP 4 0 Nat.one_pos rfl rfl 1 (by decide) (hts _ k_98) (fun _ h9 => h9) rfl d_Home_takeBackWord_18 ?_
    refine lv_iload_n hx hb d_Home_takeBackWord_21 rfl (lv_at hl 1 rfl) ?_
    refine lv_iload_n hx hb d_Home_takeBackWord_22 rfl (lv_at hl 3 rfl) ?_
    refine hd_iast hx hb hK hP hJ hA hS 5 0 0 Nat.one_pos (fun _ => rfl) rfl hbl d_Home_takeBackWord_23 (fun H locs hP hS => ?_)
    refine lv_aload_n hx hb d_Home_takeBackWord_24 rfl (lv_at hl 0 rfl) ?_
    refine hd_get (C := R_Home) (T := F_Home) (N := 5) hx hb hts i_Home hown hK hP 4 0 Nat.one_pos rfl rfl 3 (by decide) (hts _ k_101) (fun _ h9 => h9) rfl d_Home_takeBackWord_25 ?_
    refine lv_iload_n hx hb d_Home_takeBackWord_28 rfl (lv_at hl 1 rfl) ?_
    refine lv_iconst (v := -1) hx hb d_Home_takeBackWord_29 (by decide) ?_
    refine hd_iast hx hb hK hP hJ hA hS 7 0 0 Nat.one_pos (fun _ => rfl) rfl hbl d_Home_takeBackWord_30 (fun H locs hP hS => ?_)
    refine lv_aload_n hx hb d_Home_takeBackWord_31 rfl (lv_at hl 0 rfl) ?_
    refine hd_get (C := R_Home) (T := F_Home) (N := 5) hx hb hts i_Home hown hK hP 4 0 Nat.one_pos rfl rfl 2 (by decide) (hts _ k_100) (fun _ h9 => h9) rfl d_Home_takeBackWord_32 ?_
    refine lv_iload_n hx hb d_Home_takeBackWord_35 rfl (lv_at hl 1 rfl) ?_
    refine lv_iconst (v := 0) hx hb d_Home_takeBackWord_36 (by decide) ?_
    refine hd_iast hx hb hK hP hJ hA hS 6 0 0 Nat.one_pos (fun _ => rfl) rfl hbl d_Home_takeBackWord_37 (fun H locs hP hS => ?_)
    refine lv_aload_n hx hb d_Home_takeBackWord_38 rfl (lv_at hl 0 rfl) ?_
    refine hd_get (C := R_Home) (T := F_Home) (N := 5) hx hb hts i_Home hown hK hP 4 0 Nat.one_pos rfl rfl 0 (by decide) (hts _ k_97) (fun _ h9 => h9) rfl d_Home_takeBackWord_39 ?_
    refine lv_bipush (v := 7) hx hb d_Home_takeBackWord_42 (by decide) ?_
    refine lv_iconst (v := 4) hx hb d_Home_takeBackWord_44 (by decide) ?_
    refine lv_iload_n hx hb d_Home_takeBackWord_45 rfl (lv_at hl 2 rfl) ?_
    refine lv_iload_n hx hb d_Home_takeBackWord_46 rfl (lv_at hl 1 rfl) ?_
    refine hd_cV hK (va_runV (As := [.int 7, .int 4, .int core_, .int block_]) (rest := []) ⟨hx, hb, hml, hown, hts⟩ (c_Net_sendPlain l hJ 7 4 core_ block_ (hd_u (hd_u (hd_u v 5 0 block_.toNatClampNeg word_) 7 0 block_.toNatClampNeg (-1)) 6 0 block_.toNatClampNeg 0) hnet) (cwV 4 hts (hd_gV g_Net_sendPlain k_338 k_250 k_251 k_3) rfl rfl rfl (by decide +kernel) ⟨Nat.le_of_ble_eq_true rfl, Nat.le_of_ble_eq_true rfl⟩) (hd_preV hK hN hP 1 0 Nat.one_pos rfl rfl [.int 7, .int 4, .int core_, .int block_]) rfl rfl hl.1 rfl (lv_room (Nat.le_of_ble_eq_true rfl)) d_Home_takeBackWord_47 ⟨Nat.zero_le _, Nat.zero_le _⟩) hS hA (fun H locs hP hS => ?_)
    exact hd_vret hx hb hr hlk hK hN hP hS d_Home_takeBackWord_50 (by simp only [f_Home_takeBackWord]; rw [if_pos h1])
  · refine lv_aload_n hx hb d_Home_takeBackWord_10 rfl (lv_at hl 0 rfl) ?_
    refine lv_iload_n hx hb d_Home_takeBackWord_11 rfl (lv_at hl 1 rfl) ?_
    refine lv_iload_n hx hb d_Home_takeBackWord_12 rfl (lv_at hl 2 rfl) ?_
    refine hd_cV hK (va_runV (As := [.int block_, .int core_]) (rest := []) ⟨hx, hb, hml, hown, hts⟩ (c_Home_takeBack l hJ block_ core_ v hbl hnet) (cwV 2 hts (hd_gV g_Home_takeBack k_334 k_336 s_15 k_5) rfl rfl rfl (by decide +kernel) ⟨Nat.le_of_ble_eq_true rfl, Nat.le_of_ble_eq_true rfl⟩) (hd_preV hK hN hP 4 0 Nat.one_pos rfl rfl [.int block_, .int core_]) rfl rfl hl.1 rfl (lv_room (Nat.le_of_ble_eq_true rfl)) d_Home_takeBackWord_13 ⟨Nat.zero_le _, Nat.zero_le _⟩) hS hA (fun H locs hP hS => ?_)
    exact hd_vret hx hb hr hlk hK hN hP hS d_Home_takeBackWord_16 (by simp only [f_Home_takeBackWord]; rw [if_neg h1])
def f_Home_endSharing (block_ : Int32) (word_ : Int32) (v : hd_V) : hd_V :=
  let v1 := hd_u v 5 0 block_.toNatClampNeg word_
  if (v1 8 0 block_.toNatClampNeg) = 0 then
    let v4 := hd_u v1 6 0 block_.toNatClampNeg 0
    v4
  else
    let v3 := hd_u v1 6 0 block_.toNatClampNeg 1
    v3
set_option maxHeartbeats 4000000 in
set_option maxRecDepth 100000 in
theorem c_Home_endSharing (l : Launch) {D : va_G} {cI cZ cM cC : ClassId} {n : Nat} {ad : Nat → Nat → Nat} (hJ : hd_J (hx_L n) ad) (block_ : Int32) (word_ : Int32) (v : hd_V) (hbl : vp_in block_ 4) : Met l y_Home_endSharing w_Home_endSharing { frames := 0, cells := 0, slots := 0, locals := 0 } (va_Pc [.ref (ad 4 0), .int block_, .int word_] (hx_B D cI cZ cM cC n ad v)) (va_Qv (fun u => u = f_Home_endSharing block_ word_ v) (fun u => hx_B D cI cZ cM cC n ad u) (hx_A n ad)) 0 0 (hx_A n ad) := by
  refine Met.ofW (cc := b_Home_endSharing) (maxL := 3) (ret := none) (by decide) rfl ?_
  intro p e s m args below meth c s₁ B hml hv
  obtain ⟨rfl, hP, hK, hN⟩ := hv
  have hx := B.exec
  have hb := B.bytes
  have hr := B.returns
  have hlk := B.notSynchronized
  have hts0 := atoms_spec (ws := w_Home_endSharing) B.pre
  have hts := fun w (hw : w ∈ lw_g) => hts0 w (List.mem_cons_of_mem _ hw)
  have hown : s.vm.findClass R_Home = some m.cls := findClass_of_methodNamed B.named
  have hA : ∀ q, hx_A n ad q → hx_A n ad q := fun _ h => h
  have hS : va_S (hx_A n ad) s.heap s.heap [] := va_S.rf
  have hl := lv_entry ([.ref (ad 4 0), .int block_, .int word_]) (n := 3) (Nat.le_of_ble_eq_true rfl)
  rw [lg_entry_eq]
  generalize (lg_sl ([.ref (ad 4 0), .int block_, .int word_]) ++ List.replicate (3 - (lg_sl ([.ref (ad 4 0), .int block_, .int word_])).length) Slot.unset).toArray = ls at hl ⊢
  have hl : lv_has ls 3 [(0, .ref (ad 4 0)), (1, .int block_), (2, .int word_)] := hl
  refine lv_aload_n hx hb d_Home_endSharing_0 rfl (lv_at hl 0 rfl) ?_
  refine hd_get (C := R_Home) (T := F_Home) (N := 5) hx hb hts i_Home hown hK hP 4 0 Nat.one_pos rfl rfl 1 (by decide) (hts _ k_98) (fun _ h9 => h9) rfl d_Home_endSharing_1 ?_
  refine lv_iload_n hx hb d_Home_endSharing_4 rfl (lv_at hl 1 rfl) ?_
  refine lv_iload_n hx hb d_Home_endSharing_5 rfl (lv_at hl 2 rfl) ?_
  refine hd_iast hx hb hK hP hJ hA hS 5 0 0 Nat.one_pos (fun _ => rfl) rfl hbl d_Home_endSharing_6 (fun H locs hP hS => ?_)
  refine lv_aload_n hx hb d_Home_endSharing_7 rfl (lv_at hl 0 rfl) ?_
  refine hd_get (C := R_Home) (T := F_Home) (N := 5) hx hb hts i_Home hown hK hP 4 0 Nat.one_pos rfl rfl 2 (by decide) (hts _ k_100) (fun _ h9 => h9) rfl d_Home_endSharing_8 ?_
  refine lv_iload_n hx hb d_Home_endSharing_11 rfl (lv_at hl 1 rfl) ?_
  refine lv_aload_n hx hb d_Home_endSharing_12 rfl (lv_at hl 0 rfl) ?_
  refine hd_get (C := R_Home) (T := F_Home) (N := 5) hx hb hts i_Home hown hK hP 4 0 Nat.one_pos rfl rfl 4 (by decide) (hts _ k_102) (fun _ h9 => h9) rfl d_Home_endSharing_13 ?_
  refine lv_iload_n hx hb d_Home_endSharing_16 rfl (lv_at hl 1 rfl) ?_
  refine hd_iald hx hb hK hP 8 0 0 Nat.one_pos rfl rfl hbl d_Home_endSharing_17 ?_
  refine lv_if_ne (tgt := 25) hx hb d_Home_endSharing_18 (by decide) (fun h2 => ?_) (fun h2 => ?_)
  · refine lv_iconst (v := 1) hx hb d_Home_endSharing_25 (by decide) ?_
    refine hd_iast hx hb hK hP hJ hA hS 6 0 0 Nat.one_pos (fun _ => rfl) rfl hbl d_Home_endSharing_26 (fun H locs hP hS => ?_)
    exact hd_vret hx hb hr hlk hK hN hP hS d_Home_endSharing_27 (by simp only [f_Home_endSharing]; rw [if_neg h2])
  · refine lv_iconst (v := 0) hx hb d_Home_endSharing_21 (by decide) ?_
    refine lv_goto (tgt := 26) hx hb d_Home_endSharing_22 (by decide) ?_
    refine hd_iast hx hb hK hP hJ hA hS 6 0 0 Nat.one_pos (fun _ => rfl) rfl hbl d_Home_endSharing_26 (fun H locs hP hS => ?_)
    exact hd_vret hx hb hr hlk hK hN hP hS d_Home_endSharing_27 (by simp only [f_Home_endSharing]; rw [if_pos h2])
def f_Home_receive (mj : Nat) (v : hd_V) : hd_V :=
  let x1 : Int32 := v 3 mj 3
  let x2 : Int32 := v 3 mj 0
  if x2 = 0 then
    let v4 := f_Home_giveToRead x1 (v 3 mj 1) v
    v4
  else
    if x2 = 1 then
      let v6 := f_Home_giveToWrite x1 (v 3 mj 1) v
      v6
    else
      if x2 = 2 then
        let v8 := f_Home_takeBack x1 (v 3 mj 1) v
        v8
      else
        if x2 = 3 then
          let v10 := f_Home_takeBackWord x1 (v 3 mj 1) (v 3 mj 4) v
          v10
        else
          if x2 = 8 then
            let v12 := f_Home_endSharing x1 (v 3 mj 4) v
            v12
          else
            v
set_option maxHeartbeats 4000000 in
set_option maxRecDepth 100000 in
theorem c_Home_receive (l : Launch) {D : va_G} {cI cZ cM cC : ClassId} {n : Nat} {ad : Nat → Nat → Nat} (hJ : hd_J (hx_L n) ad) (mj : Nat) (v : hd_V) (hmj : mj < 32) (hbl : vp_in (v 3 mj 3) 4) (hnet : hx_net v) : Met l y_Home_receive w_Home_receive { frames := 4, cells := 0, slots := 0, locals := 99 } (va_Pc [.ref (ad 4 0), .ref (ad 3 mj)] (hx_B D cI cZ cM cC n ad v)) (va_Qv (fun u => u = f_Home_receive mj v) (fun u => hx_B D cI cZ cM cC n ad u) (hx_A n ad)) 0 0 (hx_A n ad) := by
  refine Met.ofW (cc := b_Home_receive) (maxL := 3) (ret := none) (by decide) rfl ?_
  intro p e s m args below meth c s₁ B hml hv
  obtain ⟨rfl, hP, hK, hN⟩ := hv
  have hx := B.exec
  have hb := B.bytes
  have hr := B.returns
  have hlk := B.notSynchronized
  have hts0 := atoms_spec (ws := w_Home_receive) B.pre
  have hts := fun w (hw : w ∈ lw_g) => hts0 w (List.mem_cons_of_mem _ hw)
  have hown : s.vm.findClass R_Home = some m.cls := findClass_of_methodNamed B.named
  have hA : ∀ q, hx_A n ad q → hx_A n ad q := fun _ h => h
  have hS : va_S (hx_A n ad) s.heap s.heap [] := va_S.rf
  have hl := lv_entry ([.ref (ad 4 0), .ref (ad 3 mj)]) (n := 3) (Nat.le_of_ble_eq_true rfl)
  rw [lg_entry_eq]
  generalize (lg_sl ([.ref (ad 4 0), .ref (ad 3 mj)]) ++ List.replicate (3 - (lg_sl ([.ref (ad 4 0), .ref (ad 3 mj)])).length) Slot.unset).toArray = ls at hl ⊢
  have hl : lv_has ls 3 [(0, .ref (ad 4 0)), (1, .ref (ad 3 mj))] := hl
  refine lv_aload_n hx hb d_Home_receive_0 rfl (lv_at hl 1 rfl) ?_
  refine hd_getN (C := R_Msg) (T := F_Msg) (N := 7) hx hb hts i_Msg hown hK hP 3 mj hmj rfl rfl 3 (by decide) (hN.use k_48) (fun _ h9 => h9) rfl d_Home_receive_1 ?_
  refine lv_topi (fun x1 ex1 => ?_)
  refine lv_istore_n (lv' := [(2, .int x1), (0, .ref (ad 4 0)), (1, .ref (ad 3 mj))]) hx hb d_Home_receive_4 rfl hl (by decide) rfl (fun ls hl => ?_)
  refine lv_aload_n hx hb d_Home_receive_5 rfl (lv_at hl 2 rfl) ?_
  refine hd_getN (C := R_Msg) (T := F_Msg) (N := 7) hx hb hts i_Msg hown hK hP 3 mj hmj rfl rfl 0 (by decide) (hN.use k_38) (fun _ h9 => h9) rfl d_Home_receive_6 ?_
  refine lv_topi (fun x2 ex2 => ?_)
  by_cases h3 : x2 = 0
  · refine lv_tableIn (off := 51) (tgt := 60) hx hb d_Home_receive_9 (by rw [h3]; decide) (by rw [h3]; decide) (by rw [h3]; rfl) (by decide) ?_
    refine lv_aload_n hx hb d_Home_receive_60 rfl (lv_at hl 1 rfl) ?_
    refine lv_iload_n hx hb d_Home_receive_61 rfl (lv_at hl 0 rfl) ?_
    refine lv_aload_n hx hb d_Home_receive_62 rfl (lv_at hl 2 rfl) ?_
    refine hd_getN (C := R_Msg) (T := F_Msg) (N := 7) hx hb hts i_Msg hown hK hP 3 mj hmj rfl rfl 1 (by decide) (hN.use k_42) (fun _ h9 => h9) rfl d_Home_receive_63 ?_
    refine hd_cV hK (va_runV (As := [.int x1, .int (v 3 mj 1)]) (rest := []) ⟨hx, hb, hml, hown, hts⟩ (c_Home_giveToRead l hJ x1 (v 3 mj 1) v (by rw [ex1]; exact hbl) hnet) (cwV 2 hts (hd_gV g_Home_giveToRead k_305 k_307 s_12 k_5) rfl rfl rfl (by decide +kernel) ⟨Nat.le_of_ble_eq_true rfl, Nat.le_of_ble_eq_true rfl⟩) (hd_preV hK hN hP 4 0 Nat.one_pos rfl rfl [.int x1, .int (v 3 mj 1)]) rfl rfl hl.1 rfl (lv_room (Nat.le_of_ble_eq_true rfl)) d_Home_receive_66 ⟨Nat.zero_le _, Nat.zero_le _⟩) hS hA (fun H locs hP hS => ?_)
    refine lv_goto (tgt := 124) hx hb d_Home_receive_69 (by decide) ?_
    exact hd_vret hx hb hr hlk hK hN hP hS d_Home_receive_124 (by subst ex2; subst ex1; simp only [f_Home_receive]; rw [if_pos h3])
  · skip
    by_cases h5 : x2 = 1
    · refine lv_tableIn (off := 63) (tgt := 72) hx hb d_Home_receive_9 (by rw [h5]; decide) (by rw [h5]; decide) (by rw [h5]; rfl) (by decide) ?_
      refine lv_aload_n hx hb d_Home_receive_72 rfl (lv_at hl 1 rfl) ?_
      refine lv_iload_n hx hb d_Home_receive_73 rfl (lv_at hl 0 rfl) ?_
      refine lv_aload_n hx hb d_Home_receive_74 rfl (lv_at hl 2 rfl) ?_
      refine hd_getN (C := R_Msg) (T := F_Msg) (N := 7) hx hb hts i_Msg hown hK hP 3 mj hmj rfl rfl 1 (by decide) (hN.use k_42) (fun _ h9 => h9) rfl d_Home_receive_75 ?_
      refine hd_cV hK (va_runV (As := [.int x1, .int (v 3 mj 1)]) (rest := []) ⟨hx, hb, hml, hown, hts⟩ (c_Home_giveToWrite l hJ x1 (v 3 mj 1) v (by rw [ex1]; exact hbl) hnet) (cwV 2 hts (hd_gV g_Home_giveToWrite k_320 k_322 s_13 k_5) rfl rfl rfl (by decide +kernel) ⟨Nat.le_of_ble_eq_true rfl, Nat.le_of_ble_eq_true rfl⟩) (hd_preV hK hN hP 4 0 Nat.one_pos rfl rfl [.int x1, .int (v 3 mj 1)]) rfl rfl hl.1 rfl (lv_room (Nat.le_of_ble_eq_true rfl)) d_Home_receive_78 ⟨Nat.zero_le _, Nat.zero_le _⟩) hS hA (fun H locs hP hS => ?_)
      refine lv_goto (tgt := 124) hx hb d_Home_receive_81 (by decide) ?_
      exact hd_vret hx hb hr hlk hK hN hP hS d_Home_receive_124 (by subst ex2; subst ex1; simp only [f_Home_receive]; rw [if_neg h3, if_pos h5])
    · skip
      by_cases h7 : x2 = 2
      · refine lv_tableIn (off := 75) (tgt := 84) hx hb d_Home_receive_9 (by rw [h7]; decide) (by rw [h7]; decide) (by rw [h7]; rfl) (by decide) ?_
        refine lv_aload_n hx hb d_Home_receive_84 rfl (lv_at hl 1 rfl) ?_
        refine lv_iload_n hx hb d_Home_receive_85 rfl (lv_at hl 0 rfl) ?_
        refine lv_aload_n hx hb d_Home_receive_86 rfl (lv_at hl 2 rfl) ?_
        refine hd_getN (C := R_Msg) (T := F_Msg) (N := 7) hx hb hts i_Msg hown hK hP 3 mj hmj rfl rfl 1 (by decide) (hN.use k_42) (fun _ h9 => h9) rfl d_Home_receive_87 ?_
        refine hd_cV hK (va_runV (As := [.int x1, .int (v 3 mj 1)]) (rest := []) ⟨hx, hb, hml, hown, hts⟩ (c_Home_takeBack l hJ x1 (v 3 mj 1) v (by rw [ex1]; exact hbl) hnet) (cwV 2 hts (hd_gV g_Home_takeBack k_334 k_336 s_15 k_5) rfl rfl rfl (by decide +kernel) ⟨Nat.le_of_ble_eq_true rfl, Nat.le_of_ble_eq_true rfl⟩) (hd_preV hK hN hP 4 0 Nat.one_pos rfl rfl [.int x1, .int (v 3 mj 1)]) rfl rfl hl.1 rfl (lv_room (Nat.le_of_ble_eq_true rfl)) d_Home_receive_90 ⟨Nat.zero_le _, Nat.zero_le _⟩) hS hA (fun H locs hP hS => ?_)
        refine lv_goto (tgt := 124) hx hb d_Home_receive_93 (by decide) ?_
        exact hd_vret hx hb hr hlk hK hN hP hS d_Home_receive_124 (by subst ex2; subst ex1; simp only [f_Home_receive]; rw [if_neg h3, if_neg h5, if_pos h7])
      · skip
        by_cases h9 : x2 = 3
        · refine lv_tableIn (off := 87) (tgt := 96) hx hb d_Home_receive_9 (by rw [h9]; decide) (by rw [h9]; decide) (by rw [h9]; rfl) (by decide) ?_
          refine lv_aload_n hx hb d_Home_receive_96 rfl (lv_at hl 1 rfl) ?_
          refine lv_iload_n hx hb d_Home_receive_97 rfl (lv_at hl 0 rfl) ?_
          refine lv_aload_n hx hb d_Home_receive_98 rfl (lv_at hl 2 rfl) ?_
          refine hd_getN (C := R_Msg) (T := F_Msg) (N := 7) hx hb hts i_Msg hown hK hP 3 mj hmj rfl rfl 1 (by decide) (hN.use k_42) (fun _ h9 => h9) rfl d_Home_receive_99 ?_
          refine lv_aload_n hx hb d_Home_receive_102 rfl (lv_at hl 2 rfl) ?_
          refine hd_getN (C := R_Msg) (T := F_Msg) (N := 7) hx hb hts i_Msg hown hK hP 3 mj hmj rfl rfl 4 (by decide) (hN.use k_52) (fun _ h9 => h9) rfl d_Home_receive_103 ?_
          refine hd_cV hK (va_runV (As := [.int x1, .int (v 3 mj 1), .int (v 3 mj 4)]) (rest := []) ⟨hx, hb, hml, hown, hts⟩ (c_Home_takeBackWord l hJ x1 (v 3 mj 1) (v 3 mj 4) v (by rw [ex1]; exact hbl) hnet) (cwV 3 hts (hd_gV g_Home_takeBackWord k_339 k_341 s_16 k_5) rfl rfl rfl (by decide +kernel) ⟨Nat.le_of_ble_eq_true rfl, Nat.le_of_ble_eq_true rfl⟩) (hd_preV hK hN hP 4 0 Nat.one_pos rfl rfl [.int x1, .int (v 3 mj 1), .int (v 3 mj 4)]) rfl rfl hl.1 rfl (lv_room (Nat.le_of_ble_eq_true rfl)) d_Home_receive_106 ⟨Nat.zero_le _, Nat.zero_le _⟩) hS hA (fun H locs hP hS => ?_)
          refine lv_goto (tgt := 124) hx hb d_Home_receive_109 (by decide) ?_
          exact hd_vret hx hb hr hlk hK hN hP hS d_Home_receive_124 (by subst ex2; subst ex1; simp only [f_Home_receive]; rw [if_neg h3, if_neg h5, if_neg h7, if_pos h9])
        · skip
          by_cases h11 : x2 = 8
          · refine lv_tableIn (off := 103) (tgt := 112) hx hb d_Home_receive_9 (by rw [h11]; decide) (by rw [h11]; decide) (by rw [h11]; rfl) (by decide) ?_
            refine lv_aload_n hx hb d_Home_receive_112 rfl (lv_at hl 1 rfl) ?_
            refine lv_iload_n hx hb d_Home_receive_113 rfl (lv_at hl 0 rfl) ?_
            refine lv_aload_n hx hb d_Home_receive_114 rfl (lv_at hl 2 rfl) ?_
            refine hd_getN (C := R_Msg) (T := F_Msg) (N := 7) hx hb hts i_Msg hown hK hP 3 mj hmj rfl rfl 4 (by decide) (hN.use k_52) (fun _ h9 => h9) rfl d_Home_receive_115 ?_
            refine hd_cV hK (va_runV (As := [.int x1, .int (v 3 mj 4)]) (rest := []) ⟨hx, hb, hml, hown, hts⟩ (c_Home_endSharing l hJ x1 (v 3 mj 4) v (by rw [ex1]; exact hbl)) (cwV 2 hts (hd_gV g_Home_endSharing k_343 k_345 s_17 k_5) rfl rfl rfl (by decide +kernel) ⟨Nat.le_of_ble_eq_true rfl, Nat.le_of_ble_eq_true rfl⟩) (hd_preV hK hN hP 4 0 Nat.one_pos rfl rfl [.int x1, .int (v 3 mj 4)]) rfl rfl hl.1 rfl (lv_room (Nat.le_of_ble_eq_true rfl)) d_Home_receive_118 ⟨Nat.zero_le _, Nat.zero_le _⟩) hS hA (fun H locs hP hS => ?_)
            refine lv_goto (tgt := 124) hx hb d_Home_receive_121 (by decide) ?_
            exact hd_vret hx hb hr hlk hK hN hP hS d_Home_receive_124 (by subst ex2; subst ex1; simp only [f_Home_receive]; rw [if_neg h3, if_neg h5, if_neg h7, if_neg h9, if_pos h11])
          · skip
            by_cases h13 : x2 = 4
            · refine lv_tableIn (off := 115) (tgt := 124) hx hb d_Home_receive_9 (by rw [h13]; decide) (by rw [h13]; decide) (by rw [h13]; rfl) (by decide) ?_
              exact hd_vret hx hb hr hlk hK hN hP hS d_Home_receive_124 (by subst ex2; subst ex1; simp only [f_Home_receive]; rw [if_neg h3, if_neg h5, if_neg h7, if_neg h9, if_neg h11])
            · skip
              by_cases h14 : x2 = 5
              · refine lv_tableIn (off := 115) (tgt := 124) hx hb d_Home_receive_9 (by rw [h14]; decide) (by rw [h14]; decide) (by rw [h14]; rfl) (by decide) ?_
                exact hd_vret hx hb hr hlk hK hN hP hS d_Home_receive_124 (by subst ex2; subst ex1; simp only [f_Home_receive]; rw [if_neg h3, if_neg h5, if_neg h7, if_neg h9, if_neg h11])
              · skip
                by_cases h15 : x2 = 6
                · refine lv_tableIn (off := 115) (tgt := 124) hx hb d_Home_receive_9 (by rw [h15]; decide) (by rw [h15]; decide) (by rw [h15]; rfl) (by decide) ?_
                  exact hd_vret hx hb hr hlk hK hN hP hS d_Home_receive_124 (by subst ex2; subst ex1; simp only [f_Home_receive]; rw [if_neg h3, if_neg h5, if_neg h7, if_neg h9, if_neg h11])
                · skip
                  by_cases h16 : x2 = 7
                  · refine lv_tableIn (off := 115) (tgt := 124) hx hb d_Home_receive_9 (by rw [h16]; decide) (by rw [h16]; decide) (by rw [h16]; rfl) (by decide) ?_
                    exact hd_vret hx hb hr hlk hK hN hP hS d_Home_receive_124 (by subst ex2; subst ex1; simp only [f_Home_receive]; rw [if_neg h3, if_neg h5, if_neg h7, if_neg h9, if_neg h11])
                  · skip
                    refine lv_tableOut (tgt := 124) hx hb d_Home_receive_9 (by have t0 := lv_neT h3 (a := 0) rfl; have t1 := lv_neT h5 (a := 1) rfl; have t2 := lv_neT h7 (a := 2) rfl; have t3 := lv_neT h9 (a := 3) rfl; have t4 := lv_neT h11 (a := 8) rfl; have t5 := lv_neT h13 (a := 4) rfl; have t6 := lv_neT h14 (a := 5) rfl; have t7 := lv_neT h15 (a := 6) rfl; have t8 := lv_neT h16 (a := 7) rfl; omega) (by decide) ?_
                    exact hd_vret hx hb hr hlk hK hN hP hS d_Home_receive_124 (by subst ex2; subst ex1; simp only [f_Home_receive]; rw [if_neg h3, if_neg h5, if_neg h7, if_neg h9, if_neg h11])
