set_option maxHeartbeats 4000000 in
set_option maxRecDepth 100000 in
theorem c_Msg_init (l : Launch) {D : va_G} {cI cZ cM cC : ClassId} {n z : Nat} {mx co mo : Int32} (i : Nat) (e : Nat → Nat → va_E) (j : Nat)  : Met l y_Msg_init w_Msg_init { frames := 1, cells := 0, slots := 0, locals := 20 } (va_Pc [.ref (hx_ad z n 3 i)] (hc_B D cI cZ cM cC n z (e) (j))) (va_Qv (fun _ : Unit => True) (fun _ => hc_B D cI cZ cM cC n z (e) (j)) (hc_A z)) 0 0 (hc_A z) := by
  refine Met.ofW (cc := b_Msg_init) (maxL := 1) (ret := none) (by decide) rfl ?_
  intro p ev s m args below meth c s₁ B hml hv
  obtain ⟨rfl, hP, hz, hK, hN, hOM, hOC⟩ := hv
  have hx := B.exec
  have hb := B.bytes
  have hr := B.returns
  have hlk := B.notSynchronized
  have hts0 := atoms_spec (ws := w_Msg_init) B.pre
  have hts := fun w (hw : w ∈ lw_g) => hts0 w (List.mem_cons_of_mem _ hw)
  have hown : s.vm.findClass R_Msg = some m.cls := findClass_of_methodNamed B.named
  have hin : meth.name = "<init>" := (name_of_methodNamed B.named B.method).1
  have hAz : ∀ q, hc_A z q → hc_A z q := fun _ h => h
  have hS : va_S (hc_A z) s.heap s.heap [] := va_S.rf
  have hl := lv_entry ([.ref (hx_ad z n 3 i)]) (n := 1) (Nat.le_of_ble_eq_true rfl)
  rw [lg_entry_eq]
  generalize (lg_sl ([.ref (hx_ad z n 3 i)]) ++ List.replicate (1 - (lg_sl ([.ref (hx_ad z n 3 i)])).length) Slot.unset).toArray = ls at hl ⊢
  have hl : lv_has ls 1 [(0, .ref (hx_ad z n 3 i))] := hl
  refine lv_aload_n hx hb d_Msg_init_0 rfl (lv_at hl 0 rfl) ?_
  refine W.objInit hx hb hown (hts _ k_36) (hts _ k_16) (hts _ k_obj) rfl (by rw [hml]; exact hl.1) rfl d_Msg_init_1 (Nat.le_of_ble_eq_true rfl) (Nat.le_of_ble_eq_true rfl) ?_
  refine W.eq (g2 := F0 m 4 ls []) rfl ?_
  refine W.widen (k := 0) (n := 0) (by omega) (by omega) ?_
  exact hc_vret hx hb hr hlk hK hN hOM hOC (by rw [hz] <;> (try simp only [hx_ad, hx_off]) <;> (try omega)) hP hS d_Msg_init_4
set_option maxHeartbeats 4000000 in
set_option maxRecDepth 100000 in
theorem c_Core_init (l : Launch) {D : va_G} {cI cZ cM cC : ClassId} {n z : Nat} {mx co mo : Int32} (cx : Nat) (e : Nat → Nat → va_E) (hcx : cx < n) (he : ∀ k, 10 ≤ k → k ≤ 16 → e k cx = hc_E cI cZ cM cC n z mx co mo k cx) : Met l y_Core_init w_Core_init { frames := 1, cells := 6, slots := 48, locals := 20 } (va_Pc [.ref (hx_ad z n 10 cx), .int (nI cx), .int mx, .ref (hx_ad z n 1 0)] (hc_B D cI cZ cM cC n z (hc_u e 10 cx (.inr (2, [.int 0, .int 0, .null, .null, .null, .int 0, .int 0, .int 0, .int 0, .null, .null, .null, .null, .int 0]))) (hx_ad z n 11 cx))) (va_Qv (fun _ : Unit => True) (fun _ => hc_B D cI cZ cM cC n z (e) (hx_ad z n 16 cx + 1)) (hc_A z)) 6 48 (hc_A z) := by
  refine Met.ofW (cc := b_Core_init) (maxL := 4) (ret := none) (by decide) rfl ?_
  intro p ev s m args below meth c s₁ B hml hv
  obtain ⟨rfl, hP, hz, hK, hN, hOM, hOC⟩ := hv
  have hx := B.exec
  have hb := B.bytes
  have hr := B.returns
  have hlk := B.notSynchronized
  have hts0 := atoms_spec (ws := w_Core_init) B.pre
  have hts := fun w (hw : w ∈ lw_g) => hts0 w (List.mem_cons_of_mem _ hw)
  have hown : s.vm.findClass R_Core = some m.cls := findClass_of_methodNamed B.named
  have hin : meth.name = "<init>" := (name_of_methodNamed B.named B.method).1
  have hAz : ∀ q, hc_A z q → hc_A z q := fun _ h => h
  have hS : va_S (hc_A z) s.heap s.heap [] := va_S.rf
  have hl := lv_entry ([.ref (hx_ad z n 10 cx), .int (nI cx), .int mx, .ref (hx_ad z n 1 0)]) (n := 4) (Nat.le_of_ble_eq_true rfl)
  rw [lg_entry_eq]
  generalize (lg_sl ([.ref (hx_ad z n 10 cx), .int (nI cx), .int mx, .ref (hx_ad z n 1 0)]) ++ List.replicate (4 - (lg_sl ([.ref (hx_ad z n 10 cx), .int (nI cx), .int mx, .ref (hx_ad z n 1 0)])).length) Slot.unset).toArray = ls at hl ⊢
  have hl : lv_has ls 4 [(0, .ref (hx_ad z n 10 cx)), (1, .int (nI cx)), (2, .int mx), (3, .ref (hx_ad z n 1 0))] := hl
  refine lv_aload_n hx hb d_Core_init_0 rfl (lv_at hl 0 rfl) ?_
  refine W.objInit hx hb hown (hts _ k_121) (hts _ k_16) (hts _ k_obj) rfl (by rw [hml]; exact hl.1) rfl d_Core_init_1 (Nat.le_of_ble_eq_true rfl) (Nat.le_of_ble_eq_true rfl) ?_
  refine W.eq (g2 := F0 m 4 ls []) rfl ?_
  refine lv_aload_n hx hb d_Core_init_4 rfl (lv_at hl 0 rfl) ?_
  refine lv_iload_n hx hb d_Core_init_5 rfl (lv_at hl 1 rfl) ?_
  refine hc_putF (ty := .int) (C := R_Core) (T := F_Core) (N := 14) hx hb hts i_Core t_Core t_Core_ok n_Core hown hK hP hAz hS 10 cx hcx (by rw [hz] <;> (try simp only [hx_ad, hx_off]) <;> (try omega)) hc_us rfl 0 (by decide) (hts _ k_122) (fun _ h9 => h9) rfl hin rfl (by decide +kernel) rfl rfl (Nat.le_of_ble_eq_true rfl) d_Core_init_6 (fun H locs hz2 hP hS => ?_)
  have hz := hz2.trans hz
  have hP := hc_over hP
  have hP : hc_P D n z (hc_u _ 10 cx (.inr (2, [.int (nI cx), .int 0, .null, .null, .null, .int 0, .int 0, .int 0, .int 0, .null, .null, .null, .null, .int 0]))) H := hP
  refine lv_aload_n hx hb d_Core_init_9 rfl (lv_at hl 0 rfl) ?_
  refine lv_iload_n hx hb d_Core_init_10 rfl (lv_at hl 2 rfl) ?_
  refine hc_putF (ty := .int) (C := R_Core) (T := F_Core) (N := 14) hx hb hts i_Core t_Core t_Core_ok n_Core hown hK hP hAz hS 10 cx hcx (by rw [hz] <;> (try simp only [hx_ad, hx_off]) <;> (try omega)) hc_us rfl 1 (by decide) (hts _ k_123) (fun _ h9 => h9) rfl hin rfl (by decide +kernel) rfl rfl (Nat.le_of_ble_eq_true rfl) d_Core_init_11 (fun H locs hz2 hP hS => ?_)
  have hz := hz2.trans hz
  have hP := hc_over hP
  have hP : hc_P D n z (hc_u _ 10 cx (.inr (2, [.int (nI cx), .int mx, .null, .null, .null, .int 0, .int 0, .int 0, .int 0, .null, .null, .null, .null, .int 0]))) H := hP
  refine lv_aload_n hx hb d_Core_init_14 rfl (lv_at hl 0 rfl) ?_
  refine lv_aload_n hx hb d_Core_init_15 rfl (lv_at hl 3 rfl) ?_
  refine hc_putF (ty := .object "HomeDirectory$Network") (C := R_Core) (T := F_Core) (N := 14) hx hb hts i_Core t_Core t_Core_ok n_Core hown hK hP hAz hS 10 cx hcx (by rw [hz] <;> (try simp only [hx_ad, hx_off]) <;> (try omega)) hc_us rfl 2 (by decide) (hts _ k_124) (fun _ h9 => h9) rfl hin rfl (by decide +kernel) rfl rfl (Nat.le_of_ble_eq_true rfl) d_Core_init_16 (fun H locs hz2 hP hS => ?_)
  have hz := hz2.trans hz
  have hP := hc_over hP
  have hP : hc_P D n z (hc_u _ 10 cx (.inr (2, [.int (nI cx), .int mx, .ref (hx_ad z n 1 0), .null, .null, .int 0, .int 0, .int 0, .int 0, .null, .null, .null, .null, .int 0]))) H := hP
  refine lv_aload_n hx hb d_Core_init_19 rfl (lv_at hl 0 rfl) ?_
  refine lv_bipush (v := 16) hx hb d_Core_init_20 (by decide) ?_
  refine hc_newi hx hb (hts _ k_114) hK hP hS 11 cx 0 rfl hcx (by rw [hz] <;> (try simp only [hx_ad, hx_off]) <;> (try omega)) (N' := 16) (by decide) (by decide) (by decide) (Nat.le_of_ble_eq_true rfl) (Nat.le_of_ble_eq_true rfl) d_Core_init_22 (fun H hz hP hS => ?_)
  have hP := hc_drop hP (by rw [hc_un (by omega)]; exact he 11 (by omega) (by omega))
  refine hc_putF (ty := .array .int) (C := R_Core) (T := F_Core) (N := 14) hx hb hts i_Core t_Core t_Core_ok n_Core hown hK hP hAz hS 10 cx hcx (by rw [hz] <;> (try simp only [hx_ad, hx_off]) <;> (try omega)) hc_us rfl 3 (by decide) (hts _ k_125) (fun _ h9 => h9) rfl hin rfl (by decide +kernel) rfl rfl (Nat.le_of_ble_eq_true rfl) d_Core_init_24 (fun H locs hz2 hP hS => ?_)
  have hz := hz2.trans hz
  have hP := hc_over hP
  have hP : hc_P D n z (hc_u _ 10 cx (.inr (2, [.int (nI cx), .int mx, .ref (hx_ad z n 1 0), .ref (hx_ad z n 11 cx), .null, .int 0, .int 0, .int 0, .int 0, .null, .null, .null, .null, .int 0]))) H := hP
  refine lv_aload_n hx hb d_Core_init_27 rfl (lv_at hl 0 rfl) ?_
  refine lv_bipush (v := 16) hx hb d_Core_init_28 (by decide) ?_
  refine hc_newi hx hb (hts _ k_114) hK hP hS 12 cx 0 rfl hcx (by rw [hz] <;> (try simp only [hx_ad, hx_off]) <;> (try omega)) (N' := 16) (by decide) (by decide) (by decide) (Nat.le_of_ble_eq_true rfl) (Nat.le_of_ble_eq_true rfl) d_Core_init_30 (fun H hz hP hS => ?_)
  have hP := hc_drop hP (by rw [hc_un (by omega)]; exact he 12 (by omega) (by omega))
  refine hc_putF (ty := .array .int) (C := R_Core) (T := F_Core) (N := 14) hx hb hts i_Core t_Core t_Core_ok n_Core hown hK hP hAz hS 10 cx hcx (by rw [hz] <;> (try simp only [hx_ad, hx_off]) <;> (try omega)) hc_us rfl 4 (by decide) (hts _ k_126) (fun _ h9 => h9) rfl hin rfl (by decide +kernel) rfl rfl (Nat.le_of_ble_eq_true rfl) d_Core_init_32 (fun H locs hz2 hP hS => ?_)
  have hz := hz2.trans hz
  have hP := hc_over hP
  have hP : hc_P D n z (hc_u _ 10 cx (.inr (2, [.int (nI cx), .int mx, .ref (hx_ad z n 1 0), .ref (hx_ad z n 11 cx), .ref (hx_ad z n 12 cx), .int 0, .int 0, .int 0, .int 0, .null, .null, .null, .null, .int 0]))) H := hP
  refine lv_aload_n hx hb d_Core_init_35 rfl (lv_at hl 0 rfl) ?_
  refine lv_iconst (v := 4) hx hb d_Core_init_36 (by decide) ?_
  refine hc_newi hx hb (hts _ k_114) hK hP hS 13 cx 0 rfl hcx (by rw [hz] <;> (try simp only [hx_ad, hx_off]) <;> (try omega)) (N' := 4) (by decide) (by decide) (by decide) (Nat.le_of_ble_eq_true rfl) (Nat.le_of_ble_eq_true rfl) d_Core_init_37 (fun H hz hP hS => ?_)
  have hP := hc_drop hP (by rw [hc_un (by omega)]; exact he 13 (by omega) (by omega))
  refine hc_putF (ty := .array .int) (C := R_Core) (T := F_Core) (N := 14) hx hb hts i_Core t_Core t_Core_ok n_Core hown hK hP hAz hS 10 cx hcx (by rw [hz] <;> (try simp only [hx_ad, hx_off]) <;> (try omega)) hc_us rfl 9 (by decide) (hts _ k_134) (fun _ h9 => h9) rfl hin rfl (by decide +kernel) rfl rfl (Nat.le_of_ble_eq_true rfl) d_Core_init_39 (fun H locs hz2 hP hS => ?_)
  have hz := hz2.trans hz
  have hP := hc_over hP
  have hP : hc_P D n z (hc_u _ 10 cx (.inr (2, [.int (nI cx), .int mx, .ref (hx_ad z n 1 0), .ref (hx_ad z n 11 cx), .ref (hx_ad z n 12 cx), .int 0, .int 0, .int 0, .int 0, .ref (hx_ad z n 13 cx), .null, .null, .null, .int 0]))) H := hP
  refine lv_aload_n hx hb d_Core_init_42 rfl (lv_at hl 0 rfl) ?_
  refine lv_iconst (v := 4) hx hb d_Core_init_43 (by decide) ?_
  refine hc_newi hx hb (hts _ k_114) hK hP hS 14 cx 0 rfl hcx (by rw [hz] <;> (try simp only [hx_ad, hx_off]) <;> (try omega)) (N' := 4) (by decide) (by decide) (by decide) (Nat.le_of_ble_eq_true rfl) (Nat.le_of_ble_eq_true rfl) d_Core_init_44 (fun H hz hP hS => ?_)
  have hP := hc_drop hP (by rw [hc_un (by omega)]; exact he 14 (by omega) (by omega))
  refine hc_putF (ty := .array .int) (C := R_Core) (T := F_Core) (N := 14) hx hb hts i_Core t_Core t_Core_ok n_Core hown hK hP hAz hS 10 cx hcx (by rw [hz] <;> (try simp only [hx_ad, hx_off]) <;> (try omega)) hc_us rfl 10 (by decide) (hts _ k_136) (fun _ h9 => h9) rfl hin rfl (by decide +kernel) rfl rfl (Nat.le_of_ble_eq_true rfl) d_Core_init_46 (fun H locs hz2 hP hS => ?_)
  have hz := hz2.trans hz
  have hP := hc_over hP
  have hP : hc_P D n z (hc_u _ 10 cx (.inr (2, [.int (nI cx), .int mx, .ref (hx_ad z n 1 0), .ref (hx_ad z n 11 cx), .ref (hx_ad z n 12 cx), .int 0, .int 0, .int 0, .int 0, .ref (hx_ad z n 13 cx), .ref (hx_ad z n 14 cx), .null, .null, .int 0]))) H := hP
  refine lv_aload_n hx hb d_Core_init_49 rfl (lv_at hl 0 rfl) ?_
  refine lv_iconst (v := 4) hx hb d_Core_init_50 (by decide) ?_
  refine hc_newi hx hb (hts _ k_114) hK hP hS 15 cx 0 rfl hcx (by rw [hz] <;> (try simp only [hx_ad, hx_off]) <;> (try omega)) (N' := 4) (by decide) (by decide) (by decide) (Nat.le_of_ble_eq_true rfl) (Nat.le_of_ble_eq_true rfl) d_Core_init_51 (fun H hz hP hS => ?_)
  have hP := hc_drop hP (by rw [hc_un (by omega)]; exact he 15 (by omega) (by omega))
  refine hc_putF (ty := .array .int) (C := R_Core) (T := F_Core) (N := 14) hx hb hts i_Core t_Core t_Core_ok n_Core hown hK hP hAz hS 10 cx hcx (by rw [hz] <;> (try simp only [hx_ad, hx_off]) <;> (try omega)) hc_us rfl 11 (by decide) (hts _ k_137) (fun _ h9 => h9) rfl hin rfl (by decide +kernel) rfl rfl (Nat.le_of_ble_eq_true rfl) d_Core_init_53 (fun H locs hz2 hP hS => ?_)
  have hz := hz2.trans hz
  have hP := hc_over hP
  have hP : hc_P D n z (hc_u _ 10 cx (.inr (2, [.int (nI cx), .int mx, .ref (hx_ad z n 1 0), .ref (hx_ad z n 11 cx), .ref (hx_ad z n 12 cx), .int 0, .int 0, .int 0, .int 0, .ref (hx_ad z n 13 cx), .ref (hx_ad z n 14 cx), .ref (hx_ad z n 15 cx), .null, .int 0]))) H := hP
  refine lv_aload_n hx hb d_Core_init_56 rfl (lv_at hl 0 rfl) ?_
  refine lv_iconst (v := 4) hx hb d_Core_init_57 (by decide) ?_
  refine hc_newi hx hb (hts _ k_114) hK hP hS 16 cx 0 rfl hcx (by rw [hz] <;> (try simp only [hx_ad, hx_off]) <;> (try omega)) (N' := 4) (by decide) (by decide) (by decide) (Nat.le_of_ble_eq_true rfl) (Nat.le_of_ble_eq_true rfl) d_Core_init_58 (fun H hz hP hS => ?_)
  have hP := hc_drop hP (by rw [hc_un (by omega)]; exact he 16 (by omega) (by omega))
  refine hc_putF (ty := .array .int) (C := R_Core) (T := F_Core) (N := 14) hx hb hts i_Core t_Core t_Core_ok n_Core hown hK hP hAz hS 10 cx hcx (by rw [hz] <;> (try simp only [hx_ad, hx_off]) <;> (try omega)) hc_us rfl 12 (by decide) (hts _ k_138) (fun _ h9 => h9) rfl hin rfl (by decide +kernel) rfl rfl (Nat.le_of_ble_eq_true rfl) d_Core_init_60 (fun H locs hz2 hP hS => ?_)
  have hz := hz2.trans hz
  have hP := hc_over hP
  have hP : hc_P D n z (hc_u _ 10 cx (.inr (2, [.int (nI cx), .int mx, .ref (hx_ad z n 1 0), .ref (hx_ad z n 11 cx), .ref (hx_ad z n 12 cx), .int 0, .int 0, .int 0, .int 0, .ref (hx_ad z n 13 cx), .ref (hx_ad z n 14 cx), .ref (hx_ad z n 15 cx), .ref (hx_ad z n 16 cx), .int 0]))) H := hP
  have hP := hc_drop hP (he 10 (by omega) (by omega))
  refine W.widen (k := 6) (n := 48) (by omega) (by omega) ?_
  exact hc_vret hx hb hr hlk hK hN hOM hOC (by rw [hz] <;> (try simp only [hx_ad, hx_off]) <;> (try omega)) hP hS d_Core_init_63
