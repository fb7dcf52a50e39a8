def f_Mod_send (k_ : Int32) (f_ : Int32) (t_ : Int32) (b_ : Int32) (v_ : Int32) (n_ : Int32) (r_ : Int32) (v : hd_V) : hd_V :=
  let v1 := hd_u v 40 0 (v 20 0 17).toNatClampNeg k_
  let v2 := hd_u v1 41 0 (v1 20 0 17).toNatClampNeg f_
  let v3 := hd_u v2 42 0 (v2 20 0 17).toNatClampNeg t_
  let v4 := hd_u v3 43 0 (v3 20 0 17).toNatClampNeg b_
  let v5 := hd_u v4 44 0 (v4 20 0 17).toNatClampNeg v_
  let v6 := hd_u v5 45 0 (v5 20 0 17).toNatClampNeg n_
  let v7 := hd_u v6 46 0 (v6 20 0 17).toNatClampNeg r_
  let v8 := hd_u v7 20 0 17 ((v7 20 0 17) + 1)
  let v9 := hd_u v8 20 0 18 ((v8 20 0 18) + 1)
  v9
set_option maxHeartbeats 4000000 in
set_option maxRecDepth 100000 in
theorem c_Mod_send (l : Launch) {D : va_G} {cI cZ cM cC : ClassId} {n : Nat} {ad : Nat → Nat → Nat} (hJ : hd_J (hx_L n) ad) (k_ : Int32) (f_ : Int32) (t_ : Int32) (b_ : Int32) (v_ : Int32) (n_ : Int32) (r_ : Int32) (v : hd_V) (hmm : hx_mm 1 v) : Met l y_Mod_send w_Mod_send { frames := 0, cells := 0, slots := 0, locals := 0 } (va_Pc [.ref (ad 20 0), .int k_, .int f_, .int t_, .int b_, .int v_, .int n_, .int r_] (hx_B D cI cZ cM cC n ad v)) (va_Qv (fun u => u = f_Mod_send k_ f_ t_ b_ v_ n_ r_ v) (fun u => hx_B D cI cZ cM cC n ad u) (hx_A n ad)) 0 0 (hx_A n ad) := by
  refine Met.ofW (cc := b_Mod_send) (maxL := 8) (ret := none) (by decide) rfl ?_
  intro p e s m args below meth c s₁ B hml hv
  obtain ⟨rfl, hP, hK, hN⟩ := hv
  have hx := B.exec
  have hb := B.bytes
  have hr := B.returns
  have hlk := B.notSynchronized
  have hts0 := atoms_spec (ws := w_Mod_send) B.pre
  have hts := fun w (hw : w ∈ lw_g) => hts0 w (List.mem_cons_of_mem _ hw)
  have hown : s.vm.findClass R_Mod = some m.cls := findClass_of_methodNamed B.named
  have hA : ∀ q, hx_A n ad q → hx_A n ad q := fun _ h => h
  have hS : va_S (hx_A n ad) s.heap s.heap [] := va_S.rf
  have hl := lv_entry ([.ref (ad 20 0), .int k_, .int f_, .int t_, .int b_, .int v_, .int n_, .int r_]) (n := 8) (Nat.le_of_ble_eq_true rfl)
  rw [lg_entry_eq]
  generalize (lg_sl ([.ref (ad 20 0), .int k_, .int f_, .int t_, .int b_, .int v_, .int n_, .int r_]) ++ List.replicate (8 - (lg_sl ([.ref (ad 20 0), .int k_, .int f_, .int t_, .int b_, .int v_, .int n_, .int r_])).length) Slot.unset).toArray = ls at hl ⊢
  have hl : lv_has ls 8 [(0, .ref (ad 20 0)), (1, .int k_), (2, .int f_), (3, .int t_), (4, .int b_), (5, .int v_), (6, .int n_), (7, .int r_)] := hl
  refine lv_aload_n hx hb d_Mod_send_0 rfl (lv_at hl 0 rfl) ?_
  refine hd_get (C := R_Mod) (T := F_Mod) (N := 27) hx hb hts i_Mod hown hK hP 20 0 Nat.one_pos he_20 rfl 20 (by decide) (hts _ k_466) (fun _ h9 => h9) hv_20_20 d_Mod_send_1 ?_
  refine lv_aload_n hx hb d_Mod_send_4 rfl (lv_at hl 0 rfl) ?_
  refine hd_get (C := R_Mod) (T := F_Mod) (N := 27) hx hb hts i_Mod hown hK hP 20 0 Nat.one_pos he_20 rfl 17 (by decide) (hts _ k_463) (fun _ h9 => h9) hv_20_17 d_Mod_send_5 ?_
  refine lv_iload_n hx hb d_Mod_send_8 rfl (lv_at hl 1 rfl) ?_
  refine hd_iast hx hb hK hP hJ hA hS 40 0 0 Nat.one_pos (fun _ => rfl) rfl (mm_in hmm) d_Mod_send_9 (fun H locs hP hS => ?_)
  refine lv_aload_n hx hb d_Mod_send_10 rfl (lv_at hl 0 rfl) ?_
  refine hd_get (C := R_Mod) (T := F_Mod) (N := 27) hx hb hts i_Mod hown hK hP 20 0 Nat.one_pos he_20 rfl 21 (by decide) (hts _ k_467) (fun _ h9 => h9) hv_20_21 d_Mod_send_11 ?_
  refine lv_aload_n hx hb d_Mod_send_14 rfl (lv_at hl 0 rfl) ?_
  refine hd_get (C := R_Mod) (T := F_Mod) (N := 27) hx hb hts i_Mod hown hK hP 20 0 Nat.one_pos he_20 rfl 17 (by decide) (hts _ k_463) (fun _ h9 => h9) hv_20_17 d_Mod_send_15 ?_
  refine lv_iload_n hx hb d_Mod_send_18 rfl (lv_at hl 2 rfl) ?_
  refine hd_iast hx hb hK hP hJ hA hS 41 0 0 Nat.one_pos (fun _ => rfl) rfl (mm_in hmm) d_Mod_send_19 (fun H locs hP hS => ?_)
  refine lv_aload_n hx hb d_Mod_send_20 rfl (lv_at hl 0 rfl) ?_
  refine hd_get (C := R_Mod) (T := F_Mod) (N := 27) hx hb hts i_Mod hown hK hP 20 0 Nat.one_pos he_20 rfl 22 (by decide) (hts _ k_468) (fun _ h9 => h9) hv_20_22 d_Mod_send_21 ?_
  refine lv_aload_n hx hb d_Mod_send_24 rfl (lv_at hl 0 rfl) ?_
  refine hd_get (C := R_Mod) (T := F_Mod) (N := 27) hx hb hts i_Mod hown hK hP 20 0 Nat.one_pos he_20 rfl 17 (by decide) (hts _ k_463) (fun _ h9 => h9) hv_20_17 d_Mod_send_25 ?_
  refine lv_iload_n hx hb d_Mod_send_28 rfl (lv_at hl 3 rfl) ?_
  refine hd_iast hx hb hK hP hJ hA hS 42 0 0 Nat.one_pos (fun _ => rfl) rfl (mm_in hmm) d_Mod_send_29 (fun H locs hP hS => ?_)
  refine lv_aload_n hx hb d_Mod_send_30 rfl (lv_at hl 0 rfl) ?_
  refine hd_get (C := R_Mod) (T := F_Mod) (N := 27) hx hb hts i_Mod hown hK hP 20 0 Nat.one_pos he_20 rfl 23 (by decide) (hts _ k_469) (fun _ h9 => h9) hv_20_23 d_Mod_send_31 ?_
  refine lv_aload_n hx hb d_Mod_send_34 rfl (lv_at hl 0 rfl) ?_
  refine hd_get (C := R_Mod) (T := F_Mod) (N := 27) hx hb hts i_Mod hown hK hP 20 0 Nat.one_pos he_20 rfl 17 (by decide) (hts _ k_463) (fun _ h9 => h9) hv_20_17 d_Mod_send_35 ?_
  refine lv_iload hx hb d_Mod_send_38 (lv_at hl 4 rfl) ?_
  refine hd_iast hx hb hK hP hJ hA hS 43 0 0 Nat.one_pos (fun _ => rfl) rfl (mm_in hmm) d_Mod_send_40 (fun H locs hP hS => ?_)
  refine lv_aload_n hx hb d_Mod_send_41 rfl (lv_at hl 0 rfl) ?_
  refine hd_get (C := R_Mod) (T := F_Mod) (N := 27) hx hb hts i_Mod hown hK hP 20 0 Nat.one_pos he_20 rfl 24 (by decide) (hts _ k_470) (fun _ h9 => h9) hv_20_24 d_Mod_send_42 ?_
  refine lv_aload_n hx hb d_Mod_send_45 rfl (lv_at hl 0 rfl) ?_
  refine hd_get (C := R_Mod) (T := F_Mod) (N := 27) hx hb hts i_Mod hown hK hP 20 0 Nat.one_pos he_20 rfl 17 (by decide) (hts _ k_463) (fun _ h9 => h9) hv_20_17 d_Mod_send_46 ?_
  refine lv_iload hx hb d_Mod_send_49 (lv_at hl 5 rfl) ?_
  refine hd_iast hx hb hK hP hJ hA hS 44 0 0 Nat.one_pos (fun _ => rfl) rfl (mm_in hmm) d_Mod_send_51 (fun H locs hP hS => ?_)
  refine lv_aload_n hx hb d_Mod_send_52 rfl (lv_at hl 0 rfl) ?_
  refine hd_get (C := R_Mod) (T := F_Mod) (N := 27) hx hb hts i_Mod hown hK hP 20 0 Nat.one_pos he_20 rfl 25 (by decide) (hts _ k_471) (fun _ h9 => h9) hv_20_25 d_Mod_send_53 ?_
  refine lv_aload_n hx hb d_Mod_send_56 rfl (lv_at hl 0 rfl) ?_
  refine hd_get (C := R_Mod) (T := F_Mod) (N := 27) hx hb hts i_Mod hown hK hP 20 0 Nat.one_pos he_20 rfl 17 (by decide) (hts _ k_463) (fun _ h9 => h9) hv_20_17 d_Mod_send_57 ?_
  refine lv_iload hx hb d_Mod_send_60 (lv_at hl 6 rfl) ?_
  refine hd_iast hx hb hK hP hJ hA hS 45 0 0 Nat.one_pos (fun _ => rfl) rfl (mm_in hmm) d_Mod_send_62 (fun H locs hP hS => ?_)
  refine lv_aload_n hx hb d_Mod_send_63 rfl (lv_at hl 0 rfl) ?_
  refine hd_get (C := R_Mod) (T := F_Mod) (N := 27) hx hb hts i_Mod hown hK hP 20 0 Nat.one_pos he_20 rfl 26 (by decide) (hts _ k_472) (fun _ h9 => h9) hv_20_26 d_Mod_send_64 ?_
  refine lv_aload_n hx hb d_Mod_send_67 rfl (lv_at hl 0 rfl) ?_
  refine hd_get (C := R_Mod) (T := F_Mod) (N := 27) hx hb hts i_Mod hown hK hP 20 0 Nat.one_pos he_20 rfl 17 (by decide) (hts _ k_463) (fun _ h9 => h9) hv_20_17 d_Mod_send_68 ?_
  refine lv_iload hx hb d_Mod_send_71 (lv_at hl 7 rfl) ?_
  refine hd_iast hx hb hK hP hJ hA hS 46 0 0 Nat.one_pos (fun _ => rfl) rfl (mm_in hmm) d_Mod_send_73 (fun H locs hP hS => ?_)
  refine lv_aload_n hx hb d_Mod_send_74 rfl (lv_at hl 0 rfl) ?_
  refine lv_dup hx hb d_Mod_send_75 rfl ?_
  refine hd_get (C := R_Mod) (T := F_Mod) (N := 27) hx hb hts i_Mod hown hK hP 20 0 Nat.one_pos he_20 rfl 17 (by decide) (hts _ k_463) (fun _ h9 => h9) hv_20_17 d_Mod_send_76 ?_
  refine lv_iconst (v := 1) hx hb d_Mod_send_79 (by decide) ?_
  refine lv_iadd hx hb d_Mod_send_80 ?_
  refine hd_put (ty := .int) (C := R_Mod) (T := F_Mod) (N := 27) hx hb hts i_Mod t_Mod t_Mod_ok n_Mod hown hK hP hJ hA hS 20 0 Nat.one_pos he_20 rfl 17 (by decide) (hts _ k_463) (fun _ h9 => h9) rfl (by decide +kernel) rfl rfl hn_20_17 hu_20_17 d_Mod_send_81 (fun H locs hP hS => ?_)
  refine lv_aload_n hx hb d_Mod_send_84 rfl (lv_at hl 0 rfl) ?_
  refine lv_dup hx hb d_Mod_send_85 rfl ?_
  refine hd_get (C := R_Mod) (T := F_Mod) (N := 27) hx hb hts i_Mod hown hK hP 20 0 Nat.one_pos he_20 rfl 18 (by decide) (hts _ k_464) (fun _ h9 => h9) hv_20_18 d_Mod_send_86 ?_
  refine lv_iconst (v := 1) hx hb d_Mod_send_89 (by decide) ?_
  refine lv_iadd hx hb d_Mod_send_90 ?_
  refine hd_put (ty := .int) (C := R_Mod) (T := F_Mod) (N := 27) hx hb hts i_Mod t_Mod t_Mod_ok n_Mod hown hK hP hJ hA hS 20 0 Nat.one_pos he_20 rfl 18 (by decide) (hts _ k_464) (fun _ h9 => h9) rfl (by decide +kernel) rfl rfl hn_20_18 hu_20_18 d_Mod_send_91 (fun H locs hP hS => ?_)
  exact hd_vret hx hb hr hlk hK hN hP hS d_Mod_send_94 (by simp only [f_Mod_send])
theorem mm_Mod_send {r : Nat} {a b c d e f g : Int32} {v : hd_V} (h : hx_mm (r + 1) v) : hx_mm r (f_Mod_send a b c d e f g v) := by
  have h1 := h.1
  have h2 := h.2
  have e1 : (v 20 0 17 + 1).toInt = (v 20 0 17).toInt + 1 := by
    rw [Int32.toInt_add, show (1 : Int32).toInt = 1 from rfl, Int.bmod_eq_of_le (by omega) (by omega)]
  have e2 : f_Mod_send a b c d e f g v 20 0 17 = v 20 0 17 + 1 := rfl
  unfold hx_mm
  rw [e2, e1]
  omega
def f_Mod_data (f_ : Int32) (t_ : Int32) (b_ : Int32) (v_ : Int32) (n_ : Int32) (v : hd_V) : hd_V :=
  let v1 := f_Mod_send 8 f_ t_ b_ v_ n_ (-1) v
  v1
set_option maxHeartbeats 4000000 in
set_option maxRecDepth 100000 in
theorem c_Mod_data (l : Launch) {D : va_G} {cI cZ cM cC : ClassId} {n : Nat} {ad : Nat → Nat → Nat} (hJ : hd_J (hx_L n) ad) (f_ : Int32) (t_ : Int32) (b_ : Int32) (v_ : Int32) (n_ : Int32) (v : hd_V) (hmm : hx_mm 1 v) : Met l y_Mod_data w_Mod_data { frames := 1, cells := 0, slots := 0, locals := 27 } (va_Pc [.ref (ad 20 0), .int f_, .int t_, .int b_, .int v_, .int n_] (hx_B D cI cZ cM cC n ad v)) (va_Qv (fun u => u = f_Mod_data f_ t_ b_ v_ n_ v) (fun u => hx_B D cI cZ cM cC n ad u) (hx_A n ad)) 0 0 (hx_A n ad) := by
  refine Met.ofW (cc := b_Mod_data) (maxL := 6) (ret := none) (by decide) rfl ?_
  intro p e s m args below meth c s₁ B hml hv
  obtain ⟨rfl, hP, hK, hN⟩ := hv
  have hx := B.exec
  have hb := B.bytes
  have hr := B.returns
  have hlk := B.notSynchronized
  have hts0 := atoms_spec (ws := w_Mod_data) B.pre
  have hts := fun w (hw : w ∈ lw_g) => hts0 w (List.mem_cons_of_mem _ hw)
  have hown : s.vm.findClass R_Mod = some m.cls := findClass_of_methodNamed B.named
  have hA : ∀ q, hx_A n ad q → hx_A n ad q := fun _ h => h
  have hS : va_S (hx_A n ad) s.heap s.heap [] := va_S.rf
  have hl := lv_entry ([.ref (ad 20 0), .int f_, .int t_, .int b_, .int v_, .int n_]) (n := 6) (Nat.le_of_ble_eq_true rfl)
  rw [lg_entry_eq]
  generalize (lg_sl ([.ref (ad 20 0), .int f_, .int t_, .int b_, .int v_, .int n_]) ++ List.replicate (6 - (lg_sl ([.ref (ad 20 0), .int f_, .int t_, .int b_, .int v_, .int n_])).length) Slot.unset).toArray = ls at hl ⊢
  have hl : lv_has ls 6 [(0, .ref (ad 20 0)), (1, .int f_), (2, .int t_), (3, .int b_), (4, .int v_), (5, .int n_)] := hl
  refine lv_aload_n hx hb d_Mod_data_0 rfl (lv_at hl 0 rfl) ?_
  refine lv_bipush (v := 8) hx hb d_Mod_data_1 (by decide) ?_
  refine lv_iload_n hx hb d_Mod_data_3 rfl (lv_at hl 1 rfl) ?_
  refine lv_iload_n hx hb d_Mod_data_4 rfl (lv_at hl 2 rfl) ?_
  refine lv_iload_n hx hb d_Mod_data_5 rfl (lv_at hl 3 rfl) ?_
  refine lv_iload hx hb d_Mod_data_6 (lv_at hl 4 rfl) ?_
  refine lv_iload hx hb d_Mod_data_8 (lv_at hl 5 rfl) ?_
  refine lv_iconst (v := -1) hx hb d_Mod_data_10 (by decide) ?_
  refine hd_cV hK (va_runV (As := [.int 8, .int f_, .int t_, .int b_, .int v_, .int n_, .int (-1)]) (rest := []) ⟨hx, hb, hml, hown, hts⟩ (c_Mod_send l hJ 8 f_ t_ b_ v_ n_ (-1) v hmm) (cwV 7 hts (hd_gV g_Mod_send k_563 k_565 s_29 k_8) rfl rfl rfl (by decide +kernel) ⟨Nat.le_of_ble_eq_true rfl, Nat.le_of_ble_eq_true rfl⟩) (hd_preV hK hN hP 20 0 Nat.one_pos rfl rfl [.int 8, .int f_, .int t_, .int b_, .int v_, .int n_, .int (-1)]) rfl rfl hl.1 rfl (lv_room (Nat.le_of_ble_eq_true rfl)) d_Mod_data_11 ⟨Nat.zero_le _, Nat.zero_le _⟩) hS hA (fun H locs hP hS => ?_)
  exact hd_vret hx hb hr hlk hK hN hP hS d_Mod_data_14 (by simp only [f_Mod_data])
theorem mm_Mod_data {r : Nat} {a b c d e : Int32} {v : hd_V} (h : hx_mm (r + 1) v) : hx_mm r (f_Mod_data a b c d e v) := mm_Mod_send h
