set_option maxHeartbeats 4000000 in
set_option maxRecDepth 100000 in
theorem c_Home_init (l : Launch) {D : va_G} {cI cZ cM cC : ClassId} {n z : Nat} {mx co mo : Int32} (e : Nat → Nat → va_E) (he : ∀ k, 4 ≤ k → k ≤ 8 → e k 0 = hc_E cI cZ cM cC n z mx co mo k 0) : Met l y_Home_init w_Home_init { frames := 1, cells := 4, slots := 16, locals := 23 } (va_Pc [.ref (hx_ad z n 4 0), .ref (hx_ad z n 1 0)] (hc_B D cI cZ cM cC n z (hc_u e 4 0 (.inr (3, [.null, .null, .null, .null, .null]))) (hx_ad z n 5 0))) (va_Qv (fun _ : Unit => True) (fun _ => hc_B D cI cZ cM cC n z (e) (hx_ad z n 8 0 + 1)) (hc_A z)) 4 16 (hc_A z) := by
  refine Met.ofW (cc := b_Home_init) (maxL := 2) (ret := none) (by decide) rfl ?_
  intro p ev s m args below meth c s₁ B hml hv
  obtain ⟨rfl, hP, hz, hK, hN, hOM, hOC⟩ := hv
  have hx := B.exec
  have hb := B.bytes
  have hr := B.returns
  have hlk := B.notSynchronized
  have hts0 := atoms_spec (ws := w_Home_init) B.pre
  have hts := fun w (hw : w ∈ lw_g) => hts0 w (List.mem_cons_of_mem _ hw)
  have hown : s.vm.findClass R_Home = some m.cls := findClass_of_methodNamed B.named
  have hin : meth.name = "<init>" := (name_of_methodNamed B.named B.method).1
  have hAz : ∀ q, hc_A z q → hc_A z q := fun _ h => h
  have hS : va_S (hc_A z) s.heap s.heap [] := va_S.rf
  have hl := lv_entry ([.ref (hx_ad z n 4 0), .ref (hx_ad z n 1 0)]) (n := 2) (Nat.le_of_ble_eq_true rfl)
  rw [lg_entry_eq]
  generalize (lg_sl ([.ref (hx_ad z n 4 0), .ref (hx_ad z n 1 0)]) ++ List.replicate (2 - (lg_sl ([.ref (hx_ad z n 4 0), .ref (hx_ad z n 1 0)])).length) Slot.unset).toArray = ls at hl ⊢
  have hl : lv_has ls 2 [(0, .ref (hx_ad z n 4 0)), (1, .ref (hx_ad z n 1 0))] := hl
  refine lv_aload_n hx hb d_Home_init_0 rfl (lv_at hl 0 rfl) ?_
  refine W.objInit hx hb hown (hts _ k_93) (hts _ k_16) (hts _ k_obj) rfl (by rw [hml]; exact hl.1) rfl d_Home_init_1 (Nat.le_of_ble_eq_true rfl) (Nat.le_of_ble_eq_true rfl) ?_
  refine W.eq (g2 := F0 m 4 ls []) rfl ?_
  refine lv_aload_n hx hb d_Home_init_4 rfl (lv_at hl 0 rfl) ?_
  refine lv_aload_n hx hb d_Home_init_5 rfl (lv_at hl 1 rfl) ?_
  refine hc_putF (ty := .object "HomeDirectory$Network") (C := R_Home) (T := F_Home) (N := 5) hx hb hts i_Home t_Home t_Home_ok n_Home hown hK hP hAz hS 4 0 Nat.one_pos (by rw [hz] <;> (try simp only [hx_ad, hx_off]) <;> (try omega)) hc_us rfl 0 (by decide) (hts _ k_97) (fun _ h9 => h9) rfl hin rfl (by decide +kernel) rfl rfl (Nat.le_of_ble_eq_true rfl) d_Home_init_6 (fun H locs hz2 hP hS => ?_)
  have hz := hz2.trans hz
  have hP := hc_over hP
  have hP : hc_P D n z (hc_u _ 4 0 (.inr (3, [.ref (hx_ad z n 1 0), .null, .null, .null, .null]))) H := hP
  refine lv_aload_n hx hb d_Home_init_9 rfl (lv_at hl 0 rfl) ?_
  refine lv_iconst (v := 4) hx hb d_Home_init_10 (by decide) ?_
  refine hc_newi hx hb (hts _ k_114) hK hP hS 5 0 0 rfl Nat.one_pos (by rw [hz] <;> (try simp only [hx_ad, hx_off]) <;> (try omega)) (N' := 4) (by decide) (by decide) (by decide) (Nat.le_of_ble_eq_true rfl) (Nat.le_of_ble_eq_true rfl) d_Home_init_11 (fun H hz hP hS => ?_)
  have hP := hc_drop hP (by rw [hc_un (by omega)]; exact he 5 (by omega) (by omega))
  refine hc_putF (ty := .array .int) (C := R_Home) (T := F_Home) (N := 5) hx hb hts i_Home t_Home t_Home_ok n_Home hown hK hP hAz hS 4 0 Nat.one_pos (by rw [hz] <;> (try simp only [hx_ad, hx_off]) <;> (try omega)) hc_us rfl 1 (by decide) (hts _ k_98) (fun _ h9 => h9) rfl hin rfl (by decide +kernel) rfl rfl (Nat.le_of_ble_eq_true rfl) d_Home_init_13 (fun H locs hz2 hP hS => ?_)
  have hz := hz2.trans hz
  have hP := hc_over hP
  have hP : hc_P D n z (hc_u _ 4 0 (.inr (3, [.ref (hx_ad z n 1 0), .ref (hx_ad z n 5 0), .null, .null, .null]))) H := hP
  refine lv_aload_n hx hb d_Home_init_16 rfl (lv_at hl 0 rfl) ?_
  refine lv_iconst (v := 4) hx hb d_Home_init_17 (by decide) ?_
  refine hc_newi hx hb (hts _ k_114) hK hP hS 6 0 0 rfl Nat.one_pos (by rw [hz] <;> (try simp only [hx_ad, hx_off]) <;> (try omega)) (N' := 4) (by decide) (by decide) (by decide) (Nat.le_of_ble_eq_true rfl) (Nat.le_of_ble_eq_true rfl) d_Home_init_18 (fun H hz hP hS => ?_)
  have hP := hc_drop hP (by rw [hc_un (by omega)]; exact he 6 (by omega) (by omega))
  refine hc_putF (ty := .array .int) (C := R_Home) (T := F_Home) (N := 5) hx hb hts i_Home t_Home t_Home_ok n_Home hown hK hP hAz hS 4 0 Nat.one_pos (by rw [hz] <;> (try simp only [hx_ad, hx_off]) <;> (try omega)) hc_us rfl 2 (by decide) (hts _ k_100) (fun _ h9 => h9) rfl hin rfl (by decide +kernel) rfl rfl (Nat.le_of_ble_eq_true rfl) d_Home_init_20 (fun H locs hz2 hP hS => ?_)
  have hz := hz2.trans hz
  have hP := hc_over hP
  have hP : hc_P D n z (hc_u _ 4 0 (.inr (3, [.ref (hx_ad z n 1 0), .ref (hx_ad z n 5 0), .ref (hx_ad z n 6 0), .null, .null]))) H := hP
  refine lv_aload_n hx hb d_Home_init_23 rfl (lv_at hl 0 rfl) ?_
  refine lv_iconst (v := 4) hx hb d_Home_init_24 (by decide) ?_
  refine hc_newi hx hb (hts _ k_114) hK hP hS 7 0 0 rfl Nat.one_pos (by rw [hz] <;> (try simp only [hx_ad, hx_off]) <;> (try omega)) (N' := 4) (by decide) (by decide) (by decide) (Nat.le_of_ble_eq_true rfl) (Nat.le_of_ble_eq_true rfl) d_Home_init_25 (fun H hz hP hS => ?_)
  have hP := hc_swap (by omega) hP
  refine hc_putF (ty := .array .int) (C := R_Home) (T := F_Home) (N := 5) hx hb hts i_Home t_Home t_Home_ok n_Home hown hK hP hAz hS 4 0 Nat.one_pos (by rw [hz] <;> (try simp only [hx_ad, hx_off]) <;> (try omega)) hc_us rfl 3 (by decide) (hts _ k_101) (fun _ h9 => h9) rfl hin rfl (by decide +kernel) rfl rfl (Nat.le_of_ble_eq_true rfl) d_Home_init_27 (fun H locs hz2 hP hS => ?_)
  have hz := hz2.trans hz
  have hP := hc_over hP
  have hP : hc_P D n z (hc_u _ 4 0 (.inr (3, [.ref (hx_ad z n 1 0), .ref (hx_ad z n 5 0), .ref (hx_ad z n 6 0), .ref (hx_ad z n 7 0), .null]))) H := hP
  refine lv_aload_n hx hb d_Home_init_30 rfl (lv_at hl 0 rfl) ?_
  refine hc_get (C := R_Home) (T := F_Home) (N := 5) hx hb hts i_Home hown hK hP 4 0 Nat.one_pos (by rw [hz] <;> (try simp only [hx_ad, hx_off]) <;> (try omega)) hc_us rfl 3 (by decide) (hts _ k_101) (fun _ h9 => h9) rfl d_Home_init_31 ?_
  refine lv_iconst (v := -1) hx hb d_Home_init_34 (by decide) ?_
  have hP := hc_swap (by omega) hP
  refine hc_cV (va_runS (As := [.ref (hx_ad z n 7 0), .int (-1)]) (rest := []) ⟨hx, hb, hml, hown, hts⟩ (c_Arr_fill l (-1) _ _ _ (show hx_ad z n 7 0 < hx_ad z n 7 0 + 1 by omega)) (va_cwS 2 hts (hd_gS g_Arr_fill k_94 k_95 k_6) rfl rfl rfl (by decide +kernel) ⟨Nat.le_of_ble_eq_true rfl, Nat.le_of_ble_eq_true rfl⟩) (hc_preS hK hN hOM hOC hP hz [.ref (hx_ad z n 7 0), .int (-1)]) rfl rfl hl.1 rfl (lv_room (Nat.le_of_ble_eq_true rfl)) d_Home_init_35 ⟨(Nat.le_of_ble_eq_true rfl), (Nat.le_of_ble_eq_true rfl)⟩) hS hAz (fun H locs hz hP hS => ?_)
  have hP := hc_drop hP (by rw [hc_un (by omega)]; exact he 7 (by omega) (by omega))
  refine lv_aload_n hx hb d_Home_init_38 rfl (lv_at hl 0 rfl) ?_
  refine lv_iconst (v := 4) hx hb d_Home_init_39 (by decide) ?_
  refine hc_newi hx hb (hts _ k_114) hK hP hS 8 0 0 rfl Nat.one_pos (by rw [hz] <;> (try simp only [hx_ad, hx_off]) <;> (try omega)) (N' := 4) (by decide) (by decide) (by decide) (Nat.le_of_ble_eq_true rfl) (Nat.le_of_ble_eq_true rfl) d_Home_init_40 (fun H hz hP hS => ?_)
  have hP := hc_drop hP (by rw [hc_un (by omega)]; exact he 8 (by omega) (by omega))
  refine hc_putF (ty := .array .int) (C := R_Home) (T := F_Home) (N := 5) hx hb hts i_Home t_Home t_Home_ok n_Home hown hK hP hAz hS 4 0 Nat.one_pos (by rw [hz] <;> (try simp only [hx_ad, hx_off]) <;> (try omega)) hc_us rfl 4 (by decide) (hts _ k_102) (fun _ h9 => h9) rfl hin rfl (by decide +kernel) rfl rfl (Nat.le_of_ble_eq_true rfl) d_Home_init_42 (fun H locs hz2 hP hS => ?_)
  have hz := hz2.trans hz
  have hP := hc_over hP
  have hP : hc_P D n z (hc_u _ 4 0 (.inr (3, [.ref (hx_ad z n 1 0), .ref (hx_ad z n 5 0), .ref (hx_ad z n 6 0), .ref (hx_ad z n 7 0), .ref (hx_ad z n 8 0)]))) H := hP
  have hP := hc_drop hP (he 4 (by omega) (by omega))
  refine W.widen (k := 4) (n := 16) (by omega) (by omega) ?_
  exact hc_vret hx hb hr hlk hK hN hOM hOC (by rw [hz] <;> (try simp only [hx_ad, hx_off]) <;> (try omega)) hP hS d_Home_init_45
set_option maxHeartbeats 4000000 in
set_option maxRecDepth 100000 in
theorem c_Net_init (l : Launch) {D : va_G} {cI cZ cM cC : ClassId} {n z : Nat} {mx co mo : Int32} (e : Nat → Nat → va_E) (he : ∀ k c, 1 ≤ k → k ≤ 3 → e k c = hc_E cI cZ cM cC n z mx co mo k c) : Met l y_Net_init w_Net_init { frames := 2, cells := 33, slots := 256, locals := 40 } (va_Pc [.ref (hx_ad z n 1 0)] (hc_B D cI cZ cM cC n z (hc_u e 1 0 (.inr (1, [.null, .int 0, .int 0]))) (hx_ad z n 2 0))) (va_Qv (fun _ : Unit => True) (fun _ => hc_B D cI cZ cM cC n z e (hx_ad z n 4 0)) (hc_A z)) 33 256 (hc_A z) := by
  refine Met.ofW (cc := b_Net_init) (maxL := 2) (ret := none) (by decide) rfl ?_
  intro p ev s m args below meth c s₁ B hml hv
  obtain ⟨rfl, hP, hz, hK, hN, hOM, hOC⟩ := hv
  have hx := B.exec
  have hb := B.bytes
  have hr := B.returns
  have hlk := B.notSynchronized
  have hts0 := atoms_spec (ws := w_Net_init) B.pre
  have hts := fun w (hw : w ∈ lw_g) => hts0 w (List.mem_cons_of_mem _ hw)
  have hown : s.vm.findClass R_Net = some m.cls := findClass_of_methodNamed B.named
  have hin : meth.name = "<init>" := (name_of_methodNamed B.named B.method).1
  have hAz : ∀ q, hc_A z q → hc_A z q := fun _ h => h
  have hS : va_S (hc_A z) s.heap s.heap [] := va_S.rf
  have hl := lv_entry ([.ref (hx_ad z n 1 0)]) (n := 2) (Nat.le_of_ble_eq_true rfl)
  rw [lg_entry_eq]
  generalize (lg_sl ([.ref (hx_ad z n 1 0)]) ++ List.replicate (2 - (lg_sl ([.ref (hx_ad z n 1 0)])).length) Slot.unset).toArray = ls at hl ⊢
  have hl : lv_has ls 2 [(0, .ref (hx_ad z n 1 0))] := hl
  have loop15 : ∀ (k i : Nat) (y1 : Int32), i ≤ 32 → 32 < i + k → y1 = nI i → ∀ (H : Heap) (locs : List Loc) (ls : Array Slot), H.size = hx_ad z n 3 i → hc_P D n z (hc_u e 2 0 (.inl (cM, 32, .inr (.inr (.inr (.inr (fun j => if j < i then some (hx_ad z n 3 j) else none))))))) H → va_S (hc_A z) s.heap H locs → lv_has ls 2 [(1, .int y1), (0, .ref (hx_ad z n 1 0))] → W p l ev (headSpec w_Net_init { frames := 2, cells := 33, slots := 256, locals := 40 }).room s m [.ref (hx_ad z n 1 0)].toArray below meth c H locs (1 + i) (32 + 7 * i) (MQ below (va_Qv (fun _ : Unit => True) (fun _ => hc_B D cI cZ cM cC n z e (hx_ad z n 4 0)) (hc_A z)) [.ref (hx_ad z n 1 0)].toArray s 33 256 (hc_A z)) (F0 m 15 ls []) := by
    intro k
    induction k with
    | zero =>
      intro i y1 hi1 hi2
      exact absurd hi2 (by omega)
    | succ k ih =>
      intro i y1 hi1 hi2 hi3 H locs ls hz hP hS hl
      refine lv_iload_n hx hb d_Net_init_15 rfl (lv_at hl 0 rfl) ?_
      refine lv_bipush (v := 32) hx hb d_Net_init_16 (by decide) ?_
      refine lv_icmp_ge (tgt := 40) hx hb d_Net_init_18 (by decide) (fun h1 => ?_) (fun h1 => ?_)
      · have hi4 : i = 32 := hd_geB hi3 (show (32 : Int32) = nI 32 from rfl) (by decide) hi1 h1
        have hP := hc_dropx (y := .inr (.inr (.inr (.inr (fun j => some (hx_ad z n 3 (nI j).toNatClampNeg)))))) hP (he 2 0 (by omega) (by omega)) (hc_qext (fun q hq => by
          rw [if_pos (by omega), nI_clamp (by omega)]))
        refine W.widen (k := 33) (n := 256) (by omega) (by omega) ?_
        exact hc_vret hx hb hr hlk hK hN hOM hOC (by rw [hz, hi4] <;> rfl) hP hS d_Net_init_40
      · have hlt : i < 32 := hd_lp hi3 (show (32 : Int32) = nI 32 from rfl) (by omega) h1
        have hi : vp_in y1 32 := hd_lpin hi3 hlt (by decide)
        refine lv_aload_n hx hb d_Net_init_21 rfl (lv_at hl 1 rfl) ?_
        refine hc_get (ci := 1) (fs := [.ref (hx_ad z n 2 0), .int 0, .int 0]) (C := R_Net) (T := F_Net) (N := 3) hx hb hts i_Net hown hK hP 1 0 Nat.one_pos (by rw [hz]; simp only [hx_ad, hx_off]; omega) ((hc_un (by omega)).trans (he 1 0 (by omega) (by omega))) rfl 0 (by decide) (hts _ k_76) (fun _ h9 => h9) rfl d_Net_init_22 ?_
        refine lv_iload_n hx hb d_Net_init_25 rfl (lv_at hl 0 rfl) ?_
        refine hc_new (ci := 0) (fs := [.int 0, .int 0, .int 0, .int 0, .int 0, .int 0, .int 0]) (C := R_Msg) (T := F_Msg) (N := 7) hx hb hts i_Msg t_Msg t_Msg_ok hown (hts _ k_30) (hts _ k_32) (hts _ k_4) hK hP hS 3 i hlt hz rfl (fun j hj => by rcases (show j = 0 ∨ j = 1 ∨ j = 2 ∨ j = 3 ∨ j = 4 ∨ j = 5 ∨ j = 6 by omega) with rfl | rfl | rfl | rfl | rfl | rfl | rfl <;> rfl) (by show 1 + i + 1 ≤ 33; omega) (by show 32 + 7 * i + 7 ≤ 256; omega) d_Net_init_26 (fun H hz hP hS => ?_)
        have hP := hc_drop hP ((hc_un (by omega)).trans (he 3 i (by omega) (by omega)))
        refine lv_dup hx hb d_Net_init_29 rfl ?_
        refine hc_cV (va_runIN (As := []) (rest := [.ref (hx_ad z n 3 i), .int y1, .ref (hx_ad z n 2 0)]) ⟨hx, hb, hml, hown, hts⟩ (c_Msg_init l (mx := 0) (co := 0) (mo := 0) i _ (hx_ad z n 3 i + 1)) ⟨va_cnB 0 hts g_Msg_init rfl rfl rfl (hN _ k_33) (hts _ k_4) (by decide +kernel) ⟨Nat.le_of_ble_eq_true rfl, Nat.le_of_ble_eq_true rfl⟩, rfl, hts _ k_34⟩ (hc_preS hK hN hOM hOC hP hz [.ref (hx_ad z n 3 i)]) rfl rfl hl.1 rfl (lv_room (Nat.le_of_ble_eq_true rfl)) d_Net_init_30 ⟨by show 1 + i + 1 + 0 ≤ 33; omega, by show 32 + 7 * i + 7 + 0 ≤ 256; omega⟩) hS hAz (fun H locs hz hP hS => ?_)
        refine hc_aast hx hb hK hP hAz hS 2 0 2 3 i 0 Nat.one_pos (by rw [hz]; simp only [hx_ad, hx_off]; omega) hlt (by rw [hz]; omega) hc_us rfl ((hc_un (by omega)).trans (he 3 i (by omega) (by omega))) rfl hi d_Net_init_33 (fun H locs hz2 hP hS => ?_)
        have hz := hz2.trans hz
        have hP := hc_over hP
        have e1 : y1.toNatClampNeg = i := by rw [hi3]; exact nI_clamp (by omega)
        rw [e1] at hP
        have hf : va_up (fun j => if j < i then some (hx_ad z n 3 j) else none) i (some (hx_ad z n 3 i)) = fun j => if j < i + 1 then some (hx_ad z n 3 j) else none := hc_fi (g := fun j => hx_ad z n 3 j)
        rw [hf] at hP
        obtain ⟨x3, ex3⟩ : ∃ y : Int32, y = y1 + 1 := ⟨_, rfl⟩
        refine lv_iinc (v := x3) (lv' := [(1, .int x3), (0, .ref (hx_ad z n 1 0))]) hx hb d_Net_init_34 hl (k := 0) rfl (by rw [ex3]; rfl) (by decide) rfl (fun ls hl => ?_)
        refine lv_goto (tgt := 15) hx hb d_Net_init_37 (by decide) ?_
        refine W.widen (k := 1 + (i + 1)) (n := 32 + 7 * (i + 1)) (by omega) (by omega) ?_
        exact ih (i + 1) x3 hlt (by omega) (by rw [ex3, hi3]; exact nI_1 i) _ _ _ (by rw [hz]; simp only [hx_ad, hx_off]; omega) hP hS (lv_sub hl [0, 1] rfl)
  refine lv_aload_n hx hb d_Net_init_0 rfl (lv_at hl 0 rfl) ?_
  refine W.objInit hx hb hown (hts _ k_29) (hts _ k_16) (hts _ k_obj) rfl (by rw [hml]; exact hl.1) rfl d_Net_init_1 (Nat.le_of_ble_eq_true rfl) (Nat.le_of_ble_eq_true rfl) ?_
  refine W.eq (g2 := F0 m 4 ls []) rfl ?_
  refine lv_aload_n hx hb d_Net_init_4 rfl (lv_at hl 0 rfl) ?_
  refine lv_bipush (v := 32) hx hb d_Net_init_5 (by decide) ?_
  refine hc_newq (C := R_Msg) hx hb hown (hts _ k_30) hOM hK hP hS 2 0 2 rfl Nat.one_pos hz (N' := 32) (by decide) (by decide) (by decide) (Nat.le_of_ble_eq_true rfl) (Nat.le_of_ble_eq_true rfl) d_Net_init_7 (fun H hz hP hS => ?_)
  have hP := hc_swap (by omega) hP
  refine hc_putF (ty := .array (.object "HomeDirectory$Message")) (C := R_Net) (T := F_Net) (N := 3) hx hb hts i_Net t_Net t_Net_ok n_Net hown hK hP hAz hS 1 0 Nat.one_pos (by rw [hz]; simp only [hx_ad, hx_off]; omega) hc_us rfl 0 (by decide) (hts _ k_76) (fun _ h9 => h9) rfl hin rfl (by decide +kernel) rfl rfl (Nat.le_of_ble_eq_true rfl) d_Net_init_10 (fun H locs hz2 hP hS => ?_)
  have hz := hz2.trans hz
  have hP := hc_over hP
  have hP := hc_drop hP ((hc_un (by omega)).trans (he 1 0 (by omega) (by omega)))
  refine lv_iconst (v := 0) hx hb d_Net_init_13 (by decide) ?_
  refine lv_istore_n (lv' := [(1, .int 0), (0, .ref (hx_ad z n 1 0))]) hx hb d_Net_init_14 rfl hl (by decide) rfl (fun ls hl => ?_)
  have hf : (fun _ : Nat => (none : Option Nat)) = fun j => if j < 0 then some (hx_ad z n 3 j) else none := by
    funext q
    rw [if_neg (Nat.not_lt_zero q)]
  rw [hf] at hP
  refine W.widen (k := 1 + 0) (n := 32 + 7 * 0) (by omega) (by omega) ?_
  exact loop15 33 0 0 (by omega) (by omega) nI_0.symm _ _ _ (by rw [hz]; simp only [hx_ad, hx_off]) hP hS (lv_sub hl [0, 1] rfl)
