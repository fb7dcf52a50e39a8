set_option maxHeartbeats 4000000 in
set_option maxRecDepth 100000 in
theorem c_Mod_init (l : Launch) {D : va_G} {cI cZ cM cC : ClassId} {n z : Nat} {mx co mo : Int32} (c_ l_ : Int32) (e : Nat → Nat → va_E) (hco : (if 2 ≤ c_ then (if c_ ≤ 4 then c_ else 4) else 2) = co) (hmo : (if 1 ≤ l_ then (if l_ ≤ 3 then l_ else 3) else 1) = mo) (he : ∀ k, 20 ≤ k → e k 0 = hc_E cI cZ cM cC n z mx co mo k 0) : Met l y_Mod_init w_Mod_init { frames := 1, cells := 21, slots := 684, locals := 20 } (va_Pc [.ref (hx_ad z n 20 0), .int c_, .int l_] (hc_B D cI cZ cM cC n z (hc_u e 20 0 (.inr (5, [.int 0, .int 0, .null, .null, .null, .null, .null, .null, .null, .null, .null, .null, .int 0, .null, .null, .null, .null, .int 0, .int 0, .int 0, .null, .null, .null, .null, .null, .null, .null]))) (hx_ad z n 22 0))) (va_Qv (fun _ : Unit => True) (fun _ => hc_B D cI cZ cM cC n z (e) (hx_ad z n 46 0 + 1)) (hc_A z)) 21 684 (hc_A z) := by
  refine Met.ofW (cc := b_Mod_init) (maxL := 4) (ret := none) (by decide) rfl ?_
  intro p ev s m args below meth c s₁ B hml hv
  obtain ⟨rfl, hP, hz, hK, hN, hOM, hOC⟩ := hv
  have hx := B.exec
  have hb := B.bytes
  have hr := B.returns
  have hlk := B.notSynchronized
  have hts0 := atoms_spec (ws := w_Mod_init) B.pre
  have hts := fun w (hw : w ∈ lw_g) => hts0 w (List.mem_cons_of_mem _ hw)
  have hown : s.vm.findClass R_Mod = some m.cls := findClass_of_methodNamed B.named
  have hin : meth.name = "<init>" := (name_of_methodNamed B.named B.method).1
  have hAz : ∀ q, hc_A z q → hc_A z q := fun _ h => h
  have hS : va_S (hc_A z) s.heap s.heap [] := va_S.rf
  have hl := lv_entry ([.ref (hx_ad z n 20 0), .int c_, .int l_]) (n := 4) (Nat.le_of_ble_eq_true rfl)
  rw [lg_entry_eq]
  generalize (lg_sl ([.ref (hx_ad z n 20 0), .int c_, .int l_]) ++ List.replicate (4 - (lg_sl ([.ref (hx_ad z n 20 0), .int c_, .int l_])).length) Slot.unset).toArray = ls at hl ⊢
  have hl : lv_has ls 4 [(0, .ref (hx_ad z n 20 0)), (1, .int c_), (2, .int l_)] := hl
  have loop213 : ∀ (k i : Nat) (f : Nat → Int32), i ≤ 4 → 4 < i + k → (∀ q, q < i → f q = -1) → ∀ (H : Heap) (locs : List Loc) (ls : Array Slot), H.size = hx_ad z n 46 0 + 1 → hc_P D n z (hc_u e 35 0 (.inl (cI, 4, .inl f))) H → va_S (hc_A z) s.heap H locs → lv_has ls 4 [(3, .int (nI i)), (0, .ref (hx_ad z n 20 0))] → W p l ev (headSpec w_Mod_init { frames := 1, cells := 21, slots := 684, locals := 20 }).room s m [.ref (hx_ad z n 20 0), .int c_, .int l_].toArray below meth c H locs 21 684 (MQ below (va_Qv (fun _ : Unit => True) (fun _ => hc_B D cI cZ cM cC n z e (hx_ad z n 46 0 + 1)) (hc_A z)) [.ref (hx_ad z n 20 0), .int c_, .int l_].toArray s 21 684 (hc_A z)) (F0 m 213 ls []) := by
    intro k
    induction k with
    | zero =>
      intro i f hi1 hi2
      exact absurd hi2 (by omega)
    | succ k ih =>
      intro i f hi1 hi2 hf H locs ls hz hP hS hl
      refine lv_iload_n hx hb d_Mod_init_213 rfl (lv_at hl 0 rfl) ?_
      refine lv_iconst (v := 4) hx hb d_Mod_init_214 (by decide) ?_
      refine lv_icmp_ge (tgt := 231) hx hb d_Mod_init_215 (by decide) (fun h1 => ?_) (fun h1 => ?_)
      · have hi4 : i = 4 := hd_ge4 rfl hi1 h1
        have hP := hc_dropx (y := .inl (fun _ => -1)) hP (he 35 (by omega)) (hc_iext (fun q hq => hf q (by omega)))
        exact hc_vret hx hb hr hlk hK hN hOM hOC hz hP hS d_Mod_init_231
      · have hlt : i < 4 := hd_lp rfl (show (4 : Int32) = nI 4 from rfl) (by omega) h1
        have hi : vp_in (nI i) 4 := vp_in_nI hlt (by omega)
        refine lv_aload_n hx hb d_Mod_init_218 rfl (lv_at hl 1 rfl) ?_
        refine hc_get (ci := 5) (fs := fx_20 (hx_ad z n) (hc_v0 mx co mo 20 0)) (C := R_Mod) (T := F_Mod) (N := 27) hx hb hts i_Mod hown hK hP 20 0 Nat.one_pos (by rw [hz] <;> (try simp only [hx_ad, hx_off]) <;> (try omega)) ((hc_un (by omega)).trans (he 20 (by omega))) rfl 15 (by decide) (hts _ k_461) (fun _ h9 => h9) hv_20_15 d_Mod_init_219 ?_
        refine lv_iload_n hx hb d_Mod_init_222 rfl (lv_at hl 0 rfl) ?_
        refine lv_iconst (v := -1) hx hb d_Mod_init_223 (by decide) ?_
        refine hc_iast hx hb hK hP hAz hS 35 0 0 Nat.one_pos (by rw [hz] <;> (try simp only [hx_ad, hx_off]) <;> (try omega)) hc_us rfl hi d_Mod_init_224 (fun H locs hz2 hP hS => ?_)
        have hz := hz2.trans hz
        have hP := hc_over hP
        refine lv_iinc (v := nI (i + 1)) (lv' := [(3, .int (nI (i + 1))), (0, .ref (hx_ad z n 20 0))]) hx hb d_Mod_init_225 hl (k := 0) rfl (nI_1 i) (by decide) rfl (fun ls hl => ?_)
        refine lv_goto (tgt := 213) hx hb d_Mod_init_228 (by decide) ?_
        refine ih (i + 1) _ hlt (by omega) (fun q hq => ?_) _ _ _ hz hP hS (lv_sub hl [0, 1] rfl)
        have e1 : (nI i).toNatClampNeg = i := nI_clamp (by omega)
        unfold upd
        rw [e1]
        by_cases w : q = i
        · rw [if_pos w]
        · rw [if_neg w]
          exact hf q (by omega)
  refine lv_aload_n hx hb d_Mod_init_0 rfl (lv_at hl 0 rfl) ?_
  refine W.objInit hx hb hown (hts _ k_445) (hts _ k_16) (hts _ k_obj) rfl (by rw [hml]; exact hl.1) rfl d_Mod_init_1 (Nat.le_of_ble_eq_true rfl) (Nat.le_of_ble_eq_true rfl) ?_
  refine W.eq (g2 := F0 m 4 ls []) rfl ?_
  refine lv_aload_n hx hb d_Mod_init_4 rfl (lv_at hl 0 rfl) ?_
  refine lv_iconst (v := 4) hx hb d_Mod_init_5 (by decide) ?_
  refine hc_newi hx hb (hts _ k_114) hK hP hS 22 0 0 rfl Nat.one_pos (by rw [hz] <;> (try simp only [hx_ad, hx_off]) <;> (try omega)) (N' := 4) (by decide) (by decide) (by decide) (Nat.le_of_ble_eq_true rfl) (Nat.le_of_ble_eq_true rfl) d_Mod_init_6 (fun H hz hP hS => ?_)
  have hP := hc_drop hP (by rw [hc_un (by omega)]; exact he 22 (by omega))
  refine hc_putF (ty := .array .int) (C := R_Mod) (T := F_Mod) (N := 27) hx hb hts i_Mod t_Mod t_Mod_ok n_Mod hown hK hP hAz hS 20 0 Nat.one_pos (by rw [hz] <;> (try simp only [hx_ad, hx_off]) <;> (try omega)) hc_us rfl 2 (by decide) (hts _ k_448) (fun _ h9 => h9) rfl hin rfl (by decide +kernel) rfl rfl (Nat.le_of_ble_eq_true rfl) d_Mod_init_8 (fun H locs hz2 hP hS => ?_)
  have hz := hz2.trans hz
  have hP := hc_over hP
  have hP : hc_P D n z (hc_u _ 20 0 (.inr (5, [.int 0, .int 0, .ref (hx_ad z n 22 0), .null, .null, .null, .null, .null, .null, .null, .null, .null, .int 0, .null, .null, .null, .null, .int 0, .int 0, .int 0, .null, .null, .null, .null, .null, .null, .null]))) H := hP
  refine lv_aload_n hx hb d_Mod_init_11 rfl (lv_at hl 0 rfl) ?_
  refine lv_bipush (v := 64) hx hb d_Mod_init_12 (by decide) ?_
  refine hc_newi hx hb (hts _ k_114) hK hP hS 23 0 0 rfl Nat.one_pos (by rw [hz] <;> (try simp only [hx_ad, hx_off]) <;> (try omega)) (N' := 64) (by decide) (by decide) (by decide) (Nat.le_of_ble_eq_true rfl) (Nat.le_of_ble_eq_true rfl) d_Mod_init_14 (fun H hz hP hS => ?_)
  have hP := hc_drop hP (by rw [hc_un (by omega)]; exact he 23 (by omega))
  refine hc_putF (ty := .array .int) (C := R_Mod) (T := F_Mod) (N := 27) hx hb hts i_Mod t_Mod t_Mod_ok n_Mod hown hK hP hAz hS 20 0 Nat.one_pos (by rw [hz] <;> (try simp only [hx_ad, hx_off]) <;> (try omega)) hc_us rfl 3 (by decide) (hts _ k_449) (fun _ h9 => h9) rfl hin rfl (by decide +kernel) rfl rfl (Nat.le_of_ble_eq_true rfl) d_Mod_init_16 (fun H locs hz2 hP hS => ?_)
  have hz := hz2.trans hz
  have hP := hc_over hP
  have hP : hc_P D n z (hc_u _ 20 0 (.inr (5, [.int 0, .int 0, .ref (hx_ad z n 22 0), .ref (hx_ad z n 23 0), .null, .null, .null, .null, .null, .null, .null, .null, .int 0, .null, .null, .null, .null, .int 0, .int 0, .int 0, .null, .null, .null, .null, .null, .null, .null]))) H := hP
  refine lv_aload_n hx hb d_Mod_init_19 rfl (lv_at hl 0 rfl) ?_
  refine lv_bipush (v := 64) hx hb d_Mod_init_20 (by decide) ?_
  refine hc_newi hx hb (hts _ k_114) hK hP hS 24 0 0 rfl Nat.one_pos (by rw [hz] <;> (try simp only [hx_ad, hx_off]) <;> (try omega)) (N' := 64) (by decide) (by decide) (by decide) (Nat.le_of_ble_eq_true rfl) (Nat.le_of_ble_eq_true rfl) d_Mod_init_22 (fun H hz hP hS => ?_)
  have hP := hc_drop hP (by rw [hc_un (by omega)]; exact he 24 (by omega))
  refine hc_putF (ty := .array .int) (C := R_Mod) (T := F_Mod) (N := 27) hx hb hts i_Mod t_Mod t_Mod_ok n_Mod hown hK hP hAz hS 20 0 Nat.one_pos (by rw [hz] <;> (try simp only [hx_ad, hx_off]) <;> (try omega)) hc_us rfl 4 (by decide) (hts _ k_450) (fun _ h9 => h9) rfl hin rfl (by decide +kernel) rfl rfl (Nat.le_of_ble_eq_true rfl) d_Mod_init_24 (fun H locs hz2 hP hS => ?_)
  have hz := hz2.trans hz
  have hP := hc_over hP
  have hP : hc_P D n z (hc_u _ 20 0 (.inr (5, [.int 0, .int 0, .ref (hx_ad z n 22 0), .ref (hx_ad z n 23 0), .ref (hx_ad z n 24 0), .null, .null, .null, .null, .null, .null, .null, .int 0, .null, .null, .null, .null, .int 0, .int 0, .int 0, .null, .null, .null, .null, .null, .null, .null]))) H := hP
  refine lv_aload_n hx hb d_Mod_init_27 rfl (lv_at hl 0 rfl) ?_
  refine lv_iconst (v := 4) hx hb d_Mod_init_28 (by decide) ?_
  refine hc_newi hx hb (hts _ k_114) hK hP hS 25 0 0 rfl Nat.one_pos (by rw [hz] <;> (try simp only [hx_ad, hx_off]) <;> (try omega)) (N' := 4) (by decide) (by decide) (by decide) (Nat.le_of_ble_eq_true rfl) (Nat.le_of_ble_eq_true rfl) d_Mod_init_29 (fun H hz hP hS => ?_)
  have hP := hc_drop hP (by rw [hc_un (by omega)]; exact he 25 (by omega))
  refine hc_putF (ty := .array .int) (C := R_Mod) (T := F_Mod) (N := 27) hx hb hts i_Mod t_Mod t_Mod_ok n_Mod hown hK hP hAz hS 20 0 Nat.one_pos (by rw [hz] <;> (try simp only [hx_ad, hx_off]) <;> (try omega)) hc_us rfl 5 (by decide) (hts _ k_451) (fun _ h9 => h9) rfl hin rfl (by decide +kernel) rfl rfl (Nat.le_of_ble_eq_true rfl) d_Mod_init_31 (fun H locs hz2 hP hS => ?_)
  have hz := hz2.trans hz
  have hP := hc_over hP
  have hP : hc_P D n z (hc_u _ 20 0 (.inr (5, [.int 0, .int 0, .ref (hx_ad z n 22 0), .ref (hx_ad z n 23 0), .ref (hx_ad z n 24 0), .ref (hx_ad z n 25 0), .null, .null, .null, .null, .null, .null, .int 0, .null, .null, .null, .null, .int 0, .int 0, .int 0, .null, .null, .null, .null, .null, .null, .null]))) H := hP
  refine lv_aload_n hx hb d_Mod_init_34 rfl (lv_at hl 0 rfl) ?_
  refine lv_iconst (v := 4) hx hb d_Mod_init_35 (by decide) ?_
  refine hc_newi hx hb (hts _ k_114) hK hP hS 26 0 0 rfl Nat.one_pos (by rw [hz] <;> (try simp only [hx_ad, hx_off]) <;> (try omega)) (N' := 4) (by decide) (by decide) (by decide) (Nat.le_of_ble_eq_true rfl) (Nat.le_of_ble_eq_true rfl) d_Mod_init_36 (fun H hz hP hS => ?_)
  have hP := hc_drop hP (by rw [hc_un (by omega)]; exact he 26 (by omega))
  refine hc_putF (ty := .array .int) (C := R_Mod) (T := F_Mod) (N := 27) hx hb hts i_Mod t_Mod t_Mod_ok n_Mod hown hK hP hAz hS 20 0 Nat.one_pos (by rw [hz] <;> (try simp only [hx_ad, hx_off]) <;> (try omega)) hc_us rfl 6 (by decide) (hts _ k_452) (fun _ h9 => h9) rfl hin rfl (by decide +kernel) rfl rfl (Nat.le_of_ble_eq_true rfl) d_Mod_init_38 (fun H locs hz2 hP hS => ?_)
  have hz := hz2.trans hz
  have hP := hc_over hP
  have hP : hc_P D n z (hc_u _ 20 0 (.inr (5, [.int 0, .int 0, .ref (hx_ad z n 22 0), .ref (hx_ad z n 23 0), .ref (hx_ad z n 24 0), .ref (hx_ad z n 25 0), .ref (hx_ad z n 26 0), .null, .null, .null, .null, .null, .int 0, .null, .null, .null, .null, .int 0, .int 0, .int 0, .null, .null, .null, .null, .null, .null, .null]))) H := hP
  refine lv_aload_n hx hb d_Mod_init_41 rfl (lv_at hl 0 rfl) ?_
  refine lv_iconst (v := 4) hx hb d_Mod_init_42 (by decide) ?_
  refine hc_newi hx hb (hts _ k_114) hK hP hS 27 0 0 rfl Nat.one_pos (by rw [hz] <;> (try simp only [hx_ad, hx_off]) <;> (try omega)) (N' := 4) (by decide) (by decide) (by decide) (Nat.le_of_ble_eq_true rfl) (Nat.le_of_ble_eq_true rfl) d_Mod_init_43 (fun H hz hP hS => ?_)
  have hP := hc_drop hP (by rw [hc_un (by omega)]; exact he 27 (by omega))
  refine hc_putF (ty := .array .int) (C := R_Mod) (T := F_Mod) (N := 27) hx hb hts i_Mod t_Mod t_Mod_ok n_Mod hown hK hP hAz hS 20 0 Nat.one_pos (by rw [hz] <;> (try simp only [hx_ad, hx_off]) <;> (try omega)) hc_us rfl 7 (by decide) (hts _ k_453) (fun _ h9 => h9) rfl hin rfl (by decide +kernel) rfl rfl (Nat.le_of_ble_eq_true rfl) d_Mod_init_45 (fun H locs hz2 hP hS => ?_)
  have hz := hz2.trans hz
  have hP := hc_over hP
  have hP : hc_P D n z (hc_u _ 20 0 (.inr (5, [.int 0, .int 0, .ref (hx_ad z n 22 0), .ref (hx_ad z n 23 0), .ref (hx_ad z n 24 0), .ref (hx_ad z n 25 0), .ref (hx_ad z n 26 0), .ref (hx_ad z n 27 0), .null, .null, .null, .null, .int 0, .null, .null, .null, .null, .int 0, .int 0, .int 0, .null, .null, .null, .null, .null, .null, .null]))) H := hP
  refine lv_aload_n hx hb d_Mod_init_48 rfl (lv_at hl 0 rfl) ?_
  refine lv_bipush (v := 16) hx hb d_Mod_init_49 (by decide) ?_
  refine hc_newi hx hb (hts _ k_114) hK hP hS 28 0 0 rfl Nat.one_pos (by rw [hz] <;> (try simp only [hx_ad, hx_off]) <;> (try omega)) (N' := 16) (by decide) (by decide) (by decide) (Nat.le_of_ble_eq_true rfl) (Nat.le_of_ble_eq_true rfl) d_Mod_init_51 (fun H hz hP hS => ?_)
  have hP := hc_drop hP (by rw [hc_un (by omega)]; exact he 28 (by omega))
  refine hc_putF (ty := .array .int) (C := R_Mod) (T := F_Mod) (N := 27) hx hb hts i_Mod t_Mod t_Mod_ok n_Mod hown hK hP hAz hS 20 0 Nat.one_pos (by rw [hz] <;> (try simp only [hx_ad, hx_off]) <;> (try omega)) hc_us rfl 8 (by decide) (hts _ k_454) (fun _ h9 => h9) rfl hin rfl (by decide +kernel) rfl rfl (Nat.le_of_ble_eq_true rfl) d_Mod_init_53 (fun H locs hz2 hP hS => ?_)
  have hz := hz2.trans hz
  have hP := hc_over hP
  have hP : hc_P D n z (hc_u _ 20 0 (.inr (5, [.int 0, .int 0, .ref (hx_ad z n 22 0), .ref (hx_ad z n 23 0), .ref (hx_ad z n 24 0), .ref (hx_ad z n 25 0), .ref (hx_ad z n 26 0), .ref (hx_ad z n 27 0), .ref (hx_ad z n 28 0), .null, .null, .null, .int 0, .null, .null, .null, .null, .int 0, .int 0, .int 0, .null, .null, .null, .null, .null, .null, .null]))) H := hP
  refine lv_aload_n hx hb d_Mod_init_56 rfl (lv_at hl 0 rfl) ?_
  refine lv_bipush (v := 16) hx hb d_Mod_init_57 (by decide) ?_
  refine hc_newi hx hb (hts _ k_114) hK hP hS 29 0 0 rfl Nat.one_pos (by rw [hz] <;> (try simp only [hx_ad, hx_off]) <;> (try omega)) (N' := 16) (by decide) (by decide) (by decide) (Nat.le_of_ble_eq_true rfl) (Nat.le_of_ble_eq_true rfl) d_Mod_init_59 (fun H hz hP hS => ?_)
  have hP := hc_drop hP (by rw [hc_un (by omega)]; exact he 29 (by omega))
  refine hc_putF (ty := .array .int) (C := R_Mod) (T := F_Mod) (N := 27) hx hb hts i_Mod t_Mod t_Mod_ok n_Mod hown hK hP hAz hS 20 0 Nat.one_pos (by rw [hz] <;> (try simp only [hx_ad, hx_off]) <;> (try omega)) hc_us rfl 9 (by decide) (hts _ k_455) (fun _ h9 => h9) rfl hin rfl (by decide +kernel) rfl rfl (Nat.le_of_ble_eq_true rfl) d_Mod_init_61 (fun H locs hz2 hP hS => ?_)
  have hz := hz2.trans hz
  have hP := hc_over hP
  have hP : hc_P D n z (hc_u _ 20 0 (.inr (5, [.int 0, .int 0, .ref (hx_ad z n 22 0), .ref (hx_ad z n 23 0), .ref (hx_ad z n 24 0), .ref (hx_ad z n 25 0), .ref (hx_ad z n 26 0), .ref (hx_ad z n 27 0), .ref (hx_ad z n 28 0), .ref (hx_ad z n 29 0), .null, .null, .int 0, .null, .null, .null, .null, .int 0, .int 0, .int 0, .null, .null, .null, .null, .null, .null, .null]))) H := hP
  refine lv_aload_n hx hb d_Mod_init_64 rfl (lv_at hl 0 rfl) ?_
  refine lv_bipush (v := 16) hx hb d_Mod_init_65 (by decide) ?_
  refine hc_newi hx hb (hts _ k_114) hK hP hS 30 0 0 rfl Nat.one_pos (by rw [hz] <;> (try simp only [hx_ad, hx_off]) <;> (try omega)) (N' := 16) (by decide) (by decide) (by decide) (Nat.le_of_ble_eq_true rfl) (Nat.le_of_ble_eq_true rfl) d_Mod_init_67 (fun H hz hP hS => ?_)
  have hP := hc_drop hP (by rw [hc_un (by omega)]; exact he 30 (by omega))
  refine hc_putF (ty := .array .int) (C := R_Mod) (T := F_Mod) (N := 27) hx hb hts i_Mod t_Mod t_Mod_ok n_Mod hown hK hP hAz hS 20 0 Nat.one_pos (by rw [hz] <;> (try simp only [hx_ad, hx_off]) <;> (try omega)) hc_us rfl 10 (by decide) (hts _ k_456) (fun _ h9 => h9) rfl hin rfl (by decide +kernel) rfl rfl (Nat.le_of_ble_eq_true rfl) d_Mod_init_69 (fun H locs hz2 hP hS => ?_)
  have hz := hz2.trans hz
  have hP := hc_over hP
  have hP : hc_P D n z (hc_u _ 20 0 (.inr (5, [.int 0, .int 0, .ref (hx_ad z n 22 0), .ref (hx_ad z n 23 0), .ref (hx_ad z n 24 0), .ref (hx_ad z n 25 0), .ref (hx_ad z n 26 0), .ref (hx_ad z n 27 0), .ref (hx_ad z n 28 0), .ref (hx_ad z n 29 0), .ref (hx_ad z n 30 0), .null, .int 0, .null, .null, .null, .null, .int 0, .int 0, .int 0, .null, .null, .null, .null, .null, .null, .null]))) H := hP
  refine lv_aload_n hx hb d_Mod_init_72 rfl (lv_at hl 0 rfl) ?_
  refine lv_bipush (v := 16) hx hb d_Mod_init_73 (by decide) ?_
  refine hc_newi hx hb (hts _ k_114) hK hP hS 31 0 0 rfl Nat.one_pos (by rw [hz] <;> (try simp only [hx_ad, hx_off]) <;> (try omega)) (N' := 16) (by decide) (by decide) (by decide) (Nat.le_of_ble_eq_true rfl) (Nat.le_of_ble_eq_true rfl) d_Mod_init_75 (fun H hz hP hS => ?_)
  have hP := hc_drop hP (by rw [hc_un (by omega)]; exact he 31 (by omega))
  refine hc_putF (ty := .array .int) (C := R_Mod) (T := F_Mod) (N := 27) hx hb hts i_Mod t_Mod t_Mod_ok n_Mod hown hK hP hAz hS 20 0 Nat.one_pos (by rw [hz] <;> (try simp only [hx_ad, hx_off]) <;> (try omega)) hc_us rfl 11 (by decide) (hts _ k_457) (fun _ h9 => h9) rfl hin rfl (by decide +kernel) rfl rfl (Nat.le_of_ble_eq_true rfl) d_Mod_init_77 (fun H locs hz2 hP hS => ?_)
  have hz := hz2.trans hz
  have hP := hc_over hP
  have hP : hc_P D n z (hc_u _ 20 0 (.inr (5, [.int 0, .int 0, .ref (hx_ad z n 22 0), .ref (hx_ad z n 23 0), .ref (hx_ad z n 24 0), .ref (hx_ad z n 25 0), .ref (hx_ad z n 26 0), .ref (hx_ad z n 27 0), .ref (hx_ad z n 28 0), .ref (hx_ad z n 29 0), .ref (hx_ad z n 30 0), .ref (hx_ad z n 31 0), .int 0, .null, .null, .null, .null, .int 0, .int 0, .int 0, .null, .null, .null, .null, .null, .null, .null]))) H := hP
  refine lv_aload_n hx hb d_Mod_init_80 rfl (lv_at hl 0 rfl) ?_
  refine lv_iconst (v := 4) hx hb d_Mod_init_81 (by decide) ?_
  refine hc_newi hx hb (hts _ k_114) hK hP hS 33 0 0 rfl Nat.one_pos (by rw [hz] <;> (try simp only [hx_ad, hx_off]) <;> (try omega)) (N' := 4) (by decide) (by decide) (by decide) (Nat.le_of_ble_eq_true rfl) (Nat.le_of_ble_eq_true rfl) d_Mod_init_82 (fun H hz hP hS => ?_)
  have hP := hc_drop hP (by rw [hc_un (by omega)]; exact he 33 (by omega))
  refine hc_putF (ty := .array .int) (C := R_Mod) (T := F_Mod) (N := 27) hx hb hts i_Mod t_Mod t_Mod_ok n_Mod hown hK hP hAz hS 20 0 Nat.one_pos (by rw [hz] <;> (try simp only [hx_ad, hx_off]) <;> (try omega)) hc_us rfl 13 (by decide) (hts _ k_459) (fun _ h9 => h9) rfl hin rfl (by decide +kernel) rfl rfl (Nat.le_of_ble_eq_true rfl) d_Mod_init_84 (fun H locs hz2 hP hS => ?_)
  have hz := hz2.trans hz
  have hP := hc_over hP
  have hP : hc_P D n z (hc_u _ 20 0 (.inr (5, [.int 0, .int 0, .ref (hx_ad z n 22 0), .ref (hx_ad z n 23 0), .ref (hx_ad z n 24 0), .ref (hx_ad z n 25 0), .ref (hx_ad z n 26 0), .ref (hx_ad z n 27 0), .ref (hx_ad z n 28 0), .ref (hx_ad z n 29 0), .ref (hx_ad z n 30 0), .ref (hx_ad z n 31 0), .int 0, .ref (hx_ad z n 33 0), .null, .null, .null, .int 0, .int 0, .int 0, .null, .null, .null, .null, .null, .null, .null]))) H := hP
  refine lv_aload_n hx hb d_Mod_init_87 rfl (lv_at hl 0 rfl) ?_
  refine lv_iconst (v := 4) hx hb d_Mod_init_88 (by decide) ?_
  refine hc_newi hx hb (hts _ k_114) hK hP hS 34 0 0 rfl Nat.one_pos (by rw [hz] <;> (try simp only [hx_ad, hx_off]) <;> (try omega)) (N' := 4) (by decide) (by decide) (by decide) (Nat.le_of_ble_eq_true rfl) (Nat.le_of_ble_eq_true rfl) d_Mod_init_89 (fun H hz hP hS => ?_)
  have hP := hc_drop hP (by rw [hc_un (by omega)]; exact he 34 (by omega))
  refine hc_putF (ty := .array .int) (C := R_Mod) (T := F_Mod) (N := 27) hx hb hts i_Mod t_Mod t_Mod_ok n_Mod hown hK hP hAz hS 20 0 Nat.one_pos (by rw [hz] <;> (try simp only [hx_ad, hx_off]) <;> (try omega)) hc_us rfl 14 (by decide) (hts _ k_460) (fun _ h9 => h9) rfl hin rfl (by decide +kernel) rfl rfl (Nat.le_of_ble_eq_true rfl) d_Mod_init_91 (fun H locs hz2 hP hS => ?_)
  have hz := hz2.trans hz
  have hP := hc_over hP
  have hP : hc_P D n z (hc_u _ 20 0 (.inr (5, [.int 0, .int 0, .ref (hx_ad z n 22 0), .ref (hx_ad z n 23 0), .ref (hx_ad z n 24 0), .ref (hx_ad z n 25 0), .ref (hx_ad z n 26 0), .ref (hx_ad z n 27 0), .ref (hx_ad z n 28 0), .ref (hx_ad z n 29 0), .ref (hx_ad z n 30 0), .ref (hx_ad z n 31 0), .int 0, .ref (hx_ad z n 33 0), .ref (hx_ad z n 34 0), .null, .null, .int 0, .int 0, .int 0, .null, .null, .null, .null, .null, .null, .null]))) H := hP
  refine lv_aload_n hx hb d_Mod_init_94 rfl (lv_at hl 0 rfl) ?_
  refine lv_iconst (v := 4) hx hb d_Mod_init_95 (by decide) ?_
  refine hc_newi hx hb (hts _ k_114) hK hP hS 35 0 0 rfl Nat.one_pos (by rw [hz] <;> (try simp only [hx_ad, hx_off]) <;> (try omega)) (N' := 4) (by decide) (by decide) (by decide) (Nat.le_of_ble_eq_true rfl) (Nat.le_of_ble_eq_true rfl) d_Mod_init_96 (fun H hz hP hS => ?_)
  have hP := hc_swap (by omega) hP
  refine hc_putF (ty := .array .int) (C := R_Mod) (T := F_Mod) (N := 27) hx hb hts i_Mod t_Mod t_Mod_ok n_Mod hown hK hP hAz hS 20 0 Nat.one_pos (by rw [hz] <;> (try simp only [hx_ad, hx_off]) <;> (try omega)) hc_us rfl 15 (by decide) (hts _ k_461) (fun _ h9 => h9) rfl hin rfl (by decide +kernel) rfl rfl (Nat.le_of_ble_eq_true rfl) d_Mod_init_98 (fun H locs hz2 hP hS => ?_)
  have hz := hz2.trans hz
  have hP := hc_over hP
  have hP : hc_P D n z (hc_u _ 20 0 (.inr (5, [.int 0, .int 0, .ref (hx_ad z n 22 0), .ref (hx_ad z n 23 0), .ref (hx_ad z n 24 0), .ref (hx_ad z n 25 0), .ref (hx_ad z n 26 0), .ref (hx_ad z n 27 0), .ref (hx_ad z n 28 0), .ref (hx_ad z n 29 0), .ref (hx_ad z n 30 0), .ref (hx_ad z n 31 0), .int 0, .ref (hx_ad z n 33 0), .ref (hx_ad z n 34 0), .ref (hx_ad z n 35 0), .null, .int 0, .int 0, .int 0, .null, .null, .null, .null, .null, .null, .null]))) H := hP
  refine lv_aload_n hx hb d_Mod_init_101 rfl (lv_at hl 0 rfl) ?_
  refine lv_bipush (v := 16) hx hb d_Mod_init_102 (by decide) ?_
  refine hc_newz hx hb (hts _ k_528) hK hP hS 36 0 1 rfl Nat.one_pos (by rw [hz] <;> (try simp only [hx_ad, hx_off]) <;> (try omega)) (N' := 16) (by decide) (by decide) (by decide) (Nat.le_of_ble_eq_true rfl) (Nat.le_of_ble_eq_true rfl) d_Mod_init_104 (fun H hz hP hS => ?_)
  have hP := hc_drop hP (by rw [hc_un (by omega), hc_un (by omega)]; exact he 36 (by omega))
  refine hc_putF (ty := .array .boolean) (C := R_Mod) (T := F_Mod) (N := 27) hx hb hts i_Mod t_Mod t_Mod_ok n_Mod hown hK hP hAz hS 20 0 Nat.one_pos (by rw [hz] <;> (try simp only [hx_ad, hx_off]) <;> (try omega)) hc_us rfl 16 (by decide) (hts _ k_462) (fun _ h9 => h9) rfl hin rfl (by decide +kernel) rfl rfl (Nat.le_of_ble_eq_true rfl) d_Mod_init_106 (fun H locs hz2 hP hS => ?_)
  have hz := hz2.trans hz
  have hP := hc_over hP
  have hP : hc_P D n z (hc_u _ 20 0 (.inr (5, [.int 0, .int 0, .ref (hx_ad z n 22 0), .ref (hx_ad z n 23 0), .ref (hx_ad z n 24 0), .ref (hx_ad z n 25 0), .ref (hx_ad z n 26 0), .ref (hx_ad z n 27 0), .ref (hx_ad z n 28 0), .ref (hx_ad z n 29 0), .ref (hx_ad z n 30 0), .ref (hx_ad z n 31 0), .int 0, .ref (hx_ad z n 33 0), .ref (hx_ad z n 34 0), .ref (hx_ad z n 35 0), .ref (hx_ad z n 36 0), .int 0, .int 0, .int 0, .null, .null, .null, .null, .null, .null, .null]))) H := hP
  refine lv_aload_n hx hb d_Mod_init_109 rfl (lv_at hl 0 rfl) ?_
  refine lv_bipush (v := 64) hx hb d_Mod_init_110 (by decide) ?_
  refine hc_newi hx hb (hts _ k_114) hK hP hS 40 0 0 rfl Nat.one_pos (by rw [hz] <;> (try simp only [hx_ad, hx_off]) <;> (try omega)) (N' := 64) (by decide) (by decide) (by decide) (Nat.le_of_ble_eq_true rfl) (Nat.le_of_ble_eq_true rfl) d_Mod_init_112 (fun H hz hP hS => ?_)
  have hP := hc_drop hP (by rw [hc_un (by omega), hc_un (by omega)]; exact he 40 (by omega))
  refine hc_putF (ty := .array .int) (C := R_Mod) (T := F_Mod) (N := 27) hx hb hts i_Mod t_Mod t_Mod_ok n_Mod hown hK hP hAz hS 20 0 Nat.one_pos (by rw [hz] <;> (try simp only [hx_ad, hx_off]) <;> (try omega)) hc_us rfl 20 (by decide) (hts _ k_466) (fun _ h9 => h9) rfl hin rfl (by decide +kernel) rfl rfl (Nat.le_of_ble_eq_true rfl) d_Mod_init_114 (fun H locs hz2 hP hS => ?_)
  have hz := hz2.trans hz
  have hP := hc_over hP
  have hP : hc_P D n z (hc_u _ 20 0 (.inr (5, [.int 0, .int 0, .ref (hx_ad z n 22 0), .ref (hx_ad z n 23 0), .ref (hx_ad z n 24 0), .ref (hx_ad z n 25 0), .ref (hx_ad z n 26 0), .ref (hx_ad z n 27 0), .ref (hx_ad z n 28 0), .ref (hx_ad z n 29 0), .ref (hx_ad z n 30 0), .ref (hx_ad z n 31 0), .int 0, .ref (hx_ad z n 33 0), .ref (hx_ad z n 34 0), .ref (hx_ad z n 35 0), .ref (hx_ad z n 36 0), .int 0, .int 0, .int 0, .ref (hx_ad z n 40 0), .null, .null, .null, .null, .null, .null]))) H := hP
  refine lv_aload_n hx hb d_Mod_init_117 rfl (lv_at hl 0 rfl) ?_
  refine lv_bipush (v := 64) hx hb d_Mod_init_118 (by decide) ?_
  refine hc_newi hx hb (hts _ k_114) hK hP hS 41 0 0 rfl Nat.one_pos (by rw [hz] <;> (try simp only [hx_ad, hx_off]) <;> (try omega)) (N' := 64) (by decide) (by decide) (by decide) (Nat.le_of_ble_eq_true rfl) (Nat.le_of_ble_eq_true rfl) d_Mod_init_120 (fun H hz hP hS => ?_)
  have hP := hc_drop hP (by rw [hc_un (by omega), hc_un (by omega)]; exact he 41 (by omega))
  refine hc_putF (ty := .array .int) (C := R_Mod) (T := F_Mod) (N := 27) hx hb hts i_Mod t_Mod t_Mod_ok n_Mod hown hK hP hAz hS 20 0 Nat.one_pos (by rw [hz] <;> (try simp only [hx_ad, hx_off]) <;> (try omega)) hc_us rfl 21 (by decide) (hts _ k_467) (fun _ h9 => h9) rfl hin rfl (by decide +kernel) rfl rfl (Nat.le_of_ble_eq_true rfl) d_Mod_init_122 (fun H locs hz2 hP hS => ?_)
  have hz := hz2.trans hz
  have hP := hc_over hP
  have hP : hc_P D n z (hc_u _ 20 0 (.inr (5, [.int 0, .int 0, .ref (hx_ad z n 22 0), .ref (hx_ad z n 23 0), .ref (hx_ad z n 24 0), .ref (hx_ad z n 25 0), .ref (hx_ad z n 26 0), .ref (hx_ad z n 27 0), .ref (hx_ad z n 28 0), .ref (hx_ad z n 29 0), .ref (hx_ad z n 30 0), .ref (hx_ad z n 31 0), .int 0, .ref (hx_ad z n 33 0), .ref (hx_ad z n 34 0), .ref (hx_ad z n 35 0), .ref (hx_ad z n 36 0), .int 0, .int 0, .int 0, .ref (hx_ad z n 40 0), .ref (hx_ad z n 41 0), .null, .null, .null, .null, .null]))) H := hP
  refine lv_aload_n hx hb d_Mod_init_125 rfl (lv_at hl 0 rfl) ?_
  refine lv_bipush (v := 64) hx hb d_Mod_init_126 (by decide) ?_
  refine hc_newi hx hb (hts _ k_114) hK hP hS 42 0 0 rfl Nat.one_pos (by rw [hz] <;> (try simp only [hx_ad, hx_off]) <;> (try omega)) (N' := 64) (by decide) (by decide) (by decide) (Nat.le_of_ble_eq_true rfl) (Nat.le_of_ble_eq_true rfl) d_Mod_init_128 (fun H hz hP hS => ?_)
  have hP := hc_drop hP (by rw [hc_un (by omega), hc_un (by omega)]; exact he 42 (by omega))
  refine hc_putF (ty := .array .int) (C := R_Mod) (T := F_Mod) (N := 27) hx hb hts i_Mod t_Mod t_Mod_ok n_Mod hown hK hP hAz hS 20 0 Nat.one_pos (by rw [hz] <;> (try simp only [hx_ad, hx_off]) <;> (try omega)) hc_us rfl 22 (by decide) (hts _ k_468) (fun _ h9 => h9) rfl hin rfl (by decide +kernel) rfl rfl (Nat.le_of_ble_eq_true rfl) d_Mod_init_130 (fun H locs hz2 hP hS => ?_)
  have hz := hz2.trans hz
  have hP := hc_over hP
  have hP : hc_P D n z (hc_u _ 20 0 (.inr (5, [.int 0, .int 0, .ref (hx_ad z n 22 0), .ref (hx_ad z n 23 0), .ref (hx_ad z n 24 0), .ref (hx_ad z n 25 0), .ref (hx_ad z n 26 0), .ref (hx_ad z n 27 0), .ref (hx_ad z n 28 0), .ref (hx_ad z n 29 0), .ref (hx_ad z n 30 0), .ref (hx_ad z n 31 0), .int 0, .ref (hx_ad z n 33 0), .ref (hx_ad z n 34 0), .ref (hx_ad z n 35 0), .ref (hx_ad z n 36 0), .int 0, .int 0, .int 0, .ref (hx_ad z n 40 0), .ref (hx_ad z n 41 0), .ref (hx_ad z n 42 0), .null, .null, .null, .null]))) H := hP
  refine lv_aload_n hx hb d_Mod_init_133 rfl (lv_at hl 0 rfl) ?_
  refine lv_bipush (v := 64) hx hb d_Mod_init_134 (by decide) ?_
  refine hc_newi hx hb (hts _ k_114) hK hP hS 43 0 0 rfl Nat.one_pos (by rw [hz] <;> (try simp only [hx_ad, hx_off]) <;> (try omega)) (N' := 64) (by decide) (by decide) (by decide) (Nat.le_of_ble_eq_true rfl) (Nat.le_of_ble_eq_true rfl) d_Mod_init_136 (fun H hz hP hS => ?_)
  have hP := hc_drop hP (by rw [hc_un (by omega), hc_un (by omega)]; exact he 43 (by omega))
  refine hc_putF (ty := .array .int) (C := R_Mod) (T := F_Mod) (N := 27) hx hb hts i_Mod t_Mod t_Mod_ok n_Mod hown hK hP hAz hS 20 0 Nat.one_pos (by rw [hz] <;> (try simp only [hx_ad, hx_off]) <;> (try omega)) hc_us rfl 23 (by decide) (hts _ k_469) (fun _ h9 => h9) rfl hin rfl (by decide +kernel) rfl rfl (Nat.le_of_ble_eq_true rfl) d_Mod_init_138 (fun H locs hz2 hP hS => ?_)
  have hz := hz2.trans hz
  have hP := hc_over hP
  have hP : hc_P D n z (hc_u _ 20 0 (.inr (5, [.int 0, .int 0, .ref (hx_ad z n 22 0), .ref (hx_ad z n 23 0), .ref (hx_ad z n 24 0), .ref (hx_ad z n 25 0), .ref (hx_ad z n 26 0), .ref (hx_ad z n 27 0), .ref (hx_ad z n 28 0), .ref (hx_ad z n 29 0), .ref (hx_ad z n 30 0), .ref (hx_ad z n 31 0), .int 0, .ref (hx_ad z n 33 0), .ref (hx_ad z n 34 0), .ref (hx_ad z n 35 0), .ref (hx_ad z n 36 0), .int 0, .int 0, .int 0, .ref (hx_ad z n 40 0), .ref (hx_ad z n 41 0), .ref (hx_ad z n 42 0), .ref (hx_ad z n 43 0), .null, .null, .null]))) H := hP
  refine lv_aload_n hx hb d_Mod_init_141 rfl (lv_at hl 0 rfl) ?_
  refine lv_bipush (v := 64) hx hb d_Mod_init_142 (by decide) ?_
  refine hc_newi hx hb (hts _ k_114) hK hP hS 44 0 0 rfl Nat.one_pos (by rw [hz] <;> (try simp only [hx_ad, hx_off]) <;> (try omega)) (N' := 64) (by decide) (by decide) (by decide) (Nat.le_of_ble_eq_true rfl) (Nat.le_of_ble_eq_true rfl) d_Mod_init_144 (fun H hz hP hS => ?_)
  have hP := hc_drop hP (by rw [hc_un (by omega), hc_un (by omega)]; exact he 44 (by omega))
  refine hc_putF (ty := .array .int) (C := R_Mod) (T := F_Mod) (N := 27) hx hb hts i_Mod t_Mod t_Mod_ok n_Mod hown hK hP hAz hS 20 0 Nat.one_pos (by rw [hz] <;> (try simp only [hx_ad, hx_off]) <;> (try omega)) hc_us rfl 24 (by decide) (hts _ k_470) (fun _ h9 => h9) rfl hin rfl (by decide +kernel) rfl rfl (Nat.le_of_ble_eq_true rfl) d_Mod_init_146 (fun H locs hz2 hP hS => ?_)
  have hz := hz2.trans hz
  have hP := hc_over hP
  have hP : hc_P D n z (hc_u _ 20 0 (.inr (5, [.int 0, .int 0, .ref (hx_ad z n 22 0), .ref (hx_ad z n 23 0), .ref (hx_ad z n 24 0), .ref (hx_ad z n 25 0), .ref (hx_ad z n 26 0), .ref (hx_ad z n 27 0), .ref (hx_ad z n 28 0), .ref (hx_ad z n 29 0), .ref (hx_ad z n 30 0), .ref (hx_ad z n 31 0), .int 0, .ref (hx_ad z n 33 0), .ref (hx_ad z n 34 0), .ref (hx_ad z n 35 0), .ref (hx_ad z n 36 0), .int 0, .int 0, .int 0, .ref (hx_ad z n 40 0), .ref (hx_ad z n 41 0), .ref (hx_ad z n 42 0), .ref (hx_ad z n 43 0), .ref (hx_ad z n 44 0), .null, .null]))) H := hP
  refine lv_aload_n hx hb d_Mod_init_149 rfl (lv_at hl 0 rfl) ?_
  refine lv_bipush (v := 64) hx hb d_Mod_init_150 (by decide) ?_
  refine hc_newi hx hb (hts _ k_114) hK hP hS 45 0 0 rfl Nat.one_pos (by rw [hz] <;> (try simp only [hx_ad, hx_off]) <;> (try omega)) (N' := 64) (by decide) (by decide) (by decide) (Nat.le_of_ble_eq_true rfl) (Nat.le_of_ble_eq_true rfl) d_Mod_init_152 (fun H hz hP hS => ?_)
  have hP := hc_drop hP (by rw [hc_un (by omega), hc_un (by omega)]; exact he 45 (by omega))
  refine hc_putF (ty := .array .int) (C := R_Mod) (T := F_Mod) (N := 27) hx hb hts i_Mod t_Mod t_Mod_ok n_Mod hown hK hP hAz hS 20 0 Nat.one_pos (by rw [hz] <;> (try simp only [hx_ad, hx_off]) <;> (try omega)) hc_us rfl 25 (by decide) (hts _ k_471) (fun _ h9 => h9) rfl hin rfl (by decide +kernel) rfl rfl (Nat.le_of_ble_eq_true rfl) d_Mod_init_154 (fun H locs hz2 hP hS => ?_)
  have hz := hz2.trans hz
  have hP := hc_over hP
  have hP : hc_P D n z (hc_u _ 20 0 (.inr (5, [.int 0, .int 0, .ref (hx_ad z n 22 0), .ref (hx_ad z n 23 0), .ref (hx_ad z n 24 0), .ref (hx_ad z n 25 0), .ref (hx_ad z n 26 0), .ref (hx_ad z n 27 0), .ref (hx_ad z n 28 0), .ref (hx_ad z n 29 0), .ref (hx_ad z n 30 0), .ref (hx_ad z n 31 0), .int 0, .ref (hx_ad z n 33 0), .ref (hx_ad z n 34 0), .ref (hx_ad z n 35 0), .ref (hx_ad z n 36 0), .int 0, .int 0, .int 0, .ref (hx_ad z n 40 0), .ref (hx_ad z n 41 0), .ref (hx_ad z n 42 0), .ref (hx_ad z n 43 0), .ref (hx_ad z n 44 0), .ref (hx_ad z n 45 0), .null]))) H := hP
  refine lv_aload_n hx hb d_Mod_init_157 rfl (lv_at hl 0 rfl) ?_
  refine lv_bipush (v := 64) hx hb d_Mod_init_158 (by decide) ?_
  refine hc_newi hx hb (hts _ k_114) hK hP hS 46 0 0 rfl Nat.one_pos (by rw [hz] <;> (try simp only [hx_ad, hx_off]) <;> (try omega)) (N' := 64) (by decide) (by decide) (by decide) (Nat.le_of_ble_eq_true rfl) (Nat.le_of_ble_eq_true rfl) d_Mod_init_160 (fun H hz hP hS => ?_)
  have hP := hc_drop hP (by rw [hc_un (by omega), hc_un (by omega)]; exact he 46 (by omega))
  refine hc_putF (ty := .array .int) (C := R_Mod) (T := F_Mod) (N := 27) hx hb hts i_Mod t_Mod t_Mod_ok n_Mod hown hK hP hAz hS 20 0 Nat.one_pos (by rw [hz] <;> (try simp only [hx_ad, hx_off]) <;> (try omega)) hc_us rfl 26 (by decide) (hts _ k_472) (fun _ h9 => h9) rfl hin rfl (by decide +kernel) rfl rfl (Nat.le_of_ble_eq_true rfl) d_Mod_init_162 (fun H locs hz2 hP hS => ?_)
  have hz := hz2.trans hz
  have hP := hc_over hP
  have hP : hc_P D n z (hc_u _ 20 0 (.inr (5, [.int 0, .int 0, .ref (hx_ad z n 22 0), .ref (hx_ad z n 23 0), .ref (hx_ad z n 24 0), .ref (hx_ad z n 25 0), .ref (hx_ad z n 26 0), .ref (hx_ad z n 27 0), .ref (hx_ad z n 28 0), .ref (hx_ad z n 29 0), .ref (hx_ad z n 30 0), .ref (hx_ad z n 31 0), .int 0, .ref (hx_ad z n 33 0), .ref (hx_ad z n 34 0), .ref (hx_ad z n 35 0), .ref (hx_ad z n 36 0), .int 0, .int 0, .int 0, .ref (hx_ad z n 40 0), .ref (hx_ad z n 41 0), .ref (hx_ad z n 42 0), .ref (hx_ad z n 43 0), .ref (hx_ad z n 44 0), .ref (hx_ad z n 45 0), .ref (hx_ad z n 46 0)]))) H := hP
  refine lv_aload_n hx hb d_Mod_init_165 rfl (lv_at hl 0 rfl) ?_
  refine lv_iload_n hx hb d_Mod_init_166 rfl (lv_at hl 1 rfl) ?_
  refine lv_iconst (v := 2) hx hb d_Mod_init_167 (by decide) ?_
  refine lv_icmp_ge (tgt := 175) hx hb d_Mod_init_168 (by decide) (fun h1 => ?_) (fun h1 => ?_)
  · refine lv_iload_n hx hb d_Mod_init_175 rfl (lv_at hl 1 rfl) ?_
    refine lv_iconst (v := 4) hx hb d_Mod_init_176 (by decide) ?_
    refine lv_icmp_le (tgt := 184) hx hb d_Mod_init_177 (by decide) (fun h2 => ?_) (fun h2 => ?_)
    · refine lv_iload_n hx hb d_Mod_init_184 rfl (lv_at hl 1 rfl) ?_
      refine lv_topi (fun xco exco => ?_)
      rw [show xco = co by rw [exco, ← hco, if_pos h1, if_pos h2]]
      refine hc_putF (ty := .int) (C := R_Mod) (T := F_Mod) (N := 27) hx hb hts i_Mod t_Mod t_Mod_ok n_Mod hown hK hP hAz hS 20 0 Nat.one_pos (by rw [hz] <;> (try simp only [hx_ad, hx_off]) <;> (try omega)) hc_us rfl 0 (by decide) (hts _ k_446) (fun _ h9 => h9) rfl hin rfl (by decide +kernel) rfl rfl (Nat.le_of_ble_eq_true rfl) d_Mod_init_185 (fun H locs hz2 hP hS => ?_)
      have hz := hz2.trans hz
      have hP := hc_over hP
      have hP : hc_P D n z (hc_u _ 20 0 (.inr (5, [.int co, .int 0, .ref (hx_ad z n 22 0), .ref (hx_ad z n 23 0), .ref (hx_ad z n 24 0), .ref (hx_ad z n 25 0), .ref (hx_ad z n 26 0), .ref (hx_ad z n 27 0), .ref (hx_ad z n 28 0), .ref (hx_ad z n 29 0), .ref (hx_ad z n 30 0), .ref (hx_ad z n 31 0), .int 0, .ref (hx_ad z n 33 0), .ref (hx_ad z n 34 0), .ref (hx_ad z n 35 0), .ref (hx_ad z n 36 0), .int 0, .int 0, .int 0, .ref (hx_ad z n 40 0), .ref (hx_ad z n 41 0), .ref (hx_ad z n 42 0), .ref (hx_ad z n 43 0), .ref (hx_ad z n 44 0), .ref (hx_ad z n 45 0), .ref (hx_ad z n 46 0)]))) H := hP
      refine lv_aload_n hx hb d_Mod_init_188 rfl (lv_at hl 0 rfl) ?_
      refine lv_iload_n hx hb d_Mod_init_189 rfl (lv_at hl 2 rfl) ?_
      refine lv_iconst (v := 1) hx hb d_Mod_init_190 (by decide) ?_
      refine lv_icmp_ge (tgt := 198) hx hb d_Mod_init_191 (by decide) (fun h3 => ?_) (fun h3 => ?_)
      · refine lv_iload_n hx hb d_Mod_init_198 rfl (lv_at hl 2 rfl) ?_
        refine lv_iconst (v := 3) hx hb d_Mod_init_199 (by decide) ?_
        refine lv_icmp_le (tgt := 207) hx hb d_Mod_init_200 (by decide) (fun h4 => ?_) (fun h4 => ?_)
        · refine lv_iload_n hx hb d_Mod_init_207 rfl (lv_at hl 2 rfl) ?_
          refine lv_topi (fun xmo exmo => ?_)
          rw [show xmo = mo by rw [exmo, ← hmo, if_pos h3, if_pos h4]]
          refine hc_putF (ty := .int) (C := R_Mod) (T := F_Mod) (N := 27) hx hb hts i_Mod t_Mod t_Mod_ok n_Mod hown hK hP hAz hS 20 0 Nat.one_pos (by rw [hz] <;> (try simp only [hx_ad, hx_off]) <;> (try omega)) hc_us rfl 1 (by decide) (hts _ k_447) (fun _ h9 => h9) rfl hin rfl (by decide +kernel) rfl rfl (Nat.le_of_ble_eq_true rfl) d_Mod_init_208 (fun H locs hz2 hP hS => ?_)
          have hz := hz2.trans hz
          have hP := hc_over hP
          have hP : hc_P D n z (hc_u _ 20 0 (.inr (5, [.int co, .int mo, .ref (hx_ad z n 22 0), .ref (hx_ad z n 23 0), .ref (hx_ad z n 24 0), .ref (hx_ad z n 25 0), .ref (hx_ad z n 26 0), .ref (hx_ad z n 27 0), .ref (hx_ad z n 28 0), .ref (hx_ad z n 29 0), .ref (hx_ad z n 30 0), .ref (hx_ad z n 31 0), .int 0, .ref (hx_ad z n 33 0), .ref (hx_ad z n 34 0), .ref (hx_ad z n 35 0), .ref (hx_ad z n 36 0), .int 0, .int 0, .int 0, .ref (hx_ad z n 40 0), .ref (hx_ad z n 41 0), .ref (hx_ad z n 42 0), .ref (hx_ad z n 43 0), .ref (hx_ad z n 44 0), .ref (hx_ad z n 45 0), .ref (hx_ad z n 46 0)]))) H := hP
          refine lv_iconst (v := 0) hx hb d_Mod_init_211 (by decide) ?_
          refine lv_istore_n (lv' := [(3, .int 0), (0, .ref (hx_ad z n 20 0)), (1, .int c_), (2, .int l_)]) hx hb d_Mod_init_212 rfl hl (by decide) rfl (fun ls hl => ?_)
          have hP := hc_drop hP ((hc_un (by omega)).trans (he 20 (by omega)))
          exact loop213 5 0 (fun _ => 0) (by omega) (by omega) (fun q hq => absurd hq (Nat.not_lt_zero q)) _ _ _ (by rw [hz] <;> (try simp only [hx_ad, hx_off]) <;> (try omega)) hP hS (lv_sub hl [0, 1] rfl)
        · refine lv_iconst (v := 3) hx hb d_Mod_init_203 (by decide) ?_
          refine lv_goto (tgt := 208) hx hb d_Mod_init_204 (by decide) ?_
          refine lv_topi (fun xmo exmo => ?_)
          rw [show xmo = mo by rw [exmo, ← hmo, if_pos h3, if_neg h4]]
          refine hc_putF (ty := .int) (C := R_Mod) (T := F_Mod) (N := 27) hx hb hts i_Mod t_Mod t_Mod_ok n_Mod hown hK hP hAz hS 20 0 Nat.one_pos (by rw [hz] <;> (try simp only [hx_ad, hx_off]) <;> (try omega)) hc_us rfl 1 (by decide) (hts _ k_447) (fun _ h9 => h9) rfl hin rfl (by decide +kernel) rfl rfl (Nat.le_of_ble_eq_true rfl) d_Mod_init_208 (fun H locs hz2 hP hS => ?_)
          have hz := hz2.trans hz
          have hP := hc_over hP
          have hP : hc_P D n z (hc_u _ 20 0 (.inr (5, [.int co, .int mo, .ref (hx_ad z n 22 0), .ref (hx_ad z n 23 0), .ref (hx_ad z n 24 0), .ref (hx_ad z n 25 0), .ref (hx_ad z n 26 0), .ref (hx_ad z n 27 0), .ref (hx_ad z n 28 0), .ref (hx_ad z n 29 0), .ref (hx_ad z n 30 0), .ref (hx_ad z n 31 0), .int 0, .ref (hx_ad z n 33 0), .ref (hx_ad z n 34 0), .ref (hx_ad z n 35 0), .ref (hx_ad z n 36 0), .int 0, .int 0, .int 0, .ref (hx_ad z n 40 0), .ref (hx_ad z n 41 0), .ref (hx_ad z n 42 0), .ref (hx_ad z n 43 0), .ref (hx_ad z n 44 0), .ref (hx_ad z n 45 0), .ref (hx_ad z n 46 0)]))) H := hP
          refine lv_iconst (v := 0) hx hb d_Mod_init_211 (by decide) ?_
          refine lv_istore_n (lv' := [(3, .int 0), (0, .ref (hx_ad z n 20 0)), (1, .int c_), (2, .int l_)]) hx hb d_Mod_init_212 rfl hl (by decide) rfl (fun ls hl => ?_)
          have hP := hc_drop hP ((hc_un (by omega)).trans (he 20 (by omega)))
          exact loop213 5 0 (fun _ => 0) (by omega) (by omega) (fun q hq => absurd hq (Nat.not_lt_zero q)) _ _ _ (by rw [hz] <;> (try simp only [hx_ad, hx_off]) <;> (try omega)) hP hS (lv_sub hl [0, 1] rfl)
      · refine lv_iconst (v := 1) hx hb d_Mod_init_194 (by decide) ?_
        refine lv_goto (tgt := 208) hx hb d_Mod_init_195 (by decide) ?_
        refine lv_topi (fun xmo exmo => ?_)
        rw [show xmo = mo by rw [exmo, ← hmo, if_neg h3]]
        refine hc_putF (ty := .int) (C := R_Mod) (T := F_Mod) (N := 27) hx hb hts i_Mod t_Mod t_Mod_ok n_Mod hown hK hP hAz hS 20 0 Nat.one_pos (by rw [hz] <;> (try simp only [hx_ad, hx_off]) <;> (try omega)) hc_us rfl 1 (by decide) (hts _ k_447) (fun _ h9 => h9) rfl hin rfl (by decide +kernel) rfl rfl (Nat.le_of_ble_eq_true rfl) d_Mod_init_208 (fun H locs hz2 hP hS => ?_)
        have hz := hz2.trans hz
        have hP := hc_over hP
        have hP : hc_P D n z (hc_u _ 20 0 (.inr (5, [.int co, .int mo, .ref (hx_ad z n 22 0), .ref (hx_ad z n 23 0), .ref (hx_ad z n 24 0), .ref (hx_ad z n 25 0), .ref (hx_ad z n 26 0), .ref (hx_ad z n 27 0), .ref (hx_ad z n 28 0), .ref (hx_ad z n 29 0), .ref (hx_ad z n 30 0), .ref (hx_ad z n 31 0), .int 0, .ref (hx_ad z n 33 0), .ref (hx_ad z n 34 0), .ref (hx_ad z n 35 0), .ref (hx_ad z n 36 0), .int 0, .int 0, .int 0, .ref (hx_ad z n 40 0), .ref (hx_ad z n 41 0), .ref (hx_ad z n 42 0), .ref (hx_ad z n 43 0), .ref (hx_ad z n 44 0), .ref (hx_ad z n 45 0), .ref (hx_ad z n 46 0)]))) H := hP
        refine lv_iconst (v := 0) hx hb d_Mod_init_211 (by decide) ?_
        refine lv_istore_n (lv' := [(3, .int 0), (0, .ref (hx_ad z n 20 0)), (1, .int c_), (2, .int l_)]) hx hb d_Mod_init_212 rfl hl (by decide) rfl (fun ls hl => ?_)
        have hP := hc_drop hP ((hc_un (by omega)).trans (he 20 (by omega)))
        exact loop213 5 0 (fun _ => 0) (by omega) (by omega) (fun q hq => absurd hq (Nat.not_lt_zero q)) _ _ _ (by rw [hz] <;> (try simp only [hx_ad, hx_off]) <;> (try omega)) hP hS (lv_sub hl [0, 1] rfl)
    · refine lv_iconst (v := 4) hx hb d_Mod_init_180 (by decide) ?_
      refine lv_goto (tgt := 185) hx hb d_Mod_init_181 (by decide) ?_
      refine lv_topi (fun xco exco => ?_)
      rw [show xco = co by rw [exco, ← hco, if_pos h1, if_neg h2]]
      refine hc_putF (ty := .int) (C := R_Mod) (T := F_Mod) (N := 27) hx hb hts i_Mod t_Mod t_Mod_ok n_Mod hown hK hP hAz hS 20 0 Nat.one_pos (by rw [hz] <;> (try simp only [hx_ad, hx_off]) <;> (try omega)) hc_us rfl 0 (by decide) (hts _ k_446) (fun _ h9 => h9) rfl hin rfl (by decide +kernel) rfl rfl (Nat.le_of_ble_eq_true rfl) d_Mod_init_185 (fun H locs hz2 hP hS => ?_)
      have hz := hz2.trans hz
      have hP := hc_over hP
      have hP : hc_P D n z (hc_u _ 20 0 (.inr (5, [.int co, .int 0, .ref (hx_ad z n 22 0), .ref (hx_ad z n 23 0), .ref (hx_ad z n 24 0), .ref (hx_ad z n 25 0), .ref (hx_ad z n 26 0), .ref (hx_ad z n 27 0), .ref (hx_ad z n 28 0), .ref (hx_ad z n 29 0), .ref (hx_ad z n 30 0), .ref (hx_ad z n 31 0), .int 0, .ref (hx_ad z n 33 0), .ref (hx_ad z n 34 0), .ref (hx_ad z n 35 0), .ref (hx_ad z n 36 0), .int 0, .int 0, .int 0, .ref (hx_ad z n 40 0), .ref (hx_ad z n 41 0), .ref (hx_ad z n 42 0), .ref (hx_ad z n 43 0), .ref (hx_ad z n 44 0), .ref (hx_ad z n 45 0), .ref (hx_ad z n 46 0)]))) H := hP
      refine lv_aload_n hx hb d_Mod_init_188 rfl (lv_at hl 0 rfl) ?_
      refine lv_iload_n hx hb d_Mod_init_189 rfl (lv_at hl 2 rfl) ?_
      refine lv_iconst (v := 1) hx hb d_Mod_init_190 (by decide) ?_
      refine lv_icmp_ge (tgt := 198) hx hb d_Mod_init_191 (by decide) (fun h5 => ?_) (fun h5 => ?_)
      · refine lv_iload_n hx hb d_Mod_init_198 rfl (lv_at hl 2 rfl) ?_
        refine lv_iconst (v := 3) hx hb d_Mod_init_199 (by decide) ?_
        refine lv_icmp_le (tgt := 207) hx hb d_Mod_init_200 (by decide) (fun h6 => ?_) (fun h6 => ?_)
        · refine lv_iload_n hx hb d_Mod_init_207 rfl (lv_at hl 2 rfl) ?_
          refine lv_topi (fun xmo exmo => ?_)
          rw [show xmo = mo by rw [exmo, ← hmo, if_pos h5, if_pos h6]]
          refine hc_putF (ty := .int) (C := R_Mod) (T := F_Mod) (N := 27) hx hb hts i_Mod t_Mod t_Mod_ok n_Mod hown hK hP hAz hS 20 0 Nat.one_pos (by rw [hz] <;> (try simp only [hx_ad, hx_off]) <;> (try omega)) hc_us rfl 1 (by decide) (hts _ k_447) (fun _ h9 => h9) rfl hin rfl (by decide +kernel) rfl rfl (Nat.le_of_ble_eq_true rfl) d_Mod_init_208 (fun H locs hz2 hP hS => ?_)
          have hz := hz2.trans hz
          have hP := hc_over hP
          have hP : hc_P D n z (hc_u _ 20 0 (.inr (5, [.int co, .int mo, .ref (hx_ad z n 22 0), .ref (hx_ad z n 23 0), .ref (hx_ad z n 24 0), .ref (hx_ad z n 25 0), .ref (hx_ad z n 26 0), .ref (hx_ad z n 27 0), .ref (hx_ad z n 28 0), .ref (hx_ad z n 29 0), .ref (hx_ad z n 30 0), .ref (hx_ad z n 31 0), .int 0, .ref (hx_ad z n 33 0), .ref (hx_ad z n 34 0), .ref (hx_ad z n 35 0), .ref (hx_ad z n 36 0), .int 0, .int 0, .int 0, .ref (hx_ad z n 40 0), .ref (hx_ad z n 41 0), .ref (hx_ad z n 42 0), .ref (hx_ad z n 43 0), .ref (hx_ad z n 44 0), .ref (hx_ad z n 45 0), .ref (hx_ad z n 46 0)]))) H := hP
          refine lv_iconst (v := 0) hx hb d_Mod_init_211 (by decide) ?_
          refine lv_istore_n (lv' := [(3, .int 0), (0, .ref (hx_ad z n 20 0)), (1, .int c_), (2, .int l_)]) hx hb d_Mod_init_212 rfl hl (by decide) rfl (fun ls hl => ?_)
          have hP := hc_drop hP ((hc_un (by omega)).trans (he 20 (by omega)))
          exact loop213 5 0 (fun _ => 0) (by omega) (by omega) (fun q hq => absurd hq (Nat.not_lt_zero q)) _ _ _ (by rw [hz] <;> (try simp only [hx_ad, hx_off]) <;> (try omega)) hP hS (lv_sub hl [0, 1] rfl)
        · refine lv_iconst (v := 3) hx hb d_Mod_init_203 (by decide) ?_
          refine lv_goto (tgt := 208) hx hb d_Mod_init_204 (by decide) ?_
          refine lv_topi (fun xmo exmo => ?_)
          rw [show xmo = mo by rw [exmo, ← hmo, if_pos h5, if_neg h6]]
          refine hc_putF (ty := .int) (C := R_Mod) (T := F_Mod) (N := 27) hx hb hts i_Mod t_Mod t_Mod_ok n_Mod hown hK hP hAz hS 20 0 Nat.one_pos (by rw [hz] <;> (try simp only [hx_ad, hx_off]) <;> (try omega)) hc_us rfl 1 (by decide) (hts _ k_447) (fun _ h9 => h9) rfl hin rfl (by decide +kernel) rfl rfl (Nat.le_of_ble_eq_true rfl) d_Mod_init_208 (fun H locs hz2 hP hS => ?_)
          have hz := hz2.trans hz
          have hP := hc_over hP
          have hP : hc_P D n z (hc_u _ 20 0 (.inr (5, [.int co, .int mo, .ref (hx_ad z n 22 0), .ref (hx_ad z n 23 0), .ref (hx_ad z n 24 0), .ref (hx_ad z n 25 0), .ref (hx_ad z n 26 0), .ref (hx_ad z n 27 0), .ref (hx_ad z n 28 0), .ref (hx_ad z n 29 0), .ref (hx_ad z n 30 0), .ref (hx_ad z n 31 0), .int 0, .ref (hx_ad z n 33 0), .ref (hx_ad z n 34 0), .ref (hx_ad z n 35 0), .ref (hx_ad z n 36 0), .int 0, .int 0, .int 0, .ref (hx_ad z n 40 0), .ref (hx_ad z n 41 0), .ref (hx_ad z n 42 0), .ref (hx_ad z n 43 0), .ref (hx_ad z n 44 0), .ref (hx_ad z n 45 0), .ref (hx_ad z n 46 0)]))) H := hP
          refine lv_iconst (v := 0) hx hb d_Mod_init_211 (by decide) ?_
          refine lv_istore_n (lv' := [(3, .int 0), (0, .ref (hx_ad z n 20 0)), (1, .int c_), (2, .int l_)]) hx hb d_Mod_init_212 rfl hl (by decide) rfl (fun ls hl => ?_)
          have hP := hc_drop hP ((hc_un (by omega)).trans (he 20 (by omega)))
          exact loop213 5 0 (fun _ => 0) (by omega) (by omega) (fun q hq => absurd hq (Nat.not_lt_zero q)) _ _ _ (by rw [hz] <;> (try simp only [hx_ad, hx_off]) <;> (try omega)) hP hS (lv_sub hl [0, 1] rfl)
      · refine lv_iconst (v := 1) hx hb d_Mod_init_194 (by decide) ?_
        refine lv_goto (tgt := 208) hx hb d_Mod_init_195 (by decide) ?_
        refine lv_topi (fun xmo exmo => ?_)
        rw [show xmo = mo by rw [exmo, ← hmo, if_neg h5]]
        refine hc_putF (ty := .int) (C := R_Mod) (T := F_Mod) (N := 27) hx hb hts i_Mod t_Mod t_Mod_ok n_Mod hown hK hP hAz hS 20 0 Nat.one_pos (by rw [hz] <;> (try simp only [hx_ad, hx_off]) <;> (try omega)) hc_us rfl 1 (by decide) (hts _ k_447) (fun _ h9 => h9) rfl hin rfl (by decide +kernel) rfl rfl (Nat.le_of_ble_eq_true rfl) d_Mod_init_208 (fun H locs hz2 hP hS => ?_)
        have hz := hz2.trans hz
        have hP := hc_over hP
        have hP : hc_P D n z (hc_u _ 20 0 (.inr (5, [.int co, .int mo, .ref (hx_ad z n 22 0), .ref (hx_ad z n 23 0), .ref (hx_ad z n 24 0), .ref (hx_ad z n 25 0), .ref (hx_ad z n 26 0), .ref (hx_ad z n 27 0), .ref (hx_ad z n 28 0), .ref (hx_ad z n 29 0), .ref (hx_ad z n 30 0), .ref (hx_ad z n 31 0), .int 0, .ref (hx_ad z n 33 0), .ref (hx_ad z n 34 0), .ref (hx_ad z n 35 0), .ref (hx_ad z n 36 0), .int 0, .int 0, .int 0, .ref (hx_ad z n 40 0), .ref (hx_ad z n 41 0), .ref (hx_ad z n 42 0), .ref (hx_ad z n 43 0), .ref (hx_ad z n 44 0), .ref (hx_ad z n 45 0), .ref (hx_ad z n 46 0)]))) H := hP
        refine lv_iconst (v := 0) hx hb d_Mod_init_211 (by decide) ?_
        refine lv_istore_n (lv' := [(3, .int 0), (0, .ref (hx_ad z n 20 0)), (1, .int c_), (2, .int l_)]) hx hb d_Mod_init_212 rfl hl (by decide) rfl (fun ls hl => ?_)
        have hP := hc_drop hP ((hc_un (by omega)).trans (he 20 (by omega)))
        exact loop213 5 0 (fun _ => 0) (by omega) (by omega) (fun q hq => absurd hq (Nat.not_lt_zero q)) _ _ _ (by rw [hz] <;> (try simp only [hx_ad, hx_off]) <;> (try omega)) hP hS (lv_sub hl [0, 1] rfl)
  · refine lv_iconst (v := 2) hx hb d_Mod_init_171 (by decide) ?_
    refine lv_goto (tgt := 185) hx hb d_Mod_init_172 (by decide) ?_
    refine lv_topi (fun xco exco => ?_)
    rw [show xco = co by rw [exco, ← hco, if_neg h1]]
    refine hc_putF (ty := .int) (C := R_Mod) (T := F_Mod) (N := 27) hx hb hts i_Mod t_Mod t_Mod_ok n_Mod hown hK hP hAz hS 20 0 Nat.one_pos (by rw [hz] <;> (try simp only [hx_ad, hx_off]) <;> (try omega)) hc_us rfl 0 (by decide) (hts _ k_446) (fun _ h9 => h9) rfl hin rfl (by decide +kernel) rfl rfl (Nat.le_of_ble_eq_true rfl) d_Mod_init_185 (fun H locs hz2 hP hS => ?_)
    have hz := hz2.trans hz
    have hP := hc_over hP
    have hP : hc_P D n z (hc_u _ 20 0 (.inr (5, [.int co, .int 0, .ref (hx_ad z n 22 0), .ref (hx_ad z n 23 0), .ref (hx_ad z n 24 0), .ref (hx_ad z n 25 0), .ref (hx_ad z n 26 0), .ref (hx_ad z n 27 0), .ref (hx_ad z n 28 0), .ref (hx_ad z n 29 0), .ref (hx_ad z n 30 0), .ref (hx_ad z n 31 0), .int 0, .ref (hx_ad z n 33 0), .ref (hx_ad z n 34 0), .ref (hx_ad z n 35 0), .ref (hx_ad z n 36 0), .int 0, .int 0, .int 0, .ref (hx_ad z n 40 0), .ref (hx_ad z n 41 0), .ref (hx_ad z n 42 0), .ref (hx_ad z n 43 0), .ref (hx_ad z n 44 0), .ref (hx_ad z n 45 0), .ref (hx_ad z n 46 0)]))) H := hP
    refine lv_aload_n hx hb d_Mod_init_188 rfl (lv_at hl 0 rfl) ?_
    refine lv_iload_n hx hb d_Mod_init_189 rfl (lv_at hl 2 rfl) ?_
    refine lv_iconst (v := 1) hx hb d_Mod_init_190 (by decide) ?_
    refine lv_icmp_ge (tgt := 198) hx hb d_Mod_init_191 (by decide) (fun h7 => ?_) (fun h7 => ?_)
    · refine lv_iload_n hx hb d_Mod_init_198 rfl (lv_at hl 2 rfl) ?_
      refine lv_iconst (v := 3) hx hb d_Mod_init_199 (by decide) ?_
      refine lv_icmp_le (tgt := 207) hx hb d_Mod_init_200 (by decide) (fun h8 => ?_) (fun h8 => ?_)
      · refine lv_iload_n hx hb d_Mod_init_207 rfl (lv_at hl 2 rfl) ?_
        refine lv_topi (fun xmo exmo => ?_)
        rw [show xmo = mo by rw [exmo, ← hmo, if_pos h7, if_pos h8]]
        refine hc_putF (ty := .int) (C := R_Mod) (T := F_Mod) (N := 27) hx hb hts i_Mod t_Mod t_Mod_ok n_Mod hown hK hP hAz hS 20 0 Nat.one_pos (by rw [hz] <;> (try simp only [hx_ad, hx_off]) <;> (try omega)) hc_us rfl 1 (by decide) (hts _ k_447) (fun _ h9 => h9) rfl hin rfl (by decide +kernel) rfl rfl (Nat.le_of_ble_eq_true rfl) d_Mod_init_208 (fun H locs hz2 hP hS => ?_)
        have hz := hz2.trans hz
        have hP := hc_over hP
        have hP : hc_P D n z (hc_u _ 20 0 (.inr (5, [.int co, .int mo, .ref (hx_ad z n 22 0), .ref (hx_ad z n 23 0), .ref (hx_ad z n 24 0), .ref (hx_ad z n 25 0), .ref (hx_ad z n 26 0), .ref (hx_ad z n 27 0), .ref (hx_ad z n 28 0), .ref (hx_ad z n 29 0), .ref (hx_ad z n 30 0), .ref (hx_ad z n 31 0), .int 0, .ref (hx_ad z n 33 0), .ref (hx_ad z n 34 0), .ref (hx_ad z n 35 0), .ref (hx_ad z n 36 0), .int 0, .int 0, .int 0, .ref (hx_ad z n 40 0), .ref (hx_ad z n 41 0), .ref (hx_ad z n 42 0), .ref (hx_ad z n 43 0), .ref (hx_ad z n 44 0), .ref (hx_ad z n 45 0), .ref (hx_ad z n 46 0)]))) H := hP
        refine lv_iconst (v := 0) hx hb d_Mod_init_211 (by decide) ?_
        refine lv_istore_n (lv' := [(3, .int 0), (0, .ref (hx_ad z n 20 0)), (1, .int c_), (2, .int l_)]) hx hb d_Mod_init_212 rfl hl (by decide) rfl (fun ls hl => ?_)
        have hP := hc_drop hP ((hc_un (by omega)).trans (he 20 (by omega)))
        exact loop213 5 0 (fun _ => 0) (by omega) (by omega) (fun q hq => absurd hq (Nat.not_lt_zero q)) _ _ _ (by rw [hz] <;> (try simp only [hx_ad, hx_off]) <;> (try omega)) hP hS (lv_sub hl [0, 1] rfl)
      · refine lv_iconst (v := 3) hx hb d_Mod_init_203 (by decide) ?_
        refine lv_goto (tgt := 208) hx hb d_Mod_init_204 (by decide) ?_
        refine lv_topi (fun xmo exmo => ?_)
        rw [show xmo = mo by rw [exmo, ← hmo, if_pos h7, if_neg h8]]
        refine hc_putF (ty := .int) (C := R_Mod) (T := F_Mod) (N := 27) hx hb hts i_Mod t_Mod t_Mod_ok n_Mod hown hK hP hAz hS 20 0 Nat.one_pos (by rw [hz] <;> (try simp only [hx_ad, hx_off]) <;> (try omega)) hc_us rfl 1 (by decide) (hts _ k_447) (fun _ h9 => h9) rfl hin rfl (by decide +kernel) rfl rfl (Nat.le_of_ble_eq_true rfl) d_Mod_init_208 (fun H locs hz2 hP hS => ?_)
        have hz := hz2.trans hz
        have hP := hc_over hP
        have hP : hc_P D n z (hc_u _ 20 0 (.inr (5, [.int co, .int mo, .ref (hx_ad z n 22 0), .ref (hx_ad z n 23 0), .ref (hx_ad z n 24 0), .ref (hx_ad z n 25 0), .ref (hx_ad z n 26 0), .ref (hx_ad z n 27 0), .ref (hx_ad z n 28 0), .ref (hx_ad z n 29 0), .ref (hx_ad z n 30 0), .ref (hx_ad z n 31 0), .int 0, .ref (hx_ad z n 33 0), .ref (hx_ad z n 34 0), .ref (hx_ad z n 35 0), .ref (hx_ad z n 36 0), .int 0, .int 0, .int 0, .ref (hx_ad z n 40 0), .ref (hx_ad z n 41 0), .ref (hx_ad z n 42 0), .ref (hx_ad z n 43 0), .ref (hx_ad z n 44 0), .ref (hx_ad z n 45 0), .ref (hx_ad z n 46 0)]))) H := hP
        refine lv_iconst (v := 0) hx hb d_Mod_init_211 (by decide) ?_
        refine lv_istore_n (lv' := [(3, .int 0), (0, .ref (hx_ad z n 20 0)), (1, .int c_), (2, .int l_)]) hx hb d_Mod_init_212 rfl hl (by decide) rfl (fun ls hl => ?_)
        have hP := hc_drop hP ((hc_un (by omega)).trans (he 20 (by omega)))
        exact loop213 5 0 (fun _ => 0) (by omega) (by omega) (fun q hq => absurd hq (Nat.not_lt_zero q)) _ _ _ (by rw [hz] <;> (try simp only [hx_ad, hx_off]) <;> (try omega)) hP hS (lv_sub hl [0, 1] rfl)
    · refine lv_iconst (v := 1) hx hb d_Mod_init_194 (by decide) ?_
      refine lv_goto (tgt := 208) hx hb d_Mod_init_195 (by decide) ?_
      refine lv_topi (fun xmo exmo => ?_)
      rw [show xmo = mo by rw [exmo, ← hmo, if_neg h7]]
      refine hc_putF (ty := .int) (C := R_Mod) (T := F_Mod) (N := 27) hx hb hts i_Mod t_Mod t_Mod_ok n_Mod hown hK hP hAz hS 20 0 Nat.one_pos (by rw [hz] <;> (try simp only [hx_ad, hx_off]) <;> (try omega)) hc_us rfl 1 (by decide) (hts _ k_447) (fun _ h9 => h9) rfl hin rfl (by decide +kernel) rfl rfl (Nat.le_of_ble_eq_true rfl) d_Mod_init_208 (fun H locs hz2 hP hS => ?_)
      have hz := hz2.trans hz
      have hP := hc_over hP
      have hP : hc_P D n z (hc_u _ 20 0 (.inr (5, [.int co, .int mo, .ref (hx_ad z n 22 0), .ref (hx_ad z n 23 0), .ref (hx_ad z n 24 0), .ref (hx_ad z n 25 0), .ref (hx_ad z n 26 0), .ref (hx_ad z n 27 0), .ref (hx_ad z n 28 0), .ref (hx_ad z n 29 0), .ref (hx_ad z n 30 0), .ref (hx_ad z n 31 0), .int 0, .ref (hx_ad z n 33 0), .ref (hx_ad z n 34 0), .ref (hx_ad z n 35 0), .ref (hx_ad z n 36 0), .int 0, .int 0, .int 0, .ref (hx_ad z n 40 0), .ref (hx_ad z n 41 0), .ref (hx_ad z n 42 0), .ref (hx_ad z n 43 0), .ref (hx_ad z n 44 0), .ref (hx_ad z n 45 0), .ref (hx_ad z n 46 0)]))) H := hP
      refine lv_iconst (v := 0) hx hb d_Mod_init_211 (by decide) ?_
      refine lv_istore_n (lv' := [(3, .int 0), (0, .ref (hx_ad z n 20 0)), (1, .int c_), (2, .int l_)]) hx hb d_Mod_init_212 rfl hl (by decide) rfl (fun ls hl => ?_)
      have hP := hc_drop hP ((hc_un (by omega)).trans (he 20 (by omega)))
      exact loop213 5 0 (fun _ => 0) (by omega) (by omega) (fun q hq => absurd hq (Nat.not_lt_zero q)) _ _ _ (by rw [hz] <;> (try simp only [hx_ad, hx_off]) <;> (try omega)) hP hS (lv_sub hl [0, 1] rfl)
