def f_Mod_code (core_ : Int32) (op_ : Int32) (x_ : Int32) (v : hd_V) : Int32 × hd_V :=
  if (f_Mod_isCore core_ v) = 0 then
    (0, v)
  else
    if op_ < 0 then
      (0, v)
    else
      if 5 < op_ then
        (0, v)
      else
        if (f_Mod_access op_) = 0 then
          if op_ = 3 then
            if x_ < 0 then
              (0, v)
            else
              if 15 < x_ then
                (0, v)
              else
                if (v 25 0 core_.toNatClampNeg) = 16 then
                  (0, v)
                else
                  let v13 := hd_u v 23 0 ((16 * core_) + (v 25 0 core_.toNatClampNeg)).toNatClampNeg op_
                  let v14 := hd_u v13 24 0 ((16 * core_) + (v13 25 0 core_.toNatClampNeg)).toNatClampNeg x_
                  let v15 := hd_u v14 25 0 core_.toNatClampNeg ((v14 25 0 core_.toNatClampNeg) + 1)
                  (1, v15)
          else
            if (v 25 0 core_.toNatClampNeg) = 16 then
              (0, v)
            else
              let v7 := hd_u v 23 0 ((16 * core_) + (v 25 0 core_.toNatClampNeg)).toNatClampNeg op_
              let v8 := hd_u v7 24 0 ((16 * core_) + (v7 25 0 core_.toNatClampNeg)).toNatClampNeg x_
              let v9 := hd_u v8 25 0 core_.toNatClampNeg ((v8 25 0 core_.toNatClampNeg) + 1)
              (1, v9)
        else
          if (f_Mod_isBlock x_) = 0 then
            (0, v)
          else
            if op_ = 3 then
              if x_ < 0 then
                (0, v)
              else
                if 15 < x_ then
                  (0, v)
                else
                  if (v 25 0 core_.toNatClampNeg) = 16 then
                    (0, v)
                  else
                    let v25 := hd_u v 23 0 ((16 * core_) + (v 25 0 core_.toNatClampNeg)).toNatClampNeg op_
                    let v26 := hd_u v25 24 0 ((16 * core_) + (v25 25 0 core_.toNatClampNeg)).toNatClampNeg x_
                    let v27 := hd_u v26 25 0 core_.toNatClampNeg ((v26 25 0 core_.toNatClampNeg) + 1)
                    (1, v27)
            else
              if (v 25 0 core_.toNatClampNeg) = 16 then
                (0, v)
              else
                let v19 := hd_u v 23 0 ((16 * core_) + (v 25 0 core_.toNatClampNeg)).toNatClampNeg op_
                let v20 := hd_u v19 24 0 ((16 * core_) + (v19 25 0 core_.toNatClampNeg)).toNatClampNeg x_
                let v21 := hd_u v20 25 0 core_.toNatClampNeg ((v20 25 0 core_.toNatClampNeg) + 1)
                (1, v21)
set_option maxHeartbeats 4000000 in
set_option maxRecDepth 100000 in
theorem c_Mod_code (l : Launch) {D : va_G} {cI cZ cM cC : ClassId} {n : Nat} {ad : Nat → Nat → Nat} (hJ : hd_J (hx_L n) ad) (core_ : Int32) (op_ : Int32) (x_ : Int32) (v : hd_V) (hmn : (v 20 0 0).toInt ≤ 4) (hsz : ∀ c, c < 4 → 0 ≤ (v 25 0 c).toInt ∧ (v 25 0 c).toInt ≤ 16) : Met l y_Mod_code w_Mod_code { frames := 1, cells := 0, slots := 0, locals := 21 } (va_Pc [.ref (ad 20 0), .int core_, .int op_, .int x_] (hx_B D cI cZ cM cC n ad v)) (va_Qi (fun r u => r = (f_Mod_code core_ op_ x_ v).1 ∧ u = (f_Mod_code core_ op_ x_ v).2) (fun u => hx_B D cI cZ cM cC n ad u) (hx_A n ad)) 0 0 (hx_A n ad) := by
  refine Met.ofW (cc := b_Mod_code) (maxL := 4) (ret := (some .boolean)) (by decide) rfl ?_
  intro p e s m args below meth c s₁ B hml hv
  obtain ⟨rfl, hP, hK, hN⟩ := hv
  have hx := B.exec
  have hb := B.bytes
  have hr := B.returns
  have hlk := B.notSynchronized
  have hts0 := atoms_spec (ws := w_Mod_code) B.pre
  have hts := fun w (hw : w ∈ lw_g) => hts0 w (List.mem_cons_of_mem _ hw)
  have hown : s.vm.findClass R_Mod = some m.cls := findClass_of_methodNamed B.named
  have hA : ∀ q, hx_A n ad q → hx_A n ad q := fun _ h => h
  have hS : va_S (hx_A n ad) s.heap s.heap [] := va_S.rf
  have hl := lv_entry ([.ref (ad 20 0), .int core_, .int op_, .int x_]) (n := 4) (Nat.le_of_ble_eq_true rfl)
  rw [lg_entry_eq]
  generalize (lg_sl ([.ref (ad 20 0), .int core_, .int op_, .int x_]) ++ List.replicate (4 - (lg_sl ([.ref (ad 20 0), .int core_, .int op_, .int x_])).length) Slot.unset).toArray = ls at hl ⊢
  have hl : lv_has ls 4 [(0, .ref (ad 20 0)), (1, .int core_), (2, .int op_), (3, .int x_)] := hl
  refine lv_aload_n hx hb d_Mod_code_0 rfl (lv_at hl 0 rfl) ?_
  refine lv_iload_n hx hb d_Mod_code_1 rfl (lv_at hl 1 rfl) ?_
  refine hd_cI hK (va_runV (As := [.int core_]) (rest := []) ⟨hx, hb, hml, hown, hts⟩ (c_Mod_isCore l hJ core_ v ) (cwV 1 hts (hd_gV g_Mod_isCore k_533 k_535 s_25 k_8) rfl rfl rfl (by decide +kernel) ⟨Nat.le_of_ble_eq_true rfl, Nat.le_of_ble_eq_true rfl⟩) (hd_preV hK hN hP 20 0 Nat.one_pos rfl rfl [.int core_]) rfl rfl hl.1 rfl (lv_room (Nat.le_of_ble_eq_true rfl)) d_Mod_code_2 ⟨Nat.zero_le _, Nat.zero_le _⟩) hS hA (fun H locs hP hS => ?_)
  refine lv_if_eq (tgt := 57) hx hb d_Mod_code_5 (by decide) (fun h1 => ?_) (fun h1 => ?_)
  · refine lv_iconst (v := 0) hx hb d_Mod_code_57 (by decide) ?_
    exact hd_zret hx hb hr hlk hK hN hP hS d_Mod_code_58 rfl ⟨by simp only [f_Mod_code]; rw [if_pos h1], by simp only [f_Mod_code]; rw [if_pos h1]⟩
  · have hmch1 := in_Mod_isCore hmn h1
    refine lv_iload_n hx hb d_Mod_code_8 rfl (lv_at hl 2 rfl) ?_
    refine lv_if_lt (tgt := 57) hx hb d_Mod_code_9 (by decide) (fun h2 => ?_) (fun h2 => ?_)
    · refine lv_iconst (v := 0) hx hb d_Mod_code_57 (by decide) ?_
      exact hd_zret hx hb hr hlk hK hN hP hS d_Mod_code_58 rfl ⟨by simp only [f_Mod_code]; rw [if_neg h1, if_pos h2], by simp only [f_Mod_code]; rw [if_neg h1, if_pos h2]⟩
    · refine lv_iload_n hx hb d_Mod_code_12 rfl (lv_at hl 2 rfl) ?_
      refine lv_iconst (v := 5) hx hb d_Mod_code_13 (by decide) ?_
      refine lv_icmp_gt (tgt := 57) hx hb d_Mod_code_14 (by decide) (fun h3 => ?_) (fun h3 => ?_)
      · refine lv_iconst (v := 0) hx hb d_Mod_code_57 (by decide) ?_
        exact hd_zret hx hb hr hlk hK hN hP hS d_Mod_code_58 rfl ⟨by simp only [f_Mod_code]; rw [if_neg h1, if_neg h2, if_pos h3], by simp only [f_Mod_code]; rw [if_neg h1, if_neg h2, if_pos h3]⟩
      · refine lv_iload_n hx hb d_Mod_code_17 rfl (lv_at hl 2 rfl) ?_
        refine hd_cI hK (va_runS (As := [.int op_]) (rest := []) ⟨hx, hb, hml, hown, hts⟩ (c_Mod_access l hJ op_ v ) (va_cwS 1 hts (hd_gS g_Mod_access k_537 k_538 k_8) rfl rfl rfl (by decide +kernel) ⟨Nat.le_of_ble_eq_true rfl, Nat.le_of_ble_eq_true rfl⟩) (hd_preS hK hN hP [.int op_]) rfl rfl hl.1 rfl (lv_room (Nat.le_of_ble_eq_true rfl)) d_Mod_code_18 ⟨Nat.zero_le _, Nat.zero_le _⟩) hS hA (fun H locs hP hS => ?_)
        refine lv_if_eq (tgt := 31) hx hb d_Mod_code_21 (by decide) (fun h4 => ?_) (fun h4 => ?_)
        · refine lv_iload_n hx hb d_Mod_code_31 rfl (lv_at hl 2 rfl) ?_
          refine lv_iconst (v := 3) hx hb d_Mod_code_32 (by decide) ?_
          refine lv_icmp_ne (tgt := 46) hx hb d_Mod_code_33 (by decide) (fun h5 => ?_) (fun h5 => ?_)
          · refine lv_aload_n hx hb d_Mod_code_46 rfl (lv_at hl 0 rfl) ?_
            refine hd_get (C := R_Mod) (T := F_Mod) (N := 27) hx hb hts i_Mod hown hK hP 20 0 Nat.one_pos he_20 rfl 5 (by decide) (hts _ k_451) (fun _ h9 => h9) hv_20_5 d_Mod_code_47 ?_
            refine lv_iload_n hx hb d_Mod_code_50 rfl (lv_at hl 1 rfl) ?_
            refine hd_iald hx hb hK hP 25 0 0 Nat.one_pos rfl rfl hmch1 d_Mod_code_51 ?_
            refine lv_bipush (v := 16) hx hb d_Mod_code_52 (by decide) ?_
            refine lv_icmp_ne (tgt := 59) hx hb d_Mod_code_54 (by decide) (fun h6 => ?_) (fun h6 => ?_)
            · have hs16 : vp_in (v 25 0 core_.toNatClampNeg) 16 := hd_in6 (hsz _ (hd_lt hmch1)).1 (hsz _ (hd_lt hmch1)).2 h6
              refine lv_aload_n hx hb d_Mod_code_59 rfl (lv_at hl 0 rfl) ?_
              refine hd_get (C := R_Mod) (T := F_Mod) (N := 27) hx hb hts i_Mod hown hK hP 20 0 Nat.one_pos he_20 rfl 3 (by decide) (hts _ k_449) (fun _ h9 => h9) hv_20_3 d_Mod_code_60 ?_
              refine lv_bipush (v := 16) hx hb d_Mod_code_63 (by decide) ?_
              refine lv_iload_n hx hb d_Mod_code_65 rfl (lv_at hl 1 rfl) ?_
              refine lv_imul hx hb d_Mod_code_66 ?_
              refine lv_aload_n hx hb d_Mod_code_67 rfl (lv_at hl 0 rfl) ?_
              refine hd_get (C := R_Mod) (T := F_Mod) (N := 27) hx hb hts i_Mod hown hK hP 20 0 Nat.one_pos he_20 rfl 5 (by decide) (hts _ k_451) (fun _ h9 => h9) hv_20_5 d_Mod_code_68 ?_
              refine lv_iload_n hx hb d_Mod_code_71 rfl (lv_at hl 1 rfl) ?_
              refine hd_iald hx hb hK hP 25 0 0 Nat.one_pos rfl rfl hmch1 d_Mod_code_72 ?_
              refine lv_iadd hx hb d_Mod_code_73 ?_
              refine lv_iload_n hx hb d_Mod_code_74 rfl (lv_at hl 2 rfl) ?_
              refine hd_iast hx hb hK hP hJ hA hS 23 0 0 Nat.one_pos (fun _ => rfl) rfl (mod_16 hmch1 hs16) d_Mod_code_75 (fun H locs hP hS => ?_)
              refine lv_aload_n hx hb d_Mod_code_76 rfl (lv_at hl 0 rfl) ?_
              refine hd_get (C := R_Mod) (T := F_Mod) (N := 27) hx hb hts i_Mod hown hK hP 20 0 Nat.one_pos he_20 rfl 4 (by decide) (hts _ k_450) (fun _ h9 => h9) hv_20_4 d_Mod_code_77 ?_
              refine lv_bipush (v := 16) hx hb d_Mod_code_80 (by decide) ?_
              refine lv_iload_n hx hb d_Mod_code_82 rfl (lv_at hl 1 rfl) ?_
              refine lv_imul hx hb d_Mod_code_83 ?_
              refine lv_aload_n hx hb d_Mod_code_84 rfl (lv_at hl 0 rfl) ?_
              refine hd_get (C := R_Mod) (T := F_Mod) (N := 27) hx hb hts i_Mod hown hK hP 20 0 Nat.one_pos he_20 rfl 5 (by decide) (hts _ k_451) (fun _ h9 => h9) hv_20_5 d_Mod_code_85 ?_
              refine lv_iload_n hx hb d_Mod_code_88 rfl (lv_at hl 1 rfl) ?_
              refine hd_iald hx hb hK hP 25 0 0 Nat.one_pos rfl rfl hmch1 d_Mod_code_89 ?_
              refine lv_iadd hx hb d_Mod_code_90 ?_
              refine lv_iload_n hx hb d_Mod_code_91 rfl (lv_at hl 3 rfl) ?_
              refine hd_iast hx hb hK hP hJ hA hS 24 0 0 Nat.one_pos (fun _ => rfl) rfl (mod_16 hmch1 hs16) d_Mod_code_92 (fun H locs hP hS => ?_)
              refine lv_aload_n hx hb d_Mod_code_93 rfl (lv_at hl 0 rfl) ?_
              refine hd_get (C := R_Mod) (T := F_Mod) (N := 27) hx hb hts i_Mod hown hK hP 20 0 Nat.one_pos he_20 rfl 5 (by decide) (hts _ k_451) (fun _ h9 => h9) hv_20_5 d_Mod_code_94 ?_
              refine lv_iload_n hx hb d_Mod_code_97 rfl (lv_at hl 1 rfl) ?_
              refine lv_dup2_11 hx hb d_Mod_code_98 rfl rfl ?_
              refine hd_iald hx hb hK hP 25 0 0 Nat.one_pos rfl rfl hmch1 d_Mod_code_99 ?_
              refine lv_iconst (v := 1) hx hb d_Mod_code_100 (by decide) ?_
              refine lv_iadd hx hb d_Mod_code_101 ?_
              refine hd_iast hx hb hK hP hJ hA hS 25 0 0 Nat.one_pos (fun _ => rfl) rfl hmch1 d_Mod_code_102 (fun H locs hP hS => ?_)
              refine lv_iconst (v := 1) hx hb d_Mod_code_103 (by decide) ?_
              exact hd_zret hx hb hr hlk hK hN hP hS d_Mod_code_104 rfl ⟨by simp only [f_Mod_code]; rw [if_neg h1, if_neg h2, if_neg h3, if_pos h4, if_neg h5, if_neg h6], by simp only [f_Mod_code]; rw [if_neg h1, if_neg h2, if_neg h3, if_pos h4, if_neg h5, if_neg h6]⟩
            · refine lv_iconst (v := 0) hx hb d_Mod_code_57 (by decide) ?_
              exact hd_zret hx hb hr hlk hK hN hP hS d_Mod_code_58 rfl ⟨by simp only [f_Mod_code]; rw [if_neg h1, if_neg h2, if_neg h3, if_pos h4, if_neg h5, if_pos h6], by simp only [f_Mod_code]; rw [if_neg h1, if_neg h2, if_neg h3, if_pos h4, if_neg h5, if_pos h6]⟩
          · refine lv_iload_n hx hb d_Mod_code_36 rfl (lv_at hl 3 rfl) ?_
            refine lv_if_lt (tgt := 57) hx hb d_Mod_code_37 (by decide) (fun h10 => ?_) (fun h10 => ?_)
            · refine lv_iconst (v := 0) hx hb d_Mod_code_57 (by decide) ?_
              exact hd_zret hx hb hr hlk hK hN hP hS d_Mod_code_58 rfl ⟨by simp only [f_Mod_code]; rw [if_neg h1, if_neg h2, if_neg h3, if_pos h4, if_pos h5, if_pos h10], by simp only [f_Mod_code]; rw [if_neg h1, if_neg h2, if_neg h3, if_pos h4, if_pos h5, if_pos h10]⟩
            · refine lv_iload_n hx hb d_Mod_code_40 rfl (lv_at hl 3 rfl) ?_
              refine lv_bipush (v := 15) hx hb d_Mod_code_41 (by decide) ?_
              refine lv_icmp_gt (tgt := 57) hx hb d_Mod_code_43 (by decide) (fun h11 => ?_) (fun h11 => ?_)
              · refine lv_iconst (v := 0) hx hb d_Mod_code_57 (by decide) ?_
                exact hd_zret hx hb hr hlk hK hN hP hS d_Mod_code_58 rfl ⟨by simp only [f_Mod_code]; rw [if_neg h1, if_neg h2, if_neg h3, if_pos h4, if_pos h5, if_neg h10, if_pos h11], by simp only [f_Mod_code]; rw [if_neg h1, if_neg h2, if_neg h3, if_pos h4, if_pos h5, if_neg h10, if_pos h11]⟩
              · refine lv_aload_n hx hb d_Mod_code_46 rfl (lv_at hl 0 rfl) ?_
                refine hd_get (C := R_Mod) (T := F_Mod) (N := 27) hx hb hts i_Mod hown hK hP 20 0 Nat.one_pos he_20 rfl 5 (by decide) (hts _ k_451) (fun _ h9 => h9) hv_20_5 d_Mod_code_47 ?_
                refine lv_iload_n hx hb d_Mod_code_50 rfl (lv_at hl 1 rfl) ?_
                refine hd_iald hx hb hK hP 25 0 0 Nat.one_pos rfl rfl hmch1 d_Mod_code_51 ?_
                refine lv_bipush (v := 16) hx hb d_Mod_code_52 (by decide) ?_
                refine lv_icmp_ne (tgt := 59) hx hb d_Mod_code_54 (by decide) (fun h12 => ?_) (fun h12 => ?_)
                · have hs16 : vp_in (v 25 0 core_.toNatClampNeg) 16 := hd_in6 (hsz _ (hd_lt hmch1)).1 (hsz _ (hd_lt hmch1)).2 h12
                  refine lv_aload_n hx hb d_Mod_code_59 rfl (lv_at hl 0 rfl) ?_
                  refine hd_get (C := R_Mod) (T := F_Mod) (N := 27) hx hb hts i_Mod hown hK hP 20 0 Nat.one_pos he_20 rfl 3 (by decide) (hts _ k_449) (fun _ h9 => h9) hv_20_3 d_Mod_code_60 ?_
                  refine lv_bipush (v := 16) hx hb d_Mod_code_63 (by decide) ?_
                  refine lv_iload_n hx hb d_Mod_code_65 rfl (lv_at hl 1 rfl) ?_
                  refine lv_imul hx hb d_Mod_code_66 ?_
                  refine lv_aload_n hx hb d_Mod_code_67 rfl (lv_at hl 0 rfl) ?_
                  refine hd_get (C := R_Mod) (T := F_Mod) (N := 27) hx hb hts i_Mod hown hK hP 20 0 Nat.one_pos he_20 rfl 5 (by decide) (hts _ k_451) (fun _ h9 => h9) hv_20_5 d_Mod_code_68 ?_
                  refine lv_iload_n hx hb d_Mod_code_71 rfl (lv_at hl 1 rfl) ?_
                  refine hd_iald hx hb hK hP 25 0 0 Nat.one_pos rfl rfl hmch1 d_Mod_code_72 ?_
                  refine lv_iadd hx hb d_Mod_code_73 ?_
                  refine lv_iload_n hx hb d_Mod_code_74 rfl (lv_at hl 2 rfl) ?_
                  refine hd_iast hx hb hK hP hJ hA hS 23 0 0 Nat.one_pos (fun _ => rfl) rfl (mod_16 hmch1 hs16) d_Mod_code_75 (fun H locs hP hS => ?_)
                  refine lv_aload_n hx hb d_Mod_code_76 rfl (lv_at hl 0 rfl) ?_
                  refine hd_get (C := R_Mod) (T := F_Mod) (N := 27) hx hb hts i_Mod hown hK hP 20 0 Nat.one_pos he_20 rfl 4 (by decide) (hts _ k_450) (fun _ h9 => h9) hv_20_4 d_Mod_code_77 ?_
                  refine lv_bipush (v := 16) hx hb d_Mod_code_80 (by decide) ?_
                  refine lv_iload_n hx hb d_Mod_code_82 rfl (lv_at hl 1 rfl) ?_
                  refine lv_imul hx hb d_Mod_code_83 ?_
                  refine lv_aload_n hx hb d_Mod_code_84 rfl (lv_at hl 0 rfl) ?_
                  refine hd_get (C := R_Mod) (T := F_Mod) (N := 27) hx hb hts i_Mod hown hK hP 20 0 Nat.one_pos he_20 rfl 5 (by decide) (hts _ k_451) (fun _ h9 => h9) hv_20_5 d_Mod_code_85 ?_
                  refine lv_iload_n hx hb d_Mod_code_88 rfl (lv_at hl 1 rfl) ?_
                  refine hd_iald hx hb hK hP 25 0 0 Nat.one_pos rfl rfl hmch1 d_Mod_code_89 ?_
                  refine lv_iadd hx hb d_Mod_code_90 ?_
                  refine lv_iload_n hx hb d_Mod_code_91 rfl (lv_at hl 3 rfl) ?_
                  refine hd_iast hx hb hK hP hJ hA hS 24 0 0 Nat.one_pos (fun _ => rfl) rfl (mod_16 hmch1 hs16) d_Mod_code_92 (fun H locs hP hS => ?_)
                  refine lv_aload_n hx hb d_Mod_code_93 rfl (lv_at hl 0 rfl) ?_
                  refine hd_get (C := R_Mod) (T := F_Mod) (N := 27) hx hb hts i_Mod hown hK hP 20 0 Nat.one_pos he_20 rfl 5 (by decide) (hts _ k_451) (fun _ h9 => h9) hv_20_5 d_Mod_code_94 ?_
                  refine lv_iload_n hx hb d_Mod_code_97 rfl (lv_at hl 1 rfl) ?_
                  refine lv_dup2_11 hx hb d_Mod_code_98 rfl rfl ?_
                  refine hd_iald hx hb hK hP 25 0 0 Nat.one_pos rfl rfl hmch1 d_Mod_code_99 ?_
                  refine lv_iconst (v := 1) hx hb d_Mod_code_100 (by decide) ?_
                  refine lv_iadd hx hb d_Mod_code_101 ?_
                  refine hd_iast hx hb hK hP hJ hA hS 25 0 0 Nat.one_pos (fun _ => rfl) rfl hmch1 d_Mod_code_102 (fun H locs hP hS => ?_)
                  refine lv_iconst (v := 1) hx hb d_Mod_code_103 (by decide) ?_
                  exact hd_zret hx hb hr hlk hK hN hP hS d_Mod_code_104 rfl ⟨by simp only [f_Mod_code]; rw [if_neg h1, if_neg h2, if_neg h3, if_pos h4, if_pos h5, if_neg h10, if_neg h11, if_neg h12], by simp only [f_Mod_code]; rw [if_neg h1, if_neg h2, if_neg h3, if_pos h4, if_pos h5, if_neg h10, if_neg h11, if_neg h12]⟩
                · refine lv_iconst (v := 0) hx hb d_Mod_code_57 (by decide) ?_
                  exact hd_zret hx hb hr hlk hK hN hP hS d_Mod_code_58 rfl ⟨by simp only [f_Mod_code]; rw [if_neg h1, if_neg h2, if_neg h3, if_pos h4, if_pos h5, if_neg h10, if_neg h11, if_pos h12], by simp only [f_Mod_code]; rw [if_neg h1, if_neg h2, if_neg h3, if_pos h4, if_pos h5, if_neg h10, if_neg h11, if_pos h12]⟩
        · refine lv_iload_n hx hb d_Mod_code_24 rfl (lv_at hl 3 rfl) ?_
          refine hd_cI hK (va_runS (As := [.int x_]) (rest := []) ⟨hx, hb, hml, hown, hts⟩ (c_Mod_isBlock l hJ x_ v ) (va_cwS 1 hts (hd_gS g_Mod_isBlock k_540 k_541 k_8) rfl rfl rfl (by decide +kernel) ⟨Nat.le_of_ble_eq_true rfl, Nat.le_of_ble_eq_true rfl⟩) (hd_preS hK hN hP [.int x_]) rfl rfl hl.1 rfl (lv_room (Nat.le_of_ble_eq_true rfl)) d_Mod_code_25 ⟨Nat.zero_le _, Nat.zero_le _⟩) hS hA (fun H locs hP hS => ?_)
          refine lv_if_eq (tgt := 57) hx hb d_Mod_code_28 (by decide) (fun h16 => ?_) (fun h16 => ?_)
          · refine lv_iconst (v := 0) hx hb d_Mod_code_57 (by decide) ?_
            exact hd_zret hx hb hr hlk hK hN hP hS d_Mod_code_58 rfl ⟨by simp only [f_Mod_code]; rw [if_neg h1, if_neg h2, if_neg h3, if_neg h4, if_pos h16], by simp only [f_Mod_code]; rw [if_neg h1, if_neg h2, if_neg h3, if_neg h4, if_pos h16]⟩
          · have hbkh16 := in_Mod_isBlock h16
            refine lv_iload_n hx hb d_Mod_code_31 rfl (lv_at hl 2 rfl) ?_
            refine lv_iconst (v := 3) hx hb d_Mod_code_32 (by decide) ?_
            refine lv_icmp_ne (tgt := 46) hx hb d_Mod_code_33 (by decide) (fun h17 => ?_) (fun h17 => ?_)
            · refine lv_aload_n hx hb d_Mod_code_46 rfl (lv_at hl 0 rfl) ?_
              refine hd_get (C := R_Mod) (T := F_Mod) (N := 27) hx hb hts i_Mod hown hK hP 20 0 Nat.one_pos he_20 rfl 5 (by decide) (hts _ k_451) (fun _ h9 => h9) hv_20_5 d_Mod_code_47 ?_
              refine lv_iload_n hx hb d_Mod_code_50 rfl (lv_at hl 1 rfl) ?_
              refine hd_iald hx hb hK hP 25 0 0 Nat.one_pos rfl rfl hmch1 d_Mod_code_51 ?_
              refine lv_bipush (v := 16) hx hb d_Mod_code_52 (by decide) ?_
              refine lv_icmp_ne (tgt := 59) hx hb d_Mod_code_54 (by decide) (fun h18 => ?_) (fun h18 => ?_)
              · have hs16 : vp_in (v 25 0 core_.toNatClampNeg) 16 := hd_in6 (hsz _ (hd_lt hmch1)).1 (hsz _ (hd_lt hmch1)).2 h18
                refine lv_aload_n hx hb d_Mod_code_59 rfl (lv_at hl 0 rfl) ?_
                refine hd_get (C := R_Mod) (T := F_Mod) (N := 27) hx hb hts i_Mod hown hK hP 20 0 Nat.one_pos he_20 rfl 3 (by decide) (hts _ k_449) (fun _ h9 => h9) hv_20_3 d_Mod_code_60 ?_
                refine lv_bipush (v := 16) hx hb d_Mod_code_63 (by decide) ?_
                refine lv_iload_n hx hb d_Mod_code_65 rfl (lv_at hl 1 rfl) ?_
                refine lv_imul hx hb d_Mod_code_66 ?_
                refine lv_aload_n hx hb d_Mod_code_67 rfl (lv_at hl 0 rfl) ?_
                refine hd_get (C := R_Mod) (T := F_Mod) (N := 27) hx hb hts i_Mod hown hK hP 20 0 Nat.one_pos he_20 rfl 5 (by decide) (hts _ k_451) (fun _ h9 => h9) hv_20_5 d_Mod_code_68 ?_
                refine lv_iload_n hx hb d_Mod_code_71 rfl (lv_at hl 1 rfl) ?_
                refine hd_iald hx hb hK hP 25 0 0 Nat.one_pos rfl rfl hmch1 d_Mod_code_72 ?_
                refine lv_iadd hx hb d_Mod_code_73 ?_
                refine lv_iload_n hx hb d_Mod_code_74 rfl (lv_at hl 2 rfl) ?_
                refine hd_iast hx hb hK hP hJ hA hS 23 0 0 Nat.one_pos (fun _ => rfl) rfl (mod_16 hmch1 hs16) d_Mod_code_75 (fun H locs hP hS => ?_)
                refine lv_aload_n hx hb d_Mod_code_76 rfl (lv_at hl 0 rfl) ?_
                refine hd_get (C := R_Mod) (T := F_Mod) (N := 27) hx hb hts i_Mod hown hK hP 20 0 Nat.one_pos he_20 rfl 4 (by decide) (hts _ k_450) (fun _ h9 => h9) hv_20_4 d_Mod_code_77 ?_
                refine lv_bipush (v := 16) hx hb d_Mod_code_80 (by decide) ?_
                refine lv_iload_n hx hb d_Mod_code_82 rfl (lv_at hl 1 rfl) ?_
                refine lv_imul hx hb d_Mod_code_83 ?_
                refine lv_aload_n hx hb d_Mod_code_84 rfl (lv_at hl 0 rfl) ?_
                refine hd_get (C := R_Mod) (T := F_Mod) (N := 27) hx hb hts i_Mod hown hK hP 20 0 Nat.one_pos he_20 rfl 5 (by decide) (hts _ k_451) (fun _ h9 => h9) hv_20_5 d_Mod_code_85 ?_
                refine lv_iload_n hx hb d_Mod_code_88 rfl (lv_at hl 1 rfl) ?_
                refine hd_iald hx hb hK hP 25 0 0 Nat.one_pos rfl rfl hmch1 d_Mod_code_89 ?_
                refine lv_iadd hx hb d_Mod_code_90 ?_
                refine lv_iload_n hx hb d_Mod_code_91 rfl (lv_at hl 3 rfl) ?_
                refine hd_iast hx hb hK hP hJ hA hS 24 0 0 Nat.one_pos (fun _ => rfl) rfl (mod_16 hmch1 hs16) d_Mod_code_92 (fun H locs hP hS => ?_)
                refine lv_aload_n hx hb d_Mod_code_93 rfl (lv_at hl 0 rfl) ?_
                refine hd_get (C := R_Mod) (T := F_Mod) (N := 27) hx hb hts i_Mod hown hK hP 20 0 Nat.one_pos he_20 rfl 5 (by decide) (hts _ k_451) (fun _ h9 => h9) hv_20_5 d_Mod_code_94 ?_
                refine lv_iload_n hx hb d_Mod_code_97 rfl (lv_at hl 1 rfl) ?_
                refine lv_dup2_11 hx hb d_Mod_code_98 rfl rfl ?_
                refine hd_iald hx hb hK hP 25 0 0 Nat.one_pos rfl rfl hmch1 d_Mod_code_99 ?_
                refine lv_iconst (v := 1) hx hb d_Mod_code_100 (by decide) ?_
                refine lv_iadd hx hb d_Mod_code_101 ?_
                refine hd_iast hx hb hK hP hJ hA hS 25 0 0 Nat.one_pos (fun _ => rfl) rfl hmch1 d_Mod_code_102 (fun H locs hP hS => ?_)
                refine lv_iconst (v := 1) hx hb d_Mod_code_103 (by decide) ?_
                exact hd_zret hx hb hr hlk hK hN hP hS d_Mod_code_104 rfl ⟨by simp only [f_Mod_code]; rw [if_neg h1, if_neg h2, if_neg h3, if_neg h4, if_neg h16, if_neg h17, if_neg h18], by simp only [f_Mod_code]; rw [if_neg h1, if_neg h2, if_neg h3, if_neg h4, if_neg h16, if_neg h17, if_neg h18]⟩
              · refine lv_iconst (v := 0) hx hb d_Mod_code_57 (by decide) ?_
                exact hd_zret hx hb hr hlk hK hN hP hS d_Mod_code_58 rfl ⟨by simp only [f_Mod_code]; rw [if_neg h1, if_neg h2, if_neg h3, if_neg h4, if_neg h16, if_neg h17, if_pos h18], by simp only [f_Mod_code]; rw [if_neg h1, if_neg h2, if_neg h3, if_neg h4, if_neg h16, if_neg h17, if_pos h18]⟩
            · refine lv_iload_n hx hb d_Mod_code_36 rfl (lv_at hl 3 rfl) ?_
              refine lv_if_lt (tgt := 57) hx hb d_Mod_code_37 (by decide) (fun h22 => ?_) (fun h22 => ?_)
              · refine lv_iconst (v := 0) hx hb d_Mod_code_57 (by decide) ?_
                exact hd_zret hx hb hr hlk hK hN hP hS d_Mod_code_58 rfl ⟨by simp only [f_Mod_code]; rw [if_neg h1, if_neg h2, if_neg h3, if_neg h4, if_neg h16, if_pos h17, if_pos h22], by simp only [f_Mod_code]; rw [if_neg h1, if_neg h2, if_neg h3, if_neg h4, if_neg h16, if_pos h17, if_pos h22]⟩
              · refine lv_iload_n hx hb d_Mod_code_40 rfl (lv_at hl 3 rfl) ?_
                refine lv_bipush (v := 15) hx hb d_Mod_code_41 (by decide) ?_
                refine lv_icmp_gt (tgt := 57) hx hb d_Mod_code_43 (by decide) (fun h23 => ?_) (fun h23 => ?_)
                · refine lv_iconst (v := 0) hx hb d_Mod_code_57 (by decide) ?_
                  exact hd_zret hx hb hr hlk hK hN hP hS d_Mod_code_58 rfl ⟨by simp only [f_Mod_code]; rw [if_neg h1, if_neg h2, if_neg h3, if_neg h4, if_neg h16, if_pos h17, if_neg h22, if_pos h23], by simp only [f_Mod_code]; rw [if_neg h1, if_neg h2, if_neg h3, if_neg h4, if_neg h16, if_pos h17, if_neg h22, if_pos h23]⟩
                · refine lv_aload_n hx hb d_Mod_code_46 rfl (lv_at hl 0 rfl) ?_
                  refine hd_get (C := R_Mod) (T := F_Mod) (N := 27) hx hb hts i_Mod hown hK hP 20 0 Nat.one_pos he_20 rfl 5 (by decide) (hts _ k_451) (fun _ h9 => h9) hv_20_5 d_Mod_code_47 ?_
                  refine lv_iload_n hx hb d_Mod_code_50 rfl (lv_at hl 1 rfl) ?_
                  refine hd_iald hx hb hK hP 25 0 0 Nat.one_pos rfl rfl hmch1 d_Mod_code_51 ?_
                  refine lv_bipush (v := 16) hx hb d_Mod_code_52 (by decide) ?_
                  refine lv_icmp_ne (tgt := 59) hx hb d_Mod_code_54 (by decide) (fun h24 => ?_) (fun h24 => ?_)
                  · have hs16 : vp_in (v 25 0 core_.toNatClampNeg) 16 := hd_in6 (hsz _ (hd_lt hmch1)).1 (hsz _ (hd_lt hmch1)).2 h24
                    refine lv_aload_n hx hb d_Mod_code_59 rfl (lv_at hl 0 rfl) ?_
                    refine hd_get (C := R_Mod) (T := F_Mod) (N := 27) hx hb hts i_Mod hown hK hP 20 0 Nat.one_pos he_20 rfl 3 (by decide) (hts _ k_449) (fun _ h9 => h9) hv_20_3 d_Mod_code_60 ?_
                    refine lv_bipush (v := 16) hx hb d_Mod_code_63 (by decide) ?_
                    refine lv_iload_n hx hb d_Mod_code_65 rfl (lv_at hl 1 rfl) ?_
                    refine lv_imul hx hb d_Mod_code_66 ?_
                    refine lv_aload_n hx hb d_Mod_code_67 rfl (lv_at hl 0 rfl) ?_
                    refine hd_get (C := R_Mod) (T := F_Mod) (N := 27) hx hb hts i_Mod hown hK hP 20 0 Nat.one_pos he_20 rfl 5 (by decide) (hts _ k_451) (fun _ h9 => h9) hv_20_5 d_Mod_code_68 ?_
                    refine lv_iload_n hx hb d_Mod_code_71 rfl (lv_at hl 1 rfl) ?_
                    refine hd_iald hx hb hK hP 25 0 0 Nat.one_pos rfl rfl hmch1 d_Mod_code_72 ?_
                    refine lv_iadd hx hb d_Mod_code_73 ?_
                    refine lv_iload_n hx hb d_Mod_code_74 rfl (lv_at hl 2 rfl) ?_
                    refine hd_iast hx hb hK hP hJ hA hS 23 0 0 Nat.one_pos (fun _ => rfl) rfl (mod_16 hmch1 hs16) d_Mod_code_75 (fun H locs hP hS => ?_)
                    refine lv_aload_n hx hb d_Mod_code_76 rfl (lv_at hl 0 rfl) ?_
                    refine hd_get (C := R_Mod) (T := F_Mod) (N := 27) hx hb hts i_Mod hown hK hP 20 0 Nat.one_pos he_20 rfl 4 (by decide) (hts _ k_450) (fun _ h9 => h9) hv_20_4 d_Mod_code_77 ?_
                    refine lv_bipush (v := 16) hx hb d_Mod_code_80 (by decide) ?_
                    refine lv_iload_n hx hb d_Mod_code_82 rfl (lv_at hl 1 rfl) ?_
                    refine lv_imul hx hb d_Mod_code_83 ?_
                    refine lv_aload_n hx hb d_Mod_code_84 rfl (lv_at hl 0 rfl) ?_
                    refine hd_get (C := R_Mod) (T := F_Mod) (N := 27) hx hb hts i_Mod hown hK hP 20 0 Nat.one_pos he_20 rfl 5 (by decide) (hts _ k_451) (fun _ h9 => h9) hv_20_5 d_Mod_code_85 ?_
                    refine lv_iload_n hx hb d_Mod_code_88 rfl (lv_at hl 1 rfl) ?_
                    refine hd_iald hx hb hK hP 25 0 0 Nat.one_pos rfl rfl hmch1 d_Mod_code_89 ?_
                    refine lv_iadd hx hb d_Mod_code_90 ?_
                    refine lv_iload_n hx hb d_Mod_code_91 rfl (lv_at hl 3 rfl) ?_
                    refine hd_iast hx hb hK hP hJ hA hS 24 0 0 Nat.one_pos (fun _ => rfl) rfl (mod_16 hmch1 hs16) d_Mod_code_92 (fun H locs hP hS => ?_)
                    refine lv_aload_n hx hb d_Mod_code_93 rfl (lv_at hl 0 rfl) ?_
                    refine hd_get (C := R_Mod) (T := F_Mod) (N := 27) hx hb hts i_Mod hown hK hP 20 0 Nat.one_pos he_20 rfl 5 (by decide) (hts _ k_451) (fun _ h9 => h9) hv_20_5 d_Mod_code_94 ?_
                    refine lv_iload_n hx hb d_Mod_code_97 rfl (lv_at hl 1 rfl) ?_
                    refine lv_dup2_11 hx hb d_Mod_code_98 rfl rfl ?_
                    refine hd_iald hx hb hK hP 25 0 0 Nat.one_pos rfl rfl hmch1 d_Mod_code_99 ?_
                    refine lv_iconst (v := 1) hx hb d_Mod_code_100 (by decide) ?_
                    refine lv_iadd hx hb d_Mod_code_101 ?_
                    refine hd_iast hx hb hK hP hJ hA hS 25 0 0 Nat.one_pos (fun _ => rfl) rfl hmch1 d_Mod_code_102 (fun H locs hP hS => ?_)
                    refine lv_iconst (v := 1) hx hb d_Mod_code_103 (by decide) ?_
                    exact hd_zret hx hb hr hlk hK hN hP hS d_Mod_code_104 rfl ⟨by simp only [f_Mod_code]; rw [if_neg h1, if_neg h2, if_neg h3, if_neg h4, if_neg h16, if_pos h17, if_neg h22, if_neg h23, if_neg h24], by simp only [f_Mod_code]; rw [if_neg h1, if_neg h2, if_neg h3, if_neg h4, if_neg h16, if_pos h17, if_neg h22, if_neg h23, if_neg h24]⟩
                  · refine lv_iconst (v := 0) hx hb d_Mod_code_57 (by decide) ?_
                    exact hd_zret hx hb hr hlk hK hN hP hS d_Mod_code_58 rfl ⟨by simp only [f_Mod_code]; rw [if_neg h1, if_neg h2, if_neg h3, if_neg h4, if_neg h16, if_pos h17, if_neg h22, if_neg h23, if_pos h24], by simp only [f_Mod_code]; rw [if_neg h1, if_neg h2, if_neg h3, if_neg h4, if_neg h16, if_pos h17, if_neg h22, if_neg h23, if_pos h24]⟩
def f_Mod_plain (c_ : Int32) (op_ : Int32) (x_ : Int32) (v : hd_V) : Int32 × hd_V :=
  let x1 : Int32 := v 22 0 c_.toNatClampNeg
  if op_ = 2 then
    let v16 := hd_u v 22 0 c_.toNatClampNeg (x1 + x_)
    if op_ = 3 then
      if x1 = 0 then
        let v20 := hd_u v16 26 0 c_.toNatClampNeg ((v16 26 0 c_.toNatClampNeg) + 1)
        (1, v20)
      else
        let v21 := hd_u v16 26 0 c_.toNatClampNeg x_
        (1, v21)
    else
      let v18 := hd_u v16 26 0 c_.toNatClampNeg ((v16 26 0 c_.toNatClampNeg) + 1)
      (1, v18)
  else
    if op_ = 4 then
      let v10 := hd_u v 22 0 c_.toNatClampNeg x_
      if op_ = 3 then
        if x1 = 0 then
          let v14 := hd_u v10 26 0 c_.toNatClampNeg ((v10 26 0 c_.toNatClampNeg) + 1)
          (1, v14)
        else
          let v15 := hd_u v10 26 0 c_.toNatClampNeg x_
          (1, v15)
      else
        let v12 := hd_u v10 26 0 c_.toNatClampNeg ((v10 26 0 c_.toNatClampNeg) + 1)
        (1, v12)
    else
      let v4 := hd_u v 22 0 c_.toNatClampNeg x1
      if op_ = 3 then
        if x1 = 0 then
          let v8 := hd_u v4 26 0 c_.toNatClampNeg ((v4 26 0 c_.toNatClampNeg) + 1)
          (1, v8)
        else
          let v9 := hd_u v4 26 0 c_.toNatClampNeg x_
          (1, v9)
      else
        let v6 := hd_u v4 26 0 c_.toNatClampNeg ((v4 26 0 c_.toNatClampNeg) + 1)
        (1, v6)
set_option maxHeartbeats 4000000 in
set_option maxRecDepth 100000 in
theorem c_Mod_plain (l : Launch) {D : va_G} {cI cZ cM cC : ClassId} {n : Nat} {ad : Nat → Nat → Nat} (hJ : hd_J (hx_L n) ad) (c_ : Int32) (op_ : Int32) (x_ : Int32) (v : hd_V) (hc : vp_in c_ 4) : Met l y_Mod_plain w_Mod_plain { frames := 0, cells := 0, slots := 0, locals := 0 } (va_Pc [.ref (ad 20 0), .int c_, .int op_, .int x_] (hx_B D cI cZ cM cC n ad v)) (va_Qi (fun r u => r = (f_Mod_plain c_ op_ x_ v).1 ∧ u = (f_Mod_plain c_ op_ x_ v).2) (fun u => hx_B D cI cZ cM cC n ad u) (hx_A n ad)) 0 0 (hx_A n ad) := by
  refine Met.ofW (cc := b_Mod_plain) (maxL := 5) (ret := (some .int)) (by decide) rfl ?_
  intro p e s m args below meth c s₁ B hml hv
  obtain ⟨rfl, hP, hK, hN⟩ := hv
  have hx := B.exec
  have hb := B.bytes
  have hr := B.returns
  have hlk := B.notSynchronized
  have hts0 := atoms_spec (ws := w_Mod_plain) B.pre
  have hts := fun w (hw : w ∈ lw_g) => hts0 w (List.mem_cons_of_mem _ hw)
  have hown : s.vm.findClass R_Mod = some m.cls := findClass_of_methodNamed B.named
  have hA : ∀ q, hx_A n ad q → hx_A n ad q := fun _ h => h
  have hS : va_S (hx_A n ad) s.heap s.heap [] := va_S.rf
  have hl := lv_entry ([.ref (ad 20 0), .int c_, .int op_, .int x_]) (n := 5) (Nat.le_of_ble_eq_true rfl)
  rw [lg_entry_eq]
  generalize (lg_sl ([.ref (ad 20 0), .int c_, .int op_, .int x_]) ++ List.replicate (5 - (lg_sl ([.ref (ad 20 0), .int c_, .int op_, .int x_])).length) Slot.unset).toArray = ls at hl ⊢
  have hl : lv_has ls 5 [(0, .ref (ad 20 0)), (1, .int c_), (2, .int op_), (3, .int x_)] := hl
  refine lv_aload_n hx hb d_Mod_plain_0 rfl (lv_at hl 0 rfl) ?_
  refine hd_get (C := R_Mod) (T := F_Mod) (N := 27) hx hb hts i_Mod hown hK hP 20 0 Nat.one_pos he_20 rfl 2 (by decide) (hts _ k_448) (fun _ h9 => h9) hv_20_2 d_Mod_plain_1 ?_
  refine lv_iload_n hx hb d_Mod_plain_4 rfl (lv_at hl 1 rfl) ?_
  refine hd_iald hx hb hK hP 22 0 0 Nat.one_pos rfl rfl hc d_Mod_plain_5 ?_
  refine lv_topi (fun x1 ex1 => ?_)
  refine lv_istore (lv' := [(4, .int x1), (0, .ref (ad 20 0)), (1, .int c_), (2, .int op_), (3, .int x_)]) hx hb d_Mod_plain_6 hl (by decide) rfl (fun ls hl => ?_)
  refine lv_aload_n hx hb d_Mod_plain_8 rfl (lv_at hl 1 rfl) ?_
  refine hd_get (C := R_Mod) (T := F_Mod) (N := 27) hx hb hts i_Mod hown hK hP 20 0 Nat.one_pos he_20 rfl 2 (by decide) (hts _ k_448) (fun _ h9 => h9) hv_20_2 d_Mod_plain_9 ?_
  refine lv_iload_n hx hb d_Mod_plain_12 rfl (lv_at hl 2 rfl) ?_
  refine lv_iload_n hx hb d_Mod_plain_13 rfl (lv_at hl 3 rfl) ?_
  refine lv_iconst (v := 2) hx hb d_Mod_plain_14 (by decide) ?_
  refine lv_icmp_ne (tgt := 25) hx hb d_Mod_plain_15 (by decide) (fun h2 => ?_) (fun h2 => ?_)
  · refine lv_iload_n hx hb d_Mod_plain_25 rfl (lv_at hl 3 rfl) ?_
    refine lv_iconst (v := 4) hx hb d_Mod_plain_26 (by decide) ?_
    refine lv_icmp_ne (tgt := 34) hx hb d_Mod_plain_27 (by decide) (fun h3 => ?_) (fun h3 => ?_)
    · refine lv_iload hx hb d_Mod_plain_34 (lv_at hl 0 rfl) ?_
      refine hd_iast hx hb hK hP hJ hA hS 22 0 0 Nat.one_pos (fun _ => rfl) rfl hc d_Mod_plain_36 (fun H locs hP hS => ?_)
      refine lv_aload_n hx hb d_Mod_plain_37 rfl (lv_at hl 1 rfl) ?_
      refine hd_get (C := R_Mod) (T := F_Mod) (N := 27) hx hb hts i_Mod hown hK hP 20 0 Nat.one_pos he_20 rfl 6 (by decide) (hts _ k_452) (fun _ h9 => h9) hv_20_6 d_Mod_plain_38 ?_
      refine lv_iload_n hx hb d_Mod_plain_41 rfl (lv_at hl 2 rfl) ?_
      refine lv_iload_n hx hb d_Mod_plain_42 rfl (lv_at hl 3 rfl) ?_
      refine lv_iconst (v := 3) hx hb d_Mod_plain_43 (by decide) ?_
      refine lv_icmp_ne (tgt := 56) hx hb d_Mod_plain_44 (by decide) (fun h5 => ?_) (fun h5 => ?_)
      · refine lv_aload_n hx hb d_Mod_plain_56 rfl (lv_at hl 1 rfl) ?_
        refine hd_get (C := R_Mod) (T := F_Mod) (N := 27) hx hb hts i_Mod hown hK hP 20 0 Nat.one_pos he_20 rfl 6 (by decide) (hts _ k_452) (fun _ h9 => h9) hv_20_6 d_Mod_plain_57 ?_
        refine lv_iload_n hx hb d_Mod_plain_60 rfl (lv_at hl 2 rfl) ?_
        refine hd_iald hx hb hK hP 26 0 0 Nat.one_pos rfl rfl hc d_Mod_plain_61 ?_
        refine lv_iconst (v := 1) hx hb d_Mod_plain_62 (by decide) ?_
        refine lv_iadd hx hb d_Mod_plain_63 ?_
        refine hd_iast hx hb hK hP hJ hA hS 26 0 0 Nat.one_pos (fun _ => rfl) rfl hc d_Mod_plain_64 (fun H locs hP hS => ?_)
        refine lv_iconst (v := 1) hx hb d_Mod_plain_65 (by decide) ?_
        exact hd_iret hx hb hr hlk hK hN hP hS d_Mod_plain_66 ⟨by subst ex1; simp only [f_Mod_plain]; rw [if_neg h2, if_neg h3, if_neg h5], by subst ex1; simp only [f_Mod_plain]; rw [if_neg h2, if_neg h3, if_neg h5]⟩
      · refine lv_iload hx hb d_Mod_plain_47 (lv_at hl 0 rfl) ?_
        refine lv_if_eq (tgt := 56) hx hb d_Mod_plain_49 (by decide) (fun h7 => ?_) (fun h7 => ?_)
        · refine lv_aload_n hx hb d_Mod_plain_56 rfl (lv_at hl 1 rfl) ?_
          refine hd_get (C := R_Mod) (T := F_Mod) (N := 27) hx hb hts i_Mod hown hK hP 20 0 Nat.one_pos he_20 rfl 6 (by decide) (hts _ k_452) (fun _ h9 => h9) hv_20_6 d_Mod_plain_57 ?_
          refine lv_iload_n hx hb d_Mod_plain_60 rfl (lv_at hl 2 rfl) ?_
          refine hd_iald hx hb hK hP 26 0 0 Nat.one_pos rfl rfl hc d_Mod_plain_61 ?_
          refine lv_iconst (v := 1) hx hb d_Mod_plain_62 (by decide) ?_
          refine lv_iadd hx hb d_Mod_plain_63 ?_
          refine hd_iast hx hb hK hP hJ hA hS 26 0 0 Nat.one_pos (fun _ => rfl) rfl hc d_Mod_plain_64 (fun H locs hP hS => ?_)
          refine lv_iconst (v := 1) hx hb d_Mod_plain_65 (by decide) ?_
          exact hd_iret hx hb hr hlk hK hN hP hS d_Mod_plain_66 ⟨by subst ex1; simp only [f_Mod_plain]; rw [if_neg h2, if_neg h3, if_pos h5, if_pos h7], by subst ex1; simp only [f_Mod_plain]; rw [if_neg h2, if_neg h3, if_pos h5, if_pos h7]⟩
        · refine lv_iload_n hx hb d_Mod_plain_52 rfl (lv_at hl 4 rfl) ?_
          refine lv_goto (tgt := 64) hx hb d_Mod_plain_53 (by decide) ?_
          refine hd_iast hx hb hK hP hJ hA hS 26 0 0 Nat.one_pos (fun _ => rfl) rfl hc d_Mod_plain_64 (fun H locs hP hS => ?_)
          refine lv_iconst (v := 1) hx hb d_Mod_plain_65 (by decide) ?_
          exact hd_iret hx hb hr hlk hK hN hP hS d_Mod_plain_66 ⟨by subst ex1; simp only [f_Mod_plain]; rw [if_neg h2, if_neg h3, if_pos h5, if_neg h7], by subst ex1; simp only [f_Mod_plain]; rw [if_neg h2, if_neg h3, if_pos h5, if_neg h7]⟩
    · refine lv_iload_n hx hb d_Mod_plain_30 rfl (lv_at hl 4 rfl) ?_
      refine lv_goto (tgt := 36) hx hb d_Mod_plain_31 (by decide) ?_
      refine hd_iast hx hb hK hP hJ hA hS 22 0 0 Nat.one_pos (fun _ => rfl) rfl hc d_Mod_plain_36 (fun H locs hP hS => ?_)
      refine lv_aload_n hx hb d_Mod_plain_37 rfl (lv_at hl 1 rfl) ?_
      refine hd_get (C := R_Mod) (T := F_Mod) (N := 27) hx hb hts i_Mod hown hK hP 20 0 Nat.one_pos he_20 rfl 6 (by decide) (hts _ k_452) (fun _ h9 => h9) hv_20_6 d_Mod_plain_38 ?_
      refine lv_iload_n hx hb d_Mod_plain_41 rfl (lv_at hl 2 rfl) ?_
      refine lv_iload_n hx hb d_Mod_plain_42 rfl (lv_at hl 3 rfl) ?_
      refine lv_iconst (v := 3) hx hb d_Mod_plain_43 (by decide) ?_
      refine lv_icmp_ne (tgt := 56) hx hb d_Mod_plain_44 (by decide) (fun h11 => ?_) (fun h11 => ?_)
      · refine lv_aload_n hx hb d_Mod_plain_56 rfl (lv_at hl 1 rfl) ?_
        refine hd_get (C := R_Mod) (T := F_Mod) (N := 27) hx hb hts i_Mod hown hK hP 20 0 Nat.one_pos he_20 rfl 6 (by decide) (hts _ k_452) (fun _ h9 => h9) hv_20_6 d_Mod_plain_57 ?_
        refine lv_iload_n hx hb d_Mod_plain_60 rfl (lv_at hl 2 rfl) ?_
        refine hd_iald hx hb hK hP 26 0 0 Nat.one_pos rfl rfl hc d_Mod_plain_61 ?_
        refine lv_iconst (v := 1) hx hb d_Mod_plain_62 (by decide) ?_
        refine lv_iadd hx hb d_Mod_plain_63 ?_
        refine hd_iast hx hb hK hP hJ hA hS 26 0 0 Nat.one_pos (fun _ => rfl) rfl hc d_Mod_plain_64 (fun H locs hP hS => ?_)
        refine lv_iconst (v := 1) hx hb d_Mod_plain_65 (by decide) ?_
        exact hd_iret hx hb hr hlk hK hN hP hS d_Mod_plain_66 ⟨by subst ex1; simp only [f_Mod_plain]; rw [if_neg h2, if_pos h3, if_neg h11], by subst ex1; simp only [f_Mod_plain]; rw [if_neg h2, if_pos h3, if_neg h11]⟩
      · refine lv_iload hx hb d_Mod_plain_47 (lv_at hl 0 rfl) ?_
        refine lv_if_eq (tgt := 56) hx hb d_Mod_plain_49 (by decide) (fun h13 => ?_) (fun h13 => ?_)
        · refine lv_aload_n hx hb d_Mod_plain_56 rfl (lv_at hl 1 rfl) ?_
          refine hd_get (C := R_Mod) (T := F_Mod) (N := 27) hx hb hts i_Mod hown hK hP 20 0 Nat.one_pos he_20 rfl 6 (by decide) (hts _ k_452) (fun _ h9 => h9) hv_20_6 d_Mod_plain_57 ?_
          refine lv_iload_n hx hb d_Mod_plain_60 rfl (lv_at hl 2 rfl) ?_
          refine hd_iald hx hb hK hP 26 0 0 Nat.one_pos rfl rfl hc d_Mod_plain_61 ?_
          refine lv_iconst (v := 1) hx hb d_Mod_plain_62 (by decide) ?_
          refine lv_iadd hx hb d_Mod_plain_63 ?_
          refine hd_iast hx hb hK hP hJ hA hS 26 0 0 Nat.one_pos (fun _ => rfl) rfl hc d_Mod_plain_64 (fun H locs hP hS => ?_)
          refine lv_iconst (v := 1) hx hb d_Mod_plain_65 (by decide) ?_
          exact hd_iret hx hb hr hlk hK hN hP hS d_Mod_plain_66 ⟨by subst ex1; simp only [f_Mod_plain]; rw [if_neg h2, if_pos h3, if_pos h11, if_pos h13], by subst ex1; simp only [f_Mod_plain]; rw [if_neg h2, if_pos h3, if_pos h11, if_pos h13]⟩
        · refine lv_iload_n hx hb d_Mod_plain_52 rfl (lv_at hl 4 rfl) ?_
          refine lv_goto (tgt := 64) hx hb d_Mod_plain_53 (by decide) ?_
          refine hd_iast hx hb hK hP hJ hA hS 26 0 0 Nat.one_pos (fun _ => rfl) rfl hc d_Mod_plain_64 (fun H locs hP hS => ?_)
          refine lv_iconst (v := 1) hx hb d_Mod_plain_65 (by decide) ?_
          exact hd_iret hx hb hr hlk hK hN hP hS d_Mod_plain_66 ⟨by subst ex1; simp only [f_Mod_plain]; rw [if_neg h2, if_pos h3, if_pos h11, if_neg h13], by subst ex1; simp only [f_Mod_plain]; rw [if_neg h2, if_pos h3, if_pos h11, if_neg h13]⟩
  · refine lv_iload hx hb d_Mod_plain_18 (lv_at hl 0 rfl) ?_
    refine lv_iload_n hx hb d_Mod_plain_20 rfl (lv_at hl 4 rfl) ?_
    refine lv_iadd hx hb d_Mod_plain_21 ?_
    refine lv_goto (tgt := 36) hx hb d_Mod_plain_22 (by decide) ?_
    refine hd_iast hx hb hK hP hJ hA hS 22 0 0 Nat.one_pos (fun _ => rfl) rfl hc d_Mod_plain_36 (fun H locs hP hS => ?_)
    refine lv_aload_n hx hb d_Mod_plain_37 rfl (lv_at hl 1 rfl) ?_
    refine hd_get (C := R_Mod) (T := F_Mod) (N := 27) hx hb hts i_Mod hown hK hP 20 0 Nat.one_pos he_20 rfl 6 (by decide) (hts _ k_452) (fun _ h9 => h9) hv_20_6 d_Mod_plain_38 ?_
    refine lv_iload_n hx hb d_Mod_plain_41 rfl (lv_at hl 2 rfl) ?_
    refine lv_iload_n hx hb d_Mod_plain_42 rfl (lv_at hl 3 rfl) ?_
    refine lv_iconst (v := 3) hx hb d_Mod_plain_43 (by decide) ?_
    refine lv_icmp_ne (tgt := 56) hx hb d_Mod_plain_44 (by decide) (fun h17 => ?_) (fun h17 => ?_)
    · refine lv_aload_n hx hb d_Mod_plain_56 rfl (lv_at hl 1 rfl) ?_
      refine hd_get (C := R_Mod) (T := F_Mod) (N := 27) hx hb hts i_Mod hown hK hP 20 0 Nat.one_pos he_20 rfl 6 (by decide) (hts _ k_452) (fun _ h9 => h9) hv_20_6 d_Mod_plain_57 ?_
      refine lv_iload_n hx hb d_Mod_plain_60 rfl (lv_at hl 2 rfl) ?_
      refine hd_iald hx hb hK hP 26 0 0 Nat.one_pos rfl rfl hc d_Mod_plain_61 ?_
      refine lv_iconst (v := 1) hx hb d_Mod_plain_62 (by decide) ?_
      refine lv_iadd hx hb d_Mod_plain_63 ?_
      refine hd_iast hx hb hK hP hJ hA hS 26 0 0 Nat.one_pos (fun _ => rfl) rfl hc d_Mod_plain_64 (fun H locs hP hS => ?_)
      refine lv_iconst (v := 1) hx hb d_Mod_plain_65 (by decide) ?_
      exact hd_iret hx hb hr hlk hK hN hP hS d_Mod_plain_66 ⟨by subst ex1; simp only [f_Mod_plain]; rw [if_pos h2, if_neg h17], by subst ex1; simp only [f_Mod_plain]; rw [if_pos h2, if_neg h17]⟩
    · refine lv_iload hx hb d_Mod_plain_47 (lv_at hl 0 rfl) ?_
      refine lv_if_eq (tgt := 56) hx hb d_Mod_plain_49 (by decide) (fun h19 => ?_) (fun h19 => ?_)
      · refine lv_aload_n hx hb d_Mod_plain_56 rfl (lv_at hl 1 rfl) ?_
        refine hd_get (C := R_Mod) (T := F_Mod) (N := 27) hx hb hts i_Mod hown hK hP 20 0 Nat.one_pos he_20 rfl 6 (by decide) (hts _ k_452) (fun _ h9 => h9) hv_20_6 d_Mod_plain_57 ?_
        refine lv_iload_n hx hb d_Mod_plain_60 rfl (lv_at hl 2 rfl) ?_
        refine hd_iald hx hb hK hP 26 0 0 Nat.one_pos rfl rfl hc d_Mod_plain_61 ?_
        refine lv_iconst (v := 1) hx hb d_Mod_plain_62 (by decide) ?_
        refine lv_iadd hx hb d_Mod_plain_63 ?_
        refine hd_iast hx hb hK hP hJ hA hS 26 0 0 Nat.one_pos (fun _ => rfl) rfl hc d_Mod_plain_64 (fun H locs hP hS => ?_)
        refine lv_iconst (v := 1) hx hb d_Mod_plain_65 (by decide) ?_
        exact hd_iret hx hb hr hlk hK hN hP hS d_Mod_plain_66 ⟨by subst ex1; simp only [f_Mod_plain]; rw [if_pos h2, if_pos h17, if_pos h19], by subst ex1; simp only [f_Mod_plain]; rw [if_pos h2, if_pos h17, if_pos h19]⟩
      · refine lv_iload_n hx hb d_Mod_plain_52 rfl (lv_at hl 4 rfl) ?_
        refine lv_goto (tgt := 64) hx hb d_Mod_plain_53 (by decide) ?_
        refine hd_iast hx hb hK hP hJ hA hS 26 0 0 Nat.one_pos (fun _ => rfl) rfl hc d_Mod_plain_64 (fun H locs hP hS => ?_)
        refine lv_iconst (v := 1) hx hb d_Mod_plain_65 (by decide) ?_
        exact hd_iret hx hb hr hlk hK hN hP hS d_Mod_plain_66 ⟨by subst ex1; simp only [f_Mod_plain]; rw [if_pos h2, if_pos h17, if_neg h19], by subst ex1; simp only [f_Mod_plain]; rw [if_pos h2, if_pos h17, if_neg h19]⟩
def f_Mod_perform (c_ : Int32) (v : hd_V) : hd_V :=
  let x1 : Int32 := (16 * c_) + (v 26 0 c_.toNatClampNeg)
  let x2 : Int32 := (4 * c_) + (v 24 0 x1.toNatClampNeg)
  let x3 : Int32 := v 29 0 x2.toNatClampNeg
  if (v 23 0 x1.toNatClampNeg) = 0 then
    let v17 := hd_u v 29 0 x2.toNatClampNeg x3
    if (v17 23 0 x1.toNatClampNeg) = 1 then
      let v24 := hd_u v17 22 0 c_.toNatClampNeg (v17 22 0 c_.toNatClampNeg)
      let v25 := hd_u v24 20 0 12 ((v24 20 0 12) + 1)
      let v26 := hd_u v25 31 0 x2.toNatClampNeg (v25 20 0 12)
      let v27 := hd_u v26 20 0 19 ((v26 20 0 19) + 1)
      let v28 := hd_u v27 26 0 c_.toNatClampNeg ((v27 26 0 c_.toNatClampNeg) + 1)
      v28
    else
      let v19 := hd_u v17 22 0 c_.toNatClampNeg x3
      let v20 := hd_u v19 20 0 12 ((v19 20 0 12) + 1)
      let v21 := hd_u v20 31 0 x2.toNatClampNeg (v20 20 0 12)
      let v22 := hd_u v21 20 0 19 ((v21 20 0 19) + 1)
      let v23 := hd_u v22 26 0 c_.toNatClampNeg ((v22 26 0 c_.toNatClampNeg) + 1)
      v23
  else
    let v5 := hd_u v 29 0 x2.toNatClampNeg (v 22 0 c_.toNatClampNeg)
    if (v5 23 0 x1.toNatClampNeg) = 1 then
      let v12 := hd_u v5 22 0 c_.toNatClampNeg (v5 22 0 c_.toNatClampNeg)
      let v13 := hd_u v12 20 0 12 ((v12 20 0 12) + 1)
      let v14 := hd_u v13 31 0 x2.toNatClampNeg (v13 20 0 12)
      let v15 := hd_u v14 20 0 19 ((v14 20 0 19) + 1)
      let v16 := hd_u v15 26 0 c_.toNatClampNeg ((v15 26 0 c_.toNatClampNeg) + 1)
      v16
    else
      let v7 := hd_u v5 22 0 c_.toNatClampNeg x3
      let v8 := hd_u v7 20 0 12 ((v7 20 0 12) + 1)
      let v9 := hd_u v8 31 0 x2.toNatClampNeg (v8 20 0 12)
      let v10 := hd_u v9 20 0 19 ((v9 20 0 19) + 1)
      let v11 := hd_u v10 26 0 c_.toNatClampNeg ((v10 26 0 c_.toNatClampNeg) + 1)
      v11
set_option maxHeartbeats 4000000 in
set_option maxRecDepth 100000 in
theorem c_Mod_perform (l : Launch) {D : va_G} {cI cZ cM cC : ClassId} {n : Nat} {ad : Nat → Nat → Nat} (hJ : hd_J (hx_L n) ad) (c_ : Int32) (v : hd_V) (hc : vp_in c_ 4) (hnx : vp_in (v 26 0 c_.toNatClampNeg) 16) (hxs : vp_in (v 24 0 ((16 * c_) + (v 26 0 c_.toNatClampNeg)).toNatClampNeg) 4) : Met l y_Mod_perform w_Mod_perform { frames := 0, cells := 0, slots := 0, locals := 0 } (va_Pc [.ref (ad 20 0), .int c_] (hx_B D cI cZ cM cC n ad v)) (va_Qv (fun u => u = f_Mod_perform c_ v) (fun u => hx_B D cI cZ cM cC n ad u) (hx_A n ad)) 0 0 (hx_A n ad) := by
  refine Met.ofW (cc := b_Mod_perform) (maxL := 5) (ret := none) (by decide) rfl ?_
  intro p e s m args below meth c s₁ B hml hv
  obtain ⟨rfl, hP, hK, hN⟩ := hv
  have hx := B.exec
  have hb := B.bytes
  have hr := B.returns
  have hlk := B.notSynchronized
  have hts0 := atoms_spec (ws := w_Mod_perform) B.pre
  have hts := fun w (hw : w ∈ lw_g) => hts0 w (List.mem_cons_of_mem _ hw)
  have hown : s.vm.findClass R_Mod = some m.cls := findClass_of_methodNamed B.named
  have hA : ∀ q, hx_A n ad q → hx_A n ad q := fun _ h => h
  have hS : va_S (hx_A n ad) s.heap s.heap [] := va_S.rf
  have hl := lv_entry ([.ref (ad 20 0), .int c_]) (n := 5) (Nat.le_of_ble_eq_true rfl)
  rw [lg_entry_eq]
  generalize (lg_sl ([.ref (ad 20 0), .int c_]) ++ List.replicate (5 - (lg_sl ([.ref (ad 20 0), .int c_])).length) Slot.unset).toArray = ls at hl ⊢
  have hl : lv_has ls 5 [(0, .ref (ad 20 0)), (1, .int c_)] := hl
  refine lv_bipush (v := 16) hx hb d_Mod_perform_0 (by decide) ?_
  refine lv_iload_n hx hb d_Mod_perform_2 rfl (lv_at hl 1 rfl) ?_
  refine lv_imul hx hb d_Mod_perform_3 ?_
  refine lv_aload_n hx hb d_Mod_perform_4 rfl (lv_at hl 0 rfl) ?_
  refine hd_get (C := R_Mod) (T := F_Mod) (N := 27) hx hb hts i_Mod hown hK hP 20 0 Nat.one_pos he_20 rfl 6 (by decide) (hts _ k_452) (fun _ h9 => h9) hv_20_6 d_Mod_perform_5 ?_
  refine lv_iload_n hx hb d_Mod_perform_8 rfl (lv_at hl 1 rfl) ?_
  refine hd_iald hx hb hK hP 26 0 0 Nat.one_pos rfl rfl hc d_Mod_perform_9 ?_
  refine lv_iadd hx hb d_Mod_perform_10 ?_
  refine lv_topi (fun x1 ex1 => ?_)
  refine lv_istore_n (lv' := [(2, .int x1), (0, .ref (ad 20 0)), (1, .int c_)]) hx hb d_Mod_perform_11 rfl hl (by decide) rfl (fun ls hl => ?_)
  refine lv_iconst (v := 4) hx hb d_Mod_perform_12 (by decide) ?_
  refine lv_iload_n hx hb d_Mod_perform_13 rfl (lv_at hl 2 rfl) ?_
  refine lv_imul hx hb d_Mod_perform_14 ?_
  refine lv_aload_n hx hb d_Mod_perform_15 rfl (lv_at hl 1 rfl) ?_
  refine hd_get (C := R_Mod) (T := F_Mod) (N := 27) hx hb hts i_Mod hown hK hP 20 0 Nat.one_pos he_20 rfl 4 (by decide) (hts _ k_450) (fun _ h9 => h9) hv_20_4 d_Mod_perform_16 ?_
  refine lv_iload_n hx hb d_Mod_perform_19 rfl (lv_at hl 0 rfl) ?_
  refine hd_iald hx hb hK hP 24 0 0 Nat.one_pos rfl rfl (by rw [ex1]; exact (mod_16 hc hnx)) d_Mod_perform_20 ?_
  refine lv_iadd hx hb d_Mod_perform_21 ?_
  refine lv_topi (fun x2 ex2 => ?_)
  refine lv_istore_n (lv' := [(3, .int x2), (2, .int x1), (0, .ref (ad 20 0)), (1, .int c_)]) hx hb d_Mod_perform_22 rfl hl (by decide) rfl (fun ls hl => ?_)
  refine lv_aload_n hx hb d_Mod_perform_23 rfl (lv_at hl 2 rfl) ?_
  refine hd_get (C := R_Mod) (T := F_Mod) (N := 27) hx hb hts i_Mod hown hK hP 20 0 Nat.one_pos he_20 rfl 9 (by decide) (hts _ k_455) (fun _ h9 => h9) hv_20_9 d_Mod_perform_24 ?_
  refine lv_iload_n hx hb d_Mod_perform_27 rfl (lv_at hl 0 rfl) ?_
  refine hd_iald hx hb hK hP 29 0 0 Nat.one_pos rfl rfl (by rw [ex2]; exact (mod_4 hc (by rw [ex1]; exact hxs))) d_Mod_perform_28 ?_
  refine lv_topi (fun x3 ex3 => ?_)
  refine lv_istore (lv' := [(4, .int x3), (3, .int x2), (2, .int x1), (0, .ref (ad 20 0)), (1, .int c_)]) hx hb d_Mod_perform_29 hl (by decide) rfl (fun ls hl => ?_)
  refine lv_aload_n hx hb d_Mod_perform_31 rfl (lv_at hl 3 rfl) ?_
  refine hd_get (C := R_Mod) (T := F_Mod) (N := 27) hx hb hts i_Mod hown hK hP 20 0 Nat.one_pos he_20 rfl 9 (by decide) (hts _ k_455) (fun _ h9 => h9) hv_20_9 d_Mod_perform_32 ?_
  refine lv_iload_n hx hb d_Mod_perform_35 rfl (lv_at hl 1 rfl) ?_
  refine lv_aload_n hx hb d_Mod_perform_36 rfl (lv_at hl 3 rfl) ?_
  refine hd_get (C := R_Mod) (T := F_Mod) (N := 27) hx hb hts i_Mod hown hK hP 20 0 Nat.one_pos he_20 rfl 3 (by decide) (hts _ k_449) (fun _ h9 => h9) hv_20_3 d_Mod_perform_37 ?_
  refine lv_iload_n hx hb d_Mod_perform_40 rfl (lv_at hl 2 rfl) ?_
  refine hd_iald hx hb hK hP 23 0 0 Nat.one_pos rfl rfl (by rw [ex1]; exact (mod_16 hc hnx)) d_Mod_perform_41 ?_
  refine lv_if_ne (tgt := 50) hx hb d_Mod_perform_42 (by decide) (fun h4 => ?_) (fun h4 => ?_)
  · refine lv_aload_n hx hb d_Mod_perform_50 rfl (lv_at hl 3 rfl) ?_
    refine hd_get (C := R_Mod) (T := F_Mod) (N := 27) hx hb hts i_Mod hown hK hP 20 0 Nat.one_pos he_20 rfl 2 (by decide) (hts _ k_448) (fun _ h9 => h9) hv_20_2 d_Mod_perform_51 ?_
    refine lv_iload_n hx hb d_Mod_perform_54 rfl (lv_at hl 4 rfl) ?_
    refine hd_iald hx hb hK hP 22 0 0 Nat.one_pos rfl rfl hc d_Mod_perform_55 ?_
    refine hd_iast hx hb hK hP hJ hA hS 29 0 0 Nat.one_pos (fun _ => rfl) rfl (by rw [ex2]; exact (mod_4 hc (by rw [ex1]; exact hxs))) d_Mod_perform_56 (fun H locs hP hS => ?_)
    refine lv_aload_n hx hb d_Mod_perform_57 rfl (lv_at hl 3 rfl) ?_
    refine hd_get (C := R_Mod) (T := F_Mod) (N := 27) hx hb hts i_Mod hown hK hP 20 0 Nat.one_pos he_20 rfl 2 (by decide) (hts _ k_448) (fun _ h9 => h9) hv_20_2 d_Mod_perform_58 ?_
    refine lv_iload_n hx hb d_Mod_perform_61 rfl (lv_at hl 4 rfl) ?_
    refine lv_aload_n hx hb d_Mod_perform_62 rfl (lv_at hl 3 rfl) ?_
    refine hd_get (C := R_Mod) (T := F_Mod) (N := 27) hx hb hts i_Mod hown hK hP 20 0 Nat.one_pos he_20 rfl 3 (by decide) (hts _ k_449) (fun _ h9 => h9) hv_20_3 d_Mod_perform_63 ?_
    refine lv_iload_n hx hb d_Mod_perform_66 rfl (lv_at hl 2 rfl) ?_
    refine hd_iald hx hb hK hP 23 0 0 Nat.one_pos rfl rfl (by rw [ex1]; exact (mod_16 hc hnx)) d_Mod_perform_67 ?_
    refine lv_iconst (v := 1) hx hb d_Mod_perform_68 (by decide) ?_
    refine lv_icmp_ne (tgt := 81) hx hb d_Mod_perform_69 (by decide) (fun h6 => ?_) (fun h6 => ?_)
    · refine lv_iload hx hb d_Mod_perform_81 (lv_at hl 0 rfl) ?_
      refine hd_iast hx hb hK hP hJ hA hS 22 0 0 Nat.one_pos (fun _ => rfl) rfl hc d_Mod_perform_83 (fun H locs hP hS => ?_)
      refine lv_aload_n hx hb d_Mod_perform_84 rfl (lv_at hl 3 rfl) ?_
      refine lv_dup hx hb d_Mod_perform_85 rfl ?_
      refine hd_get (C := R_Mod) (T := F_Mod) (N := 27) hx hb hts i_Mod hown hK hP 20 0 Nat.one_pos he_20 rfl 12 (by decide) (hts _ k_458) (fun _ h9 => h9) hv_20_12 d_Mod_perform_86 ?_
      refine lv_iconst (v := 1) hx hb d_Mod_perform_89 (by decide) ?_
      refine lv_iadd hx hb d_Mod_perform_90 ?_
      refine hd_put (ty := .int) (C := R_Mod) (T := F_Mod) (N := 27) hx hb hts i_Mod t_Mod t_Mod_ok n_Mod hown hK hP hJ hA hS 20 0 Nat.one_pos he_20 rfl 12 (by decide) (hts _ k_458) (fun _ h9 => h9) rfl (by decide +kernel) rfl rfl hn_20_12 hu_20_12 d_Mod_perform_91 (fun H locs hP hS => ?_)
      refine lv_aload_n hx hb d_Mod_perform_94 rfl (lv_at hl 3 rfl) ?_
      refine hd_get (C := R_Mod) (T := F_Mod) (N := 27) hx hb hts i_Mod hown hK hP 20 0 Nat.one_pos he_20 rfl 11 (by decide) (hts _ k_457) (fun _ h9 => h9) hv_20_11 d_Mod_perform_95 ?_
      refine lv_iload_n hx hb d_Mod_perform_98 rfl (lv_at hl 1 rfl) ?_
      refine lv_aload_n hx hb d_Mod_perform_99 rfl (lv_at hl 3 rfl) ?_
      refine hd_get (C := R_Mod) (T := F_Mod) (N := 27) hx hb hts i_Mod hown hK hP 20 0 Nat.one_pos he_20 rfl 12 (by decide) (hts _ k_458) (fun _ h9 => h9) hv_20_12 d_Mod_perform_100 ?_
      refine hd_iast hx hb hK hP hJ hA hS 31 0 0 Nat.one_pos (fun _ => rfl) rfl (by rw [ex2]; exact (mod_4 hc (by rw [ex1]; exact hxs))) d_Mod_perform_103 (fun H locs hP hS => ?_)
      refine lv_aload_n hx hb d_Mod_perform_104 rfl (lv_at hl 3 rfl) ?_
      refine lv_dup hx hb d_Mod_perform_105 rfl ?_
      refine hd_get (C := R_Mod) (T := F_Mod) (N := 27) hx hb hts i_Mod hown hK hP 20 0 Nat.one_pos he_20 rfl 19 (by decide) (hts _ k_465) (fun _ h9 => h9) hv_20_19 d_Mod_perform_106 ?_
      refine lv_iconst (v := 1) hx hb d_Mod_perform_109 (by decide) ?_
      refine lv_iadd hx hb d_Mod_perform_110 ?_
      refine hd_put (ty := .int) (C := R_Mod) (T := F_Mod) (N := 27) hx hb hts i_Mod t_Mod t_Mod_ok n_Mod hown hK hP hJ hA hS 20 0 Nat.one_pos he_20 rfl 19 (by decide) (hts _ k_465) (fun _ h9 => h9) rfl (by decide +kernel) rfl rfl hn_20_19 hu_20_19 d_Mod_perform_111 (fun H locs hP hS => ?_)
      refine lv_aload_n hx hb d_Mod_perform_114 rfl (lv_at hl 3 rfl) ?_
      refine hd_get (C := R_Mod) (T := F_Mod) (N := 27) hx hb hts i_Mod hown hK hP 20 0 Nat.one_pos he_20 rfl 6 (by decide) (hts _ k_452) (fun _ h9 => h9) hv_20_6 d_Mod_perform_115 ?_
      refine lv_iload_n hx hb d_Mod_perform_118 rfl (lv_at hl 4 rfl) ?_
      refine lv_dup2_11 hx hb d_Mod_perform_119 rfl rfl ?_
      refine hd_iald hx hb hK hP 26 0 0 Nat.one_pos rfl rfl hc d_Mod_perform_120 ?_
      refine lv_iconst (v := 1) hx hb d_Mod_perform_121 (by decide) ?_
      refine lv_iadd hx hb d_Mod_perform_122 ?_
      refine hd_iast hx hb hK hP hJ hA hS 26 0 0 Nat.one_pos (fun _ => rfl) rfl hc d_Mod_perform_123 (fun H locs hP hS => ?_)
      exact hd_vret hx hb hr hlk hK hN hP hS d_Mod_perform_124 (by subst ex3; subst ex2; subst ex1; simp only [f_Mod_perform]; rw [if_neg h4, if_neg h6])
    · refine lv_aload_n hx hb d_Mod_perform_72 rfl (lv_at hl 3 rfl) ?_
      refine hd_get (C := R_Mod) (T := F_Mod) (N := 27) hx hb hts i_Mod hown hK hP 20 0 Nat.one_pos he_20 rfl 2 (by decide) (hts _ k_448) (fun _ h9 => h9) hv_20_2 d_Mod_perform_73 ?_
      refine lv_iload_n hx hb d_Mod_perform_76 rfl (lv_at hl 4 rfl) ?_
      refine hd_iald hx hb hK hP 22 0 0 Nat.one_pos rfl rfl hc d_Mod_perform_77 ?_
      refine lv_goto (tgt := 83) hx hb d_Mod_perform_78 (by decide) ?_
      refine hd_iast hx hb hK hP hJ hA hS 22 0 0 Nat.one_pos (fun _ => rfl) rfl hc d_Mod_perform_83 (fun H locs hP hS => ?_)
      refine lv_aload_n hx hb d_Mod_perform_84 rfl (lv_at hl 3 rfl) ?_
      refine lv_dup hx hb d_Mod_perform_85 rfl ?_
      refine hd_get (C := R_Mod) (T := F_Mod) (N := 27) hx hb hts i_Mod hown hK hP 20 0 Nat.one_pos he_20 rfl 12 (by decide) (hts _ k_458) (fun _ h9 => h9) hv_20_12 d_Mod_perform_86 ?_
      refine lv_iconst (v := 1) hx hb d_Mod_perform_89 (by decide) ?_
      refine lv_iadd hx hb d_Mod_perform_90 ?_
      refine hd_put (ty := .int) (C := R_Mod) (T := F_Mod) (N := 27) hx hb hts i_Mod t_Mod t_Mod_ok n_Mod hown hK hP hJ hA hS 20 0 Nat.one_pos he_20 rfl 12 (by decide) (hts _ k_458) (fun _ h9 => h9) rfl (by decide +kernel) rfl rfl hn_20_12 hu_20_12 d_Mod_perform_91 (fun H locs hP hS => ?_)
      refine lv_aload_n hx hb d_Mod_perform_94 rfl (lv_at hl 3 rfl) ?_
      refine hd_get (C := R_Mod) (T := F_Mod) (N := 27) hx hb hts i_Mod hown hK hP 20 0 Nat.one_pos he_20 rfl 11 (by decide) (hts _ k_457) (fun _ h9 => h9) hv_20_11 d_Mod_perform_95 ?_
      refine lv_iload_n hx hb d_Mod_perform_98 rfl (lv_at hl 1 rfl) ?_
      refine lv_aload_n hx hb d_Mod_perform_99 rfl (lv_at hl 3 rfl) ?_
      refine hd_get (C := R_Mod) (T := F_Mod) (N := 27) hx hb hts i_Mod hown hK hP 20 0 Nat.one_pos he_20 rfl 12 (by decide) (hts _ k_458) (fun _ h9 => h9) hv_20_12 d_Mod_perform_100 ?_
      refine hd_iast hx hb hK hP hJ hA hS 31 0 0 Nat.one_pos (fun _ => rfl) rfl (by rw [ex2]; exact (mod_4 hc (by rw [ex1]; exact hxs))) d_Mod_perform_103 (fun H locs hP hS => ?_)
      refine lv_aload_n hx hb d_Mod_perform_104 rfl (lv_at hl 3 rfl) ?_
      refine lv_dup hx hb d_Mod_perform_105 rfl ?_
      refine hd_get (C := R_Mod) (T := F_Mod) (N := 27) hx hb hts i_Mod hown hK hP 20 0 Nat.one_pos he_20 rfl 19 (by decide) (hts _ k_465) (fun _ h9 => h9) hv_20_19 d_Mod_perform_106 ?_
      refine lv_iconst (v := 1) hx hb d_Mod_perform_109 (by decide) ?_
      refine lv_iadd hx hb d_Mod_perform_110 ?_
      refine hd_put (ty := .int) (C := R_Mod) (T := F_Mod) (N := 27) hx hb hts i_Mod t_Mod t_Mod_ok n_Mod hown hK hP hJ hA hS 20 0 Nat.one_pos he_20 rfl 19 (by decide) (hts _ k_465) (fun _ h9 => h9) rfl (by decide +kernel) rfl rfl hn_20_19 hu_20_19 d_Mod_perform_111 (fun H locs hP hS => ?_)
      refine lv_aload_n hx hb d_Mod_perform_114 rfl (lv_at hl 3 rfl) ?_
      refine hd_get (C := R_Mod) (T := F_Mod) (N := 27) hx hb hts i_Mod hown hK hP 20 0 Nat.one_pos he_20 rfl 6 (by decide) (hts _ k_452) (fun _ h9 => h9) hv_20_6 d_Mod_perform_115 ?_
      refine lv_iload_n hx hb d_Mod_perform_118 rfl (lv_at hl 4 rfl) ?_
      refine lv_dup2_11 hx hb d_Mod_perform_119 rfl rfl ?_
      refine hd_iald hx hb hK hP 26 0 0 Nat.one_pos rfl rfl hc d_Mod_perform_120 ?_
      refine lv_iconst (v := 1) hx hb d_Mod_perform_121 (by decide) ?_
      refine lv_iadd hx hb d_Mod_perform_122 ?_
      refine hd_iast hx hb hK hP hJ hA hS 26 0 0 Nat.one_pos (fun _ => rfl) rfl hc d_Mod_perform_123 (fun H locs hP hS => ?_)
      exact hd_vret hx hb hr hlk hK hN hP hS d_Mod_perform_124 (by subst ex3; subst ex2; subst ex1; simp only [f_Mod_perform]; rw [if_neg h4, if_pos h6])
  · refine lv_iload hx hb d_Mod_perform_45 (lv_at hl 0 rfl) ?_
    refine lv_goto (tgt := 56) hx hb d_Mod_perform_47 (by decide) ?_
    refine hd_iast hx hb hK hP hJ hA hS 29 0 0 Nat.one_pos (fun _ => rfl) rfl (by rw [ex2]; exact (mod_4 hc (by rw [ex1]; exact hxs))) d_Mod_perform_56 (fun H locs hP hS => ?_)
    refine lv_aload_n hx hb d_Mod_perform_57 rfl (lv_at hl 3 rfl) ?_
    refine hd_get (C := R_Mod) (T := F_Mod) (N := 27) hx hb hts i_Mod hown hK hP 20 0 Nat.one_pos he_20 rfl 2 (by decide) (hts _ k_448) (fun _ h9 => h9) hv_20_2 d_Mod_perform_58 ?_
    refine lv_iload_n hx hb d_Mod_perform_61 rfl (lv_at hl 4 rfl) ?_
    refine lv_aload_n hx hb d_Mod_perform_62 rfl (lv_at hl 3 rfl) ?_
    refine hd_get (C := R_Mod) (T := F_Mod) (N := 27) hx hb hts i_Mod hown hK hP 20 0 Nat.one_pos he_20 rfl 3 (by decide) (hts _ k_449) (fun _ h9 => h9) hv_20_3 d_Mod_perform_63 ?_
    refine lv_iload_n hx hb d_Mod_perform_66 rfl (lv_at hl 2 rfl) ?_
    refine hd_iald hx hb hK hP 23 0 0 Nat.one_pos rfl rfl (by rw [ex1]; exact (mod_16 hc hnx)) d_Mod_perform_67 ?_
    refine lv_iconst (v := 1) hx hb d_Mod_perform_68 (by decide) ?_
    refine lv_icmp_ne (tgt := 81) hx hb d_Mod_perform_69 (by decide) (fun h18 => ?_) (fun h18 => ?_)
    · refine lv_iload hx hb d_Mod_perform_81 (lv_at hl 0 rfl) ?_
      refine hd_iast hx hb hK hP hJ hA hS 22 0 0 Nat.one_pos (fun _ => rfl) rfl hc d_Mod_perform_83 (fun H locs hP hS => ?_)
      refine lv_aload_n hx hb d_Mod_perform_84 rfl (lv_at hl 3 rfl) ?_
      refine lv_dup hx hb d_Mod_perform_85 rfl ?_
      refine hd_get (C := R_Mod) (T := F_Mod) (N := 27) hx hb hts i_Mod hown hK hP 20 0 Nat.one_pos he_20 rfl 12 (by decide) (hts _ k_458) (fun _ h9 => h9) hv_20_12 d_Mod_perform_86 ?_
      refine lv_iconst (v := 1) hx hb d_Mod_perform_89 (by decide) ?_
      refine lv_iadd hx hb d_Mod_perform_90 ?_
      refine hd_put (ty := .int) (C := R_Mod) (T := F_Mod) (N := 27) hx hb hts i_Mod t_Mod t_Mod_ok n_Mod hown hK hP hJ hA hS 20 0 Nat.one_pos he_20 rfl 12 (by decide) (hts _ k_458) (fun _ h9 => h9) rfl (by decide +kernel) rfl rfl hn_20_12 hu_20_12 d_Mod_perform_91 (fun H locs hP hS => ?_)
      refine lv_aload_n hx hb d_Mod_perform_94 rfl (lv_at hl 3 rfl) ?_
      refine hd_get (C := R_Mod) (T := F_Mod) (N := 27) hx hb hts i_Mod hown hK hP 20 0 Nat.one_pos he_20 rfl 11 (by decide) (hts _ k_457) (fun _ h9 => h9) hv_20_11 d_Mod_perform_95 ?_
      refine lv_iload_n hx hb d_Mod_perform_98 rfl (lv_at hl 1 rfl) ?_
      refine lv_aload_n hx hb d_Mod_perform_99 rfl (lv_at hl 3 rfl) ?_
      refine hd_get (C := R_Mod) (T := F_Mod) (N := 27) hx hb hts i_Mod hown hK hP 20 0 Nat.one_pos he_20 rfl 12 (by decide) (hts _ k_458) (fun _ h9 => h9) hv_20_12 d_Mod_perform_100 ?_
      refine hd_iast hx hb hK hP hJ hA hS 31 0 0 Nat.one_pos (fun _ => rfl) rfl (by rw [ex2]; exact (mod_4 hc (by rw [ex1]; exact hxs))) d_Mod_perform_103 (fun H locs hP hS => ?_)
      refine lv_aload_n hx hb d_Mod_perform_104 rfl (lv_at hl 3 rfl) ?_
      refine lv_dup hx hb d_Mod_perform_105 rfl ?_
      refine hd_get (C := R_Mod) (T := F_Mod) (N := 27) hx hb hts i_Mod hown hK hP 20 0 Nat.one_pos he_20 rfl 19 (by decide) (hts _ k_465) (fun _ h9 => h9) hv_20_19 d_Mod_perform_106 ?_
      refine lv_iconst (v := 1) hx hb d_Mod_perform_109 (by decide) ?_
      refine lv_iadd hx hb d_Mod_perform_110 ?_
      refine hd_put (ty := .int) (C := R_Mod) (T := F_Mod) (N := 27) hx hb hts i_Mod t_Mod t_Mod_ok n_Mod hown hK hP hJ hA hS 20 0 Nat.one_pos he_20 rfl 19 (by decide) (hts _ k_465) (fun _ h9 => h9) rfl (by decide +kernel) rfl rfl hn_20_19 hu_20_19 d_Mod_perform_111 (fun H locs hP hS => ?_)
      refine lv_aload_n hx hb d_Mod_perform_114 rfl (lv_at hl 3 rfl) ?_
      refine hd_get (C := R_Mod) (T := F_Mod) (N := 27) hx hb hts i_Mod hown hK hP 20 0 Nat.one_pos he_20 rfl 6 (by decide) (hts _ k_452) (fun _ h9 => h9) hv_20_6 d_Mod_perform_115 ?_
      refine lv_iload_n hx hb d_Mod_perform_118 rfl (lv_at hl 4 rfl) ?_
      refine lv_dup2_11 hx hb d_Mod_perform_119 rfl rfl ?_
      refine hd_iald hx hb hK hP 26 0 0 Nat.one_pos rfl rfl hc d_Mod_perform_120 ?_
      refine lv_iconst (v := 1) hx hb d_Mod_perform_121 (by decide) ?_
      refine lv_iadd hx hb d_Mod_perform_122 ?_
      refine hd_iast hx hb hK hP hJ hA hS 26 0 0 Nat.one_pos (fun _ => rfl) rfl hc d_Mod_perform_123 (fun H locs hP hS => ?_)
      exact hd_vret hx hb hr hlk hK hN hP hS d_Mod_perform_124 (by subst ex3; subst ex2; subst ex1; simp only [f_Mod_perform]; rw [if_pos h4, if_neg h18])
    · refine lv_aload_n hx hb d_Mod_perform_72 rfl (lv_at hl 3 rfl) ?_
      refine hd_get (C := R_Mod) (T := F_Mod) (N := 27) hx hb hts i_Mod hown hK hP 20 0 Nat.one_pos he_20 rfl 2 (by decide) (hts _ k_448) (fun _ h9 => h9) hv_20_2 d_Mod_perform_73 ?_
      refine lv_iload_n hx hb d_Mod_perform_76 rfl (lv_at hl 4 rfl) ?_
      refine hd_iald hx hb hK hP 22 0 0 Nat.one_pos rfl rfl hc d_Mod_perform_77 ?_
      refine lv_goto (tgt := 83) hx hb d_Mod_perform_78 (by decide) ?_
      refine hd_iast hx hb hK hP hJ hA hS 22 0 0 Nat.one_pos (fun _ => rfl) rfl hc d_Mod_perform_83 (fun H locs hP hS => ?_)
      refine lv_aload_n hx hb d_Mod_perform_84 rfl (lv_at hl 3 rfl) ?_
      refine lv_dup hx hb d_Mod_perform_85 rfl ?_
      refine hd_get (C := R_Mod) (T := F_Mod) (N := 27) hx hb hts i_Mod hown hK hP 20 0 Nat.one_pos he_20 rfl 12 (by decide) (hts _ k_458) (fun _ h9 => h9) hv_20_12 d_Mod_perform_86 ?_
      refine lv_iconst (v := 1) hx hb d_Mod_perform_89 (by decide) ?_
      refine lv_iadd hx hb d_Mod_perform_90 ?_
      refine hd_put (ty := .int) (C := R_Mod) (T := F_Mod) (N := 27) hx hb hts i_Mod t_Mod t_Mod_ok n_Mod hown hK hP hJ hA hS 20 0 Nat.one_pos he_20 rfl 12 (by decide) (hts _ k_458) (fun _ h9 => h9) rfl (by decide +kernel) rfl rfl hn_20_12 hu_20_12 d_Mod_perform_91 (fun H locs hP hS => ?_)
      refine lv_aload_n hx hb d_Mod_perform_94 rfl (lv_at hl 3 rfl) ?_
      refine hd_get (C := R_Mod) (T := F_Mod) (N := 27) hx hb hts i_Mod hown hK hP 20 0 Nat.one_pos he_20 rfl 11 (by decide) (hts _ k_457) (fun _ h9 => h9) hv_20_11 d_Mod_perform_95 ?_
      refine lv_iload_n hx hb d_Mod_perform_98 rfl (lv_at hl 1 rfl) ?_
      refine lv_aload_n hx hb d_Mod_perform_99 rfl (lv_at hl 3 rfl) ?_
      refine hd_get (C := R_Mod) (T := F_Mod) (N := 27) hx hb hts i_Mod hown hK hP 20 0 Nat.one_pos he_20 rfl 12 (by decide) (hts _ k_458) (fun _ h9 => h9) hv_20_12 d_Mod_perform_100 ?_
      refine hd_iast hx hb hK hP hJ hA hS 31 0 0 Nat.one_pos (fun _ => rfl) rfl (by rw [ex2]; exact (mod_4 hc (by rw [ex1]; exact hxs))) d_Mod_perform_103 (fun H locs hP hS => ?_)
      refine lv_aload_n hx hb d_Mod_perform_104 rfl (lv_at hl 3 rfl) ?_
      refine lv_dup hx hb d_Mod_perform_105 rfl ?_
      refine hd_get (C := R_Mod) (T := F_Mod) (N := 27) hx hb hts i_Mod hown hK hP 20 0 Nat.one_pos he_20 rfl 19 (by decide) (hts _ k_465) (fun _ h9 => h9) hv_20_19 d_Mod_perform_106 ?_
      refine lv_iconst (v := 1) hx hb d_Mod_perform_109 (by decide) ?_
      refine lv_iadd hx hb d_Mod_perform_110 ?_
      refine hd_put (ty := .int) (C := R_Mod) (T := F_Mod) (N := 27) hx hb hts i_Mod t_Mod t_Mod_ok n_Mod hown hK hP hJ hA hS 20 0 Nat.one_pos he_20 rfl 19 (by decide) (hts _ k_465) (fun _ h9 => h9) rfl (by decide +kernel) rfl rfl hn_20_19 hu_20_19 d_Mod_perform_111 (fun H locs hP hS => ?_)
      refine lv_aload_n hx hb d_Mod_perform_114 rfl (lv_at hl 3 rfl) ?_
      refine hd_get (C := R_Mod) (T := F_Mod) (N := 27) hx hb hts i_Mod hown hK hP 20 0 Nat.one_pos he_20 rfl 6 (by decide) (hts _ k_452) (fun _ h9 => h9) hv_20_6 d_Mod_perform_115 ?_
      refine lv_iload_n hx hb d_Mod_perform_118 rfl (lv_at hl 4 rfl) ?_
      refine lv_dup2_11 hx hb d_Mod_perform_119 rfl rfl ?_
      refine hd_iald hx hb hK hP 26 0 0 Nat.one_pos rfl rfl hc d_Mod_perform_120 ?_
      refine lv_iconst (v := 1) hx hb d_Mod_perform_121 (by decide) ?_
      refine lv_iadd hx hb d_Mod_perform_122 ?_
      refine hd_iast hx hb hK hP hJ hA hS 26 0 0 Nat.one_pos (fun _ => rfl) rfl hc d_Mod_perform_123 (fun H locs hP hS => ?_)
      exact hd_vret hx hb hr hlk hK hN hP hS d_Mod_perform_124 (by subst ex3; subst ex2; subst ex1; simp only [f_Mod_perform]; rw [if_pos h4, if_pos h18])
def f_Mod_ask (c_ : Int32) (b_ : Int32) (request_ : Int32) (becomes_ : Int32) (v : hd_V) : Int32 × hd_V :=
  let v1 := f_Mod_send request_ c_ 4 b_ 0 0 (-1) v
  let v2 := hd_u v1 28 0 ((4 * c_) + b_).toNatClampNeg becomes_
  let v3 := hd_u v2 30 0 ((4 * c_) + b_).toNatClampNeg 0
  let v4 := hd_u v3 27 0 c_.toNatClampNeg 1
  (2, v4)
set_option maxHeartbeats 4000000 in
set_option maxRecDepth 100000 in
theorem c_Mod_ask (l : Launch) {D : va_G} {cI cZ cM cC : ClassId} {n : Nat} {ad : Nat → Nat → Nat} (hJ : hd_J (hx_L n) ad) (c_ : Int32) (b_ : Int32) (request_ : Int32) (becomes_ : Int32) (v : hd_V) (hc : vp_in c_ 4) (hb4 : vp_in b_ 4) (hmm : hx_mm 1 v) : Met l y_Mod_ask w_Mod_ask { frames := 1, cells := 0, slots := 0, locals := 27 } (va_Pc [.ref (ad 20 0), .int c_, .int b_, .int request_, .int becomes_] (hx_B D cI cZ cM cC n ad v)) (va_Qi (fun r u => r = (f_Mod_ask c_ b_ request_ becomes_ v).1 ∧ u = (f_Mod_ask c_ b_ request_ becomes_ v).2) (fun u => hx_B D cI cZ cM cC n ad u) (hx_A n ad)) 0 0 (hx_A n ad) := by
  refine Met.ofW (cc := b_Mod_ask) (maxL := 5) (ret := (some .int)) (by decide) rfl ?_
  intro p e s m args below meth c s₁ B hml hv
  obtain ⟨rfl, hP, hK, hN⟩ := hv
  have hx := B.exec
  have hb := B.bytes
  have hr := B.returns
  have hlk := B.notSynchronized
  have hts0 := atoms_spec (ws := w_Mod_ask) B.pre
  have hts := fun w (hw : w ∈ lw_g) => hts0 w (List.mem_cons_of_mem _ hw)
  have hown : s.vm.findClass R_Mod = some m.cls := findClass_of_methodNamed B.named
  have hA : ∀ q, hx_A n ad q → hx_A n ad q := fun _ h => h
  have hS : va_S (hx_A n ad) s.heap s.heap [] := va_S.rf
  have hl := lv_entry ([.ref (ad 20 0), .int c_, .int b_, .int request_, .int becomes_]) (n := 5) (Nat.le_of_ble_eq_true rfl)
  rw [lg_entry_eq]
  generalize (lg_sl ([.ref (ad 20 0), .int c_, .int b_, .int request_, .int becomes_]) ++ List.replicate (5 - (lg_sl ([.ref (ad 20 0), .int c_, .int b_, .int request_, .int becomes_])).length) Slot.unset).toArray = ls at hl ⊢
  have hl : lv_has ls 5 [(0, .ref (ad 20 0)), (1, .int c_), (2, .int b_), (3, .int request_), (4, .int becomes_)] := hl
  refine lv_aload_n hx hb d_Mod_ask_0 rfl (lv_at hl 0 rfl) ?_
  refine lv_iload_n hx hb d_Mod_ask_1 rfl (lv_at hl 3 rfl) ?_
  refine lv_iload_n hx hb d_Mod_ask_2 rfl (lv_at hl 1 rfl) ?_
  refine lv_iconst (v := 4) hx hb d_Mod_ask_3 (by decide) ?_
  refine lv_iload_n hx hb d_Mod_ask_4 rfl (lv_at hl 2 rfl) ?_
  refine lv_iconst (v := 0) hx hb d_Mod_ask_5 (by decide) ?_
  refine lv_iconst (v := 0) hx hb d_Mod_ask_6 (by decide) ?_
  refine lv_iconst (v := -1) hx hb d_Mod_ask_7 (by decide) ?_
  refine hd_cV hK (va_runV (As := [.int request_, .int c_, .int 4, .int b_, .int 0, .int 0, .int (-1)]) (rest := []) ⟨hx, hb, hml, hown, hts⟩ (c_Mod_send l hJ request_ c_ 4 b_ 0 0 (-1) v hmm) (cwV 7 hts (hd_gV g_Mod_send k_563 k_565 s_29 k_8) rfl rfl rfl (by decide +kernel) ⟨Nat.le_of_ble_eq_true rfl, Nat.le_of_ble_eq_true rfl⟩) (hd_preV hK hN hP 20 0 Nat.one_pos rfl rfl [.int request_, .int c_, .int 4, .int b_, .int 0, .int 0, .int (-1)]) rfl rfl hl.1 rfl (lv_room (Nat.le_of_ble_eq_true rfl)) d_Mod_ask_8 ⟨Nat.zero_le _, Nat.zero_le _⟩) hS hA (fun H locs hP hS => ?_)
  refine lv_aload_n hx hb d_Mod_ask_11 rfl (lv_at hl 0 rfl) ?_
  refine hd_get (C := R_Mod) (T := F_Mod) (N := 27) hx hb hts i_Mod hown hK hP 20 0 Nat.one_pos he_20 rfl 8 (by decide) (hts _ k_454) (fun _ h9 => h9) hv_20_8 d_Mod_ask_12 ?_
  refine lv_iconst (v := 4) hx hb d_Mod_ask_15 (by decide) ?_
  refine lv_iload_n hx hb d_Mod_ask_16 rfl (lv_at hl 1 rfl) ?_
  refine lv_imul hx hb d_Mod_ask_17 ?_
  refine lv_iload_n hx hb d_Mod_ask_18 rfl (lv_at hl 2 rfl) ?_
  refine lv_iadd hx hb d_Mod_ask_19 ?_
  refine lv_iload hx hb d_Mod_ask_20 (lv_at hl 4 rfl) ?_
  refine hd_iast hx hb hK hP hJ hA hS 28 0 0 Nat.one_pos (fun _ => rfl) rfl (mod_4 hc hb4) d_Mod_ask_22 (fun H locs hP hS => ?_)
  refine lv_aload_n hx hb d_Mod_ask_23 rfl (lv_at hl 0 rfl) ?_
  refine hd_get (C := R_Mod) (T := F_Mod) (N := 27) hx hb hts i_Mod hown hK hP 20 0 Nat.one_pos he_20 rfl 10 (by decide) (hts _ k_456) (fun _ h9 => h9) hv_20_10 d_Mod_ask_24 ?_
  refine lv_iconst (v := 4) hx hb d_Mod_ask_27 (by decide) ?_
  refine lv_iload_n hx hb d_Mod_ask_28 rfl (lv_at hl 1 rfl) ?_
  refine lv_imul hx hb d_Mod_ask_29 ?_
  refine lv_iload_n hx hb d_Mod_ask_30 rfl (lv_at hl 2 rfl) ?_
  refine lv_iadd hx hb d_Mod_ask_31 ?_
  refine lv_iconst (v := 0) hx hb d_Mod_ask_32 (by decide) ?_
  refine hd_iast hx hb hK hP hJ hA hS 30 0 0 Nat.one_pos (fun _ => rfl) rfl (mod_4 hc hb4) d_Mod_ask_33 (fun H locs hP hS => ?_)
  refine lv_aload_n hx hb d_Mod_ask_34 rfl (lv_at hl 0 rfl) ?_
  refine hd_get (C := R_Mod) (T := F_Mod) (N := 27) hx hb hts i_Mod hown hK hP 20 0 Nat.one_pos he_20 rfl 7 (by decide) (hts _ k_453) (fun _ h9 => h9) hv_20_7 d_Mod_ask_35 ?_
  refine lv_iload_n hx hb d_Mod_ask_38 rfl (lv_at hl 1 rfl) ?_
  refine lv_iconst (v := 1) hx hb d_Mod_ask_39 (by decide) ?_
  refine hd_iast hx hb hK hP hJ hA hS 27 0 0 Nat.one_pos (fun _ => rfl) rfl hc d_Mod_ask_40 (fun H locs hP hS => ?_)
  refine lv_iconst (v := 2) hx hb d_Mod_ask_41 (by decide) ?_
  exact hd_iret hx hb hr hlk hK hN hP hS d_Mod_ask_42 ⟨by simp only [f_Mod_ask], by simp only [f_Mod_ask]⟩
def f_Mod_inUse_L4 (c_ : Int32) : Nat → Int32 → Int32 → hd_V → Int32
  | 0, _, _, _ => 0
  | k + 1, y2, y3, v =>
    if 4 ≤ y3 then
      y2
    else
      if (v 28 0 ((4 * c_) + y3).toNatClampNeg) = 0 then
        let x103 : Int32 := y3 + 1
        f_Mod_inUse_L4 c_ k y2 x103 v
      else
        let x104 : Int32 := y2 + 1
        let x105 : Int32 := y3 + 1
        f_Mod_inUse_L4 c_ k x104 x105 v
def f_Mod_inUse (c_ : Int32) (v : hd_V) : Int32 :=
  f_Mod_inUse_L4 c_ 5 0 0 v
set_option maxHeartbeats 4000000 in
set_option maxRecDepth 100000 in
theorem c_Mod_inUse (l : Launch) {D : va_G} {cI cZ cM cC : ClassId} {n : Nat} {ad : Nat → Nat → Nat} (hJ : hd_J (hx_L n) ad) (c_ : Int32) (v : hd_V) (hc : vp_in c_ 4) : Met l y_Mod_inUse w_Mod_inUse { frames := 0, cells := 0, slots := 0, locals := 0 } (va_Pc [.ref (ad 20 0), .int c_] (hx_B D cI cZ cM cC n ad v)) (va_Qi (fun r u => r = f_Mod_inUse c_ v ∧ u = v) (fun u => hx_B D cI cZ cM cC n ad u) (hx_A n ad)) 0 0 (hx_A n ad) := by
  refine Met.ofW (cc := b_Mod_inUse) (maxL := 4) (ret := (some .int)) (by decide) rfl ?_
  intro p e s m args below meth c s₁ B hml hv
  obtain ⟨rfl, hP, hK, hN⟩ := hv
  have hx := B.exec
  have hb := B.bytes
  have hr := B.returns
  have hlk := B.notSynchronized
  have hts0 := atoms_spec (ws := w_Mod_inUse) B.pre
  have hts := fun w (hw : w ∈ lw_g) => hts0 w (List.mem_cons_of_mem _ hw)
  have hown : s.vm.findClass R_Mod = some m.cls := findClass_of_methodNamed B.named
  have hA : ∀ q, hx_A n ad q → hx_A n ad q := fun _ h => h
  have hS : va_S (hx_A n ad) s.heap s.heap [] := va_S.rf
  have hl := lv_entry ([.ref (ad 20 0), .int c_]) (n := 4) (Nat.le_of_ble_eq_true rfl)
  rw [lg_entry_eq]
  generalize (lg_sl ([.ref (ad 20 0), .int c_]) ++ List.replicate (4 - (lg_sl ([.ref (ad 20 0), .int c_])).length) Slot.unset).toArray = ls at hl ⊢
  have hl : lv_has ls 4 [(0, .ref (ad 20 0)), (1, .int c_)] := hl
  have loop4 : ∀ (k i : Nat) (y2 y3 : Int32), (i ≤ 4) → (4 < i + k) → (y3 = nI i) → f_Mod_inUse c_ v = f_Mod_inUse_L4 c_ k y2 y3 v → ∀ (H : Heap) (locs : List Loc) (ls : Array Slot), hd_P D hx_cl (hx_L n) ad (hx_ce cI cZ cM cC n ad) v H → va_S (hx_A n ad) s.heap H locs → lv_has ls 4 [(3, .int y3), (2, .int y2), (0, .ref (ad 20 0)), (1, .int c_)] → W p l e (headSpec w_Mod_inUse { frames := 0, cells := 0, slots := 0, locals := 0 }).room s m [.ref (ad 20 0), .int c_].toArray below meth c H locs 0 0 (MQ below (va_Qi (fun r u => r = f_Mod_inUse c_ v ∧ u = v) (fun u => hx_B D cI cZ cM cC n ad u) (hx_A n ad)) [.ref (ad 20 0), .int c_].toArray s 0 0 (hx_A n ad)) (F0 m 4 ls []) := by
    intro k
    induction k with
    | zero =>
      intro i y2 y3 hi1 hi2 hi3
      exact absurd hi2 (by omega)
    | succ k ih =>
      intro i y2 y3 hi1 hi2 hi3 hf H locs ls hP hS hl
      refine lv_iload_n hx hb d_Mod_inUse_4 rfl (lv_at hl 0 rfl) ?_
      refine lv_iconst (v := 4) hx hb d_Mod_inUse_5 (by decide) ?_
      refine lv_icmp_ge (tgt := 36) hx hb d_Mod_inUse_6 (by decide) (fun h101 => ?_) (fun h101 => ?_)
      · refine lv_iload_n hx hb d_Mod_inUse_36 rfl (lv_at hl 1 rfl) ?_
        exact hd_iret hx hb hr hlk hK hN hP hS d_Mod_inUse_37 ⟨by rw [hf]; simp only [f_Mod_inUse_L4]; rw [if_pos h101], rfl⟩
      · have hlt : i < 4 := hd_lp hi3 (show (4 : Int32) = nI 4 from rfl) (by omega) h101
        have hin : vp_in y3 4 := hd_lpin hi3 (by omega) (by decide)
        refine lv_aload_n hx hb d_Mod_inUse_9 rfl (lv_at hl 2 rfl) ?_
        refine hd_get (C := R_Mod) (T := F_Mod) (N := 27) hx hb hts i_Mod hown hK hP 20 0 Nat.one_pos he_20 rfl 8 (by decide) (hts _ k_454) (fun _ h9 => h9) hv_20_8 d_Mod_inUse_10 ?_
        refine lv_iconst (v := 4) hx hb d_Mod_inUse_13 (by decide) ?_
        refine lv_iload_n hx hb d_Mod_inUse_14 rfl (lv_at hl 3 rfl) ?_
        refine lv_imul hx hb d_Mod_inUse_15 ?_
        refine lv_iload_n hx hb d_Mod_inUse_16 rfl (lv_at hl 0 rfl) ?_
        refine lv_iadd hx hb d_Mod_inUse_17 ?_
        refine hd_iald hx hb hK hP 28 0 0 Nat.one_pos rfl rfl (mod_4 hc hin) d_Mod_inUse_18 ?_
        refine lv_if_eq (tgt := 28) hx hb d_Mod_inUse_19 (by decide) (fun h102 => ?_) (fun h102 => ?_)
        · refine lv_iload_n hx hb d_Mod_inUse_28 rfl (lv_at hl 1 rfl) ?_
          refine lv_istore_n (lv' := [(2, .int y2), (3, .int y3), (0, .ref (ad 20 0)), (1, .int c_)]) hx hb d_Mod_inUse_29 rfl hl (by decide) rfl (fun ls hl => ?_)
          obtain ⟨x103, ex103⟩ : ∃ y : Int32, y = y3 + 1 := ⟨_, rfl⟩
          refine lv_iinc (v := x103) (lv' := [(3, .int x103), (2, .int y2), (0, .ref (ad 20 0)), (1, .int c_)]) hx hb d_Mod_inUse_30 hl (k := 1) rfl (by rw [ex103]; rfl) (by decide) rfl (fun ls hl => ?_)
          refine lv_goto (tgt := 4) hx hb d_Mod_inUse_33 (by decide) ?_
          exact ih (i + 1) y2 x103 hlt (by omega) (by rw [ex103, hi3]; exact nI_1 i) (by rw [hf]; subst ex103; simp only [f_Mod_inUse_L4]; rw [if_neg h101, if_pos h102]) _ _ _ hP hS (lv_sub hl [0, 1, 2, 3] rfl)
        · refine lv_iload_n hx hb d_Mod_inUse_22 rfl (lv_at hl 1 rfl) ?_
          refine lv_iconst (v := 1) hx hb d_Mod_inUse_23 (by decide) ?_
          refine lv_iadd hx hb d_Mod_inUse_24 ?_
          refine lv_goto (tgt := 29) hx hb d_Mod_inUse_25 (by decide) ?_
          refine lv_topi (fun x104 ex104 => ?_)
          refine lv_istore_n (lv' := [(2, .int x104), (3, .int y3), (0, .ref (ad 20 0)), (1, .int c_)]) hx hb d_Mod_inUse_29 rfl hl (by decide) rfl (fun ls hl => ?_)
          obtain ⟨x105, ex105⟩ : ∃ y : Int32, y = y3 + 1 := ⟨_, rfl⟩
          refine lv_iinc (v := x105) (lv' := [(3, .int x105), (2, .int x104), (0, .ref (ad 20 0)), (1, .int c_)]) hx hb d_Mod_inUse_30 hl (k := 1) rfl (by rw [ex105]; rfl) (by decide) rfl (fun ls hl => ?_)
          refine lv_goto (tgt := 4) hx hb d_Mod_inUse_33 (by decide) ?_
          exact ih (i + 1) x104 x105 hlt (by omega) (by rw [ex105, hi3]; exact nI_1 i) (by rw [hf]; subst ex105; subst ex104; simp only [f_Mod_inUse_L4]; rw [if_neg h101, if_neg h102]) _ _ _ hP hS (lv_sub hl [0, 1, 2, 3] rfl)
  refine lv_iconst (v := 0) hx hb d_Mod_inUse_0 (by decide) ?_
  refine lv_istore_n (lv' := [(2, .int 0), (0, .ref (ad 20 0)), (1, .int c_)]) hx hb d_Mod_inUse_1 rfl hl (by decide) rfl (fun ls hl => ?_)
  refine lv_iconst (v := 0) hx hb d_Mod_inUse_2 (by decide) ?_
  refine lv_istore_n (lv' := [(3, .int 0), (2, .int 0), (0, .ref (ad 20 0)), (1, .int c_)]) hx hb d_Mod_inUse_3 rfl hl (by decide) rfl (fun ls hl => ?_)
  exact loop4 5 0 0 0 (by omega) (by omega) nI_0.symm (by simp only [f_Mod_inUse]) _ _ _ hP hS (lv_sub hl [0, 1, 2, 3] rfl)
def f_Mod_sharers_L5 (b_ without_ : Int32) : Nat → Int32 → Int32 → hd_V → Int32
  | 0, _, _, _ => 0
  | k + 1, y3, y4, v =>
    if 4 ≤ y4 then
      y3
    else
      if (v 36 0 ((4 * b_) + y4).toNatClampNeg) = 0 then
        let x103 : Int32 := y4 + 1
        f_Mod_sharers_L5 b_ without_ k y3 x103 v
      else
        if y4 = without_ then
          let x105 : Int32 := y4 + 1
          f_Mod_sharers_L5 b_ without_ k y3 x105 v
        else
          let x106 : Int32 := y3 + 1
          let x107 : Int32 := y4 + 1
          f_Mod_sharers_L5 b_ without_ k x106 x107 v
def f_Mod_sharers (b_ : Int32) (without_ : Int32) (v : hd_V) : Int32 :=
  f_Mod_sharers_L5 b_ without_ 5 0 0 v
set_option maxHeartbeats 4000000 in
set_option maxRecDepth 100000 in
theorem c_Mod_sharers (l : Launch) {D : va_G} {cI cZ cM cC : ClassId} {n : Nat} {ad : Nat → Nat → Nat} (hJ : hd_J (hx_L n) ad) (b_ : Int32) (without_ : Int32) (v : hd_V) (hb4 : vp_in b_ 4) : Met l y_Mod_sharers w_Mod_sharers { frames := 0, cells := 0, slots := 0, locals := 0 } (va_Pc [.ref (ad 20 0), .int b_, .int without_] (hx_B D cI cZ cM cC n ad v)) (va_Qi (fun r u => r = f_Mod_sharers b_ without_ v ∧ u = v) (fun u => hx_B D cI cZ cM cC n ad u) (hx_A n ad)) 0 0 (hx_A n ad) := by
  refine Met.ofW (cc := b_Mod_sharers) (maxL := 5) (ret := (some .int)) (by decide) rfl ?_
  intro p e s m args below meth c s₁ B hml hv
  obtain ⟨rfl, hP, hK, hN⟩ := hv
  have hx := B.exec
  have hb := B.bytes
  have hr := B.returns
  have hlk := B.notSynchronized
  have hts0 := atoms_spec (ws := w_Mod_sharers) B.pre
  have hts := fun w (hw : w ∈ lw_g) => hts0 w (List.mem_cons_of_mem _ hw)
  have hown : s.vm.findClass R_Mod = some m.cls := findClass_of_methodNamed B.named
  have hA : ∀ q, hx_A n ad q → hx_A n ad q := fun _ h => h
  have hS : va_S (hx_A n ad) s.heap s.heap [] := va_S.rf
  have hl := lv_entry ([.ref (ad 20 0), .int b_, .int without_]) (n := 5) (Nat.le_of_ble_eq_true rfl)
  rw [lg_entry_eq]
  generalize (lg_sl ([.ref (ad 20 0), .int b_, .int without_]) ++ List.replicate (5 - (lg_sl ([.ref (ad 20 0), .int b_, .int without_])).length) Slot.unset).toArray = ls at hl ⊢
  have hl : lv_has ls 5 [(0, .ref (ad 20 0)), (1, .int b_), (2, .int without_)] := hl
  have loop5 : ∀ (k i : Nat) (y3 y4 : Int32), (i ≤ 4) → (4 < i + k) → (y4 = nI i) → f_Mod_sharers b_ without_ v = f_Mod_sharers_L5 b_ without_ k y3 y4 v → ∀ (H : Heap) (locs : List Loc) (ls : Array Slot), hd_P D hx_cl (hx_L n) ad (hx_ce cI cZ cM cC n ad) v H → va_S (hx_A n ad) s.heap H locs → lv_has ls 5 [(4, .int y4), (3, .int y3), (0, .ref (ad 20 0)), (1, .int b_), (2, .int without_)] → W p l e (headSpec w_Mod_sharers { frames := 0, cells := 0, slots := 0, locals := 0 }).room s m [.ref (ad 20 0), .int b_, .int without_].toArray below meth c H locs 0 0 (MQ below (va_Qi (fun r u => r = f_Mod_sharers b_ without_ v ∧ u = v) (fun u => hx_B D cI cZ cM cC n ad u) (hx_A n ad)) [.ref (ad 20 0), .int b_, .int without_].toArray s 0 0 (hx_A n ad)) (F0 m 5 ls []) := by
    intro k
    induction k with
    | zero =>
      intro i y3 y4 hi1 hi2 hi3
      exact absurd hi2 (by omega)
    | succ k ih =>
      intro i y3 y4 hi1 hi2 hi3 hf H locs ls hP hS hl
      refine lv_iload hx hb d_Mod_sharers_5 (lv_at hl 0 rfl) ?_
      refine lv_iconst (v := 4) hx hb d_Mod_sharers_7 (by decide) ?_
      refine lv_icmp_ge (tgt := 45) hx hb d_Mod_sharers_8 (by decide) (fun h101 => ?_) (fun h101 => ?_)
      · refine lv_iload_n hx hb d_Mod_sharers_45 rfl (lv_at hl 1 rfl) ?_
        exact hd_iret hx hb hr hlk hK hN hP hS d_Mod_sharers_46 ⟨by rw [hf]; simp only [f_Mod_sharers_L5]; rw [if_pos h101], rfl⟩
      · have hlt : i < 4 := hd_lp hi3 (show (4 : Int32) = nI 4 from rfl) (by omega) h101
        have hin : vp_in y4 4 := hd_lpin hi3 (by omega) (by decide)
        refine lv_aload_n hx hb d_Mod_sharers_11 rfl (lv_at hl 2 rfl) ?_
        refine hd_get (C := R_Mod) (T := F_Mod) (N := 27) hx hb hts i_Mod hown hK hP 20 0 Nat.one_pos he_20 rfl 16 (by decide) (hts _ k_462) (fun _ h9 => h9) hv_20_16 d_Mod_sharers_12 ?_
        refine lv_iconst (v := 4) hx hb d_Mod_sharers_15 (by decide) ?_
        refine lv_iload_n hx hb d_Mod_sharers_16 rfl (lv_at hl 3 rfl) ?_
        refine lv_imul hx hb d_Mod_sharers_17 ?_
        refine lv_iload hx hb d_Mod_sharers_18 (lv_at hl 0 rfl) ?_
        refine lv_iadd hx hb d_Mod_sharers_20 ?_
        refine hd_zald hx hb hK hP 36 0 1 Nat.one_pos rfl rfl (mod_4 hb4 hin) d_Mod_sharers_21 ?_
        refine lv_if_eq (tgt := 37) hx hb d_Mod_sharers_22 (by decide) (fun h102 => ?_) (fun h102 => ?_)
        · refine lv_iload_n hx hb d_Mod_sharers_37 rfl (lv_at hl 1 rfl) ?_
          refine lv_istore_n (lv' := [(3, .int y3), (4, .int y4), (0, .ref (ad 20 0)), (1, .int b_), (2, .int without_)]) hx hb d_Mod_sharers_38 rfl hl (by decide) rfl (fun ls hl => ?_)
          obtain ⟨x103, ex103⟩ : ∃ y : Int32, y = y4 + 1 := ⟨_, rfl⟩
          refine lv_iinc (v := x103) (lv' := [(4, .int x103), (3, .int y3), (0, .ref (ad 20 0)), (1, .int b_), (2, .int without_)]) hx hb d_Mod_sharers_39 hl (k := 1) rfl (by rw [ex103]; rfl) (by decide) rfl (fun ls hl => ?_)
          refine lv_goto (tgt := 5) hx hb d_Mod_sharers_42 (by decide) ?_
          exact ih (i + 1) y3 x103 hlt (by omega) (by rw [ex103, hi3]; exact nI_1 i) (by rw [hf]; subst ex103; simp only [f_Mod_sharers_L5]; rw [if_neg h101, if_pos h102]) _ _ _ hP hS (lv_sub hl [0, 1, 2, 3, 4] rfl)
        · refine lv_iload hx hb d_Mod_sharers_25 (lv_at hl 0 rfl) ?_
          refine lv_iload_n hx hb d_Mod_sharers_27 rfl (lv_at hl 4 rfl) ?_
          refine lv_icmp_eq (tgt := 37) hx hb d_Mod_sharers_28 (by decide) (fun h104 => ?_) (fun h104 => ?_)
          · refine lv_iload_n hx hb d_Mod_sharers_37 rfl (lv_at hl 1 rfl) ?_
            refine lv_istore_n (lv' := [(3, .int y3), (4, .int y4), (0, .ref (ad 20 0)), (1, .int b_), (2, .int without_)]) hx hb d_Mod_sharers_38 rfl hl (by decide) rfl (fun ls hl => ?_)
            obtain ⟨x105, ex105⟩ : ∃ y : Int32, y = y4 + 1 := ⟨_, rfl⟩
            refine lv_iinc (v := x105) (lv' := [(4, .int x105), (3, .int y3), (0, .ref (ad 20 0)), (1, .int b_), (2, .int without_)]) hx hb d_Mod_sharers_39 hl (k := 1) rfl (by rw [ex105]; rfl) (by decide) rfl (fun ls hl => ?_)
            refine lv_goto (tgt := 5) hx hb d_Mod_sharers_42 (by decide) ?_
            exact ih (i + 1) y3 x105 hlt (by omega) (by rw [ex105, hi3]; exact nI_1 i) (by rw [hf]; subst ex105; simp only [f_Mod_sharers_L5]; rw [if_neg h101, if_neg h102, if_pos h104]) _ _ _ hP hS (lv_sub hl [0, 1, 2, 3, 4] rfl)
          · refine lv_iload_n hx hb d_Mod_sharers_31 rfl (lv_at hl 1 rfl) ?_
            refine lv_iconst (v := 1) hx hb d_Mod_sharers_32 (by decide) ?_
            refine lv_iadd hx hb d_Mod_sharers_33 ?_
            refine lv_goto (tgt := 38) hx hb d_Mod_sharers_34 (by decide) ?_
            refine lv_topi (fun x106 ex106 => ?_)
            refine lv_istore_n (lv' := [(3, .int x106), (4, .int y4), (0, .ref (ad 20 0)), (1, .int b_), (2, .int without_)]) hx hb d_Mod_sharers_38 rfl hl (by decide) rfl (fun ls hl => ?_)
            obtain ⟨x107, ex107⟩ : ∃ y : Int32, y = y4 + 1 := ⟨_, rfl⟩
            refine lv_iinc (v := x107) (lv' := [(4, .int x107), (3, .int x106), (0, .ref (ad 20 0)), (1, .int b_), (2, .int without_)]) hx hb d_Mod_sharers_39 hl (k := 1) rfl (by rw [ex107]; rfl) (by decide) rfl (fun ls hl => ?_)
            refine lv_goto (tgt := 5) hx hb d_Mod_sharers_42 (by decide) ?_
            exact ih (i + 1) x106 x107 hlt (by omega) (by rw [ex107, hi3]; exact nI_1 i) (by rw [hf]; subst ex107; subst ex106; simp only [f_Mod_sharers_L5]; rw [if_neg h101, if_neg h102, if_neg h104]) _ _ _ hP hS (lv_sub hl [0, 1, 2, 3, 4] rfl)
  refine lv_iconst (v := 0) hx hb d_Mod_sharers_0 (by decide) ?_
  refine lv_istore_n (lv' := [(3, .int 0), (0, .ref (ad 20 0)), (1, .int b_), (2, .int without_)]) hx hb d_Mod_sharers_1 rfl hl (by decide) rfl (fun ls hl => ?_)
  refine lv_iconst (v := 0) hx hb d_Mod_sharers_2 (by decide) ?_
  refine lv_istore (lv' := [(4, .int 0), (3, .int 0), (0, .ref (ad 20 0)), (1, .int b_), (2, .int without_)]) hx hb d_Mod_sharers_3 hl (by decide) rfl (fun ls hl => ?_)
  exact loop5 5 0 0 0 (by omega) (by omega) nI_0.symm (by simp only [f_Mod_sharers]) _ _ _ hP hS (lv_sub hl [0, 1, 2, 3, 4] rfl)
def f_Mod_message (k_ : Int32) (what_ : Int32) (v : hd_V) : Int32 :=
  if k_ < 0 then
    (-1)
  else
    if (v 20 0 17) ≤ k_ then
      (-1)
    else
      if what_ < 0 then
        (-1)
      else
        if what_ ≤ 6 then
          if what_ = 0 then
            let x20 : Int32 := v 40 0 k_.toNatClampNeg
            if 4 ≤ what_ then
              if what_ = 4 then
                v 44 0 k_.toNatClampNeg
              else
                if what_ = 5 then
                  v 45 0 k_.toNatClampNeg
                else
                  v 46 0 k_.toNatClampNeg
            else
              x20
          else
            if what_ = 1 then
              let x16 : Int32 := v 41 0 k_.toNatClampNeg
              if 4 ≤ what_ then
                if what_ = 4 then
                  v 44 0 k_.toNatClampNeg
                else
                  if what_ = 5 then
                    v 45 0 k_.toNatClampNeg
                  else
                    v 46 0 k_.toNatClampNeg
              else
                x16
            else
              if what_ = 2 then
                let x12 : Int32 := v 42 0 k_.toNatClampNeg
                if 4 ≤ what_ then
                  if what_ = 4 then
                    v 44 0 k_.toNatClampNeg
                  else
                    if what_ = 5 then
                      v 45 0 k_.toNatClampNeg
                    else
                      v 46 0 k_.toNatClampNeg
                else
                  x12
              else
                let x8 : Int32 := v 43 0 k_.toNatClampNeg
                if 4 ≤ what_ then
                  if what_ = 4 then
                    v 44 0 k_.toNatClampNeg
                  else
                    if what_ = 5 then
                      v 45 0 k_.toNatClampNeg
                    else
                      v 46 0 k_.toNatClampNeg
                else
                  x8
        else
          (-1)
set_option maxHeartbeats 4000000 in
set_option maxRecDepth 100000 in
theorem c_Mod_message (l : Launch) {D : va_G} {cI cZ cM cC : ClassId} {n : Nat} {ad : Nat → Nat → Nat} (hJ : hd_J (hx_L n) ad) (k_ : Int32) (what_ : Int32) (v : hd_V) (hm64 : (v 20 0 17).toInt ≤ 64) : Met l y_Mod_message w_Mod_message { frames := 0, cells := 0, slots := 0, locals := 0 } (va_Pc [.ref (ad 20 0), .int k_, .int what_] (hx_B D cI cZ cM cC n ad v)) (va_Qi (fun r u => r = f_Mod_message k_ what_ v ∧ u = v) (fun u => hx_B D cI cZ cM cC n ad u) (hx_A n ad)) 0 0 (hx_A n ad) := by
  refine Met.ofW (cc := b_Mod_message) (maxL := 4) (ret := (some .int)) (by decide) rfl ?_
  intro p e s m args below meth c s₁ B hml hv
  obtain ⟨rfl, hP, hK, hN⟩ := hv
  have hx := B.exec
  have hb := B.bytes
  have hr := B.returns
  have hlk := B.notSynchronized
  have hts0 := atoms_spec (ws := w_Mod_message) B.pre
  have hts := fun w (hw : w ∈ lw_g) => hts0 w (List.mem_cons_of_mem _ hw)
  have hown : s.vm.findClass R_Mod = some m.cls := findClass_of_methodNamed B.named
  have hA : ∀ q, hx_A n ad q → hx_A n ad q := fun _ h => h
  have hS : va_S (hx_A n ad) s.heap s.heap [] := va_S.rf
  have hl := lv_entry ([.ref (ad 20 0), .int k_, .int what_]) (n := 4) (Nat.le_of_ble_eq_true rfl)
  rw [lg_entry_eq]
  generalize (lg_sl ([.ref (ad 20 0), .int k_, .int what_]) ++ List.replicate (4 - (lg_sl ([.ref (ad 20 0), .int k_, .int what_])).length) Slot.unset).toArray = ls at hl ⊢
  have hl : lv_has ls 4 [(0, .ref (ad 20 0)), (1, .int k_), (2, .int what_)] := hl
  refine lv_iload_n hx hb d_Mod_message_0 rfl (lv_at hl 1 rfl) ?_
  refine lv_if_lt (tgt := 22) hx hb d_Mod_message_1 (by decide) (fun h1 => ?_) (fun h1 => ?_)
  · refine lv_iconst (v := -1) hx hb d_Mod_message_22 (by decide) ?_
    exact hd_iret hx hb hr hlk hK hN hP hS d_Mod_message_23 ⟨by simp only [f_Mod_message]; rw [if_pos h1], rfl⟩
  · refine lv_iload_n hx hb d_Mod_message_4 rfl (lv_at hl 1 rfl) ?_
    refine lv_aload_n hx hb d_Mod_message_5 rfl (lv_at hl 0 rfl) ?_
    refine hd_get (C := R_Mod) (T := F_Mod) (N := 27) hx hb hts i_Mod hown hK hP 20 0 Nat.one_pos he_20 rfl 17 (by decide) (hts _ k_463) (fun _ h9 => h9) hv_20_17 d_Mod_message_6 ?_
    refine lv_icmp_ge (tgt := 22) hx hb d_Mod_message_9 (by decide) (fun h2 => ?_) (fun h2 => ?_)
    · refine lv_iconst (v := -1) hx hb d_Mod_message_22 (by decide) ?_
      exact hd_iret hx hb hr hlk hK hN hP hS d_Mod_message_23 ⟨by simp only [f_Mod_message]; rw [if_neg h1, if_pos h2], rfl⟩
    · refine lv_iload_n hx hb d_Mod_message_12 rfl (lv_at hl 2 rfl) ?_
      refine lv_if_lt (tgt := 22) hx hb d_Mod_message_13 (by decide) (fun h3 => ?_) (fun h3 => ?_)
      · refine lv_iconst (v := -1) hx hb d_Mod_message_22 (by decide) ?_
        exact hd_iret hx hb hr hlk hK hN hP hS d_Mod_message_23 ⟨by simp only [f_Mod_message]; rw [if_neg h1, if_neg h2, if_pos h3], rfl⟩
      · refine lv_iload_n hx hb d_Mod_message_16 rfl (lv_at hl 2 rfl) ?_
        refine lv_bipush (v := 6) hx hb d_Mod_message_17 (by decide) ?_
        refine lv_icmp_le (tgt := 24) hx hb d_Mod_message_19 (by decide) (fun h4 => ?_) (fun h4 => ?_)
        · have hk64 : vp_in k_ 64 := hd_in7 h1 h2 hm64
          refine lv_iload_n hx hb d_Mod_message_24 rfl (lv_at hl 2 rfl) ?_
          refine lv_if_ne (tgt := 37) hx hb d_Mod_message_25 (by decide) (fun h5 => ?_) (fun h5 => ?_)
          · refine lv_iload_n hx hb d_Mod_message_37 rfl (lv_at hl 2 rfl) ?_
            refine lv_iconst (v := 1) hx hb d_Mod_message_38 (by decide) ?_
            refine lv_icmp_ne (tgt := 51) hx hb d_Mod_message_39 (by decide) (fun h6 => ?_) (fun h6 => ?_)
            · refine lv_iload_n hx hb d_Mod_message_51 rfl (lv_at hl 2 rfl) ?_
              refine lv_iconst (v := 2) hx hb d_Mod_message_52 (by decide) ?_
              refine lv_icmp_ne (tgt := 65) hx hb d_Mod_message_53 (by decide) (fun h7 => ?_) (fun h7 => ?_)
              · refine lv_aload_n hx hb d_Mod_message_65 rfl (lv_at hl 0 rfl) ?_
                refine hd_get (C := R_Mod) (T := F_Mod) (N := 27) hx hb hts i_Mod hown hK hP 20 0 Nat.one_pos he_20 rfl 23 (by decide) (hts _ k_469) (fun _ h9 => h9) hv_20_23 d_Mod_message_66 ?_
                refine lv_iload_n hx hb d_Mod_message_69 rfl (lv_at hl 1 rfl) ?_
                refine hd_iald hx hb hK hP 43 0 0 Nat.one_pos rfl rfl hk64 d_Mod_message_70 ?_
                refine lv_topi (fun x8 ex8 => ?_)
                refine lv_istore_n (lv' := [(3, .int x8), (0, .ref (ad 20 0)), (1, .int k_), (2, .int what_)]) hx hb d_Mod_message_71 rfl hl (by decide) rfl (fun ls hl => ?_)
                refine lv_iload_n hx hb d_Mod_message_72 rfl (lv_at hl 3 rfl) ?_
                refine lv_iconst (v := 4) hx hb d_Mod_message_73 (by decide) ?_
                refine lv_icmp_ge (tgt := 81) hx hb d_Mod_message_74 (by decide) (fun h9 => ?_) (fun h9 => ?_)
                · refine lv_iload_n hx hb d_Mod_message_81 rfl (lv_at hl 3 rfl) ?_
                  refine lv_iconst (v := 4) hx hb d_Mod_message_82 (by decide) ?_
                  refine lv_icmp_ne (tgt := 95) hx hb d_Mod_message_83 (by decide) (fun h10 => ?_) (fun h10 => ?_)
                  · refine lv_iload_n hx hb d_Mod_message_95 rfl (lv_at hl 3 rfl) ?_
                    refine lv_iconst (v := 5) hx hb d_Mod_message_96 (by decide) ?_
                    refine lv_icmp_ne (tgt := 109) hx hb d_Mod_message_97 (by decide) (fun h11 => ?_) (fun h11 => ?_)
                    · refine lv_aload_n hx hb d_Mod_message_109 rfl (lv_at hl 1 rfl) ?_
                      refine hd_get (C := R_Mod) (T := F_Mod) (N := 27) hx hb hts i_Mod hown hK hP 20 0 Nat.one_pos he_20 rfl 26 (by decide) (hts _ k_472) (fun _ h9 => h9) hv_20_26 d_Mod_message_110 ?_
                      refine lv_iload_n hx hb d_Mod_message_113 rfl (lv_at hl 2 rfl) ?_
                      refine hd_iald hx hb hK hP 46 0 0 Nat.one_pos rfl rfl hk64 d_Mod_message_114 ?_
                      exact hd_iret hx hb hr hlk hK hN hP hS d_Mod_message_115 ⟨by subst ex8; simp only [f_Mod_message]; rw [if_neg h1, if_neg h2, if_neg h3, if_pos h4, if_neg h5, if_neg h6, if_neg h7, if_pos h9, if_neg h10, if_neg h11], rfl⟩
                    · refine lv_aload_n hx hb d_Mod_message_100 rfl (lv_at hl 1 rfl) ?_
                      refine hd_get (C := R_Mod) (T := F_Mod) (N := 27) hx hb hts i_Mod hown hK hP 20 0 Nat.one_pos he_20 rfl 25 (by decide) (hts _ k_471) (fun _ h9 => h9) hv_20_25 d_Mod_message_101 ?_
                      refine lv_iload_n hx hb d_Mod_message_104 rfl (lv_at hl 2 rfl) ?_
                      refine hd_iald hx hb hK hP 45 0 0 Nat.one_pos rfl rfl hk64 d_Mod_message_105 ?_
                      refine lv_goto (tgt := 115) hx hb d_Mod_message_106 (by decide) ?_
                      exact hd_iret hx hb hr hlk hK hN hP hS d_Mod_message_115 ⟨by subst ex8; simp only [f_Mod_message]; rw [if_neg h1, if_neg h2, if_neg h3, if_pos h4, if_neg h5, if_neg h6, if_neg h7, if_pos h9, if_neg h10, if_pos h11], rfl⟩
                  · refine lv_aload_n hx hb d_Mod_message_86 rfl (lv_at hl 1 rfl) ?_
                    refine hd_get (C := R_Mod) (T := F_Mod) (N := 27) hx hb hts i_Mod hown hK hP 20 0 Nat.one_pos he_20 rfl 24 (by decide) (hts _ k_470) (fun _ h9 => h9) hv_20_24 d_Mod_message_87 ?_
                    refine lv_iload_n hx hb d_Mod_message_90 rfl (lv_at hl 2 rfl) ?_
                    refine hd_iald hx hb hK hP 44 0 0 Nat.one_pos rfl rfl hk64 d_Mod_message_91 ?_
                    refine lv_goto (tgt := 115) hx hb d_Mod_message_92 (by decide) ?_
                    exact hd_iret hx hb hr hlk hK hN hP hS d_Mod_message_115 ⟨by subst ex8; simp only [f_Mod_message]; rw [if_neg h1, if_neg h2, if_neg h3, if_pos h4, if_neg h5, if_neg h6, if_neg h7, if_pos h9, if_pos h10], rfl⟩
                · refine lv_iload_n hx hb d_Mod_message_77 rfl (lv_at hl 0 rfl) ?_
                  refine lv_goto (tgt := 115) hx hb d_Mod_message_78 (by decide) ?_
                  exact hd_iret hx hb hr hlk hK hN hP hS d_Mod_message_115 ⟨by subst ex8; simp only [f_Mod_message]; rw [if_neg h1, if_neg h2, if_neg h3, if_pos h4, if_neg h5, if_neg h6, if_neg h7, if_neg h9], rfl⟩
              · refine lv_aload_n hx hb d_Mod_message_56 rfl (lv_at hl 0 rfl) ?_
                refine hd_get (C := R_Mod) (T := F_Mod) (N := 27) hx hb hts i_Mod hown hK hP 20 0 Nat.one_pos he_20 rfl 22 (by decide) (hts _ k_468) (fun _ h9 => h9) hv_20_22 d_Mod_message_57 ?_
                refine lv_iload_n hx hb d_Mod_message_60 rfl (lv_at hl 1 rfl) ?_
                refine hd_iald hx hb hK hP 42 0 0 Nat.one_pos rfl rfl hk64 d_Mod_message_61 ?_
                refine lv_goto (tgt := 71) hx hb d_Mod_message_62 (by decide) ?_
                refine lv_topi (fun x12 ex12 => ?_)
                refine lv_istore_n (lv' := [(3, .int x12), (0, .ref (ad 20 0)), (1, .int k_), (2, .int what_)]) hx hb d_Mod_message_71 rfl hl (by decide) rfl (fun ls hl => ?_)
                refine lv_iload_n hx hb d_Mod_message_72 rfl (lv_at hl 3 rfl) ?_
                refine lv_iconst (v := 4) hx hb d_Mod_message_73 (by decide) ?_
                refine lv_icmp_ge (tgt := 81) hx hb d_Mod_message_74 (by decide) (fun h13 => ?_) (fun h13 => ?_)
                · refine lv_iload_n hx hb d_Mod_message_81 rfl (lv_at hl 3 rfl) ?_
                  refine lv_iconst (v := 4) hx hb d_Mod_message_82 (by decide) ?_
                  refine lv_icmp_ne (tgt := 95) hx hb d_Mod_message_83 (by decide) (fun h14 => ?_) (fun h14 => ?_)
                  · refine lv_iload_n hx hb d_Mod_message_95 rfl (lv_at hl 3 rfl) ?_
                    refine lv_iconst (v := 5) hx hb d_Mod_message_96 (by decide) ?_
                    refine lv_icmp_ne (tgt := 109) hx hb d_Mod_message_97 (by decide) (fun h15 => ?_) (fun h15 => ?_)
                    · refine lv_aload_n hx hb d_Mod_message_109 rfl (lv_at hl 1 rfl) ?_
                      refine hd_get (C := R_Mod) (T := F_Mod) (N := 27) hx hb hts i_Mod hown hK hP 20 0 Nat.one_pos he_20 rfl 26 (by decide) (hts _ k_472) (fun _ h9 => h9) hv_20_26 d_Mod_message_110 ?_
                      refine lv_iload_n hx hb d_Mod_message_113 rfl (lv_at hl 2 rfl) ?_
                      refine hd_iald hx hb hK hP 46 0 0 Nat.one_pos rfl rfl hk64 d_Mod_message_114 ?_
                      exact hd_iret hx hb hr hlk hK hN hP hS d_Mod_message_115 ⟨by subst ex12; simp only [f_Mod_message]; rw [if_neg h1, if_neg h2, if_neg h3, if_pos h4, if_neg h5, if_neg h6, if_pos h7, if_pos h13, if_neg h14, if_neg h15], rfl⟩
                    · refine lv_aload_n hx hb d_Mod_message_100 rfl (lv_at hl 1 rfl) ?_
                      refine hd_get (C := R_Mod) (T := F_Mod) (N := 27) hx hb hts i_Mod hown hK hP 20 0 Nat.one_pos he_20 rfl 25 (by decide) (hts _ k_471) (fun _ h9 => h9) hv_20_25 d_Mod_message_101 ?_
                      refine lv_iload_n hx hb d_Mod_message_104 rfl (lv_at hl 2 rfl) ?_
                      refine hd_iald hx hb hK hP 45 0 0 Nat.one_pos rfl rfl hk64 d_Mod_message_105 ?_
                      refine lv_goto (tgt := 115) hx hb d_Mod_message_106 (by decide) ?_
                      exact hd_iret hx hb hr hlk hK hN hP hS d_Mod_message_115 ⟨by subst ex12; simp only [f_Mod_message]; rw [if_neg h1, if_neg h2, if_neg h3, if_pos h4, if_neg h5, if_neg h6, if_pos h7, if_pos h13, if_neg h14, if_pos h15], rfl⟩
                  · refine lv_aload_n hx hb d_Mod_message_86 rfl (lv_at hl 1 rfl) ?_
                    refine hd_get (C := R_Mod) (T := F_Mod) (N := 27) hx hb hts i_Mod hown hK hP 20 0 Nat.one_pos he_20 rfl 24 (by decide) (hts _ k_470) (fun _ h9 => h9) hv_20_24 d_Mod_message_87 ?_
                    refine lv_iload_n hx hb d_Mod_message_90 rfl (lv_at hl 2 rfl) ?_
                    refine hd_iald hx hb hK hP 44 0 0 Nat.one_pos rfl rfl hk64 d_Mod_message_91 ?_
                    refine lv_goto (tgt := 115) hx hb d_Mod_message_92 (by decide) ?_
                    exact hd_iret hx hb hr hlk hK hN hP hS d_Mod_message_115 ⟨by subst ex12; simp only [f_Mod_message]; rw [if_neg h1, if_neg h2, if_neg h3, if_pos h4, if_neg h5, if_neg h6, if_pos h7, if_pos h13, if_pos h14], rfl⟩
                · refine lv_iload_n hx hb d_Mod_message_77 rfl (lv_at hl 0 rfl) ?_
                  refine lv_goto (tgt := 115) hx hb d_Mod_message_78 (by decide) ?_
                  exact hd_iret hx hb hr hlk hK hN hP hS d_Mod_message_115 ⟨by subst ex12; simp only [f_Mod_message]; rw [if_neg h1, if_neg h2, if_neg h3, if_pos h4, if_neg h5, if_neg h6, if_pos h7, if_neg h13], rfl⟩
            · refine lv_aload_n hx hb d_Mod_message_42 rfl (lv_at hl 0 rfl) ?_
              refine hd_get (C := R_Mod) (T := F_Mod) (N := 27) hx hb hts i_Mod hown hK hP 20 0 Nat.one_pos he_20 rfl 21 (by decide) (hts _ k_467) (fun _ h9 => h9) hv_20_21 d_Mod_message_43 ?_
              refine lv_iload_n hx hb d_Mod_message_46 rfl (lv_at hl 1 rfl) ?_
              refine hd_iald hx hb hK hP 41 0 0 Nat.one_pos rfl rfl hk64 d_Mod_message_47 ?_
              refine lv_goto (tgt := 71) hx hb d_Mod_message_48 (by decide) ?_
              refine lv_topi (fun x16 ex16 => ?_)
              refine lv_istore_n (lv' := [(3, .int x16), (0, .ref (ad 20 0)), (1, .int k_), (2, .int what_)]) hx hb d_Mod_message_71 rfl hl (by decide) rfl (fun ls hl => ?_)
              refine lv_iload_n hx hb d_Mod_message_72 rfl (lv_at hl 3 rfl) ?_
              refine lv_iconst (v := 4) hx hb d_Mod_message_73 (by decide) ?_
              refine lv_icmp_ge (tgt := 81) hx hb d_Mod_message_74 (by decide) (fun h17 => ?_) (fun h17 => ?_)
              · refine lv_iload_n hx hb d_Mod_message_81 rfl (lv_at hl 3 rfl) ?_
                refine lv_iconst (v := 4) hx hb d_Mod_message_82 (by decide) ?_
                refine lv_icmp_ne (tgt := 95) hx hb d_Mod_message_83 (by decide) (fun h18 => ?_) (fun h18 => ?_)
                · refine lv_iload_n hx hb d_Mod_message_95 rfl (lv_at hl 3 rfl) ?_
                  refine lv_iconst (v := 5) hx hb d_Mod_message_96 (by decide) ?_
                  refine lv_icmp_ne (tgt := 109) hx hb d_Mod_message_97 (by decide) (fun h19 => ?_) (fun h19 => ?_)
                  · refine lv_aload_n hx hb d_Mod_message_109 rfl (lv_at hl 1 rfl) ?_
                    refine hd_get (C := R_Mod) (T := F_Mod) (N := 27) hx hb hts i_Mod hown hK hP 20 0 Nat.one_pos he_20 rfl 26 (by decide) (hts _ k_472) (fun _ h9 => h9) hv_20_26 d_Mod_message_110 ?_
                    refine lv_iload_n hx hb d_Mod_message_113 rfl (lv_at hl 2 rfl) ?_
                    refine hd_iald hx hb hK hP 46 0 0 Nat.one_pos rfl rfl hk64 d_Mod_message_114 ?_
                    exact hd_iret hx hb hr hlk hK hN hP hS d_Mod_message_115 ⟨by subst ex16; simp only [f_Mod_message]; rw [if_neg h1, if_neg h2, if_neg h3, if_pos h4, if_neg h5, if_pos h6, if_pos h17, if_neg h18, if_neg h19], rfl⟩
                  · refine lv_aload_n hx hb d_Mod_message_100 rfl (lv_at hl 1 rfl) ?_
                    refine hd_get (C := R_Mod) (T := F_Mod) (N := 27) hx hb hts i_Mod hown hK hP 20 0 Nat.one_pos he_20 rfl 25 (by decide) (hts _ k_471) (fun _ h9 => h9) hv_20_25 d_Mod_message_101 ?_
                    refine lv_iload_n hx hb d_Mod_message_104 rfl (lv_at hl 2 rfl) ?_
                    refine hd_iald hx hb hK hP 45 0 0 Nat.one_pos rfl rfl hk64 d_Mod_message_105 ?_
                    refine lv_goto (tgt := 115) hx hb d_Mod_message_106 (by decide) ?_
                    exact hd_iret hx hb hr hlk hK hN hP hS d_Mod_message_115 ⟨by subst ex16; simp only [f_Mod_message]; rw [if_neg h1, if_neg h2, if_neg h3, if_pos h4, if_neg h5, if_pos h6, if_pos h17, if_neg h18, if_pos h19], rfl⟩
                · refine lv_aload_n hx hb d_Mod_message_86 rfl (lv_at hl 1 rfl) ?_
                  refine hd_get (C := R_Mod) (T := F_Mod) (N := 27) hx hb hts i_Mod hown hK hP 20 0 Nat.one_pos he_20 rfl 24 (by decide) (hts _ k_470) (fun _ h9 => h9) hv_20_24 d_Mod_message_87 ?_
                  refine lv_iload_n hx hb d_Mod_message_90 rfl (lv_at hl 2 rfl) ?_
                  refine hd_iald hx hb hK hP 44 0 0 Nat.one_pos rfl rfl hk64 d_Mod_message_91 ?_
                  refine lv_goto (tgt := 115) hx hb d_Mod_message_92 (by decide) ?_
                  exact hd_iret hx hb hr hlk hK hN hP hS d_Mod_message_115 ⟨by subst ex16; simp only [f_Mod_message]; rw [if_neg h1, if_neg h2, if_neg h3, if_pos h4, if_neg h5, if_pos h6, if_pos h17, if_pos h18], rfl⟩
              · refine lv_iload_n hx hb d_Mod_message_77 rfl (lv_at hl 0 rfl) ?_
                refine lv_goto (tgt := 115) hx hb d_Mod_message_78 (by decide) ?_
                exact hd_iret hx hb hr hlk hK hN hP hS d_Mod_message_115 ⟨by subst ex16; simp only [f_Mod_message]; rw [if_neg h1, if_neg h2, if_neg h3, if_pos h4, if_neg h5, if_pos h6, if_neg h17], rfl⟩
          · refine lv_aload_n hx hb d_Mod_message_28 rfl (lv_at hl 0 rfl) ?_
            refine hd_get (C := R_Mod) (T := F_Mod) (N := 27) hx hb hts i_Mod hown hK hP 20 0 Nat.one_pos he_20 rfl 20 (by decide) (hts _ k_466) (fun _ h9 => h9) hv_20_20 d_Mod_message_29 ?_
            refine lv_iload_n hx hb d_Mod_message_32 rfl (lv_at hl 1 rfl) ?_
            refine hd_iald hx hb hK hP 40 0 0 Nat.one_pos rfl rfl hk64 d_Mod_message_33 ?_
            refine lv_goto (tgt := 71) hx hb d_Mod_message_34 (by decide) ?_
            refine lv_topi (fun x20 ex20 => ?_)
            refine lv_istore_n (lv' := [(3, .int x20), (0, .ref (ad 20 0)), (1, .int k_), (2, .int what_)]) hx hb d_Mod_message_71 rfl hl (by decide) rfl (fun ls hl => ?_)
            refine lv_iload_n hx hb d_Mod_message_72 rfl (lv_at hl 3 rfl) ?_
            refine lv_iconst (v := 4) hx hb d_Mod_message_73 (by decide) ?_
            refine lv_icmp_ge (tgt := 81) hx hb d_Mod_message_74 (by decide) (fun h21 => ?_) (fun h21 => ?_)
            · refine lv_iload_n hx hb d_Mod_message_81 rfl (lv_at hl 3 rfl) ?_
              refine lv_iconst (v := 4) hx hb d_Mod_message_82 (by decide) ?_
              refine lv_icmp_ne (tgt := 95) hx hb d_Mod_message_83 (by decide) (fun h22 => ?_) (fun h22 => ?_)
              · refine lv_iload_n hx hb d_Mod_message_95 rfl (lv_at hl 3 rfl) ?_
                refine lv_iconst (v := 5) hx hb d_Mod_message_96 (by decide) ?_
                refine lv_icmp_ne (tgt := 109) hx hb d_Mod_message_97 (by decide) (fun h23 => ?_) (fun h23 => ?_)
                · refine lv_aload_n hx hb d_Mod_message_109 rfl (lv_at hl 1 rfl) ?_
                  refine hd_get (C := R_Mod) (T := F_Mod) (N := 27) hx hb hts i_Mod hown hK hP 20 0 Nat.one_pos he_20 rfl 26 (by decide) (hts _ k_472) (fun _ h9 => h9) hv_20_26 d_Mod_message_110 ?_
                  refine lv_iload_n hx hb d_Mod_message_113 rfl (lv_at hl 2 rfl) ?_
                  refine hd_iald hx hb hK hP 46 0 0 Nat.one_pos rfl rfl hk64 d_Mod_message_114 ?_
                  exact hd_iret hx hb hr hlk hK hN hP hS d_Mod_message_115 ⟨by subst ex20; simp only [f_Mod_message]; rw [if_neg h1, if_neg h2, if_neg h3, if_pos h4, if_pos h5, if_pos h21, if_neg h22, if_neg h23], rfl⟩
                · refine lv_aload_n hx hb d_Mod_message_100 rfl (lv_at hl 1 rfl) ?_
                  refine hd_get (C := R_Mod) (T := F_Mod) (N := 27) hx hb hts i_Mod hown hK hP 20 0 Nat.one_pos he_20 rfl 25 (by decide) (hts _ k_471) (fun _ h9 => h9) hv_20_25 d_Mod_message_101 ?_
                  refine lv_iload_n hx hb d_Mod_message_104 rfl (lv_at hl 2 rfl) ?_
                  refine hd_iald hx hb hK hP 45 0 0 Nat.one_pos rfl rfl hk64 d_Mod_message_105 ?_
                  refine lv_goto (tgt := 115) hx hb d_Mod_message_106 (by decide) ?_
                  exact hd_iret hx hb hr hlk hK hN hP hS d_Mod_message_115 ⟨by subst ex20; simp only [f_Mod_message]; rw [if_neg h1, if_neg h2, if_neg h3, if_pos h4, if_pos h5, if_pos h21, if_neg h22, if_pos h23], rfl⟩
              · refine lv_aload_n hx hb d_Mod_message_86 rfl (lv_at hl 1 rfl) ?_
                refine hd_get (C := R_Mod) (T := F_Mod) (N := 27) hx hb hts i_Mod hown hK hP 20 0 Nat.one_pos he_20 rfl 24 (by decide) (hts _ k_470) (fun _ h9 => h9) hv_20_24 d_Mod_message_87 ?_
                refine lv_iload_n hx hb d_Mod_message_90 rfl (lv_at hl 2 rfl) ?_
                refine hd_iald hx hb hK hP 44 0 0 Nat.one_pos rfl rfl hk64 d_Mod_message_91 ?_
                refine lv_goto (tgt := 115) hx hb d_Mod_message_92 (by decide) ?_
                exact hd_iret hx hb hr hlk hK hN hP hS d_Mod_message_115 ⟨by subst ex20; simp only [f_Mod_message]; rw [if_neg h1, if_neg h2, if_neg h3, if_pos h4, if_pos h5, if_pos h21, if_pos h22], rfl⟩
            · refine lv_iload_n hx hb d_Mod_message_77 rfl (lv_at hl 0 rfl) ?_
              refine lv_goto (tgt := 115) hx hb d_Mod_message_78 (by decide) ?_
              exact hd_iret hx hb hr hlk hK hN hP hS d_Mod_message_115 ⟨by subst ex20; simp only [f_Mod_message]; rw [if_neg h1, if_neg h2, if_neg h3, if_pos h4, if_pos h5, if_neg h21], rfl⟩
        · refine lv_iconst (v := -1) hx hb d_Mod_message_22 (by decide) ?_
          exact hd_iret hx hb hr hlk hK hN hP hS d_Mod_message_23 ⟨by simp only [f_Mod_message]; rw [if_neg h1, if_neg h2, if_neg h3, if_neg h4], rfl⟩
