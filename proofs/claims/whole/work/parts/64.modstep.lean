def f_Mod_home_L13 (block_ : Int32) : Nat → Int32 → Int32 → hd_V → Int32
  | 0, _, _, _ => 0
  | k + 1, y2, y3, v =>
    if 4 ≤ y3 then
      if (v 34 0 block_.toNatClampNeg) = 2 then
        ((v 34 0 block_.toNatClampNeg) + (4 * ((v 35 0 block_.toNatClampNeg) + 1))) + (32 * y2)
      else
        ((v 34 0 block_.toNatClampNeg) + 0) + (32 * y2)
    else
      if (v 36 0 ((4 * block_) + y3).toNatClampNeg) = 0 then
        let x105 : Int32 := y3 + 1
        f_Mod_home_L13 block_ k y2 x105 v
      else
        let x106 : Int32 := y2 + (1 <<< (y3 &&& 31))
        let x107 : Int32 := y3 + 1
        f_Mod_home_L13 block_ k x106 x107 v
def f_Mod_home (block_ : Int32) (v : hd_V) : Int32 :=
  if (f_Mod_isBlock block_) = 0 then
    (-1)
  else
    f_Mod_home_L13 block_ 5 0 0 v
set_option maxHeartbeats 4000000 in
set_option maxRecDepth 100000 in
theorem c_Mod_home (l : Launch) {D : va_G} {cI cZ cM cC : ClassId} {n : Nat} {ad : Nat → Nat → Nat} (hJ : hd_J (hx_L n) ad) (block_ : Int32) (v : hd_V) : Met l y_Mod_home w_Mod_home { frames := 1, cells := 0, slots := 0, locals := 20 } (va_Pc [.ref (ad 20 0), .int block_] (hx_B D cI cZ cM cC n ad v)) (va_Qi (fun r u => r = f_Mod_home block_ v ∧ u = v) (fun u => hx_B D cI cZ cM cC n ad u) (hx_A n ad)) 0 0 (hx_A n ad) := by
  refine Met.ofW (cc := b_Mod_home) (maxL := 4) (ret := (some .int)) (by decide) rfl ?_
  intro p e s m args below meth c s₁ B hml hv
  obtain ⟨rfl, hP, hK, hN⟩ := hv
  have hx := B.exec
  have hb := B.bytes
  have hr := B.returns
  have hlk := B.notSynchronized
  have hts0 := atoms_spec (ws := w_Mod_home) B.pre
  have hts := fun w (hw : w ∈ lw_g) => hts0 w (List.mem_cons_of_mem _ hw)
  have hown : s.vm.findClass R_Mod = some m.cls := findClass_of_methodNamed B.named
  have hA : ∀ q, hx_A n ad q → hx_A n ad q := fun _ h => h
  have hS : va_S (hx_A n ad) s.heap s.heap [] := va_S.rf
  have hl := lv_entry ([.ref (ad 20 0), .int block_]) (n := 4) (Nat.le_of_ble_eq_true rfl)
  rw [lg_entry_eq]
  generalize (lg_sl ([.ref (ad 20 0), .int block_]) ++ List.replicate (4 - (lg_sl ([.ref (ad 20 0), .int block_])).length) Slot.unset).toArray = ls at hl ⊢
  have hl : lv_has ls 4 [(0, .ref (ad 20 0)), (1, .int block_)] := hl
  have loop13 : ∀ (k i : Nat) (y2 y3 : Int32), (i ≤ 4) → (4 < i + k) → (y3 = nI i) → (vp_in block_ 4) → f_Mod_home block_ v = f_Mod_home_L13 block_ k y2 y3 v → ∀ (H : Heap) (locs : List Loc) (ls : Array Slot), hd_P D hx_cl (hx_L n) ad (hx_ce cI cZ cM cC n ad) v H → va_S (hx_A n ad) s.heap H locs → lv_has ls 4 [(3, .int y3), (2, .int y2), (0, .ref (ad 20 0)), (1, .int block_)] → W p l e (headSpec w_Mod_home { frames := 1, cells := 0, slots := 0, locals := 20 }).room s m [.ref (ad 20 0), .int block_].toArray below meth c H locs 0 0 (MQ below (va_Qi (fun r u => r = f_Mod_home block_ v ∧ u = v) (fun u => hx_B D cI cZ cM cC n ad u) (hx_A n ad)) [.ref (ad 20 0), .int block_].toArray s 0 0 (hx_A n ad)) (F0 m 13 ls []) := by
    intro k
    induction k with
    | zero =>
      intro i y2 y3 hi1 hi2 hi3 hb4
      exact absurd hi2 (by omega)
    | succ k ih =>
      intro i y2 y3 hi1 hi2 hi3 hb4 hf H locs ls hP hS hl
      refine lv_iload_n hx hb d_Mod_home_13 rfl (lv_at hl 0 rfl) ?_
      refine lv_iconst (v := 4) hx hb d_Mod_home_14 (by decide) ?_
      refine lv_icmp_ge (tgt := 47) hx hb d_Mod_home_15 (by decide) (fun h102 => ?_) (fun h102 => ?_)
      · refine lv_aload_n hx hb d_Mod_home_47 rfl (lv_at hl 2 rfl) ?_
        refine hd_get (C := R_Mod) (T := F_Mod) (N := 27) hx hb hts i_Mod hown hK hP 20 0 Nat.one_pos he_20 rfl 14 (by decide) (hts _ k_460) (fun _ h9 => h9) hv_20_14 d_Mod_home_48 ?_
        refine lv_iload_n hx hb d_Mod_home_51 rfl (lv_at hl 3 rfl) ?_
        refine hd_iald hx hb hK hP 34 0 0 Nat.one_pos rfl rfl hb4 d_Mod_home_52 ?_
        refine lv_aload_n hx hb d_Mod_home_53 rfl (lv_at hl 2 rfl) ?_
        refine hd_get (C := R_Mod) (T := F_Mod) (N := 27) hx hb hts i_Mod hown hK hP 20 0 Nat.one_pos he_20 rfl 14 (by decide) (hts _ k_460) (fun _ h9 => h9) hv_20_14 d_Mod_home_54 ?_
        refine lv_iload_n hx hb d_Mod_home_57 rfl (lv_at hl 3 rfl) ?_
        refine hd_iald hx hb hK hP 34 0 0 Nat.one_pos rfl rfl hb4 d_Mod_home_58 ?_
        refine lv_iconst (v := 2) hx hb d_Mod_home_59 (by decide) ?_
        refine lv_icmp_ne (tgt := 76) hx hb d_Mod_home_60 (by decide) (fun h103 => ?_) (fun h103 => ?_)
        · refine lv_iconst (v := 0) hx hb d_Mod_home_76 (by decide) ?_
          refine lv_iadd hx hb d_Mod_home_77 ?_
          refine lv_bipush (v := 32) hx hb d_Mod_home_78 (by decide) ?_
          refine lv_iload_n hx hb d_Mod_home_80 rfl (lv_at hl 1 rfl) ?_
          refine lv_imul hx hb d_Mod_home_81 ?_
          refine lv_iadd hx hb d_Mod_home_82 ?_
          exact hd_iret hx hb hr hlk hK hN hP hS d_Mod_home_83 ⟨by rw [hf]; simp only [f_Mod_home_L13]; rw [if_pos h102, if_neg h103], rfl⟩
        · refine lv_iconst (v := 4) hx hb d_Mod_home_63 (by decide) ?_
          refine lv_aload_n hx hb d_Mod_home_64 rfl (lv_at hl 2 rfl) ?_
          refine hd_get (C := R_Mod) (T := F_Mod) (N := 27) hx hb hts i_Mod hown hK hP 20 0 Nat.one_pos he_20 rfl 15 (by decide) (hts _ k_461) (fun _ h9 => h9) hv_20_15 d_Mod_home_65 ?_
          refine lv_iload_n hx hb d_Mod_home_68 rfl (lv_at hl 3 rfl) ?_
          refine hd_iald hx hb hK hP 35 0 0 Nat.one_pos rfl rfl hb4 d_Mod_home_69 ?_
          refine lv_iconst (v := 1) hx hb d_Mod_home_70 (by decide) ?_
          refine lv_iadd hx hb d_Mod_home_71 ?_
          refine lv_imul hx hb d_Mod_home_72 ?_
          refine lv_goto (tgt := 77) hx hb d_Mod_home_73 (by decide) ?_
          refine lv_iadd hx hb d_Mod_home_77 ?_
          refine lv_bipush (v := 32) hx hb d_Mod_home_78 (by decide) ?_
          refine lv_iload_n hx hb d_Mod_home_80 rfl (lv_at hl 1 rfl) ?_
          refine lv_imul hx hb d_Mod_home_81 ?_
          refine lv_iadd hx hb d_Mod_home_82 ?_
          exact hd_iret hx hb hr hlk hK hN hP hS d_Mod_home_83 ⟨by rw [hf]; simp only [f_Mod_home_L13]; rw [if_pos h102, if_pos h103], rfl⟩
      · have hlt : i < 4 := hd_lp hi3 (show (4 : Int32) = nI 4 from rfl) (by omega) h102
        have hin : vp_in y3 4 := hd_lpin hi3 (by omega) (by decide)
        refine lv_aload_n hx hb d_Mod_home_18 rfl (lv_at hl 2 rfl) ?_
        refine hd_get (C := R_Mod) (T := F_Mod) (N := 27) hx hb hts i_Mod hown hK hP 20 0 Nat.one_pos he_20 rfl 16 (by decide) (hts _ k_462) (fun _ h9 => h9) hv_20_16 d_Mod_home_19 ?_
        refine lv_iconst (v := 4) hx hb d_Mod_home_22 (by decide) ?_
        refine lv_iload_n hx hb d_Mod_home_23 rfl (lv_at hl 3 rfl) ?_
        refine lv_imul hx hb d_Mod_home_24 ?_
        refine lv_iload_n hx hb d_Mod_home_25 rfl (lv_at hl 0 rfl) ?_
        refine lv_iadd hx hb d_Mod_home_26 ?_
        refine hd_zald hx hb hK hP 36 0 1 Nat.one_pos rfl rfl (mod_4 hb4 hin) d_Mod_home_27 ?_
        refine lv_if_eq (tgt := 39) hx hb d_Mod_home_28 (by decide) (fun h104 => ?_) (fun h104 => ?_)
        · refine lv_iload_n hx hb d_Mod_home_39 rfl (lv_at hl 1 rfl) ?_
          refine lv_istore_n (lv' := [(2, .int y2), (3, .int y3), (0, .ref (ad 20 0)), (1, .int block_)]) hx hb d_Mod_home_40 rfl hl (by decide) rfl (fun ls hl => ?_)
          obtain ⟨x105, ex105⟩ : ∃ y : Int32, y = y3 + 1 := ⟨_, rfl⟩
          refine lv_iinc (v := x105) (lv' := [(3, .int x105), (2, .int y2), (0, .ref (ad 20 0)), (1, .int block_)]) hx hb d_Mod_home_41 hl (k := 1) rfl (by rw [ex105]; rfl) (by decide) rfl (fun ls hl => ?_)
          refine lv_goto (tgt := 13) hx hb d_Mod_home_44 (by decide) ?_
          exact ih (i + 1) y2 x105 hlt (by omega) (by rw [ex105, hi3]; exact nI_1 i) hb4 (by rw [hf]; subst ex105; simp only [f_Mod_home_L13]; rw [if_neg h102, if_pos h104]) _ _ _ hP hS (lv_sub hl [0, 1, 2, 3] rfl)
        · refine lv_iload_n hx hb d_Mod_home_31 rfl (lv_at hl 1 rfl) ?_
          refine lv_iconst (v := 1) hx hb d_Mod_home_32 (by decide) ?_
          refine lv_iload_n hx hb d_Mod_home_33 rfl (lv_at hl 0 rfl) ?_
          refine lv_ishl hx hb d_Mod_home_34 ?_
          refine lv_iadd hx hb d_Mod_home_35 ?_
          refine lv_goto (tgt := 40) hx hb d_Mod_home_36 (by decide) ?_
          refine lv_topi (fun x106 ex106 => ?_)
          refine lv_istore_n (lv' := [(2, .int x106), (3, .int y3), (0, .ref (ad 20 0)), (1, .int block_)]) hx hb d_Mod_home_40 rfl hl (by decide) rfl (fun ls hl => ?_)
          obtain ⟨x107, ex107⟩ : ∃ y : Int32, y = y3 + 1 := ⟨_, rfl⟩
          refine lv_iinc (v := x107) (lv' := [(3, .int x107), (2, .int x106), (0, .ref (ad 20 0)), (1, .int block_)]) hx hb d_Mod_home_41 hl (k := 1) rfl (by rw [ex107]; rfl) (by decide) rfl (fun ls hl => ?_)
          refine lv_goto (tgt := 13) hx hb d_Mod_home_44 (by decide) ?_
          exact ih (i + 1) x106 x107 hlt (by omega) (by rw [ex107, hi3]; exact nI_1 i) hb4 (by rw [hf]; subst ex107; subst ex106; simp only [f_Mod_home_L13]; rw [if_neg h102, if_neg h104]) _ _ _ hP hS (lv_sub hl [0, 1, 2, 3] rfl)
  refine lv_iload_n hx hb d_Mod_home_0 rfl (lv_at hl 1 rfl) ?_
  refine hd_cI hK (va_runS (As := [.int block_]) (rest := []) ⟨hx, hb, hml, hown, hts⟩ (c_Mod_isBlock l hJ block_ v ) (va_cwS 1 hts (hd_gS g_Mod_isBlock k_540 k_541 k_8) rfl rfl rfl (by decide +kernel) ⟨Nat.le_of_ble_eq_true rfl, Nat.le_of_ble_eq_true rfl⟩) (hd_preS hK hN hP [.int block_]) rfl rfl hl.1 rfl (lv_room (Nat.le_of_ble_eq_true rfl)) d_Mod_home_1 ⟨Nat.zero_le _, Nat.zero_le _⟩) hS hA (fun H locs hP hS => ?_)
  refine lv_if_ne (tgt := 9) hx hb d_Mod_home_4 (by decide) (fun h1 => ?_) (fun h1 => ?_)
  · have hbkh1 := in_Mod_isBlock h1
    refine lv_iconst (v := 0) hx hb d_Mod_home_9 (by decide) ?_
    refine lv_istore_n (lv' := [(2, .int 0), (0, .ref (ad 20 0)), (1, .int block_)]) hx hb d_Mod_home_10 rfl hl (by decide) rfl (fun ls hl => ?_)
    refine lv_iconst (v := 0) hx hb d_Mod_home_11 (by decide) ?_
    refine lv_istore_n (lv' := [(3, .int 0), (2, .int 0), (0, .ref (ad 20 0)), (1, .int block_)]) hx hb d_Mod_home_12 rfl hl (by decide) rfl (fun ls hl => ?_)
    exact loop13 5 0 0 0 (by omega) (by omega) nI_0.symm hbkh1 (by simp only [f_Mod_home]; rw [if_neg h1]) _ _ _ hP hS (lv_sub hl [0, 1, 2, 3] rfl)
  · refine lv_iconst (v := -1) hx hb d_Mod_home_7 (by decide) ?_
    exact hd_iret hx hb hr hlk hK hN hP hS d_Mod_home_8 ⟨by simp only [f_Mod_home]; rw [if_pos h1], rfl⟩
def f_Mod_behind_L2 (k_ : Int32) : Nat → Int32 → hd_V → Int32
  | 0, _, _ => 0
  | k + 1, y2, v =>
    if k_ ≤ y2 then
      0
    else
      if (v 40 0 y2.toNatClampNeg) < 4 then
        let x103 : Int32 := y2 + 1
        f_Mod_behind_L2 k_ k x103 v
      else
        if 7 < (v 40 0 y2.toNatClampNeg) then
          let x105 : Int32 := y2 + 1
          f_Mod_behind_L2 k_ k x105 v
        else
          if (v 43 0 y2.toNatClampNeg) = (v 43 0 k_.toNatClampNeg) then
            if (v 42 0 y2.toNatClampNeg) = (v 42 0 k_.toNatClampNeg) then
              if (v 40 0 k_.toNatClampNeg) < 4 then
                0
              else
                if 7 < (v 40 0 k_.toNatClampNeg) then
                  0
                else
                  1
            else
              let x109 : Int32 := y2 + 1
              f_Mod_behind_L2 k_ k x109 v
          else
            let x107 : Int32 := y2 + 1
            f_Mod_behind_L2 k_ k x107 v
def f_Mod_behind (k_ : Int32) (v : hd_V) : Int32 :=
  f_Mod_behind_L2 k_ 65 0 v
set_option maxHeartbeats 4000000 in
set_option maxRecDepth 100000 in
theorem c_Mod_behind (l : Launch) {D : va_G} {cI cZ cM cC : ClassId} {n : Nat} {ad : Nat → Nat → Nat} (hJ : hd_J (hx_L n) ad) (k_ : Int32) (v : hd_V) (hk : vp_in k_ 64) : Met l y_Mod_behind w_Mod_behind { frames := 0, cells := 0, slots := 0, locals := 0 } (va_Pc [.ref (ad 20 0), .int k_] (hx_B D cI cZ cM cC n ad v)) (va_Qi (fun r u => r = f_Mod_behind k_ v ∧ u = v) (fun u => hx_B D cI cZ cM cC n ad u) (hx_A n ad)) 0 0 (hx_A n ad) := by
  refine Met.ofW (cc := b_Mod_behind) (maxL := 3) (ret := (some .boolean)) (by decide) rfl ?_
  intro p e s m args below meth c s₁ B hml hv
  obtain ⟨rfl, hP, hK, hN⟩ := hv
  have hx := B.exec
  have hb := B.bytes
  have hr := B.returns
  have hlk := B.notSynchronized
  have hts0 := atoms_spec (ws := w_Mod_behind) B.pre
  have hts := fun w (hw : w ∈ lw_g) => hts0 w (List.mem_cons_of_mem _ hw)
  have hown : s.vm.findClass R_Mod = some m.cls := findClass_of_methodNamed B.named
  have hA : ∀ q, hx_A n ad q → hx_A n ad q := fun _ h => h
  have hS : va_S (hx_A n ad) s.heap s.heap [] := va_S.rf
  have hl := lv_entry ([.ref (ad 20 0), .int k_]) (n := 3) (Nat.le_of_ble_eq_true rfl)
  rw [lg_entry_eq]
  generalize (lg_sl ([.ref (ad 20 0), .int k_]) ++ List.replicate (3 - (lg_sl ([.ref (ad 20 0), .int k_])).length) Slot.unset).toArray = ls at hl ⊢
  have hl : lv_has ls 3 [(0, .ref (ad 20 0)), (1, .int k_)] := hl
  have hk2 : k_ = nI k_.toNatClampNeg := hd_nI hk
  have hk3 : k_.toNatClampNeg < 64 := hd_lt hk
  have loop2 : ∀ (k i : Nat) (y2 : Int32), (i ≤ k_.toNatClampNeg) → (k_.toNatClampNeg < i + k) → (y2 = nI i) → f_Mod_behind k_ v = f_Mod_behind_L2 k_ k y2 v → ∀ (H : Heap) (locs : List Loc) (ls : Array Slot), hd_P D hx_cl (hx_L n) ad (hx_ce cI cZ cM cC n ad) v H → va_S (hx_A n ad) s.heap H locs → lv_has ls 3 [(2, .int y2), (0, .ref (ad 20 0)), (1, .int k_)] → W p l e (headSpec w_Mod_behind { frames := 0, cells := 0, slots := 0, locals := 0 }).room s m [.ref (ad 20 0), .int k_].toArray below meth c H locs 0 0 (MQ below (va_Qi (fun r u => r = f_Mod_behind k_ v ∧ u = v) (fun u => hx_B D cI cZ cM cC n ad u) (hx_A n ad)) [.ref (ad 20 0), .int k_].toArray s 0 0 (hx_A n ad)) (F0 m 2 ls []) := by
    intro k
    induction k with
    | zero =>
      intro i y2 hi1 hi2 hi3
      exact absurd hi2 (by omega)
    | succ k ih =>
      intro i y2 hi1 hi2 hi3 hf H locs ls hP hS hl
      refine lv_iload_n hx hb d_Mod_behind_2 rfl (lv_at hl 0 rfl) ?_
      refine lv_iload_n hx hb d_Mod_behind_3 rfl (lv_at hl 2 rfl) ?_
      refine lv_icmp_ge (tgt := 91) hx hb d_Mod_behind_4 (by decide) (fun h101 => ?_) (fun h101 => ?_)
      · refine lv_iconst (v := 0) hx hb d_Mod_behind_91 (by decide) ?_
        exact hd_zret hx hb hr hlk hK hN hP hS d_Mod_behind_92 rfl ⟨by rw [hf]; simp only [f_Mod_behind_L2]; rw [if_pos h101], rfl⟩
      · have hlt : i < k_.toNatClampNeg := hd_lp hi3 hk2 (by omega) h101
        have hin : vp_in y2 64 := hd_lpin hi3 (by omega) (by omega)
        refine lv_aload_n hx hb d_Mod_behind_7 rfl (lv_at hl 1 rfl) ?_
        refine hd_get (C := R_Mod) (T := F_Mod) (N := 27) hx hb hts i_Mod hown hK hP 20 0 Nat.one_pos he_20 rfl 20 (by decide) (hts _ k_466) (fun _ h9 => h9) hv_20_20 d_Mod_behind_8 ?_
        refine lv_iload_n hx hb d_Mod_behind_11 rfl (lv_at hl 0 rfl) ?_
        refine hd_iald hx hb hK hP 40 0 0 Nat.one_pos rfl rfl hin d_Mod_behind_12 ?_
        refine lv_iconst (v := 4) hx hb d_Mod_behind_13 (by decide) ?_
        refine lv_icmp_lt (tgt := 85) hx hb d_Mod_behind_14 (by decide) (fun h102 => ?_) (fun h102 => ?_)
        · obtain ⟨x103, ex103⟩ : ∃ y : Int32, y = y2 + 1 := ⟨_, rfl⟩
          refine lv_iinc (v := x103) (lv' := [(2, .int x103), (0, .ref (ad 20 0)), (1, .int k_)]) hx hb d_Mod_behind_85 hl (k := 0) rfl (by rw [ex103]; rfl) (by decide) rfl (fun ls hl => ?_)
          refine lv_goto (tgt := 2) hx hb d_Mod_behind_88 (by decide) ?_
          exact ih (i + 1) x103 hlt (by omega) (by rw [ex103, hi3]; exact nI_1 i) (by rw [hf]; subst ex103; simp only [f_Mod_behind_L2]; rw [if_neg h101, if_pos h102]) _ _ _ hP hS (lv_sub hl [0, 1, 2] rfl)
        · refine lv_aload_n hx hb d_Mod_behind_17 rfl (lv_at hl 1 rfl) ?_
          refine hd_get (C := R_Mod) (T := F_Mod) (N := 27) hx hb hts i_Mod hown hK hP 20 0 Nat.one_pos he_20 rfl 20 (by decide) (hts _ k_466) (fun _ h9 => h9) hv_20_20 d_Mod_behind_18 ?_
          refine lv_iload_n hx hb d_Mod_behind_21 rfl (lv_at hl 0 rfl) ?_
          refine hd_iald hx hb hK hP 40 0 0 Nat.one_pos rfl rfl hin d_Mod_behind_22 ?_
          refine lv_bipush (v := 7) hx hb d_Mod_behind_23 (by decide) ?_
          refine lv_icmp_gt (tgt := 85) hx hb d_Mod_behind_25 (by decide) (fun h104 => ?_) (fun h104 => ?_)
          · obtain ⟨x105, ex105⟩ : ∃ y : Int32, y = y2 + 1 := ⟨_, rfl⟩
            refine lv_iinc (v := x105) (lv' := [(2, .int x105), (0, .ref (ad 20 0)), (1, .int k_)]) hx hb d_Mod_behind_85 hl (k := 0) rfl (by rw [ex105]; rfl) (by decide) rfl (fun ls hl => ?_)
            refine lv_goto (tgt := 2) hx hb d_Mod_behind_88 (by decide) ?_
            exact ih (i + 1) x105 hlt (by omega) (by rw [ex105, hi3]; exact nI_1 i) (by rw [hf]; subst ex105; simp only [f_Mod_behind_L2]; rw [if_neg h101, if_neg h102, if_pos h104]) _ _ _ hP hS (lv_sub hl [0, 1, 2] rfl)
          · refine lv_aload_n hx hb d_Mod_behind_28 rfl (lv_at hl 1 rfl) ?_
            refine hd_get (C := R_Mod) (T := F_Mod) (N := 27) hx hb hts i_Mod hown hK hP 20 0 Nat.one_pos he_20 rfl 23 (by decide) (hts _ k_469) (fun _ h9 => h9) hv_20_23 d_Mod_behind_29 ?_
            refine lv_iload_n hx hb d_Mod_behind_32 rfl (lv_at hl 0 rfl) ?_
            refine hd_iald hx hb hK hP 43 0 0 Nat.one_pos rfl rfl hin d_Mod_behind_33 ?_
            refine lv_aload_n hx hb d_Mod_behind_34 rfl (lv_at hl 1 rfl) ?_
            refine hd_get (C := R_Mod) (T := F_Mod) (N := 27) hx hb hts i_Mod hown hK hP 20 0 Nat.one_pos he_20 rfl 23 (by decide) (hts _ k_469) (fun _ h9 => h9) hv_20_23 d_Mod_behind_35 ?_
            refine lv_iload_n hx hb d_Mod_behind_38 rfl (lv_at hl 2 rfl) ?_
            refine hd_iald hx hb hK hP 43 0 0 Nat.one_pos rfl rfl hk d_Mod_behind_39 ?_
            refine lv_icmp_ne (tgt := 85) hx hb d_Mod_behind_40 (by decide) (fun h106 => ?_) (fun h106 => ?_)
            · obtain ⟨x107, ex107⟩ : ∃ y : Int32, y = y2 + 1 := ⟨_, rfl⟩
              refine lv_iinc (v := x107) (lv' := [(2, .int x107), (0, .ref (ad 20 0)), (1, .int k_)]) hx hb d_Mod_behind_85 hl (k := 0) rfl (by rw [ex107]; rfl) (by decide) rfl (fun ls hl => ?_)
              refine lv_goto (tgt := 2) hx hb d_Mod_behind_88 (by decide) ?_
              exact ih (i + 1) x107 hlt (by omega) (by rw [ex107, hi3]; exact nI_1 i) (by rw [hf]; subst ex107; simp only [f_Mod_behind_L2]; rw [if_neg h101, if_neg h102, if_neg h104, if_neg h106]) _ _ _ hP hS (lv_sub hl [0, 1, 2] rfl)
            · refine lv_aload_n hx hb d_Mod_behind_43 rfl (lv_at hl 1 rfl) ?_
              refine hd_get (C := R_Mod) (T := F_Mod) (N := 27) hx hb hts i_Mod hown hK hP 20 0 Nat.one_pos he_20 rfl 22 (by decide) (hts _ k_468) (fun _ h9 => h9) hv_20_22 d_Mod_behind_44 ?_
              refine lv_iload_n hx hb d_Mod_behind_47 rfl (lv_at hl 0 rfl) ?_
              refine hd_iald hx hb hK hP 42 0 0 Nat.one_pos rfl rfl hin d_Mod_behind_48 ?_
              refine lv_aload_n hx hb d_Mod_behind_49 rfl (lv_at hl 1 rfl) ?_
              refine hd_get (C := R_Mod) (T := F_Mod) (N := 27) hx hb hts i_Mod hown hK hP 20 0 Nat.one_pos he_20 rfl 22 (by decide) (hts _ k_468) (fun _ h9 => h9) hv_20_22 d_Mod_behind_50 ?_
              refine lv_iload_n hx hb d_Mod_behind_53 rfl (lv_at hl 2 rfl) ?_
              refine hd_iald hx hb hK hP 42 0 0 Nat.one_pos rfl rfl hk d_Mod_behind_54 ?_
              refine lv_icmp_ne (tgt := 85) hx hb d_Mod_behind_55 (by decide) (fun h108 => ?_) (fun h108 => ?_)
              · obtain ⟨x109, ex109⟩ : ∃ y : Int32, y = y2 + 1 := ⟨_, rfl⟩
                refine lv_iinc (v := x109) (lv' := [(2, .int x109), (0, .ref (ad 20 0)), (1, .int k_)]) hx hb d_Mod_behind_85 hl (k := 0) rfl (by rw [ex109]; rfl) (by decide) rfl (fun ls hl => ?_)
                refine lv_goto (tgt := 2) hx hb d_Mod_behind_88 (by decide) ?_
                exact ih (i + 1) x109 hlt (by omega) (by rw [ex109, hi3]; exact nI_1 i) (by rw [hf]; subst ex109; simp only [f_Mod_behind_L2]; rw [if_neg h101, if_neg h102, if_neg h104, if_pos h106, if_neg h108]) _ _ _ hP hS (lv_sub hl [0, 1, 2] rfl)
              · refine lv_aload_n hx hb d_Mod_behind_58 rfl (lv_at hl 1 rfl) ?_
                refine hd_get (C := R_Mod) (T := F_Mod) (N := 27) hx hb hts i_Mod hown hK hP 20 0 Nat.one_pos he_20 rfl 20 (by decide) (hts _ k_466) (fun _ h9 => h9) hv_20_20 d_Mod_behind_59 ?_
                refine lv_iload_n hx hb d_Mod_behind_62 rfl (lv_at hl 2 rfl) ?_
                refine hd_iald hx hb hK hP 40 0 0 Nat.one_pos rfl rfl hk d_Mod_behind_63 ?_
                refine lv_iconst (v := 4) hx hb d_Mod_behind_64 (by decide) ?_
                refine lv_icmp_lt (tgt := 83) hx hb d_Mod_behind_65 (by decide) (fun h110 => ?_) (fun h110 => ?_)
                · refine lv_iconst (v := 0) hx hb d_Mod_behind_83 (by decide) ?_
                  exact hd_zret hx hb hr hlk hK hN hP hS d_Mod_behind_84 rfl ⟨by rw [hf]; simp only [f_Mod_behind_L2]; rw [if_neg h101, if_neg h102, if_neg h104, if_pos h106, if_pos h108, if_pos h110], rfl⟩
                · refine lv_aload_n hx hb d_Mod_behind_68 rfl (lv_at hl 1 rfl) ?_
                  refine hd_get (C := R_Mod) (T := F_Mod) (N := 27) hx hb hts i_Mod hown hK hP 20 0 Nat.one_pos he_20 rfl 20 (by decide) (hts _ k_466) (fun _ h9 => h9) hv_20_20 d_Mod_behind_69 ?_
                  refine lv_iload_n hx hb d_Mod_behind_72 rfl (lv_at hl 2 rfl) ?_
                  refine hd_iald hx hb hK hP 40 0 0 Nat.one_pos rfl rfl hk d_Mod_behind_73 ?_
                  refine lv_bipush (v := 7) hx hb d_Mod_behind_74 (by decide) ?_
                  refine lv_icmp_gt (tgt := 83) hx hb d_Mod_behind_76 (by decide) (fun h111 => ?_) (fun h111 => ?_)
                  · refine lv_iconst (v := 0) hx hb d_Mod_behind_83 (by decide) ?_
                    exact hd_zret hx hb hr hlk hK hN hP hS d_Mod_behind_84 rfl ⟨by rw [hf]; simp only [f_Mod_behind_L2]; rw [if_neg h101, if_neg h102, if_neg h104, if_pos h106, if_pos h108, if_neg h110, if_pos h111], rfl⟩
                  · refine lv_iconst (v := 1) hx hb d_Mod_behind_79 (by decide) ?_
                    refine lv_goto (tgt := 84) hx hb d_Mod_behind_80 (by decide) ?_
                    exact hd_zret hx hb hr hlk hK hN hP hS d_Mod_behind_84 rfl ⟨by rw [hf]; simp only [f_Mod_behind_L2]; rw [if_neg h101, if_neg h102, if_neg h104, if_pos h106, if_pos h108, if_neg h110, if_neg h111], rfl⟩
  refine lv_iconst (v := 0) hx hb d_Mod_behind_0 (by decide) ?_
  refine lv_istore_n (lv' := [(2, .int 0), (0, .ref (ad 20 0)), (1, .int k_)]) hx hb d_Mod_behind_1 rfl hl (by decide) rfl (fun ls hl => ?_)
  exact loop2 65 0 0 (by omega) (by omega) nI_0.symm (by simp only [f_Mod_behind]) _ _ _ hP hS (lv_sub hl [0, 1, 2] rfl)
def f_Mod_stalls (k_ : Int32) (v : hd_V) : Int32 :=
  if (v 42 0 k_.toNatClampNeg) = 4 then
    if 1 < (v 40 0 k_.toNatClampNeg) then
      0
    else
      if (v 34 0 (v 43 0 k_.toNatClampNeg).toNatClampNeg) = 3 then
        1
      else
        0
  else
    let x2 : Int32 := v 28 0 ((4 * (v 42 0 k_.toNatClampNeg)) + (v 43 0 k_.toNatClampNeg)).toNatClampNeg
    if (v 40 0 k_.toNatClampNeg) = 6 then
      if x2 = 3 then
        1
      else
        if (v 40 0 k_.toNatClampNeg) = 4 then
          if x2 < 4 then
            0
          else
            if 7 < x2 then
              0
            else
              1
        else
          if (v 40 0 k_.toNatClampNeg) = 5 then
            if x2 < 4 then
              0
            else
              if 7 < x2 then
                0
              else
                1
          else
            0
    else
      if (v 40 0 k_.toNatClampNeg) = 4 then
        if x2 < 4 then
          0
        else
          if 7 < x2 then
            0
          else
            1
      else
        if (v 40 0 k_.toNatClampNeg) = 5 then
          if x2 < 4 then
            0
          else
            if 7 < x2 then
              0
            else
              1
        else
          0
theorem z_Mod_stalls (k_ : Int32) (v : hd_V) : f_Mod_stalls k_ v = 0 ∨ f_Mod_stalls k_ v = 1 := by
  simp only [f_Mod_stalls]
  (repeat' split) <;> simp
set_option maxHeartbeats 4000000 in
set_option maxRecDepth 100000 in
theorem c_Mod_stalls (l : Launch) {D : va_G} {cI cZ cM cC : ClassId} {n : Nat} {ad : Nat → Nat → Nat} (hJ : hd_J (hx_L n) ad) (k_ : Int32) (v : hd_V) (hk : vp_in k_ 64) (hbk : vp_in (v 43 0 k_.toNatClampNeg) 4) (hto : ¬ v 42 0 k_.toNatClampNeg = 4 → vp_in (v 42 0 k_.toNatClampNeg) 4) : Met l y_Mod_stalls w_Mod_stalls { frames := 0, cells := 0, slots := 0, locals := 0 } (va_Pc [.ref (ad 20 0), .int k_] (hx_B D cI cZ cM cC n ad v)) (va_Qi (fun r u => r = f_Mod_stalls k_ v ∧ u = v) (fun u => hx_B D cI cZ cM cC n ad u) (hx_A n ad)) 0 0 (hx_A n ad) := by
  refine Met.ofW (cc := b_Mod_stalls) (maxL := 3) (ret := (some .boolean)) (by decide) rfl ?_
  intro p e s m args below meth c s₁ B hml hv
  obtain ⟨rfl, hP, hK, hN⟩ := hv
  have hx := B.exec
  have hb := B.bytes
  have hr := B.returns
  have hlk := B.notSynchronized
  have hts0 := atoms_spec (ws := w_Mod_stalls) B.pre
  have hts := fun w (hw : w ∈ lw_g) => hts0 w (List.mem_cons_of_mem _ hw)
  have hown : s.vm.findClass R_Mod = some m.cls := findClass_of_methodNamed B.named
  have hA : ∀ q, hx_A n ad q → hx_A n ad q := fun _ h => h
  have hS : va_S (hx_A n ad) s.heap s.heap [] := va_S.rf
  have hl := lv_entry ([.ref (ad 20 0), .int k_]) (n := 3) (Nat.le_of_ble_eq_true rfl)
  rw [lg_entry_eq]
  generalize (lg_sl ([.ref (ad 20 0), .int k_]) ++ List.replicate (3 - (lg_sl ([.ref (ad 20 0), .int k_])).length) Slot.unset).toArray = ls at hl ⊢
  have hl : lv_has ls 3 [(0, .ref (ad 20 0)), (1, .int k_)] := hl
  refine lv_aload_n hx hb d_Mod_stalls_0 rfl (lv_at hl 0 rfl) ?_
  refine hd_get (C := R_Mod) (T := F_Mod) (N := 27) hx hb hts i_Mod hown hK hP 20 0 Nat.one_pos he_20 rfl 22 (by decide) (hts _ k_468) (fun _ h9 => h9) hv_20_22 d_Mod_stalls_1 ?_
  refine lv_iload_n hx hb d_Mod_stalls_4 rfl (lv_at hl 1 rfl) ?_
  refine hd_iald hx hb hK hP 42 0 0 Nat.one_pos rfl rfl hk d_Mod_stalls_5 ?_
  refine lv_iconst (v := 4) hx hb d_Mod_stalls_6 (by decide) ?_
  refine lv_icmp_ne (tgt := 41) hx hb d_Mod_stalls_7 (by decide) (fun h1 => ?_) (fun h1 => ?_)
  · have hto4 := hto h1
    refine lv_aload_n hx hb d_Mod_stalls_41 rfl (lv_at hl 0 rfl) ?_
    refine hd_get (C := R_Mod) (T := F_Mod) (N := 27) hx hb hts i_Mod hown hK hP 20 0 Nat.one_pos he_20 rfl 8 (by decide) (hts _ k_454) (fun _ h9 => h9) hv_20_8 d_Mod_stalls_42 ?_
    refine lv_iconst (v := 4) hx hb d_Mod_stalls_45 (by decide) ?_
    refine lv_aload_n hx hb d_Mod_stalls_46 rfl (lv_at hl 0 rfl) ?_
    refine hd_get (C := R_Mod) (T := F_Mod) (N := 27) hx hb hts i_Mod hown hK hP 20 0 Nat.one_pos he_20 rfl 22 (by decide) (hts _ k_468) (fun _ h9 => h9) hv_20_22 d_Mod_stalls_47 ?_
    refine lv_iload_n hx hb d_Mod_stalls_50 rfl (lv_at hl 1 rfl) ?_
    refine hd_iald hx hb hK hP 42 0 0 Nat.one_pos rfl rfl hk d_Mod_stalls_51 ?_
    refine lv_imul hx hb d_Mod_stalls_52 ?_
    refine lv_aload_n hx hb d_Mod_stalls_53 rfl (lv_at hl 0 rfl) ?_
    refine hd_get (C := R_Mod) (T := F_Mod) (N := 27) hx hb hts i_Mod hown hK hP 20 0 Nat.one_pos he_20 rfl 23 (by decide) (hts _ k_469) (fun _ h9 => h9) hv_20_23 d_Mod_stalls_54 ?_
    refine lv_iload_n hx hb d_Mod_stalls_57 rfl (lv_at hl 1 rfl) ?_
    refine hd_iald hx hb hK hP 43 0 0 Nat.one_pos rfl rfl hk d_Mod_stalls_58 ?_
    refine lv_iadd hx hb d_Mod_stalls_59 ?_
    refine hd_iald hx hb hK hP 28 0 0 Nat.one_pos rfl rfl (mod_4 hto4 hbk) d_Mod_stalls_60 ?_
    refine lv_topi (fun x2 ex2 => ?_)
    refine lv_istore_n (lv' := [(2, .int x2), (0, .ref (ad 20 0)), (1, .int k_)]) hx hb d_Mod_stalls_61 rfl hl (by decide) rfl (fun ls hl => ?_)
    refine lv_aload_n hx hb d_Mod_stalls_62 rfl (lv_at hl 1 rfl) ?_
    refine hd_get (C := R_Mod) (T := F_Mod) (N := 27) hx hb hts i_Mod hown hK hP 20 0 Nat.one_pos he_20 rfl 20 (by decide) (hts _ k_466) (fun _ h9 => h9) hv_20_20 d_Mod_stalls_63 ?_
    refine lv_iload_n hx hb d_Mod_stalls_66 rfl (lv_at hl 2 rfl) ?_
    refine hd_iald hx hb hK hP 40 0 0 Nat.one_pos rfl rfl hk d_Mod_stalls_67 ?_
    refine lv_bipush (v := 6) hx hb d_Mod_stalls_68 (by decide) ?_
    refine lv_icmp_ne (tgt := 78) hx hb d_Mod_stalls_70 (by decide) (fun h3 => ?_) (fun h3 => ?_)
    · refine lv_aload_n hx hb d_Mod_stalls_78 rfl (lv_at hl 1 rfl) ?_
      refine hd_get (C := R_Mod) (T := F_Mod) (N := 27) hx hb hts i_Mod hown hK hP 20 0 Nat.one_pos he_20 rfl 20 (by decide) (hts _ k_466) (fun _ h9 => h9) hv_20_20 d_Mod_stalls_79 ?_
      refine lv_iload_n hx hb d_Mod_stalls_82 rfl (lv_at hl 2 rfl) ?_
      refine hd_iald hx hb hK hP 40 0 0 Nat.one_pos rfl rfl hk d_Mod_stalls_83 ?_
      refine lv_iconst (v := 4) hx hb d_Mod_stalls_84 (by decide) ?_
      refine lv_icmp_eq (tgt := 98) hx hb d_Mod_stalls_85 (by decide) (fun h4 => ?_) (fun h4 => ?_)
      · refine lv_iload_n hx hb d_Mod_stalls_98 rfl (lv_at hl 0 rfl) ?_
        refine lv_iconst (v := 4) hx hb d_Mod_stalls_99 (by decide) ?_
        refine lv_icmp_lt (tgt := 113) hx hb d_Mod_stalls_100 (by decide) (fun h5 => ?_) (fun h5 => ?_)
        · refine lv_iconst (v := 0) hx hb d_Mod_stalls_113 (by decide) ?_
          exact hd_zret hx hb hr hlk hK hN hP hS d_Mod_stalls_114 rfl ⟨by subst ex2; simp only [f_Mod_stalls]; rw [if_neg h1, if_neg h3, if_pos h4, if_pos h5], rfl⟩
        · refine lv_iload_n hx hb d_Mod_stalls_103 rfl (lv_at hl 0 rfl) ?_
          refine lv_bipush (v := 7) hx hb d_Mod_stalls_104 (by decide) ?_
          refine lv_icmp_gt (tgt := 113) hx hb d_Mod_stalls_106 (by decide) (fun h6 => ?_) (fun h6 => ?_)
          · refine lv_iconst (v := 0) hx hb d_Mod_stalls_113 (by decide) ?_
            exact hd_zret hx hb hr hlk hK hN hP hS d_Mod_stalls_114 rfl ⟨by subst ex2; simp only [f_Mod_stalls]; rw [if_neg h1, if_neg h3, if_pos h4, if_neg h5, if_pos h6], rfl⟩
          · refine lv_iconst (v := 1) hx hb d_Mod_stalls_109 (by decide) ?_
            refine lv_goto (tgt := 114) hx hb d_Mod_stalls_110 (by decide) ?_
            exact hd_zret hx hb hr hlk hK hN hP hS d_Mod_stalls_114 rfl ⟨by subst ex2; simp only [f_Mod_stalls]; rw [if_neg h1, if_neg h3, if_pos h4, if_neg h5, if_neg h6], rfl⟩
      · refine lv_aload_n hx hb d_Mod_stalls_88 rfl (lv_at hl 1 rfl) ?_
        refine hd_get (C := R_Mod) (T := F_Mod) (N := 27) hx hb hts i_Mod hown hK hP 20 0 Nat.one_pos he_20 rfl 20 (by decide) (hts _ k_466) (fun _ h9 => h9) hv_20_20 d_Mod_stalls_89 ?_
        refine lv_iload_n hx hb d_Mod_stalls_92 rfl (lv_at hl 2 rfl) ?_
        refine hd_iald hx hb hK hP 40 0 0 Nat.one_pos rfl rfl hk d_Mod_stalls_93 ?_
        refine lv_iconst (v := 5) hx hb d_Mod_stalls_94 (by decide) ?_
        refine lv_icmp_ne (tgt := 113) hx hb d_Mod_stalls_95 (by decide) (fun h7 => ?_) (fun h7 => ?_)
        · refine lv_iconst (v := 0) hx hb d_Mod_stalls_113 (by decide) ?_
          exact hd_zret hx hb hr hlk hK hN hP hS d_Mod_stalls_114 rfl ⟨by subst ex2; simp only [f_Mod_stalls]; rw [if_neg h1, if_neg h3, if_neg h4, if_neg h7], rfl⟩
        · refine lv_iload_n hx hb d_Mod_stalls_98 rfl (lv_at hl 0 rfl) ?_
          refine lv_iconst (v := 4) hx hb d_Mod_stalls_99 (by decide) ?_
          refine lv_icmp_lt (tgt := 113) hx hb d_Mod_stalls_100 (by decide) (fun h8 => ?_) (fun h8 => ?_)
          · refine lv_iconst (v := 0) hx hb d_Mod_stalls_113 (by decide) ?_
            exact hd_zret hx hb hr hlk hK hN hP hS d_Mod_stalls_114 rfl ⟨by subst ex2; simp only [f_Mod_stalls]; rw [if_neg h1, if_neg h3, if_neg h4, if_pos h7, if_pos h8], rfl⟩
          · refine lv_iload_n hx hb d_Mod_stalls_103 rfl (lv_at hl 0 rfl) ?_
            refine lv_bipush (v := 7) hx hb d_Mod_stalls_104 (by decide) ?_
            refine lv_icmp_gt (tgt := 113) hx hb d_Mod_stalls_106 (by decide) (fun h9 => ?_) (fun h9 => ?_)
            · refine lv_iconst (v := 0) hx hb d_Mod_stalls_113 (by decide) ?_
              exact hd_zret hx hb hr hlk hK hN hP hS d_Mod_stalls_114 rfl ⟨by subst ex2; simp only [f_Mod_stalls]; rw [if_neg h1, if_neg h3, if_neg h4, if_pos h7, if_neg h8, if_pos h9], rfl⟩
            · refine lv_iconst (v := 1) hx hb d_Mod_stalls_109 (by decide) ?_
              refine lv_goto (tgt := 114) hx hb d_Mod_stalls_110 (by decide) ?_
              exact hd_zret hx hb hr hlk hK hN hP hS d_Mod_stalls_114 rfl ⟨by subst ex2; simp only [f_Mod_stalls]; rw [if_neg h1, if_neg h3, if_neg h4, if_pos h7, if_neg h8, if_neg h9], rfl⟩
    · refine lv_iload_n hx hb d_Mod_stalls_73 rfl (lv_at hl 0 rfl) ?_
      refine lv_iconst (v := 3) hx hb d_Mod_stalls_74 (by decide) ?_
      refine lv_icmp_eq (tgt := 109) hx hb d_Mod_stalls_75 (by decide) (fun h10 => ?_) (fun h10 => ?_)
      · refine lv_iconst (v := 1) hx hb d_Mod_stalls_109 (by decide) ?_
        refine lv_goto (tgt := 114) hx hb d_Mod_stalls_110 (by decide) ?_
        exact hd_zret hx hb hr hlk hK hN hP hS d_Mod_stalls_114 rfl ⟨by subst ex2; simp only [f_Mod_stalls]; rw [if_neg h1, if_pos h3, if_pos h10], rfl⟩
      · refine lv_aload_n hx hb d_Mod_stalls_78 rfl (lv_at hl 1 rfl) ?_
        refine hd_get (C := R_Mod) (T := F_Mod) (N := 27) hx hb hts i_Mod hown hK hP 20 0 Nat.one_pos he_20 rfl 20 (by decide) (hts _ k_466) (fun _ h9 => h9) hv_20_20 d_Mod_stalls_79 ?_
        refine lv_iload_n hx hb d_Mod_stalls_82 rfl (lv_at hl 2 rfl) ?_
        refine hd_iald hx hb hK hP 40 0 0 Nat.one_pos rfl rfl hk d_Mod_stalls_83 ?_
        refine lv_iconst (v := 4) hx hb d_Mod_stalls_84 (by decide) ?_
        refine lv_icmp_eq (tgt := 98) hx hb d_Mod_stalls_85 (by decide) (fun h11 => ?_) (fun h11 => ?_)
        · refine lv_iload_n hx hb d_Mod_stalls_98 rfl (lv_at hl 0 rfl) ?_
          refine lv_iconst (v := 4) hx hb d_Mod_stalls_99 (by decide) ?_
          refine lv_icmp_lt (tgt := 113) hx hb d_Mod_stalls_100 (by decide) (fun h12 => ?_) (fun h12 => ?_)
          · refine lv_iconst (v := 0) hx hb d_Mod_stalls_113 (by decide) ?_
            exact hd_zret hx hb hr hlk hK hN hP hS d_Mod_stalls_114 rfl ⟨by subst ex2; simp only [f_Mod_stalls]; rw [if_neg h1, if_pos h3, if_neg h10, if_pos h11, if_pos h12], rfl⟩
          · refine lv_iload_n hx hb d_Mod_stalls_103 rfl (lv_at hl 0 rfl) ?_
            refine lv_bipush (v := 7) hx hb d_Mod_stalls_104 (by decide) ?_
            refine lv_icmp_gt (tgt := 113) hx hb d_Mod_stalls_106 (by decide) (fun h13 => ?_) (fun h13 => ?_)
            · refine lv_iconst (v := 0) hx hb d_Mod_stalls_113 (by decide) ?_
              exact hd_zret hx hb hr hlk hK hN hP hS d_Mod_stalls_114 rfl ⟨by subst ex2; simp only [f_Mod_stalls]; rw [if_neg h1, if_pos h3, if_neg h10, if_pos h11, if_neg h12, if_pos h13], rfl⟩
            · refine lv_iconst (v := 1) hx hb d_Mod_stalls_109 (by decide) ?_
              refine lv_goto (tgt := 114) hx hb d_Mod_stalls_110 (by decide) ?_
              exact hd_zret hx hb hr hlk hK hN hP hS d_Mod_stalls_114 rfl ⟨by subst ex2; simp only [f_Mod_stalls]; rw [if_neg h1, if_pos h3, if_neg h10, if_pos h11, if_neg h12, if_neg h13], rfl⟩
        · refine lv_aload_n hx hb d_Mod_stalls_88 rfl (lv_at hl 1 rfl) ?_
          refine hd_get (C := R_Mod) (T := F_Mod) (N := 27) hx hb hts i_Mod hown hK hP 20 0 Nat.one_pos he_20 rfl 20 (by decide) (hts _ k_466) (fun _ h9 => h9) hv_20_20 d_Mod_stalls_89 ?_
          refine lv_iload_n hx hb d_Mod_stalls_92 rfl (lv_at hl 2 rfl) ?_
          refine hd_iald hx hb hK hP 40 0 0 Nat.one_pos rfl rfl hk d_Mod_stalls_93 ?_
          refine lv_iconst (v := 5) hx hb d_Mod_stalls_94 (by decide) ?_
          refine lv_icmp_ne (tgt := 113) hx hb d_Mod_stalls_95 (by decide) (fun h14 => ?_) (fun h14 => ?_)
          · refine lv_iconst (v := 0) hx hb d_Mod_stalls_113 (by decide) ?_
            exact hd_zret hx hb hr hlk hK hN hP hS d_Mod_stalls_114 rfl ⟨by subst ex2; simp only [f_Mod_stalls]; rw [if_neg h1, if_pos h3, if_neg h10, if_neg h11, if_neg h14], rfl⟩
          · refine lv_iload_n hx hb d_Mod_stalls_98 rfl (lv_at hl 0 rfl) ?_
            refine lv_iconst (v := 4) hx hb d_Mod_stalls_99 (by decide) ?_
            refine lv_icmp_lt (tgt := 113) hx hb d_Mod_stalls_100 (by decide) (fun h15 => ?_) (fun h15 => ?_)
            · refine lv_iconst (v := 0) hx hb d_Mod_stalls_113 (by decide) ?_
              exact hd_zret hx hb hr hlk hK hN hP hS d_Mod_stalls_114 rfl ⟨by subst ex2; simp only [f_Mod_stalls]; rw [if_neg h1, if_pos h3, if_neg h10, if_neg h11, if_pos h14, if_pos h15], rfl⟩
            · refine lv_iload_n hx hb d_Mod_stalls_103 rfl (lv_at hl 0 rfl) ?_
              refine lv_bipush (v := 7) hx hb d_Mod_stalls_104 (by decide) ?_
              refine lv_icmp_gt (tgt := 113) hx hb d_Mod_stalls_106 (by decide) (fun h16 => ?_) (fun h16 => ?_)
              · refine lv_iconst (v := 0) hx hb d_Mod_stalls_113 (by decide) ?_
                exact hd_zret hx hb hr hlk hK hN hP hS d_Mod_stalls_114 rfl ⟨by subst ex2; simp only [f_Mod_stalls]; rw [if_neg h1, if_pos h3, if_neg h10, if_neg h11, if_pos h14, if_neg h15, if_pos h16], rfl⟩
              · refine lv_iconst (v := 1) hx hb d_Mod_stalls_109 (by decide) ?_
                refine lv_goto (tgt := 114) hx hb d_Mod_stalls_110 (by decide) ?_
                exact hd_zret hx hb hr hlk hK hN hP hS d_Mod_stalls_114 rfl ⟨by subst ex2; simp only [f_Mod_stalls]; rw [if_neg h1, if_pos h3, if_neg h10, if_neg h11, if_pos h14, if_neg h15, if_neg h16], rfl⟩
  · refine lv_aload_n hx hb d_Mod_stalls_10 rfl (lv_at hl 0 rfl) ?_
    refine hd_get (C := R_Mod) (T := F_Mod) (N := 27) hx hb hts i_Mod hown hK hP 20 0 Nat.one_pos he_20 rfl 20 (by decide) (hts _ k_466) (fun _ h9 => h9) hv_20_20 d_Mod_stalls_11 ?_
    refine lv_iload_n hx hb d_Mod_stalls_14 rfl (lv_at hl 1 rfl) ?_
    refine hd_iald hx hb hK hP 40 0 0 Nat.one_pos rfl rfl hk d_Mod_stalls_15 ?_
    refine lv_iconst (v := 1) hx hb d_Mod_stalls_16 (by decide) ?_
    refine lv_icmp_gt (tgt := 39) hx hb d_Mod_stalls_17 (by decide) (fun h17 => ?_) (fun h17 => ?_)
    · refine lv_iconst (v := 0) hx hb d_Mod_stalls_39 (by decide) ?_
      exact hd_zret hx hb hr hlk hK hN hP hS d_Mod_stalls_40 rfl ⟨by simp only [f_Mod_stalls]; rw [if_pos h1, if_pos h17], rfl⟩
    · refine lv_aload_n hx hb d_Mod_stalls_20 rfl (lv_at hl 0 rfl) ?_
      refine hd_get (C := R_Mod) (T := F_Mod) (N := 27) hx hb hts i_Mod hown hK hP 20 0 Nat.one_pos he_20 rfl 14 (by decide) (hts _ k_460) (fun _ h9 => h9) hv_20_14 d_Mod_stalls_21 ?_
      refine lv_aload_n hx hb d_Mod_stalls_24 rfl (lv_at hl 0 rfl) ?_
      refine hd_get (C := R_Mod) (T := F_Mod) (N := 27) hx hb hts i_Mod hown hK hP 20 0 Nat.one_pos he_20 rfl 23 (by decide) (hts _ k_469) (fun _ h9 => h9) hv_20_23 d_Mod_stalls_25 ?_
      refine lv_iload_n hx hb d_Mod_stalls_28 rfl (lv_at hl 1 rfl) ?_
      refine hd_iald hx hb hK hP 43 0 0 Nat.one_pos rfl rfl hk d_Mod_stalls_29 ?_
      refine hd_iald hx hb hK hP 34 0 0 Nat.one_pos rfl rfl hbk d_Mod_stalls_30 ?_
      refine lv_iconst (v := 3) hx hb d_Mod_stalls_31 (by decide) ?_
      refine lv_icmp_ne (tgt := 39) hx hb d_Mod_stalls_32 (by decide) (fun h18 => ?_) (fun h18 => ?_)
      · refine lv_iconst (v := 0) hx hb d_Mod_stalls_39 (by decide) ?_
        exact hd_zret hx hb hr hlk hK hN hP hS d_Mod_stalls_40 rfl ⟨by simp only [f_Mod_stalls]; rw [if_pos h1, if_neg h17, if_neg h18], rfl⟩
      · refine lv_iconst (v := 1) hx hb d_Mod_stalls_35 (by decide) ?_
        refine lv_goto (tgt := 40) hx hb d_Mod_stalls_36 (by decide) ?_
        exact hd_zret hx hb hr hlk hK hN hP hS d_Mod_stalls_40 rfl ⟨by simp only [f_Mod_stalls]; rw [if_pos h1, if_neg h17, if_pos h18], rfl⟩
def f_Mod_replace_L4 (c_ : Int32) : Nat → Int32 → Int32 → hd_V → Int32 × hd_V
  | 0, _, _, v => (0, v)
  | k + 1, y2, y3, v =>
    if 4 ≤ y3 then
      let x102 : Int32 := (4 * c_) + y2
      if (v 28 0 x102.toNatClampNeg) = 1 then
        let v112 := f_Mod_send 2 c_ 4 y2 0 0 (-1) v
        let v114 := hd_u v112 28 0 x102.toNatClampNeg 9
        let v115 := hd_u v114 27 0 c_.toNatClampNeg 2
        (3, v115)
      else
        let v106 := f_Mod_send 3 c_ 4 y2 (v 29 0 x102.toNatClampNeg) 0 (-1) v
        let v108 := hd_u v106 28 0 x102.toNatClampNeg 8
        let v109 := hd_u v108 27 0 c_.toNatClampNeg 2
        (3, v109)
    else
      let x116 : Int32 := (4 * c_) + y3
      if (v 28 0 x116.toNatClampNeg) = 0 then
        let x118 : Int32 := y3 + 1
        f_Mod_replace_L4 c_ k y2 x118 v
      else
        if y2 < 0 then
          let x120 : Int32 := y3 + 1
          f_Mod_replace_L4 c_ k y3 x120 v
        else
          if (v 31 0 ((4 * c_) + y2).toNatClampNeg) ≤ (v 31 0 x116.toNatClampNeg) then
            let x122 : Int32 := y3 + 1
            f_Mod_replace_L4 c_ k y2 x122 v
          else
            let x123 : Int32 := y3 + 1
            f_Mod_replace_L4 c_ k y3 x123 v
def f_Mod_replace (c_ : Int32) (v : hd_V) : Int32 × hd_V :=
  f_Mod_replace_L4 c_ 5 (-1) 0 v
set_option maxHeartbeats 4000000 in
set_option maxRecDepth 100000 in
theorem c_Mod_replace (l : Launch) {D : va_G} {cI cZ cM cC : ClassId} {n : Nat} {ad : Nat → Nat → Nat} (hJ : hd_J (hx_L n) ad) (c_ : Int32) (v : hd_V) (hc : vp_in c_ 4) (hu : ∃ b, b < 4 ∧ ¬ v 28 0 (4 * c_ + nI b).toNatClampNeg = 0) (hmm : hx_mm 1 v) : Met l y_Mod_replace w_Mod_replace { frames := 1, cells := 0, slots := 0, locals := 27 } (va_Pc [.ref (ad 20 0), .int c_] (hx_B D cI cZ cM cC n ad v)) (va_Qi (fun r u => r = (f_Mod_replace c_ v).1 ∧ u = (f_Mod_replace c_ v).2) (fun u => hx_B D cI cZ cM cC n ad u) (hx_A n ad)) 0 0 (hx_A n ad) := by
  refine Met.ofW (cc := b_Mod_replace) (maxL := 5) (ret := (some .int)) (by decide) rfl ?_
  intro p e s m args below meth c s₁ B hml hv
  obtain ⟨rfl, hP, hK, hN⟩ := hv
  have hx := B.exec
  have hb := B.bytes
  have hr := B.returns
  have hlk := B.notSynchronized
  have hts0 := atoms_spec (ws := w_Mod_replace) B.pre
  have hts := fun w (hw : w ∈ lw_g) => hts0 w (List.mem_cons_of_mem _ hw)
  have hown : s.vm.findClass R_Mod = some m.cls := findClass_of_methodNamed B.named
  have hA : ∀ q, hx_A n ad q → hx_A n ad q := fun _ h => h
  have hS : va_S (hx_A n ad) s.heap s.heap [] := va_S.rf
  have hl := lv_entry ([.ref (ad 20 0), .int c_]) (n := 5) (Nat.le_of_ble_eq_true rfl)
  rw [lg_entry_eq]
  generalize (lg_sl ([.ref (ad 20 0), .int c_]) ++ List.replicate (5 - (lg_sl ([.ref (ad 20 0), .int c_])).length) Slot.unset).toArray = ls at hl ⊢
  have hl : lv_has ls 5 [(0, .ref (ad 20 0)), (1, .int c_)] := hl
  have loop4 : ∀ (k i : Nat) (y2 y3 : Int32), (i ≤ 4) → (4 < i + k) → (y3 = nI i) → (vp_in y2 4 ∨ (y2 = -1 ∧ ∀ b, b < i → v 28 0 (4 * c_ + nI b).toNatClampNeg = 0)) → f_Mod_replace c_ v = f_Mod_replace_L4 c_ k y2 y3 v → ∀ (H : Heap) (locs : List Loc) (ls : Array Slot), hd_P D hx_cl (hx_L n) ad (hx_ce cI cZ cM cC n ad) v H → va_S (hx_A n ad) s.heap H locs → lv_has ls 5 [(3, .int y3), (2, .int y2), (0, .ref (ad 20 0)), (1, .int c_)] → W p l e (headSpec w_Mod_replace { frames := 1, cells := 0, slots := 0, locals := 27 }).room s m [.ref (ad 20 0), .int c_].toArray below meth c H locs 0 0 (MQ below (va_Qi (fun r u => r = (f_Mod_replace c_ v).1 ∧ u = (f_Mod_replace c_ v).2) (fun u => hx_B D cI cZ cM cC n ad u) (hx_A n ad)) [.ref (ad 20 0), .int c_].toArray s 0 0 (hx_A n ad)) (F0 m 4 ls []) := by
    intro k
    induction k with
    | zero =>
      intro i y2 y3 hi1 hi2 hi3 hv
      exact absurd hi2 (by omega)
    | succ k ih =>
      intro i y2 y3 hi1 hi2 hi3 hv hf H locs ls hP hS hl
      refine lv_iload_n hx hb d_Mod_replace_4 rfl (lv_at hl 0 rfl) ?_
      refine lv_iconst (v := 4) hx hb d_Mod_replace_5 (by decide) ?_
      refine lv_icmp_ge (tgt := 58) hx hb d_Mod_replace_6 (by decide) (fun h101 => ?_) (fun h101 => ?_)
      · have hi4 : i = 4 := hd_ge4 hi3 hi1 h101
        have hvi : vp_in y2 4 := hv.elim id (fun z => by
          obtain ⟨b, hb, hz⟩ := hu
          exact absurd (z.2 b (by omega)) hz)
        refine lv_iconst (v := 4) hx hb d_Mod_replace_58 (by decide) ?_
        refine lv_iload_n hx hb d_Mod_replace_59 rfl (lv_at hl 3 rfl) ?_
        refine lv_imul hx hb d_Mod_replace_60 ?_
        refine lv_iload_n hx hb d_Mod_replace_61 rfl (lv_at hl 1 rfl) ?_
        refine lv_iadd hx hb d_Mod_replace_62 ?_
        refine lv_topi (fun x102 ex102 => ?_)
        refine lv_istore_n (lv' := [(3, .int x102), (2, .int y2), (0, .ref (ad 20 0)), (1, .int c_)]) hx hb d_Mod_replace_63 rfl hl (by decide) rfl (fun ls hl => ?_)
        refine lv_aload_n hx hb d_Mod_replace_64 rfl (lv_at hl 2 rfl) ?_
        refine hd_get (C := R_Mod) (T := F_Mod) (N := 27) hx hb hts i_Mod hown hK hP 20 0 Nat.one_pos he_20 rfl 8 (by decide) (hts _ k_454) (fun _ h9 => h9) hv_20_8 d_Mod_replace_65 ?_
        refine lv_iload_n hx hb d_Mod_replace_68 rfl (lv_at hl 0 rfl) ?_
        refine hd_iald hx hb hK hP 28 0 0 Nat.one_pos rfl rfl (by rw [ex102]; exact (mod_4 hc hvi)) d_Mod_replace_69 ?_
        refine lv_iconst (v := 1) hx hb d_Mod_replace_70 (by decide) ?_
        refine lv_icmp_ne (tgt := 78) hx hb d_Mod_replace_71 (by decide) (fun h103 => ?_) (fun h103 => ?_)
        · refine lv_iconst (v := 0) hx hb d_Mod_replace_78 (by decide) ?_
          refine lv_istore (lv' := [(4, .int 0), (3, .int x102), (2, .int y2), (0, .ref (ad 20 0)), (1, .int c_)]) hx hb d_Mod_replace_79 hl (by decide) rfl (fun ls hl => ?_)
          refine lv_aload_n hx hb d_Mod_replace_81 rfl (lv_at hl 3 rfl) ?_
          refine lv_iload hx hb d_Mod_replace_82 (lv_at hl 0 rfl) ?_
          refine lv_if_eq (tgt := 91) hx hb d_Mod_replace_84 (by decide) (fun h104 => ?_) (fun h104 => absurd (by decide) h104)
          refine lv_iconst (v := 3) hx hb d_Mod_replace_91 (by decide) ?_
          refine lv_iload_n hx hb d_Mod_replace_92 rfl (lv_at hl 4 rfl) ?_
          refine lv_iconst (v := 4) hx hb d_Mod_replace_93 (by decide) ?_
          refine lv_iload_n hx hb d_Mod_replace_94 rfl (lv_at hl 2 rfl) ?_
          refine lv_iload hx hb d_Mod_replace_95 (lv_at hl 0 rfl) ?_
          refine lv_if_eq (tgt := 104) hx hb d_Mod_replace_97 (by decide) (fun h105 => ?_) (fun h105 => absurd (by decide) h105)
          refine lv_aload_n hx hb d_Mod_replace_104 rfl (lv_at hl 3 rfl) ?_
          refine hd_get (C := R_Mod) (T := F_Mod) (N := 27) hx hb hts i_Mod hown hK hP 20 0 Nat.one_pos he_20 rfl 9 (by decide) (hts _ k_455) (fun _ h9 => h9) hv_20_9 d_Mod_replace_105 ?_
          refine lv_iload_n hx hb d_Mod_replace_108 rfl (lv_at hl 1 rfl) ?_
          refine hd_iald hx hb hK hP 29 0 0 Nat.one_pos rfl rfl (by rw [ex102]; exact (mod_4 hc hvi)) d_Mod_replace_109 ?_
          refine lv_iconst (v := 0) hx hb d_Mod_replace_110 (by decide) ?_
          refine lv_iconst (v := -1) hx hb d_Mod_replace_111 (by decide) ?_
          refine hd_cV hK (va_runV (As := [.int 3, .int c_, .int 4, .int y2, .int (v 29 0 x102.toNatClampNeg), .int 0, .int (-1)]) (rest := []) ⟨hx, hb, hml, hown, hts⟩ (c_Mod_send l hJ 3 c_ 4 y2 (v 29 0 x102.toNatClampNeg) 0 (-1) v hmm) (cwV 7 hts (hd_gV g_Mod_send k_563 k_565 s_29 k_8) rfl rfl rfl (by decide +kernel) ⟨Nat.le_of_ble_eq_true rfl, Nat.le_of_ble_eq_true rfl⟩) (hd_preV hK hN hP 20 0 Nat.one_pos rfl rfl [.int 3, .int c_, .int 4, .int y2, .int (v 29 0 x102.toNatClampNeg), .int 0, .int (-1)]) rfl rfl hl.1 rfl (lv_room (Nat.le_of_ble_eq_true rfl)) d_Mod_replace_112 ⟨Nat.zero_le _, Nat.zero_le _⟩) hS hA (fun H locs hP hS => ?_)
          refine lv_aload_n hx hb d_Mod_replace_115 rfl (lv_at hl 3 rfl) ?_
          refine hd_get (C := R_Mod) (T := F_Mod) (N := 27) hx hb hts i_Mod hown hK hP 20 0 Nat.one_pos he_20 rfl 8 (by decide) (hts _ k_454) (fun _ h9 => h9) hv_20_8 d_Mod_replace_116 ?_
          refine lv_iload_n hx hb d_Mod_replace_119 rfl (lv_at hl 1 rfl) ?_
          refine lv_iload hx hb d_Mod_replace_120 (lv_at hl 0 rfl) ?_
          refine lv_if_eq (tgt := 130) hx hb d_Mod_replace_122 (by decide) (fun h107 => ?_) (fun h107 => absurd (by decide) h107)
          refine lv_bipush (v := 8) hx hb d_Mod_replace_130 (by decide) ?_
          refine hd_iast hx hb hK hP hJ hA hS 28 0 0 Nat.one_pos (fun _ => rfl) rfl (by rw [ex102]; exact (mod_4 hc hvi)) d_Mod_replace_132 (fun H locs hP hS => ?_)
          refine lv_aload_n hx hb d_Mod_replace_133 rfl (lv_at hl 3 rfl) ?_
          refine hd_get (C := R_Mod) (T := F_Mod) (N := 27) hx hb hts i_Mod hown hK hP 20 0 Nat.one_pos he_20 rfl 7 (by decide) (hts _ k_453) (fun _ h9 => h9) hv_20_7 d_Mod_replace_134 ?_
          refine lv_iload_n hx hb d_Mod_replace_137 rfl (lv_at hl 4 rfl) ?_
          refine lv_iconst (v := 2) hx hb d_Mod_replace_138 (by decide) ?_
          refine hd_iast hx hb hK hP hJ hA hS 27 0 0 Nat.one_pos (fun _ => rfl) rfl hc d_Mod_replace_139 (fun H locs hP hS => ?_)
          refine lv_iconst (v := 3) hx hb d_Mod_replace_140 (by decide) ?_
          exact hd_iret hx hb hr hlk hK hN hP hS d_Mod_replace_141 ⟨by rw [hf]; subst ex102; simp only [f_Mod_replace_L4]; rw [if_pos h101, if_neg h103], by rw [hf]; subst ex102; simp only [f_Mod_replace_L4]; rw [if_pos h101, if_neg h103]⟩
        · refine lv_iconst (v := 1) hx hb d_Mod_replace_74 (by decide) ?_
          refine lv_goto (tgt := 79) hx hb d_Mod_replace_75 (by decide) ?_
          refine lv_istore (lv' := [(4, .int 1), (3, .int x102), (2, .int y2), (0, .ref (ad 20 0)), (1, .int c_)]) hx hb d_Mod_replace_79 hl (by decide) rfl (fun ls hl => ?_)
          refine lv_aload_n hx hb d_Mod_replace_81 rfl (lv_at hl 3 rfl) ?_
          refine lv_iload hx hb d_Mod_replace_82 (lv_at hl 0 rfl) ?_
          refine lv_if_eq (tgt := 91) hx hb d_Mod_replace_84 (by decide) (fun h110 => absurd h110 (by decide)) (fun h110 => ?_)
          refine lv_iconst (v := 2) hx hb d_Mod_replace_87 (by decide) ?_
          refine lv_goto (tgt := 92) hx hb d_Mod_replace_88 (by decide) ?_
          refine lv_iload_n hx hb d_Mod_replace_92 rfl (lv_at hl 4 rfl) ?_
          refine lv_iconst (v := 4) hx hb d_Mod_replace_93 (by decide) ?_
          refine lv_iload_n hx hb d_Mod_replace_94 rfl (lv_at hl 2 rfl) ?_
          refine lv_iload hx hb d_Mod_replace_95 (lv_at hl 0 rfl) ?_
          refine lv_if_eq (tgt := 104) hx hb d_Mod_replace_97 (by decide) (fun h111 => absurd h111 (by decide)) (fun h111 => ?_)
          refine lv_iconst (v := 0) hx hb d_Mod_replace_100 (by decide) ?_
          refine lv_goto (tgt := 110) hx hb d_Mod_replace_101 (by decide) ?_
          refine lv_iconst (v := 0) hx hb d_Mod_replace_110 (by decide) ?_
          refine lv_iconst (v := -1) hx hb d_Mod_replace_111 (by decide) ?_
          refine hd_cV hK (va_runV (As := [.int 2, .int c_, .int 4, .int y2, .int 0, .int 0, .int (-1)]) (rest := []) ⟨hx, hb, hml, hown, hts⟩ (c_Mod_send l hJ 2 c_ 4 y2 0 0 (-1) v hmm) (cwV 7 hts (hd_gV g_Mod_send k_563 k_565 s_29 k_8) rfl rfl rfl (by decide +kernel) ⟨Nat.le_of_ble_eq_true rfl, Nat.le_of_ble_eq_true rfl⟩) (hd_preV hK hN hP 20 0 Nat.one_pos rfl rfl [.int 2, .int c_, .int 4, .int y2, .int 0, .int 0, .int (-1)]) rfl rfl hl.1 rfl (lv_room (Nat.le_of_ble_eq_true rfl)) d_Mod_replace_112 ⟨Nat.zero_le _, Nat.zero_le _⟩) hS hA (fun H locs hP hS => ?_)
          refine lv_aload_n hx hb d_Mod_replace_115 rfl (lv_at hl 3 rfl) ?_
          refine hd_get (C := R_Mod) (T := F_Mod) (N := 27) hx hb hts i_Mod hown hK hP 20 0 Nat.one_pos he_20 rfl 8 (by decide) (hts _ k_454) (fun _ h9 => h9) hv_20_8 d_Mod_replace_116 ?_
          refine lv_iload_n hx hb d_Mod_replace_119 rfl (lv_at hl 1 rfl) ?_
          refine lv_iload hx hb d_Mod_replace_120 (lv_at hl 0 rfl) ?_
          refine lv_if_eq (tgt := 130) hx hb d_Mod_replace_122 (by decide) (fun h113 => absurd h113 (by decide)) (fun h113 => ?_)
          refine lv_bipush (v := 9) hx hb d_Mod_replace_125 (by decide) ?_
          refine lv_goto (tgt := 132) hx hb d_Mod_replace_127 (by decide) ?_
          refine hd_iast hx hb hK hP hJ hA hS 28 0 0 Nat.one_pos (fun _ => rfl) rfl (by rw [ex102]; exact (mod_4 hc hvi)) d_Mod_replace_132 (fun H locs hP hS => ?_)
          refine lv_aload_n hx hb d_Mod_replace_133 rfl (lv_at hl 3 rfl) ?_
          refine hd_get (C := R_Mod) (T := F_Mod) (N := 27) hx hb hts i_Mod hown hK hP 20 0 Nat.one_pos he_20 rfl 7 (by decide) (hts _ k_453) (fun _ h9 => h9) hv_20_7 d_Mod_replace_134 ?_
          refine lv_iload_n hx hb d_Mod_replace_137 rfl (lv_at hl 4 rfl) ?_
          refine lv_iconst (v := 2) hx hb d_Mod_replace_138 (by decide) ?_
          refine hd_iast hx hb hK hP hJ hA hS 27 0 0 Nat.one_pos (fun _ => rfl) rfl hc d_Mod_replace_139 (fun H locs hP hS => ?_)
          refine lv_iconst (v := 3) hx hb d_Mod_replace_140 (by decide) ?_
          exact hd_iret hx hb hr hlk hK hN hP hS d_Mod_replace_141 ⟨by rw [hf]; subst ex102; simp only [f_Mod_replace_L4]; rw [if_pos h101, if_pos h103], by rw [hf]; subst ex102; simp only [f_Mod_replace_L4]; rw [if_pos h101, if_pos h103]⟩
      · have hlt : i < 4 := hd_lp hi3 (show (4 : Int32) = nI 4 from rfl) (by omega) h101
        have hin : vp_in y3 4 := hd_lpin hi3 (by omega) (by decide)
        refine lv_iconst (v := 4) hx hb d_Mod_replace_9 (by decide) ?_
        refine lv_iload_n hx hb d_Mod_replace_10 rfl (lv_at hl 3 rfl) ?_
        refine lv_imul hx hb d_Mod_replace_11 ?_
        refine lv_iload_n hx hb d_Mod_replace_12 rfl (lv_at hl 0 rfl) ?_
        refine lv_iadd hx hb d_Mod_replace_13 ?_
        refine lv_topi (fun x116 ex116 => ?_)
        refine lv_istore (lv' := [(4, .int x116), (3, .int y3), (2, .int y2), (0, .ref (ad 20 0)), (1, .int c_)]) hx hb d_Mod_replace_14 hl (by decide) rfl (fun ls hl => ?_)
        refine lv_aload_n hx hb d_Mod_replace_16 rfl (lv_at hl 3 rfl) ?_
        refine hd_get (C := R_Mod) (T := F_Mod) (N := 27) hx hb hts i_Mod hown hK hP 20 0 Nat.one_pos he_20 rfl 8 (by decide) (hts _ k_454) (fun _ h9 => h9) hv_20_8 d_Mod_replace_17 ?_
        refine lv_iload hx hb d_Mod_replace_20 (lv_at hl 0 rfl) ?_
        refine hd_iald hx hb hK hP 28 0 0 Nat.one_pos rfl rfl (by rw [ex116]; exact (mod_4 hc hin)) d_Mod_replace_22 ?_
        refine lv_if_eq (tgt := 52) hx hb d_Mod_replace_23 (by decide) (fun h117 => ?_) (fun h117 => ?_)
        · obtain ⟨x118, ex118⟩ : ∃ y : Int32, y = y3 + 1 := ⟨_, rfl⟩
          refine lv_iinc (v := x118) (lv' := [(3, .int x118), (4, .int x116), (2, .int y2), (0, .ref (ad 20 0)), (1, .int c_)]) hx hb d_Mod_replace_52 hl (k := 1) rfl (by rw [ex118]; rfl) (by decide) rfl (fun ls hl => ?_)
          refine lv_goto (tgt := 4) hx hb d_Mod_replace_55 (by decide) ?_
          exact ih (i + 1) y2 x118 hlt (by omega) (by rw [ex118, hi3]; exact nI_1 i) (hv.imp id (fun z => ⟨z.1, rp_ext hi3 z.2 (by rw [← ex116]; exact h117)⟩)) (by rw [hf]; subst ex118; subst ex116; simp only [f_Mod_replace_L4]; rw [if_neg h101, if_pos h117]) _ _ _ hP hS (lv_sub hl [0, 2, 3, 4] rfl)
        · refine lv_iload_n hx hb d_Mod_replace_26 rfl (lv_at hl 2 rfl) ?_
          refine lv_if_lt (tgt := 50) hx hb d_Mod_replace_27 (by decide) (fun h119 => ?_) (fun h119 => ?_)
          · refine lv_iload_n hx hb d_Mod_replace_50 rfl (lv_at hl 1 rfl) ?_
            refine lv_istore_n (lv' := [(2, .int y3), (4, .int x116), (3, .int y3), (0, .ref (ad 20 0)), (1, .int c_)]) hx hb d_Mod_replace_51 rfl hl (by decide) rfl (fun ls hl => ?_)
            obtain ⟨x120, ex120⟩ : ∃ y : Int32, y = y3 + 1 := ⟨_, rfl⟩
            refine lv_iinc (v := x120) (lv' := [(3, .int x120), (2, .int y3), (4, .int x116), (0, .ref (ad 20 0)), (1, .int c_)]) hx hb d_Mod_replace_52 hl (k := 2) rfl (by rw [ex120]; rfl) (by decide) rfl (fun ls hl => ?_)
            refine lv_goto (tgt := 4) hx hb d_Mod_replace_55 (by decide) ?_
            exact ih (i + 1) y3 x120 hlt (by omega) (by rw [ex120, hi3]; exact nI_1 i) (Or.inl hin) (by rw [hf]; subst ex120; subst ex116; simp only [f_Mod_replace_L4]; rw [if_neg h101, if_neg h117, if_pos h119]) _ _ _ hP hS (lv_sub hl [0, 1, 3, 4] rfl)
          · have hvi : vp_in y2 4 := hv.elim id (fun z => absurd (by rw [z.1]; decide) h119)
            refine lv_aload_n hx hb d_Mod_replace_30 rfl (lv_at hl 3 rfl) ?_
            refine hd_get (C := R_Mod) (T := F_Mod) (N := 27) hx hb hts i_Mod hown hK hP 20 0 Nat.one_pos he_20 rfl 11 (by decide) (hts _ k_457) (fun _ h9 => h9) hv_20_11 d_Mod_replace_31 ?_
            refine lv_iload hx hb d_Mod_replace_34 (lv_at hl 0 rfl) ?_
            refine hd_iald hx hb hK hP 31 0 0 Nat.one_pos rfl rfl (by rw [ex116]; exact (mod_4 hc hin)) d_Mod_replace_36 ?_
            refine lv_aload_n hx hb d_Mod_replace_37 rfl (lv_at hl 3 rfl) ?_
            refine hd_get (C := R_Mod) (T := F_Mod) (N := 27) hx hb hts i_Mod hown hK hP 20 0 Nat.one_pos he_20 rfl 11 (by decide) (hts _ k_457) (fun _ h9 => h9) hv_20_11 d_Mod_replace_38 ?_
            refine lv_iconst (v := 4) hx hb d_Mod_replace_41 (by decide) ?_
            refine lv_iload_n hx hb d_Mod_replace_42 rfl (lv_at hl 4 rfl) ?_
            refine lv_imul hx hb d_Mod_replace_43 ?_
            refine lv_iload_n hx hb d_Mod_replace_44 rfl (lv_at hl 2 rfl) ?_
            refine lv_iadd hx hb d_Mod_replace_45 ?_
            refine hd_iald hx hb hK hP 31 0 0 Nat.one_pos rfl rfl (mod_4 hc hvi) d_Mod_replace_46 ?_
            refine lv_icmp_ge (tgt := 52) hx hb d_Mod_replace_47 (by decide) (fun h121 => ?_) (fun h121 => ?_)
            · obtain ⟨x122, ex122⟩ : ∃ y : Int32, y = y3 + 1 := ⟨_, rfl⟩
              refine lv_iinc (v := x122) (lv' := [(3, .int x122), (4, .int x116), (2, .int y2), (0, .ref (ad 20 0)), (1, .int c_)]) hx hb d_Mod_replace_52 hl (k := 1) rfl (by rw [ex122]; rfl) (by decide) rfl (fun ls hl => ?_)
              refine lv_goto (tgt := 4) hx hb d_Mod_replace_55 (by decide) ?_
              exact ih (i + 1) y2 x122 hlt (by omega) (by rw [ex122, hi3]; exact nI_1 i) (Or.inl hvi) (by rw [hf]; subst ex122; subst ex116; simp only [f_Mod_replace_L4]; rw [if_neg h101, if_neg h117, if_neg h119, if_pos h121]) _ _ _ hP hS (lv_sub hl [0, 2, 3, 4] rfl)
            · refine lv_iload_n hx hb d_Mod_replace_50 rfl (lv_at hl 1 rfl) ?_
              refine lv_istore_n (lv' := [(2, .int y3), (4, .int x116), (3, .int y3), (0, .ref (ad 20 0)), (1, .int c_)]) hx hb d_Mod_replace_51 rfl hl (by decide) rfl (fun ls hl => ?_)
              obtain ⟨x123, ex123⟩ : ∃ y : Int32, y = y3 + 1 := ⟨_, rfl⟩
              refine lv_iinc (v := x123) (lv' := [(3, .int x123), (2, .int y3), (4, .int x116), (0, .ref (ad 20 0)), (1, .int c_)]) hx hb d_Mod_replace_52 hl (k := 2) rfl (by rw [ex123]; rfl) (by decide) rfl (fun ls hl => ?_)
              refine lv_goto (tgt := 4) hx hb d_Mod_replace_55 (by decide) ?_
              exact ih (i + 1) y3 x123 hlt (by omega) (by rw [ex123, hi3]; exact nI_1 i) (Or.inl hin) (by rw [hf]; subst ex123; subst ex116; simp only [f_Mod_replace_L4]; rw [if_neg h101, if_neg h117, if_neg h119, if_neg h121]) _ _ _ hP hS (lv_sub hl [0, 1, 3, 4] rfl)
  refine lv_iconst (v := -1) hx hb d_Mod_replace_0 (by decide) ?_
  refine lv_istore_n (lv' := [(2, .int (-1)), (0, .ref (ad 20 0)), (1, .int c_)]) hx hb d_Mod_replace_1 rfl hl (by decide) rfl (fun ls hl => ?_)
  refine lv_iconst (v := 0) hx hb d_Mod_replace_2 (by decide) ?_
  refine lv_istore_n (lv' := [(3, .int 0), (2, .int (-1)), (0, .ref (ad 20 0)), (1, .int c_)]) hx hb d_Mod_replace_3 rfl hl (by decide) rfl (fun ls hl => ?_)
  exact loop4 5 0 (-1) 0 (by omega) (by omega) nI_0.symm (Or.inr ⟨rfl, fun b hb => absurd hb (Nat.not_lt_zero b)⟩) (by simp only [f_Mod_replace]) _ _ _ hP hS (lv_sub hl [0, 1, 2, 3] rfl)
theorem us_Mod_inUse_L {c : Int32} {v : hd_V} : ∀ (k i : Nat) (y2 y3 : Int32), i ≤ 4 → y3 = nI i → y2 ≤ 0 → (∀ b, b < 4 → v 28 0 (4 * c + nI b).toNatClampNeg = 0) → f_Mod_inUse_L4 c k y2 y3 v ≤ 0 := by
  intro k
  induction k with
  | zero =>
    intro i y2 y3 _ _ _ _
    exact Int32.le_refl 0
  | succ k ih =>
    intro i y2 y3 hi hy h2 hz
    simp only [f_Mod_inUse_L4]
    split
    · exact h2
    · rename_i h
      have hlt : i < 4 := hd_lp hy (show (4 : Int32) = nI 4 from rfl) (by omega) h
      have e1 : y3 + 1 = nI (i + 1) := by rw [hy]; exact nI_1 i
      have e2 : v 28 0 (4 * c + y3).toNatClampNeg = 0 := by rw [hy]; exact hz i hlt
      rw [if_pos e2]
      exact ih (i + 1) _ _ hlt e1 h2 hz
theorem us_Mod_inUse {c m : Int32} {v : hd_V} (hm : 1 ≤ m.toInt) (h : ¬ f_Mod_inUse c v < m) : ∃ b, b < 4 ∧ ¬ v 28 0 (4 * c + nI b).toNatClampNeg = 0 := by
  by_cases hz : ∀ b, b < 4 → v 28 0 (4 * c + nI b).toNatClampNeg = 0
  · exfalso
    apply h
    have h1 : f_Mod_inUse c v ≤ 0 := us_Mod_inUse_L 5 0 0 0 (by omega) nI_0.symm (Int32.le_refl 0) hz
    rw [Int32.le_iff_toInt_le, show (0 : Int32).toInt = 0 from rfl] at h1
    rw [Int32.lt_iff_toInt_lt]
    omega
  · exact Classical.byContradiction fun hn => hz fun b hb => Classical.byContradiction fun hb0 => hn ⟨b, hb, hb0⟩
def f_Mod_step (core_ : Int32) (v : hd_V) : Int32 × hd_V :=
  if (f_Mod_isCore core_ v) = 0 then
    ((-1), v)
  else
    if (v 27 0 core_.toNatClampNeg) = 0 then
      if (v 26 0 core_.toNatClampNeg) < (v 25 0 core_.toNatClampNeg) then
        let x4 : Int32 := v 23 0 ((16 * core_) + (v 26 0 core_.toNatClampNeg)).toNatClampNeg
        let x5 : Int32 := v 24 0 ((16 * core_) + (v 26 0 core_.toNatClampNeg)).toNatClampNeg
        if (f_Mod_access x4) = 0 then
          let v25 := f_Mod_plain core_ x4 x5 v
          let v26 := v25.2
          (v25.1, v26)
        else
          let x7 : Int32 := v 28 0 ((4 * core_) + x5).toNatClampNeg
          if x7 = 2 then
            let v9 := f_Mod_perform core_ v
            (1, v9)
          else
            if x7 = 1 then
              if x4 = 0 then
                let v24 := f_Mod_perform core_ v
                (1, v24)
              else
                let v22 := f_Mod_ask core_ x5 1 6 v
                let v23 := v22.2
                (v22.1, v23)
            else
              if (f_Mod_inUse core_ v) < (v 20 0 1) then
                if x4 = 0 then
                  let v16 := f_Mod_ask core_ x5 0 3 v
                  let v17 := v16.2
                  (v16.1, v17)
                else
                  let v14 := f_Mod_ask core_ x5 1 4 v
                  let v15 := v14.2
                  (v14.1, v15)
              else
                let v18 := f_Mod_replace core_ v
                let v19 := v18.2
                (v18.1, v19)
      else
        (4, v)
    else
      (0, v)
set_option maxHeartbeats 4000000 in
set_option maxRecDepth 100000 in
theorem c_Mod_step (l : Launch) {D : va_G} {cI cZ cM cC : ClassId} {n : Nat} {ad : Nat → Nat → Nat} (hJ : hd_J (hx_L n) ad) (core_ : Int32) (v : hd_V) (hmn : (v 20 0 0).toInt ≤ 4) (hmost : 1 ≤ (v 20 0 1).toInt) (hnn : ∀ c, c < 4 → 0 ≤ v 26 0 c ∧ (v 25 0 c).toInt ≤ 16) (hxx : ∀ c : Int32, vp_in c 4 → ¬ f_Mod_access (v 23 0 (16 * c + v 26 0 c.toNatClampNeg).toNatClampNeg) = 0 → vp_in (v 24 0 (16 * c + v 26 0 c.toNatClampNeg).toNatClampNeg) 4) (hmm : hx_mm 1 v) : Met l y_Mod_step w_Mod_step { frames := 2, cells := 0, slots := 0, locals := 51 } (va_Pc [.ref (ad 20 0), .int core_] (hx_B D cI cZ cM cC n ad v)) (va_Qi (fun r u => r = (f_Mod_step core_ v).1 ∧ u = (f_Mod_step core_ v).2) (fun u => hx_B D cI cZ cM cC n ad u) (hx_A n ad)) 0 0 (hx_A n ad) := by
  refine Met.ofW (cc := b_Mod_step) (maxL := 5) (ret := (some .int)) (by decide) rfl ?_
  intro p e s m args below meth c s₁ B hml hv
  obtain ⟨rfl, hP, hK, hN⟩ := hv
  have hx := B.exec
  have hb := B.bytes
  have hr := B.returns
  have hlk := B.notSynchronized
  have hts0 := atoms_spec (ws := w_Mod_step) B.pre
  have hts := fun w (hw : w ∈ lw_g) => hts0 w (List.mem_cons_of_mem _ hw)
  have hown : s.vm.findClass R_Mod = some m.cls := findClass_of_methodNamed B.named
  have hA : ∀ q, hx_A n ad q → hx_A n ad q := fun _ h => h
  have hS : va_S (hx_A n ad) s.heap s.heap [] := va_S.rf
  have hl := lv_entry ([.ref (ad 20 0), .int core_]) (n := 5) (Nat.le_of_ble_eq_true rfl)
  rw [lg_entry_eq]
  generalize (lg_sl ([.ref (ad 20 0), .int core_]) ++ List.replicate (5 - (lg_sl ([.ref (ad 20 0), .int core_])).length) Slot.unset).toArray = ls at hl ⊢
  have hl : lv_has ls 5 [(0, .ref (ad 20 0)), (1, .int core_)] := hl
  refine lv_aload_n hx hb d_Mod_step_0 rfl (lv_at hl 0 rfl) ?_
  refine lv_iload_n hx hb d_Mod_step_1 rfl (lv_at hl 1 rfl) ?_
  refine hd_cI hK (va_runV (As := [.int core_]) (rest := []) ⟨hx, hb, hml, hown, hts⟩ (c_Mod_isCore l hJ core_ v ) (cwV 1 hts (hd_gV g_Mod_isCore k_533 k_535 s_25 k_8) rfl rfl rfl (by decide +kernel) ⟨Nat.le_of_ble_eq_true rfl, Nat.le_of_ble_eq_true rfl⟩) (hd_preV hK hN hP 20 0 Nat.one_pos rfl rfl [.int core_]) rfl rfl hl.1 rfl (lv_room (Nat.le_of_ble_eq_true rfl)) d_Mod_step_2 ⟨Nat.zero_le _, Nat.zero_le _⟩) hS hA (fun H locs hP hS => ?_)
  refine lv_if_ne (tgt := 10) hx hb d_Mod_step_5 (by decide) (fun h1 => ?_) (fun h1 => ?_)
  · have hmch1 := in_Mod_isCore hmn h1
    refine lv_aload_n hx hb d_Mod_step_10 rfl (lv_at hl 0 rfl) ?_
    refine hd_get (C := R_Mod) (T := F_Mod) (N := 27) hx hb hts i_Mod hown hK hP 20 0 Nat.one_pos he_20 rfl 7 (by decide) (hts _ k_453) (fun _ h9 => h9) hv_20_7 d_Mod_step_11 ?_
    refine lv_iload_n hx hb d_Mod_step_14 rfl (lv_at hl 1 rfl) ?_
    refine hd_iald hx hb hK hP 27 0 0 Nat.one_pos rfl rfl hmch1 d_Mod_step_15 ?_
    refine lv_if_eq (tgt := 21) hx hb d_Mod_step_16 (by decide) (fun h2 => ?_) (fun h2 => ?_)
    · refine lv_aload_n hx hb d_Mod_step_21 rfl (lv_at hl 0 rfl) ?_
      refine hd_get (C := R_Mod) (T := F_Mod) (N := 27) hx hb hts i_Mod hown hK hP 20 0 Nat.one_pos he_20 rfl 6 (by decide) (hts _ k_452) (fun _ h9 => h9) hv_20_6 d_Mod_step_22 ?_
      refine lv_iload_n hx hb d_Mod_step_25 rfl (lv_at hl 1 rfl) ?_
      refine hd_iald hx hb hK hP 26 0 0 Nat.one_pos rfl rfl hmch1 d_Mod_step_26 ?_
      refine lv_aload_n hx hb d_Mod_step_27 rfl (lv_at hl 0 rfl) ?_
      refine hd_get (C := R_Mod) (T := F_Mod) (N := 27) hx hb hts i_Mod hown hK hP 20 0 Nat.one_pos he_20 rfl 5 (by decide) (hts _ k_451) (fun _ h9 => h9) hv_20_5 d_Mod_step_28 ?_
      refine lv_iload_n hx hb d_Mod_step_31 rfl (lv_at hl 1 rfl) ?_
      refine hd_iald hx hb hK hP 25 0 0 Nat.one_pos rfl rfl hmch1 d_Mod_step_32 ?_
      refine lv_icmp_lt (tgt := 38) hx hb d_Mod_step_33 (by decide) (fun h3 => ?_) (fun h3 => ?_)
      · have hnx : vp_in (v 26 0 core_.toNatClampNeg) 16 := hd_in5 (hnn _ (hd_lt hmch1)).1 h3 (hnn _ (hd_lt hmch1)).2
        refine lv_aload_n hx hb d_Mod_step_38 rfl (lv_at hl 0 rfl) ?_
        refine hd_get (C := R_Mod) (T := F_Mod) (N := 27) hx hb hts i_Mod hown hK hP 20 0 Nat.one_pos he_20 rfl 3 (by decide) (hts _ k_449) (fun _ h9 => h9) hv_20_3 d_Mod_step_39 ?_
        refine lv_bipush (v := 16) hx hb d_Mod_step_42 (by decide) ?_
        refine lv_iload_n hx hb d_Mod_step_44 rfl (lv_at hl 1 rfl) ?_
        refine lv_imul hx hb d_Mod_step_45 ?_
        refine lv_aload_n hx hb d_Mod_step_46 rfl (lv_at hl 0 rfl) ?_
        refine hd_get (C := R_Mod) (T := F_Mod) (N := 27) hx hb hts i_Mod hown hK hP 20 0 Nat.one_pos he_20 rfl 6 (by decide) (hts _ k_452) (fun _ h9 => h9) hv_20_6 d_Mod_step_47 ?_
        refine lv_iload_n hx hb d_Mod_step_50 rfl (lv_at hl 1 rfl) ?_
        refine hd_iald hx hb hK hP 26 0 0 Nat.one_pos rfl rfl hmch1 d_Mod_step_51 ?_
        refine lv_iadd hx hb d_Mod_step_52 ?_
        refine hd_iald hx hb hK hP 23 0 0 Nat.one_pos rfl rfl (mod_16 hmch1 hnx) d_Mod_step_53 ?_
        refine lv_topi (fun x4 ex4 => ?_)
        refine lv_istore_n (lv' := [(2, .int x4), (0, .ref (ad 20 0)), (1, .int core_)]) hx hb d_Mod_step_54 rfl hl (by decide) rfl (fun ls hl => ?_)
        refine lv_aload_n hx hb d_Mod_step_55 rfl (lv_at hl 1 rfl) ?_
        refine hd_get (C := R_Mod) (T := F_Mod) (N := 27) hx hb hts i_Mod hown hK hP 20 0 Nat.one_pos he_20 rfl 4 (by decide) (hts _ k_450) (fun _ h9 => h9) hv_20_4 d_Mod_step_56 ?_
        refine lv_bipush (v := 16) hx hb d_Mod_step_59 (by decide) ?_
        refine lv_iload_n hx hb d_Mod_step_61 rfl (lv_at hl 2 rfl) ?_
        refine lv_imul hx hb d_Mod_step_62 ?_
        refine lv_aload_n hx hb d_Mod_step_63 rfl (lv_at hl 1 rfl) ?_
        refine hd_get (C := R_Mod) (T := F_Mod) (N := 27) hx hb hts i_Mod hown hK hP 20 0 Nat.one_pos he_20 rfl 6 (by decide) (hts _ k_452) (fun _ h9 => h9) hv_20_6 d_Mod_step_64 ?_
        refine lv_iload_n hx hb d_Mod_step_67 rfl (lv_at hl 2 rfl) ?_
        refine hd_iald hx hb hK hP 26 0 0 Nat.one_pos rfl rfl hmch1 d_Mod_step_68 ?_
        refine lv_iadd hx hb d_Mod_step_69 ?_
        refine hd_iald hx hb hK hP 24 0 0 Nat.one_pos rfl rfl (mod_16 hmch1 hnx) d_Mod_step_70 ?_
        refine lv_topi (fun x5 ex5 => ?_)
        refine lv_istore_n (lv' := [(3, .int x5), (2, .int x4), (0, .ref (ad 20 0)), (1, .int core_)]) hx hb d_Mod_step_71 rfl hl (by decide) rfl (fun ls hl => ?_)
        refine lv_iload_n hx hb d_Mod_step_72 rfl (lv_at hl 1 rfl) ?_
        refine hd_cI hK (va_runS (As := [.int x4]) (rest := []) ⟨hx, hb, hml, hown, hts⟩ (c_Mod_access l hJ x4 v ) (va_cwS 1 hts (hd_gS g_Mod_access k_537 k_538 k_8) rfl rfl rfl (by decide +kernel) ⟨Nat.le_of_ble_eq_true rfl, Nat.le_of_ble_eq_true rfl⟩) (hd_preS hK hN hP [.int x4]) rfl rfl hl.1 rfl (lv_room (Nat.le_of_ble_eq_true rfl)) d_Mod_step_73 ⟨Nat.zero_le _, Nat.zero_le _⟩) hS hA (fun H locs hP hS => ?_)
        refine lv_if_ne (tgt := 87) hx hb d_Mod_step_76 (by decide) (fun h6 => ?_) (fun h6 => ?_)
        · have hx4 := hxx core_ hmch1 (by rw [← ex4]; exact h6)
          refine lv_aload_n hx hb d_Mod_step_87 rfl (lv_at hl 2 rfl) ?_
          refine hd_get (C := R_Mod) (T := F_Mod) (N := 27) hx hb hts i_Mod hown hK hP 20 0 Nat.one_pos he_20 rfl 8 (by decide) (hts _ k_454) (fun _ h9 => h9) hv_20_8 d_Mod_step_88 ?_
          refine lv_iconst (v := 4) hx hb d_Mod_step_91 (by decide) ?_
          refine lv_iload_n hx hb d_Mod_step_92 rfl (lv_at hl 3 rfl) ?_
          refine lv_imul hx hb d_Mod_step_93 ?_
          refine lv_iload_n hx hb d_Mod_step_94 rfl (lv_at hl 0 rfl) ?_
          refine lv_iadd hx hb d_Mod_step_95 ?_
          refine hd_iald hx hb hK hP 28 0 0 Nat.one_pos rfl rfl (mod_4 hmch1 (by rw [ex5]; exact hx4)) d_Mod_step_96 ?_
          refine lv_topi (fun x7 ex7 => ?_)
          refine lv_istore (lv' := [(4, .int x7), (3, .int x5), (2, .int x4), (0, .ref (ad 20 0)), (1, .int core_)]) hx hb d_Mod_step_97 hl (by decide) rfl (fun ls hl => ?_)
          refine lv_iload hx hb d_Mod_step_99 (lv_at hl 0 rfl) ?_
          refine lv_iconst (v := 2) hx hb d_Mod_step_101 (by decide) ?_
          refine lv_icmp_eq (tgt := 115) hx hb d_Mod_step_102 (by decide) (fun h8 => ?_) (fun h8 => ?_)
          · refine lv_aload_n hx hb d_Mod_step_115 rfl (lv_at hl 3 rfl) ?_
            refine lv_iload_n hx hb d_Mod_step_116 rfl (lv_at hl 4 rfl) ?_
            refine hd_cV hK (va_runV (As := [.int core_]) (rest := []) ⟨hx, hb, hml, hown, hts⟩ (c_Mod_perform l hJ core_ v hmch1 hnx hx4) (cwV 1 hts (hd_gV g_Mod_perform k_555 k_557 s_27 k_8) rfl rfl rfl (by decide +kernel) ⟨Nat.le_of_ble_eq_true rfl, Nat.le_of_ble_eq_true rfl⟩) (hd_preV hK hN hP 20 0 Nat.one_pos rfl rfl [.int core_]) rfl rfl hl.1 rfl (lv_room (Nat.le_of_ble_eq_true rfl)) d_Mod_step_117 ⟨Nat.zero_le _, Nat.zero_le _⟩) hS hA (fun H locs hP hS => ?_)
            refine lv_iconst (v := 1) hx hb d_Mod_step_120 (by decide) ?_
            exact hd_iret hx hb hr hlk hK hN hP hS d_Mod_step_121 ⟨by subst ex7; subst ex5; subst ex4; simp only [f_Mod_step]; rw [if_neg h1, if_pos h2, if_pos h3, if_neg h6, if_pos h8], by subst ex7; subst ex5; subst ex4; simp only [f_Mod_step]; rw [if_neg h1, if_pos h2, if_pos h3, if_neg h6, if_pos h8]⟩
          · refine lv_iload hx hb d_Mod_step_105 (lv_at hl 0 rfl) ?_
            refine lv_iconst (v := 1) hx hb d_Mod_step_107 (by decide) ?_
            refine lv_icmp_ne (tgt := 122) hx hb d_Mod_step_108 (by decide) (fun h10 => ?_) (fun h10 => ?_)
            · refine lv_iload hx hb d_Mod_step_122 (lv_at hl 0 rfl) ?_
              refine lv_iconst (v := 1) hx hb d_Mod_step_124 (by decide) ?_
              refine lv_icmp_ne (tgt := 138) hx hb d_Mod_step_125 (by decide) (fun h11 => ?_) (fun h11 => absurd h11 h10)
              refine lv_aload_n hx hb d_Mod_step_138 rfl (lv_at hl 3 rfl) ?_
              refine lv_iload_n hx hb d_Mod_step_139 rfl (lv_at hl 4 rfl) ?_
              refine hd_cI hK (va_runV (As := [.int core_]) (rest := []) ⟨hx, hb, hml, hown, hts⟩ (c_Mod_inUse l hJ core_ v hmch1) (cwV 1 hts (hd_gV g_Mod_inUse k_567 k_569 s_30 k_8) rfl rfl rfl (by decide +kernel) ⟨Nat.le_of_ble_eq_true rfl, Nat.le_of_ble_eq_true rfl⟩) (hd_preV hK hN hP 20 0 Nat.one_pos rfl rfl [.int core_]) rfl rfl hl.1 rfl (lv_room (Nat.le_of_ble_eq_true rfl)) d_Mod_step_140 ⟨Nat.zero_le _, Nat.zero_le _⟩) hS hA (fun H locs hP hS => ?_)
              refine lv_aload_n hx hb d_Mod_step_143 rfl (lv_at hl 3 rfl) ?_
              refine hd_get (C := R_Mod) (T := F_Mod) (N := 27) hx hb hts i_Mod hown hK hP 20 0 Nat.one_pos he_20 rfl 1 (by decide) (hts _ k_447) (fun _ h9 => h9) hv_20_1 d_Mod_step_144 ?_
              refine lv_icmp_lt (tgt := 156) hx hb d_Mod_step_147 (by decide) (fun h12 => ?_) (fun h12 => ?_)
              · refine lv_iload_n hx hb d_Mod_step_156 rfl (lv_at hl 2 rfl) ?_
                refine lv_if_ne (tgt := 171) hx hb d_Mod_step_157 (by decide) (fun h13 => ?_) (fun h13 => ?_)
                · refine lv_aload_n hx hb d_Mod_step_171 rfl (lv_at hl 3 rfl) ?_
                  refine lv_iload_n hx hb d_Mod_step_172 rfl (lv_at hl 4 rfl) ?_
                  refine lv_iload_n hx hb d_Mod_step_173 rfl (lv_at hl 1 rfl) ?_
                  refine lv_iconst (v := 1) hx hb d_Mod_step_174 (by decide) ?_
                  refine lv_iconst (v := 4) hx hb d_Mod_step_175 (by decide) ?_
                  refine hd_cIV hK (va_runV (As := [.int core_, .int x5, .int 1, .int 4]) (rest := []) ⟨hx, hb, hml, hown, hts⟩ (c_Mod_ask l hJ core_ x5 1 4 v hmch1 (by rw [ex5]; exact hx4) hmm) (cwV 4 hts (hd_gV g_Mod_ask k_559 k_561 s_28 k_8) rfl rfl rfl (by decide +kernel) ⟨Nat.le_of_ble_eq_true rfl, Nat.le_of_ble_eq_true rfl⟩) (hd_preV hK hN hP 20 0 Nat.one_pos rfl rfl [.int core_, .int x5, .int 1, .int 4]) rfl rfl hl.1 rfl (lv_room (Nat.le_of_ble_eq_true rfl)) d_Mod_step_176 ⟨Nat.zero_le _, Nat.zero_le _⟩) hS hA (fun H locs hP hS => ?_)
                  exact hd_iret hx hb hr hlk hK hN hP hS d_Mod_step_179 ⟨by subst ex7; subst ex5; subst ex4; simp only [f_Mod_step]; rw [if_neg h1, if_pos h2, if_pos h3, if_neg h6, if_neg h8, if_neg h10, if_pos h12, if_neg h13], by subst ex7; subst ex5; subst ex4; simp only [f_Mod_step]; rw [if_neg h1, if_pos h2, if_pos h3, if_neg h6, if_neg h8, if_neg h10, if_pos h12, if_neg h13]⟩
                · refine lv_aload_n hx hb d_Mod_step_160 rfl (lv_at hl 3 rfl) ?_
                  refine lv_iload_n hx hb d_Mod_step_161 rfl (lv_at hl 4 rfl) ?_
                  refine lv_iload_n hx hb d_Mod_step_162 rfl (lv_at hl 1 rfl) ?_
                  refine lv_iconst (v := 0) hx hb d_Mod_step_163 (by decide) ?_
                  refine lv_iconst (v := 3) hx hb d_Mod_step_164 (by decide) ?_
                  refine hd_cIV hK (va_runV (As := [.int core_, .int x5, .int 0, .int 3]) (rest := []) ⟨hx, hb, hml, hown, hts⟩ (c_Mod_ask l hJ core_ x5 0 3 v hmch1 (by rw [ex5]; exact hx4) hmm) (cwV 4 hts (hd_gV g_Mod_ask k_559 k_561 s_28 k_8) rfl rfl rfl (by decide +kernel) ⟨Nat.le_of_ble_eq_true rfl, Nat.le_of_ble_eq_true rfl⟩) (hd_preV hK hN hP 20 0 Nat.one_pos rfl rfl [.int core_, .int x5, .int 0, .int 3]) rfl rfl hl.1 rfl (lv_room (Nat.le_of_ble_eq_true rfl)) d_Mod_step_165 ⟨Nat.zero_le _, Nat.zero_le _⟩) hS hA (fun H locs hP hS => ?_)
                  refine lv_goto (tgt := 179) hx hb d_Mod_step_168 (by decide) ?_
                  exact hd_iret hx hb hr hlk hK hN hP hS d_Mod_step_179 ⟨by subst ex7; subst ex5; subst ex4; simp only [f_Mod_step]; rw [if_neg h1, if_pos h2, if_pos h3, if_neg h6, if_neg h8, if_neg h10, if_pos h12, if_pos h13], by subst ex7; subst ex5; subst ex4; simp only [f_Mod_step]; rw [if_neg h1, if_pos h2, if_pos h3, if_neg h6, if_neg h8, if_neg h10, if_pos h12, if_pos h13]⟩
              · refine lv_aload_n hx hb d_Mod_step_150 rfl (lv_at hl 3 rfl) ?_
                refine lv_iload_n hx hb d_Mod_step_151 rfl (lv_at hl 4 rfl) ?_
                refine hd_cIV hK (va_runV (As := [.int core_]) (rest := []) ⟨hx, hb, hml, hown, hts⟩ (c_Mod_replace l hJ core_ v hmch1 (us_Mod_inUse hmost h12) hmm) (cwV 1 hts (hd_gV g_Mod_replace k_571 k_573 s_31 k_8) rfl rfl rfl (by decide +kernel) ⟨Nat.le_of_ble_eq_true rfl, Nat.le_of_ble_eq_true rfl⟩) (hd_preV hK hN hP 20 0 Nat.one_pos rfl rfl [.int core_]) rfl rfl hl.1 rfl (lv_room (Nat.le_of_ble_eq_true rfl)) d_Mod_step_152 ⟨Nat.zero_le _, Nat.zero_le _⟩) hS hA (fun H locs hP hS => ?_)
                exact hd_iret hx hb hr hlk hK hN hP hS d_Mod_step_155 ⟨by subst ex7; subst ex5; subst ex4; simp only [f_Mod_step]; rw [if_neg h1, if_pos h2, if_pos h3, if_neg h6, if_neg h8, if_neg h10, if_neg h12], by subst ex7; subst ex5; subst ex4; simp only [f_Mod_step]; rw [if_neg h1, if_pos h2, if_pos h3, if_neg h6, if_neg h8, if_neg h10, if_neg h12]⟩
            · refine lv_iload_n hx hb d_Mod_step_111 rfl (lv_at hl 2 rfl) ?_
              refine lv_if_ne (tgt := 122) hx hb d_Mod_step_112 (by decide) (fun h20 => ?_) (fun h20 => ?_)
              · refine lv_iload hx hb d_Mod_step_122 (lv_at hl 0 rfl) ?_
                refine lv_iconst (v := 1) hx hb d_Mod_step_124 (by decide) ?_
                refine lv_icmp_ne (tgt := 138) hx hb d_Mod_step_125 (by decide) (fun h21 => absurd h10 h21) (fun h21 => ?_)
                refine lv_aload_n hx hb d_Mod_step_128 rfl (lv_at hl 3 rfl) ?_
                refine lv_iload_n hx hb d_Mod_step_129 rfl (lv_at hl 4 rfl) ?_
                refine lv_iload_n hx hb d_Mod_step_130 rfl (lv_at hl 1 rfl) ?_
                refine lv_iconst (v := 1) hx hb d_Mod_step_131 (by decide) ?_
                refine lv_bipush (v := 6) hx hb d_Mod_step_132 (by decide) ?_
                refine hd_cIV hK (va_runV (As := [.int core_, .int x5, .int 1, .int 6]) (rest := []) ⟨hx, hb, hml, hown, hts⟩ (c_Mod_ask l hJ core_ x5 1 6 v hmch1 (by rw [ex5]; exact hx4) hmm) (cwV 4 hts (hd_gV g_Mod_ask k_559 k_561 s_28 k_8) rfl rfl rfl (by decide +kernel) ⟨Nat.le_of_ble_eq_true rfl, Nat.le_of_ble_eq_true rfl⟩) (hd_preV hK hN hP 20 0 Nat.one_pos rfl rfl [.int core_, .int x5, .int 1, .int 6]) rfl rfl hl.1 rfl (lv_room (Nat.le_of_ble_eq_true rfl)) d_Mod_step_134 ⟨Nat.zero_le _, Nat.zero_le _⟩) hS hA (fun H locs hP hS => ?_)
                exact hd_iret hx hb hr hlk hK hN hP hS d_Mod_step_137 ⟨by subst ex7; subst ex5; subst ex4; simp only [f_Mod_step]; rw [if_neg h1, if_pos h2, if_pos h3, if_neg h6, if_neg h8, if_pos h10, if_neg h20], by subst ex7; subst ex5; subst ex4; simp only [f_Mod_step]; rw [if_neg h1, if_pos h2, if_pos h3, if_neg h6, if_neg h8, if_pos h10, if_neg h20]⟩
              · refine lv_aload_n hx hb d_Mod_step_115 rfl (lv_at hl 3 rfl) ?_
                refine lv_iload_n hx hb d_Mod_step_116 rfl (lv_at hl 4 rfl) ?_
                refine hd_cV hK (va_runV (As := [.int core_]) (rest := []) ⟨hx, hb, hml, hown, hts⟩ (c_Mod_perform l hJ core_ v hmch1 hnx hx4) (cwV 1 hts (hd_gV g_Mod_perform k_555 k_557 s_27 k_8) rfl rfl rfl (by decide +kernel) ⟨Nat.le_of_ble_eq_true rfl, Nat.le_of_ble_eq_true rfl⟩) (hd_preV hK hN hP 20 0 Nat.one_pos rfl rfl [.int core_]) rfl rfl hl.1 rfl (lv_room (Nat.le_of_ble_eq_true rfl)) d_Mod_step_117 ⟨Nat.zero_le _, Nat.zero_le _⟩) hS hA (fun H locs hP hS => ?_)
                refine lv_iconst (v := 1) hx hb d_Mod_step_120 (by decide) ?_
                exact hd_iret hx hb hr hlk hK hN hP hS d_Mod_step_121 ⟨by subst ex7; subst ex5; subst ex4; simp only [f_Mod_step]; rw [if_neg h1, if_pos h2, if_pos h3, if_neg h6, if_neg h8, if_pos h10, if_pos h20], by subst ex7; subst ex5; subst ex4; simp only [f_Mod_step]; rw [if_neg h1, if_pos h2, if_pos h3, if_neg h6, if_neg h8, if_pos h10, if_pos h20]⟩
        · refine lv_aload_n hx hb d_Mod_step_79 rfl (lv_at hl 2 rfl) ?_
          refine lv_iload_n hx hb d_Mod_step_80 rfl (lv_at hl 3 rfl) ?_
          refine lv_iload_n hx hb d_Mod_step_81 rfl (lv_at hl 1 rfl) ?_
          refine lv_iload_n hx hb d_Mod_step_82 rfl (lv_at hl 0 rfl) ?_
          refine hd_cIV hK (va_runV (As := [.int core_, .int x4, .int x5]) (rest := []) ⟨hx, hb, hml, hown, hts⟩ (c_Mod_plain l hJ core_ x4 x5 v hmch1) (cwV 3 hts (hd_gV g_Mod_plain k_551 k_553 s_26 k_8) rfl rfl rfl (by decide +kernel) ⟨Nat.le_of_ble_eq_true rfl, Nat.le_of_ble_eq_true rfl⟩) (hd_preV hK hN hP 20 0 Nat.one_pos rfl rfl [.int core_, .int x4, .int x5]) rfl rfl hl.1 rfl (lv_room (Nat.le_of_ble_eq_true rfl)) d_Mod_step_83 ⟨Nat.zero_le _, Nat.zero_le _⟩) hS hA (fun H locs hP hS => ?_)
          exact hd_iret hx hb hr hlk hK hN hP hS d_Mod_step_86 ⟨by subst ex5; subst ex4; simp only [f_Mod_step]; rw [if_neg h1, if_pos h2, if_pos h3, if_pos h6], by subst ex5; subst ex4; simp only [f_Mod_step]; rw [if_neg h1, if_pos h2, if_pos h3, if_pos h6]⟩
      · refine lv_iconst (v := 4) hx hb d_Mod_step_36 (by decide) ?_
        exact hd_iret hx hb hr hlk hK hN hP hS d_Mod_step_37 ⟨by simp only [f_Mod_step]; rw [if_neg h1, if_pos h2, if_neg h3], by simp only [f_Mod_step]; rw [if_neg h1, if_pos h2, if_neg h3]⟩
    · refine lv_iconst (v := 0) hx hb d_Mod_step_19 (by decide) ?_
      exact hd_iret hx hb hr hlk hK hN hP hS d_Mod_step_20 ⟨by simp only [f_Mod_step]; rw [if_neg h1, if_neg h2], by simp only [f_Mod_step]; rw [if_neg h1, if_neg h2]⟩
  · refine lv_iconst (v := -1) hx hb d_Mod_step_8 (by decide) ?_
    exact hd_iret hx hb hr hlk hK hN hP hS d_Mod_step_9 ⟨by simp only [f_Mod_step]; rw [if_pos h1], by simp only [f_Mod_step]; rw [if_pos h1]⟩
