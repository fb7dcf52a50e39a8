theorem n26_Mod_atCore {a c b x n r : Int32} {w : hd_V} (i j : Nat) : f_Mod_atCore a c b x n r w 26 i j = w 26 i j := by
  simp only [f_Mod_atCore]
  (repeat' split) <;> rfl
theorem wt_Mod_atCore {a c b x n r : Int32} {w : hd_V} {j : Nat} (h : f_Mod_atCore a c b x n r w 27 0 j = 1) : w 27 0 j = 1 := by
  simp only [f_Mod_atCore] at h
  (repeat' split at h) <;> first
    | with_reducible exact h
    | exact h
    | (rw [hd_u_eq] at h
       split at h
       · exact absurd h (by decide)
       · exact h)
theorem hd_one_le {k m : Int32} (h0 : ¬ k < 0) (h : k < m) : 1 ≤ m.toInt := by
  rw [Int32.lt_iff_toInt_lt, show (0 : Int32).toInt = 0 from rfl] at h0
  rw [Int32.lt_iff_toInt_lt] at h
  omega
def f_Mod_deliver (k_ : Int32) (v : hd_V) : Int32 × hd_V :=
  if k_ < 0 then
    ((-1), v)
  else
    if k_ < (v 20 0 17) then
      if (f_Mod_behind k_ v) = 0 then
        if (f_Mod_stalls k_ v) = 0 then
          let x5 : Int32 := v 40 0 k_.toNatClampNeg
          let x6 : Int32 := v 41 0 k_.toNatClampNeg
          let x7 : Int32 := v 42 0 k_.toNatClampNeg
          let x8 : Int32 := v 43 0 k_.toNatClampNeg
          let x9 : Int32 := v 44 0 k_.toNatClampNeg
          let x10 : Int32 := v 45 0 k_.toNatClampNeg
          let x11 : Int32 := v 46 0 k_.toNatClampNeg
          let v12 := f_Mod_remove k_ v
          if x7 = 4 then
            let v16 := f_Mod_atHome x5 x6 x8 x9 v12
            (v16 20 0 17, v16)
          else
            let v14 := f_Mod_atCore x5 x7 x8 x9 x10 x11 v12
            let v15 := f_Mod_finish x7 x8 v14
            (v15 20 0 17, v15)
        else
          ((-3), v)
      else
        ((-2), v)
    else
      ((-1), v)
set_option maxHeartbeats 4000000 in
set_option maxRecDepth 100000 in
theorem c_Mod_deliver (l : Launch) {D : va_G} {cI cZ cM cC : ClassId} {n : Nat} {ad : Nat → Nat → Nat} (hJ : hd_J (hx_L n) ad) (k_ : Int32) (v : hd_V) (hmm : hx_mm 5 v) (hmk : vp_in k_ 64 → k_ < v 20 0 17 → vp_in (v 43 0 k_.toNatClampNeg) 4 ∧ (¬ v 42 0 k_.toNatClampNeg = 4 → vp_in (v 42 0 k_.toNatClampNeg) 4) ∧ (v 42 0 k_.toNatClampNeg = 4 → ¬ v 40 0 k_.toNatClampNeg = 8 → vp_in (v 41 0 k_.toNatClampNeg) 4)) (how : ∀ b, b < 4 → v 34 0 b = 2 → vp_in (v 35 0 b) 4) (hnx : ∀ c, c < 4 → v 27 0 c = 1 → vp_in (v 26 0 c) 16) : Met l y_Mod_deliver w_Mod_deliver { frames := 4, cells := 0, slots := 0, locals := 100 } (va_Pc [.ref (ad 20 0), .int k_] (hx_B D cI cZ cM cC n ad v)) (va_Qi (fun r u => r = (f_Mod_deliver k_ v).1 ∧ u = (f_Mod_deliver k_ v).2) (fun u => hx_B D cI cZ cM cC n ad u) (hx_A n ad)) 0 0 (hx_A n ad) := by
  refine Met.ofW (cc := b_Mod_deliver) (maxL := 9) (ret := (some .int)) (by decide) rfl ?_
  intro p e s m args below meth c s₁ B hml hv
  obtain ⟨rfl, hP, hK, hN⟩ := hv
  have hx := B.exec
  have hb := B.bytes
  have hr := B.returns
  have hlk := B.notSynchronized
  have hts0 := atoms_spec (ws := w_Mod_deliver) B.pre
  have hts := fun w (hw : w ∈ lw_g) => hts0 w (List.mem_cons_of_mem _ hw)
  have hown : s.vm.findClass R_Mod = some m.cls := findClass_of_methodNamed B.named
  have hA : ∀ q, hx_A n ad q → hx_A n ad q := fun _ h => h
  have hS : va_S (hx_A n ad) s.heap s.heap [] := va_S.rf
  have hl := lv_entry ([.ref (ad 20 0), .int k_]) (n := 9) (Nat.le_of_ble_eq_true rfl)
  rw [lg_entry_eq]
  generalize (lg_sl ([.ref (ad 20 0), .int k_]) ++ List.replicate (9 - (lg_sl ([.ref (ad 20 0), .int k_])).length) Slot.unset).toArray = ls at hl ⊢
  have hl : lv_has ls 9 [(0, .ref (ad 20 0)), (1, .int k_)] := hl
  refine lv_iload_n hx hb d_Mod_deliver_0 rfl (lv_at hl 1 rfl) ?_
  refine lv_if_lt (tgt := 12) hx hb d_Mod_deliver_1 (by decide) (fun h1 => ?_) (fun h1 => ?_)
  · refine lv_iconst (v := -1) hx hb d_Mod_deliver_12 (by decide) ?_
    exact hd_iret hx hb hr hlk hK hN hP hS d_Mod_deliver_13 ⟨by simp only [f_Mod_deliver]; rw [if_pos h1], by simp only [f_Mod_deliver]; rw [if_pos h1]⟩
  · refine lv_iload_n hx hb d_Mod_deliver_4 rfl (lv_at hl 1 rfl) ?_
    refine lv_aload_n hx hb d_Mod_deliver_5 rfl (lv_at hl 0 rfl) ?_
    refine hd_get (C := R_Mod) (T := F_Mod) (N := 27) hx hb hts i_Mod hown hK hP 20 0 Nat.one_pos he_20 rfl 17 (by decide) (hts _ k_463) (fun _ h9 => h9) hv_20_17 d_Mod_deliver_6 ?_
    refine lv_icmp_lt (tgt := 14) hx hb d_Mod_deliver_9 (by decide) (fun h2 => ?_) (fun h2 => ?_)
    · have hm64 : (v 20 0 17).toInt ≤ 64 := by have := hmm.2; omega
      have hk : vp_in k_ 64 := hd_in8 h1 h2 hm64
      have hct := h2
      have h1m := hd_one_le h1 hct
      obtain ⟨hbk, hto, hfrm⟩ := hmk hk hct
      refine lv_aload_n hx hb d_Mod_deliver_14 rfl (lv_at hl 0 rfl) ?_
      refine lv_iload_n hx hb d_Mod_deliver_15 rfl (lv_at hl 1 rfl) ?_
      refine hd_cI hK (va_runV (As := [.int k_]) (rest := []) ⟨hx, hb, hml, hown, hts⟩ (c_Mod_behind l hJ k_ v hk) (cwV 1 hts (hd_gV g_Mod_behind k_579 k_581 s_32 k_8) rfl rfl rfl (by decide +kernel) ⟨Nat.le_of_ble_eq_true rfl, Nat.le_of_ble_eq_true rfl⟩) (hd_preV hK hN hP 20 0 Nat.one_pos rfl rfl [.int k_]) rfl rfl hl.1 rfl (lv_room (Nat.le_of_ble_eq_true rfl)) d_Mod_deliver_16 ⟨Nat.zero_le _, Nat.zero_le _⟩) hS hA (fun H locs hP hS => ?_)
      refine lv_if_eq (tgt := 25) hx hb d_Mod_deliver_19 (by decide) (fun h3 => ?_) (fun h3 => ?_)
      · refine lv_aload_n hx hb d_Mod_deliver_25 rfl (lv_at hl 0 rfl) ?_
        refine lv_iload_n hx hb d_Mod_deliver_26 rfl (lv_at hl 1 rfl) ?_
        refine hd_cI hK (va_runV (As := [.int k_]) (rest := []) ⟨hx, hb, hml, hown, hts⟩ (c_Mod_stalls l hJ k_ v hk hbk hto) (cwV 1 hts (hd_gV g_Mod_stalls k_583 k_585 s_33 k_8) rfl rfl rfl (by decide +kernel) ⟨Nat.le_of_ble_eq_true rfl, Nat.le_of_ble_eq_true rfl⟩) (hd_preV hK hN hP 20 0 Nat.one_pos rfl rfl [.int k_]) rfl rfl hl.1 rfl (lv_room (Nat.le_of_ble_eq_true rfl)) d_Mod_deliver_27 ⟨Nat.zero_le _, Nat.zero_le _⟩) hS hA (fun H locs hP hS => ?_)
        refine lv_if_eq (tgt := 36) hx hb d_Mod_deliver_30 (by decide) (fun h4 => ?_) (fun h4 => ?_)
        · refine lv_aload_n hx hb d_Mod_deliver_36 rfl (lv_at hl 0 rfl) ?_
          refine hd_get (C := R_Mod) (T := F_Mod) (N := 27) hx hb hts i_Mod hown hK hP 20 0 Nat.one_pos he_20 rfl 20 (by decide) (hts _ k_466) (fun _ h9 => h9) hv_20_20 d_Mod_deliver_37 ?_
          refine lv_iload_n hx hb d_Mod_deliver_40 rfl (lv_at hl 1 rfl) ?_
          refine hd_iald hx hb hK hP 40 0 0 Nat.one_pos rfl rfl hk d_Mod_deliver_41 ?_
          refine lv_topi (fun x5 ex5 => ?_)
          refine lv_istore_n (lv' := [(2, .int x5), (0, .ref (ad 20 0)), (1, .int k_)]) hx hb d_Mod_deliver_42 rfl hl (by decide) rfl (fun ls hl => ?_)
          refine lv_aload_n hx hb d_Mod_deliver_43 rfl (lv_at hl 1 rfl) ?_
          refine hd_get (C := R_Mod) (T := F_Mod) (N := 27) hx hb hts i_Mod hown hK hP 20 0 Nat.one_pos he_20 rfl 21 (by decide) (hts _ k_467) (fun _ h9 => h9) hv_20_21 d_Mod_deliver_44 ?_
          refine lv_iload_n hx hb d_Mod_deliver_47 rfl (lv_at hl 2 rfl) ?_
          refine hd_iald hx hb hK hP 41 0 0 Nat.one_pos rfl rfl hk d_Mod_deliver_48 ?_
          refine lv_topi (fun x6 ex6 => ?_)
          refine lv_istore_n (lv' := [(3, .int x6), (2, .int x5), (0, .ref (ad 20 0)), (1, .int k_)]) hx hb d_Mod_deliver_49 rfl hl (by decide) rfl (fun ls hl => ?_)
          refine lv_aload_n hx hb d_Mod_deliver_50 rfl (lv_at hl 2 rfl) ?_
          refine hd_get (C := R_Mod) (T := F_Mod) (N := 27) hx hb hts i_Mod hown hK hP 20 0 Nat.one_pos he_20 rfl 22 (by decide) (hts _ k_468) (fun _ h9 => h9) hv_20_22 d_Mod_deliver_51 ?_
          refine lv_iload_n hx hb d_Mod_deliver_54 rfl (lv_at hl 3 rfl) ?_
          refine hd_iald hx hb hK hP 42 0 0 Nat.one_pos rfl rfl hk d_Mod_deliver_55 ?_
          refine lv_topi (fun x7 ex7 => ?_)
          refine lv_istore (lv' := [(4, .int x7), (3, .int x6), (2, .int x5), (0, .ref (ad 20 0)), (1, .int k_)]) hx hb d_Mod_deliver_56 hl (by decide) rfl (fun ls hl => ?_)
          refine lv_aload_n hx hb d_Mod_deliver_58 rfl (lv_at hl 3 rfl) ?_
          refine hd_get (C := R_Mod) (T := F_Mod) (N := 27) hx hb hts i_Mod hown hK hP 20 0 Nat.one_pos he_20 rfl 23 (by decide) (hts _ k_469) (fun _ h9 => h9) hv_20_23 d_Mod_deliver_59 ?_
          refine lv_iload_n hx hb d_Mod_deliver_62 rfl (lv_at hl 4 rfl) ?_
          refine hd_iald hx hb hK hP 43 0 0 Nat.one_pos rfl rfl hk d_Mod_deliver_63 ?_
          refine lv_topi (fun x8 ex8 => ?_)
          refine lv_istore (lv' := [(5, .int x8), (4, .int x7), (3, .int x6), (2, .int x5), (0, .ref (ad 20 0)), (1, .int k_)]) hx hb d_Mod_deliver_64 hl (by decide) rfl (fun ls hl => ?_)
          refine lv_aload_n hx hb d_Mod_deliver_66 rfl (lv_at hl 4 rfl) ?_
          refine hd_get (C := R_Mod) (T := F_Mod) (N := 27) hx hb hts i_Mod hown hK hP 20 0 Nat.one_pos he_20 rfl 24 (by decide) (hts _ k_470) (fun _ h9 => h9) hv_20_24 d_Mod_deliver_67 ?_
          refine lv_iload_n hx hb d_Mod_deliver_70 rfl (lv_at hl 5 rfl) ?_
          refine hd_iald hx hb hK hP 44 0 0 Nat.one_pos rfl rfl hk d_Mod_deliver_71 ?_
          refine lv_topi (fun x9 ex9 => ?_)
          refine lv_istore (lv' := [(6, .int x9), (5, .int x8), (4, .int x7), (3, .int x6), (2, .int x5), (0, .ref (ad 20 0)), (1, .int k_)]) hx hb d_Mod_deliver_72 hl (by decide) rfl (fun ls hl => ?_)
          refine lv_aload_n hx hb d_Mod_deliver_74 rfl (lv_at hl 5 rfl) ?_
          refine hd_get (C := R_Mod) (T := F_Mod) (N := 27) hx hb hts i_Mod hown hK hP 20 0 Nat.one_pos he_20 rfl 25 (by decide) (hts _ k_471) (fun _ h9 => h9) hv_20_25 d_Mod_deliver_75 ?_
          refine lv_iload_n hx hb d_Mod_deliver_78 rfl (lv_at hl 6 rfl) ?_
          refine hd_iald hx hb hK hP 45 0 0 Nat.one_pos rfl rfl hk d_Mod_deliver_79 ?_
          refine lv_topi (fun x10 ex10 => ?_)
          refine lv_istore (lv' := [(7, .int x10), (6, .int x9), (5, .int x8), (4, .int x7), (3, .int x6), (2, .int x5), (0, .ref (ad 20 0)), (1, .int k_)]) hx hb d_Mod_deliver_80 hl (by decide) rfl (fun ls hl => ?_)
          refine lv_aload_n hx hb d_Mod_deliver_82 rfl (lv_at hl 6 rfl) ?_
          refine hd_get (C := R_Mod) (T := F_Mod) (N := 27) hx hb hts i_Mod hown hK hP 20 0 Nat.one_pos he_20 rfl 26 (by decide) (hts _ k_472) (fun _ h9 => h9) hv_20_26 d_Mod_deliver_83 ?_
          refine lv_iload_n hx hb d_Mod_deliver_86 rfl (lv_at hl 7 rfl) ?_
          refine hd_iald hx hb hK hP 46 0 0 Nat.one_pos rfl rfl hk d_Mod_deliver_87 ?_
          refine lv_topi (fun x11 ex11 => ?_)
          refine lv_istore (lv' := [(8, .int x11), (7, .int x10), (6, .int x9), (5, .int x8), (4, .int x7), (3, .int x6), (2, .int x5), (0, .ref (ad 20 0)), (1, .int k_)]) hx hb d_Mod_deliver_88 hl (by decide) rfl (fun ls hl => ?_)
          refine lv_aload_n hx hb d_Mod_deliver_90 rfl (lv_at hl 7 rfl) ?_
          refine lv_iload_n hx hb d_Mod_deliver_91 rfl (lv_at hl 8 rfl) ?_
          refine hd_cV hK (va_runV (As := [.int k_]) (rest := []) ⟨hx, hb, hml, hown, hts⟩ (c_Mod_remove l hJ k_ v hk hct hm64) (cwV 1 hts (hd_gV g_Mod_remove k_587 k_589 s_34 k_8) rfl rfl rfl (by decide +kernel) ⟨Nat.le_of_ble_eq_true rfl, Nat.le_of_ble_eq_true rfl⟩) (hd_preV hK hN hP 20 0 Nat.one_pos rfl rfl [.int k_]) rfl rfl hl.1 rfl (lv_room (Nat.le_of_ble_eq_true rfl)) d_Mod_deliver_92 ⟨Nat.zero_le _, Nat.zero_le _⟩) hS hA (fun H locs hP hS => ?_)
          refine lv_iload hx hb d_Mod_deliver_95 (lv_at hl 4 rfl) ?_
          refine lv_iconst (v := 4) hx hb d_Mod_deliver_97 (by decide) ?_
          refine lv_icmp_ne (tgt := 114) hx hb d_Mod_deliver_98 (by decide) (fun h13 => ?_) (fun h13 => ?_)
          · refine lv_aload_n hx hb d_Mod_deliver_114 rfl (lv_at hl 7 rfl) ?_
            refine lv_iload_n hx hb d_Mod_deliver_115 rfl (lv_at hl 6 rfl) ?_
            refine lv_iload hx hb d_Mod_deliver_116 (lv_at hl 4 rfl) ?_
            refine lv_iload hx hb d_Mod_deliver_118 (lv_at hl 3 rfl) ?_
            refine lv_iload hx hb d_Mod_deliver_120 (lv_at hl 2 rfl) ?_
            refine lv_iload hx hb d_Mod_deliver_122 (lv_at hl 1 rfl) ?_
            refine lv_iload hx hb d_Mod_deliver_124 (lv_at hl 0 rfl) ?_
            refine hd_cV hK (va_runV (As := [.int x5, .int x7, .int x8, .int x9, .int x10, .int x11]) (rest := []) ⟨hx, hb, hml, hown, hts⟩ (c_Mod_atCore l hJ x5 x7 x8 x9 x10 x11 (f_Mod_remove k_ v) (by rw [ex7]; exact hto (by rw [← ex7]; exact h13)) (by rw [ex8]; exact hbk) (mm_le (by decide) (mm_Mod_remove hmm h1m))) (cwV 6 hts (hd_gV g_Mod_atCore k_611 k_613 s_40 k_8) rfl rfl rfl (by decide +kernel) ⟨Nat.le_of_ble_eq_true rfl, Nat.le_of_ble_eq_true rfl⟩) (hd_preV hK hN hP 20 0 Nat.one_pos rfl rfl [.int x5, .int x7, .int x8, .int x9, .int x10, .int x11]) rfl rfl hl.1 rfl (lv_room (Nat.le_of_ble_eq_true rfl)) d_Mod_deliver_126 ⟨Nat.zero_le _, Nat.zero_le _⟩) hS hA (fun H locs hP hS => ?_)
            refine lv_aload_n hx hb d_Mod_deliver_129 rfl (lv_at hl 7 rfl) ?_
            refine lv_iload hx hb d_Mod_deliver_130 (lv_at hl 4 rfl) ?_
            refine lv_iload hx hb d_Mod_deliver_132 (lv_at hl 3 rfl) ?_
            refine hd_cV hK (va_runV (As := [.int x7, .int x8]) (rest := []) ⟨hx, hb, hml, hown, hts⟩ (c_Mod_finish l hJ x7 x8 (f_Mod_atCore x5 x7 x8 x9 x10 x11 (f_Mod_remove k_ v)) (by rw [ex7]; exact hto (by rw [← ex7]; exact h13)) (by rw [ex8]; exact hbk) (fun z => by have z1 := wt_Mod_atCore z; rw [same_Mod_remove (by decide) (by decide)] at z1; rw [n26_Mod_atCore, same_Mod_remove (by decide) (by decide)]; exact hnx _ (hd_lt (by rw [ex7]; exact hto (by rw [← ex7]; exact h13))) z1)) (cwV 2 hts (hd_gV g_Mod_finish k_615 k_617 s_41 k_8) rfl rfl rfl (by decide +kernel) ⟨Nat.le_of_ble_eq_true rfl, Nat.le_of_ble_eq_true rfl⟩) (hd_preV hK hN hP 20 0 Nat.one_pos rfl rfl [.int x7, .int x8]) rfl rfl hl.1 rfl (lv_room (Nat.le_of_ble_eq_true rfl)) d_Mod_deliver_134 ⟨Nat.zero_le _, Nat.zero_le _⟩) hS hA (fun H locs hP hS => ?_)
            refine lv_aload_n hx hb d_Mod_deliver_137 rfl (lv_at hl 7 rfl) ?_
            refine hd_get (C := R_Mod) (T := F_Mod) (N := 27) hx hb hts i_Mod hown hK hP 20 0 Nat.one_pos he_20 rfl 17 (by decide) (hts _ k_463) (fun _ h9 => h9) hv_20_17 d_Mod_deliver_138 ?_
            exact hd_iret hx hb hr hlk hK hN hP hS d_Mod_deliver_141 ⟨by subst ex11; subst ex10; subst ex9; subst ex8; subst ex7; subst ex6; subst ex5; simp only [f_Mod_deliver]; rw [if_neg h1, if_pos h2, if_pos h3, if_pos h4, if_neg h13], by subst ex11; subst ex10; subst ex9; subst ex8; subst ex7; subst ex6; subst ex5; simp only [f_Mod_deliver]; rw [if_neg h1, if_pos h2, if_pos h3, if_pos h4, if_neg h13]⟩
          · refine lv_aload_n hx hb d_Mod_deliver_101 rfl (lv_at hl 7 rfl) ?_
            refine lv_iload_n hx hb d_Mod_deliver_102 rfl (lv_at hl 6 rfl) ?_
            refine lv_iload_n hx hb d_Mod_deliver_103 rfl (lv_at hl 5 rfl) ?_
            refine lv_iload hx hb d_Mod_deliver_104 (lv_at hl 3 rfl) ?_
            refine lv_iload hx hb d_Mod_deliver_106 (lv_at hl 2 rfl) ?_
            refine hd_cV hK (va_runV (As := [.int x5, .int x6, .int x8, .int x9]) (rest := []) ⟨hx, hb, hml, hown, hts⟩ (c_Mod_atHome l hJ x5 x6 x8 x9 (f_Mod_remove k_ v) (by rw [ex8]; exact hbk) (fun z => by rw [ex6]; exact hfrm (by rw [← ex7]; exact h13) (by rw [← ex5]; exact z)) (fun z => by rw [same_Mod_remove (by decide) (by decide)] at z ⊢; exact how _ (hd_lt (by rw [ex8]; exact hbk)) z) (mm_Mod_remove hmm h1m)) (cwV 4 hts (hd_gV g_Mod_atHome k_591 k_593 s_35 k_8) rfl rfl rfl (by decide +kernel) ⟨Nat.le_of_ble_eq_true rfl, Nat.le_of_ble_eq_true rfl⟩) (hd_preV hK hN hP 20 0 Nat.one_pos rfl rfl [.int x5, .int x6, .int x8, .int x9]) rfl rfl hl.1 rfl (lv_room (Nat.le_of_ble_eq_true rfl)) d_Mod_deliver_108 ⟨Nat.zero_le _, Nat.zero_le _⟩) hS hA (fun H locs hP hS => ?_)
            refine lv_goto (tgt := 137) hx hb d_Mod_deliver_111 (by decide) ?_
            refine lv_aload_n hx hb d_Mod_deliver_137 rfl (lv_at hl 7 rfl) ?_
            refine hd_get (C := R_Mod) (T := F_Mod) (N := 27) hx hb hts i_Mod hown hK hP 20 0 Nat.one_pos he_20 rfl 17 (by decide) (hts _ k_463) (fun _ h9 => h9) hv_20_17 d_Mod_deliver_138 ?_
            exact hd_iret hx hb hr hlk hK hN hP hS d_Mod_deliver_141 ⟨by subst ex11; subst ex10; subst ex9; subst ex8; subst ex7; subst ex6; subst ex5; simp only [f_Mod_deliver]; rw [if_neg h1, if_pos h2, if_pos h3, if_pos h4, if_pos h13], by subst ex11; subst ex10; subst ex9; subst ex8; subst ex7; subst ex6; subst ex5; simp only [f_Mod_deliver]; rw [if_neg h1, if_pos h2, if_pos h3, if_pos h4, if_pos h13]⟩
        · refine lv_bipush (v := -3) hx hb d_Mod_deliver_33 (by decide) ?_
          exact hd_iret hx hb hr hlk hK hN hP hS d_Mod_deliver_35 ⟨by simp only [f_Mod_deliver]; rw [if_neg h1, if_pos h2, if_pos h3, if_neg h4], by simp only [f_Mod_deliver]; rw [if_neg h1, if_pos h2, if_pos h3, if_neg h4]⟩
      · refine lv_bipush (v := -2) hx hb d_Mod_deliver_22 (by decide) ?_
        exact hd_iret hx hb hr hlk hK hN hP hS d_Mod_deliver_24 ⟨by simp only [f_Mod_deliver]; rw [if_neg h1, if_pos h2, if_neg h3], by simp only [f_Mod_deliver]; rw [if_neg h1, if_pos h2, if_neg h3]⟩
    · refine lv_iconst (v := -1) hx hb d_Mod_deliver_12 (by decide) ?_
      exact hd_iret hx hb hr hlk hK hN hP hS d_Mod_deliver_13 ⟨by simp only [f_Mod_deliver]; rw [if_neg h1, if_neg h2], by simp only [f_Mod_deliver]; rw [if_neg h1, if_neg h2]⟩
