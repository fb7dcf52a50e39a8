def f_Mod_remove_L12 (k_ : Int32) : Nat → Int32 → hd_V → hd_V
  | 0, _, w => w
  | k + 1, y2, w =>
    if (w 20 0 17) ≤ y2 then
      w
    else
      let v103 := hd_u w 40 0 y2.toNatClampNeg (w 40 0 (y2 + 1).toNatClampNeg)
      let v104 := hd_u v103 41 0 y2.toNatClampNeg (v103 41 0 (y2 + 1).toNatClampNeg)
      let v105 := hd_u v104 42 0 y2.toNatClampNeg (v104 42 0 (y2 + 1).toNatClampNeg)
      let v106 := hd_u v105 43 0 y2.toNatClampNeg (v105 43 0 (y2 + 1).toNatClampNeg)
      let v107 := hd_u v106 44 0 y2.toNatClampNeg (v106 44 0 (y2 + 1).toNatClampNeg)
      let v108 := hd_u v107 45 0 y2.toNatClampNeg (v107 45 0 (y2 + 1).toNatClampNeg)
      let v109 := hd_u v108 46 0 y2.toNatClampNeg (v108 46 0 (y2 + 1).toNatClampNeg)
      let x110 : Int32 := y2 + 1
      f_Mod_remove_L12 k_ k x110 v109
def f_Mod_remove (k_ : Int32) (v : hd_V) : hd_V :=
  let v1 := hd_u v 20 0 17 ((v 20 0 17) - 1)
  f_Mod_remove_L12 k_ 65 k_ v1
set_option maxHeartbeats 4000000 in
set_option maxRecDepth 100000 in
theorem c_Mod_remove (l : Launch) {D : va_G} {cI cZ cM cC : ClassId} {n : Nat} {ad : Nat → Nat → Nat} (hJ : hd_J (hx_L n) ad) (k_ : Int32) (v : hd_V) (hk : vp_in k_ 64) (hct : k_ < v 20 0 17) (hct2 : (v 20 0 17).toInt ≤ 64) : Met l y_Mod_remove w_Mod_remove { frames := 0, cells := 0, slots := 0, locals := 0 } (va_Pc [.ref (ad 20 0), .int k_] (hx_B D cI cZ cM cC n ad v)) (va_Qv (fun u => u = f_Mod_remove k_ v) (fun u => hx_B D cI cZ cM cC n ad u) (hx_A n ad)) 0 0 (hx_A n ad) := by
  refine Met.ofW (cc := b_Mod_remove) (maxL := 3) (ret := none) (by decide) rfl ?_
  intro p e s m args below meth c s₁ B hml hv
  obtain ⟨rfl, hP, hK, hN⟩ := hv
  have hx := B.exec
  have hb := B.bytes
  have hr := B.returns
  have hlk := B.notSynchronized
  have hts0 := atoms_spec (ws := w_Mod_remove) B.pre
  have hts := fun w (hw : w ∈ lw_g) => hts0 w (List.mem_cons_of_mem _ hw)
  have hown : s.vm.findClass R_Mod = some m.cls := findClass_of_methodNamed B.named
  have hA : ∀ q, hx_A n ad q → hx_A n ad q := fun _ h => h
  have hS : va_S (hx_A n ad) s.heap s.heap [] := va_S.rf
  have hl := lv_entry ([.ref (ad 20 0), .int k_]) (n := 3) (Nat.le_of_ble_eq_true rfl)
  rw [lg_entry_eq]
  generalize (lg_sl ([.ref (ad 20 0), .int k_]) ++ List.replicate (3 - (lg_sl ([.ref (ad 20 0), .int k_])).length) Slot.unset).toArray = ls at hl ⊢
  have hl : lv_has ls 3 [(0, .ref (ad 20 0)), (1, .int k_)] := hl
  have hk2 : k_ = nI k_.toNatClampNeg := hd_nI hk
  have hk3 : k_.toNatClampNeg < 64 := hd_lt hk
  obtain ⟨hc2, hkc⟩ := hd_dec64 hk hct hct2
  have hc3 := hd_lt hc2
  obtain ⟨cc_, hcc⟩ : ∃ z, z = (v 20 0 17 - 1).toNatClampNeg := ⟨_, rfl⟩
  rw [← hcc] at hkc hc3
  have loop12 : ∀ (k i : Nat) (y2 : Int32) (w : hd_V), (i ≤ cc_) → (cc_ < i + k) → (y2 = nI i) → (w 20 0 17 = nI cc_) → f_Mod_remove k_ v = f_Mod_remove_L12 k_ k y2 w → ∀ (H : Heap) (locs : List Loc) (ls : Array Slot), hd_P D hx_cl (hx_L n) ad (hx_ce cI cZ cM cC n ad) w H → va_S (hx_A n ad) s.heap H locs → lv_has ls 3 [(2, .int y2), (0, .ref (ad 20 0)), (1, .int k_)] → W p l e (headSpec w_Mod_remove { frames := 0, cells := 0, slots := 0, locals := 0 }).room s m [.ref (ad 20 0), .int k_].toArray below meth c H locs 0 0 (MQ below (va_Qv (fun u => u = f_Mod_remove k_ v) (fun u => hx_B D cI cZ cM cC n ad u) (hx_A n ad)) [.ref (ad 20 0), .int k_].toArray s 0 0 (hx_A n ad)) (F0 m 12 ls []) := by
    intro k
    induction k with
    | zero =>
      intro i y2 w hi1 hi2 hi3 hcw
      exact absurd hi2 (by omega)
    | succ k ih =>
      intro i y2 w hi1 hi2 hi3 hcw hf H locs ls hP hS hl
      refine lv_iload_n hx hb d_Mod_remove_12 rfl (lv_at hl 0 rfl) ?_
      refine lv_aload_n hx hb d_Mod_remove_13 rfl (lv_at hl 1 rfl) ?_
      refine hd_get (C := R_Mod) (T := F_Mod) (N := 27) hx hb hts i_Mod hown hK hP 20 0 Nat.one_pos he_20 rfl 17 (by decide) (hts _ k_463) (fun _ h9 => h9) hv_20_17 d_Mod_remove_14 ?_
      refine lv_icmp_ge (tgt := 124) hx hb d_Mod_remove_17 (by decide) (fun h102 => ?_) (fun h102 => ?_)
      · exact hd_vret hx hb hr hlk hK hN hP hS d_Mod_remove_124 (by rw [hf]; simp only [f_Mod_remove_L12]; rw [if_pos h102])
      · have hlt : i < cc_ := hd_lp hi3 hcw (by omega) h102
        have hin : vp_in y2 64 := hd_lpin hi3 (by omega) (by decide)
        have hin1 : vp_in (y2 + 1) 64 := hd_lpin (show y2 + 1 = nI (i + 1) by rw [hi3]; exact nI_1 i) (by omega) (by decide)
        refine lv_aload_n hx hb d_Mod_remove_20 rfl (lv_at hl 1 rfl) ?_
        refine hd_get (C := R_Mod) (T := F_Mod) (N := 27) hx hb hts i_Mod hown hK hP 20 0 Nat.one_pos he_20 rfl 20 (by decide) (hts _ k_466) (fun _ h9 => h9) hv_20_20 d_Mod_remove_21 ?_
        refine lv_iload_n hx hb d_Mod_remove_24 rfl (lv_at hl 0 rfl) ?_
        refine lv_aload_n hx hb d_Mod_remove_25 rfl (lv_at hl 1 rfl) ?_
        refine hd_get (C := R_Mod) (T := F_Mod) (N := 27) hx hb hts i_Mod hown hK hP 20 0 Nat.one_pos he_20 rfl 20 (by decide) (hts _ k_466) (fun _ h9 => h9) hv_20_20 d_Mod_remove_26 ?_
        refine lv_iload_n hx hb d_Mod_remove_29 rfl (lv_at hl 0 rfl) ?_
        refine lv_iconst (v := 1) hx hb d_Mod_remove_30 (by decide) ?_
        refine lv_iadd hx hb d_Mod_remove_31 ?_
        refine hd_iald hx hb hK hP 40 0 0 Nat.one_pos rfl rfl hin1 d_Mod_remove_32 ?_
        refine hd_iast hx hb hK hP hJ hA hS 40 0 0 Nat.one_pos (fun _ => rfl) rfl hin d_Mod_remove_33 (fun H locs hP hS => ?_)
        refine lv_aload_n hx hb d_Mod_remove_34 rfl (lv_at hl 1 rfl) ?_
        refine hd_get (C := R_Mod) (T := F_Mod) (N := 27) hx hb hts i_Mod hown hK hP 20 0 Nat.one_pos he_20 rfl 21 (by decide) (hts _ k_467) (fun _ h9 => h9) hv_20_21 d_Mod_remove_35 ?_
        refine lv_iload_n hx hb d_Mod_remove_38 rfl (lv_at hl 0 rfl) ?_
        refine lv_aload_n hx hb d_Mod_remove_39 rfl (lv_at hl 1 rfl) ?_
        refine hd_get (C := R_Mod) (T := F_Mod) (N := 27) hx hb hts i_Mod hown hK hP 20 0 Nat.one_pos he_20 rfl 21 (by decide) (hts _ k_467) (fun _ h9 => h9) hv_20_21 d_Mod_remove_40 ?_
        refine lv_iload_n hx hb d_Mod_remove_43 rfl (lv_at hl 0 rfl) ?_
        refine lv_iconst (v := 1) hx hb d_Mod_remove_44 (by decide) ?_
        refine lv_iadd hx hb d_Mod_remove_45 ?_
        refine hd_iald hx hb hK hP 41 0 0 Nat.one_pos rfl rfl hin1 d_Mod_remove_46 ?_
        refine hd_iast hx hb hK hP hJ hA hS 41 0 0 Nat.one_pos (fun _ => rfl) rfl hin d_Mod_remove_47 (fun H locs hP hS => ?_)
        refine lv_aload_n hx hb d_Mod_remove_48 rfl (lv_at hl 1 rfl) ?_
        refine hd_get (C := R_Mod) (T := F_Mod) (N := 27) hx hb hts i_Mod hown hK hP 20 0 Nat.one_pos he_20 rfl 22 (by decide) (hts _ k_468) (fun _ h9 => h9) hv_20_22 d_Mod_remove_49 ?_
        refine lv_iload_n hx hb d_Mod_remove_52 rfl (lv_at hl 0 rfl) ?_
        refine lv_aload_n hx hb d_Mod_remove_53 rfl (lv_at hl 1 rfl) ?_
        refine hd_get (C := R_Mod) (T := F_Mod) (N := 27) hx hb hts i_Mod hown hK hP 20 0 Nat.one_pos he_20 rfl 22 (by decide) (hts _ k_468) (fun _ h9 => h9) hv_20_22 d_Mod_remove_54 ?_
        refine lv_iload_n hx hb d_Mod_remove_57 rfl (lv_at hl 0 rfl) ?_
        refine lv_iconst (v := 1) hx hb d_Mod_remove_58 (by decide) ?_
        refine lv_iadd hx hb d_Mod_remove_59 ?_
        refine hd_iald hx hb hK hP 42 0 0 Nat.one_pos rfl rfl hin1 d_Mod_remove_60 ?_
        refine hd_iast hx hb hK hP hJ hA hS 42 0 0 Nat.one_pos (fun _ => rfl) rfl hin d_Mod_remove_61 (fun H locs hP hS => ?_)
        refine lv_aload_n hx hb d_Mod_remove_62 rfl (lv_at hl 1 rfl) ?_
        refine hd_get (C := R_Mod) (T := F_Mod) (N := 27) hx hb hts i_Mod hown hK hP 20 0 Nat.one_pos he_20 rfl 23 (by decide) (hts _ k_469) (fun _ h9 => h9) hv_20_23 d_Mod_remove_63 ?_
        refine lv_iload_n hx hb d_Mod_remove_66 rfl (lv_at hl 0 rfl) ?_
        refine lv_aload_n hx hb d_Mod_remove_67 rfl (lv_at hl 1 rfl) ?_
        refine hd_get (C := R_Mod) (T := F_Mod) (N := 27) hx hb hts i_Mod hown hK hP 20 0 Nat.one_pos he_20 rfl 23 (by decide) (hts _ k_469) (fun _ h9 => h9) hv_20_23 d_Mod_remove_68 ?_
        refine lv_iload_n hx hb d_Mod_remove_71 rfl (lv_at hl 0 rfl) ?_
        refine lv_iconst (v := 1) hx hb d_Mod_remove_72 (by decide) ?_
        refine lv_iadd hx hb d_Mod_remove_73 ?_
        refine hd_iald hx hb hK hP 43 0 0 Nat.one_pos rfl rfl hin1 d_Mod_remove_74 ?_
        refine hd_iast hx hb hK hP hJ hA hS 43 0 0 Nat.one_pos (fun _ => rfl) rfl hin d_Mod_remove_75 (fun H locs hP hS => ?_)
        refine lv_aload_n hx hb d_Mod_remove_76 rfl (lv_at hl 1 rfl) ?_
        refine hd_get (C := R_Mod) (T := F_Mod) (N := 27) hx hb hts i_Mod hown hK hP 20 0 Nat.one_pos he_20 rfl 24 (by decide) (hts _ k_470) (fun _ h9 => h9) hv_20_24 d_Mod_remove_77 ?_
        refine lv_iload_n hx hb d_Mod_remove_80 rfl (lv_at hl 0 rfl) ?_
        refine lv_aload_n hx hb d_Mod_remove_81 rfl (lv_at hl 1 rfl) ?_
        refine hd_get (C := R_Mod) (T := F_Mod) (N := 27) hx hb hts i_Mod hown hK hP 20 0 Nat.one_pos he_20 rfl 24 (by decide) (hts _ k_470) (fun _ h9 => h9) hv_20_24 d_Mod_remove_82 ?_
        refine lv_iload_n hx hb d_Mod_remove_85 rfl (lv_at hl 0 rfl) ?_
        refine lv_iconst (v := 1) hx hb d_Mod_remove_86 (by decide) ?_
        refine lv_iadd hx hb d_Mod_remove_87 ?_
        refine hd_iald hx hb hK hP 44 0 0 Nat.one_pos rfl rfl hin1 d_Mod_remove_88 ?_
        refine hd_iast hx hb hK hP hJ hA hS 44 0 0 Nat.one_pos (fun _ => rfl) rfl hin d_Mod_remove_89 (fun H locs hP hS => ?_)
        refine lv_aload_n hx hb d_Mod_remove_90 rfl (lv_at hl 1 rfl) ?_
        refine hd_get (C := R_Mod) (T := F_Mod) (N := 27) hx hb hts i_Mod hown hK hP 20 0 Nat.one_pos he_20 rfl 25 (by decide) (hts _ k_471) (fun _ h9 => h9) hv_20_25 d_Mod_remove_91 ?_
        refine lv_iload_n hx hb d_Mod_remove_94 rfl (lv_at hl 0 rfl) ?_
        refine lv_aload_n hx hb d_Mod_remove_95 rfl (lv_at hl 1 rfl) ?_
        refine hd_get (C := R_Mod) (T := F_Mod) (N := 27) hx hb hts i_Mod hown hK hP 20 0 Nat.one_pos he_20 rfl 25 (by decide) (hts _ k_471) (fun _ h9 => h9) hv_20_25 d_Mod_remove_96 ?_
        refine lv_iload_n hx hb d_Mod_remove_99 rfl (lv_at hl 0 rfl) ?_
        refine lv_iconst (v := 1) hx hb d_Mod_remove_100 (by decide) ?_
        refine lv_iadd hx hb d_Mod_remove_101 ?_
        refine hd_iald hx hb hK hP 45 0 0 Nat.one_pos rfl rfl hin1 d_Mod_remove_102 ?_
        refine hd_iast hx hb hK hP hJ hA hS 45 0 0 Nat.one_pos (fun _ => rfl) rfl hin d_Mod_remove_103 (fun H locs hP hS => ?_)
        refine lv_aload_n hx hb d_Mod_remove_104 rfl (lv_at hl 1 rfl) ?_
        refine hd_get (C := R_Mod) (T := F_Mod) (N := 27) hx hb hts i_Mod hown hK hP 20 0 Nat.one_pos he_20 rfl 26 (by decide) (hts _ k_472) (fun _ h9 => h9) hv_20_26 d_Mod_remove_105 ?_
        refine lv_iload_n hx hb d_Mod_remove_108 rfl (lv_at hl 0 rfl) ?_
        refine lv_aload_n hx hb d_Mod_remove_109 rfl (lv_at hl 1 rfl) ?_
        refine hd_get (C := R_Mod) (T := F_Mod) (N := 27) hx hb hts i_Mod hown hK hP 20 0 Nat.one_pos he_20 rfl 26 (by decide) (hts _ k_472) (fun _ h9 => h9) hv_20_26 d_Mod_remove_110 ?_
        refine lv_iload_n hx hb d_Mod_remove_113 rfl (lv_at hl 0 rfl) ?_
        refine lv_iconst (v := 1) hx hb d_Mod_remove_114 (by decide) ?_
        refine lv_iadd hx hb d_Mod_remove_115 ?_
        refine hd_iald hx hb hK hP 46 0 0 Nat.one_pos rfl rfl hin1 d_Mod_remove_116 ?_
        refine hd_iast hx hb hK hP hJ hA hS 46 0 0 Nat.one_pos (fun _ => rfl) rfl hin d_Mod_remove_117 (fun H locs hP hS => ?_)
        obtain ⟨x110, ex110⟩ : ∃ y : Int32, y = y2 + 1 := ⟨_, rfl⟩
        refine lv_iinc (v := x110) (lv' := [(2, .int x110), (0, .ref (ad 20 0)), (1, .int k_)]) hx hb d_Mod_remove_118 hl (k := 0) rfl (by rw [ex110]; rfl) (by decide) rfl (fun ls hl => ?_)
        refine lv_goto (tgt := 12) hx hb d_Mod_remove_121 (by decide) ?_
        exact ih (i + 1) x110 (hd_u (hd_u (hd_u (hd_u (hd_u (hd_u (hd_u w 40 0 y2.toNatClampNeg (w 40 0 (y2 + 1).toNatClampNeg)) 41 0 y2.toNatClampNeg ((hd_u w 40 0 y2.toNatClampNeg (w 40 0 (y2 + 1).toNatClampNeg)) 41 0 (y2 + 1).toNatClampNeg)) 42 0 y2.toNatClampNeg ((hd_u (hd_u w 40 0 y2.toNatClampNeg (w 40 0 (y2 + 1).toNatClampNeg)) 41 0 y2.toNatClampNeg ((hd_u w 40 0 y2.toNatClampNeg (w 40 0 (y2 + 1).toNatClampNeg)) 41 0 (y2 + 1).toNatClampNeg)) 42 0 (y2 + 1).toNatClampNeg)) 43 0 y2.toNatClampNeg ((hd_u (hd_u (hd_u w 40 0 y2.toNatClampNeg (w 40 0 (y2 + 1).toNatClampNeg)) 41 0 y2.toNatClampNeg ((hd_u w 40 0 y2.toNatClampNeg (w 40 0 (y2 + 1).toNatClampNeg)) 41 0 (y2 + 1).toNatClampNeg)) 42 0 y2.toNatClampNeg ((hd_u (hd_u w 40 0 y2.toNatClampNeg (w 40 0 (y2 + 1).toNatClampNeg)) 41 0 y2.toNatClampNeg ((hd_u w 40 0 y2.toNatClampNeg (w 40 0 (y2 + 1).toNatClampNeg)) 41 0 (y2 + 1).toNatClampNeg)) 42 0 (y2 + 1).toNatClampNeg)) 43 0 (y2 + 1).toNatClampNeg)) 44 0 y2.toNatClampNeg ((hd_u (hd_u (hd_u (hd_u w 40 0 y2.toNatClampNeg (w 40 0 (y2 + 1).toNatClampNeg)) 41 0 y2.toNatClampNeg ((hd_u w 40 0 y2.toNatClampNeg (w 40 0 (y2 + 1).toNatClampNeg)) 41 0 (y2 + 1).toNatClampNeg)) 42 0 y2.toNatClampNeg ((hd_u (hd_u w 40 0 y2.toNatClampNeg (w 40 0 (y2 + 1).toNatClampNeg)) 41 0 y2.toNatClampNeg ((hd_u w 40 0 y2.toNatClampNeg (w 40 0 (y2 + 1).toNatClampNeg)) 41 0 (y2 + 1).toNatClampNeg)) 42 0 (y2 + 1).toNatClampNeg)) 43 0 y2.toNatClampNeg ((hd_u (hd_u (hd_u w 40 0 y2.toNatClampNeg (w 40 0 (y2 + 1).toNatClampNeg)) 41 0 y2.toNatClampNeg ((hd_u w 40 0 y2.toNatClampNeg (w 40 0 (y2 + 1).toNatClampNeg)) 41 0 (y2 + 1).toNatClampNeg)) 42 0 y2.toNatClampNeg ((hd_u (hd_u w 40 0 y2.toNatClampNeg (w 40 0 (y2 + 1).toNatClampNeg)) 41 0 y2.toNatClampNeg ((hd_u w 40 0 y2.toNatClampNeg (w 40 0 (y2 + 1).toNatClampNeg)) 41 0 (y2 + 1).toNatClampNeg)) 42 0 (y2 + 1).toNatClampNeg)) 43 0 (y2 + 1).toNatClampNeg)) 44 0 (y2 + 1).toNatClampNeg)) 45 0 y2.toNatClampNeg ((hd_u (hd_u (hd_u (hd_u (hd_u w 40 0 y2.toNatClampNeg (w 40 0 (y2 + 1).toNatClampNeg)) 41 0 y2.toNatClampNeg ((hd_u w 40 0 y2.toNatClampNeg (w 40 0 (y2 + 1).toNatClampNeg)) 41 0 (y2 + 1).toNatClampNeg)) 42 0 y2.toNatClampNeg ((hd_u (hd_u w 40 0 y2.toNatClampNeg (w 40 0 (y2 + 1).toNatClampNeg)) 41 0 y2.toNatClampNeg ((hd_u w 40 0 y2.toNatClampNeg (w 40 0 (y2 + 1).toNatClampNeg)) 41 0 (y2 + 1).toNatClampNeg)) 42 0 (y2 + 1).toNatClampNeg)) 43 0 y2.toNatClampNeg ((hd_u (hd_u (hd_u w 40 0 y2.toNatClampNeg (w 40 0 (y2 + 1).toNatClampNeg)) 41 0 y2.toNatClampNeg ((hd_u w 40 0 y2.toNatClampNeg (w 40 0 (y2 + 1).toNatClampNeg)) 41 0 (y2 + 1).toNatClampNeg)) 42 0 y2.toNatClampNeg ((hd_u (hd_u w 40 0 y2.toNatClampNeg (w 40 0 (y2 + 1).toNatClampNeg)) 41 0 y2.toNatClampNeg ((hd_u w 40 0 y2.toNatClampNeg (w 40 0 (y2 + 1).toNatClampNeg)) 41 0 (y2 + 1).toNatClampNeg)) 42 0 (y2 + 1).toNatClampNeg)) 43 0 (y2 + 1).toNatClampNeg)) 44 0 y2.toNatClampNeg ((hd_u (hd_u (hd_u (hd_u w 40 0 y2.toNatClampNeg (w 40 0 (y2 + 1).toNatClampNeg)) 41 0 y2.toNatClampNeg ((hd_u w 40 0 y2.toNatClampNeg (w 40 0 (y2 + 1).toNatClampNeg)) 41 0 (y2 + 1).toNatClampNeg)) 42 0 y2.toNatClampNeg ((hd_u (hd_u w 40 0 y2.toNatClampNeg (w 40 0 (y2 + 1).toNatClampNeg)) 41 0 y2.toNatClampNeg ((hd_u w 40 0 y2.toNatClampNeg (w 40 0 (y2 + 1).toNatClampNeg)) 41 0 (y2 + 1).toNatClampNeg)) 42 0 (y2 + 1).toNatClampNeg)) 43 0 y2.toNatClampNeg ((hd_u (hd_u (hd_u w 40 0 y2.toNatClampNeg (w 40 0 (y2 + 1).toNatClampNeg)) 41 0 y2.toNatClampNeg ((hd_u w 40 0 y2.toNatClampNeg (w 40 0 (y2 + 1).toNatClampNeg)) 41 0 (y2 + 1).toNatClampNeg)) 42 0 y2.toNatClampNeg ((hd_u (hd_u w 40 0 y2.toNatClampNeg (w 40 0 (y2 + 1).toNatClampNeg)) 41 0 y2.toNatClampNeg ((hd_u w 40 0 y2.toNatClampNeg (w 40 0 (y2 + 1).toNatClampNeg)) 41 0 (y2 + 1).toNatClampNeg)) 42 0 (y2 + 1).toNatClampNeg)) 43 0 (y2 + 1).toNatClampNeg)) 44 0 (y2 + 1).toNatClampNeg)) 45 0 (y2 + 1).toNatClampNeg)) 46 0 y2.toNatClampNeg ((hd_u (hd_u (hd_u (hd_u (hd_u (hd_u w 40 0 y2.toNatClampNeg (w 40 0 (y2 + 1).toNatClampNeg)) 41 0 y2.toNatClampNeg ((hd_u w 40 0 y2.toNatClampNeg (w 40 0 (y2 + 1).toNatClampNeg)) 41 0 (y2 + 1).toNatClampNeg)) 42 0 y2.toNatClampNeg ((hd_u (hd_u w 40 0 y2.toNatClampNeg (w 40 0 (y2 + 1).toNatClampNeg)) 41 0 y2.toNatClampNeg ((hd_u w 40 0 y2.toNatClampNeg (w 40 0 (y2 + 1).toNatClampNeg)) 41 0 (y2 + 1).toNatClampNeg)) 42 0 (y2 + 1).toNatClampNeg)) 43 0 y2.toNatClampNeg ((hd_u (hd_u (hd_u w 40 0 y2.toNatClampNeg (w 40 0 (y2 + 1).toNatClampNeg)) 41 0 y2.toNatClampNeg ((hd_u w 40 0 y2.toNatClampNeg (w 40 0 (y2 + 1).toNatClampNeg)) 41 0 (y2 + 1).toNatClampNeg)) 42 0 y2.toNatClampNeg ((hd_u (hd_u w 40 0 y2.toNatClampNeg (w 40 0 (y2 + 1).toNatClampNeg)) 41 0 y2.toNatClampNeg ((hd_u w 40 0 y2.toNatClampNeg (w 40 0 (y2 + 1).toNatClampNeg)) 41 0 (y2 + 1).toNatClampNeg)) 42 0 (y2 + 1).toNatClampNeg)) 43 0 (y2 + 1).toNatClampNeg)) 44 0 y2.toNatClampNeg ((hd_u (hd_u (hd_u (hd_u w 40 0 y2.toNatClampNeg (w 40 0 (y2 + 1).toNatClampNeg)) 41 0 y2.toNatClampNeg ((hd_u w 40 0 y2.toNatClampNeg (w 40 0 (y2 + 1).toNatClampNeg)) 41 0 (y2 + 1).toNatClampNeg)) 42 0 y2.toNatClampNeg ((hd_u (hd_u w 40 0 y2.toNatClampNeg (w 40 0 (y2 + 1).toNatClampNeg)) 41 0 y2.toNatClampNeg ((hd_u w 40 0 y2.toNatClampNeg (w 40 0 (y2 + 1).toNatClampNeg)) 41 0 (y2 + 1).toNatClampNeg)) 42 0 (y2 + 1).toNatClampNeg)) 43 0 y2.toNatClampNeg ((hd_u (hd_u (hd_u w 40 0 y2.toNatClampNeg (w 40 0 (y2 + 1).toNatClampNeg)) 41 0 y2.toNatClampNeg ((hd_u w 40 0 y2.toNatClampNeg (w 40 0 (y2 + 1).toNatClampNeg)) 41 0 (y2 + 1).toNatClampNeg)) 42 0 y2.toNatClampNeg ((hd_u (hd_u w 40 0 y2.toNatClampNeg (w 40 0 (y2 + 1).toNatClampNeg)) 41 0 y2.toNatClampNeg ((hd_u w 40 0 y2.toNatClampNeg (w 40 0 (y2 + 1).toNatClampNeg)) 41 0 (y2 + 1).toNatClampNeg)) 42 0 (y2 + 1).toNatClampNeg)) 43 0 (y2 + 1).toNatClampNeg)) 44 0 (y2 + 1).toNatClampNeg)) 45 0 y2.toNatClampNeg ((hd_u (hd_u (hd_u (hd_u (hd_u w 40 0 y2.toNatClampNeg (w 40 0 (y2 + 1).toNatClampNeg)) 41 0 y2.toNatClampNeg ((hd_u w 40 0 y2.toNatClampNeg (w 40 0 (y2 + 1).toNatClampNeg)) 41 0 (y2 + 1).toNatClampNeg)) 42 0 y2.toNatClampNeg ((hd_u (hd_u w 40 0 y2.toNatClampNeg (w 40 0 (y2 + 1).toNatClampNeg)) 41 0 y2.toNatClampNeg ((hd_u w 40 0 y2.toNatClampNeg (w 40 0 (y2 + 1).toNatClampNeg)) 41 0 (y2 + 1).toNatClampNeg)) 42 0 (y2 + 1).toNatClampNeg)) 43 0 y2.toNatClampNeg ((hd_u (hd_u (hd_u w 40 0 y2.toNatClampNeg (w 40 0 (y2 + 1).toNatClampNeg)) 41 0 y2.toNatClampNeg ((hd_u w 40 0 y2.toNatClampNeg (w 40 0 (y2 + 1).toNatClampNeg)) 41 0 (y2 + 1).toNatClampNeg)) 42 0 y2.toNatClampNeg ((hd_u (hd_u w 40 0 y2.toNatClampNeg (w 40 0 (y2 + 1).toNatClampNeg)) 41 0 y2.toNatClampNeg ((hd_u w 40 0 y2.toNatClampNeg (w 40 0 (y2 + 1).toNatClampNeg)) 41 0 (y2 + 1).toNatClampNeg)) 42 0 (y2 + 1).toNatClampNeg)) 43 0 (y2 + 1).toNatClampNeg)) 44 0 y2.toNatClampNeg ((hd_u (hd_u (hd_u (hd_u w 40 0 y2.toNatClampNeg (w 40 0 (y2 + 1).toNatClampNeg)) 41 0 y2.toNatClampNeg ((hd_u w 40 0 y2.toNatClampNeg (w 40 0 (y2 + 1).toNatClampNeg)) 41 0 (y2 + 1).toNatClampNeg)) 42 0 y2.toNatClampNeg ((hd_u (hd_u w 40 0 y2.toNatClampNeg (w 40 0 (y2 + 1).toNatClampNeg)) 41 0 y2.toNatClampNeg ((hd_u w 40 0 y2.toNatClampNeg (w 40 0 (y2 + 1).toNatClampNeg)) 41 0 (y2 + 1).toNatClampNeg)) 42 0 (y2 + 1).toNatClampNeg)) 43 0 y2.toNatClampNeg ((hd_u (hd_u (hd_u w 40 0 y2.toNatClampNeg (w 40 0 (y2 + 1).toNatClampNeg)) 41 0 y2.toNatClampNeg ((hd_u w 40 0 y2.toNatClampNeg (w 40 0 (y2 + 1).toNatClampNeg)) 41 0 (y2 + 1).toNatClampNeg)) 42 0 y2.toNatClampNeg ((hd_u (hd_u w 40 0 y2.toNatClampNeg (w 40 0 (y2 + 1).toNatClampNeg)) 41 0 y2.toNatClampNeg ((hd_u w 40 0 y2.toNatClampNeg (w 40 0 (y2 + 1).toNatClampNeg)) 41 0 (y2 + 1).toNatClampNeg)) 42 0 (y2 + 1).toNatClampNeg)) 43 0 (y2 + 1).toNatClampNeg)) 44 0 (y2 + 1).toNatClampNeg)) 45 0 (y2 + 1).toNatClampNeg)) 46 0 (y2 + 1).toNatClampNeg)) hlt (by omega) (by rw [ex110, hi3]; exact nI_1 i) hcw (by rw [hf]; subst ex110; simp only [f_Mod_remove_L12]; rw [if_neg h102]) _ _ _ hP hS (lv_sub hl [0, 1, 2] rfl)
  refine lv_aload_n hx hb d_Mod_remove_0 rfl (lv_at hl 0 rfl) ?_
  refine lv_dup hx hb d_Mod_remove_1 rfl ?_
  refine hd_get (C := R_Mod) (T := F_Mod) (N := 27) hx hb hts i_Mod hown hK hP 20 0 Nat.one_pos he_20 rfl 17 (by decide) (hts _ k_463) (fun _ h9 => h9) hv_20_17 d_Mod_remove_2 ?_
  refine lv_iconst (v := 1) hx hb d_Mod_remove_5 (by decide) ?_
  refine lv_isub hx hb d_Mod_remove_6 ?_
  refine hd_put (ty := .int) (C := R_Mod) (T := F_Mod) (N := 27) hx hb hts i_Mod t_Mod t_Mod_ok n_Mod hown hK hP hJ hA hS 20 0 Nat.one_pos he_20 rfl 17 (by decide) (hts _ k_463) (fun _ h9 => h9) rfl (by decide +kernel) rfl rfl hn_20_17 hu_20_17 d_Mod_remove_7 (fun H locs hP hS => ?_)
  refine lv_iload_n hx hb d_Mod_remove_10 rfl (lv_at hl 1 rfl) ?_
  refine lv_istore_n (lv' := [(2, .int k_), (0, .ref (ad 20 0)), (1, .int k_)]) hx hb d_Mod_remove_11 rfl hl (by decide) rfl (fun ls hl => ?_)
  exact loop12 65 k_.toNatClampNeg k_ (hd_u v 20 0 17 ((v 20 0 17) - 1)) (by omega) (by omega) hk2 (by rw [hd_us, hcc]; exact hd_nI hc2) (by simp only [f_Mod_remove]) _ _ _ hP hS (lv_sub hl [0, 1, 2] rfl)
theorem same_Mod_remove_L {a : Int32} {K c i : Nat} (h1 : K < 40) : ∀ (k : Nat) (y : Int32) (w : hd_V), f_Mod_remove_L12 a k y w K c i = w K c i := by
  intro k
  induction k with
  | zero =>
    intro y w
    rfl
  | succ k ih =>
    intro y w
    simp only [f_Mod_remove_L12]
    split
    · rfl
    · rw [ih]
      rw [hd_un _ _ _ _ _ (by omega), hd_un _ _ _ _ _ (by omega), hd_un _ _ _ _ _ (by omega), hd_un _ _ _ _ _ (by omega), hd_un _ _ _ _ _ (by omega), hd_un _ _ _ _ _ (by omega), hd_un _ _ _ _ _ (by omega)]
theorem same_Mod_remove {a : Int32} {v : hd_V} {K c i : Nat} (h1 : K < 40) (h2 : ¬ K = 20) : f_Mod_remove a v K c i = v K c i := by
  simp only [f_Mod_remove]
  rw [same_Mod_remove_L h1, hd_un _ _ _ _ _ (by omega)]
theorem many_Mod_remove {a : Int32} {v : hd_V} : f_Mod_remove a v 20 0 17 = v 20 0 17 - 1 := by
  simp only [f_Mod_remove]
  rw [same_Mod_remove_L (by decide), hd_us]
theorem mm_Mod_remove {a : Int32} {r : Nat} {v : hd_V} (h : hx_mm r v) (h1 : 1 ≤ (v 20 0 17).toInt) : hx_mm r (f_Mod_remove a v) := by
  have e1 : (v 20 0 17 - 1).toInt = (v 20 0 17).toInt - 1 := by
    have h2 := h.2
    rw [Int32.toInt_sub, show (1 : Int32).toInt = 1 from rfl, Int.bmod_eq_of_le (by omega) (by omega)]
  have h2 := h.2
  unfold hx_mm
  rw [many_Mod_remove, e1]
  omega
def f_Mod_gets (r_ : Int32) (b_ : Int32) (v : hd_V) : hd_V :=
  if (v 34 0 b_.toNatClampNeg) = 2 then
    let v5 := f_Mod_send 4 4 (v 35 0 b_.toNatClampNeg) b_ 0 0 r_ v
    let v6 := hd_u v5 36 0 ((4 * b_) + (v5 35 0 b_.toNatClampNeg)).toNatClampNeg 1
    let v7 := hd_u v6 35 0 b_.toNatClampNeg (-1)
    let v8 := hd_u v7 34 0 b_.toNatClampNeg 3
    let v9 := hd_u v8 36 0 ((4 * b_) + r_).toNatClampNeg 1
    v9
  else
    let v2 := f_Mod_data 4 r_ b_ (v 33 0 b_.toNatClampNeg) 0 v
    let v3 := hd_u v2 34 0 b_.toNatClampNeg 1
    let v4 := hd_u v3 36 0 ((4 * b_) + r_).toNatClampNeg 1
    v4
set_option maxHeartbeats 4000000 in
set_option maxRecDepth 100000 in
theorem c_Mod_gets (l : Launch) {D : va_G} {cI cZ cM cC : ClassId} {n : Nat} {ad : Nat → Nat → Nat} (hJ : hd_J (hx_L n) ad) (r_ : Int32) (b_ : Int32) (v : hd_V) (hr4 : vp_in r_ 4) (hb4 : vp_in b_ 4) (how : v 34 0 b_.toNatClampNeg = 2 → vp_in (v 35 0 b_.toNatClampNeg) 4) (hmm : hx_mm 1 v) : Met l y_Mod_gets w_Mod_gets { frames := 2, cells := 0, slots := 0, locals := 52 } (va_Pc [.ref (ad 20 0), .int r_, .int b_] (hx_B D cI cZ cM cC n ad v)) (va_Qv (fun u => u = f_Mod_gets r_ b_ v) (fun u => hx_B D cI cZ cM cC n ad u) (hx_A n ad)) 0 0 (hx_A n ad) := by
  refine Met.ofW (cc := b_Mod_gets) (maxL := 3) (ret := none) (by decide) rfl ?_
  intro p e s m args below meth c s₁ B hml hv
  obtain ⟨rfl, hP, hK, hN⟩ := hv
  have hx := B.exec
  have hb := B.bytes
  have hr := B.returns
  have hlk := B.notSynchronized
  have hts0 := atoms_spec (ws := w_Mod_gets) B.pre
  have hts := fun w (hw : w ∈ lw_g) => hts0 w (List.mem_cons_of_mem _ hw)
  have hown : s.vm.findClass R_Mod = some m.cls := findClass_of_methodNamed B.named
  have hA : ∀ q, hx_A n ad q → hx_A n ad q := fun _ h => h
  have hS : va_S (hx_A n ad) s.heap s.heap [] := va_S.rf
  have hl := lv_entry ([.ref (ad 20 0), .int r_, .int b_]) (n := 3) (Nat.le_of_ble_eq_true rfl)
  rw [lg_entry_eq]
  generalize (lg_sl ([.ref (ad 20 0), .int r_, .int b_]) ++ List.replicate (3 - (lg_sl ([.ref (ad 20 0), .int r_, .int b_])).length) Slot.unset).toArray = ls at hl ⊢
  have hl : lv_has ls 3 [(0, .ref (ad 20 0)), (1, .int r_), (2, .int b_)] := hl
  refine lv_aload_n hx hb d_Mod_gets_0 rfl (lv_at hl 0 rfl) ?_
  refine hd_get (C := R_Mod) (T := F_Mod) (N := 27) hx hb hts i_Mod hown hK hP 20 0 Nat.one_pos he_20 rfl 14 (by decide) (hts _ k_460) (fun _ h9 => h9) hv_20_14 d_Mod_gets_1 ?_
  refine lv_iload_n hx hb d_Mod_gets_4 rfl (lv_at hl 2 rfl) ?_
  refine hd_iald hx hb hK hP 34 0 0 Nat.one_pos rfl rfl hb4 d_Mod_gets_5 ?_
  refine lv_iconst (v := 2) hx hb d_Mod_gets_6 (by decide) ?_
  refine lv_icmp_ne (tgt := 59) hx hb d_Mod_gets_7 (by decide) (fun h1 => ?_) (fun h1 => ?_)
  · refine lv_aload_n hx hb d_Mod_gets_59 rfl (lv_at hl 0 rfl) ?_
    refine lv_iconst (v := 4) hx hb d_Mod_gets_60 (by decide) ?_
    refine lv_iload_n hx hb d_Mod_gets_61 rfl (lv_at hl 1 rfl) ?_
    refine lv_iload_n hx hb d_Mod_gets_62 rfl (lv_at hl 2 rfl) ?_
    refine lv_aload_n hx hb d_Mod_gets_63 rfl (lv_at hl 0 rfl) ?_
    refine hd_get (C := R_Mod) (T := F_Mod) (N := 27) hx hb hts i_Mod hown hK hP 20 0 Nat.one_pos he_20 rfl 13 (by decide) (hts _ k_459) (fun _ h9 => h9) hv_20_13 d_Mod_gets_64 ?_
    refine lv_iload_n hx hb d_Mod_gets_67 rfl (lv_at hl 2 rfl) ?_
    refine hd_iald hx hb hK hP 33 0 0 Nat.one_pos rfl rfl hb4 d_Mod_gets_68 ?_
    refine lv_iconst (v := 0) hx hb d_Mod_gets_69 (by decide) ?_
    refine hd_cV hK (va_runV (As := [.int 4, .int r_, .int b_, .int (v 33 0 b_.toNatClampNeg), .int 0]) (rest := []) ⟨hx, hb, hml, hown, hts⟩ (c_Mod_data l hJ 4 r_ b_ (v 33 0 b_.toNatClampNeg) 0 v hmm) (cwV 5 hts (hd_gV g_Mod_data k_599 k_601 s_37 k_8) rfl rfl rfl (by decide +kernel) ⟨Nat.le_of_ble_eq_true rfl, Nat.le_of_ble_eq_true rfl⟩) (hd_preV hK hN hP 20 0 Nat.one_pos rfl rfl [.int 4, .int r_, .int b_, .int (v 33 0 b_.toNatClampNeg), .int 0]) rfl rfl hl.1 rfl (lv_room (Nat.le_of_ble_eq_true rfl)) d_Mod_gets_70 ⟨Nat.zero_le _, Nat.zero_le _⟩) hS hA (fun H locs hP hS => ?_)
    refine lv_aload_n hx hb d_Mod_gets_73 rfl (lv_at hl 0 rfl) ?_
    refine hd_get (C := R_Mod) (T := F_Mod) (N := 27) hx hb hts i_Mod hown hK hP 20 0 Nat.one_pos he_20 rfl 14 (by decide) (hts _ k_460) (fun _ h9 => h9) hv_20_14 d_Mod_gets_74 ?_
    refine lv_iload_n hx hb d_Mod_gets_77 rfl (lv_at hl 2 rfl) ?_
    refine lv_iconst (v := 1) hx hb d_Mod_gets_78 (by decide) ?_
    refine hd_iast hx hb hK hP hJ hA hS 34 0 0 Nat.one_pos (fun _ => rfl) rfl hb4 d_Mod_gets_79 (fun H locs hP hS => ?_)
    refine lv_aload_n hx hb d_Mod_gets_80 rfl (lv_at hl 0 rfl) ?_
    refine hd_get (C := R_Mod) (T := F_Mod) (N := 27) hx hb hts i_Mod hown hK hP 20 0 Nat.one_pos he_20 rfl 16 (by decide) (hts _ k_462) (fun _ h9 => h9) hv_20_16 d_Mod_gets_81 ?_
    refine lv_iconst (v := 4) hx hb d_Mod_gets_84 (by decide) ?_
    refine lv_iload_n hx hb d_Mod_gets_85 rfl (lv_at hl 2 rfl) ?_
    refine lv_imul hx hb d_Mod_gets_86 ?_
    refine lv_iload_n hx hb d_Mod_gets_87 rfl (lv_at hl 1 rfl) ?_
    refine lv_iadd hx hb d_Mod_gets_88 ?_
    refine lv_iconst (v := 1) hx hb d_Mod_gets_89 (by decide) ?_
    refine hd_zast hx hb hK hP hJ hA hS 36 0 1 Nat.one_pos (fun _ => rfl) rfl rfl (mod_4 hb4 hr4) d_Mod_gets_90 (fun H locs hP hS => ?_)
    exact hd_vret hx hb hr hlk hK hN hP hS d_Mod_gets_91 (by simp only [f_Mod_gets]; rw [if_neg h1])
  · have how4 := how h1
    refine lv_aload_n hx hb d_Mod_gets_10 rfl (lv_at hl 0 rfl) ?_
    refine lv_iconst (v := 4) hx hb d_Mod_gets_11 (by decide) ?_
    refine lv_iconst (v := 4) hx hb d_Mod_gets_12 (by decide) ?_
    refine lv_aload_n hx hb d_Mod_gets_13 rfl (lv_at hl 0 rfl) ?_
    refine hd_get (C := R_Mod) (T := F_Mod) (N := 27) hx hb hts i_Mod hown hK hP 20 0 Nat.one_pos he_20 rfl 15 (by decide) (hts _ k_461) (fun _ h9 => h9) hv_20_15 d_Mod_gets_14 ?_
    refine lv_iload_n hx hb d_Mod_gets_17 rfl (lv_at hl 2 rfl) ?_
    refine hd_iald hx hb hK hP 35 0 0 Nat.one_pos rfl rfl hb4 d_Mod_gets_18 ?_
    refine lv_iload_n hx hb d_Mod_gets_19 rfl (lv_at hl 2 rfl) ?_
    refine lv_iconst (v := 0) hx hb d_Mod_gets_20 (by decide) ?_
    refine lv_iconst (v := 0) hx hb d_Mod_gets_21 (by decide) ?_
    refine lv_iload_n hx hb d_Mod_gets_22 rfl (lv_at hl 1 rfl) ?_
    refine hd_cV hK (va_runV (As := [.int 4, .int 4, .int (v 35 0 b_.toNatClampNeg), .int b_, .int 0, .int 0, .int r_]) (rest := []) ⟨hx, hb, hml, hown, hts⟩ (c_Mod_send l hJ 4 4 (v 35 0 b_.toNatClampNeg) b_ 0 0 r_ v hmm) (cwV 7 hts (hd_gV g_Mod_send k_563 k_565 s_29 k_8) rfl rfl rfl (by decide +kernel) ⟨Nat.le_of_ble_eq_true rfl, Nat.le_of_ble_eq_true rfl⟩) (hd_preV hK hN hP 20 0 Nat.one_pos rfl rfl [.int 4, .int 4, .int (v 35 0 b_.toNatClampNeg), .int b_, .int 0, .int 0, .int r_]) rfl rfl hl.1 rfl (lv_room (Nat.le_of_ble_eq_true rfl)) d_Mod_gets_23 ⟨Nat.zero_le _, Nat.zero_le _⟩) hS hA (fun H locs hP hS => ?_)
    refine lv_aload_n hx hb d_Mod_gets_26 rfl (lv_at hl 0 rfl) ?_
    refine hd_get (C := R_Mod) (T := F_Mod) (N := 27) hx hb hts i_Mod hown hK hP 20 0 Nat.one_pos he_20 rfl 16 (by decide) (hts _ k_462) (fun _ h9 => h9) hv_20_16 d_Mod_gets_27 ?_
    refine lv_iconst (v := 4) hx hb d_Mod_gets_30 (by decide) ?_
    refine lv_iload_n hx hb d_Mod_gets_31 rfl (lv_at hl 2 rfl) ?_
    refine lv_imul hx hb d_Mod_gets_32 ?_
    refine lv_aload_n hx hb d_Mod_gets_33 rfl (lv_at hl 0 rfl) ?_
    refine hd_get (C := R_Mod) (T := F_Mod) (N := 27) hx hb hts i_Mod hown hK hP 20 0 Nat.one_pos he_20 rfl 15 (by decide) (hts _ k_461) (fun _ h9 => h9) hv_20_15 d_Mod_gets_34 ?_
    refine lv_iload_n hx hb d_Mod_gets_37 rfl (lv_at hl 2 rfl) ?_
    refine hd_iald hx hb hK hP 35 0 0 Nat.one_pos rfl rfl hb4 d_Mod_gets_38 ?_
    refine lv_iadd hx hb d_Mod_gets_39 ?_
    refine lv_iconst (v := 1) hx hb d_Mod_gets_40 (by decide) ?_
    refine hd_zast hx hb hK hP hJ hA hS 36 0 1 Nat.one_pos (fun _ => rfl) rfl rfl (mod_4 hb4 how4) d_Mod_gets_41 (fun H locs hP hS => ?_)
    refine lv_aload_n hx hb d_Mod_gets_42 rfl (lv_at hl 0 rfl) ?_
    refine hd_get (C := R_Mod) (T := F_Mod) (N := 27) hx hb hts i_Mod hown hK hP 20 0 Nat.one_pos he_20 rfl 15 (by decide) (hts _ k_461) (fun _ h9 => h9) hv_20_15 d_Mod_gets_43 ?_
    refine lv_iload_n hx hb d_Mod_gets_46 rfl (lv_at hl 2 rfl) ?_
    refine lv_iconst (v := -1) hx hb d_Mod_gets_47 (by decide) ?_
    refine hd_iast hx hb hK hP hJ hA hS 35 0 0 Nat.one_pos (fun _ => rfl) rfl hb4 d_Mod_gets_48 (fun H locs hP hS => ?_)
    refine lv_aload_n hx hb d_Mod_gets_49 rfl (lv_at hl 0 rfl) ?_
    refine hd_get (C := R_Mod) (T := F_Mod) (N := 27) hx hb hts i_Mod hown hK hP 20 0 Nat.one_pos he_20 rfl 14 (by decide) (hts _ k_460) (fun _ h9 => h9) hv_20_14 d_Mod_gets_50 ?_
    refine lv_iload_n hx hb d_Mod_gets_53 rfl (lv_at hl 2 rfl) ?_
    refine lv_iconst (v := 3) hx hb d_Mod_gets_54 (by decide) ?_
    refine hd_iast hx hb hK hP hJ hA hS 34 0 0 Nat.one_pos (fun _ => rfl) rfl hb4 d_Mod_gets_55 (fun H locs hP hS => ?_)
    refine lv_goto (tgt := 80) hx hb d_Mod_gets_56 (by decide) ?_
    refine lv_aload_n hx hb d_Mod_gets_80 rfl (lv_at hl 0 rfl) ?_
    refine hd_get (C := R_Mod) (T := F_Mod) (N := 27) hx hb hts i_Mod hown hK hP 20 0 Nat.one_pos he_20 rfl 16 (by decide) (hts _ k_462) (fun _ h9 => h9) hv_20_16 d_Mod_gets_81 ?_
    refine lv_iconst (v := 4) hx hb d_Mod_gets_84 (by decide) ?_
    refine lv_iload_n hx hb d_Mod_gets_85 rfl (lv_at hl 2 rfl) ?_
    refine lv_imul hx hb d_Mod_gets_86 ?_
    refine lv_iload_n hx hb d_Mod_gets_87 rfl (lv_at hl 1 rfl) ?_
    refine lv_iadd hx hb d_Mod_gets_88 ?_
    refine lv_iconst (v := 1) hx hb d_Mod_gets_89 (by decide) ?_
    refine hd_zast hx hb hK hP hJ hA hS 36 0 1 Nat.one_pos (fun _ => rfl) rfl rfl (mod_4 hb4 hr4) d_Mod_gets_90 (fun H locs hP hS => ?_)
    exact hd_vret hx hb hr hlk hK hN hP hS d_Mod_gets_91 (by simp only [f_Mod_gets]; rw [if_pos h1])
def f_Mod_getm_L50 (r_ b_ : Int32) : Nat → Int32 → hd_V → hd_V
  | 0, _, w => w
  | k + 1, y3, w =>
    if 4 ≤ y3 then
      let v107 := hd_u w 35 0 b_.toNatClampNeg r_
      let v108 := hd_u v107 34 0 b_.toNatClampNeg 2
      v108
    else
      if (w 36 0 ((4 * b_) + y3).toNatClampNeg) = 0 then
        let v110 := hd_u w 36 0 ((4 * b_) + y3).toNatClampNeg 0
        let x111 : Int32 := y3 + 1
        f_Mod_getm_L50 r_ b_ k x111 v110
      else
        if y3 = r_ then
          let v113 := hd_u w 36 0 ((4 * b_) + y3).toNatClampNeg 0
          let x114 : Int32 := y3 + 1
          f_Mod_getm_L50 r_ b_ k x114 v113
        else
          let v115 := f_Mod_send 6 4 y3 b_ 0 0 r_ w
          let v116 := hd_u v115 36 0 ((4 * b_) + y3).toNatClampNeg 0
          let x117 : Int32 := y3 + 1
          f_Mod_getm_L50 r_ b_ k x117 v116
def f_Mod_getm (r_ : Int32) (b_ : Int32) (v : hd_V) : hd_V :=
  if (v 34 0 b_.toNatClampNeg) = 2 then
    let v3 := f_Mod_send 5 4 (v 35 0 b_.toNatClampNeg) b_ 0 0 r_ v
    let v4 := hd_u v3 35 0 b_.toNatClampNeg r_
    let v5 := hd_u v4 34 0 b_.toNatClampNeg 2
    v5
  else
    let v2 := f_Mod_data 4 r_ b_ (v 33 0 b_.toNatClampNeg) (f_Mod_sharers b_ r_ v) v
    f_Mod_getm_L50 r_ b_ 5 0 v2
set_option maxHeartbeats 4000000 in
set_option maxRecDepth 100000 in
theorem c_Mod_getm (l : Launch) {D : va_G} {cI cZ cM cC : ClassId} {n : Nat} {ad : Nat → Nat → Nat} (hJ : hd_J (hx_L n) ad) (r_ : Int32) (b_ : Int32) (v : hd_V) (hr4 : vp_in r_ 4) (hb4 : vp_in b_ 4) (hmm : hx_mm 5 v) : Met l y_Mod_getm w_Mod_getm { frames := 2, cells := 0, slots := 0, locals := 52 } (va_Pc [.ref (ad 20 0), .int r_, .int b_] (hx_B D cI cZ cM cC n ad v)) (va_Qv (fun u => u = f_Mod_getm r_ b_ v) (fun u => hx_B D cI cZ cM cC n ad u) (hx_A n ad)) 0 0 (hx_A n ad) := by
  refine Met.ofW (cc := b_Mod_getm) (maxL := 4) (ret := none) (by decide) rfl ?_
  intro p e s m args below meth c s₁ B hml hv
  obtain ⟨rfl, hP, hK, hN⟩ := hv
  have hx := B.exec
  have hb := B.bytes
  have hr := B.returns
  have hlk := B.notSynchronized
  have hts0 := atoms_spec (ws := w_Mod_getm) B.pre
  have hts := fun w (hw : w ∈ lw_g) => hts0 w (List.mem_cons_of_mem _ hw)
  have hown : s.vm.findClass R_Mod = some m.cls := findClass_of_methodNamed B.named
  have hA : ∀ q, hx_A n ad q → hx_A n ad q := fun _ h => h
  have hS : va_S (hx_A n ad) s.heap s.heap [] := va_S.rf
  have hl := lv_entry ([.ref (ad 20 0), .int r_, .int b_]) (n := 4) (Nat.le_of_ble_eq_true rfl)
  rw [lg_entry_eq]
  generalize (lg_sl ([.ref (ad 20 0), .int r_, .int b_]) ++ List.replicate (4 - (lg_sl ([.ref (ad 20 0), .int r_, .int b_])).length) Slot.unset).toArray = ls at hl ⊢
  have hl : lv_has ls 4 [(0, .ref (ad 20 0)), (1, .int r_), (2, .int b_)] := hl
  have loop50 : ∀ (k i : Nat) (y3 : Int32) (w : hd_V), (i ≤ 4) → (4 < i + k) → (y3 = nI i) → (hx_mm (4 - i) w) → f_Mod_getm r_ b_ v = f_Mod_getm_L50 r_ b_ k y3 w → ∀ (H : Heap) (locs : List Loc) (ls : Array Slot), hd_P D hx_cl (hx_L n) ad (hx_ce cI cZ cM cC n ad) w H → va_S (hx_A n ad) s.heap H locs → lv_has ls 4 [(3, .int y3), (0, .ref (ad 20 0)), (1, .int r_), (2, .int b_)] → W p l e (headSpec w_Mod_getm { frames := 2, cells := 0, slots := 0, locals := 52 }).room s m [.ref (ad 20 0), .int r_, .int b_].toArray below meth c H locs 0 0 (MQ below (va_Qv (fun u => u = f_Mod_getm r_ b_ v) (fun u => hx_B D cI cZ cM cC n ad u) (hx_A n ad)) [.ref (ad 20 0), .int r_, .int b_].toArray s 0 0 (hx_A n ad)) (F0 m 50 ls []) := by
    intro k
    induction k with
    | zero =>
      intro i y3 w hi1 hi2 hi3 hmw
      exact absurd hi2 (by omega)
    | succ k ih =>
      intro i y3 w hi1 hi2 hi3 hmw hf H locs ls hP hS hl
      refine lv_iload_n hx hb d_Mod_getm_50 rfl (lv_at hl 0 rfl) ?_
      refine lv_iconst (v := 4) hx hb d_Mod_getm_51 (by decide) ?_
      refine lv_icmp_ge (tgt := 102) hx hb d_Mod_getm_52 (by decide) (fun h106 => ?_) (fun h106 => ?_)
      · refine lv_aload_n hx hb d_Mod_getm_102 rfl (lv_at hl 1 rfl) ?_
        refine hd_get (C := R_Mod) (T := F_Mod) (N := 27) hx hb hts i_Mod hown hK hP 20 0 Nat.one_pos he_20 rfl 15 (by decide) (hts _ k_461) (fun _ h9 => h9) hv_20_15 d_Mod_getm_103 ?_
        refine lv_iload_n hx hb d_Mod_getm_106 rfl (lv_at hl 3 rfl) ?_
        refine lv_iload_n hx hb d_Mod_getm_107 rfl (lv_at hl 2 rfl) ?_
        refine hd_iast hx hb hK hP hJ hA hS 35 0 0 Nat.one_pos (fun _ => rfl) rfl hb4 d_Mod_getm_108 (fun H locs hP hS => ?_)
        refine lv_aload_n hx hb d_Mod_getm_109 rfl (lv_at hl 1 rfl) ?_
        refine hd_get (C := R_Mod) (T := F_Mod) (N := 27) hx hb hts i_Mod hown hK hP 20 0 Nat.one_pos he_20 rfl 14 (by decide) (hts _ k_460) (fun _ h9 => h9) hv_20_14 d_Mod_getm_110 ?_
        refine lv_iload_n hx hb d_Mod_getm_113 rfl (lv_at hl 3 rfl) ?_
        refine lv_iconst (v := 2) hx hb d_Mod_getm_114 (by decide) ?_
        refine hd_iast hx hb hK hP hJ hA hS 34 0 0 Nat.one_pos (fun _ => rfl) rfl hb4 d_Mod_getm_115 (fun H locs hP hS => ?_)
        exact hd_vret hx hb hr hlk hK hN hP hS d_Mod_getm_116 (by rw [hf]; simp only [f_Mod_getm_L50]; rw [if_pos h106])
      · have hlt : i < 4 := hd_lp hi3 (show (4 : Int32) = nI 4 from rfl) (by omega) h106
        have hin : vp_in y3 4 := hd_lpin hi3 (by omega) (by decide)
        refine lv_aload_n hx hb d_Mod_getm_55 rfl (lv_at hl 1 rfl) ?_
        refine hd_get (C := R_Mod) (T := F_Mod) (N := 27) hx hb hts i_Mod hown hK hP 20 0 Nat.one_pos he_20 rfl 16 (by decide) (hts _ k_462) (fun _ h9 => h9) hv_20_16 d_Mod_getm_56 ?_
        refine lv_iconst (v := 4) hx hb d_Mod_getm_59 (by decide) ?_
        refine lv_iload_n hx hb d_Mod_getm_60 rfl (lv_at hl 3 rfl) ?_
        refine lv_imul hx hb d_Mod_getm_61 ?_
        refine lv_iload_n hx hb d_Mod_getm_62 rfl (lv_at hl 0 rfl) ?_
        refine lv_iadd hx hb d_Mod_getm_63 ?_
        refine hd_zald hx hb hK hP 36 0 1 Nat.one_pos rfl rfl (mod_4 hb4 hin) d_Mod_getm_64 ?_
        refine lv_if_eq (tgt := 85) hx hb d_Mod_getm_65 (by decide) (fun h109 => ?_) (fun h109 => ?_)
        · refine lv_aload_n hx hb d_Mod_getm_85 rfl (lv_at hl 1 rfl) ?_
          refine hd_get (C := R_Mod) (T := F_Mod) (N := 27) hx hb hts i_Mod hown hK hP 20 0 Nat.one_pos he_20 rfl 16 (by decide) (hts _ k_462) (fun _ h9 => h9) hv_20_16 d_Mod_getm_86 ?_
          refine lv_iconst (v := 4) hx hb d_Mod_getm_89 (by decide) ?_
          refine lv_iload_n hx hb d_Mod_getm_90 rfl (lv_at hl 3 rfl) ?_
          refine lv_imul hx hb d_Mod_getm_91 ?_
          refine lv_iload_n hx hb d_Mod_getm_92 rfl (lv_at hl 0 rfl) ?_
          refine lv_iadd hx hb d_Mod_getm_93 ?_
          refine lv_iconst (v := 0) hx hb d_Mod_getm_94 (by decide) ?_
          refine hd_zast hx hb hK hP hJ hA hS 36 0 1 Nat.one_pos (fun _ => rfl) rfl rfl (mod_4 hb4 hin) d_Mod_getm_95 (fun H locs hP hS => ?_)
          obtain ⟨x111, ex111⟩ : ∃ y : Int32, y = y3 + 1 := ⟨_, rfl⟩
          refine lv_iinc (v := x111) (lv' := [(3, .int x111), (0, .ref (ad 20 0)), (1, .int r_), (2, .int b_)]) hx hb d_Mod_getm_96 hl (k := 0) rfl (by rw [ex111]; rfl) (by decide) rfl (fun ls hl => ?_)
          refine lv_goto (tgt := 50) hx hb d_Mod_getm_99 (by decide) ?_
          exact ih (i + 1) x111 (hd_u w 36 0 ((4 * b_) + y3).toNatClampNeg 0) hlt (by omega) (by rw [ex111, hi3]; exact nI_1 i) (mm_le (by omega) hmw) (by rw [hf]; subst ex111; simp only [f_Mod_getm_L50]; rw [if_neg h106, if_pos h109]) _ _ _ hP hS (lv_sub hl [0, 1, 2, 3] rfl)
        · refine lv_iload_n hx hb d_Mod_getm_68 rfl (lv_at hl 0 rfl) ?_
          refine lv_iload_n hx hb d_Mod_getm_69 rfl (lv_at hl 2 rfl) ?_
          refine lv_icmp_eq (tgt := 85) hx hb d_Mod_getm_70 (by decide) (fun h112 => ?_) (fun h112 => ?_)
          · refine lv_aload_n hx hb d_Mod_getm_85 rfl (lv_at hl 1 rfl) ?_
            refine hd_get (C := R_Mod) (T := F_Mod) (N := 27) hx hb hts i_Mod hown hK hP 20 0 Nat.one_pos he_20 rfl 16 (by decide) (hts _ k_462) (fun _ h9 => h9) hv_20_16 d_Mod_getm_86 ?_
            refine lv_iconst (v := 4) hx hb d_Mod_getm_89 (by decide) ?_
            refine lv_iload_n hx hb d_Mod_getm_90 rfl (lv_at hl 3 rfl) ?_
            refine lv_imul hx hb d_Mod_getm_91 ?_
            refine lv_iload_n hx hb d_Mod_getm_92 rfl (lv_at hl 0 rfl) ?_
            refine lv_iadd hx hb d_Mod_getm_93 ?_
            refine lv_iconst (v := 0) hx hb d_Mod_getm_94 (by decide) ?_
            refine hd_zast hx hb hK hP hJ hA hS 36 0 1 Nat.one_pos (fun _ => rfl) rfl rfl (mod_4 hb4 hin) d_Mod_getm_95 (fun H locs hP hS => ?_)
            obtain ⟨x114, ex114⟩ : ∃ y : Int32, y = y3 + 1 := ⟨_, rfl⟩
            refine lv_iinc (v := x114) (lv' := [(3, .int x114), (0, .ref (ad 20 0)), (1, .int r_), (2, .int b_)]) hx hb d_Mod_getm_96 hl (k := 0) rfl (by rw [ex114]; rfl) (by decide) rfl (fun ls hl => ?_)
            refine lv_goto (tgt := 50) hx hb d_Mod_getm_99 (by decide) ?_
            exact ih (i + 1) x114 (hd_u w 36 0 ((4 * b_) + y3).toNatClampNeg 0) hlt (by omega) (by rw [ex114, hi3]; exact nI_1 i) (mm_le (by omega) hmw) (by rw [hf]; subst ex114; simp only [f_Mod_getm_L50]; rw [if_neg h106, if_neg h109, if_pos h112]) _ _ _ hP hS (lv_sub hl [0, 1, 2, 3] rfl)
          · refine lv_aload_n hx hb d_Mod_getm_73 rfl (lv_at hl 1 rfl) ?_
            refine lv_bipush (v := 6) hx hb d_Mod_getm_74 (by decide) ?_
            refine lv_iconst (v := 4) hx hb d_Mod_getm_76 (by decide) ?_
            refine lv_iload_n hx hb d_Mod_getm_77 rfl (lv_at hl 0 rfl) ?_
            refine lv_iload_n hx hb d_Mod_getm_78 rfl (lv_at hl 3 rfl) ?_
            refine lv_iconst (v := 0) hx hb d_Mod_getm_79 (by decide) ?_
            refine lv_iconst (v := 0) hx hb d_Mod_getm_80 (by decide) ?_
            refine lv_iload_n hx hb d_Mod_getm_81 rfl (lv_at hl 2 rfl) ?_
            refine hd_cV hK (va_runV (As := [.int 6, .int 4, .int y3, .int b_, .int 0, .int 0, .int r_]) (rest := []) ⟨hx, hb, hml, hown, hts⟩ (c_Mod_send l hJ 6 4 y3 b_ 0 0 r_ w (mm_le (by omega) hmw)) (cwV 7 hts (hd_gV g_Mod_send k_563 k_565 s_29 k_8) rfl rfl rfl (by decide +kernel) ⟨Nat.le_of_ble_eq_true rfl, Nat.le_of_ble_eq_true rfl⟩) (hd_preV hK hN hP 20 0 Nat.one_pos rfl rfl [.int 6, .int 4, .int y3, .int b_, .int 0, .int 0, .int r_]) rfl rfl hl.1 rfl (lv_room (Nat.le_of_ble_eq_true rfl)) d_Mod_getm_82 ⟨Nat.zero_le _, Nat.zero_le _⟩) hS hA (fun H locs hP hS => ?_)
            refine lv_aload_n hx hb d_Mod_getm_85 rfl (lv_at hl 1 rfl) ?_
            refine hd_get (C := R_Mod) (T := F_Mod) (N := 27) hx hb hts i_Mod hown hK hP 20 0 Nat.one_pos he_20 rfl 16 (by decide) (hts _ k_462) (fun _ h9 => h9) hv_20_16 d_Mod_getm_86 ?_
            refine lv_iconst (v := 4) hx hb d_Mod_getm_89 (by decide) ?_
            refine lv_iload_n hx hb d_Mod_getm_90 rfl (lv_at hl 3 rfl) ?_
            refine lv_imul hx hb d_Mod_getm_91 ?_
            refine lv_iload_n hx hb d_Mod_getm_92 rfl (lv_at hl 0 rfl) ?_
            refine lv_iadd hx hb d_Mod_getm_93 ?_
            refine lv_iconst (v := 0) hx hb d_Mod_getm_94 (by decide) ?_
            refine hd_zast hx hb hK hP hJ hA hS 36 0 1 Nat.one_pos (fun _ => rfl) rfl rfl (mod_4 hb4 hin) d_Mod_getm_95 (fun H locs hP hS => ?_)
            obtain ⟨x117, ex117⟩ : ∃ y : Int32, y = y3 + 1 := ⟨_, rfl⟩
            refine lv_iinc (v := x117) (lv' := [(3, .int x117), (0, .ref (ad 20 0)), (1, .int r_), (2, .int b_)]) hx hb d_Mod_getm_96 hl (k := 0) rfl (by rw [ex117]; rfl) (by decide) rfl (fun ls hl => ?_)
            refine lv_goto (tgt := 50) hx hb d_Mod_getm_99 (by decide) ?_
            exact ih (i + 1) x117 (hd_u (f_Mod_send 6 4 y3 b_ 0 0 r_ w) 36 0 ((4 * b_) + y3).toNatClampNeg 0) hlt (by omega) (by rw [ex117, hi3]; exact nI_1 i) (mm_Mod_send (r := 4 - (i + 1)) (mm_le (by omega) hmw)) (by rw [hf]; subst ex117; simp only [f_Mod_getm_L50]; rw [if_neg h106, if_neg h109, if_neg h112]) _ _ _ hP hS (lv_sub hl [0, 1, 2, 3] rfl)
  refine lv_aload_n hx hb d_Mod_getm_0 rfl (lv_at hl 0 rfl) ?_
  refine hd_get (C := R_Mod) (T := F_Mod) (N := 27) hx hb hts i_Mod hown hK hP 20 0 Nat.one_pos he_20 rfl 14 (by decide) (hts _ k_460) (fun _ h9 => h9) hv_20_14 d_Mod_getm_1 ?_
  refine lv_iload_n hx hb d_Mod_getm_4 rfl (lv_at hl 2 rfl) ?_
  refine hd_iald hx hb hK hP 34 0 0 Nat.one_pos rfl rfl hb4 d_Mod_getm_5 ?_
  refine lv_iconst (v := 2) hx hb d_Mod_getm_6 (by decide) ?_
  refine lv_icmp_ne (tgt := 29) hx hb d_Mod_getm_7 (by decide) (fun h1 => ?_) (fun h1 => ?_)
  · refine lv_aload_n hx hb d_Mod_getm_29 rfl (lv_at hl 0 rfl) ?_
    refine lv_iconst (v := 4) hx hb d_Mod_getm_30 (by decide) ?_
    refine lv_iload_n hx hb d_Mod_getm_31 rfl (lv_at hl 1 rfl) ?_
    refine lv_iload_n hx hb d_Mod_getm_32 rfl (lv_at hl 2 rfl) ?_
    refine lv_aload_n hx hb d_Mod_getm_33 rfl (lv_at hl 0 rfl) ?_
    refine hd_get (C := R_Mod) (T := F_Mod) (N := 27) hx hb hts i_Mod hown hK hP 20 0 Nat.one_pos he_20 rfl 13 (by decide) (hts _ k_459) (fun _ h9 => h9) hv_20_13 d_Mod_getm_34 ?_
    refine lv_iload_n hx hb d_Mod_getm_37 rfl (lv_at hl 2 rfl) ?_
    refine hd_iald hx hb hK hP 33 0 0 Nat.one_pos rfl rfl hb4 d_Mod_getm_38 ?_
    refine lv_aload_n hx hb d_Mod_getm_39 rfl (lv_at hl 0 rfl) ?_
    refine lv_iload_n hx hb d_Mod_getm_40 rfl (lv_at hl 2 rfl) ?_
    refine lv_iload_n hx hb d_Mod_getm_41 rfl (lv_at hl 1 rfl) ?_
    refine hd_cI hK (va_runV (As := [.int b_, .int r_]) (rest := [.int (v 33 0 b_.toNatClampNeg), .int b_, .int r_, .int 4, .ref (ad 20 0)]) ⟨hx, hb, hml, hown, hts⟩ (c_Mod_sharers l hJ b_ r_ v hb4) (cwV 2 hts (hd_gV g_Mod_sharers k_607 k_609 s_39 k_8) rfl rfl rfl (by decide +kernel) ⟨Nat.le_of_ble_eq_true rfl, Nat.le_of_ble_eq_true rfl⟩) (hd_preV hK hN hP 20 0 Nat.one_pos rfl rfl [.int b_, .int r_]) rfl rfl hl.1 rfl (lv_room (Nat.le_of_ble_eq_true rfl)) d_Mod_getm_42 ⟨Nat.zero_le _, Nat.zero_le _⟩) hS hA (fun H locs hP hS => ?_)
    refine hd_cV hK (va_runV (As := [.int 4, .int r_, .int b_, .int (v 33 0 b_.toNatClampNeg), .int (f_Mod_sharers b_ r_ v)]) (rest := []) ⟨hx, hb, hml, hown, hts⟩ (c_Mod_data l hJ 4 r_ b_ (v 33 0 b_.toNatClampNeg) (f_Mod_sharers b_ r_ v) v (mm_w hmm)) (cwV 5 hts (hd_gV g_Mod_data k_599 k_601 s_37 k_8) rfl rfl rfl (by decide +kernel) ⟨Nat.le_of_ble_eq_true rfl, Nat.le_of_ble_eq_true rfl⟩) (hd_preV hK hN hP 20 0 Nat.one_pos rfl rfl [.int 4, .int r_, .int b_, .int (v 33 0 b_.toNatClampNeg), .int (f_Mod_sharers b_ r_ v)]) rfl rfl hl.1 rfl (lv_room (Nat.le_of_ble_eq_true rfl)) d_Mod_getm_45 ⟨Nat.zero_le _, Nat.zero_le _⟩) hS hA (fun H locs hP hS => ?_)
    refine lv_iconst (v := 0) hx hb d_Mod_getm_48 (by decide) ?_
    refine lv_istore_n (lv' := [(3, .int 0), (0, .ref (ad 20 0)), (1, .int r_), (2, .int b_)]) hx hb d_Mod_getm_49 rfl hl (by decide) rfl (fun ls hl => ?_)
    exact loop50 5 0 0 (f_Mod_data 4 r_ b_ (v 33 0 b_.toNatClampNeg) (f_Mod_sharers b_ r_ v) v) (by omega) (by omega) nI_0.symm (mm_Mod_data hmm) (by simp only [f_Mod_getm]; rw [if_neg h1]) _ _ _ hP hS (lv_sub hl [0, 1, 2, 3] rfl)
  · refine lv_aload_n hx hb d_Mod_getm_10 rfl (lv_at hl 0 rfl) ?_
    refine lv_iconst (v := 5) hx hb d_Mod_getm_11 (by decide) ?_
    refine lv_iconst (v := 4) hx hb d_Mod_getm_12 (by decide) ?_
    refine lv_aload_n hx hb d_Mod_getm_13 rfl (lv_at hl 0 rfl) ?_
    refine hd_get (C := R_Mod) (T := F_Mod) (N := 27) hx hb hts i_Mod hown hK hP 20 0 Nat.one_pos he_20 rfl 15 (by decide) (hts _ k_461) (fun _ h9 => h9) hv_20_15 d_Mod_getm_14 ?_
    refine lv_iload_n hx hb d_Mod_getm_17 rfl (lv_at hl 2 rfl) ?_
    refine hd_iald hx hb hK hP 35 0 0 Nat.one_pos rfl rfl hb4 d_Mod_getm_18 ?_
    refine lv_iload_n hx hb d_Mod_getm_19 rfl (lv_at hl 2 rfl) ?_
    refine lv_iconst (v := 0) hx hb d_Mod_getm_20 (by decide) ?_
    refine lv_iconst (v := 0) hx hb d_Mod_getm_21 (by decide) ?_
    refine lv_iload_n hx hb d_Mod_getm_22 rfl (lv_at hl 1 rfl) ?_
    refine hd_cV hK (va_runV (As := [.int 5, .int 4, .int (v 35 0 b_.toNatClampNeg), .int b_, .int 0, .int 0, .int r_]) (rest := []) ⟨hx, hb, hml, hown, hts⟩ (c_Mod_send l hJ 5 4 (v 35 0 b_.toNatClampNeg) b_ 0 0 r_ v (mm_w hmm)) (cwV 7 hts (hd_gV g_Mod_send k_563 k_565 s_29 k_8) rfl rfl rfl (by decide +kernel) ⟨Nat.le_of_ble_eq_true rfl, Nat.le_of_ble_eq_true rfl⟩) (hd_preV hK hN hP 20 0 Nat.one_pos rfl rfl [.int 5, .int 4, .int (v 35 0 b_.toNatClampNeg), .int b_, .int 0, .int 0, .int r_]) rfl rfl hl.1 rfl (lv_room (Nat.le_of_ble_eq_true rfl)) d_Mod_getm_23 ⟨Nat.zero_le _, Nat.zero_le _⟩) hS hA (fun H locs hP hS => ?_)
    refine lv_goto (tgt := 102) hx hb d_Mod_getm_26 (by decide) ?_
    refine lv_aload_n hx hb d_Mod_getm_102 rfl (lv_at hl 0 rfl) ?_
    refine hd_get (C := R_Mod) (T := F_Mod) (N := 27) hx hb hts i_Mod hown hK hP 20 0 Nat.one_pos he_20 rfl 15 (by decide) (hts _ k_461) (fun _ h9 => h9) hv_20_15 d_Mod_getm_103 ?_
    refine lv_iload_n hx hb d_Mod_getm_106 rfl (lv_at hl 2 rfl) ?_
    refine lv_iload_n hx hb d_Mod_getm_107 rfl (lv_at hl 1 rfl) ?_
    refine hd_iast hx hb hK hP hJ hA hS 35 0 0 Nat.one_pos (fun _ => rfl) rfl hb4 d_Mod_getm_108 (fun H locs hP hS => ?_)
    refine lv_aload_n hx hb d_Mod_getm_109 rfl (lv_at hl 0 rfl) ?_
    refine hd_get (C := R_Mod) (T := F_Mod) (N := 27) hx hb hts i_Mod hown hK hP 20 0 Nat.one_pos he_20 rfl 14 (by decide) (hts _ k_460) (fun _ h9 => h9) hv_20_14 d_Mod_getm_110 ?_
    refine lv_iload_n hx hb d_Mod_getm_113 rfl (lv_at hl 2 rfl) ?_
    refine lv_iconst (v := 2) hx hb d_Mod_getm_114 (by decide) ?_
    refine hd_iast hx hb hK hP hJ hA hS 34 0 0 Nat.one_pos (fun _ => rfl) rfl hb4 d_Mod_getm_115 (fun H locs hP hS => ?_)
    exact hd_vret hx hb hr hlk hK hN hP hS d_Mod_getm_116 (by simp only [f_Mod_getm]; rw [if_pos h1])
def f_Mod_atHome (what_ : Int32) (r_ : Int32) (b_ : Int32) (v_ : Int32) (v : hd_V) : hd_V :=
  if what_ = 0 then
    let v47 := f_Mod_gets r_ b_ v
    v47
  else
    if what_ = 1 then
      let v46 := f_Mod_getm r_ b_ v
      v46
    else
      if what_ = 8 then
        let v42 := hd_u v 33 0 b_.toNatClampNeg v_
        if (f_Mod_sharers b_ (-1) v42) = 0 then
          let v45 := hd_u v42 34 0 b_.toNatClampNeg 0
          v45
        else
          let v44 := hd_u v42 34 0 b_.toNatClampNeg 1
          v44
      else
        if what_ = 3 then
          if (v 34 0 b_.toNatClampNeg) = 2 then
            if (v 35 0 b_.toNatClampNeg) = r_ then
              let v38 := hd_u v 33 0 b_.toNatClampNeg v_
              let v39 := hd_u v38 35 0 b_.toNatClampNeg (-1)
              let v40 := hd_u v39 34 0 b_.toNatClampNeg 0
              let v41 := f_Mod_send 7 4 r_ b_ 0 0 (-1) v40
              v41
            else
              let v28 := hd_u v 36 0 ((4 * b_) + r_).toNatClampNeg 0
              if (v28 34 0 b_.toNatClampNeg) = 1 then
                if (f_Mod_sharers b_ (-1) v28) = 0 then
                  let v35 := hd_u v28 34 0 b_.toNatClampNeg 0
                  let v36 := f_Mod_send 7 4 r_ b_ 0 0 (-1) v35
                  v36
                else
                  let v33 := hd_u v28 34 0 b_.toNatClampNeg (v28 34 0 b_.toNatClampNeg)
                  let v34 := f_Mod_send 7 4 r_ b_ 0 0 (-1) v33
                  v34
              else
                let v30 := hd_u v28 34 0 b_.toNatClampNeg (v28 34 0 b_.toNatClampNeg)
                let v31 := f_Mod_send 7 4 r_ b_ 0 0 (-1) v30
                v31
          else
            let v17 := hd_u v 36 0 ((4 * b_) + r_).toNatClampNeg 0
            if (v17 34 0 b_.toNatClampNeg) = 1 then
              if (f_Mod_sharers b_ (-1) v17) = 0 then
                let v24 := hd_u v17 34 0 b_.toNatClampNeg 0
                let v25 := f_Mod_send 7 4 r_ b_ 0 0 (-1) v24
                v25
              else
                let v22 := hd_u v17 34 0 b_.toNatClampNeg (v17 34 0 b_.toNatClampNeg)
                let v23 := f_Mod_send 7 4 r_ b_ 0 0 (-1) v22
                v23
            else
              let v19 := hd_u v17 34 0 b_.toNatClampNeg (v17 34 0 b_.toNatClampNeg)
              let v20 := f_Mod_send 7 4 r_ b_ 0 0 (-1) v19
              v20
        else
          let v6 := hd_u v 36 0 ((4 * b_) + r_).toNatClampNeg 0
          if (v6 34 0 b_.toNatClampNeg) = 1 then
            if (f_Mod_sharers b_ (-1) v6) = 0 then
              let v13 := hd_u v6 34 0 b_.toNatClampNeg 0
              let v14 := f_Mod_send 7 4 r_ b_ 0 0 (-1) v13
              v14
            else
              let v11 := hd_u v6 34 0 b_.toNatClampNeg (v6 34 0 b_.toNatClampNeg)
              let v12 := f_Mod_send 7 4 r_ b_ 0 0 (-1) v11
              v12
          else
            let v8 := hd_u v6 34 0 b_.toNatClampNeg (v6 34 0 b_.toNatClampNeg)
            let v9 := f_Mod_send 7 4 r_ b_ 0 0 (-1) v8
            v9
set_option maxHeartbeats 4000000 in
set_option maxRecDepth 100000 in
theorem c_Mod_atHome (l : Launch) {D : va_G} {cI cZ cM cC : ClassId} {n : Nat} {ad : Nat → Nat → Nat} (hJ : hd_J (hx_L n) ad) (what_ : Int32) (r_ : Int32) (b_ : Int32) (v_ : Int32) (v : hd_V) (hb4 : vp_in b_ 4) (hrq : ¬ what_ = 8 → vp_in r_ 4) (how : v 34 0 b_.toNatClampNeg = 2 → vp_in (v 35 0 b_.toNatClampNeg) 4) (hmm : hx_mm 5 v) : Met l y_Mod_atHome w_Mod_atHome { frames := 3, cells := 0, slots := 0, locals := 75 } (va_Pc [.ref (ad 20 0), .int what_, .int r_, .int b_, .int v_] (hx_B D cI cZ cM cC n ad v)) (va_Qv (fun u => u = f_Mod_atHome what_ r_ b_ v_ v) (fun u => hx_B D cI cZ cM cC n ad u) (hx_A n ad)) 0 0 (hx_A n ad) := by
  refine Met.ofW (cc := b_Mod_atHome) (maxL := 6) (ret := none) (by decide) rfl ?_
  intro p e s m args below meth c s₁ B hml hv
  obtain ⟨rfl, hP, hK, hN⟩ := hv
  have hx := B.exec
  have hb := B.bytes
  have hr := B.returns
  have hlk := B.notSynchronized
  have hts0 := atoms_spec (ws := w_Mod_atHome) B.pre
  have hts := fun w (hw : w ∈ lw_g) => hts0 w (List.mem_cons_of_mem _ hw)
  have hown : s.vm.findClass R_Mod = some m.cls := findClass_of_methodNamed B.named
  have hA : ∀ q, hx_A n ad q → hx_A n ad q := fun _ h => h
  have hS : va_S (hx_A n ad) s.heap s.heap [] := va_S.rf
  have hl := lv_entry ([.ref (ad 20 0), .int what_, .int r_, .int b_, .int v_]) (n := 6) (Nat.le_of_ble_eq_true rfl)
  rw [lg_entry_eq]
  generalize (lg_sl ([.ref (ad 20 0), .int what_, .int r_, .int b_, .int v_]) ++ List.replicate (6 - (lg_sl ([.ref (ad 20 0), .int what_, .int r_, .int b_, .int v_])).length) Slot.unset).toArray = ls at hl ⊢
  have hl : lv_has ls 6 [(0, .ref (ad 20 0)), (1, .int what_), (2, .int r_), (3, .int b_), (4, .int v_)] := hl
  refine lv_iload_n hx hb d_Mod_atHome_0 rfl (lv_at hl 1 rfl) ?_
  refine lv_if_ne (tgt := 13) hx hb d_Mod_atHome_1 (by decide) (fun h1 => ?_) (fun h1 => ?_)
  · refine lv_iload_n hx hb d_Mod_atHome_13 rfl (lv_at hl 1 rfl) ?_
    refine lv_iconst (v := 1) hx hb d_Mod_atHome_14 (by decide) ?_
    refine lv_icmp_ne (tgt := 27) hx hb d_Mod_atHome_15 (by decide) (fun h2 => ?_) (fun h2 => ?_)
    · refine lv_iload_n hx hb d_Mod_atHome_27 rfl (lv_at hl 1 rfl) ?_
      refine lv_bipush (v := 8) hx hb d_Mod_atHome_28 (by decide) ?_
      refine lv_icmp_ne (tgt := 64) hx hb d_Mod_atHome_30 (by decide) (fun h3 => ?_) (fun h3 => ?_)
      · have hr4 := hrq h3
        refine lv_iload_n hx hb d_Mod_atHome_64 rfl (lv_at hl 1 rfl) ?_
        refine lv_iconst (v := 3) hx hb d_Mod_atHome_65 (by decide) ?_
        refine lv_icmp_ne (tgt := 93) hx hb d_Mod_atHome_66 (by decide) (fun h4 => ?_) (fun h4 => ?_)
        · refine lv_iconst (v := 0) hx hb d_Mod_atHome_93 (by decide) ?_
          refine lv_istore (lv' := [(5, .int 0), (0, .ref (ad 20 0)), (1, .int what_), (2, .int r_), (3, .int b_), (4, .int v_)]) hx hb d_Mod_atHome_94 hl (by decide) rfl (fun ls hl => ?_)
          refine lv_iload hx hb d_Mod_atHome_96 (lv_at hl 0 rfl) ?_
          refine lv_if_eq (tgt := 126) hx hb d_Mod_atHome_98 (by decide) (fun h5 => ?_) (fun h5 => absurd (by decide) h5)
          refine lv_aload_n hx hb d_Mod_atHome_126 rfl (lv_at hl 1 rfl) ?_
          refine hd_get (C := R_Mod) (T := F_Mod) (N := 27) hx hb hts i_Mod hown hK hP 20 0 Nat.one_pos he_20 rfl 16 (by decide) (hts _ k_462) (fun _ h9 => h9) hv_20_16 d_Mod_atHome_127 ?_
          refine lv_iconst (v := 4) hx hb d_Mod_atHome_130 (by decide) ?_
          refine lv_iload_n hx hb d_Mod_atHome_131 rfl (lv_at hl 4 rfl) ?_
          refine lv_imul hx hb d_Mod_atHome_132 ?_
          refine lv_iload_n hx hb d_Mod_atHome_133 rfl (lv_at hl 3 rfl) ?_
          refine lv_iadd hx hb d_Mod_atHome_134 ?_
          refine lv_iconst (v := 0) hx hb d_Mod_atHome_135 (by decide) ?_
          refine hd_zast hx hb hK hP hJ hA hS 36 0 1 Nat.one_pos (fun _ => rfl) rfl rfl (mod_4 hb4 hr4) d_Mod_atHome_136 (fun H locs hP hS => ?_)
          refine lv_aload_n hx hb d_Mod_atHome_137 rfl (lv_at hl 1 rfl) ?_
          refine hd_get (C := R_Mod) (T := F_Mod) (N := 27) hx hb hts i_Mod hown hK hP 20 0 Nat.one_pos he_20 rfl 14 (by decide) (hts _ k_460) (fun _ h9 => h9) hv_20_14 d_Mod_atHome_138 ?_
          refine lv_iload_n hx hb d_Mod_atHome_141 rfl (lv_at hl 4 rfl) ?_
          refine lv_aload_n hx hb d_Mod_atHome_142 rfl (lv_at hl 1 rfl) ?_
          refine hd_get (C := R_Mod) (T := F_Mod) (N := 27) hx hb hts i_Mod hown hK hP 20 0 Nat.one_pos he_20 rfl 14 (by decide) (hts _ k_460) (fun _ h9 => h9) hv_20_14 d_Mod_atHome_143 ?_
          refine lv_iload_n hx hb d_Mod_atHome_146 rfl (lv_at hl 4 rfl) ?_
          refine hd_iald hx hb hK hP 34 0 0 Nat.one_pos rfl rfl hb4 d_Mod_atHome_147 ?_
          refine lv_iconst (v := 1) hx hb d_Mod_atHome_148 (by decide) ?_
          refine lv_icmp_ne (tgt := 165) hx hb d_Mod_atHome_149 (by decide) (fun h7 => ?_) (fun h7 => ?_)
          · refine lv_aload_n hx hb d_Mod_atHome_165 rfl (lv_at hl 1 rfl) ?_
            refine hd_get (C := R_Mod) (T := F_Mod) (N := 27) hx hb hts i_Mod hown hK hP 20 0 Nat.one_pos he_20 rfl 14 (by decide) (hts _ k_460) (fun _ h9 => h9) hv_20_14 d_Mod_atHome_166 ?_
            refine lv_iload_n hx hb d_Mod_atHome_169 rfl (lv_at hl 4 rfl) ?_
            refine hd_iald hx hb hK hP 34 0 0 Nat.one_pos rfl rfl hb4 d_Mod_atHome_170 ?_
            refine hd_iast hx hb hK hP hJ hA hS 34 0 0 Nat.one_pos (fun _ => rfl) rfl hb4 d_Mod_atHome_171 (fun H locs hP hS => ?_)
            refine lv_aload_n hx hb d_Mod_atHome_172 rfl (lv_at hl 1 rfl) ?_
            refine lv_bipush (v := 7) hx hb d_Mod_atHome_173 (by decide) ?_
            refine lv_iconst (v := 4) hx hb d_Mod_atHome_175 (by decide) ?_
            refine lv_iload_n hx hb d_Mod_atHome_176 rfl (lv_at hl 3 rfl) ?_
            refine lv_iload_n hx hb d_Mod_atHome_177 rfl (lv_at hl 4 rfl) ?_
            refine lv_iconst (v := 0) hx hb d_Mod_atHome_178 (by decide) ?_
            refine lv_iconst (v := 0) hx hb d_Mod_atHome_179 (by decide) ?_
            refine lv_iconst (v := -1) hx hb d_Mod_atHome_180 (by decide) ?_
            refine hd_cV hK (va_runV (As := [.int 7, .int 4, .int r_, .int b_, .int 0, .int 0, .int (-1)]) (rest := []) ⟨hx, hb, hml, hown, hts⟩ (c_Mod_send l hJ 7 4 r_ b_ 0 0 (-1) (hd_u (hd_u v 36 0 ((4 * b_) + r_).toNatClampNeg 0) 34 0 b_.toNatClampNeg ((hd_u v 36 0 ((4 * b_) + r_).toNatClampNeg 0) 34 0 b_.toNatClampNeg)) (mm_w hmm)) (cwV 7 hts (hd_gV g_Mod_send k_563 k_565 s_29 k_8) rfl rfl rfl (by decide +kernel) ⟨Nat.le_of_ble_eq_true rfl, Nat.le_of_ble_eq_true rfl⟩) (hd_preV hK hN hP 20 0 Nat.one_pos rfl rfl [.int 7, .int 4, .int r_, .int b_, .int 0, .int 0, .int (-1)]) rfl rfl hl.1 rfl (lv_room (Nat.le_of_ble_eq_true rfl)) d_Mod_atHome_181 ⟨Nat.zero_le _, Nat.zero_le _⟩) hS hA (fun H locs hP hS => ?_)
            exact hd_vret hx hb hr hlk hK hN hP hS d_Mod_atHome_184 (by simp only [f_Mod_atHome]; rw [if_neg h1, if_neg h2, if_neg h3, if_neg h4, if_neg h7])
          · refine lv_aload_n hx hb d_Mod_atHome_152 rfl (lv_at hl 1 rfl) ?_
            refine lv_iload_n hx hb d_Mod_atHome_153 rfl (lv_at hl 4 rfl) ?_
            refine lv_iconst (v := -1) hx hb d_Mod_atHome_154 (by decide) ?_
            refine hd_cI hK (va_runV (As := [.int b_, .int (-1)]) (rest := [.int b_, .ref (ad 34 0)]) ⟨hx, hb, hml, hown, hts⟩ (c_Mod_sharers l hJ b_ (-1) (hd_u v 36 0 ((4 * b_) + r_).toNatClampNeg 0) hb4) (cwV 2 hts (hd_gV g_Mod_sharers k_607 k_609 s_39 k_8) rfl rfl rfl (by decide +kernel) ⟨Nat.le_of_ble_eq_true rfl, Nat.le_of_ble_eq_true rfl⟩) (hd_preV hK hN hP 20 0 Nat.one_pos rfl rfl [.int b_, .int (-1)]) rfl rfl hl.1 rfl (lv_room (Nat.le_of_ble_eq_true rfl)) d_Mod_atHome_155 ⟨Nat.zero_le _, Nat.zero_le _⟩) hS hA (fun H locs hP hS => ?_)
            refine lv_if_ne (tgt := 165) hx hb d_Mod_atHome_158 (by decide) (fun h10 => ?_) (fun h10 => ?_)
            · refine lv_aload_n hx hb d_Mod_atHome_165 rfl (lv_at hl 1 rfl) ?_
              refine hd_get (C := R_Mod) (T := F_Mod) (N := 27) hx hb hts i_Mod hown hK hP 20 0 Nat.one_pos he_20 rfl 14 (by decide) (hts _ k_460) (fun _ h9 => h9) hv_20_14 d_Mod_atHome_166 ?_
              refine lv_iload_n hx hb d_Mod_atHome_169 rfl (lv_at hl 4 rfl) ?_
              refine hd_iald hx hb hK hP 34 0 0 Nat.one_pos rfl rfl hb4 d_Mod_atHome_170 ?_
              refine hd_iast hx hb hK hP hJ hA hS 34 0 0 Nat.one_pos (fun _ => rfl) rfl hb4 d_Mod_atHome_171 (fun H locs hP hS => ?_)
              refine lv_aload_n hx hb d_Mod_atHome_172 rfl (lv_at hl 1 rfl) ?_
              refine lv_bipush (v := 7) hx hb d_Mod_atHome_173 (by decide) ?_
              refine lv_iconst (v := 4) hx hb d_Mod_atHome_175 (by decide) ?_
              refine lv_iload_n hx hb d_Mod_atHome_176 rfl (lv_at hl 3 rfl) ?_
              refine lv_iload_n hx hb d_Mod_atHome_177 rfl (lv_at hl 4 rfl) ?_
              refine lv_iconst (v := 0) hx hb d_Mod_atHome_178 (by decide) ?_
              refine lv_iconst (v := 0) hx hb d_Mod_atHome_179 (by decide) ?_
              refine lv_iconst (v := -1) hx hb d_Mod_atHome_180 (by decide) ?_
              refine hd_cV hK (va_runV (As := [.int 7, .int 4, .int r_, .int b_, .int 0, .int 0, .int (-1)]) (rest := []) ⟨hx, hb, hml, hown, hts⟩ (c_Mod_send l hJ 7 4 r_ b_ 0 0 (-1) (hd_u (hd_u v 36 0 ((4 * b_) + r_).toNatClampNeg 0) 34 0 b_.toNatClampNeg ((hd_u v 36 0 ((4 * b_) + r_).toNatClampNeg 0) 34 0 b_.toNatClampNeg)) (mm_w hmm)) (cwV 7 hts (hd_gV g_Mod_send k_563 k_565 s_29 k_8) rfl rfl rfl (by decide +kernel) ⟨Nat.le_of_ble_eq_true rfl, Nat.le_of_ble_eq_true rfl⟩) (hd_preV hK hN hP 20 0 Nat.one_pos rfl rfl [.int 7, .int 4, .int r_, .int b_, .int 0, .int 0, .int (-1)]) rfl rfl hl.1 rfl (lv_room (Nat.le_of_ble_eq_true rfl)) d_Mod_atHome_181 ⟨Nat.zero_le _, Nat.zero_le _⟩) hS hA (fun H locs hP hS => ?_)
              exact hd_vret hx hb hr hlk hK hN hP hS d_Mod_atHome_184 (by simp only [f_Mod_atHome]; rw [if_neg h1, if_neg h2, if_neg h3, if_neg h4, if_pos h7, if_neg h10])
            · refine lv_iconst (v := 0) hx hb d_Mod_atHome_161 (by decide) ?_
              refine lv_goto (tgt := 171) hx hb d_Mod_atHome_162 (by decide) ?_
              refine hd_iast hx hb hK hP hJ hA hS 34 0 0 Nat.one_pos (fun _ => rfl) rfl hb4 d_Mod_atHome_171 (fun H locs hP hS => ?_)
              refine lv_aload_n hx hb d_Mod_atHome_172 rfl (lv_at hl 1 rfl) ?_
              refine lv_bipush (v := 7) hx hb d_Mod_atHome_173 (by decide) ?_
              refine lv_iconst (v := 4) hx hb d_Mod_atHome_175 (by decide) ?_
              refine lv_iload_n hx hb d_Mod_atHome_176 rfl (lv_at hl 3 rfl) ?_
              refine lv_iload_n hx hb d_Mod_atHome_177 rfl (lv_at hl 4 rfl) ?_
              refine lv_iconst (v := 0) hx hb d_Mod_atHome_178 (by decide) ?_
              refine lv_iconst (v := 0) hx hb d_Mod_atHome_179 (by decide) ?_
              refine lv_iconst (v := -1) hx hb d_Mod_atHome_180 (by decide) ?_
              refine hd_cV hK (va_runV (As := [.int 7, .int 4, .int r_, .int b_, .int 0, .int 0, .int (-1)]) (rest := []) ⟨hx, hb, hml, hown, hts⟩ (c_Mod_send l hJ 7 4 r_ b_ 0 0 (-1) (hd_u (hd_u v 36 0 ((4 * b_) + r_).toNatClampNeg 0) 34 0 b_.toNatClampNeg 0) (mm_w hmm)) (cwV 7 hts (hd_gV g_Mod_send k_563 k_565 s_29 k_8) rfl rfl rfl (by decide +kernel) ⟨Nat.le_of_ble_eq_true rfl, Nat.le_of_ble_eq_true rfl⟩) (hd_preV hK hN hP 20 0 Nat.one_pos rfl rfl [.int 7, .int 4, .int r_, .int b_, .int 0, .int 0, .int (-1)]) rfl rfl hl.1 rfl (lv_room (Nat.le_of_ble_eq_true rfl)) d_Mod_atHome_181 ⟨Nat.zero_le _, Nat.zero_le _⟩) hS hA (fun H locs hP hS => ?_)
              exact hd_vret hx hb hr hlk hK hN hP hS d_Mod_atHome_184 (by simp only [f_Mod_atHome]; rw [if_neg h1, if_neg h2, if_neg h3, if_neg h4, if_pos h7, if_pos h10])
        · refine lv_aload_n hx hb d_Mod_atHome_69 rfl (lv_at hl 0 rfl) ?_
          refine hd_get (C := R_Mod) (T := F_Mod) (N := 27) hx hb hts i_Mod hown hK hP 20 0 Nat.one_pos he_20 rfl 14 (by decide) (hts _ k_460) (fun _ h9 => h9) hv_20_14 d_Mod_atHome_70 ?_
          refine lv_iload_n hx hb d_Mod_atHome_73 rfl (lv_at hl 3 rfl) ?_
          refine hd_iald hx hb hK hP 34 0 0 Nat.one_pos rfl rfl hb4 d_Mod_atHome_74 ?_
          refine lv_iconst (v := 2) hx hb d_Mod_atHome_75 (by decide) ?_
          refine lv_icmp_ne (tgt := 93) hx hb d_Mod_atHome_76 (by decide) (fun h15 => ?_) (fun h15 => ?_)
          · refine lv_iconst (v := 0) hx hb d_Mod_atHome_93 (by decide) ?_
            refine lv_istore (lv' := [(5, .int 0), (0, .ref (ad 20 0)), (1, .int what_), (2, .int r_), (3, .int b_), (4, .int v_)]) hx hb d_Mod_atHome_94 hl (by decide) rfl (fun ls hl => ?_)
            refine lv_iload hx hb d_Mod_atHome_96 (lv_at hl 0 rfl) ?_
            refine lv_if_eq (tgt := 126) hx hb d_Mod_atHome_98 (by decide) (fun h16 => ?_) (fun h16 => absurd (by decide) h16)
            refine lv_aload_n hx hb d_Mod_atHome_126 rfl (lv_at hl 1 rfl) ?_
            refine hd_get (C := R_Mod) (T := F_Mod) (N := 27) hx hb hts i_Mod hown hK hP 20 0 Nat.one_pos he_20 rfl 16 (by decide) (hts _ k_462) (fun _ h9 => h9) hv_20_16 d_Mod_atHome_127 ?_
            refine lv_iconst (v := 4) hx hb d_Mod_atHome_130 (by decide) ?_
            refine lv_iload_n hx hb d_Mod_atHome_131 rfl (lv_at hl 4 rfl) ?_
            refine lv_imul hx hb d_Mod_atHome_132 ?_
            refine lv_iload_n hx hb d_Mod_atHome_133 rfl (lv_at hl 3 rfl) ?_
            refine lv_iadd hx hb d_Mod_atHome_134 ?_
            refine lv_iconst (v := 0) hx hb d_Mod_atHome_135 (by decide) ?_
            refine hd_zast hx hb hK hP hJ hA hS 36 0 1 Nat.one_pos (fun _ => rfl) rfl rfl (mod_4 hb4 hr4) d_Mod_atHome_136 (fun H locs hP hS => ?_)
            refine lv_aload_n hx hb d_Mod_atHome_137 rfl (lv_at hl 1 rfl) ?_
            refine hd_get (C := R_Mod) (T := F_Mod) (N := 27) hx hb hts i_Mod hown hK hP 20 0 Nat.one_pos he_20 rfl 14 (by decide) (hts _ k_460) (fun _ h9 => h9) hv_20_14 d_Mod_atHome_138 ?_
            refine lv_iload_n hx hb d_Mod_atHome_141 rfl (lv_at hl 4 rfl) ?_
            refine lv_aload_n hx hb d_Mod_atHome_142 rfl (lv_at hl 1 rfl) ?_
            refine hd_get (C := R_Mod) (T := F_Mod) (N := 27) hx hb hts i_Mod hown hK hP 20 0 Nat.one_pos he_20 rfl 14 (by decide) (hts _ k_460) (fun _ h9 => h9) hv_20_14 d_Mod_atHome_143 ?_
            refine lv_iload_n hx hb d_Mod_atHome_146 rfl (lv_at hl 4 rfl) ?_
            refine hd_iald hx hb hK hP 34 0 0 Nat.one_pos rfl rfl hb4 d_Mod_atHome_147 ?_
            refine lv_iconst (v := 1) hx hb d_Mod_atHome_148 (by decide) ?_
            refine lv_icmp_ne (tgt := 165) hx hb d_Mod_atHome_149 (by decide) (fun h18 => ?_) (fun h18 => ?_)
            · refine lv_aload_n hx hb d_Mod_atHome_165 rfl (lv_at hl 1 rfl) ?_
              refine hd_get (C := R_Mod) (T := F_Mod) (N := 27) hx hb hts i_Mod hown hK hP 20 0 Nat.one_pos he_20 rfl 14 (by decide) (hts _ k_460) (fun _ h9 => h9) hv_20_14 d_Mod_atHome_166 ?_
              refine lv_iload_n hx hb d_Mod_atHome_169 rfl (lv_at hl 4 rfl) ?_
              refine hd_iald hx hb hK hP 34 0 0 Nat.one_pos rfl rfl hb4 d_Mod_atHome_170 ?_
              refine hd_iast hx hb hK hP hJ hA hS 34 0 0 Nat.one_pos (fun _ => rfl) rfl hb4 d_Mod_atHome_171 (fun H locs hP hS => ?_)
              refine lv_aload_n hx hb d_Mod_atHome_172 rfl (lv_at hl 1 rfl) ?_
              refine lv_bipush (v := 7) hx hb d_Mod_atHome_173 (by decide) ?_
              refine lv_iconst (v := 4) hx hb d_Mod_atHome_175 (by decide) ?_
              refine lv_iload_n hx hb d_Mod_atHome_176 rfl (lv_at hl 3 rfl) ?_
              refine lv_iload_n hx hb d_Mod_atHome_177 rfl (lv_at hl 4 rfl) ?_
              refine lv_iconst (v := 0) hx hb d_Mod_atHome_178 (by decide) ?_
              refine lv_iconst (v := 0) hx hb d_Mod_atHome_179 (by decide) ?_
              refine lv_iconst (v := -1) hx hb d_Mod_atHome_180 (by decide) ?_
              refine hd_cV hK (va_runV (As := [.int 7, .int 4, .int r_, .int b_, .int 0, .int 0, .int (-1)]) (rest := []) ⟨hx, hb, hml, hown, hts⟩ (c_Mod_send l hJ 7 4 r_ b_ 0 0 (-1) (hd_u (hd_u v 36 0 ((4 * b_) + r_).toNatClampNeg 0) 34 0 b_.toNatClampNeg ((hd_u v 36 0 ((4 * b_) + r_).toNatClampNeg 0) 34 0 b_.toNatClampNeg)) (mm_w hmm)) (cwV 7 hts (hd_gV g_Mod_send k_563 k_565 s_29 k_8) rfl rfl rfl (by decide +kernel) ⟨Nat.le_of_ble_eq_true rfl, Nat.le_of_ble_eq_true rfl⟩) (hd_preV hK hN hP 20 0 Nat.one_pos rfl rfl [.int 7, .int 4, .int r_, .int b_, .int 0, .int 0, .int (-1)]) rfl rfl hl.1 rfl (lv_room (Nat.le_of_ble_eq_true rfl)) d_Mod_atHome_181 ⟨Nat.zero_le _, Nat.zero_le _⟩) hS hA (fun H locs hP hS => ?_)
              exact hd_vret hx hb hr hlk hK hN hP hS d_Mod_atHome_184 (by simp only [f_Mod_atHome]; rw [if_neg h1, if_neg h2, if_neg h3, if_pos h4, if_neg h15, if_neg h18])
            · refine lv_aload_n hx hb d_Mod_atHome_152 rfl (lv_at hl 1 rfl) ?_
              refine lv_iload_n hx hb d_Mod_atHome_153 rfl (lv_at hl 4 rfl) ?_
              refine lv_iconst (v := -1) hx hb d_Mod_atHome_154 (by decide) ?_
              refine hd_cI hK (va_runV (As := [.int b_, .int (-1)]) (rest := [.int b_, .ref (ad 34 0)]) ⟨hx, hb, hml, hown, hts⟩ (c_Mod_sharers l hJ b_ (-1) (hd_u v 36 0 ((4 * b_) + r_).toNatClampNeg 0) hb4) (cwV 2 hts (hd_gV g_Mod_sharers k_607 k_609 s_39 k_8) rfl rfl rfl (by decide +kernel) ⟨Nat.le_of_ble_eq_true rfl, Nat.le_of_ble_eq_true rfl⟩) (hd_preV hK hN hP 20 0 Nat.one_pos rfl rfl [.int b_, .int (-1)]) rfl rfl hl.1 rfl (lv_room (Nat.le_of_ble_eq_true rfl)) d_Mod_atHome_155 ⟨Nat.zero_le _, Nat.zero_le _⟩) hS hA (fun H locs hP hS => ?_)
              refine lv_if_ne (tgt := 165) hx hb d_Mod_atHome_158 (by decide) (fun h21 => ?_) (fun h21 => ?_)
              · refine lv_aload_n hx hb d_Mod_atHome_165 rfl (lv_at hl 1 rfl) ?_
                refine hd_get (C := R_Mod) (T := F_Mod) (N := 27) hx hb hts i_Mod hown hK hP 20 0 Nat.one_pos he_20 rfl 14 (by decide) (hts _ k_460) (fun _ h9 => h9) hv_20_14 d_Mod_atHome_166 ?_
                refine lv_iload_n hx hb d_Mod_atHome_169 rfl (lv_at hl 4 rfl) ?_
                refine hd_iald hx hb hK hP 34 0 0 Nat.one_pos rfl rfl hb4 d_Mod_atHome_170 ?_
                refine hd_iast hx hb hK hP hJ hA hS 34 0 0 Nat.one_pos (fun _ => rfl) rfl hb4 d_Mod_atHome_171 (fun H locs hP hS => ?_)
                refine lv_aload_n hx hb d_Mod_atHome_172 rfl (lv_at hl 1 rfl) ?_
                refine lv_bipush (v := 7) hx hb d_Mod_atHome_173 (by decide) ?_
                refine lv_iconst (v := 4) hx hb d_Mod_atHome_175 (by decide) ?_
                refine lv_iload_n hx hb d_Mod_atHome_176 rfl (lv_at hl 3 rfl) ?_
                refine lv_iload_n hx hb d_Mod_atHome_177 rfl (lv_at hl 4 rfl) ?_
                refine lv_iconst (v := 0) hx hb d_Mod_atHome_178 (by decide) ?_
                refine lv_iconst (v := 0) hx hb d_Mod_atHome_179 (by decide) ?_
                refine lv_iconst (v := -1) hx hb d_Mod_atHome_180 (by decide) ?_
                refine hd_cV hK (va_runV (As := [.int 7, .int 4, .int r_, .int b_, .int 0, .int 0, .int (-1)]) (rest := []) ⟨hx, hb, hml, hown, hts⟩ (c_Mod_send l hJ 7 4 r_ b_ 0 0 (-1) (hd_u (hd_u v 36 0 ((4 * b_) + r_).toNatClampNeg 0) 34 0 b_.toNatClampNeg ((hd_u v 36 0 ((4 * b_) + r_).toNatClampNeg 0) 34 0 b_.toNatClampNeg)) (mm_w hmm)) (cwV 7 hts (hd_gV g_Mod_send k_563 k_565 s_29 k_8) rfl rfl rfl (by decide +kernel) ⟨Nat.le_of_ble_eq_true rfl, Nat.le_of_ble_eq_true rfl⟩) (hd_preV hK hN hP 20 0 Nat.one_pos rfl rfl [.int 7, .int 4, .int r_, .int b_, .int 0, .int 0, .int (-1)]) rfl rfl hl.1 rfl (lv_room (Nat.le_of_ble_eq_true rfl)) d_Mod_atHome_181 ⟨Nat.zero_le _, Nat.zero_le _⟩) hS hA (fun H locs hP hS => ?_)
                exact hd_vret hx hb hr hlk hK hN hP hS d_Mod_atHome_184 (by simp only [f_Mod_atHome]; rw [if_neg h1, if_neg h2, if_neg h3, if_pos h4, if_neg h15, if_pos h18, if_neg h21])
              · refine lv_iconst (v := 0) hx hb d_Mod_atHome_161 (by decide) ?_
                refine lv_goto (tgt := 171) hx hb d_Mod_atHome_162 (by decide) ?_
                refine hd_iast hx hb hK hP hJ hA hS 34 0 0 Nat.one_pos (fun _ => rfl) rfl hb4 d_Mod_atHome_171 (fun H locs hP hS => ?_)
                refine lv_aload_n hx hb d_Mod_atHome_172 rfl (lv_at hl 1 rfl) ?_
                refine lv_bipush (v := 7) hx hb d_Mod_atHome_173 (by decide) ?_
                refine lv_iconst (v := 4) hx hb d_Mod_atHome_175 (by decide) ?_
                refine lv_iload_n hx hb d_Mod_atHome_176 rfl (lv_at hl 3 rfl) ?_
                refine lv_iload_n hx hb d_Mod_atHome_177 rfl (lv_at hl 4 rfl) ?_
                refine lv_iconst (v := 0) hx hb d_Mod_atHome_178 (by decide) ?_
                refine lv_iconst (v := 0) hx hb d_Mod_atHome_179 (by decide) ?_
                refine lv_iconst (v := -1) hx hb d_Mod_atHome_180 (by decide) ?_
                refine hd_cV hK (va_runV (As := [.int 7, .int 4, .int r_, .int b_, .int 0, .int 0, .int (-1)]) (rest := []) ⟨hx, hb, hml, hown, hts⟩ (c_Mod_send l hJ 7 4 r_ b_ 0 0 (-1) (hd_u (hd_u v 36 0 ((4 * b_) + r_).toNatClampNeg 0) 34 0 b_.toNatClampNeg 0) (mm_w hmm)) (cwV 7 hts (hd_gV g_Mod_send k_563 k_565 s_29 k_8) rfl rfl rfl (by decide +kernel) ⟨Nat.le_of_ble_eq_true rfl, Nat.le_of_ble_eq_true rfl⟩) (hd_preV hK hN hP 20 0 Nat.one_pos rfl rfl [.int 7, .int 4, .int r_, .int b_, .int 0, .int 0, .int (-1)]) rfl rfl hl.1 rfl (lv_room (Nat.le_of_ble_eq_true rfl)) d_Mod_atHome_181 ⟨Nat.zero_le _, Nat.zero_le _⟩) hS hA (fun H locs hP hS => ?_)
                exact hd_vret hx hb hr hlk hK hN hP hS d_Mod_atHome_184 (by simp only [f_Mod_atHome]; rw [if_neg h1, if_neg h2, if_neg h3, if_pos h4, if_neg h15, if_pos h18, if_pos h21])
          · refine lv_aload_n hx hb d_Mod_atHome_79 rfl (lv_at hl 0 rfl) ?_
            refine hd_get (C := R_Mod) (T := F_Mod) (N := 27) hx hb hts i_Mod hown hK hP 20 0 Nat.one_pos he_20 rfl 15 (by decide) (hts _ k_461) (fun _ h9 => h9) hv_20_15 d_Mod_atHome_80 ?_
            refine lv_iload_n hx hb d_Mod_atHome_83 rfl (lv_at hl 3 rfl) ?_
            refine hd_iald hx hb hK hP 35 0 0 Nat.one_pos rfl rfl hb4 d_Mod_atHome_84 ?_
            refine lv_iload_n hx hb d_Mod_atHome_85 rfl (lv_at hl 2 rfl) ?_
            refine lv_icmp_ne (tgt := 93) hx hb d_Mod_atHome_86 (by decide) (fun h26 => ?_) (fun h26 => ?_)
            · refine lv_iconst (v := 0) hx hb d_Mod_atHome_93 (by decide) ?_
              refine lv_istore (lv' := [(5, .int 0), (0, .ref (ad 20 0)), (1, .int what_), (2, .int r_), (3, .int b_), (4, .int v_)]) hx hb d_Mod_atHome_94 hl (by decide) rfl (fun ls hl => ?_)
              refine lv_iload hx hb d_Mod_atHome_96 (lv_at hl 0 rfl) ?_
              refine lv_if_eq (tgt := 126) hx hb d_Mod_atHome_98 (by decide) (fun h27 => ?_) (fun h27 => absurd (by decide) h27)
              refine lv_aload_n hx hb d_Mod_atHome_126 rfl (lv_at hl 1 rfl) ?_
              refine hd_get (C := R_Mod) (T := F_Mod) (N := 27) hx hb hts i_Mod hown hK hP 20 0 Nat.one_pos he_20 rfl 16 (by decide) (hts _ k_462) (fun _ h9 => h9) hv_20_16 d_Mod_atHome_127 ?_
              refine lv_iconst (v := 4) hx hb d_Mod_atHome_130 (by decide) ?_
              refine lv_iload_n hx hb d_Mod_atHome_131 rfl (lv_at hl 4 rfl) ?_
              refine lv_imul hx hb d_Mod_atHome_132 ?_
              refine lv_iload_n hx hb d_Mod_atHome_133 rfl (lv_at hl 3 rfl) ?_
              refine lv_iadd hx hb d_Mod_atHome_134 ?_
              refine lv_iconst (v := 0) hx hb d_Mod_atHome_135 (by decide) ?_
              refine hd_zast hx hb hK hP hJ hA hS 36 0 1 Nat.one_pos (fun _ => rfl) rfl rfl (mod_4 hb4 hr4) d_Mod_atHome_136 (fun H locs hP hS => ?_)
              refine lv_aload_n hx hb d_Mod_atHome_137 rfl (lv_at hl 1 rfl) ?_
              refine hd_get (C := R_Mod) (T := F_Mod) (N := 27) hx hb hts i_Mod hown hK hP 20 0 Nat.one_pos he_20 rfl 14 (by decide) (hts _ k_460) (fun _ h9 => h9) hv_20_14 d_Mod_atHome_138 ?_
              refine lv_iload_n hx hb d_Mod_atHome_141 rfl (lv_at hl 4 rfl) ?_
              refine lv_aload_n hx hb d_Mod_atHome_142 rfl (lv_at hl 1 rfl) ?_
              refine hd_get (C := R_Mod) (T := F_Mod) (N := 27) hx hb hts i_Mod hown hK hP 20 0 Nat.one_pos he_20 rfl 14 (by decide) (hts _ k_460) (fun _ h9 => h9) hv_20_14 d_Mod_atHome_143 ?_
              refine lv_iload_n hx hb d_Mod_atHome_146 rfl (lv_at hl 4 rfl) ?_
              refine hd_iald hx hb hK hP 34 0 0 Nat.one_pos rfl rfl hb4 d_Mod_atHome_147 ?_
              refine lv_iconst (v := 1) hx hb d_Mod_atHome_148 (by decide) ?_
              refine lv_icmp_ne (tgt := 165) hx hb d_Mod_atHome_149 (by decide) (fun h29 => ?_) (fun h29 => ?_)
              · refine lv_aload_n hx hb d_Mod_atHome_165 rfl (lv_at hl 1 rfl) ?_
                refine hd_get (C := R_Mod) (T := F_Mod) (N := 27) hx hb hts i_Mod hown hK hP 20 0 Nat.one_pos he_20 rfl 14 (by decide) (hts _ k_460) (fun _ h9 => h9) hv_20_14 d_Mod_atHome_166 ?_
                refine lv_iload_n hx hb d_Mod_atHome_169 rfl (lv_at hl 4 rfl) ?_
                refine hd_iald hx hb hK hP 34 0 0 Nat.one_pos rfl rfl hb4 d_Mod_atHome_170 ?_
                refine hd_iast hx hb hK hP hJ hA hS 34 0 0 Nat.one_pos (fun _ => rfl) rfl hb4 d_Mod_atHome_171 (fun H locs hP hS => ?_)
                refine lv_aload_n hx hb d_Mod_atHome_172 rfl (lv_at hl 1 rfl) ?_
                refine lv_bipush (v := 7) hx hb d_Mod_atHome_173 (by decide) ?_
                refine lv_iconst (v := 4) hx hb d_Mod_atHome_175 (by decide) ?_
                refine lv_iload_n hx hb d_Mod_atHome_176 rfl (lv_at hl 3 rfl) ?_
                refine lv_iload_n hx hb d_Mod_atHome_177 rfl (lv_at hl 4 rfl) ?_
                refine lv_iconst (v := 0) hx hb d_Mod_atHome_178 (by decide) ?_
                refine lv_iconst (v := 0) hx hb d_Mod_atHome_179 (by decide) ?_
                refine lv_iconst (v := -1) hx hb d_Mod_atHome_180 (by decide) ?_
                refine hd_cV hK (va_runV (As := [.int 7, .int 4, .int r_, .int b_, .int 0, .int 0, .int (-1)]) (rest := []) ⟨hx, hb, hml, hown, hts⟩ (c_Mod_send l hJ 7 4 r_ b_ 0 0 (-1) (hd_u (hd_u v 36 0 ((4 * b_) + r_).toNatClampNeg 0) 34 0 b_.toNatClampNeg ((hd_u v 36 0 ((4 * b_) + r_).toNatClampNeg 0) 34 0 b_.toNatClampNeg)) (mm_w hmm)) (cwV 7 hts (hd_gV g_Mod_send k_563 k_565 s_29 k_8) rfl rfl rfl (by decide +kernel) ⟨Nat.le_of_ble_eq_true rfl, Nat.le_of_ble_eq_true rfl⟩) (hd_preV hK hN hP 20 0 Nat.one_pos rfl rfl [.int 7, .int 4, .int r_, .int b_, .int 0, .int 0, .int (-1)]) rfl rfl hl.1 rfl (lv_room (Nat.le_of_ble_eq_true rfl)) d_Mod_atHome_181 ⟨Nat.zero_le _, Nat.zero_le _⟩) hS hA (fun H locs hP hS => ?_)
                exact hd_vret hx hb hr hlk hK hN hP hS d_Mod_atHome_184 (by simp only [f_Mod_atHome]; rw [if_neg h1, if_neg h2, if_neg h3, if_pos h4, if_pos h15, if_neg h26, if_neg h29])
              · refine lv_aload_n hx hb d_Mod_atHome_152 rfl (lv_at hl 1 rfl) ?_
                refine lv_iload_n hx hb d_Mod_atHome_153 rfl (lv_at hl 4 rfl) ?_
                refine lv_iconst (v := -1) hx hb d_Mod_atHome_154 (by decide) ?_
                refine hd_cI hK (va_runV (As := [.int b_, .int (-1)]) (rest := [.int b_, .ref (ad 34 0)]) ⟨hx, hb, hml, hown, hts⟩ (c_Mod_sharers l hJ b_ (-1) (hd_u v 36 0 ((4 * b_) + r_).toNatClampNeg 0) hb4) (cwV 2 hts (hd_gV g_Mod_sharers k_607 k_609 s_39 k_8) rfl rfl rfl (by decide +kernel) ⟨Nat.le_of_ble_eq_true rfl, Nat.le_of_ble_eq_true rfl⟩) (hd_preV hK hN hP 20 0 Nat.one_pos rfl rfl [.int b_, .int (-1)]) rfl rfl hl.1 rfl (lv_room (Nat.le_of_ble_eq_true rfl)) d_Mod_atHome_155 ⟨Nat.zero_le _, Nat.zero_le _⟩) hS hA (fun H locs hP hS => ?_)
                refine lv_if_ne (tgt := 165) hx hb d_Mod_atHome_158 (by decide) (fun h32 => ?_) (fun h32 => ?_)
                · refine lv_aload_n hx hb d_Mod_atHome_165 rfl (lv_at hl 1 rfl) ?_
                  refine hd_get (C := R_Mod) (T := F_Mod) (N := 27) hx hb hts i_Mod hown hK hP 20 0 Nat.one_pos he_20 rfl 14 (by decide) (hts _ k_460) (fun _ h9 => h9) hv_20_14 d_Mod_atHome_166 ?_
                  refine lv_iload_n hx hb d_Mod_atHome_169 rfl (lv_at hl 4 rfl) ?_
                  refine hd_iald hx hb hK hP 34 0 0 Nat.one_pos rfl rfl hb4 d_Mod_atHome_170 ?_
                  refine hd_iast hx hb hK hP hJ hA hS 34 0 0 Nat.one_pos (fun _ => rfl) rfl hb4 d_Mod_atHome_171 (fun H locs hP hS => ?_)
                  refine lv_aload_n hx hb d_Mod_atHome_172 rfl (lv_at hl 1 rfl) ?_
                  refine lv_bipush (v := 7) hx hb d_Mod_atHome_173 (by decide) ?_
                  refine lv_iconst (v := 4) hx hb d_Mod_atHome_175 (by decide) ?_
                  refine lv_iload_n hx hb d_Mod_atHome_176 rfl (lv_at hl 3 rfl) ?_
                  refine lv_iload_n hx hb d_Mod_atHome_177 rfl (lv_at hl 4 rfl) ?_
                  refine lv_iconst (v := 0) hx hb d_Mod_atHome_178 (by decide) ?_
                  refine lv_iconst (v := 0) hx hb d_Mod_atHome_179 (by decide) ?_
                  refine lv_iconst (v := -1) hx hb d_Mod_atHome_180 (by decide) ?_
                  refine hd_cV hK (va_runV (As := [.int 7, .int 4, .int r_, .int b_, .int 0, .int 0, .int (-1)]) (rest := []) ⟨hx, hb, hml, hown, hts⟩ (c_Mod_send l hJ 7 4 r_ b_ 0 0 (-1) (hd_u (hd_u v 36 0 ((4 * b_) + r_).toNatClampNeg 0) 34 0 b_.toNatClampNeg ((hd_u v 36 0 ((4 * b_) + r_).toNatClampNeg 0) 34 0 b_.toNatClampNeg)) (mm_w hmm)) (cwV 7 hts (hd_gV g_Mod_send k_563 k_565 s_29 k_8) rfl rfl rfl (by decide +kernel) ⟨Nat.le_of_ble_eq_true rfl, Nat.le_of_ble_eq_true rfl⟩) (hd_preV hK hN hP 20 0 Nat.one_pos rfl rfl [.int 7, .int 4, .int r_, .int b_, .int 0, .int 0, .int (-1)]) rfl rfl hl.1 rfl (lv_room (Nat.le_of_ble_eq_true rfl)) d_Mod_atHome_181 ⟨Nat.zero_le _, Nat.zero_le _⟩) hS hA (fun H locs hP hS => ?_)
                  exact hd_vret hx hb hr hlk hK hN hP hS d_Mod_atHome_184 (by simp only [f_Mod_atHome]; rw [if_neg h1, if_neg h2, if_neg h3, if_pos h4, if_pos h15, if_neg h26, if_pos h29, if_neg h32])
                · refine lv_iconst (v := 0) hx hb d_Mod_atHome_161 (by decide) ?_
                  refine lv_goto (tgt := 171) hx hb d_Mod_atHome_162 (by decide) ?_
                  refine hd_iast hx hb hK hP hJ hA hS 34 0 0 Nat.one_pos (fun _ => rfl) rfl hb4 d_Mod_atHome_171 (fun H locs hP hS => ?_)
                  refine lv_aload_n hx hb d_Mod_atHome_172 rfl (lv_at hl 1 rfl) ?_
                  refine lv_bipush (v := 7) hx hb d_Mod_atHome_173 (by decide) ?_
                  refine lv_iconst (v := 4) hx hb d_Mod_atHome_175 (by decide) ?_
                  refine lv_iload_n hx hb d_Mod_atHome_176 rfl (lv_at hl 3 rfl) ?_
                  refine lv_iload_n hx hb d_Mod_atHome_177 rfl (lv_at hl 4 rfl) ?_
                  refine lv_iconst (v := 0) hx hb d_Mod_atHome_178 (by decide) ?_
                  refine lv_iconst (v := 0) hx hb d_Mod_atHome_179 (by decide) ?_
                  refine lv_iconst (v := -1) hx hb d_Mod_atHome_180 (by decide) ?_
                  refine hd_cV hK (va_runV (As := [.int 7, .int 4, .int r_, .int b_, .int 0, .int 0, .int (-1)]) (rest := []) ⟨hx, hb, hml, hown, hts⟩ (c_Mod_send l hJ 7 4 r_ b_ 0 0 (-1) (hd_u (hd_u v 36 0 ((4 * b_) + r_).toNatClampNeg 0) 34 0 b_.toNatClampNeg 0) (mm_w hmm)) (cwV 7 hts (hd_gV g_Mod_send k_563 k_565 s_29 k_8) rfl rfl rfl (by decide +kernel) ⟨Nat.le_of_ble_eq_true rfl, Nat.le_of_ble_eq_true rfl⟩) (hd_preV hK hN hP 20 0 Nat.one_pos rfl rfl [.int 7, .int 4, .int r_, .int b_, .int 0, .int 0, .int (-1)]) rfl rfl hl.1 rfl (lv_room (Nat.le_of_ble_eq_true rfl)) d_Mod_atHome_181 ⟨Nat.zero_le _, Nat.zero_le _⟩) hS hA (fun H locs hP hS => ?_)
                  exact hd_vret hx hb hr hlk hK hN hP hS d_Mod_atHome_184 (by simp only [f_Mod_atHome]; rw [if_neg h1, if_neg h2, if_neg h3, if_pos h4, if_pos h15, if_neg h26, if_pos h29, if_pos h32])
            · refine lv_iconst (v := 1) hx hb d_Mod_atHome_89 (by decide) ?_
              refine lv_goto (tgt := 94) hx hb d_Mod_atHome_90 (by decide) ?_
              refine lv_istore (lv' := [(5, .int 1), (0, .ref (ad 20 0)), (1, .int what_), (2, .int r_), (3, .int b_), (4, .int v_)]) hx hb d_Mod_atHome_94 hl (by decide) rfl (fun ls hl => ?_)
              refine lv_iload hx hb d_Mod_atHome_96 (lv_at hl 0 rfl) ?_
              refine lv_if_eq (tgt := 126) hx hb d_Mod_atHome_98 (by decide) (fun h37 => absurd h37 (by decide)) (fun h37 => ?_)
              refine lv_aload_n hx hb d_Mod_atHome_101 rfl (lv_at hl 1 rfl) ?_
              refine hd_get (C := R_Mod) (T := F_Mod) (N := 27) hx hb hts i_Mod hown hK hP 20 0 Nat.one_pos he_20 rfl 13 (by decide) (hts _ k_459) (fun _ h9 => h9) hv_20_13 d_Mod_atHome_102 ?_
              refine lv_iload_n hx hb d_Mod_atHome_105 rfl (lv_at hl 4 rfl) ?_
              refine lv_iload hx hb d_Mod_atHome_106 (lv_at hl 5 rfl) ?_
              refine hd_iast hx hb hK hP hJ hA hS 33 0 0 Nat.one_pos (fun _ => rfl) rfl hb4 d_Mod_atHome_108 (fun H locs hP hS => ?_)
              refine lv_aload_n hx hb d_Mod_atHome_109 rfl (lv_at hl 1 rfl) ?_
              refine hd_get (C := R_Mod) (T := F_Mod) (N := 27) hx hb hts i_Mod hown hK hP 20 0 Nat.one_pos he_20 rfl 15 (by decide) (hts _ k_461) (fun _ h9 => h9) hv_20_15 d_Mod_atHome_110 ?_
              refine lv_iload_n hx hb d_Mod_atHome_113 rfl (lv_at hl 4 rfl) ?_
              refine lv_iconst (v := -1) hx hb d_Mod_atHome_114 (by decide) ?_
              refine hd_iast hx hb hK hP hJ hA hS 35 0 0 Nat.one_pos (fun _ => rfl) rfl hb4 d_Mod_atHome_115 (fun H locs hP hS => ?_)
              refine lv_aload_n hx hb d_Mod_atHome_116 rfl (lv_at hl 1 rfl) ?_
              refine hd_get (C := R_Mod) (T := F_Mod) (N := 27) hx hb hts i_Mod hown hK hP 20 0 Nat.one_pos he_20 rfl 14 (by decide) (hts _ k_460) (fun _ h9 => h9) hv_20_14 d_Mod_atHome_117 ?_
              refine lv_iload_n hx hb d_Mod_atHome_120 rfl (lv_at hl 4 rfl) ?_
              refine lv_iconst (v := 0) hx hb d_Mod_atHome_121 (by decide) ?_
              refine hd_iast hx hb hK hP hJ hA hS 34 0 0 Nat.one_pos (fun _ => rfl) rfl hb4 d_Mod_atHome_122 (fun H locs hP hS => ?_)
              refine lv_goto (tgt := 172) hx hb d_Mod_atHome_123 (by decide) ?_
              refine lv_aload_n hx hb d_Mod_atHome_172 rfl (lv_at hl 1 rfl) ?_
              refine lv_bipush (v := 7) hx hb d_Mod_atHome_173 (by decide) ?_
              refine lv_iconst (v := 4) hx hb d_Mod_atHome_175 (by decide) ?_
              refine lv_iload_n hx hb d_Mod_atHome_176 rfl (lv_at hl 3 rfl) ?_
              refine lv_iload_n hx hb d_Mod_atHome_177 rfl (lv_at hl 4 rfl) ?_
              refine lv_iconst (v := 0) hx hb d_Mod_atHome_178 (by decide) ?_
              refine lv_iconst (v := 0) hx hb d_Mod_atHome_179 (by decide) ?_
              refine lv_iconst (v := -1) hx hb d_Mod_atHome_180 (by decide) ?_
              refine hd_cV hK (va_runV (As := [.int 7, .int 4, .int r_, .int b_, .int 0, .int 0, .int (-1)]) (rest := []) ⟨hx, hb, hml, hown, hts⟩ (c_Mod_send l hJ 7 4 r_ b_ 0 0 (-1) (hd_u (hd_u (hd_u v 33 0 b_.toNatClampNeg v_) 35 0 b_.toNatClampNeg (-1)) 34 0 b_.toNatClampNeg 0) (mm_w hmm)) (cwV 7 hts (hd_gV g_Mod_send k_563 k_565 s_29 k_8) rfl rfl rfl (by decide +kernel) ⟨Nat.le_of_ble_eq_true rfl, Nat.le_of_ble_eq_true rfl⟩) (hd_preV hK hN hP 20 0 Nat.one_pos rfl rfl [.int 7, .int 4, .int r_, .int b_, .int 0, .int 0, .int (-1)]) rfl rfl hl.1 rfl (lv_room (Nat.le_of_ble_eq_true rfl)) d_Mod_atHome_181 ⟨Nat.zero_le _, Nat.zero_le _⟩) hS hA (fun H locs hP hS => ?_)
              exact hd_vret hx hb hr hlk hK hN hP hS d_Mod_atHome_184 (by simp only [f_Mod_atHome]; rw [if_neg h1, if_neg h2, if_neg h3, if_pos h4, if_pos h15, if_pos h26])
      · refine lv_aload_n hx hb d_Mod_atHome_33 rfl (lv_at hl 0 rfl) ?_
        refine hd_get (C := R_Mod) (T := F_Mod) (N := 27) hx hb hts i_Mod hown hK hP 20 0 Nat.one_pos he_20 rfl 13 (by decide) (hts _ k_459) (fun _ h9 => h9) hv_20_13 d_Mod_atHome_34 ?_
        refine lv_iload_n hx hb d_Mod_atHome_37 rfl (lv_at hl 3 rfl) ?_
        refine lv_iload hx hb d_Mod_atHome_38 (lv_at hl 4 rfl) ?_
        refine hd_iast hx hb hK hP hJ hA hS 33 0 0 Nat.one_pos (fun _ => rfl) rfl hb4 d_Mod_atHome_40 (fun H locs hP hS => ?_)
        refine lv_aload_n hx hb d_Mod_atHome_41 rfl (lv_at hl 0 rfl) ?_
        refine hd_get (C := R_Mod) (T := F_Mod) (N := 27) hx hb hts i_Mod hown hK hP 20 0 Nat.one_pos he_20 rfl 14 (by decide) (hts _ k_460) (fun _ h9 => h9) hv_20_14 d_Mod_atHome_42 ?_
        refine lv_iload_n hx hb d_Mod_atHome_45 rfl (lv_at hl 3 rfl) ?_
        refine lv_aload_n hx hb d_Mod_atHome_46 rfl (lv_at hl 0 rfl) ?_
        refine lv_iload_n hx hb d_Mod_atHome_47 rfl (lv_at hl 3 rfl) ?_
        refine lv_iconst (v := -1) hx hb d_Mod_atHome_48 (by decide) ?_
        refine hd_cI hK (va_runV (As := [.int b_, .int (-1)]) (rest := [.int b_, .ref (ad 34 0)]) ⟨hx, hb, hml, hown, hts⟩ (c_Mod_sharers l hJ b_ (-1) (hd_u v 33 0 b_.toNatClampNeg v_) hb4) (cwV 2 hts (hd_gV g_Mod_sharers k_607 k_609 s_39 k_8) rfl rfl rfl (by decide +kernel) ⟨Nat.le_of_ble_eq_true rfl, Nat.le_of_ble_eq_true rfl⟩) (hd_preV hK hN hP 20 0 Nat.one_pos rfl rfl [.int b_, .int (-1)]) rfl rfl hl.1 rfl (lv_room (Nat.le_of_ble_eq_true rfl)) d_Mod_atHome_49 ⟨Nat.zero_le _, Nat.zero_le _⟩) hS hA (fun H locs hP hS => ?_)
        refine lv_if_ne (tgt := 59) hx hb d_Mod_atHome_52 (by decide) (fun h43 => ?_) (fun h43 => ?_)
        · refine lv_iconst (v := 1) hx hb d_Mod_atHome_59 (by decide) ?_
          refine hd_iast hx hb hK hP hJ hA hS 34 0 0 Nat.one_pos (fun _ => rfl) rfl hb4 d_Mod_atHome_60 (fun H locs hP hS => ?_)
          refine lv_goto (tgt := 184) hx hb d_Mod_atHome_61 (by decide) ?_
          exact hd_vret hx hb hr hlk hK hN hP hS d_Mod_atHome_184 (by simp only [f_Mod_atHome]; rw [if_neg h1, if_neg h2, if_pos h3, if_neg h43])
        · refine lv_iconst (v := 0) hx hb d_Mod_atHome_55 (by decide) ?_
          refine lv_goto (tgt := 60) hx hb d_Mod_atHome_56 (by decide) ?_
          refine hd_iast hx hb hK hP hJ hA hS 34 0 0 Nat.one_pos (fun _ => rfl) rfl hb4 d_Mod_atHome_60 (fun H locs hP hS => ?_)
          refine lv_goto (tgt := 184) hx hb d_Mod_atHome_61 (by decide) ?_
          exact hd_vret hx hb hr hlk hK hN hP hS d_Mod_atHome_184 (by simp only [f_Mod_atHome]; rw [if_neg h1, if_neg h2, if_pos h3, if_pos h43])
    · refine lv_aload_n hx hb d_Mod_atHome_18 rfl (lv_at hl 0 rfl) ?_
      refine lv_iload_n hx hb d_Mod_atHome_19 rfl (lv_at hl 2 rfl) ?_
      refine lv_iload_n hx hb d_Mod_atHome_20 rfl (lv_at hl 3 rfl) ?_
      refine hd_cV hK (va_runV (As := [.int r_, .int b_]) (rest := []) ⟨hx, hb, hml, hown, hts⟩ (c_Mod_getm l hJ r_ b_ v (hrq (by rw [h2]; decide)) hb4 hmm) (cwV 2 hts (hd_gV g_Mod_getm k_603 k_605 s_38 k_8) rfl rfl rfl (by decide +kernel) ⟨Nat.le_of_ble_eq_true rfl, Nat.le_of_ble_eq_true rfl⟩) (hd_preV hK hN hP 20 0 Nat.one_pos rfl rfl [.int r_, .int b_]) rfl rfl hl.1 rfl (lv_room (Nat.le_of_ble_eq_true rfl)) d_Mod_atHome_21 ⟨Nat.zero_le _, Nat.zero_le _⟩) hS hA (fun H locs hP hS => ?_)
      refine lv_goto (tgt := 184) hx hb d_Mod_atHome_24 (by decide) ?_
      exact hd_vret hx hb hr hlk hK hN hP hS d_Mod_atHome_184 (by simp only [f_Mod_atHome]; rw [if_neg h1, if_pos h2])
  · refine lv_aload_n hx hb d_Mod_atHome_4 rfl (lv_at hl 0 rfl) ?_
    refine lv_iload_n hx hb d_Mod_atHome_5 rfl (lv_at hl 2 rfl) ?_
    refine lv_iload_n hx hb d_Mod_atHome_6 rfl (lv_at hl 3 rfl) ?_
    refine hd_cV hK (va_runV (As := [.int r_, .int b_]) (rest := []) ⟨hx, hb, hml, hown, hts⟩ (c_Mod_gets l hJ r_ b_ v (hrq (by rw [h1]; decide)) hb4 how (mm_w hmm)) (cwV 2 hts (hd_gV g_Mod_gets k_595 k_597 s_36 k_8) rfl rfl rfl (by decide +kernel) ⟨Nat.le_of_ble_eq_true rfl, Nat.le_of_ble_eq_true rfl⟩) (hd_preV hK hN hP 20 0 Nat.one_pos rfl rfl [.int r_, .int b_]) rfl rfl hl.1 rfl (lv_room (Nat.le_of_ble_eq_true rfl)) d_Mod_atHome_7 ⟨Nat.zero_le _, Nat.zero_le _⟩) hS hA (fun H locs hP hS => ?_)
    refine lv_goto (tgt := 184) hx hb d_Mod_atHome_10 (by decide) ?_
    exact hd_vret hx hb hr hlk hK hN hP hS d_Mod_atHome_184 (by simp only [f_Mod_atHome]; rw [if_pos h1])
