def f_Net_isBehind_L18 (k_ : Int32) : Nat → Int32 → hd_V → Int32
  | 0, _, _ => 0
  | k + 1, y3, v =>
    if k_ ≤ y3 then
      0
    else
      if (f_Msg_isForward ((v 2 0 y3.toNatClampNeg).toNatClampNeg) v) = 0 then
        let x104 : Int32 := y3 + 1
        f_Net_isBehind_L18 k_ k x104 v
      else
        if (f_Msg_hasWayOf ((v 2 0 y3.toNatClampNeg).toNatClampNeg) ((v 2 0 k_.toNatClampNeg).toNatClampNeg) v) = 0 then
          let x106 : Int32 := y3 + 1
          f_Net_isBehind_L18 k_ k x106 v
        else
          1
def f_Net_isBehind (k_ : Int32) (v : hd_V) : Int32 :=
  if (f_Msg_isForward ((v 2 0 k_.toNatClampNeg).toNatClampNeg) v) = 0 then
    0
  else
    f_Net_isBehind_L18 k_ 33 0 v
set_option maxHeartbeats 4000000 in
set_option maxRecDepth 100000 in
theorem c_Net_isBehind (l : Launch) {D : va_G} {cI cZ cM cC : ClassId} {n : Nat} {ad : Nat → Nat → Nat} (hJ : hd_J (hx_L n) ad) (k_ : Int32) (v : hd_V) (hk : vp_in k_ 32) (hnet : hx_net v) : Met l y_Net_isBehind w_Net_isBehind { frames := 1, cells := 0, slots := 0, locals := 21 } (va_Pc [.ref (ad 1 0), .int k_] (hx_B D cI cZ cM cC n ad v)) (va_Qi (fun r u => r = f_Net_isBehind k_ v ∧ u = v) (fun u => hx_B D cI cZ cM cC n ad u) (hx_A n ad)) 0 0 (hx_A n ad) := by
  refine Met.ofW (cc := b_Net_isBehind) (maxL := 4) (ret := (some .boolean)) (by decide) rfl ?_
  intro p e s m args below meth c s₁ B hml hv
  obtain ⟨rfl, hP, hK, hN⟩ := hv
  have hx := B.exec
  have hb := B.bytes
  have hr := B.returns
  have hlk := B.notSynchronized
  have hts0 := atoms_spec (ws := w_Net_isBehind) B.pre
  have hts := fun w (hw : w ∈ lw_g) => hts0 w (List.mem_cons_of_mem _ hw)
  have hown : s.vm.findClass R_Net = some m.cls := findClass_of_methodNamed B.named
  have hA : ∀ q, hx_A n ad q → hx_A n ad q := fun _ h => h
  have hS : va_S (hx_A n ad) s.heap s.heap [] := va_S.rf
  have hl := lv_entry ([.ref (ad 1 0), .int k_]) (n := 4) (Nat.le_of_ble_eq_true rfl)
  rw [lg_entry_eq]
  generalize (lg_sl ([.ref (ad 1 0), .int k_]) ++ List.replicate (4 - (lg_sl ([.ref (ad 1 0), .int k_])).length) Slot.unset).toArray = ls at hl ⊢
  have hl : lv_has ls 4 [(0, .ref (ad 1 0)), (1, .int k_)] := hl
  have hk2 : k_ = nI k_.toNatClampNeg := hd_nI hk
  have hk3 : k_.toNatClampNeg < 32 := hd_lt hk
  have loop18 : ∀ (k i : Nat) (y3 : Int32), (i ≤ k_.toNatClampNeg) → (k_.toNatClampNeg < i + k) → (y3 = nI i) → f_Net_isBehind k_ v = f_Net_isBehind_L18 k_ k y3 v → ∀ (H : Heap) (locs : List Loc) (ls : Array Slot), hd_P D hx_cl (hx_L n) ad (hx_ce cI cZ cM cC n ad) v H → va_S (hx_A n ad) s.heap H locs → lv_has ls 4 [(3, .int y3), (2, .ref (ad 3 ((v 2 0 k_.toNatClampNeg).toNatClampNeg))), (0, .ref (ad 1 0)), (1, .int k_)] → W p l e (headSpec w_Net_isBehind { frames := 1, cells := 0, slots := 0, locals := 21 }).room s m [.ref (ad 1 0), .int k_].toArray below meth c H locs 0 0 (MQ below (va_Qi (fun r u => r = f_Net_isBehind k_ v ∧ u = v) (fun u => hx_B D cI cZ cM cC n ad u) (hx_A n ad)) [.ref (ad 1 0), .int k_].toArray s 0 0 (hx_A n ad)) (F0 m 18 ls []) := by
    intro k
    induction k with
    | zero =>
      intro i y3 hi1 hi2 hi3
      exact absurd hi2 (by omega)
    | succ k ih =>
      intro i y3 hi1 hi2 hi3 hf H locs ls hP hS hl
      refine lv_iload_n hx hb d_Net_isBehind_18 rfl (lv_at hl 0 rfl) ?_
      refine lv_iload_n hx hb d_Net_isBehind_19 rfl (lv_at hl 3 rfl) ?_
      refine lv_icmp_ge (tgt := 56) hx hb d_Net_isBehind_20 (by decide) (fun h102 => ?_) (fun h102 => ?_)
      · refine lv_iconst (v := 0) hx hb d_Net_isBehind_56 (by decide) ?_
        exact hd_zret hx hb hr hlk hK hN hP hS d_Net_isBehind_57 rfl ⟨by rw [hf]; simp only [f_Net_isBehind_L18]; rw [if_pos h102], rfl⟩
      · have hlt : i < k_.toNatClampNeg := hd_lp hi3 hk2 (by omega) h102
        have hin : vp_in y3 32 := hd_lpin hi3 (by omega) (by omega)
        refine lv_aload_n hx hb d_Net_isBehind_23 rfl (lv_at hl 2 rfl) ?_
        refine hd_get (C := R_Net) (T := F_Net) (N := 3) hx hb hts i_Net hown hK hP 1 0 Nat.one_pos rfl rfl 0 (by decide) (hts _ k_76) (fun _ h9 => h9) rfl d_Net_isBehind_24 ?_
        refine lv_iload_n hx hb d_Net_isBehind_27 rfl (lv_at hl 0 rfl) ?_
        refine hd_aald hx hb hK hP 2 0 2 Nat.one_pos rfl rfl hin rfl d_Net_isBehind_28 ?_
        refine hd_cI hK (va_runV (As := []) (rest := []) ⟨hx, hb, hml, hown, hts⟩ (c_Msg_isForward l hJ ((v 2 0 y3.toNatClampNeg).toNatClampNeg) v (hnet.2 _ (hd_lt hin))) (cwV 0 hts (hd_gV g_Msg_isForward k_273 k_274 k_275 k_4) rfl rfl rfl (by decide +kernel) ⟨Nat.le_of_ble_eq_true rfl, Nat.le_of_ble_eq_true rfl⟩) (hd_preV hK hN hP 3 ((v 2 0 y3.toNatClampNeg).toNatClampNeg) (hnet.2 _ (hd_lt hin)) rfl rfl []) rfl rfl hl.1 rfl (lv_room (Nat.le_of_ble_eq_true rfl)) d_Net_isBehind_29 ⟨Nat.zero_le _, Nat.zero_le _⟩) hS hA (fun H locs hP hS => ?_)
        refine lv_if_eq (tgt := 50) hx hb d_Net_isBehind_32 (by decide) (fun h103 => ?_) (fun h103 => ?_)
        · obtain ⟨x104, ex104⟩ : ∃ y : Int32, y = y3 + 1 := ⟨_, rfl⟩
          refine lv_iinc (v := x104) (lv' := [(3, .int x104), (2, .ref (ad 3 ((v 2 0 k_.toNatClampNeg).toNatClampNeg))), (0, .ref (ad 1 0)), (1, .int k_)]) hx hb d_Net_isBehind_50 hl (k := 0) rfl (by rw [ex104]; rfl) (by decide) rfl (fun ls hl => ?_)
          refine lv_goto (tgt := 18) hx hb d_Net_isBehind_53 (by decide) ?_
          exact ih (i + 1) x104 hlt (by omega) (by rw [ex104, hi3]; exact nI_1 i) (by rw [hf]; subst ex104; simp only [f_Net_isBehind_L18]; rw [if_neg h102, if_pos h103]) _ _ _ hP hS (lv_sub hl [0, 1, 2, 3] rfl)
        · refine lv_aload_n hx hb d_Net_isBehind_35 rfl (lv_at hl 2 rfl) ?_
          refine hd_get (C := R_Net) (T := F_Net) (N := 3) hx hb hts i_Net hown hK hP 1 0 Nat.one_pos rfl rfl 0 (by decide) (hts _ k_76) (fun _ h9 => h9) rfl d_Net_isBehind_36 ?_
          refine lv_iload_n hx hb d_Net_isBehind_39 rfl (lv_at hl 0 rfl) ?_
          refine hd_aald hx hb hK hP 2 0 2 Nat.one_pos rfl rfl hin rfl d_Net_isBehind_40 ?_
          refine lv_aload_n hx hb d_Net_isBehind_41 rfl (lv_at hl 1 rfl) ?_
          refine hd_cI hK (va_runV (As := [.ref (ad 3 ((v 2 0 k_.toNatClampNeg).toNatClampNeg))]) (rest := []) ⟨hx, hb, hml, hown, hts⟩ (c_Msg_hasWayOf l hJ ((v 2 0 y3.toNatClampNeg).toNatClampNeg) ((v 2 0 k_.toNatClampNeg).toNatClampNeg) v (hnet.2 _ (hd_lt hin)) (hnet.2 _ (hd_lt hk))) (cwV 1 hts (hd_gV g_Msg_hasWayOf k_277 k_278 k_279 k_4) rfl rfl rfl (by decide +kernel) ⟨Nat.le_of_ble_eq_true rfl, Nat.le_of_ble_eq_true rfl⟩) (hd_preV hK hN hP 3 ((v 2 0 y3.toNatClampNeg).toNatClampNeg) (hnet.2 _ (hd_lt hin)) rfl rfl [.ref (ad 3 ((v 2 0 k_.toNatClampNeg).toNatClampNeg))]) rfl rfl hl.1 rfl (lv_room (Nat.le_of_ble_eq_true rfl)) d_Net_isBehind_42 ⟨Nat.zero_le _, Nat.zero_le _⟩) hS hA (fun H locs hP hS => ?_)
          refine lv_if_eq (tgt := 50) hx hb d_Net_isBehind_45 (by decide) (fun h105 => ?_) (fun h105 => ?_)
          · obtain ⟨x106, ex106⟩ : ∃ y : Int32, y = y3 + 1 := ⟨_, rfl⟩
            refine lv_iinc (v := x106) (lv' := [(3, .int x106), (2, .ref (ad 3 ((v 2 0 k_.toNatClampNeg).toNatClampNeg))), (0, .ref (ad 1 0)), (1, .int k_)]) hx hb d_Net_isBehind_50 hl (k := 0) rfl (by rw [ex106]; rfl) (by decide) rfl (fun ls hl => ?_)
            refine lv_goto (tgt := 18) hx hb d_Net_isBehind_53 (by decide) ?_
            exact ih (i + 1) x106 hlt (by omega) (by rw [ex106, hi3]; exact nI_1 i) (by rw [hf]; subst ex106; simp only [f_Net_isBehind_L18]; rw [if_neg h102, if_neg h103, if_pos h105]) _ _ _ hP hS (lv_sub hl [0, 1, 2, 3] rfl)
          · refine lv_iconst (v := 1) hx hb d_Net_isBehind_48 (by decide) ?_
            exact hd_zret hx hb hr hlk hK hN hP hS d_Net_isBehind_49 rfl ⟨by rw [hf]; simp only [f_Net_isBehind_L18]; rw [if_neg h102, if_neg h103, if_neg h105], rfl⟩
  refine lv_aload_n hx hb d_Net_isBehind_0 rfl (lv_at hl 0 rfl) ?_
  refine hd_get (C := R_Net) (T := F_Net) (N := 3) hx hb hts i_Net hown hK hP 1 0 Nat.one_pos rfl rfl 0 (by decide) (hts _ k_76) (fun _ h9 => h9) rfl d_Net_isBehind_1 ?_
  refine lv_iload_n hx hb d_Net_isBehind_4 rfl (lv_at hl 1 rfl) ?_
  refine hd_aald hx hb hK hP 2 0 2 Nat.one_pos rfl rfl hk rfl d_Net_isBehind_5 ?_
  refine lv_astore_n (lv' := [(2, .ref (ad 3 ((v 2 0 k_.toNatClampNeg).toNatClampNeg))), (0, .ref (ad 1 0)), (1, .int k_)]) hx hb d_Net_isBehind_6 rfl hl (by decide) rfl (fun ls hl => ?_)
  refine lv_aload_n hx hb d_Net_isBehind_7 rfl (lv_at hl 0 rfl) ?_
  refine hd_cI hK (va_runV (As := []) (rest := []) ⟨hx, hb, hml, hown, hts⟩ (c_Msg_isForward l hJ ((v 2 0 k_.toNatClampNeg).toNatClampNeg) v (hnet.2 _ (hd_lt hk))) (cwV 0 hts (hd_gV g_Msg_isForward k_273 k_274 k_275 k_4) rfl rfl rfl (by decide +kernel) ⟨Nat.le_of_ble_eq_true rfl, Nat.le_of_ble_eq_true rfl⟩) (hd_preV hK hN hP 3 ((v 2 0 k_.toNatClampNeg).toNatClampNeg) (hnet.2 _ (hd_lt hk)) rfl rfl []) rfl rfl hl.1 rfl (lv_room (Nat.le_of_ble_eq_true rfl)) d_Net_isBehind_8 ⟨Nat.zero_le _, Nat.zero_le _⟩) hS hA (fun H locs hP hS => ?_)
  refine lv_if_ne (tgt := 16) hx hb d_Net_isBehind_11 (by decide) (fun h1 => ?_) (fun h1 => ?_)
  · refine lv_iconst (v := 0) hx hb d_Net_isBehind_16 (by decide) ?_
    refine lv_istore_n (lv' := [(3, .int 0), (2, .ref (ad 3 ((v 2 0 k_.toNatClampNeg).toNatClampNeg))), (0, .ref (ad 1 0)), (1, .int k_)]) hx hb d_Net_isBehind_17 rfl hl (by decide) rfl (fun ls hl => ?_)
    exact loop18 33 0 0 (by omega) (by omega) nI_0.symm (by simp only [f_Net_isBehind]; rw [if_neg h1]) _ _ _ hP hS (lv_sub hl [0, 1, 2, 3] rfl)
  · refine lv_iconst (v := 0) hx hb d_Net_isBehind_14 (by decide) ?_
    exact hd_zret hx hb hr hlk hK hN hP hS d_Net_isBehind_15 rfl ⟨by simp only [f_Net_isBehind]; rw [if_pos h1], rfl⟩
def f_Net_takeOut_L19 (k_ gone_ : Int32) : Nat → Int32 → hd_V → hd_V
  | 0, _, w => w
  | k + 1, y3, w =>
    if (w 1 0 1) ≤ y3 then
      let v103 := hd_u w 2 0 (w 1 0 1).toNatClampNeg gone_
      v103
    else
      let v104 := hd_u w 2 0 y3.toNatClampNeg (w 2 0 (y3 + 1).toNatClampNeg)
      let x105 : Int32 := y3 + 1
      f_Net_takeOut_L19 k_ gone_ k x105 v104
def f_Net_takeOut (k_ : Int32) (v : hd_V) : hd_V :=
  let v1 := hd_u v 1 0 1 ((v 1 0 1) - 1)
  f_Net_takeOut_L19 k_ (v 2 0 k_.toNatClampNeg) 33 k_ v1
set_option maxHeartbeats 4000000 in
set_option maxRecDepth 100000 in
theorem c_Net_takeOut (l : Launch) {D : va_G} {cI cZ cM cC : ClassId} {n : Nat} {ad : Nat → Nat → Nat} (hJ : hd_J (hx_L n) ad) (k_ : Int32) (v : hd_V) (hk : vp_in k_ 32) (hct : k_ < v 1 0 1) (hct2 : (v 1 0 1).toInt ≤ 32) (hnet : hx_net v) : Met l y_Net_takeOut w_Net_takeOut { frames := 0, cells := 0, slots := 0, locals := 0 } (va_Pc [.ref (ad 1 0), .int k_] (hx_B D cI cZ cM cC n ad v)) (va_Qv (fun u => u = f_Net_takeOut k_ v) (fun u => hx_B D cI cZ cM cC n ad u) (hx_A n ad)) 0 0 (hx_A n ad) := by
  refine Met.ofW (cc := b_Net_takeOut) (maxL := 4) (ret := none) (by decide) rfl ?_
  intro p e s m args below meth c s₁ B hml hv
  obtain ⟨rfl, hP, hK, hN⟩ := hv
  have hx := B.exec
  have hb := B.bytes
  have hr := B.returns
  have hlk := B.notSynchronized
  have hts0 := atoms_spec (ws := w_Net_takeOut) B.pre
  have hts := fun w (hw : w ∈ lw_g) => hts0 w (List.mem_cons_of_mem _ hw)
  have hown : s.vm.findClass R_Net = some m.cls := findClass_of_methodNamed B.named
  have hA : ∀ q, hx_A n ad q → hx_A n ad q := fun _ h => h
  have hS : va_S (hx_A n ad) s.heap s.heap [] := va_S.rf
  have hl := lv_entry ([.ref (ad 1 0), .int k_]) (n := 4) (Nat.le_of_ble_eq_true rfl)
  rw [lg_entry_eq]
  generalize (lg_sl ([.ref (ad 1 0), .int k_]) ++ List.replicate (4 - (lg_sl ([.ref (ad 1 0), .int k_])).length) Slot.unset).toArray = ls at hl ⊢
  have hl : lv_has ls 4 [(0, .ref (ad 1 0)), (1, .int k_)] := hl
  have hk2 : k_ = nI k_.toNatClampNeg := hd_nI hk
  have hk3 : k_.toNatClampNeg < 32 := hd_lt hk
  obtain ⟨hc2, hkc⟩ := hd_dec hk hct hct2
  have hc3 := hd_lt hc2
  obtain ⟨cc_, hcc⟩ : ∃ z, z = (v 1 0 1 - 1).toNatClampNeg := ⟨_, rfl⟩
  rw [← hcc] at hkc hc3
  have loop19 : ∀ (k i : Nat) (y3 : Int32) (w : hd_V), (i ≤ cc_) → (cc_ < i + k) → (y3 = nI i) → (w 1 0 1 = nI cc_) → (∀ q, q < 32 → (w 2 0 q).toNatClampNeg < 32) → f_Net_takeOut k_ v = f_Net_takeOut_L19 k_ (v 2 0 k_.toNatClampNeg) k y3 w → ∀ (H : Heap) (locs : List Loc) (ls : Array Slot), hd_P D hx_cl (hx_L n) ad (hx_ce cI cZ cM cC n ad) w H → va_S (hx_A n ad) s.heap H locs → lv_has ls 4 [(3, .int y3), (0, .ref (ad 1 0)), (1, .int k_), (2, .ref (ad 3 ((v 2 0 k_.toNatClampNeg).toNatClampNeg)))] → W p l e (headSpec w_Net_takeOut { frames := 0, cells := 0, slots := 0, locals := 0 }).room s m [.ref (ad 1 0), .int k_].toArray below meth c H locs 0 0 (MQ below (va_Qv (fun u => u = f_Net_takeOut k_ v) (fun u => hx_B D cI cZ cM cC n ad u) (hx_A n ad)) [.ref (ad 1 0), .int k_].toArray s 0 0 (hx_A n ad)) (F0 m 19 ls []) := by
    intro k
    induction k with
    | zero =>
      intro i y3 w hi1 hi2 hi3 hcw hs
      exact absurd hi2 (by omega)
    | succ k ih =>
      intro i y3 w hi1 hi2 hi3 hcw hs hf H locs ls hP hS hl
      refine lv_iload_n hx hb d_Net_takeOut_19 rfl (lv_at hl 0 rfl) ?_
      refine lv_aload_n hx hb d_Net_takeOut_20 rfl (lv_at hl 1 rfl) ?_
      refine hd_get (C := R_Net) (T := F_Net) (N := 3) hx hb hts i_Net hown hK hP 1 0 Nat.one_pos rfl rfl 1 (by decide) (hts _ k_77) (fun _ h9 => h9) rfl d_Net_takeOut_21 ?_
      refine lv_icmp_ge (tgt := 47) hx hb d_Net_takeOut_24 (by decide) (fun h102 => ?_) (fun h102 => ?_)
      · refine lv_aload_n hx hb d_Net_takeOut_47 rfl (lv_at hl 1 rfl) ?_
        refine hd_get (C := R_Net) (T := F_Net) (N := 3) hx hb hts i_Net hown hK hP 1 0 Nat.one_pos rfl rfl 0 (by decide) (hts _ k_76) (fun _ h9 => h9) rfl d_Net_takeOut_48 ?_
        refine lv_aload_n hx hb d_Net_takeOut_51 rfl (lv_at hl 1 rfl) ?_
        refine hd_get (C := R_Net) (T := F_Net) (N := 3) hx hb hts i_Net hown hK hP 1 0 Nat.one_pos rfl rfl 1 (by decide) (hts _ k_77) (fun _ h9 => h9) rfl d_Net_takeOut_52 ?_
        refine lv_aload_n hx hb d_Net_takeOut_55 rfl (lv_at hl 3 rfl) ?_
        refine hd_aast hx hb hK hP hJ hA hS 2 0 2 3 ((v 2 0 k_.toNatClampNeg).toNatClampNeg) 0 Nat.one_pos (hnet.2 _ (hd_lt hk)) (fun _ => rfl) rfl rfl rfl (x := (v 2 0 k_.toNatClampNeg)) rfl (by rw [hcw]; exact vp_in_nI hc3 (by decide)) d_Net_takeOut_56 (fun H locs hP hS => ?_)
        exact hd_vret hx hb hr hlk hK hN hP hS d_Net_takeOut_57 (by rw [hf]; simp only [f_Net_takeOut_L19]; rw [if_pos h102])
      · have hlt : i < cc_ := hd_lp hi3 hcw (by omega) h102
        have hin : vp_in y3 32 := hd_lpin hi3 (by omega) (by decide)
        have hin1 : vp_in (y3 + 1) 32 := hd_lpin (show y3 + 1 = nI (i + 1) by rw [hi3]; exact nI_1 i) (by omega) (by decide)
        refine lv_aload_n hx hb d_Net_takeOut_27 rfl (lv_at hl 1 rfl) ?_
        refine hd_get (C := R_Net) (T := F_Net) (N := 3) hx hb hts i_Net hown hK hP 1 0 Nat.one_pos rfl rfl 0 (by decide) (hts _ k_76) (fun _ h9 => h9) rfl d_Net_takeOut_28 ?_
        refine lv_iload_n hx hb d_Net_takeOut_31 rfl (lv_at hl 0 rfl) ?_
        refine lv_aload_n hx hb d_Net_takeOut_32 rfl (lv_at hl 1 rfl) ?_
        refine hd_get (C := R_Net) (T := F_Net) (N := 3) hx hb hts i_Net hown hK hP 1 0 Nat.one_pos rfl rfl 0 (by decide) (hts _ k_76) (fun _ h9 => h9) rfl d_Net_takeOut_33 ?_
        refine lv_iload_n hx hb d_Net_takeOut_36 rfl (lv_at hl 0 rfl) ?_
        refine lv_iconst (v := 1) hx hb d_Net_takeOut_37 (by decide) ?_
        refine lv_iadd hx hb d_Net_takeOut_38 ?_
        refine hd_aald hx hb hK hP 2 0 2 Nat.one_pos rfl rfl hin1 rfl d_Net_takeOut_39 ?_
        refine hd_aast hx hb hK hP hJ hA hS 2 0 2 3 ((w 2 0 (y3 + 1).toNatClampNeg).toNatClampNeg) 0 Nat.one_pos (hs _ (hd_lt hin1)) (fun _ => rfl) rfl rfl rfl (x := (w 2 0 (y3 + 1).toNatClampNeg)) rfl hin d_Net_takeOut_40 (fun H locs hP hS => ?_)
        obtain ⟨x105, ex105⟩ : ∃ y : Int32, y = y3 + 1 := ⟨_, rfl⟩
        refine lv_iinc (v := x105) (lv' := [(3, .int x105), (0, .ref (ad 1 0)), (1, .int k_), (2, .ref (ad 3 ((v 2 0 k_.toNatClampNeg).toNatClampNeg)))]) hx hb d_Net_takeOut_41 hl (k := 0) rfl (by rw [ex105]; rfl) (by decide) rfl (fun ls hl => ?_)
        refine lv_goto (tgt := 19) hx hb d_Net_takeOut_44 (by decide) ?_
        exact ih (i + 1) x105 (hd_u w 2 0 y3.toNatClampNeg (w 2 0 (y3 + 1).toNatClampNeg)) hlt (by omega) (by rw [ex105, hi3]; exact nI_1 i) hcw (hd_slots hs (hs _ (hd_lt hin1))) (by rw [hf]; subst ex105; simp only [f_Net_takeOut_L19]; rw [if_neg h102]) _ _ _ hP hS (lv_sub hl [0, 1, 2, 3] rfl)
  refine lv_aload_n hx hb d_Net_takeOut_0 rfl (lv_at hl 0 rfl) ?_
  refine hd_get (C := R_Net) (T := F_Net) (N := 3) hx hb hts i_Net hown hK hP 1 0 Nat.one_pos rfl rfl 0 (by decide) (hts _ k_76) (fun _ h9 => h9) rfl d_Net_takeOut_1 ?_
  refine lv_iload_n hx hb d_Net_takeOut_4 rfl (lv_at hl 1 rfl) ?_
  refine hd_aald hx hb hK hP 2 0 2 Nat.one_pos rfl rfl hk rfl d_Net_takeOut_5 ?_
  refine lv_astore_n (lv' := [(2, .ref (ad 3 ((v 2 0 k_.toNatClampNeg).toNatClampNeg))), (0, .ref (ad 1 0)), (1, .int k_)]) hx hb d_Net_takeOut_6 rfl hl (by decide) rfl (fun ls hl => ?_)
  refine lv_aload_n hx hb d_Net_takeOut_7 rfl (lv_at hl 1 rfl) ?_
  refine lv_dup hx hb d_Net_takeOut_8 rfl ?_
  refine hd_get (C := R_Net) (T := F_Net) (N := 3) hx hb hts i_Net hown hK hP 1 0 Nat.one_pos rfl rfl 1 (by decide) (hts _ k_77) (fun _ h9 => h9) rfl d_Net_takeOut_9 ?_
  refine lv_iconst (v := 1) hx hb d_Net_takeOut_12 (by decide) ?_
  refine lv_isub hx hb d_Net_takeOut_13 ?_
  refine hd_put (ty := .int) (C := R_Net) (T := F_Net) (N := 3) hx hb hts i_Net t_Net t_Net_ok n_Net hown hK hP hJ hA hS 1 0 Nat.one_pos rfl rfl 1 (by decide) (hts _ k_77) (fun _ h9 => h9) rfl (by decide +kernel) rfl rfl (Nat.le_of_ble_eq_true rfl) rfl d_Net_takeOut_14 (fun H locs hP hS => ?_)
  refine lv_iload_n hx hb d_Net_takeOut_17 rfl (lv_at hl 2 rfl) ?_
  refine lv_istore_n (lv' := [(3, .int k_), (2, .ref (ad 3 ((v 2 0 k_.toNatClampNeg).toNatClampNeg))), (0, .ref (ad 1 0)), (1, .int k_)]) hx hb d_Net_takeOut_18 rfl hl (by decide) rfl (fun ls hl => ?_)
  exact loop19 33 k_.toNatClampNeg k_ (hd_u v 1 0 1 ((v 1 0 1) - 1)) (by omega) (by omega) hk2 (by rw [hd_us, hcc]; exact hd_nI hc2) hnet.2 (by simp only [f_Net_takeOut]) _ _ _ hP hS (lv_sub hl [0, 2, 3, 1] rfl)
