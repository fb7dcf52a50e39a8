def f_HD_messages (v : hd_V) : Int32 :=
  v 1 0 1
set_option maxHeartbeats 4000000 in
set_option maxRecDepth 100000 in
theorem c_HD_messages (l : Launch) {D : va_G} {cI cZ cM cC : ClassId} {n : Nat} {ad : Nat → Nat → Nat} (hJ : hd_J (hx_L n) ad) (v : hd_V) : Met l y_HD_messages w_HD_messages { frames := 0, cells := 0, slots := 0, locals := 0 } (va_Pc [.ref (ad 0 0)] (hx_B D cI cZ cM cC n ad v)) (va_Qi (fun r u => r = f_HD_messages v ∧ u = v) (fun u => hx_B D cI cZ cM cC n ad u) (hx_A n ad)) 0 0 (hx_A n ad) := by
  refine Met.ofW (cc := b_HD_messages) (maxL := 1) (ret := (some .int)) (by decide) rfl ?_
  intro p e s m args below meth c s₁ B hml hv
  obtain ⟨rfl, hP, hK, hN⟩ := hv
  have hx := B.exec
  have hb := B.bytes
  have hr := B.returns
  have hlk := B.notSynchronized
  have hts0 := atoms_spec (ws := w_HD_messages) B.pre
  have hts := fun w (hw : w ∈ lw_g) => hts0 w (List.mem_cons_of_mem _ hw)
  have hown : s.vm.findClass R_HD = some m.cls := findClass_of_methodNamed B.named
  have hA : ∀ q, hx_A n ad q → hx_A n ad q := fun _ h => h
  have hS : va_S (hx_A n ad) s.heap s.heap [] := va_S.rf
  have hl := lv_entry ([.ref (ad 0 0)]) (n := 1) (Nat.le_of_ble_eq_true rfl)
  rw [lg_entry_eq]
  generalize (lg_sl ([.ref (ad 0 0)]) ++ List.replicate (1 - (lg_sl ([.ref (ad 0 0)])).length) Slot.unset).toArray = ls at hl ⊢
  have hl : lv_has ls 1 [(0, .ref (ad 0 0))] := hl
  refine lv_aload_n hx hb d_HD_messages_0 rfl (lv_at hl 0 rfl) ?_
  refine hd_get (C := R_HD) (T := F_HD) (N := 3) hx hb hts i_HD hown hK hP 0 0 Nat.one_pos rfl rfl 0 (by decide) (hts _ k_170) (fun _ h9 => h9) rfl d_HD_messages_1 ?_
  refine hd_getN (C := R_Net) (T := F_Net) (N := 3) hx hb hts i_Net hown hK hP 1 0 Nat.one_pos rfl rfl 1 (by decide) (hN.use k_78) (fun _ h9 => h9) rfl d_HD_messages_4 ?_
  exact hd_iret hx hb hr hlk hK hN hP hS d_HD_messages_7 ⟨by simp only [f_HD_messages], rfl⟩
def f_HD_sent (v : hd_V) : Int32 :=
  v 1 0 2
set_option maxHeartbeats 4000000 in
set_option maxRecDepth 100000 in
theorem c_HD_sent (l : Launch) {D : va_G} {cI cZ cM cC : ClassId} {n : Nat} {ad : Nat → Nat → Nat} (hJ : hd_J (hx_L n) ad) (v : hd_V) : Met l y_HD_sent w_HD_sent { frames := 0, cells := 0, slots := 0, locals := 0 } (va_Pc [.ref (ad 0 0)] (hx_B D cI cZ cM cC n ad v)) (va_Qi (fun r u => r = f_HD_sent v ∧ u = v) (fun u => hx_B D cI cZ cM cC n ad u) (hx_A n ad)) 0 0 (hx_A n ad) := by
  refine Met.ofW (cc := b_HD_sent) (maxL := 1) (ret := (some .int)) (by decide) rfl ?_
  intro p e s m args below meth c s₁ B hml hv
  obtain ⟨rfl, hP, hK, hN⟩ := hv
  have hx := B.exec
  have hb := B.bytes
  have hr := B.returns
  have hlk := B.notSynchronized
  have hts0 := atoms_spec (ws := w_HD_sent) B.pre
  have hts := fun w (hw : w ∈ lw_g) => hts0 w (List.mem_cons_of_mem _ hw)
  have hown : s.vm.findClass R_HD = some m.cls := findClass_of_methodNamed B.named
  have hA : ∀ q, hx_A n ad q → hx_A n ad q := fun _ h => h
  have hS : va_S (hx_A n ad) s.heap s.heap [] := va_S.rf
  have hl := lv_entry ([.ref (ad 0 0)]) (n := 1) (Nat.le_of_ble_eq_true rfl)
  rw [lg_entry_eq]
  generalize (lg_sl ([.ref (ad 0 0)]) ++ List.replicate (1 - (lg_sl ([.ref (ad 0 0)])).length) Slot.unset).toArray = ls at hl ⊢
  have hl : lv_has ls 1 [(0, .ref (ad 0 0))] := hl
  refine lv_aload_n hx hb d_HD_sent_0 rfl (lv_at hl 0 rfl) ?_
  refine hd_get (C := R_HD) (T := F_HD) (N := 3) hx hb hts i_HD hown hK hP 0 0 Nat.one_pos rfl rfl 0 (by decide) (hts _ k_170) (fun _ h9 => h9) rfl d_HD_sent_1 ?_
  refine hd_getN (C := R_Net) (T := F_Net) (N := 3) hx hb hts i_Net hown hK hP 1 0 Nat.one_pos rfl rfl 2 (by decide) (hN.use k_80) (fun _ h9 => h9) rfl d_HD_sent_4 ?_
  exact hd_iret hx hb hr hlk hK hN hP hS d_HD_sent_7 ⟨by simp only [f_HD_sent], rfl⟩
def f_HD_message (k_ : Int32) (what_ : Int32) (v : hd_V) : Int32 :=
  if (f_Net_has k_ v) = 0 then
    (-1)
  else
    f_Msg_part ((v 2 0 k_.toNatClampNeg).toNatClampNeg) what_ v
set_option maxHeartbeats 4000000 in
set_option maxRecDepth 100000 in
theorem c_HD_message (l : Launch) {D : va_G} {cI cZ cM cC : ClassId} {n : Nat} {ad : Nat → Nat → Nat} (hJ : hd_J (hx_L n) ad) (k_ : Int32) (what_ : Int32) (v : hd_V) (hnet : hx_net v) (hct2 : (v 1 0 1).toInt ≤ 32) : Met l y_HD_message w_HD_message { frames := 1, cells := 0, slots := 0, locals := 21 } (va_Pc [.ref (ad 0 0), .int k_, .int what_] (hx_B D cI cZ cM cC n ad v)) (va_Qi (fun r u => r = f_HD_message k_ what_ v ∧ u = v) (fun u => hx_B D cI cZ cM cC n ad u) (hx_A n ad)) 0 0 (hx_A n ad) := by
  refine Met.ofW (cc := b_HD_message) (maxL := 3) (ret := (some .int)) (by decide) rfl ?_
  intro p e s m args below meth c s₁ B hml hv
  obtain ⟨rfl, hP, hK, hN⟩ := hv
  have hx := B.exec
  have hb := B.bytes
  have hr := B.returns
  have hlk := B.notSynchronized
  have hts0 := atoms_spec (ws := w_HD_message) B.pre
  have hts := fun w (hw : w ∈ lw_g) => hts0 w (List.mem_cons_of_mem _ hw)
  have hown : s.vm.findClass R_HD = some m.cls := findClass_of_methodNamed B.named
  have hA : ∀ q, hx_A n ad q → hx_A n ad q := fun _ h => h
  have hS : va_S (hx_A n ad) s.heap s.heap [] := va_S.rf
  have hl := lv_entry ([.ref (ad 0 0), .int k_, .int what_]) (n := 3) (Nat.le_of_ble_eq_true rfl)
  rw [lg_entry_eq]
  generalize (lg_sl ([.ref (ad 0 0), .int k_, .int what_]) ++ List.replicate (3 - (lg_sl ([.ref (ad 0 0), .int k_, .int what_])).length) Slot.unset).toArray = ls at hl ⊢
  have hl : lv_has ls 3 [(0, .ref (ad 0 0)), (1, .int k_), (2, .int what_)] := hl
  refine lv_aload_n hx hb d_HD_message_0 rfl (lv_at hl 0 rfl) ?_
  refine hd_get (C := R_HD) (T := F_HD) (N := 3) hx hb hts i_HD hown hK hP 0 0 Nat.one_pos rfl rfl 0 (by decide) (hts _ k_170) (fun _ h9 => h9) rfl d_HD_message_1 ?_
  refine lv_iload_n hx hb d_HD_message_4 rfl (lv_at hl 1 rfl) ?_
  refine hd_cI hK (va_runV (As := [.int k_]) (rest := []) ⟨hx, hb, hml, hown, hts⟩ (c_Net_has l hJ k_ v ) (cwV 1 hts (hd_gV g_Net_has k_265 k_266 k_267 k_3) rfl rfl rfl (by decide +kernel) ⟨Nat.le_of_ble_eq_true rfl, Nat.le_of_ble_eq_true rfl⟩) (hd_preV hK hN hP 1 0 Nat.one_pos rfl rfl [.int k_]) rfl rfl hl.1 rfl (lv_room (Nat.le_of_ble_eq_true rfl)) d_HD_message_5 ⟨Nat.zero_le _, Nat.zero_le _⟩) hS hA (fun H locs hP hS => ?_)
  refine lv_if_eq (tgt := 26) hx hb d_HD_message_8 (by decide) (fun h1 => ?_) (fun h1 => ?_)
  · refine lv_iconst (v := -1) hx hb d_HD_message_26 (by decide) ?_
    exact hd_iret hx hb hr hlk hK hN hP hS d_HD_message_27 ⟨by simp only [f_HD_message]; rw [if_pos h1], rfl⟩
  · have hhsh1 := in_Net_has hnet.1 hct2 h1
    refine lv_aload_n hx hb d_HD_message_11 rfl (lv_at hl 0 rfl) ?_
    refine hd_get (C := R_HD) (T := F_HD) (N := 3) hx hb hts i_HD hown hK hP 0 0 Nat.one_pos rfl rfl 0 (by decide) (hts _ k_170) (fun _ h9 => h9) rfl d_HD_message_12 ?_
    refine lv_iload_n hx hb d_HD_message_15 rfl (lv_at hl 1 rfl) ?_
    refine hd_cR hK (va_runV (As := [.int k_]) (rest := []) ⟨hx, hb, hml, hown, hts⟩ (c_Net_at l hJ k_ v hhsh1.1) (cwV 1 hts (hd_gV g_Net_at k_281 k_282 k_283 k_3) rfl rfl rfl (by decide +kernel) ⟨Nat.le_of_ble_eq_true rfl, Nat.le_of_ble_eq_true rfl⟩) (hd_preV hK hN hP 1 0 Nat.one_pos rfl rfl [.int k_]) rfl rfl hl.1 rfl (lv_room (Nat.le_of_ble_eq_true rfl)) d_HD_message_16 ⟨Nat.zero_le _, Nat.zero_le _⟩) hS hA (fun H locs hP hS => ?_)
    refine lv_iload_n hx hb d_HD_message_19 rfl (lv_at hl 2 rfl) ?_
    refine hd_cI hK (va_runV (As := [.int what_]) (rest := []) ⟨hx, hb, hml, hown, hts⟩ (c_Msg_part l hJ ((v 2 0 k_.toNatClampNeg).toNatClampNeg) what_ v (hnet.2 _ (hd_lt hhsh1.1))) (cwV 1 hts (hd_gV g_Msg_part k_392 k_393 k_394 k_4) rfl rfl rfl (by decide +kernel) ⟨Nat.le_of_ble_eq_true rfl, Nat.le_of_ble_eq_true rfl⟩) (hd_preV hK hN hP 3 ((v 2 0 k_.toNatClampNeg).toNatClampNeg) (hnet.2 _ (hd_lt hhsh1.1)) rfl rfl [.int what_]) rfl rfl hl.1 rfl (lv_room (Nat.le_of_ble_eq_true rfl)) d_HD_message_20 ⟨Nat.zero_le _, Nat.zero_le _⟩) hS hA (fun H locs hP hS => ?_)
    refine lv_goto (tgt := 27) hx hb d_HD_message_23 (by decide) ?_
    exact hd_iret hx hb hr hlk hK hN hP hS d_HD_message_27 ⟨by simp only [f_HD_message]; rw [if_neg h1], rfl⟩
def f_HD_line (n : Nat) (core_ : Int32) (block_ : Int32) (v : hd_V) : Int32 :=
  if (f_HD_isCore n core_) = 0 then
    (-1)
  else
    if (f_HD_isBlock block_) = 0 then
      (-1)
    else
      v 13 core_.toNatClampNeg block_.toNatClampNeg
set_option maxHeartbeats 4000000 in
set_option maxRecDepth 100000 in
theorem c_HD_line (l : Launch) {D : va_G} {cI cZ cM cC : ClassId} {n : Nat} {ad : Nat → Nat → Nat} (hJ : hd_J (hx_L n) ad) (core_ : Int32) (block_ : Int32) (v : hd_V) (hn4 : n ≤ 4) : Met l y_HD_line w_HD_line { frames := 1, cells := 0, slots := 0, locals := 21 } (va_Pc [.ref (ad 0 0), .int core_, .int block_] (hx_B D cI cZ cM cC n ad v)) (va_Qi (fun r u => r = f_HD_line n core_ block_ v ∧ u = v) (fun u => hx_B D cI cZ cM cC n ad u) (hx_A n ad)) 0 0 (hx_A n ad) := by
  refine Met.ofW (cc := b_HD_line) (maxL := 3) (ret := (some .int)) (by decide) rfl ?_
  intro p e s m args below meth c s₁ B hml hv
  obtain ⟨rfl, hP, hK, hN⟩ := hv
  have hx := B.exec
  have hb := B.bytes
  have hr := B.returns
  have hlk := B.notSynchronized
  have hts0 := atoms_spec (ws := w_HD_line) B.pre
  have hts := fun w (hw : w ∈ lw_g) => hts0 w (List.mem_cons_of_mem _ hw)
  have hown : s.vm.findClass R_HD = some m.cls := findClass_of_methodNamed B.named
  have hA : ∀ q, hx_A n ad q → hx_A n ad q := fun _ h => h
  have hS : va_S (hx_A n ad) s.heap s.heap [] := va_S.rf
  have hl := lv_entry ([.ref (ad 0 0), .int core_, .int block_]) (n := 3) (Nat.le_of_ble_eq_true rfl)
  rw [lg_entry_eq]
  generalize (lg_sl ([.ref (ad 0 0), .int core_, .int block_]) ++ List.replicate (3 - (lg_sl ([.ref (ad 0 0), .int core_, .int block_])).length) Slot.unset).toArray = ls at hl ⊢
  have hl : lv_has ls 3 [(0, .ref (ad 0 0)), (1, .int core_), (2, .int block_)] := hl
  refine lv_aload_n hx hb d_HD_line_0 rfl (lv_at hl 0 rfl) ?_
  refine lv_iload_n hx hb d_HD_line_1 rfl (lv_at hl 1 rfl) ?_
  refine hd_cI hK (va_runV (As := [.int core_]) (rest := []) ⟨hx, hb, hml, hown, hts⟩ (c_HD_isCore l hJ core_ v ) (cwV 1 hts (hd_gV g_HD_isCore k_184 k_186 s_0 k_1) rfl rfl rfl (by decide +kernel) ⟨Nat.le_of_ble_eq_true rfl, Nat.le_of_ble_eq_true rfl⟩) (hd_preV hK hN hP 0 0 Nat.one_pos rfl rfl [.int core_]) rfl rfl hl.1 rfl (lv_room (Nat.le_of_ble_eq_true rfl)) d_HD_line_2 ⟨Nat.zero_le _, Nat.zero_le _⟩) hS hA (fun H locs hP hS => ?_)
  refine lv_if_eq (tgt := 29) hx hb d_HD_line_5 (by decide) (fun h1 => ?_) (fun h1 => ?_)
  · refine lv_iconst (v := -1) hx hb d_HD_line_29 (by decide) ?_
    exact hd_iret hx hb hr hlk hK hN hP hS d_HD_line_30 ⟨by simp only [f_HD_line]; rw [if_pos h1], rfl⟩
  · have hcoh1 := in_HD_isCore hn4 h1
    refine lv_iload_n hx hb d_HD_line_8 rfl (lv_at hl 2 rfl) ?_
    refine hd_cI hK (va_runS (As := [.int block_]) (rest := []) ⟨hx, hb, hml, hown, hts⟩ (c_HD_isBlock l hJ block_ v ) (va_cwS 1 hts (hd_gS g_HD_isBlock k_400 k_199 k_1) rfl rfl rfl (by decide +kernel) ⟨Nat.le_of_ble_eq_true rfl, Nat.le_of_ble_eq_true rfl⟩) (hd_preS hK hN hP [.int block_]) rfl rfl hl.1 rfl (lv_room (Nat.le_of_ble_eq_true rfl)) d_HD_line_9 ⟨Nat.zero_le _, Nat.zero_le _⟩) hS hA (fun H locs hP hS => ?_)
    refine lv_if_eq (tgt := 29) hx hb d_HD_line_12 (by decide) (fun h2 => ?_) (fun h2 => ?_)
    · refine lv_iconst (v := -1) hx hb d_HD_line_29 (by decide) ?_
      exact hd_iret hx hb hr hlk hK hN hP hS d_HD_line_30 ⟨by simp only [f_HD_line]; rw [if_neg h1, if_pos h2], rfl⟩
    · have hbkh2 := in_HD_isBlock h2
      refine lv_aload_n hx hb d_HD_line_15 rfl (lv_at hl 0 rfl) ?_
      refine hd_get (C := R_HD) (T := F_HD) (N := 3) hx hb hts i_HD hown hK hP 0 0 Nat.one_pos rfl rfl 2 (by decide) (hts _ k_172) (fun _ h9 => h9) rfl d_HD_line_16 ?_
      refine lv_iload_n hx hb d_HD_line_19 rfl (lv_at hl 1 rfl) ?_
      refine hd_aald hx hb hK hP 9 0 3 Nat.one_pos rfl rfl hcoh1 rfl d_HD_line_20 ?_
      refine hd_getN (C := R_Core) (T := F_Core) (N := 14) hx hb hts i_Core hown hK hP 10 core_.toNatClampNeg (hd_lt hcoh1) rfl rfl 9 (by decide) (hN.use k_135) (fun _ h9 => h9) rfl d_HD_line_21 ?_
      refine lv_iload_n hx hb d_HD_line_24 rfl (lv_at hl 2 rfl) ?_
      refine hd_iald hx hb hK hP 13 core_.toNatClampNeg 0 (hd_lt hcoh1) rfl rfl hbkh2 d_HD_line_25 ?_
      refine lv_goto (tgt := 30) hx hb d_HD_line_26 (by decide) ?_
      exact hd_iret hx hb hr hlk hK hN hP hS d_HD_line_30 ⟨by simp only [f_HD_line]; rw [if_neg h1, if_neg h2], rfl⟩
def f_HD_word (n : Nat) (core_ : Int32) (block_ : Int32) (v : hd_V) : Int32 :=
  if (f_HD_isCore n core_) = 0 then
    0
  else
    if (f_HD_isBlock block_) = 0 then
      0
    else
      f_Core_meaningOf core_.toNatClampNeg block_ v
set_option maxHeartbeats 4000000 in
set_option maxRecDepth 100000 in
theorem c_HD_word (l : Launch) {D : va_G} {cI cZ cM cC : ClassId} {n : Nat} {ad : Nat → Nat → Nat} (hJ : hd_J (hx_L n) ad) (core_ : Int32) (block_ : Int32) (v : hd_V) (hn4 : n ≤ 4) : Met l y_HD_word w_HD_word { frames := 1, cells := 0, slots := 0, locals := 21 } (va_Pc [.ref (ad 0 0), .int core_, .int block_] (hx_B D cI cZ cM cC n ad v)) (va_Qi (fun r u => r = f_HD_word n core_ block_ v ∧ u = v) (fun u => hx_B D cI cZ cM cC n ad u) (hx_A n ad)) 0 0 (hx_A n ad) := by
  refine Met.ofW (cc := b_HD_word) (maxL := 3) (ret := (some .int)) (by decide) rfl ?_
  intro p e s m args below meth c s₁ B hml hv
  obtain ⟨rfl, hP, hK, hN⟩ := hv
  have hx := B.exec
  have hb := B.bytes
  have hr := B.returns
  have hlk := B.notSynchronized
  have hts0 := atoms_spec (ws := w_HD_word) B.pre
  have hts := fun w (hw : w ∈ lw_g) => hts0 w (List.mem_cons_of_mem _ hw)
  have hown : s.vm.findClass R_HD = some m.cls := findClass_of_methodNamed B.named
  have hA : ∀ q, hx_A n ad q → hx_A n ad q := fun _ h => h
  have hS : va_S (hx_A n ad) s.heap s.heap [] := va_S.rf
  have hl := lv_entry ([.ref (ad 0 0), .int core_, .int block_]) (n := 3) (Nat.le_of_ble_eq_true rfl)
  rw [lg_entry_eq]
  generalize (lg_sl ([.ref (ad 0 0), .int core_, .int block_]) ++ List.replicate (3 - (lg_sl ([.ref (ad 0 0), .int core_, .int block_])).length) Slot.unset).toArray = ls at hl ⊢
  have hl : lv_has ls 3 [(0, .ref (ad 0 0)), (1, .int core_), (2, .int block_)] := hl
  refine lv_aload_n hx hb d_HD_word_0 rfl (lv_at hl 0 rfl) ?_
  refine lv_iload_n hx hb d_HD_word_1 rfl (lv_at hl 1 rfl) ?_
  refine hd_cI hK (va_runV (As := [.int core_]) (rest := []) ⟨hx, hb, hml, hown, hts⟩ (c_HD_isCore l hJ core_ v ) (cwV 1 hts (hd_gV g_HD_isCore k_184 k_186 s_0 k_1) rfl rfl rfl (by decide +kernel) ⟨Nat.le_of_ble_eq_true rfl, Nat.le_of_ble_eq_true rfl⟩) (hd_preV hK hN hP 0 0 Nat.one_pos rfl rfl [.int core_]) rfl rfl hl.1 rfl (lv_room (Nat.le_of_ble_eq_true rfl)) d_HD_word_2 ⟨Nat.zero_le _, Nat.zero_le _⟩) hS hA (fun H locs hP hS => ?_)
  refine lv_if_eq (tgt := 28) hx hb d_HD_word_5 (by decide) (fun h1 => ?_) (fun h1 => ?_)
  · refine lv_iconst (v := 0) hx hb d_HD_word_28 (by decide) ?_
    exact hd_iret hx hb hr hlk hK hN hP hS d_HD_word_29 ⟨by simp only [f_HD_word]; rw [if_pos h1], rfl⟩
  · have hcoh1 := in_HD_isCore hn4 h1
    refine lv_iload_n hx hb d_HD_word_8 rfl (lv_at hl 2 rfl) ?_
    refine hd_cI hK (va_runS (As := [.int block_]) (rest := []) ⟨hx, hb, hml, hown, hts⟩ (c_HD_isBlock l hJ block_ v ) (va_cwS 1 hts (hd_gS g_HD_isBlock k_400 k_199 k_1) rfl rfl rfl (by decide +kernel) ⟨Nat.le_of_ble_eq_true rfl, Nat.le_of_ble_eq_true rfl⟩) (hd_preS hK hN hP [.int block_]) rfl rfl hl.1 rfl (lv_room (Nat.le_of_ble_eq_true rfl)) d_HD_word_9 ⟨Nat.zero_le _, Nat.zero_le _⟩) hS hA (fun H locs hP hS => ?_)
    refine lv_if_eq (tgt := 28) hx hb d_HD_word_12 (by decide) (fun h2 => ?_) (fun h2 => ?_)
    · refine lv_iconst (v := 0) hx hb d_HD_word_28 (by decide) ?_
      exact hd_iret hx hb hr hlk hK hN hP hS d_HD_word_29 ⟨by simp only [f_HD_word]; rw [if_neg h1, if_pos h2], rfl⟩
    · have hbkh2 := in_HD_isBlock h2
      refine lv_aload_n hx hb d_HD_word_15 rfl (lv_at hl 0 rfl) ?_
      refine hd_get (C := R_HD) (T := F_HD) (N := 3) hx hb hts i_HD hown hK hP 0 0 Nat.one_pos rfl rfl 2 (by decide) (hts _ k_172) (fun _ h9 => h9) rfl d_HD_word_16 ?_
      refine lv_iload_n hx hb d_HD_word_19 rfl (lv_at hl 1 rfl) ?_
      refine hd_aald hx hb hK hP 9 0 3 Nat.one_pos rfl rfl hcoh1 rfl d_HD_word_20 ?_
      refine lv_iload_n hx hb d_HD_word_21 rfl (lv_at hl 2 rfl) ?_
      refine hd_cI hK (va_runV (As := [.int block_]) (rest := []) ⟨hx, hb, hml, hown, hts⟩ (c_Core_meaningOf l hJ core_.toNatClampNeg block_ v (hd_lt hcoh1) hbkh2) (cwV 1 hts (hd_gV g_Core_meaningOf k_405 k_406 k_407 k_7) rfl rfl rfl (by decide +kernel) ⟨Nat.le_of_ble_eq_true rfl, Nat.le_of_ble_eq_true rfl⟩) (hd_preV hK hN hP 10 core_.toNatClampNeg (hd_lt hcoh1) rfl rfl [.int block_]) rfl rfl hl.1 rfl (lv_room (Nat.le_of_ble_eq_true rfl)) d_HD_word_22 ⟨Nat.zero_le _, Nat.zero_le _⟩) hS hA (fun H locs hP hS => ?_)
      refine lv_goto (tgt := 29) hx hb d_HD_word_25 (by decide) ?_
      exact hd_iret hx hb hr hlk hK hN hP hS d_HD_word_29 ⟨by simp only [f_HD_word]; rw [if_neg h1, if_neg h2], rfl⟩
def f_HD_home (block_ : Int32) (v : hd_V) : Int32 :=
  if (f_HD_isBlock block_) = 0 then
    (-1)
  else
    f_Home_summary block_ v
set_option maxHeartbeats 4000000 in
set_option maxRecDepth 100000 in
theorem c_HD_home (l : Launch) {D : va_G} {cI cZ cM cC : ClassId} {n : Nat} {ad : Nat → Nat → Nat} (hJ : hd_J (hx_L n) ad) (block_ : Int32) (v : hd_V) : Met l y_HD_home w_HD_home { frames := 1, cells := 0, slots := 0, locals := 22 } (va_Pc [.ref (ad 0 0), .int block_] (hx_B D cI cZ cM cC n ad v)) (va_Qi (fun r u => r = f_HD_home block_ v ∧ u = v) (fun u => hx_B D cI cZ cM cC n ad u) (hx_A n ad)) 0 0 (hx_A n ad) := by
  refine Met.ofW (cc := b_HD_home) (maxL := 2) (ret := (some .int)) (by decide) rfl ?_
  intro p e s m args below meth c s₁ B hml hv
  obtain ⟨rfl, hP, hK, hN⟩ := hv
  have hx := B.exec
  have hb := B.bytes
  have hr := B.returns
  have hlk := B.notSynchronized
  have hts0 := atoms_spec (ws := w_HD_home) B.pre
  have hts := fun w (hw : w ∈ lw_g) => hts0 w (List.mem_cons_of_mem _ hw)
  have hown : s.vm.findClass R_HD = some m.cls := findClass_of_methodNamed B.named
  have hA : ∀ q, hx_A n ad q → hx_A n ad q := fun _ h => h
  have hS : va_S (hx_A n ad) s.heap s.heap [] := va_S.rf
  have hl := lv_entry ([.ref (ad 0 0), .int block_]) (n := 2) (Nat.le_of_ble_eq_true rfl)
  rw [lg_entry_eq]
  generalize (lg_sl ([.ref (ad 0 0), .int block_]) ++ List.replicate (2 - (lg_sl ([.ref (ad 0 0), .int block_])).length) Slot.unset).toArray = ls at hl ⊢
  have hl : lv_has ls 2 [(0, .ref (ad 0 0)), (1, .int block_)] := hl
  refine lv_iload_n hx hb d_HD_home_0 rfl (lv_at hl 1 rfl) ?_
  refine hd_cI hK (va_runS (As := [.int block_]) (rest := []) ⟨hx, hb, hml, hown, hts⟩ (c_HD_isBlock l hJ block_ v ) (va_cwS 1 hts (hd_gS g_HD_isBlock k_400 k_199 k_1) rfl rfl rfl (by decide +kernel) ⟨Nat.le_of_ble_eq_true rfl, Nat.le_of_ble_eq_true rfl⟩) (hd_preS hK hN hP [.int block_]) rfl rfl hl.1 rfl (lv_room (Nat.le_of_ble_eq_true rfl)) d_HD_home_1 ⟨Nat.zero_le _, Nat.zero_le _⟩) hS hA (fun H locs hP hS => ?_)
  refine lv_if_eq (tgt := 18) hx hb d_HD_home_4 (by decide) (fun h1 => ?_) (fun h1 => ?_)
  · refine lv_iconst (v := -1) hx hb d_HD_home_18 (by decide) ?_
    exact hd_iret hx hb hr hlk hK hN hP hS d_HD_home_19 ⟨by simp only [f_HD_home]; rw [if_pos h1], rfl⟩
  · have hbkh1 := in_HD_isBlock h1
    refine lv_aload_n hx hb d_HD_home_7 rfl (lv_at hl 0 rfl) ?_
    refine hd_get (C := R_HD) (T := F_HD) (N := 3) hx hb hts i_HD hown hK hP 0 0 Nat.one_pos rfl rfl 1 (by decide) (hts _ k_171) (fun _ h9 => h9) rfl d_HD_home_8 ?_
    refine lv_iload_n hx hb d_HD_home_11 rfl (lv_at hl 1 rfl) ?_
    refine hd_cI hK (va_runV (As := [.int block_]) (rest := []) ⟨hx, hb, hml, hown, hts⟩ (c_Home_summary l hJ block_ v hbkh1) (cwV 1 hts (hd_gV g_Home_summary k_413 k_414 k_415 k_5) rfl rfl rfl (by decide +kernel) ⟨Nat.le_of_ble_eq_true rfl, Nat.le_of_ble_eq_true rfl⟩) (hd_preV hK hN hP 4 0 Nat.one_pos rfl rfl [.int block_]) rfl rfl hl.1 rfl (lv_room (Nat.le_of_ble_eq_true rfl)) d_HD_home_12 ⟨Nat.zero_le _, Nat.zero_le _⟩) hS hA (fun H locs hP hS => ?_)
    refine lv_goto (tgt := 19) hx hb d_HD_home_15 (by decide) ?_
    exact hd_iret hx hb hr hlk hK hN hP hS d_HD_home_19 ⟨by simp only [f_HD_home]; rw [if_neg h1], rfl⟩
def f_HD_memory (block_ : Int32) (v : hd_V) : Int32 :=
  if (f_HD_isBlock block_) = 0 then
    0
  else
    v 5 0 block_.toNatClampNeg
set_option maxHeartbeats 4000000 in
set_option maxRecDepth 100000 in
theorem c_HD_memory (l : Launch) {D : va_G} {cI cZ cM cC : ClassId} {n : Nat} {ad : Nat → Nat → Nat} (hJ : hd_J (hx_L n) ad) (block_ : Int32) (v : hd_V) : Met l y_HD_memory w_HD_memory { frames := 1, cells := 0, slots := 0, locals := 20 } (va_Pc [.ref (ad 0 0), .int block_] (hx_B D cI cZ cM cC n ad v)) (va_Qi (fun r u => r = f_HD_memory block_ v ∧ u = v) (fun u => hx_B D cI cZ cM cC n ad u) (hx_A n ad)) 0 0 (hx_A n ad) := by
  refine Met.ofW (cc := b_HD_memory) (maxL := 2) (ret := (some .int)) (by decide) rfl ?_
  intro p e s m args below meth c s₁ B hml hv
  obtain ⟨rfl, hP, hK, hN⟩ := hv
  have hx := B.exec
  have hb := B.bytes
  have hr := B.returns
  have hlk := B.notSynchronized
  have hts0 := atoms_spec (ws := w_HD_memory) B.pre
  have hts := fun w (hw : w ∈ lw_g) => hts0 w (List.mem_cons_of_mem _ hw)
  have hown : s.vm.findClass R_HD = some m.cls := findClass_of_methodNamed B.named
  have hA : ∀ q, hx_A n ad q → hx_A n ad q := fun _ h => h
  have hS : va_S (hx_A n ad) s.heap s.heap [] := va_S.rf
  have hl := lv_entry ([.ref (ad 0 0), .int block_]) (n := 2) (Nat.le_of_ble_eq_true rfl)
  rw [lg_entry_eq]
  generalize (lg_sl ([.ref (ad 0 0), .int block_]) ++ List.replicate (2 - (lg_sl ([.ref (ad 0 0), .int block_])).length) Slot.unset).toArray = ls at hl ⊢
  have hl : lv_has ls 2 [(0, .ref (ad 0 0)), (1, .int block_)] := hl
  refine lv_iload_n hx hb d_HD_memory_0 rfl (lv_at hl 1 rfl) ?_
  refine hd_cI hK (va_runS (As := [.int block_]) (rest := []) ⟨hx, hb, hml, hown, hts⟩ (c_HD_isBlock l hJ block_ v ) (va_cwS 1 hts (hd_gS g_HD_isBlock k_400 k_199 k_1) rfl rfl rfl (by decide +kernel) ⟨Nat.le_of_ble_eq_true rfl, Nat.le_of_ble_eq_true rfl⟩) (hd_preS hK hN hP [.int block_]) rfl rfl hl.1 rfl (lv_room (Nat.le_of_ble_eq_true rfl)) d_HD_memory_1 ⟨Nat.zero_le _, Nat.zero_le _⟩) hS hA (fun H locs hP hS => ?_)
  refine lv_if_eq (tgt := 19) hx hb d_HD_memory_4 (by decide) (fun h1 => ?_) (fun h1 => ?_)
  · refine lv_iconst (v := 0) hx hb d_HD_memory_19 (by decide) ?_
    exact hd_iret hx hb hr hlk hK hN hP hS d_HD_memory_20 ⟨by simp only [f_HD_memory]; rw [if_pos h1], rfl⟩
  · have hbkh1 := in_HD_isBlock h1
    refine lv_aload_n hx hb d_HD_memory_7 rfl (lv_at hl 0 rfl) ?_
    refine hd_get (C := R_HD) (T := F_HD) (N := 3) hx hb hts i_HD hown hK hP 0 0 Nat.one_pos rfl rfl 1 (by decide) (hts _ k_171) (fun _ h9 => h9) rfl d_HD_memory_8 ?_
    refine hd_getN (C := R_Home) (T := F_Home) (N := 5) hx hb hts i_Home hown hK hP 4 0 Nat.one_pos rfl rfl 1 (by decide) (hN.use k_99) (fun _ h9 => h9) rfl d_HD_memory_11 ?_
    refine lv_iload_n hx hb d_HD_memory_14 rfl (lv_at hl 1 rfl) ?_
    refine hd_iald hx hb hK hP 5 0 0 Nat.one_pos rfl rfl hbkh1 d_HD_memory_15 ?_
    refine lv_goto (tgt := 20) hx hb d_HD_memory_16 (by decide) ?_
    exact hd_iret hx hb hr hlk hK hN hP hS d_HD_memory_20 ⟨by simp only [f_HD_memory]; rw [if_neg h1], rfl⟩
def f_HD_accumulator (n : Nat) (core_ : Int32) (v : hd_V) : Int32 :=
  if (f_HD_isCore n core_) = 0 then
    0
  else
    v 10 core_.toNatClampNeg 6
set_option maxHeartbeats 4000000 in
set_option maxRecDepth 100000 in
theorem c_HD_accumulator (l : Launch) {D : va_G} {cI cZ cM cC : ClassId} {n : Nat} {ad : Nat → Nat → Nat} (hJ : hd_J (hx_L n) ad) (core_ : Int32) (v : hd_V) (hn4 : n ≤ 4) : Met l y_HD_accumulator w_HD_accumulator { frames := 1, cells := 0, slots := 0, locals := 21 } (va_Pc [.ref (ad 0 0), .int core_] (hx_B D cI cZ cM cC n ad v)) (va_Qi (fun r u => r = f_HD_accumulator n core_ v ∧ u = v) (fun u => hx_B D cI cZ cM cC n ad u) (hx_A n ad)) 0 0 (hx_A n ad) := by
  refine Met.ofW (cc := b_HD_accumulator) (maxL := 2) (ret := (some .int)) (by decide) rfl ?_
  intro p e s m args below meth c s₁ B hml hv
  obtain ⟨rfl, hP, hK, hN⟩ := hv
  have hx := B.exec
  have hb := B.bytes
  have hr := B.returns
  have hlk := B.notSynchronized
  have hts0 := atoms_spec (ws := w_HD_accumulator) B.pre
  have hts := fun w (hw : w ∈ lw_g) => hts0 w (List.mem_cons_of_mem _ hw)
  have hown : s.vm.findClass R_HD = some m.cls := findClass_of_methodNamed B.named
  have hA : ∀ q, hx_A n ad q → hx_A n ad q := fun _ h => h
  have hS : va_S (hx_A n ad) s.heap s.heap [] := va_S.rf
  have hl := lv_entry ([.ref (ad 0 0), .int core_]) (n := 2) (Nat.le_of_ble_eq_true rfl)
  rw [lg_entry_eq]
  generalize (lg_sl ([.ref (ad 0 0), .int core_]) ++ List.replicate (2 - (lg_sl ([.ref (ad 0 0), .int core_])).length) Slot.unset).toArray = ls at hl ⊢
  have hl : lv_has ls 2 [(0, .ref (ad 0 0)), (1, .int core_)] := hl
  refine lv_aload_n hx hb d_HD_accumulator_0 rfl (lv_at hl 0 rfl) ?_
  refine lv_iload_n hx hb d_HD_accumulator_1 rfl (lv_at hl 1 rfl) ?_
  refine hd_cI hK (va_runV (As := [.int core_]) (rest := []) ⟨hx, hb, hml, hown, hts⟩ (c_HD_isCore l hJ core_ v ) (cwV 1 hts (hd_gV g_HD_isCore k_184 k_186 s_0 k_1) rfl rfl rfl (by decide +kernel) ⟨Nat.le_of_ble_eq_true rfl, Nat.le_of_ble_eq_true rfl⟩) (hd_preV hK hN hP 0 0 Nat.one_pos rfl rfl [.int core_]) rfl rfl hl.1 rfl (lv_room (Nat.le_of_ble_eq_true rfl)) d_HD_accumulator_2 ⟨Nat.zero_le _, Nat.zero_le _⟩) hS hA (fun H locs hP hS => ?_)
  refine lv_if_eq (tgt := 20) hx hb d_HD_accumulator_5 (by decide) (fun h1 => ?_) (fun h1 => ?_)
  · refine lv_iconst (v := 0) hx hb d_HD_accumulator_20 (by decide) ?_
    exact hd_iret hx hb hr hlk hK hN hP hS d_HD_accumulator_21 ⟨by simp only [f_HD_accumulator]; rw [if_pos h1], rfl⟩
  · have hcoh1 := in_HD_isCore hn4 h1
    refine lv_aload_n hx hb d_HD_accumulator_8 rfl (lv_at hl 0 rfl) ?_
    refine hd_get (C := R_HD) (T := F_HD) (N := 3) hx hb hts i_HD hown hK hP 0 0 Nat.one_pos rfl rfl 2 (by decide) (hts _ k_172) (fun _ h9 => h9) rfl d_HD_accumulator_9 ?_
    refine lv_iload_n hx hb d_HD_accumulator_12 rfl (lv_at hl 1 rfl) ?_
    refine hd_aald hx hb hK hP 9 0 3 Nat.one_pos rfl rfl hcoh1 rfl d_HD_accumulator_13 ?_
    refine hd_getN (C := R_Core) (T := F_Core) (N := 14) hx hb hts i_Core hown hK hP 10 core_.toNatClampNeg (hd_lt hcoh1) rfl rfl 6 (by decide) (hN.use k_129) (fun _ h9 => h9) rfl d_HD_accumulator_14 ?_
    refine lv_goto (tgt := 21) hx hb d_HD_accumulator_17 (by decide) ?_
    exact hd_iret hx hb hr hlk hK hN hP hS d_HD_accumulator_21 ⟨by simp only [f_HD_accumulator]; rw [if_neg h1], rfl⟩
def f_HD_place (n : Nat) (core_ : Int32) (v : hd_V) : Int32 :=
  if (f_HD_isCore n core_) = 0 then
    (-1)
  else
    (v 10 core_.toNatClampNeg 7) + (v 10 core_.toNatClampNeg 8)
set_option maxHeartbeats 4000000 in
set_option maxRecDepth 100000 in
theorem c_HD_place (l : Launch) {D : va_G} {cI cZ cM cC : ClassId} {n : Nat} {ad : Nat → Nat → Nat} (hJ : hd_J (hx_L n) ad) (core_ : Int32) (v : hd_V) (hn4 : n ≤ 4) : Met l y_HD_place w_HD_place { frames := 1, cells := 0, slots := 0, locals := 21 } (va_Pc [.ref (ad 0 0), .int core_] (hx_B D cI cZ cM cC n ad v)) (va_Qi (fun r u => r = f_HD_place n core_ v ∧ u = v) (fun u => hx_B D cI cZ cM cC n ad u) (hx_A n ad)) 0 0 (hx_A n ad) := by
  refine Met.ofW (cc := b_HD_place) (maxL := 2) (ret := (some .int)) (by decide) rfl ?_
  intro p e s m args below meth c s₁ B hml hv
  obtain ⟨rfl, hP, hK, hN⟩ := hv
  have hx := B.exec
  have hb := B.bytes
  have hr := B.returns
  have hlk := B.notSynchronized
  have hts0 := atoms_spec (ws := w_HD_place) B.pre
  have hts := fun w (hw : w ∈ lw_g) => hts0 w (List.mem_cons_of_mem _ hw)
  have hown : s.vm.findClass R_HD = some m.cls := findClass_of_methodNamed B.named
  have hA : ∀ q, hx_A n ad q → hx_A n ad q := fun _ h => h
  have hS : va_S (hx_A n ad) s.heap s.heap [] := va_S.rf
  have hl := lv_entry ([.ref (ad 0 0), .int core_]) (n := 2) (Nat.le_of_ble_eq_true rfl)
  rw [lg_entry_eq]
  generalize (lg_sl ([.ref (ad 0 0), .int core_]) ++ List.replicate (2 - (lg_sl ([.ref (ad 0 0), .int core_])).length) Slot.unset).toArray = ls at hl ⊢
  have hl : lv_has ls 2 [(0, .ref (ad 0 0)), (1, .int core_)] := hl
  refine lv_aload_n hx hb d_HD_place_0 rfl (lv_at hl 0 rfl) ?_
  refine lv_iload_n hx hb d_HD_place_1 rfl (lv_at hl 1 rfl) ?_
  refine hd_cI hK (va_runV (As := [.int core_]) (rest := []) ⟨hx, hb, hml, hown, hts⟩ (c_HD_isCore l hJ core_ v ) (cwV 1 hts (hd_gV g_HD_isCore k_184 k_186 s_0 k_1) rfl rfl rfl (by decide +kernel) ⟨Nat.le_of_ble_eq_true rfl, Nat.le_of_ble_eq_true rfl⟩) (hd_preV hK hN hP 0 0 Nat.one_pos rfl rfl [.int core_]) rfl rfl hl.1 rfl (lv_room (Nat.le_of_ble_eq_true rfl)) d_HD_place_2 ⟨Nat.zero_le _, Nat.zero_le _⟩) hS hA (fun H locs hP hS => ?_)
  refine lv_if_eq (tgt := 30) hx hb d_HD_place_5 (by decide) (fun h1 => ?_) (fun h1 => ?_)
  · refine lv_iconst (v := -1) hx hb d_HD_place_30 (by decide) ?_
    exact hd_iret hx hb hr hlk hK hN hP hS d_HD_place_31 ⟨by simp only [f_HD_place]; rw [if_pos h1], rfl⟩
  · have hcoh1 := in_HD_isCore hn4 h1
    refine lv_aload_n hx hb d_HD_place_8 rfl (lv_at hl 0 rfl) ?_
    refine hd_get (C := R_HD) (T := F_HD) (N := 3) hx hb hts i_HD hown hK hP 0 0 Nat.one_pos rfl rfl 2 (by decide) (hts _ k_172) (fun _ h9 => h9) rfl d_HD_place_9 ?_
    refine lv_iload_n hx hb d_HD_place_12 rfl (lv_at hl 1 rfl) ?_
    refine hd_aald hx hb hK hP 9 0 3 Nat.one_pos rfl rfl hcoh1 rfl d_HD_place_13 ?_
    refine hd_getN (C := R_Core) (T := F_Core) (N := 14) hx hb hts i_Core hown hK hP 10 core_.toNatClampNeg (hd_lt hcoh1) rfl rfl 7 (by decide) (hN.use k_131) (fun _ h9 => h9) rfl d_HD_place_14 ?_
    refine lv_aload_n hx hb d_HD_place_17 rfl (lv_at hl 0 rfl) ?_
    refine hd_get (C := R_HD) (T := F_HD) (N := 3) hx hb hts i_HD hown hK hP 0 0 Nat.one_pos rfl rfl 2 (by decide) (hts _ k_172) (fun _ h9 => h9) rfl d_HD_place_18 ?_
    refine lv_iload_n hx hb d_HD_place_21 rfl (lv_at hl 1 rfl) ?_
    refine hd_aald hx hb hK hP 9 0 3 Nat.one_pos rfl rfl hcoh1 rfl d_HD_place_22 ?_
    refine hd_getN (C := R_Core) (T := F_Core) (N := 14) hx hb hts i_Core hown hK hP 10 core_.toNatClampNeg (hd_lt hcoh1) rfl rfl 8 (by decide) (hN.use k_133) (fun _ h9 => h9) rfl d_HD_place_23 ?_
    refine lv_iadd hx hb d_HD_place_26 ?_
    refine lv_goto (tgt := 31) hx hb d_HD_place_27 (by decide) ?_
    exact hd_iret hx hb hr hlk hK hN hP hS d_HD_place_31 ⟨by simp only [f_HD_place]; rw [if_neg h1], rfl⟩
def f_HD_code (n : Nat) (core_ : Int32) (op_ : Int32) (x_ : Int32) (v : hd_V) : Int32 × hd_V :=
  if (f_HD_isCore n core_) = 0 then
    (0, v)
  else
    let v2 := f_Core_append core_.toNatClampNeg op_ x_ v
    let v3 := v2.2
    if v2.1 = 0 then
      (0, v3)
    else
      (1, v3)
set_option maxHeartbeats 4000000 in
set_option maxRecDepth 100000 in
theorem c_HD_code (l : Launch) {D : va_G} {cI cZ cM cC : ClassId} {n : Nat} {ad : Nat → Nat → Nat} (hJ : hd_J (hx_L n) ad) (core_ : Int32) (op_ : Int32) (x_ : Int32) (v : hd_V) (hn4 : n ≤ 4) (hins : ∀ c, c < n → 0 ≤ v 10 c 5) : Met l y_HD_code w_HD_code { frames := 3, cells := 0, slots := 0, locals := 63 } (va_Pc [.ref (ad 0 0), .int core_, .int op_, .int x_] (hx_B D cI cZ cM cC n ad v)) (va_Qi (fun r u => r = (f_HD_code n core_ op_ x_ v).1 ∧ u = (f_HD_code n core_ op_ x_ v).2) (fun u => hx_B D cI cZ cM cC n ad u) (hx_A n ad)) 0 0 (hx_A n ad) := by
  refine Met.ofW (cc := b_HD_code) (maxL := 4) (ret := (some .boolean)) (by decide) rfl ?_
  intro p e s m args below meth c s₁ B hml hv
  obtain ⟨rfl, hP, hK, hN⟩ := hv
  have hx := B.exec
  have hb := B.bytes
  have hr := B.returns
  have hlk := B.notSynchronized
  have hts0 := atoms_spec (ws := w_HD_code) B.pre
  have hts := fun w (hw : w ∈ lw_g) => hts0 w (List.mem_cons_of_mem _ hw)
  have hown : s.vm.findClass R_HD = some m.cls := findClass_of_methodNamed B.named
  have hA : ∀ q, hx_A n ad q → hx_A n ad q := fun _ h => h
  have hS : va_S (hx_A n ad) s.heap s.heap [] := va_S.rf
  have hl := lv_entry ([.ref (ad 0 0), .int core_, .int op_, .int x_]) (n := 4) (Nat.le_of_ble_eq_true rfl)
  rw [lg_entry_eq]
  generalize (lg_sl ([.ref (ad 0 0), .int core_, .int op_, .int x_]) ++ List.replicate (4 - (lg_sl ([.ref (ad 0 0), .int core_, .int op_, .int x_])).length) Slot.unset).toArray = ls at hl ⊢
  have hl : lv_has ls 4 [(0, .ref (ad 0 0)), (1, .int core_), (2, .int op_), (3, .int x_)] := hl
  refine lv_aload_n hx hb d_HD_code_0 rfl (lv_at hl 0 rfl) ?_
  refine lv_iload_n hx hb d_HD_code_1 rfl (lv_at hl 1 rfl) ?_
  refine hd_cI hK (va_runV (As := [.int core_]) (rest := []) ⟨hx, hb, hml, hown, hts⟩ (c_HD_isCore l hJ core_ v ) (cwV 1 hts (hd_gV g_HD_isCore k_184 k_186 s_0 k_1) rfl rfl rfl (by decide +kernel) ⟨Nat.le_of_ble_eq_true rfl, Nat.le_of_ble_eq_true rfl⟩) (hd_preV hK hN hP 0 0 Nat.one_pos rfl rfl [.int core_]) rfl rfl hl.1 rfl (lv_room (Nat.le_of_ble_eq_true rfl)) d_HD_code_2 ⟨Nat.zero_le _, Nat.zero_le _⟩) hS hA (fun H locs hP hS => ?_)
  refine lv_if_eq (tgt := 26) hx hb d_HD_code_5 (by decide) (fun h1 => ?_) (fun h1 => ?_)
  · refine lv_iconst (v := 0) hx hb d_HD_code_26 (by decide) ?_
    exact hd_zret hx hb hr hlk hK hN hP hS d_HD_code_27 rfl ⟨by simp only [f_HD_code]; rw [if_pos h1], by simp only [f_HD_code]; rw [if_pos h1]⟩
  · have hcoh1 := in_HD_isCore hn4 h1
    refine lv_aload_n hx hb d_HD_code_8 rfl (lv_at hl 0 rfl) ?_
    refine hd_get (C := R_HD) (T := F_HD) (N := 3) hx hb hts i_HD hown hK hP 0 0 Nat.one_pos rfl rfl 2 (by decide) (hts _ k_172) (fun _ h9 => h9) rfl d_HD_code_9 ?_
    refine lv_iload_n hx hb d_HD_code_12 rfl (lv_at hl 1 rfl) ?_
    refine hd_aald hx hb hK hP 9 0 3 Nat.one_pos rfl rfl hcoh1 rfl d_HD_code_13 ?_
    refine lv_iload_n hx hb d_HD_code_14 rfl (lv_at hl 2 rfl) ?_
    refine lv_iload_n hx hb d_HD_code_15 rfl (lv_at hl 3 rfl) ?_
    refine hd_cIV hK (va_runV (As := [.int op_, .int x_]) (rest := []) ⟨hx, hb, hml, hown, hts⟩ (c_Core_append l hJ core_.toNatClampNeg op_ x_ v (hd_lt hcoh1) (hins _ (hd_lt hcoh1))) (cwV 2 hts (hd_gV g_Core_append k_188 k_189 k_190 k_7) rfl rfl rfl (by decide +kernel) ⟨Nat.le_of_ble_eq_true rfl, Nat.le_of_ble_eq_true rfl⟩) (hd_preV hK hN hP 10 core_.toNatClampNeg (hd_lt hcoh1) rfl rfl [.int op_, .int x_]) rfl rfl hl.1 rfl (lv_room (Nat.le_of_ble_eq_true rfl)) d_HD_code_16 ⟨Nat.zero_le _, Nat.zero_le _⟩) hS hA (fun H locs hP hS => ?_)
    refine lv_if_eq (tgt := 26) hx hb d_HD_code_19 (by decide) (fun h4 => ?_) (fun h4 => ?_)
    · refine lv_iconst (v := 0) hx hb d_HD_code_26 (by decide) ?_
      exact hd_zret hx hb hr hlk hK hN hP hS d_HD_code_27 rfl ⟨by simp only [f_HD_code]; rw [if_neg h1, if_pos h4], by simp only [f_HD_code]; rw [if_neg h1, if_pos h4]⟩
    · refine lv_iconst (v := 1) hx hb d_HD_code_22 (by decide) ?_
      refine lv_goto (tgt := 27) hx hb d_HD_code_23 (by decide) ?_
      exact hd_zret hx hb hr hlk hK hN hP hS d_HD_code_27 rfl ⟨by simp only [f_HD_code]; rw [if_neg h1, if_neg h4], by simp only [f_HD_code]; rw [if_neg h1, if_neg h4]⟩
def f_HD_go (n : Nat) (core_ : Int32) (place_ : Int32) (v : hd_V) : Int32 × hd_V :=
  if (f_HD_isCore n core_) = 0 then
    (0, v)
  else
    let v2 := f_Core_moveTo core_.toNatClampNeg place_ v
    let v3 := v2.2
    if v2.1 = 0 then
      (0, v3)
    else
      (1, v3)
set_option maxHeartbeats 4000000 in
set_option maxRecDepth 100000 in
theorem c_HD_go (l : Launch) {D : va_G} {cI cZ cM cC : ClassId} {n : Nat} {ad : Nat → Nat → Nat} (hJ : hd_J (hx_L n) ad) (core_ : Int32) (place_ : Int32) (v : hd_V) (hn4 : n ≤ 4) : Met l y_HD_go w_HD_go { frames := 1, cells := 0, slots := 0, locals := 21 } (va_Pc [.ref (ad 0 0), .int core_, .int place_] (hx_B D cI cZ cM cC n ad v)) (va_Qi (fun r u => r = (f_HD_go n core_ place_ v).1 ∧ u = (f_HD_go n core_ place_ v).2) (fun u => hx_B D cI cZ cM cC n ad u) (hx_A n ad)) 0 0 (hx_A n ad) := by
  refine Met.ofW (cc := b_HD_go) (maxL := 3) (ret := (some .boolean)) (by decide) rfl ?_
  intro p e s m args below meth c s₁ B hml hv
  obtain ⟨rfl, hP, hK, hN⟩ := hv
  have hx := B.exec
  have hb := B.bytes
  have hr := B.returns
  have hlk := B.notSynchronized
  have hts0 := atoms_spec (ws := w_HD_go) B.pre
  have hts := fun w (hw : w ∈ lw_g) => hts0 w (List.mem_cons_of_mem _ hw)
  have hown : s.vm.findClass R_HD = some m.cls := findClass_of_methodNamed B.named
  have hA : ∀ q, hx_A n ad q → hx_A n ad q := fun _ h => h
  have hS : va_S (hx_A n ad) s.heap s.heap [] := va_S.rf
  have hl := lv_entry ([.ref (ad 0 0), .int core_, .int place_]) (n := 3) (Nat.le_of_ble_eq_true rfl)
  rw [lg_entry_eq]
  generalize (lg_sl ([.ref (ad 0 0), .int core_, .int place_]) ++ List.replicate (3 - (lg_sl ([.ref (ad 0 0), .int core_, .int place_])).length) Slot.unset).toArray = ls at hl ⊢
  have hl : lv_has ls 3 [(0, .ref (ad 0 0)), (1, .int core_), (2, .int place_)] := hl
  refine lv_aload_n hx hb d_HD_go_0 rfl (lv_at hl 0 rfl) ?_
  refine lv_iload_n hx hb d_HD_go_1 rfl (lv_at hl 1 rfl) ?_
  refine hd_cI hK (va_runV (As := [.int core_]) (rest := []) ⟨hx, hb, hml, hown, hts⟩ (c_HD_isCore l hJ core_ v ) (cwV 1 hts (hd_gV g_HD_isCore k_184 k_186 s_0 k_1) rfl rfl rfl (by decide +kernel) ⟨Nat.le_of_ble_eq_true rfl, Nat.le_of_ble_eq_true rfl⟩) (hd_preV hK hN hP 0 0 Nat.one_pos rfl rfl [.int core_]) rfl rfl hl.1 rfl (lv_room (Nat.le_of_ble_eq_true rfl)) d_HD_go_2 ⟨Nat.zero_le _, Nat.zero_le _⟩) hS hA (fun H locs hP hS => ?_)
  refine lv_if_eq (tgt := 25) hx hb d_HD_go_5 (by decide) (fun h1 => ?_) (fun h1 => ?_)
  · refine lv_iconst (v := 0) hx hb d_HD_go_25 (by decide) ?_
    exact hd_zret hx hb hr hlk hK hN hP hS d_HD_go_26 rfl ⟨by simp only [f_HD_go]; rw [if_pos h1], by simp only [f_HD_go]; rw [if_pos h1]⟩
  · have hcoh1 := in_HD_isCore hn4 h1
    refine lv_aload_n hx hb d_HD_go_8 rfl (lv_at hl 0 rfl) ?_
    refine hd_get (C := R_HD) (T := F_HD) (N := 3) hx hb hts i_HD hown hK hP 0 0 Nat.one_pos rfl rfl 2 (by decide) (hts _ k_172) (fun _ h9 => h9) rfl d_HD_go_9 ?_
    refine lv_iload_n hx hb d_HD_go_12 rfl (lv_at hl 1 rfl) ?_
    refine hd_aald hx hb hK hP 9 0 3 Nat.one_pos rfl rfl hcoh1 rfl d_HD_go_13 ?_
    refine lv_iload_n hx hb d_HD_go_14 rfl (lv_at hl 2 rfl) ?_
    refine hd_cIV hK (va_runV (As := [.int place_]) (rest := []) ⟨hx, hb, hml, hown, hts⟩ (c_Core_moveTo l hJ core_.toNatClampNeg place_ v (hd_lt hcoh1)) (cwV 1 hts (hd_gV g_Core_moveTo k_205 k_206 k_207 k_7) rfl rfl rfl (by decide +kernel) ⟨Nat.le_of_ble_eq_true rfl, Nat.le_of_ble_eq_true rfl⟩) (hd_preV hK hN hP 10 core_.toNatClampNeg (hd_lt hcoh1) rfl rfl [.int place_]) rfl rfl hl.1 rfl (lv_room (Nat.le_of_ble_eq_true rfl)) d_HD_go_15 ⟨Nat.zero_le _, Nat.zero_le _⟩) hS hA (fun H locs hP hS => ?_)
    refine lv_if_eq (tgt := 25) hx hb d_HD_go_18 (by decide) (fun h4 => ?_) (fun h4 => ?_)
    · refine lv_iconst (v := 0) hx hb d_HD_go_25 (by decide) ?_
      exact hd_zret hx hb hr hlk hK hN hP hS d_HD_go_26 rfl ⟨by simp only [f_HD_go]; rw [if_neg h1, if_pos h4], by simp only [f_HD_go]; rw [if_neg h1, if_pos h4]⟩
    · refine lv_iconst (v := 1) hx hb d_HD_go_21 (by decide) ?_
      refine lv_goto (tgt := 26) hx hb d_HD_go_22 (by decide) ?_
      exact hd_zret hx hb hr hlk hK hN hP hS d_HD_go_26 rfl ⟨by simp only [f_HD_go]; rw [if_neg h1, if_neg h4], by simp only [f_HD_go]; rw [if_neg h1, if_neg h4]⟩
def f_HD_step (n : Nat) (core_ : Int32) (v : hd_V) : Int32 × hd_V :=
  if (f_HD_isCore n core_) = 0 then
    ((-1), v)
  else
    let v2 := f_Core_advance core_.toNatClampNeg v
    let v3 := v2.2
    (v2.1, v3)
set_option maxHeartbeats 4000000 in
set_option maxRecDepth 100000 in
theorem c_HD_step (l : Launch) {D : va_G} {cI cZ cM cC : ClassId} {n : Nat} {ad : Nat → Nat → Nat} (hJ : hd_J (hx_L n) ad) (core_ : Int32) (v : hd_V) (hn4 : n ≤ 4) (hprog : ∀ c, c < n → hx_prog c v) (hxs : ∀ c, c < n → ¬ f_Core_isAccess (v 11 c (v 10 c 7).toNatClampNeg) = 0 → vp_in (v 12 c (v 10 c 7).toNatClampNeg) 4) (hnet : hx_net v) : Met l y_HD_step w_HD_step { frames := 5, cells := 0, slots := 0, locals := 116 } (va_Pc [.ref (ad 0 0), .int core_] (hx_B D cI cZ cM cC n ad v)) (va_Qi (fun r u => r = (f_HD_step n core_ v).1 ∧ u = (f_HD_step n core_ v).2) (fun u => hx_B D cI cZ cM cC n ad u) (hx_A n ad)) 0 0 (hx_A n ad) := by
  refine Met.ofW (cc := b_HD_step) (maxL := 2) (ret := (some .int)) (by decide) rfl ?_
  intro p e s m args below meth c s₁ B hml hv
  obtain ⟨rfl, hP, hK, hN⟩ := hv
  have hx := B.exec
  have hb := B.bytes
  have hr := B.returns
  have hlk := B.notSynchronized
  have hts0 := atoms_spec (ws := w_HD_step) B.pre
  have hts := fun w (hw : w ∈ lw_g) => hts0 w (List.mem_cons_of_mem _ hw)
  have hown : s.vm.findClass R_HD = some m.cls := findClass_of_methodNamed B.named
  have hA : ∀ q, hx_A n ad q → hx_A n ad q := fun _ h => h
  have hS : va_S (hx_A n ad) s.heap s.heap [] := va_S.rf
  have hl := lv_entry ([.ref (ad 0 0), .int core_]) (n := 2) (Nat.le_of_ble_eq_true rfl)
  rw [lg_entry_eq]
  generalize (lg_sl ([.ref (ad 0 0), .int core_]) ++ List.replicate (2 - (lg_sl ([.ref (ad 0 0), .int core_])).length) Slot.unset).toArray = ls at hl ⊢
  have hl : lv_has ls 2 [(0, .ref (ad 0 0)), (1, .int core_)] := hl
  refine lv_aload_n hx hb d_HD_step_0 rfl (lv_at hl 0 rfl) ?_
  refine lv_iload_n hx hb d_HD_step_1 rfl (lv_at hl 1 rfl) ?_
  refine hd_cI hK (va_runV (As := [.int core_]) (rest := []) ⟨hx, hb, hml, hown, hts⟩ (c_HD_isCore l hJ core_ v ) (cwV 1 hts (hd_gV g_HD_isCore k_184 k_186 s_0 k_1) rfl rfl rfl (by decide +kernel) ⟨Nat.le_of_ble_eq_true rfl, Nat.le_of_ble_eq_true rfl⟩) (hd_preV hK hN hP 0 0 Nat.one_pos rfl rfl [.int core_]) rfl rfl hl.1 rfl (lv_room (Nat.le_of_ble_eq_true rfl)) d_HD_step_2 ⟨Nat.zero_le _, Nat.zero_le _⟩) hS hA (fun H locs hP hS => ?_)
  refine lv_if_eq (tgt := 20) hx hb d_HD_step_5 (by decide) (fun h1 => ?_) (fun h1 => ?_)
  · refine lv_iconst (v := -1) hx hb d_HD_step_20 (by decide) ?_
    exact hd_iret hx hb hr hlk hK hN hP hS d_HD_step_21 ⟨by simp only [f_HD_step]; rw [if_pos h1], by simp only [f_HD_step]; rw [if_pos h1]⟩
  · have hcoh1 := in_HD_isCore hn4 h1
    refine lv_aload_n hx hb d_HD_step_8 rfl (lv_at hl 0 rfl) ?_
    refine hd_get (C := R_HD) (T := F_HD) (N := 3) hx hb hts i_HD hown hK hP 0 0 Nat.one_pos rfl rfl 2 (by decide) (hts _ k_172) (fun _ h9 => h9) rfl d_HD_step_9 ?_
    refine lv_iload_n hx hb d_HD_step_12 rfl (lv_at hl 1 rfl) ?_
    refine hd_aald hx hb hK hP 9 0 3 Nat.one_pos rfl rfl hcoh1 rfl d_HD_step_13 ?_
    refine hd_cIV hK (va_runV (As := []) (rest := []) ⟨hx, hb, hml, hown, hts⟩ (c_Core_advance l hJ core_.toNatClampNeg v (hd_lt hcoh1) (hprog _ (hd_lt hcoh1)) (hxs _ (hd_lt hcoh1)) hnet) (cwV 0 hts (hd_gV g_Core_advance k_213 k_214 k_215 k_7) rfl rfl rfl (by decide +kernel) ⟨Nat.le_of_ble_eq_true rfl, Nat.le_of_ble_eq_true rfl⟩) (hd_preV hK hN hP 10 core_.toNatClampNeg (hd_lt hcoh1) rfl rfl []) rfl rfl hl.1 rfl (lv_room (Nat.le_of_ble_eq_true rfl)) d_HD_step_14 ⟨Nat.zero_le _, Nat.zero_le _⟩) hS hA (fun H locs hP hS => ?_)
    refine lv_goto (tgt := 21) hx hb d_HD_step_17 (by decide) ?_
    exact hd_iret hx hb hr hlk hK hN hP hS d_HD_step_21 ⟨by simp only [f_HD_step]; rw [if_neg h1], by simp only [f_HD_step]; rw [if_neg h1]⟩
def f_HD_performed_L4 (n : Nat) : Nat → Int32 → Int32 → hd_V → Int32
  | 0, _, _, _ => 0
  | k + 1, y1, y2, v =>
    if (nI n) ≤ y2 then
      y1
    else
      let x102 : Int32 := y1 + (v 10 y2.toNatClampNeg 13)
      let x103 : Int32 := y2 + 1
      f_HD_performed_L4 n k x102 x103 v
def f_HD_performed (n : Nat) (v : hd_V) : Int32 :=
  f_HD_performed_L4 n 5 0 0 v
set_option maxHeartbeats 4000000 in
set_option maxRecDepth 100000 in
theorem c_HD_performed (l : Launch) {D : va_G} {cI cZ cM cC : ClassId} {n : Nat} {ad : Nat → Nat → Nat} (hJ : hd_J (hx_L n) ad) (v : hd_V) (hn4 : n ≤ 4) : Met l y_HD_performed w_HD_performed { frames := 0, cells := 0, slots := 0, locals := 0 } (va_Pc [.ref (ad 0 0)] (hx_B D cI cZ cM cC n ad v)) (va_Qi (fun r u => r = f_HD_performed n v ∧ u = v) (fun u => hx_B D cI cZ cM cC n ad u) (hx_A n ad)) 0 0 (hx_A n ad) := by
  refine Met.ofW (cc := b_HD_performed) (maxL := 3) (ret := (some .int)) (by decide) rfl ?_
  intro p e s m args below meth c s₁ B hml hv
  obtain ⟨rfl, hP, hK, hN⟩ := hv
  have hx := B.exec
  have hb := B.bytes
  have hr := B.returns
  have hlk := B.notSynchronized
  have hts0 := atoms_spec (ws := w_HD_performed) B.pre
  have hts := fun w (hw : w ∈ lw_g) => hts0 w (List.mem_cons_of_mem _ hw)
  have hown : s.vm.findClass R_HD = some m.cls := findClass_of_methodNamed B.named
  have hA : ∀ q, hx_A n ad q → hx_A n ad q := fun _ h => h
  have hS : va_S (hx_A n ad) s.heap s.heap [] := va_S.rf
  have hl := lv_entry ([.ref (ad 0 0)]) (n := 3) (Nat.le_of_ble_eq_true rfl)
  rw [lg_entry_eq]
  generalize (lg_sl ([.ref (ad 0 0)]) ++ List.replicate (3 - (lg_sl ([.ref (ad 0 0)])).length) Slot.unset).toArray = ls at hl ⊢
  have hl : lv_has ls 3 [(0, .ref (ad 0 0))] := hl
  have loop4 : ∀ (k i : Nat) (y1 y2 : Int32), (i ≤ n) → (n < i + k) → (y2 = nI i) → f_HD_performed n v = f_HD_performed_L4 n k y1 y2 v → ∀ (H : Heap) (locs : List Loc) (ls : Array Slot), hd_P D hx_cl (hx_L n) ad (hx_ce cI cZ cM cC n ad) v H → va_S (hx_A n ad) s.heap H locs → lv_has ls 3 [(2, .int y2), (1, .int y1), (0, .ref (ad 0 0))] → W p l e (headSpec w_HD_performed { frames := 0, cells := 0, slots := 0, locals := 0 }).room s m [.ref (ad 0 0)].toArray below meth c H locs 0 0 (MQ below (va_Qi (fun r u => r = f_HD_performed n v ∧ u = v) (fun u => hx_B D cI cZ cM cC n ad u) (hx_A n ad)) [.ref (ad 0 0)].toArray s 0 0 (hx_A n ad)) (F0 m 4 ls []) := by
    intro k
    induction k with
    | zero =>
      intro i y1 y2 hi1 hi2 hi3
      exact absurd hi2 (by omega)
    | succ k ih =>
      intro i y1 y2 hi1 hi2 hi3 hf H locs ls hP hS hl
      refine lv_iload_n hx hb d_HD_performed_4 rfl (lv_at hl 0 rfl) ?_
      refine lv_aload_n hx hb d_HD_performed_5 rfl (lv_at hl 2 rfl) ?_
      refine hd_get (C := R_HD) (T := F_HD) (N := 3) hx hb hts i_HD hown hK hP 0 0 Nat.one_pos rfl rfl 2 (by decide) (hts _ k_172) (fun _ h9 => h9) rfl d_HD_performed_6 ?_
      refine hd_alen (x := nI n) hx hb hK hP 9 0 3 Nat.one_pos rfl rfl rfl d_HD_performed_9 ?_
      refine lv_icmp_ge (tgt := 31) hx hb d_HD_performed_10 (by decide) (fun h101 => ?_) (fun h101 => ?_)
      · refine lv_iload_n hx hb d_HD_performed_31 rfl (lv_at hl 1 rfl) ?_
        exact hd_iret hx hb hr hlk hK hN hP hS d_HD_performed_32 ⟨by rw [hf]; simp only [f_HD_performed_L4]; rw [if_pos h101], rfl⟩
      · have hlt : i < n := hd_lp hi3 rfl (by omega) h101
        have hin : vp_in y2 n := hd_lpin hi3 (by omega) (by omega)
        refine lv_iload_n hx hb d_HD_performed_13 rfl (lv_at hl 1 rfl) ?_
        refine lv_aload_n hx hb d_HD_performed_14 rfl (lv_at hl 2 rfl) ?_
        refine hd_get (C := R_HD) (T := F_HD) (N := 3) hx hb hts i_HD hown hK hP 0 0 Nat.one_pos rfl rfl 2 (by decide) (hts _ k_172) (fun _ h9 => h9) rfl d_HD_performed_15 ?_
        refine lv_iload_n hx hb d_HD_performed_18 rfl (lv_at hl 0 rfl) ?_
        refine hd_aald hx hb hK hP 9 0 3 Nat.one_pos rfl rfl hin rfl d_HD_performed_19 ?_
        refine hd_getN (C := R_Core) (T := F_Core) (N := 14) hx hb hts i_Core hown hK hP 10 y2.toNatClampNeg (hd_lt hin) rfl rfl 13 (by decide) (hN.use k_140) (fun _ h9 => h9) rfl d_HD_performed_20 ?_
        refine lv_iadd hx hb d_HD_performed_23 ?_
        refine lv_topi (fun x102 ex102 => ?_)
        refine lv_istore_n (lv' := [(1, .int x102), (2, .int y2), (0, .ref (ad 0 0))]) hx hb d_HD_performed_24 rfl hl (by decide) rfl (fun ls hl => ?_)
        obtain ⟨x103, ex103⟩ : ∃ y : Int32, y = y2 + 1 := ⟨_, rfl⟩
        refine lv_iinc (v := x103) (lv' := [(2, .int x103), (1, .int x102), (0, .ref (ad 0 0))]) hx hb d_HD_performed_25 hl (k := 1) rfl (by rw [ex103]; rfl) (by decide) rfl (fun ls hl => ?_)
        refine lv_goto (tgt := 4) hx hb d_HD_performed_28 (by decide) ?_
        exact ih (i + 1) x102 x103 hlt (by omega) (by rw [ex103, hi3]; exact nI_1 i) (by rw [hf]; subst ex103; subst ex102; simp only [f_HD_performed_L4]; rw [if_neg h101]) _ _ _ hP hS (lv_sub hl [0, 1, 2] rfl)
  refine lv_iconst (v := 0) hx hb d_HD_performed_0 (by decide) ?_
  refine lv_istore_n (lv' := [(1, .int 0), (0, .ref (ad 0 0))]) hx hb d_HD_performed_1 rfl hl (by decide) rfl (fun ls hl => ?_)
  refine lv_iconst (v := 0) hx hb d_HD_performed_2 (by decide) ?_
  refine lv_istore_n (lv' := [(2, .int 0), (1, .int 0), (0, .ref (ad 0 0))]) hx hb d_HD_performed_3 rfl hl (by decide) rfl (fun ls hl => ?_)
  exact loop4 5 0 0 0 (by omega) (by omega) nI_0.symm (by simp only [f_HD_performed]) _ _ _ hP hS (lv_sub hl [0, 1, 2] rfl)
def f_HD_isStalled (n : Nat) (mj : Nat) (v : hd_V) : Int32 :=
  if (v 3 mj 2) = 4 then
    f_Home_stalls mj v
  else
    if (f_HD_isCore n (v 3 mj 2)) = 0 then
      0
    else
      if (f_Core_stalls ((v 3 mj 2).toNatClampNeg) mj v) = 0 then
        0
      else
        1
theorem z_HD_isStalled (n : Nat) (mj : Nat) (v : hd_V) : f_HD_isStalled n mj v = 0 ∨ f_HD_isStalled n mj v = 1 := by
  simp only [f_HD_isStalled]
  (repeat' split) <;> first | simp | exact z_Home_stalls _ _
set_option maxHeartbeats 4000000 in
set_option maxRecDepth 100000 in
theorem c_HD_isStalled (l : Launch) {D : va_G} {cI cZ cM cC : ClassId} {n : Nat} {ad : Nat → Nat → Nat} (hJ : hd_J (hx_L n) ad) (mj : Nat) (v : hd_V) (hmj : mj < 32) (hn4 : n ≤ 4) (hbl : vp_in (v 3 mj 3) 4) : Met l y_HD_isStalled w_HD_isStalled { frames := 1, cells := 0, slots := 0, locals := 23 } (va_Pc [.ref (ad 0 0), .ref (ad 3 mj)] (hx_B D cI cZ cM cC n ad v)) (va_Qi (fun r u => r = f_HD_isStalled n mj v ∧ u = v) (fun u => hx_B D cI cZ cM cC n ad u) (hx_A n ad)) 0 0 (hx_A n ad) := by
  refine Met.ofW (cc := b_HD_isStalled) (maxL := 2) (ret := (some .boolean)) (by decide) rfl ?_
  intro p e s m args below meth c s₁ B hml hv
  obtain ⟨rfl, hP, hK, hN⟩ := hv
  have hx := B.exec
  have hb := B.bytes
  have hr := B.returns
  have hlk := B.notSynchronized
  have hts0 := atoms_spec (ws := w_HD_isStalled) B.pre
  have hts := fun w (hw : w ∈ lw_g) => hts0 w (List.mem_cons_of_mem _ hw)
  have hown : s.vm.findClass R_HD = some m.cls := findClass_of_methodNamed B.named
  have hA : ∀ q, hx_A n ad q → hx_A n ad q := fun _ h => h
  have hS : va_S (hx_A n ad) s.heap s.heap [] := va_S.rf
  have hl := lv_entry ([.ref (ad 0 0), .ref (ad 3 mj)]) (n := 2) (Nat.le_of_ble_eq_true rfl)
  rw [lg_entry_eq]
  generalize (lg_sl ([.ref (ad 0 0), .ref (ad 3 mj)]) ++ List.replicate (2 - (lg_sl ([.ref (ad 0 0), .ref (ad 3 mj)])).length) Slot.unset).toArray = ls at hl ⊢
  have hl : lv_has ls 2 [(0, .ref (ad 0 0)), (1, .ref (ad 3 mj))] := hl
  refine lv_aload_n hx hb d_HD_isStalled_0 rfl (lv_at hl 1 rfl) ?_
  refine hd_getN (C := R_Msg) (T := F_Msg) (N := 7) hx hb hts i_Msg hown hK hP 3 mj hmj rfl rfl 2 (by decide) (hN.use k_46) (fun _ h9 => h9) rfl d_HD_isStalled_1 ?_
  refine lv_iconst (v := 4) hx hb d_HD_isStalled_4 (by decide) ?_
  refine lv_icmp_ne (tgt := 17) hx hb d_HD_isStalled_5 (by decide) (fun h1 => ?_) (fun h1 => ?_)
  · refine lv_aload_n hx hb d_HD_isStalled_17 rfl (lv_at hl 0 rfl) ?_
    refine lv_aload_n hx hb d_HD_isStalled_18 rfl (lv_at hl 1 rfl) ?_
    refine hd_getN (C := R_Msg) (T := F_Msg) (N := 7) hx hb hts i_Msg hown hK hP 3 mj hmj rfl rfl 2 (by decide) (hN.use k_46) (fun _ h9 => h9) rfl d_HD_isStalled_19 ?_
    refine hd_cI hK (va_runV (As := [.int (v 3 mj 2)]) (rest := []) ⟨hx, hb, hml, hown, hts⟩ (c_HD_isCore l hJ (v 3 mj 2) v ) (cwV 1 hts (hd_gV g_HD_isCore k_184 k_186 s_0 k_1) rfl rfl rfl (by decide +kernel) ⟨Nat.le_of_ble_eq_true rfl, Nat.le_of_ble_eq_true rfl⟩) (hd_preV hK hN hP 0 0 Nat.one_pos rfl rfl [.int (v 3 mj 2)]) rfl rfl hl.1 rfl (lv_room (Nat.le_of_ble_eq_true rfl)) d_HD_isStalled_22 ⟨Nat.zero_le _, Nat.zero_le _⟩) hS hA (fun H locs hP hS => ?_)
    refine lv_if_eq (tgt := 48) hx hb d_HD_isStalled_25 (by decide) (fun h2 => ?_) (fun h2 => ?_)
    · refine lv_iconst (v := 0) hx hb d_HD_isStalled_48 (by decide) ?_
      exact hd_zret hx hb hr hlk hK hN hP hS d_HD_isStalled_49 rfl ⟨by simp only [f_HD_isStalled]; rw [if_neg h1, if_pos h2], rfl⟩
    · have hcoh2 := in_HD_isCore hn4 h2
      refine lv_aload_n hx hb d_HD_isStalled_28 rfl (lv_at hl 0 rfl) ?_
      refine hd_get (C := R_HD) (T := F_HD) (N := 3) hx hb hts i_HD hown hK hP 0 0 Nat.one_pos rfl rfl 2 (by decide) (hts _ k_172) (fun _ h9 => h9) rfl d_HD_isStalled_29 ?_
      refine lv_aload_n hx hb d_HD_isStalled_32 rfl (lv_at hl 1 rfl) ?_
      refine hd_getN (C := R_Msg) (T := F_Msg) (N := 7) hx hb hts i_Msg hown hK hP 3 mj hmj rfl rfl 2 (by decide) (hN.use k_46) (fun _ h9 => h9) rfl d_HD_isStalled_33 ?_
      refine hd_aald hx hb hK hP 9 0 3 Nat.one_pos rfl rfl hcoh2 rfl d_HD_isStalled_36 ?_
      refine lv_aload_n hx hb d_HD_isStalled_37 rfl (lv_at hl 1 rfl) ?_
      refine hd_cI hK (va_runV (As := [.ref (ad 3 mj)]) (rest := []) ⟨hx, hb, hml, hown, hts⟩ (c_Core_stalls l hJ ((v 3 mj 2).toNatClampNeg) mj v (hd_lt hcoh2) hmj hbl) (cwV 1 hts (hd_gV g_Core_stalls k_293 k_294 k_295 k_7) rfl rfl rfl (by decide +kernel) ⟨Nat.le_of_ble_eq_true rfl, Nat.le_of_ble_eq_true rfl⟩) (hd_preV hK hN hP 10 ((v 3 mj 2).toNatClampNeg) (hd_lt hcoh2) rfl rfl [.ref (ad 3 mj)]) rfl rfl hl.1 rfl (lv_room (Nat.le_of_ble_eq_true rfl)) d_HD_isStalled_38 ⟨Nat.zero_le _, Nat.zero_le _⟩) hS hA (fun H locs hP hS => ?_)
      refine lv_if_eq (tgt := 48) hx hb d_HD_isStalled_41 (by decide) (fun h3 => ?_) (fun h3 => ?_)
      · refine lv_iconst (v := 0) hx hb d_HD_isStalled_48 (by decide) ?_
        exact hd_zret hx hb hr hlk hK hN hP hS d_HD_isStalled_49 rfl ⟨by simp only [f_HD_isStalled]; rw [if_neg h1, if_neg h2, if_pos h3], rfl⟩
      · refine lv_iconst (v := 1) hx hb d_HD_isStalled_44 (by decide) ?_
        refine lv_goto (tgt := 49) hx hb d_HD_isStalled_45 (by decide) ?_
        exact hd_zret hx hb hr hlk hK hN hP hS d_HD_isStalled_49 rfl ⟨by simp only [f_HD_isStalled]; rw [if_neg h1, if_neg h2, if_neg h3], rfl⟩
  · refine lv_aload_n hx hb d_HD_isStalled_8 rfl (lv_at hl 0 rfl) ?_
    refine hd_get (C := R_HD) (T := F_HD) (N := 3) hx hb hts i_HD hown hK hP 0 0 Nat.one_pos rfl rfl 1 (by decide) (hts _ k_171) (fun _ h9 => h9) rfl d_HD_isStalled_9 ?_
    refine lv_aload_n hx hb d_HD_isStalled_12 rfl (lv_at hl 1 rfl) ?_
    refine hd_cI hK (va_runV (As := [.ref (ad 3 mj)]) (rest := []) ⟨hx, hb, hml, hown, hts⟩ (c_Home_stalls l hJ mj v hmj hbl) (cwV 1 hts (hd_gV g_Home_stalls k_289 k_290 k_291 k_5) rfl rfl rfl (by decide +kernel) ⟨Nat.le_of_ble_eq_true rfl, Nat.le_of_ble_eq_true rfl⟩) (hd_preV hK hN hP 4 0 Nat.one_pos rfl rfl [.ref (ad 3 mj)]) rfl rfl hl.1 rfl (lv_room (Nat.le_of_ble_eq_true rfl)) d_HD_isStalled_13 ⟨Nat.zero_le _, Nat.zero_le _⟩) hS hA (fun H locs hP hS => ?_)
    exact hd_zret hx hb hr hlk hK hN hP hS d_HD_isStalled_16 (hd_nz (z_Home_stalls ..)) ⟨by simp only [f_HD_isStalled]; rw [if_pos h1], rfl⟩
def f_HD_handOver (n : Nat) (mj : Nat) (v : hd_V) : hd_V :=
  if (v 3 mj 2) = 4 then
    let v4 := f_Home_receive mj v
    v4
  else
    if (f_HD_isCore n (v 3 mj 2)) = 0 then
      v
    else
      let v3 := f_Core_receive ((v 3 mj 2).toNatClampNeg) mj v
      v3
set_option maxHeartbeats 4000000 in
set_option maxRecDepth 100000 in
theorem c_HD_handOver (l : Launch) {D : va_G} {cI cZ cM cC : ClassId} {n : Nat} {ad : Nat → Nat → Nat} (hJ : hd_J (hx_L n) ad) (mj : Nat) (v : hd_V) (hmj : mj < 32) (hn4 : n ≤ 4) (hbl : vp_in (v 3 mj 3) 4) (hnet : hx_net v) (hprog : ∀ c, c < n → hx_prog c v) (hfr : hx_fr mj v) : Met l y_HD_handOver w_HD_handOver { frames := 5, cells := 0, slots := 0, locals := 121 } (va_Pc [.ref (ad 0 0), .ref (ad 3 mj)] (hx_B D cI cZ cM cC n ad v)) (va_Qv (fun u => u = f_HD_handOver n mj v) (fun u => hx_B D cI cZ cM cC n ad u) (hx_A n ad)) 0 0 (hx_A n ad) := by
  refine Met.ofW (cc := b_HD_handOver) (maxL := 2) (ret := none) (by decide) rfl ?_
  intro p e s m args below meth c s₁ B hml hv
  obtain ⟨rfl, hP, hK, hN⟩ := hv
  have hx := B.exec
  have hb := B.bytes
  have hr := B.returns
  have hlk := B.notSynchronized
  have hts0 := atoms_spec (ws := w_HD_handOver) B.pre
  have hts := fun w (hw : w ∈ lw_g) => hts0 w (List.mem_cons_of_mem _ hw)
  have hown : s.vm.findClass R_HD = some m.cls := findClass_of_methodNamed B.named
  have hA : ∀ q, hx_A n ad q → hx_A n ad q := fun _ h => h
  have hS : va_S (hx_A n ad) s.heap s.heap [] := va_S.rf
  have hl := lv_entry ([.ref (ad 0 0), .ref (ad 3 mj)]) (n := 2) (Nat.le_of_ble_eq_true rfl)
  rw [lg_entry_eq]
  generalize (lg_sl ([.ref (ad 0 0), .ref (ad 3 mj)]) ++ List.replicate (2 - (lg_sl ([.ref (ad 0 0), .ref (ad 3 mj)])).length) Slot.unset).toArray = ls at hl ⊢
  have hl : lv_has ls 2 [(0, .ref (ad 0 0)), (1, .ref (ad 3 mj))] := hl
  refine lv_aload_n hx hb d_HD_handOver_0 rfl (lv_at hl 1 rfl) ?_
  refine hd_getN (C := R_Msg) (T := F_Msg) (N := 7) hx hb hts i_Msg hown hK hP 3 mj hmj rfl rfl 2 (by decide) (hN.use k_46) (fun _ h9 => h9) rfl d_HD_handOver_1 ?_
  refine lv_iconst (v := 4) hx hb d_HD_handOver_4 (by decide) ?_
  refine lv_icmp_ne (tgt := 19) hx hb d_HD_handOver_5 (by decide) (fun h1 => ?_) (fun h1 => ?_)
  · refine lv_aload_n hx hb d_HD_handOver_19 rfl (lv_at hl 0 rfl) ?_
    refine lv_aload_n hx hb d_HD_handOver_20 rfl (lv_at hl 1 rfl) ?_
    refine hd_getN (C := R_Msg) (T := F_Msg) (N := 7) hx hb hts i_Msg hown hK hP 3 mj hmj rfl rfl 2 (by decide) (hN.use k_46) (fun _ h9 => h9) rfl d_HD_handOver_21 ?_
    refine hd_cI hK (va_runV (As := [.int (v 3 mj 2)]) (rest := []) ⟨hx, hb, hml, hown, hts⟩ (c_HD_isCore l hJ (v 3 mj 2) v ) (cwV 1 hts (hd_gV g_HD_isCore k_184 k_186 s_0 k_1) rfl rfl rfl (by decide +kernel) ⟨Nat.le_of_ble_eq_true rfl, Nat.le_of_ble_eq_true rfl⟩) (hd_preV hK hN hP 0 0 Nat.one_pos rfl rfl [.int (v 3 mj 2)]) rfl rfl hl.1 rfl (lv_room (Nat.le_of_ble_eq_true rfl)) d_HD_handOver_24 ⟨Nat.zero_le _, Nat.zero_le _⟩) hS hA (fun H locs hP hS => ?_)
    refine lv_if_eq (tgt := 43) hx hb d_HD_handOver_27 (by decide) (fun h2 => ?_) (fun h2 => ?_)
    · exact hd_vret hx hb hr hlk hK hN hP hS d_HD_handOver_43 (by simp only [f_HD_handOver]; rw [if_neg h1, if_pos h2])
    · have hcoh2 := in_HD_isCore hn4 h2
      refine lv_aload_n hx hb d_HD_handOver_30 rfl (lv_at hl 0 rfl) ?_
      refine hd_get (C := R_HD) (T := F_HD) (N := 3) hx hb hts i_HD hown hK hP 0 0 Nat.one_pos rfl rfl 2 (by decide) (hts _ k_172) (fun _ h9 => h9) rfl d_HD_handOver_31 ?_
      refine lv_aload_n hx hb d_HD_handOver_34 rfl (lv_at hl 1 rfl) ?_
      refine hd_getN (C := R_Msg) (T := F_Msg) (N := 7) hx hb hts i_Msg hown hK hP 3 mj hmj rfl rfl 2 (by decide) (hN.use k_46) (fun _ h9 => h9) rfl d_HD_handOver_35 ?_
      refine hd_aald hx hb hK hP 9 0 3 Nat.one_pos rfl rfl hcoh2 rfl d_HD_handOver_38 ?_
      refine lv_aload_n hx hb d_HD_handOver_39 rfl (lv_at hl 1 rfl) ?_
      refine hd_cV hK (va_runV (As := [.ref (ad 3 mj)]) (rest := []) ⟨hx, hb, hml, hown, hts⟩ (c_Core_receive l hJ ((v 3 mj 2).toNatClampNeg) mj v (hd_lt hcoh2) hmj hbl hnet (hprog _ (hd_lt hcoh2)) hfr) (cwV 1 hts (hd_gV g_Core_receive k_347 k_348 k_349 k_7) rfl rfl rfl (by decide +kernel) ⟨Nat.le_of_ble_eq_true rfl, Nat.le_of_ble_eq_true rfl⟩) (hd_preV hK hN hP 10 ((v 3 mj 2).toNatClampNeg) (hd_lt hcoh2) rfl rfl [.ref (ad 3 mj)]) rfl rfl hl.1 rfl (lv_room (Nat.le_of_ble_eq_true rfl)) d_HD_handOver_40 ⟨Nat.zero_le _, Nat.zero_le _⟩) hS hA (fun H locs hP hS => ?_)
      exact hd_vret hx hb hr hlk hK hN hP hS d_HD_handOver_43 (by simp only [f_HD_handOver]; rw [if_neg h1, if_neg h2])
  · refine lv_aload_n hx hb d_HD_handOver_8 rfl (lv_at hl 0 rfl) ?_
    refine hd_get (C := R_HD) (T := F_HD) (N := 3) hx hb hts i_HD hown hK hP 0 0 Nat.one_pos rfl rfl 1 (by decide) (hts _ k_171) (fun _ h9 => h9) rfl d_HD_handOver_9 ?_
    refine lv_aload_n hx hb d_HD_handOver_12 rfl (lv_at hl 1 rfl) ?_
    refine hd_cV hK (va_runV (As := [.ref (ad 3 mj)]) (rest := []) ⟨hx, hb, hml, hown, hts⟩ (c_Home_receive l hJ mj v hmj hbl hnet) (cwV 1 hts (hd_gV g_Home_receive k_301 k_302 k_303 k_5) rfl rfl rfl (by decide +kernel) ⟨Nat.le_of_ble_eq_true rfl, Nat.le_of_ble_eq_true rfl⟩) (hd_preV hK hN hP 4 0 Nat.one_pos rfl rfl [.ref (ad 3 mj)]) rfl rfl hl.1 rfl (lv_room (Nat.le_of_ble_eq_true rfl)) d_HD_handOver_13 ⟨Nat.zero_le _, Nat.zero_le _⟩) hS hA (fun H locs hP hS => ?_)
    refine lv_goto (tgt := 43) hx hb d_HD_handOver_16 (by decide) ?_
    exact hd_vret hx hb hr hlk hK hN hP hS d_HD_handOver_43 (by simp only [f_HD_handOver]; rw [if_pos h1])
theorem up_HD_handOver {n mj : Nat} {v0 v : hd_V} (h : hx_up v0 v) : hx_up v0 (f_HD_handOver n mj v) := by
  simp only [f_HD_handOver]
  (repeat' split) <;> first | with_reducible exact h | with_reducible exact up_Home_receive h | with_reducible exact up_Core_receive h
def f_HD_deliver (n : Nat) (k_ : Int32) (v : hd_V) : Int32 × hd_V :=
  if (f_Net_has k_ v) = 0 then
    ((-1), v)
  else
    if (f_Net_isBehind k_ v) = 0 then
      if (f_HD_isStalled n ((v 2 0 k_.toNatClampNeg).toNatClampNeg) v) = 0 then
        let v4 := f_HD_handOver n ((v 2 0 k_.toNatClampNeg).toNatClampNeg) v
        let v5 := f_Net_takeOut k_ v4
        (v5 1 0 1, v5)
      else
        ((-3), v)
    else
      ((-2), v)
set_option maxHeartbeats 4000000 in
set_option maxRecDepth 100000 in
theorem c_HD_deliver (l : Launch) {D : va_G} {cI cZ cM cC : ClassId} {n : Nat} {ad : Nat → Nat → Nat} (hJ : hd_J (hx_L n) ad) (k_ : Int32) (v : hd_V) (hn4 : n ≤ 4) (hnet : hx_net v) (hct2 : (v 1 0 1).toInt ≤ 32) (hprog : ∀ c, c < n → hx_prog c v) (hmb : vp_in k_ 32 → k_ < v 1 0 1 → vp_in (v 3 (v 2 0 k_.toNatClampNeg).toNatClampNeg 3) 4 ∧ hx_fr (v 2 0 k_.toNatClampNeg).toNatClampNeg v) : Met l y_HD_deliver w_HD_deliver { frames := 6, cells := 0, slots := 0, locals := 142 } (va_Pc [.ref (ad 0 0), .int k_] (hx_B D cI cZ cM cC n ad v)) (va_Qi (fun r u => r = (f_HD_deliver n k_ v).1 ∧ u = (f_HD_deliver n k_ v).2) (fun u => hx_B D cI cZ cM cC n ad u) (hx_A n ad)) 0 0 (hx_A n ad) := by
  refine Met.ofW (cc := b_HD_deliver) (maxL := 3) (ret := (some .int)) (by decide) rfl ?_
  intro p e s m args below meth c s₁ B hml hv
  obtain ⟨rfl, hP, hK, hN⟩ := hv
  have hx := B.exec
  have hb := B.bytes
  have hr := B.returns
  have hlk := B.notSynchronized
  have hts0 := atoms_spec (ws := w_HD_deliver) B.pre
  have hts := fun w (hw : w ∈ lw_g) => hts0 w (List.mem_cons_of_mem _ hw)
  have hown : s.vm.findClass R_HD = some m.cls := findClass_of_methodNamed B.named
  have hA : ∀ q, hx_A n ad q → hx_A n ad q := fun _ h => h
  have hS : va_S (hx_A n ad) s.heap s.heap [] := va_S.rf
  have hl := lv_entry ([.ref (ad 0 0), .int k_]) (n := 3) (Nat.le_of_ble_eq_true rfl)
  rw [lg_entry_eq]
  generalize (lg_sl ([.ref (ad 0 0), .int k_]) ++ List.replicate (3 - (lg_sl ([.ref (ad 0 0), .int k_])).length) Slot.unset).toArray = ls at hl ⊢
  have hl : lv_has ls 3 [(0, .ref (ad 0 0)), (1, .int k_)] := hl
  refine lv_aload_n hx hb d_HD_deliver_0 rfl (lv_at hl 0 rfl) ?_
  refine hd_get (C := R_HD) (T := F_HD) (N := 3) hx hb hts i_HD hown hK hP 0 0 Nat.one_pos rfl rfl 0 (by decide) (hts _ k_170) (fun _ h9 => h9) rfl d_HD_deliver_1 ?_
  refine lv_iload_n hx hb d_HD_deliver_4 rfl (lv_at hl 1 rfl) ?_
  refine hd_cI hK (va_runV (As := [.int k_]) (rest := []) ⟨hx, hb, hml, hown, hts⟩ (c_Net_has l hJ k_ v ) (cwV 1 hts (hd_gV g_Net_has k_265 k_266 k_267 k_3) rfl rfl rfl (by decide +kernel) ⟨Nat.le_of_ble_eq_true rfl, Nat.le_of_ble_eq_true rfl⟩) (hd_preV hK hN hP 1 0 Nat.one_pos rfl rfl [.int k_]) rfl rfl hl.1 rfl (lv_room (Nat.le_of_ble_eq_true rfl)) d_HD_deliver_5 ⟨Nat.zero_le _, Nat.zero_le _⟩) hS hA (fun H locs hP hS => ?_)
  refine lv_if_ne (tgt := 13) hx hb d_HD_deliver_8 (by decide) (fun h1 => ?_) (fun h1 => ?_)
  · have hhsh1 := in_Net_has hnet.1 hct2 h1
    obtain ⟨hbl, hfr⟩ := hmb hhsh1.1 hhsh1.2
    refine lv_aload_n hx hb d_HD_deliver_13 rfl (lv_at hl 0 rfl) ?_
    refine hd_get (C := R_HD) (T := F_HD) (N := 3) hx hb hts i_HD hown hK hP 0 0 Nat.one_pos rfl rfl 0 (by decide) (hts _ k_170) (fun _ h9 => h9) rfl d_HD_deliver_14 ?_
    refine lv_iload_n hx hb d_HD_deliver_17 rfl (lv_at hl 1 rfl) ?_
    refine hd_cI hK (va_runV (As := [.int k_]) (rest := []) ⟨hx, hb, hml, hown, hts⟩ (c_Net_isBehind l hJ k_ v hhsh1.1 hnet) (cwV 1 hts (hd_gV g_Net_isBehind k_269 k_270 k_271 k_3) rfl rfl rfl (by decide +kernel) ⟨Nat.le_of_ble_eq_true rfl, Nat.le_of_ble_eq_true rfl⟩) (hd_preV hK hN hP 1 0 Nat.one_pos rfl rfl [.int k_]) rfl rfl hl.1 rfl (lv_room (Nat.le_of_ble_eq_true rfl)) d_HD_deliver_18 ⟨Nat.zero_le _, Nat.zero_le _⟩) hS hA (fun H locs hP hS => ?_)
    refine lv_if_eq (tgt := 27) hx hb d_HD_deliver_21 (by decide) (fun h2 => ?_) (fun h2 => ?_)
    · refine lv_aload_n hx hb d_HD_deliver_27 rfl (lv_at hl 0 rfl) ?_
      refine hd_get (C := R_HD) (T := F_HD) (N := 3) hx hb hts i_HD hown hK hP 0 0 Nat.one_pos rfl rfl 0 (by decide) (hts _ k_170) (fun _ h9 => h9) rfl d_HD_deliver_28 ?_
      refine lv_iload_n hx hb d_HD_deliver_31 rfl (lv_at hl 1 rfl) ?_
      refine hd_cR hK (va_runV (As := [.int k_]) (rest := []) ⟨hx, hb, hml, hown, hts⟩ (c_Net_at l hJ k_ v hhsh1.1) (cwV 1 hts (hd_gV g_Net_at k_281 k_282 k_283 k_3) rfl rfl rfl (by decide +kernel) ⟨Nat.le_of_ble_eq_true rfl, Nat.le_of_ble_eq_true rfl⟩) (hd_preV hK hN hP 1 0 Nat.one_pos rfl rfl [.int k_]) rfl rfl hl.1 rfl (lv_room (Nat.le_of_ble_eq_true rfl)) d_HD_deliver_32 ⟨Nat.zero_le _, Nat.zero_le _⟩) hS hA (fun H locs hP hS => ?_)
      refine lv_astore_n (lv' := [(2, .ref (ad 3 ((v 2 0 k_.toNatClampNeg).toNatClampNeg))), (0, .ref (ad 0 0)), (1, .int k_)]) hx hb d_HD_deliver_35 rfl hl (by decide) rfl (fun ls hl => ?_)
      refine lv_aload_n hx hb d_HD_deliver_36 rfl (lv_at hl 1 rfl) ?_
      refine lv_aload_n hx hb d_HD_deliver_37 rfl (lv_at hl 0 rfl) ?_
      refine hd_cI hK (va_runV (As := [.ref (ad 3 ((v 2 0 k_.toNatClampNeg).toNatClampNeg))]) (rest := []) ⟨hx, hb, hml, hown, hts⟩ (c_HD_isStalled l hJ ((v 2 0 k_.toNatClampNeg).toNatClampNeg) v (hnet.2 _ (hd_lt hhsh1.1)) hn4 hbl) (cwV 1 hts (hd_gV g_HD_isStalled k_285 k_287 s_10 k_1) rfl rfl rfl (by decide +kernel) ⟨Nat.le_of_ble_eq_true rfl, Nat.le_of_ble_eq_true rfl⟩) (hd_preV hK hN hP 0 0 Nat.one_pos rfl rfl [.ref (ad 3 ((v 2 0 k_.toNatClampNeg).toNatClampNeg))]) rfl rfl hl.1 rfl (lv_room (Nat.le_of_ble_eq_true rfl)) d_HD_deliver_38 ⟨Nat.zero_le _, Nat.zero_le _⟩) hS hA (fun H locs hP hS => ?_)
      refine lv_if_eq (tgt := 47) hx hb d_HD_deliver_41 (by decide) (fun h3 => ?_) (fun h3 => ?_)
      · refine lv_aload_n hx hb d_HD_deliver_47 rfl (lv_at hl 1 rfl) ?_
        refine lv_aload_n hx hb d_HD_deliver_48 rfl (lv_at hl 0 rfl) ?_
        refine hd_cV hK (va_runV (As := [.ref (ad 3 ((v 2 0 k_.toNatClampNeg).toNatClampNeg))]) (rest := []) ⟨hx, hb, hml, hown, hts⟩ (c_HD_handOver l hJ ((v 2 0 k_.toNatClampNeg).toNatClampNeg) v (hnet.2 _ (hd_lt hhsh1.1)) hn4 hbl hnet hprog hfr) (cwV 1 hts (hd_gV g_HD_handOver k_297 k_299 s_11 k_1) rfl rfl rfl (by decide +kernel) ⟨Nat.le_of_ble_eq_true rfl, Nat.le_of_ble_eq_true rfl⟩) (hd_preV hK hN hP 0 0 Nat.one_pos rfl rfl [.ref (ad 3 ((v 2 0 k_.toNatClampNeg).toNatClampNeg))]) rfl rfl hl.1 rfl (lv_room (Nat.le_of_ble_eq_true rfl)) d_HD_deliver_49 ⟨Nat.zero_le _, Nat.zero_le _⟩) hS hA (fun H locs hP hS => ?_)
        have hup := up_HD_handOver (n := n) (mj := (v 2 0 k_.toNatClampNeg).toNatClampNeg) (v0 := v) (v := v) ⟨hnet, hct2, Int.le_refl _, fun _ => rfl⟩
        refine lv_aload_n hx hb d_HD_deliver_52 rfl (lv_at hl 1 rfl) ?_
        refine hd_get (C := R_HD) (T := F_HD) (N := 3) hx hb hts i_HD hown hK hP 0 0 Nat.one_pos rfl rfl 0 (by decide) (hts _ k_170) (fun _ h9 => h9) rfl d_HD_deliver_53 ?_
        refine lv_iload_n hx hb d_HD_deliver_56 rfl (lv_at hl 2 rfl) ?_
        refine hd_cV hK (va_runV (As := [.int k_]) (rest := []) ⟨hx, hb, hml, hown, hts⟩ (c_Net_takeOut l hJ k_ (f_HD_handOver n ((v 2 0 k_.toNatClampNeg).toNatClampNeg) v) hhsh1.1 (hd_ltle hhsh1.2 hup.2.2.1) hup.2.1 hup.1) (cwV 1 hts (hd_gV g_Net_takeOut k_380 k_381 k_382 k_3) rfl rfl rfl (by decide +kernel) ⟨Nat.le_of_ble_eq_true rfl, Nat.le_of_ble_eq_true rfl⟩) (hd_preV hK hN hP 1 0 Nat.one_pos rfl rfl [.int k_]) rfl rfl hl.1 rfl (lv_room (Nat.le_of_ble_eq_true rfl)) d_HD_deliver_57 ⟨Nat.zero_le _, Nat.zero_le _⟩) hS hA (fun H locs hP hS => ?_)
        refine lv_aload_n hx hb d_HD_deliver_60 rfl (lv_at hl 1 rfl) ?_
        refine hd_get (C := R_HD) (T := F_HD) (N := 3) hx hb hts i_HD hown hK hP 0 0 Nat.one_pos rfl rfl 0 (by decide) (hts _ k_170) (fun _ h9 => h9) rfl d_HD_deliver_61 ?_
        refine hd_getN (C := R_Net) (T := F_Net) (N := 3) hx hb hts i_Net hown hK hP 1 0 Nat.one_pos rfl rfl 1 (by decide) (hN.use k_78) (fun _ h9 => h9) rfl d_HD_deliver_64 ?_
        exact hd_iret hx hb hr hlk hK hN hP hS d_HD_deliver_67 ⟨by simp only [f_HD_deliver]; rw [if_neg h1, if_pos h2, if_pos h3], by simp only [f_HD_deliver]; rw [if_neg h1, if_pos h2, if_pos h3]⟩
      · refine lv_bipush (v := -3) hx hb d_HD_deliver_44 (by decide) ?_
        exact hd_iret hx hb hr hlk hK hN hP hS d_HD_deliver_46 ⟨by simp only [f_HD_deliver]; rw [if_neg h1, if_pos h2, if_neg h3], by simp only [f_HD_deliver]; rw [if_neg h1, if_pos h2, if_neg h3]⟩
    · refine lv_bipush (v := -2) hx hb d_HD_deliver_24 (by decide) ?_
      exact hd_iret hx hb hr hlk hK hN hP hS d_HD_deliver_26 ⟨by simp only [f_HD_deliver]; rw [if_neg h1, if_neg h2], by simp only [f_HD_deliver]; rw [if_neg h1, if_neg h2]⟩
  · refine lv_iconst (v := -1) hx hb d_HD_deliver_11 (by decide) ?_
    exact hd_iret hx hb hr hlk hK hN hP hS d_HD_deliver_12 ⟨by simp only [f_HD_deliver]; rw [if_pos h1], by simp only [f_HD_deliver]; rw [if_pos h1]⟩
