def f_Mod_isCore (c_ : Int32) (v : hd_V) : Int32 :=
  if c_ < 0 then
    0
  else
    if (v 20 0 0) ≤ c_ then
      0
    else
      1
theorem z_Mod_isCore (c_ : Int32) (v : hd_V) : f_Mod_isCore c_ v = 0 ∨ f_Mod_isCore c_ v = 1 := by
  simp only [f_Mod_isCore]
  (repeat' split) <;> simp
set_option maxHeartbeats 4000000 in
set_option maxRecDepth 100000 in
theorem c_Mod_isCore (l : Launch) {D : va_G} {cI cZ cM cC : ClassId} {n : Nat} {ad : Nat → Nat → Nat} (hJ : hd_J (hx_L n) ad) (c_ : Int32) (v : hd_V) : Met l y_Mod_isCore w_Mod_isCore { frames := 0, cells := 0, slots := 0, locals := 0 } (va_Pc [.ref (ad 20 0), .int c_] (hx_B D cI cZ cM cC n ad v)) (va_Qi (fun r u => r = f_Mod_isCore c_ v ∧ u = v) (fun u => hx_B D cI cZ cM cC n ad u) (hx_A n ad)) 0 0 (hx_A n ad) := by
  refine Met.ofW (cc := b_Mod_isCore) (maxL := 2) (ret := (some .boolean)) (by decide) rfl ?_
  intro p e s m args below meth c s₁ B hml hv
  obtain ⟨rfl, hP, hK, hN⟩ := hv
  have hx := B.exec
  have hb := B.bytes
  have hr := B.returns
  have hlk := B.notSynchronized
  have hts0 := atoms_spec (ws := w_Mod_isCore) B.pre
  have hts := fun w (hw : w ∈ lw_g) => hts0 w (List.mem_cons_of_mem _ hw)
  have hown : s.vm.findClass R_Mod = some m.cls := findClass_of_methodNamed B.named
  have hA : ∀ q, hx_A n ad q → hx_A n ad q := fun _ h => h
  have hS : va_S (hx_A n ad) s.heap s.heap [] := va_S.rf
  have hl := lv_entry ([.ref (ad 20 0), .int c_]) (n := 2) (Nat.le_of_ble_eq_true rfl)
  rw [lg_entry_eq]
  generalize (lg_sl ([.ref (ad 20 0), .int c_]) ++ List.replicate (2 - (lg_sl ([.ref (ad 20 0), .int c_])).length) Slot.unset).toArray = ls at hl ⊢
  have hl : lv_has ls 2 [(0, .ref (ad 20 0)), (1, .int c_)] := hl
  refine lv_iload_n hx hb d_Mod_isCore_0 rfl (lv_at hl 1 rfl) ?_
  refine lv_if_lt (tgt := 16) hx hb d_Mod_isCore_1 (by decide) (fun h1 => ?_) (fun h1 => ?_)
  · refine lv_iconst (v := 0) hx hb d_Mod_isCore_16 (by decide) ?_
    exact hd_zret hx hb hr hlk hK hN hP hS d_Mod_isCore_17 rfl ⟨by simp only [f_Mod_isCore]; rw [if_pos h1], rfl⟩
  · refine lv_iload_n hx hb d_Mod_isCore_4 rfl (lv_at hl 1 rfl) ?_
    refine lv_aload_n hx hb d_Mod_isCore_5 rfl (lv_at hl 0 rfl) ?_
    refine hd_get (C := R_Mod) (T := F_Mod) (N := 27) hx hb hts i_Mod hown hK hP 20 0 Nat.one_pos he_20 rfl 0 (by decide) (hts _ k_446) (fun _ h9 => h9) hv_20_0 d_Mod_isCore_6 ?_
    refine lv_icmp_ge (tgt := 16) hx hb d_Mod_isCore_9 (by decide) (fun h2 => ?_) (fun h2 => ?_)
    · refine lv_iconst (v := 0) hx hb d_Mod_isCore_16 (by decide) ?_
      exact hd_zret hx hb hr hlk hK hN hP hS d_Mod_isCore_17 rfl ⟨by simp only [f_Mod_isCore]; rw [if_neg h1, if_pos h2], rfl⟩
    · refine lv_iconst (v := 1) hx hb d_Mod_isCore_12 (by decide) ?_
      refine lv_goto (tgt := 17) hx hb d_Mod_isCore_13 (by decide) ?_
      exact hd_zret hx hb hr hlk hK hN hP hS d_Mod_isCore_17 rfl ⟨by simp only [f_Mod_isCore]; rw [if_neg h1, if_neg h2], rfl⟩
def f_Mod_isBlock (b_ : Int32) : Int32 :=
  if b_ < 0 then
    0
  else
    if 3 < b_ then
      0
    else
      1
theorem z_Mod_isBlock (b_ : Int32) : f_Mod_isBlock b_ = 0 ∨ f_Mod_isBlock b_ = 1 := by
  simp only [f_Mod_isBlock]
  (repeat' split) <;> simp
set_option maxHeartbeats 4000000 in
set_option maxRecDepth 100000 in
theorem c_Mod_isBlock (l : Launch) {D : va_G} {cI cZ cM cC : ClassId} {n : Nat} {ad : Nat → Nat → Nat} (hJ : hd_J (hx_L n) ad) (b_ : Int32) (v : hd_V) : Met l y_Mod_isBlock w_Mod_isBlock { frames := 0, cells := 0, slots := 0, locals := 0 } (va_Pc [.int b_] (hx_B D cI cZ cM cC n ad v)) (va_Qi (fun r u => r = f_Mod_isBlock b_ ∧ u = v) (fun u => hx_B D cI cZ cM cC n ad u) (hx_A n ad)) 0 0 (hx_A n ad) := by
  refine Met.ofW (cc := b_Mod_isBlock) (maxL := 1) (ret := (some .boolean)) (by decide) rfl ?_
  intro p e s m args below meth c s₁ B hml hv
  obtain ⟨rfl, hP, hK, hN⟩ := hv
  have hx := B.exec
  have hb := B.bytes
  have hr := B.returns
  have hlk := B.notSynchronized
  have hts0 := atoms_spec (ws := w_Mod_isBlock) B.pre
  have hts := fun w (hw : w ∈ lw_g) => hts0 w (List.mem_cons_of_mem _ hw)
  have hown : s.vm.findClass R_Mod = some m.cls := findClass_of_methodNamed B.named
  have hA : ∀ q, hx_A n ad q → hx_A n ad q := fun _ h => h
  have hS : va_S (hx_A n ad) s.heap s.heap [] := va_S.rf
  have hl := lv_entry ([.int b_]) (n := 1) (Nat.le_of_ble_eq_true rfl)
  rw [lg_entry_eq]
  generalize (lg_sl ([.int b_]) ++ List.replicate (1 - (lg_sl ([.int b_])).length) Slot.unset).toArray = ls at hl ⊢
  have hl : lv_has ls 1 [(0, .int b_)] := hl
  refine lv_iload_n hx hb d_Mod_isBlock_0 rfl (lv_at hl 0 rfl) ?_
  refine lv_if_lt (tgt := 13) hx hb d_Mod_isBlock_1 (by decide) (fun h1 => ?_) (fun h1 => ?_)
  · refine lv_iconst (v := 0) hx hb d_Mod_isBlock_13 (by decide) ?_
    exact hd_zret hx hb hr hlk hK hN hP hS d_Mod_isBlock_14 rfl ⟨by simp only [f_Mod_isBlock]; rw [if_pos h1], rfl⟩
  · refine lv_iload_n hx hb d_Mod_isBlock_4 rfl (lv_at hl 0 rfl) ?_
    refine lv_iconst (v := 3) hx hb d_Mod_isBlock_5 (by decide) ?_
    refine lv_icmp_gt (tgt := 13) hx hb d_Mod_isBlock_6 (by decide) (fun h2 => ?_) (fun h2 => ?_)
    · refine lv_iconst (v := 0) hx hb d_Mod_isBlock_13 (by decide) ?_
      exact hd_zret hx hb hr hlk hK hN hP hS d_Mod_isBlock_14 rfl ⟨by simp only [f_Mod_isBlock]; rw [if_neg h1, if_pos h2], rfl⟩
    · refine lv_iconst (v := 1) hx hb d_Mod_isBlock_9 (by decide) ?_
      refine lv_goto (tgt := 14) hx hb d_Mod_isBlock_10 (by decide) ?_
      exact hd_zret hx hb hr hlk hK hN hP hS d_Mod_isBlock_14 rfl ⟨by simp only [f_Mod_isBlock]; rw [if_neg h1, if_neg h2], rfl⟩
def f_Mod_access (op_ : Int32) : Int32 :=
  if op_ = 0 then
    1
  else
    if op_ = 1 then
      1
    else
      if op_ = 5 then
        1
      else
        0
theorem z_Mod_access (op_ : Int32) : f_Mod_access op_ = 0 ∨ f_Mod_access op_ = 1 := by
  simp only [f_Mod_access]
  (repeat' split) <;> simp
set_option maxHeartbeats 4000000 in
set_option maxRecDepth 100000 in
theorem c_Mod_access (l : Launch) {D : va_G} {cI cZ cM cC : ClassId} {n : Nat} {ad : Nat → Nat → Nat} (hJ : hd_J (hx_L n) ad) (op_ : Int32) (v : hd_V) : Met l y_Mod_access w_Mod_access { frames := 0, cells := 0, slots := 0, locals := 0 } (va_Pc [.int op_] (hx_B D cI cZ cM cC n ad v)) (va_Qi (fun r u => r = f_Mod_access op_ ∧ u = v) (fun u => hx_B D cI cZ cM cC n ad u) (hx_A n ad)) 0 0 (hx_A n ad) := by
  refine Met.ofW (cc := b_Mod_access) (maxL := 1) (ret := (some .boolean)) (by decide) rfl ?_
  intro p e s m args below meth c s₁ B hml hv
  obtain ⟨rfl, hP, hK, hN⟩ := hv
  have hx := B.exec
  have hb := B.bytes
  have hr := B.returns
  have hlk := B.notSynchronized
  have hts0 := atoms_spec (ws := w_Mod_access) B.pre
  have hts := fun w (hw : w ∈ lw_g) => hts0 w (List.mem_cons_of_mem _ hw)
  have hown : s.vm.findClass R_Mod = some m.cls := findClass_of_methodNamed B.named
  have hA : ∀ q, hx_A n ad q → hx_A n ad q := fun _ h => h
  have hS : va_S (hx_A n ad) s.heap s.heap [] := va_S.rf
  have hl := lv_entry ([.int op_]) (n := 1) (Nat.le_of_ble_eq_true rfl)
  rw [lg_entry_eq]
  generalize (lg_sl ([.int op_]) ++ List.replicate (1 - (lg_sl ([.int op_])).length) Slot.unset).toArray = ls at hl ⊢
  have hl : lv_has ls 1 [(0, .int op_)] := hl
  refine lv_iload_n hx hb d_Mod_access_0 rfl (lv_at hl 0 rfl) ?_
  refine lv_if_eq (tgt := 14) hx hb d_Mod_access_1 (by decide) (fun h1 => ?_) (fun h1 => ?_)
  · refine lv_iconst (v := 1) hx hb d_Mod_access_14 (by decide) ?_
    refine lv_goto (tgt := 19) hx hb d_Mod_access_15 (by decide) ?_
    exact hd_zret hx hb hr hlk hK hN hP hS d_Mod_access_19 rfl ⟨by simp only [f_Mod_access]; rw [if_pos h1], rfl⟩
  · refine lv_iload_n hx hb d_Mod_access_4 rfl (lv_at hl 0 rfl) ?_
    refine lv_iconst (v := 1) hx hb d_Mod_access_5 (by decide) ?_
    refine lv_icmp_eq (tgt := 14) hx hb d_Mod_access_6 (by decide) (fun h2 => ?_) (fun h2 => ?_)
    · refine lv_iconst (v := 1) hx hb d_Mod_access_14 (by decide) ?_
      refine lv_goto (tgt := 19) hx hb d_Mod_access_15 (by decide) ?_
      exact hd_zret hx hb hr hlk hK hN hP hS d_Mod_access_19 rfl ⟨by simp only [f_Mod_access]; rw [if_neg h1, if_pos h2], rfl⟩
    · refine lv_iload_n hx hb d_Mod_access_9 rfl (lv_at hl 0 rfl) ?_
      refine lv_iconst (v := 5) hx hb d_Mod_access_10 (by decide) ?_
      refine lv_icmp_ne (tgt := 18) hx hb d_Mod_access_11 (by decide) (fun h3 => ?_) (fun h3 => ?_)
      · refine lv_iconst (v := 0) hx hb d_Mod_access_18 (by decide) ?_
        exact hd_zret hx hb hr hlk hK hN hP hS d_Mod_access_19 rfl ⟨by simp only [f_Mod_access]; rw [if_neg h1, if_neg h2, if_neg h3], rfl⟩
      · refine lv_iconst (v := 1) hx hb d_Mod_access_14 (by decide) ?_
        refine lv_goto (tgt := 19) hx hb d_Mod_access_15 (by decide) ?_
        exact hd_zret hx hb hr hlk hK hN hP hS d_Mod_access_19 rfl ⟨by simp only [f_Mod_access]; rw [if_neg h1, if_neg h2, if_pos h3], rfl⟩
theorem in_Mod_isCore {x : Int32} {v : hd_V} (hn : (v 20 0 0).toInt ≤ 4) (h : ¬ f_Mod_isCore x v = 0) : vp_in x 4 := by
  simp only [f_Mod_isCore] at h
  split at h
  · exact absurd rfl h
  · rename_i h1
    split at h
    · exact absurd rfl h
    · rename_i h2
      rw [vp_in_iff]
      rw [Int32.lt_iff_toInt_lt, show (0 : Int32).toInt = 0 from rfl] at h1
      rw [Int32.le_iff_toInt_le] at h2
      omega
theorem in_Mod_isBlock {x : Int32} (h : ¬ f_Mod_isBlock x = 0) : vp_in x 4 := by
  simp only [f_Mod_isBlock] at h
  split at h
  · exact absurd rfl h
  · rename_i h1
    split at h
    · exact absurd rfl h
    · rename_i h2
      rw [vp_in_iff]
      rw [Int32.lt_iff_toInt_lt, show (0 : Int32).toInt = 0 from rfl] at h1
      rw [Int32.lt_iff_toInt_lt, show (3 : Int32).toInt = 3 from rfl] at h2
      omega
def f_Mod_messages (v : hd_V) : Int32 :=
  v 20 0 17
set_option maxHeartbeats 4000000 in
set_option maxRecDepth 100000 in
theorem c_Mod_messages (l : Launch) {D : va_G} {cI cZ cM cC : ClassId} {n : Nat} {ad : Nat → Nat → Nat} (hJ : hd_J (hx_L n) ad) (v : hd_V) : Met l y_Mod_messages w_Mod_messages { frames := 0, cells := 0, slots := 0, locals := 0 } (va_Pc [.ref (ad 20 0)] (hx_B D cI cZ cM cC n ad v)) (va_Qi (fun r u => r = f_Mod_messages v ∧ u = v) (fun u => hx_B D cI cZ cM cC n ad u) (hx_A n ad)) 0 0 (hx_A n ad) := by
  refine Met.ofW (cc := b_Mod_messages) (maxL := 1) (ret := (some .int)) (by decide) rfl ?_
  intro p e s m args below meth c s₁ B hml hv
  obtain ⟨rfl, hP, hK, hN⟩ := hv
  have hx := B.exec
  have hb := B.bytes
  have hr := B.returns
  have hlk := B.notSynchronized
  have hts0 := atoms_spec (ws := w_Mod_messages) B.pre
  have hts := fun w (hw : w ∈ lw_g) => hts0 w (List.mem_cons_of_mem _ hw)
  have hown : s.vm.findClass R_Mod = some m.cls := findClass_of_methodNamed B.named
  have hA : ∀ q, hx_A n ad q → hx_A n ad q := fun _ h => h
  have hS : va_S (hx_A n ad) s.heap s.heap [] := va_S.rf
  have hl := lv_entry ([.ref (ad 20 0)]) (n := 1) (Nat.le_of_ble_eq_true rfl)
  rw [lg_entry_eq]
  generalize (lg_sl ([.ref (ad 20 0)]) ++ List.replicate (1 - (lg_sl ([.ref (ad 20 0)])).length) Slot.unset).toArray = ls at hl ⊢
  have hl : lv_has ls 1 [(0, .ref (ad 20 0))] := hl
  refine lv_aload_n hx hb d_Mod_messages_0 rfl (lv_at hl 0 rfl) ?_
  refine hd_get (C := R_Mod) (T := F_Mod) (N := 27) hx hb hts i_Mod hown hK hP 20 0 Nat.one_pos he_20 rfl 17 (by decide) (hts _ k_463) (fun _ h9 => h9) hv_20_17 d_Mod_messages_1 ?_
  exact hd_iret hx hb hr hlk hK hN hP hS d_Mod_messages_4 ⟨by simp only [f_Mod_messages], rfl⟩
def f_Mod_sent (v : hd_V) : Int32 :=
  v 20 0 18
set_option maxHeartbeats 4000000 in
set_option maxRecDepth 100000 in
theorem c_Mod_sent (l : Launch) {D : va_G} {cI cZ cM cC : ClassId} {n : Nat} {ad : Nat → Nat → Nat} (hJ : hd_J (hx_L n) ad) (v : hd_V) : Met l y_Mod_sent w_Mod_sent { frames := 0, cells := 0, slots := 0, locals := 0 } (va_Pc [.ref (ad 20 0)] (hx_B D cI cZ cM cC n ad v)) (va_Qi (fun r u => r = f_Mod_sent v ∧ u = v) (fun u => hx_B D cI cZ cM cC n ad u) (hx_A n ad)) 0 0 (hx_A n ad) := by
  refine Met.ofW (cc := b_Mod_sent) (maxL := 1) (ret := (some .int)) (by decide) rfl ?_
  intro p e s m args below meth c s₁ B hml hv
  obtain ⟨rfl, hP, hK, hN⟩ := hv
  have hx := B.exec
  have hb := B.bytes
  have hr := B.returns
  have hlk := B.notSynchronized
  have hts0 := atoms_spec (ws := w_Mod_sent) B.pre
  have hts := fun w (hw : w ∈ lw_g) => hts0 w (List.mem_cons_of_mem _ hw)
  have hown : s.vm.findClass R_Mod = some m.cls := findClass_of_methodNamed B.named
  have hA : ∀ q, hx_A n ad q → hx_A n ad q := fun _ h => h
  have hS : va_S (hx_A n ad) s.heap s.heap [] := va_S.rf
  have hl := lv_entry ([.ref (ad 20 0)]) (n := 1) (Nat.le_of_ble_eq_true rfl)
  rw [lg_entry_eq]
  generalize (lg_sl ([.ref (ad 20 0)]) ++ List.replicate (1 - (lg_sl ([.ref (ad 20 0)])).length) Slot.unset).toArray = ls at hl ⊢
  have hl : lv_has ls 1 [(0, .ref (ad 20 0))] := hl
  refine lv_aload_n hx hb d_Mod_sent_0 rfl (lv_at hl 0 rfl) ?_
  refine hd_get (C := R_Mod) (T := F_Mod) (N := 27) hx hb hts i_Mod hown hK hP 20 0 Nat.one_pos he_20 rfl 18 (by decide) (hts _ k_464) (fun _ h9 => h9) hv_20_18 d_Mod_sent_1 ?_
  exact hd_iret hx hb hr hlk hK hN hP hS d_Mod_sent_4 ⟨by simp only [f_Mod_sent], rfl⟩
def f_Mod_performed (v : hd_V) : Int32 :=
  v 20 0 19
set_option maxHeartbeats 4000000 in
set_option maxRecDepth 100000 in
theorem c_Mod_performed (l : Launch) {D : va_G} {cI cZ cM cC : ClassId} {n : Nat} {ad : Nat → Nat → Nat} (hJ : hd_J (hx_L n) ad) (v : hd_V) : Met l y_Mod_performed w_Mod_performed { frames := 0, cells := 0, slots := 0, locals := 0 } (va_Pc [.ref (ad 20 0)] (hx_B D cI cZ cM cC n ad v)) (va_Qi (fun r u => r = f_Mod_performed v ∧ u = v) (fun u => hx_B D cI cZ cM cC n ad u) (hx_A n ad)) 0 0 (hx_A n ad) := by
  refine Met.ofW (cc := b_Mod_performed) (maxL := 1) (ret := (some .int)) (by decide) rfl ?_
  intro p e s m args below meth c s₁ B hml hv
  obtain ⟨rfl, hP, hK, hN⟩ := hv
  have hx := B.exec
  have hb := B.bytes
  have hr := B.returns
  have hlk := B.notSynchronized
  have hts0 := atoms_spec (ws := w_Mod_performed) B.pre
  have hts := fun w (hw : w ∈ lw_g) => hts0 w (List.mem_cons_of_mem _ hw)
  have hown : s.vm.findClass R_Mod = some m.cls := findClass_of_methodNamed B.named
  have hA : ∀ q, hx_A n ad q → hx_A n ad q := fun _ h => h
  have hS : va_S (hx_A n ad) s.heap s.heap [] := va_S.rf
  have hl := lv_entry ([.ref (ad 20 0)]) (n := 1) (Nat.le_of_ble_eq_true rfl)
  rw [lg_entry_eq]
  generalize (lg_sl ([.ref (ad 20 0)]) ++ List.replicate (1 - (lg_sl ([.ref (ad 20 0)])).length) Slot.unset).toArray = ls at hl ⊢
  have hl : lv_has ls 1 [(0, .ref (ad 20 0))] := hl
  refine lv_aload_n hx hb d_Mod_performed_0 rfl (lv_at hl 0 rfl) ?_
  refine hd_get (C := R_Mod) (T := F_Mod) (N := 27) hx hb hts i_Mod hown hK hP 20 0 Nat.one_pos he_20 rfl 19 (by decide) (hts _ k_465) (fun _ h9 => h9) hv_20_19 d_Mod_performed_1 ?_
  exact hd_iret hx hb hr hlk hK hN hP hS d_Mod_performed_4 ⟨by simp only [f_Mod_performed], rfl⟩
def f_Mod_line (core_ : Int32) (block_ : Int32) (v : hd_V) : Int32 :=
  if (f_Mod_isCore core_ v) = 0 then
    (-1)
  else
    if (f_Mod_isBlock block_) = 0 then
      (-1)
    else
      v 28 0 ((4 * core_) + block_).toNatClampNeg
set_option maxHeartbeats 4000000 in
set_option maxRecDepth 100000 in
theorem c_Mod_line (l : Launch) {D : va_G} {cI cZ cM cC : ClassId} {n : Nat} {ad : Nat → Nat → Nat} (hJ : hd_J (hx_L n) ad) (core_ : Int32) (block_ : Int32) (v : hd_V) (hmn : (v 20 0 0).toInt ≤ 4) : Met l y_Mod_line w_Mod_line { frames := 1, cells := 0, slots := 0, locals := 21 } (va_Pc [.ref (ad 20 0), .int core_, .int block_] (hx_B D cI cZ cM cC n ad v)) (va_Qi (fun r u => r = f_Mod_line core_ block_ v ∧ u = v) (fun u => hx_B D cI cZ cM cC n ad u) (hx_A n ad)) 0 0 (hx_A n ad) := by
  refine Met.ofW (cc := b_Mod_line) (maxL := 3) (ret := (some .int)) (by decide) rfl ?_
  intro p e s m args below meth c s₁ B hml hv
  obtain ⟨rfl, hP, hK, hN⟩ := hv
  have hx := B.exec
  have hb := B.bytes
  have hr := B.returns
  have hlk := B.notSynchronized
  have hts0 := atoms_spec (ws := w_Mod_line) B.pre
  have hts := fun w (hw : w ∈ lw_g) => hts0 w (List.mem_cons_of_mem _ hw)
  have hown : s.vm.findClass R_Mod = some m.cls := findClass_of_methodNamed B.named
  have hA : ∀ q, hx_A n ad q → hx_A n ad q := fun _ h => h
  have hS : va_S (hx_A n ad) s.heap s.heap [] := va_S.rf
  have hl := lv_entry ([.ref (ad 20 0), .int core_, .int block_]) (n := 3) (Nat.le_of_ble_eq_true rfl)
  rw [lg_entry_eq]
  generalize (lg_sl ([.ref (ad 20 0), .int core_, .int block_]) ++ List.replicate (3 - (lg_sl ([.ref (ad 20 0), .int core_, .int block_])).length) Slot.unset).toArray = ls at hl ⊢
  have hl : lv_has ls 3 [(0, .ref (ad 20 0)), (1, .int core_), (2, .int block_)] := hl
  refine lv_aload_n hx hb d_Mod_line_0 rfl (lv_at hl 0 rfl) ?_
  refine lv_iload_n hx hb d_Mod_line_1 rfl (lv_at hl 1 rfl) ?_
  refine hd_cI hK (va_runV (As := [.int core_]) (rest := []) ⟨hx, hb, hml, hown, hts⟩ (c_Mod_isCore l hJ core_ v ) (cwV 1 hts (hd_gV g_Mod_isCore k_533 k_535 s_25 k_8) rfl rfl rfl (by decide +kernel) ⟨Nat.le_of_ble_eq_true rfl, Nat.le_of_ble_eq_true rfl⟩) (hd_preV hK hN hP 20 0 Nat.one_pos rfl rfl [.int core_]) rfl rfl hl.1 rfl (lv_room (Nat.le_of_ble_eq_true rfl)) d_Mod_line_2 ⟨Nat.zero_le _, Nat.zero_le _⟩) hS hA (fun H locs hP hS => ?_)
  refine lv_if_eq (tgt := 28) hx hb d_Mod_line_5 (by decide) (fun h1 => ?_) (fun h1 => ?_)
  · refine lv_iconst (v := -1) hx hb d_Mod_line_28 (by decide) ?_
    exact hd_iret hx hb hr hlk hK hN hP hS d_Mod_line_29 ⟨by simp only [f_Mod_line]; rw [if_pos h1], rfl⟩
  · have hmch1 := in_Mod_isCore hmn h1
    refine lv_iload_n hx hb d_Mod_line_8 rfl (lv_at hl 2 rfl) ?_
    refine hd_cI hK (va_runS (As := [.int block_]) (rest := []) ⟨hx, hb, hml, hown, hts⟩ (c_Mod_isBlock l hJ block_ v ) (va_cwS 1 hts (hd_gS g_Mod_isBlock k_540 k_541 k_8) rfl rfl rfl (by decide +kernel) ⟨Nat.le_of_ble_eq_true rfl, Nat.le_of_ble_eq_true rfl⟩) (hd_preS hK hN hP [.int block_]) rfl rfl hl.1 rfl (lv_room (Nat.le_of_ble_eq_true rfl)) d_Mod_line_9 ⟨Nat.zero_le _, Nat.zero_le _⟩) hS hA (fun H locs hP hS => ?_)
    refine lv_if_eq (tgt := 28) hx hb d_Mod_line_12 (by decide) (fun h2 => ?_) (fun h2 => ?_)
    · refine lv_iconst (v := -1) hx hb d_Mod_line_28 (by decide) ?_
      exact hd_iret hx hb hr hlk hK hN hP hS d_Mod_line_29 ⟨by simp only [f_Mod_line]; rw [if_neg h1, if_pos h2], rfl⟩
    · have hbkh2 := in_Mod_isBlock h2
      refine lv_aload_n hx hb d_Mod_line_15 rfl (lv_at hl 0 rfl) ?_
      refine hd_get (C := R_Mod) (T := F_Mod) (N := 27) hx hb hts i_Mod hown hK hP 20 0 Nat.one_pos he_20 rfl 8 (by decide) (hts _ k_454) (fun _ h9 => h9) hv_20_8 d_Mod_line_16 ?_
      refine lv_iconst (v := 4) hx hb d_Mod_line_19 (by decide) ?_
      refine lv_iload_n hx hb d_Mod_line_20 rfl (lv_at hl 1 rfl) ?_
      refine lv_imul hx hb d_Mod_line_21 ?_
      refine lv_iload_n hx hb d_Mod_line_22 rfl (lv_at hl 2 rfl) ?_
      refine lv_iadd hx hb d_Mod_line_23 ?_
      refine hd_iald hx hb hK hP 28 0 0 Nat.one_pos rfl rfl (mod_4 hmch1 hbkh2) d_Mod_line_24 ?_
      refine lv_goto (tgt := 29) hx hb d_Mod_line_25 (by decide) ?_
      exact hd_iret hx hb hr hlk hK hN hP hS d_Mod_line_29 ⟨by simp only [f_Mod_line]; rw [if_neg h1, if_neg h2], rfl⟩
def f_Mod_word (core_ : Int32) (block_ : Int32) (v : hd_V) : Int32 :=
  if (f_Mod_isCore core_ v) = 0 then
    0
  else
    if (f_Mod_isBlock block_) = 0 then
      0
    else
      let x3 : Int32 := v 28 0 ((4 * core_) + block_).toNatClampNeg
      if x3 = 1 then
        v 29 0 ((4 * core_) + block_).toNatClampNeg
      else
        if x3 = 2 then
          v 29 0 ((4 * core_) + block_).toNatClampNeg
        else
          if x3 = 6 then
            v 29 0 ((4 * core_) + block_).toNatClampNeg
          else
            if x3 = 7 then
              v 29 0 ((4 * core_) + block_).toNatClampNeg
            else
              if x3 = 8 then
                v 29 0 ((4 * core_) + block_).toNatClampNeg
              else
                if x3 = 9 then
                  v 29 0 ((4 * core_) + block_).toNatClampNeg
                else
                  0
set_option maxHeartbeats 4000000 in
set_option maxRecDepth 100000 in
theorem c_Mod_word (l : Launch) {D : va_G} {cI cZ cM cC : ClassId} {n : Nat} {ad : Nat → Nat → Nat} (hJ : hd_J (hx_L n) ad) (core_ : Int32) (block_ : Int32) (v : hd_V) (hmn : (v 20 0 0).toInt ≤ 4) : Met l y_Mod_word w_Mod_word { frames := 1, cells := 0, slots := 0, locals := 21 } (va_Pc [.ref (ad 20 0), .int core_, .int block_] (hx_B D cI cZ cM cC n ad v)) (va_Qi (fun r u => r = f_Mod_word core_ block_ v ∧ u = v) (fun u => hx_B D cI cZ cM cC n ad u) (hx_A n ad)) 0 0 (hx_A n ad) := by
  refine Met.ofW (cc := b_Mod_word) (maxL := 5) (ret := (some .int)) (by decide) rfl ?_
  intro p e s m args below meth c s₁ B hml hv
  obtain ⟨rfl, hP, hK, hN⟩ := hv
  have hx := B.exec
  have hb := B.bytes
  have hr := B.returns
  have hlk := B.notSynchronized
  have hts0 := atoms_spec (ws := w_Mod_word) B.pre
  have hts := fun w (hw : w ∈ lw_g) => hts0 w (List.mem_cons_of_mem _ hw)
  have hown : s.vm.findClass R_Mod = some m.cls := findClass_of_methodNamed B.named
  have hA : ∀ q, hx_A n ad q → hx_A n ad q := fun _ h => h
  have hS : va_S (hx_A n ad) s.heap s.heap [] := va_S.rf
  have hl := lv_entry ([.ref (ad 20 0), .int core_, .int block_]) (n := 5) (Nat.le_of_ble_eq_true rfl)
  rw [lg_entry_eq]
  generalize (lg_sl ([.ref (ad 20 0), .int core_, .int block_]) ++ List.replicate (5 - (lg_sl ([.ref (ad 20 0), .int core_, .int block_])).length) Slot.unset).toArray = ls at hl ⊢
  have hl : lv_has ls 5 [(0, .ref (ad 20 0)), (1, .int core_), (2, .int block_)] := hl
  refine lv_aload_n hx hb d_Mod_word_0 rfl (lv_at hl 0 rfl) ?_
  refine lv_iload_n hx hb d_Mod_word_1 rfl (lv_at hl 1 rfl) ?_
  refine hd_cI hK (va_runV (As := [.int core_]) (rest := []) ⟨hx, hb, hml, hown, hts⟩ (c_Mod_isCore l hJ core_ v ) (cwV 1 hts (hd_gV g_Mod_isCore k_533 k_535 s_25 k_8) rfl rfl rfl (by decide +kernel) ⟨Nat.le_of_ble_eq_true rfl, Nat.le_of_ble_eq_true rfl⟩) (hd_preV hK hN hP 20 0 Nat.one_pos rfl rfl [.int core_]) rfl rfl hl.1 rfl (lv_room (Nat.le_of_ble_eq_true rfl)) d_Mod_word_2 ⟨Nat.zero_le _, Nat.zero_le _⟩) hS hA (fun H locs hP hS => ?_)
  refine lv_if_eq (tgt := 15) hx hb d_Mod_word_5 (by decide) (fun h1 => ?_) (fun h1 => ?_)
  · refine lv_iconst (v := 0) hx hb d_Mod_word_15 (by decide) ?_
    exact hd_iret hx hb hr hlk hK hN hP hS d_Mod_word_16 ⟨by simp only [f_Mod_word]; rw [if_pos h1], rfl⟩
  · have hmch1 := in_Mod_isCore hmn h1
    refine lv_iload_n hx hb d_Mod_word_8 rfl (lv_at hl 2 rfl) ?_
    refine hd_cI hK (va_runS (As := [.int block_]) (rest := []) ⟨hx, hb, hml, hown, hts⟩ (c_Mod_isBlock l hJ block_ v ) (va_cwS 1 hts (hd_gS g_Mod_isBlock k_540 k_541 k_8) rfl rfl rfl (by decide +kernel) ⟨Nat.le_of_ble_eq_true rfl, Nat.le_of_ble_eq_true rfl⟩) (hd_preS hK hN hP [.int block_]) rfl rfl hl.1 rfl (lv_room (Nat.le_of_ble_eq_true rfl)) d_Mod_word_9 ⟨Nat.zero_le _, Nat.zero_le _⟩) hS hA (fun H locs hP hS => ?_)
    refine lv_if_ne (tgt := 17) hx hb d_Mod_word_12 (by decide) (fun h2 => ?_) (fun h2 => ?_)
    · have hbkh2 := in_Mod_isBlock h2
      refine lv_aload_n hx hb d_Mod_word_17 rfl (lv_at hl 0 rfl) ?_
      refine hd_get (C := R_Mod) (T := F_Mod) (N := 27) hx hb hts i_Mod hown hK hP 20 0 Nat.one_pos he_20 rfl 8 (by decide) (hts _ k_454) (fun _ h9 => h9) hv_20_8 d_Mod_word_18 ?_
      refine lv_iconst (v := 4) hx hb d_Mod_word_21 (by decide) ?_
      refine lv_iload_n hx hb d_Mod_word_22 rfl (lv_at hl 1 rfl) ?_
      refine lv_imul hx hb d_Mod_word_23 ?_
      refine lv_iload_n hx hb d_Mod_word_24 rfl (lv_at hl 2 rfl) ?_
      refine lv_iadd hx hb d_Mod_word_25 ?_
      refine hd_iald hx hb hK hP 28 0 0 Nat.one_pos rfl rfl (mod_4 hmch1 hbkh2) d_Mod_word_26 ?_
      refine lv_topi (fun x3 ex3 => ?_)
      refine lv_istore_n (lv' := [(3, .int x3), (0, .ref (ad 20 0)), (1, .int core_), (2, .int block_)]) hx hb d_Mod_word_27 rfl hl (by decide) rfl (fun ls hl => ?_)
      refine lv_iload_n hx hb d_Mod_word_28 rfl (lv_at hl 0 rfl) ?_
      refine lv_iconst (v := 1) hx hb d_Mod_word_29 (by decide) ?_
      refine lv_icmp_eq (tgt := 62) hx hb d_Mod_word_30 (by decide) (fun h4 => ?_) (fun h4 => ?_)
      · refine lv_iconst (v := 1) hx hb d_Mod_word_62 (by decide) ?_
        refine lv_goto (tgt := 67) hx hb d_Mod_word_63 (by decide) ?_
        refine lv_istore (lv' := [(4, .int 1), (3, .int x3), (0, .ref (ad 20 0)), (1, .int core_), (2, .int block_)]) hx hb d_Mod_word_67 hl (by decide) rfl (fun ls hl => ?_)
        refine lv_iload hx hb d_Mod_word_69 (lv_at hl 0 rfl) ?_
        refine lv_if_eq (tgt := 87) hx hb d_Mod_word_71 (by decide) (fun h5 => absurd h5 (by decide)) (fun h5 => ?_)
        refine lv_aload_n hx hb d_Mod_word_74 rfl (lv_at hl 2 rfl) ?_
        refine hd_get (C := R_Mod) (T := F_Mod) (N := 27) hx hb hts i_Mod hown hK hP 20 0 Nat.one_pos he_20 rfl 9 (by decide) (hts _ k_455) (fun _ h9 => h9) hv_20_9 d_Mod_word_75 ?_
        refine lv_iconst (v := 4) hx hb d_Mod_word_78 (by decide) ?_
        refine lv_iload_n hx hb d_Mod_word_79 rfl (lv_at hl 3 rfl) ?_
        refine lv_imul hx hb d_Mod_word_80 ?_
        refine lv_iload_n hx hb d_Mod_word_81 rfl (lv_at hl 4 rfl) ?_
        refine lv_iadd hx hb d_Mod_word_82 ?_
        refine hd_iald hx hb hK hP 29 0 0 Nat.one_pos rfl rfl (mod_4 hmch1 hbkh2) d_Mod_word_83 ?_
        refine lv_goto (tgt := 88) hx hb d_Mod_word_84 (by decide) ?_
        exact hd_iret hx hb hr hlk hK hN hP hS d_Mod_word_88 ⟨by subst ex3; simp only [f_Mod_word]; rw [if_neg h1, if_neg h2, if_pos h4], rfl⟩
      · refine lv_iload_n hx hb d_Mod_word_33 rfl (lv_at hl 0 rfl) ?_
        refine lv_iconst (v := 2) hx hb d_Mod_word_34 (by decide) ?_
        refine lv_icmp_eq (tgt := 62) hx hb d_Mod_word_35 (by decide) (fun h6 => ?_) (fun h6 => ?_)
        · refine lv_iconst (v := 1) hx hb d_Mod_word_62 (by decide) ?_
          refine lv_goto (tgt := 67) hx hb d_Mod_word_63 (by decide) ?_
          refine lv_istore (lv' := [(4, .int 1), (3, .int x3), (0, .ref (ad 20 0)), (1, .int core_), (2, .int block_)]) hx hb d_Mod_word_67 hl (by decide) rfl (fun ls hl => ?_)
          refine lv_iload hx hb d_Mod_word_69 (lv_at hl 0 rfl) ?_
          refine lv_if_eq (tgt := 87) hx hb d_Mod_word_71 (by decide) (fun h7 => absurd h7 (by decide)) (fun h7 => ?_)
          refine lv_aload_n hx hb d_Mod_word_74 rfl (lv_at hl 2 rfl) ?_
          refine hd_get (C := R_Mod) (T := F_Mod) (N := 27) hx hb hts i_Mod hown hK hP 20 0 Nat.one_pos he_20 rfl 9 (by decide) (hts _ k_455) (fun _ h9 => h9) hv_20_9 d_Mod_word_75 ?_
          refine lv_iconst (v := 4) hx hb d_Mod_word_78 (by decide) ?_
          refine lv_iload_n hx hb d_Mod_word_79 rfl (lv_at hl 3 rfl) ?_
          refine lv_imul hx hb d_Mod_word_80 ?_
          refine lv_iload_n hx hb d_Mod_word_81 rfl (lv_at hl 4 rfl) ?_
          refine lv_iadd hx hb d_Mod_word_82 ?_
          refine hd_iald hx hb hK hP 29 0 0 Nat.one_pos rfl rfl (mod_4 hmch1 hbkh2) d_Mod_word_83 ?_
          refine lv_goto (tgt := 88) hx hb d_Mod_word_84 (by decide) ?_
          exact hd_iret hx hb hr hlk hK hN hP hS d_Mod_word_88 ⟨by subst ex3; simp only [f_Mod_word]; rw [if_neg h1, if_neg h2, if_neg h4, if_pos h6], rfl⟩
        · refine lv_iload_n hx hb d_Mod_word_38 rfl (lv_at hl 0 rfl) ?_
          refine lv_bipush (v := 6) hx hb d_Mod_word_39 (by decide) ?_
          refine lv_icmp_eq (tgt := 62) hx hb d_Mod_word_41 (by decide) (fun h8 => ?_) (fun h8 => ?_)
          · refine lv_iconst (v := 1) hx hb d_Mod_word_62 (by decide) ?_
            refine lv_goto (tgt := 67) hx hb d_Mod_word_63 (by decide) ?_
            refine lv_istore (lv' := [(4, .int 1), (3, .int x3), (0, .ref (ad 20 0)), (1, .int core_), (2, .int block_)]) hx hb d_Mod_word_67 hl (by decide) rfl (fun ls hl => ?_)
            refine lv_iload hx hb d_Mod_word_69 (lv_at hl 0 rfl) ?_
            refine lv_if_eq (tgt := 87) hx hb d_Mod_word_71 (by decide) (fun h9 => absurd h9 (by decide)) (fun h9 => ?_)
            refine lv_aload_n hx hb d_Mod_word_74 rfl (lv_at hl 2 rfl) ?_
            refine hd_get (C := R_Mod) (T := F_Mod) (N := 27) hx hb hts i_Mod hown hK hP 20 0 Nat.one_pos he_20 rfl 9 (by decide) (hts _ k_455) (fun _ h9 => h9) hv_20_9 d_Mod_word_75 ?_
            refine lv_iconst (v := 4) hx hb d_Mod_word_78 (by decide) ?_
            refine lv_iload_n hx hb d_Mod_word_79 rfl (lv_at hl 3 rfl) ?_
            refine lv_imul hx hb d_Mod_word_80 ?_
            refine lv_iload_n hx hb d_Mod_word_81 rfl (lv_at hl 4 rfl) ?_
            refine lv_iadd hx hb d_Mod_word_82 ?_
            refine hd_iald hx hb hK hP 29 0 0 Nat.one_pos rfl rfl (mod_4 hmch1 hbkh2) d_Mod_word_83 ?_
            refine lv_goto (tgt := 88) hx hb d_Mod_word_84 (by decide) ?_
            exact hd_iret hx hb hr hlk hK hN hP hS d_Mod_word_88 ⟨by subst ex3; simp only [f_Mod_word]; rw [if_neg h1, if_neg h2, if_neg h4, if_neg h6, if_pos h8], rfl⟩
          · refine lv_iload_n hx hb d_Mod_word_44 rfl (lv_at hl 0 rfl) ?_
            refine lv_bipush (v := 7) hx hb d_Mod_word_45 (by decide) ?_
            refine lv_icmp_eq (tgt := 62) hx hb d_Mod_word_47 (by decide) (fun h10 => ?_) (fun h10 => ?_)
            · refine lv_iconst (v := 1) hx hb d_Mod_word_62 (by decide) ?_
              refine lv_goto (tgt := 67) hx hb d_Mod_word_63 (by decide) ?_
              refine lv_istore (lv' := [(4, .int 1), (3, .int x3), (0, .ref (ad 20 0)), (1, .int core_), (2, .int block_)]) hx hb d_Mod_word_67 hl (by decide) rfl (fun ls hl => ?_)
              refine lv_iload hx hb d_Mod_word_69 (lv_at hl 0 rfl) ?_
              refine lv_if_eq (tgt := 87) hx hb d_Mod_word_71 (by decide) (fun h11 => absurd h11 (by decide)) (fun h11 => ?_)
              refine lv_aload_n hx hb d_Mod_word_74 rfl (lv_at hl 2 rfl) ?_
              refine hd_get (C := R_Mod) (T := F_Mod) (N := 27) hx hb hts i_Mod hown hK hP 20 0 Nat.one_pos he_20 rfl 9 (by decide) (hts _ k_455) (fun _ h9 => h9) hv_20_9 d_Mod_word_75 ?_
              refine lv_iconst (v := 4) hx hb d_Mod_word_78 (by decide) ?_
              refine lv_iload_n hx hb d_Mod_word_79 rfl (lv_at hl 3 rfl) ?_
              refine lv_imul hx hb d_Mod_word_80 ?_
              refine lv_iload_n hx hb d_Mod_word_81 rfl (lv_at hl 4 rfl) ?_
              refine lv_iadd hx hb d_Mod_word_82 ?_
              refine hd_iald hx hb hK hP 29 0 0 Nat.one_pos rfl rfl (mod_4 hmch1 hbkh2) d_Mod_word_83 ?_
              refine lv_goto (tgt := 88) hx hb d_Mod_word_84 (by decide) ?_
              exact hd_iret hx hb hr hlk hK hN hP hS d_Mod_word_88 ⟨by subst ex3; simp only [f_Mod_word]; rw [if_neg h1, if_neg h2, if_neg h4, if_neg h6, if_neg h8, if_pos h10], rfl⟩
            · refine lv_iload_n hx hb d_Mod_word_50 rfl (lv_at hl 0 rfl) ?_
              refine lv_bipush (v := 8) hx hb d_Mod_word_51 (by decide) ?_
              refine lv_icmp_eq (tgt := 62) hx hb d_Mod_word_53 (by decide) (fun h12 => ?_) (fun h12 => ?_)
              · refine lv_iconst (v := 1) hx hb d_Mod_word_62 (by decide) ?_
                refine lv_goto (tgt := 67) hx hb d_Mod_word_63 (by decide) ?_
                refine lv_istore (lv' := [(4, .int 1), (3, .int x3), (0, .ref (ad 20 0)), (1, .int core_), (2, .int block_)]) hx hb d_Mod_word_67 hl (by decide) rfl (fun ls hl => ?_)
                refine lv_iload hx hb d_Mod_word_69 (lv_at hl 0 rfl) ?_
                refine lv_if_eq (tgt := 87) hx hb d_Mod_word_71 (by decide) (fun h13 => absurd h13 (by decide)) (fun h13 => ?_)
                refine lv_aload_n hx hb d_Mod_word_74 rfl (lv_at hl 2 rfl) ?_
                refine hd_get (C := R_Mod) (T := F_Mod) (N := 27) hx hb hts i_Mod hown hK hP 20 0 Nat.one_pos he_20 rfl 9 (by decide) (hts _ k_455) (fun _ h9 => h9) hv_20_9 d_Mod_word_75 ?_
                refine lv_iconst (v := 4) hx hb d_Mod_word_78 (by decide) ?_
                refine lv_iload_n hx hb d_Mod_word_79 rfl (lv_at hl 3 rfl) ?_
                refine lv_imul hx hb d_Mod_word_80 ?_
                refine lv_iload_n hx hb d_Mod_word_81 rfl (lv_at hl 4 rfl) ?_
                refine lv_iadd hx hb d_Mod_word_82 ?_
                refine hd_iald hx hb hK hP 29 0 0 Nat.one_pos rfl rfl (mod_4 hmch1 hbkh2) d_Mod_word_83 ?_
                refine lv_goto (tgt := 88) hx hb d_Mod_word_84 (by decide) ?_
                exact hd_iret hx hb hr hlk hK hN hP hS d_Mod_word_88 ⟨by subst ex3; simp only [f_Mod_word]; rw [if_neg h1, if_neg h2, if_neg h4, if_neg h6, if_neg h8, if_neg h10, if_pos h12], rfl⟩
              · refine lv_iload_n hx hb d_Mod_word_56 rfl (lv_at hl 0 rfl) ?_
                refine lv_bipush (v := 9) hx hb d_Mod_word_57 (by decide) ?_
                refine lv_icmp_ne (tgt := 66) hx hb d_Mod_word_59 (by decide) (fun h14 => ?_) (fun h14 => ?_)
                · refine lv_iconst (v := 0) hx hb d_Mod_word_66 (by decide) ?_
                  refine lv_istore (lv' := [(4, .int 0), (3, .int x3), (0, .ref (ad 20 0)), (1, .int core_), (2, .int block_)]) hx hb d_Mod_word_67 hl (by decide) rfl (fun ls hl => ?_)
                  refine lv_iload hx hb d_Mod_word_69 (lv_at hl 0 rfl) ?_
                  refine lv_if_eq (tgt := 87) hx hb d_Mod_word_71 (by decide) (fun h15 => ?_) (fun h15 => absurd (by decide) h15)
                  refine lv_iconst (v := 0) hx hb d_Mod_word_87 (by decide) ?_
                  exact hd_iret hx hb hr hlk hK hN hP hS d_Mod_word_88 ⟨by subst ex3; simp only [f_Mod_word]; rw [if_neg h1, if_neg h2, if_neg h4, if_neg h6, if_neg h8, if_neg h10, if_neg h12, if_neg h14], rfl⟩
                · refine lv_iconst (v := 1) hx hb d_Mod_word_62 (by decide) ?_
                  refine lv_goto (tgt := 67) hx hb d_Mod_word_63 (by decide) ?_
                  refine lv_istore (lv' := [(4, .int 1), (3, .int x3), (0, .ref (ad 20 0)), (1, .int core_), (2, .int block_)]) hx hb d_Mod_word_67 hl (by decide) rfl (fun ls hl => ?_)
                  refine lv_iload hx hb d_Mod_word_69 (lv_at hl 0 rfl) ?_
                  refine lv_if_eq (tgt := 87) hx hb d_Mod_word_71 (by decide) (fun h16 => absurd h16 (by decide)) (fun h16 => ?_)
                  refine lv_aload_n hx hb d_Mod_word_74 rfl (lv_at hl 2 rfl) ?_
                  refine hd_get (C := R_Mod) (T := F_Mod) (N := 27) hx hb hts i_Mod hown hK hP 20 0 Nat.one_pos he_20 rfl 9 (by decide) (hts _ k_455) (fun _ h9 => h9) hv_20_9 d_Mod_word_75 ?_
                  refine lv_iconst (v := 4) hx hb d_Mod_word_78 (by decide) ?_
                  refine lv_iload_n hx hb d_Mod_word_79 rfl (lv_at hl 3 rfl) ?_
                  refine lv_imul hx hb d_Mod_word_80 ?_
                  refine lv_iload_n hx hb d_Mod_word_81 rfl (lv_at hl 4 rfl) ?_
                  refine lv_iadd hx hb d_Mod_word_82 ?_
                  refine hd_iald hx hb hK hP 29 0 0 Nat.one_pos rfl rfl (mod_4 hmch1 hbkh2) d_Mod_word_83 ?_
                  refine lv_goto (tgt := 88) hx hb d_Mod_word_84 (by decide) ?_
                  exact hd_iret hx hb hr hlk hK hN hP hS d_Mod_word_88 ⟨by subst ex3; simp only [f_Mod_word]; rw [if_neg h1, if_neg h2, if_neg h4, if_neg h6, if_neg h8, if_neg h10, if_neg h12, if_pos h14], rfl⟩
    · refine lv_iconst (v := 0) hx hb d_Mod_word_15 (by decide) ?_
      exact hd_iret hx hb hr hlk hK hN hP hS d_Mod_word_16 ⟨by simp only [f_Mod_word]; rw [if_neg h1, if_pos h2], rfl⟩
def f_Mod_memory (block_ : Int32) (v : hd_V) : Int32 :=
  if (f_Mod_isBlock block_) = 0 then
    0
  else
    v 33 0 block_.toNatClampNeg
set_option maxHeartbeats 4000000 in
set_option maxRecDepth 100000 in
theorem c_Mod_memory (l : Launch) {D : va_G} {cI cZ cM cC : ClassId} {n : Nat} {ad : Nat → Nat → Nat} (hJ : hd_J (hx_L n) ad) (block_ : Int32) (v : hd_V) : Met l y_Mod_memory w_Mod_memory { frames := 1, cells := 0, slots := 0, locals := 20 } (va_Pc [.ref (ad 20 0), .int block_] (hx_B D cI cZ cM cC n ad v)) (va_Qi (fun r u => r = f_Mod_memory block_ v ∧ u = v) (fun u => hx_B D cI cZ cM cC n ad u) (hx_A n ad)) 0 0 (hx_A n ad) := by
  refine Met.ofW (cc := b_Mod_memory) (maxL := 2) (ret := (some .int)) (by decide) rfl ?_
  intro p e s m args below meth c s₁ B hml hv
  obtain ⟨rfl, hP, hK, hN⟩ := hv
  have hx := B.exec
  have hb := B.bytes
  have hr := B.returns
  have hlk := B.notSynchronized
  have hts0 := atoms_spec (ws := w_Mod_memory) B.pre
  have hts := fun w (hw : w ∈ lw_g) => hts0 w (List.mem_cons_of_mem _ hw)
  have hown : s.vm.findClass R_Mod = some m.cls := findClass_of_methodNamed B.named
  have hA : ∀ q, hx_A n ad q → hx_A n ad q := fun _ h => h
  have hS : va_S (hx_A n ad) s.heap s.heap [] := va_S.rf
  have hl := lv_entry ([.ref (ad 20 0), .int block_]) (n := 2) (Nat.le_of_ble_eq_true rfl)
  rw [lg_entry_eq]
  generalize (lg_sl ([.ref (ad 20 0), .int block_]) ++ List.replicate (2 - (lg_sl ([.ref (ad 20 0), .int block_])).length) Slot.unset).toArray = ls at hl ⊢
  have hl : lv_has ls 2 [(0, .ref (ad 20 0)), (1, .int block_)] := hl
  refine lv_iload_n hx hb d_Mod_memory_0 rfl (lv_at hl 1 rfl) ?_
  refine hd_cI hK (va_runS (As := [.int block_]) (rest := []) ⟨hx, hb, hml, hown, hts⟩ (c_Mod_isBlock l hJ block_ v ) (va_cwS 1 hts (hd_gS g_Mod_isBlock k_540 k_541 k_8) rfl rfl rfl (by decide +kernel) ⟨Nat.le_of_ble_eq_true rfl, Nat.le_of_ble_eq_true rfl⟩) (hd_preS hK hN hP [.int block_]) rfl rfl hl.1 rfl (lv_room (Nat.le_of_ble_eq_true rfl)) d_Mod_memory_1 ⟨Nat.zero_le _, Nat.zero_le _⟩) hS hA (fun H locs hP hS => ?_)
  refine lv_if_eq (tgt := 16) hx hb d_Mod_memory_4 (by decide) (fun h1 => ?_) (fun h1 => ?_)
  · refine lv_iconst (v := 0) hx hb d_Mod_memory_16 (by decide) ?_
    exact hd_iret hx hb hr hlk hK hN hP hS d_Mod_memory_17 ⟨by simp only [f_Mod_memory]; rw [if_pos h1], rfl⟩
  · have hbkh1 := in_Mod_isBlock h1
    refine lv_aload_n hx hb d_Mod_memory_7 rfl (lv_at hl 0 rfl) ?_
    refine hd_get (C := R_Mod) (T := F_Mod) (N := 27) hx hb hts i_Mod hown hK hP 20 0 Nat.one_pos he_20 rfl 13 (by decide) (hts _ k_459) (fun _ h9 => h9) hv_20_13 d_Mod_memory_8 ?_
    refine lv_iload_n hx hb d_Mod_memory_11 rfl (lv_at hl 1 rfl) ?_
    refine hd_iald hx hb hK hP 33 0 0 Nat.one_pos rfl rfl hbkh1 d_Mod_memory_12 ?_
    refine lv_goto (tgt := 17) hx hb d_Mod_memory_13 (by decide) ?_
    exact hd_iret hx hb hr hlk hK hN hP hS d_Mod_memory_17 ⟨by simp only [f_Mod_memory]; rw [if_neg h1], rfl⟩
def f_Mod_accumulator (core_ : Int32) (v : hd_V) : Int32 :=
  if (f_Mod_isCore core_ v) = 0 then
    0
  else
    v 22 0 core_.toNatClampNeg
set_option maxHeartbeats 4000000 in
set_option maxRecDepth 100000 in
theorem c_Mod_accumulator (l : Launch) {D : va_G} {cI cZ cM cC : ClassId} {n : Nat} {ad : Nat → Nat → Nat} (hJ : hd_J (hx_L n) ad) (core_ : Int32) (v : hd_V) (hmn : (v 20 0 0).toInt ≤ 4) : Met l y_Mod_accumulator w_Mod_accumulator { frames := 1, cells := 0, slots := 0, locals := 21 } (va_Pc [.ref (ad 20 0), .int core_] (hx_B D cI cZ cM cC n ad v)) (va_Qi (fun r u => r = f_Mod_accumulator core_ v ∧ u = v) (fun u => hx_B D cI cZ cM cC n ad u) (hx_A n ad)) 0 0 (hx_A n ad) := by
  refine Met.ofW (cc := b_Mod_accumulator) (maxL := 2) (ret := (some .int)) (by decide) rfl ?_
  intro p e s m args below meth c s₁ B hml hv
  obtain ⟨rfl, hP, hK, hN⟩ := hv
  have hx := B.exec
  have hb := B.bytes
  have hr := B.returns
  have hlk := B.notSynchronized
  have hts0 := atoms_spec (ws := w_Mod_accumulator) B.pre
  have hts := fun w (hw : w ∈ lw_g) => hts0 w (List.mem_cons_of_mem _ hw)
  have hown : s.vm.findClass R_Mod = some m.cls := findClass_of_methodNamed B.named
  have hA : ∀ q, hx_A n ad q → hx_A n ad q := fun _ h => h
  have hS : va_S (hx_A n ad) s.heap s.heap [] := va_S.rf
  have hl := lv_entry ([.ref (ad 20 0), .int core_]) (n := 2) (Nat.le_of_ble_eq_true rfl)
  rw [lg_entry_eq]
  generalize (lg_sl ([.ref (ad 20 0), .int core_]) ++ List.replicate (2 - (lg_sl ([.ref (ad 20 0), .int core_])).length) Slot.unset).toArray = ls at hl ⊢
  have hl : lv_has ls 2 [(0, .ref (ad 20 0)), (1, .int core_)] := hl
  refine lv_aload_n hx hb d_Mod_accumulator_0 rfl (lv_at hl 0 rfl) ?_
  refine lv_iload_n hx hb d_Mod_accumulator_1 rfl (lv_at hl 1 rfl) ?_
  refine hd_cI hK (va_runV (As := [.int core_]) (rest := []) ⟨hx, hb, hml, hown, hts⟩ (c_Mod_isCore l hJ core_ v ) (cwV 1 hts (hd_gV g_Mod_isCore k_533 k_535 s_25 k_8) rfl rfl rfl (by decide +kernel) ⟨Nat.le_of_ble_eq_true rfl, Nat.le_of_ble_eq_true rfl⟩) (hd_preV hK hN hP 20 0 Nat.one_pos rfl rfl [.int core_]) rfl rfl hl.1 rfl (lv_room (Nat.le_of_ble_eq_true rfl)) d_Mod_accumulator_2 ⟨Nat.zero_le _, Nat.zero_le _⟩) hS hA (fun H locs hP hS => ?_)
  refine lv_if_eq (tgt := 17) hx hb d_Mod_accumulator_5 (by decide) (fun h1 => ?_) (fun h1 => ?_)
  · refine lv_iconst (v := 0) hx hb d_Mod_accumulator_17 (by decide) ?_
    exact hd_iret hx hb hr hlk hK hN hP hS d_Mod_accumulator_18 ⟨by simp only [f_Mod_accumulator]; rw [if_pos h1], rfl⟩
  · have hmch1 := in_Mod_isCore hmn h1
    refine lv_aload_n hx hb d_Mod_accumulator_8 rfl (lv_at hl 0 rfl) ?_
    refine hd_get (C := R_Mod) (T := F_Mod) (N := 27) hx hb hts i_Mod hown hK hP 20 0 Nat.one_pos he_20 rfl 2 (by decide) (hts _ k_448) (fun _ h9 => h9) hv_20_2 d_Mod_accumulator_9 ?_
    refine lv_iload_n hx hb d_Mod_accumulator_12 rfl (lv_at hl 1 rfl) ?_
    refine hd_iald hx hb hK hP 22 0 0 Nat.one_pos rfl rfl hmch1 d_Mod_accumulator_13 ?_
    refine lv_goto (tgt := 18) hx hb d_Mod_accumulator_14 (by decide) ?_
    exact hd_iret hx hb hr hlk hK hN hP hS d_Mod_accumulator_18 ⟨by simp only [f_Mod_accumulator]; rw [if_neg h1], rfl⟩
def f_Mod_place (core_ : Int32) (v : hd_V) : Int32 :=
  if (f_Mod_isCore core_ v) = 0 then
    (-1)
  else
    (v 26 0 core_.toNatClampNeg) + (32 * (v 27 0 core_.toNatClampNeg))
set_option maxHeartbeats 4000000 in
set_option maxRecDepth 100000 in
theorem c_Mod_place (l : Launch) {D : va_G} {cI cZ cM cC : ClassId} {n : Nat} {ad : Nat → Nat → Nat} (hJ : hd_J (hx_L n) ad) (core_ : Int32) (v : hd_V) (hmn : (v 20 0 0).toInt ≤ 4) : Met l y_Mod_place w_Mod_place { frames := 1, cells := 0, slots := 0, locals := 21 } (va_Pc [.ref (ad 20 0), .int core_] (hx_B D cI cZ cM cC n ad v)) (va_Qi (fun r u => r = f_Mod_place core_ v ∧ u = v) (fun u => hx_B D cI cZ cM cC n ad u) (hx_A n ad)) 0 0 (hx_A n ad) := by
  refine Met.ofW (cc := b_Mod_place) (maxL := 2) (ret := (some .int)) (by decide) rfl ?_
  intro p e s m args below meth c s₁ B hml hv
  obtain ⟨rfl, hP, hK, hN⟩ := hv
  have hx := B.exec
  have hb := B.bytes
  have hr := B.returns
  have hlk := B.notSynchronized
  have hts0 := atoms_spec (ws := w_Mod_place) B.pre
  have hts := fun w (hw : w ∈ lw_g) => hts0 w (List.mem_cons_of_mem _ hw)
  have hown : s.vm.findClass R_Mod = some m.cls := findClass_of_methodNamed B.named
  have hA : ∀ q, hx_A n ad q → hx_A n ad q := fun _ h => h
  have hS : va_S (hx_A n ad) s.heap s.heap [] := va_S.rf
  have hl := lv_entry ([.ref (ad 20 0), .int core_]) (n := 2) (Nat.le_of_ble_eq_true rfl)
  rw [lg_entry_eq]
  generalize (lg_sl ([.ref (ad 20 0), .int core_]) ++ List.replicate (2 - (lg_sl ([.ref (ad 20 0), .int core_])).length) Slot.unset).toArray = ls at hl ⊢
  have hl : lv_has ls 2 [(0, .ref (ad 20 0)), (1, .int core_)] := hl
  refine lv_aload_n hx hb d_Mod_place_0 rfl (lv_at hl 0 rfl) ?_
  refine lv_iload_n hx hb d_Mod_place_1 rfl (lv_at hl 1 rfl) ?_
  refine hd_cI hK (va_runV (As := [.int core_]) (rest := []) ⟨hx, hb, hml, hown, hts⟩ (c_Mod_isCore l hJ core_ v ) (cwV 1 hts (hd_gV g_Mod_isCore k_533 k_535 s_25 k_8) rfl rfl rfl (by decide +kernel) ⟨Nat.le_of_ble_eq_true rfl, Nat.le_of_ble_eq_true rfl⟩) (hd_preV hK hN hP 20 0 Nat.one_pos rfl rfl [.int core_]) rfl rfl hl.1 rfl (lv_room (Nat.le_of_ble_eq_true rfl)) d_Mod_place_2 ⟨Nat.zero_le _, Nat.zero_le _⟩) hS hA (fun H locs hP hS => ?_)
  refine lv_if_eq (tgt := 27) hx hb d_Mod_place_5 (by decide) (fun h1 => ?_) (fun h1 => ?_)
  · refine lv_iconst (v := -1) hx hb d_Mod_place_27 (by decide) ?_
    exact hd_iret hx hb hr hlk hK hN hP hS d_Mod_place_28 ⟨by simp only [f_Mod_place]; rw [if_pos h1], rfl⟩
  · have hmch1 := in_Mod_isCore hmn h1
    refine lv_aload_n hx hb d_Mod_place_8 rfl (lv_at hl 0 rfl) ?_
    refine hd_get (C := R_Mod) (T := F_Mod) (N := 27) hx hb hts i_Mod hown hK hP 20 0 Nat.one_pos he_20 rfl 6 (by decide) (hts _ k_452) (fun _ h9 => h9) hv_20_6 d_Mod_place_9 ?_
    refine lv_iload_n hx hb d_Mod_place_12 rfl (lv_at hl 1 rfl) ?_
    refine hd_iald hx hb hK hP 26 0 0 Nat.one_pos rfl rfl hmch1 d_Mod_place_13 ?_
    refine lv_bipush (v := 32) hx hb d_Mod_place_14 (by decide) ?_
    refine lv_aload_n hx hb d_Mod_place_16 rfl (lv_at hl 0 rfl) ?_
    refine hd_get (C := R_Mod) (T := F_Mod) (N := 27) hx hb hts i_Mod hown hK hP 20 0 Nat.one_pos he_20 rfl 7 (by decide) (hts _ k_453) (fun _ h9 => h9) hv_20_7 d_Mod_place_17 ?_
    refine lv_iload_n hx hb d_Mod_place_20 rfl (lv_at hl 1 rfl) ?_
    refine hd_iald hx hb hK hP 27 0 0 Nat.one_pos rfl rfl hmch1 d_Mod_place_21 ?_
    refine lv_imul hx hb d_Mod_place_22 ?_
    refine lv_iadd hx hb d_Mod_place_23 ?_
    refine lv_goto (tgt := 28) hx hb d_Mod_place_24 (by decide) ?_
    exact hd_iret hx hb hr hlk hK hN hP hS d_Mod_place_28 ⟨by simp only [f_Mod_place]; rw [if_neg h1], rfl⟩
def f_Mod_go (core_ : Int32) (place_ : Int32) (v : hd_V) : Int32 × hd_V :=
  if (f_Mod_isCore core_ v) = 0 then
    (0, v)
  else
    if (v 27 0 core_.toNatClampNeg) = 0 then
      if place_ < 0 then
        (0, v)
      else
        if place_ ≤ 16 then
          let v5 := hd_u v 26 0 core_.toNatClampNeg place_
          (1, v5)
        else
          (0, v)
    else
      (0, v)
set_option maxHeartbeats 4000000 in
set_option maxRecDepth 100000 in
theorem c_Mod_go (l : Launch) {D : va_G} {cI cZ cM cC : ClassId} {n : Nat} {ad : Nat → Nat → Nat} (hJ : hd_J (hx_L n) ad) (core_ : Int32) (place_ : Int32) (v : hd_V) (hmn : (v 20 0 0).toInt ≤ 4) : Met l y_Mod_go w_Mod_go { frames := 1, cells := 0, slots := 0, locals := 21 } (va_Pc [.ref (ad 20 0), .int core_, .int place_] (hx_B D cI cZ cM cC n ad v)) (va_Qi (fun r u => r = (f_Mod_go core_ place_ v).1 ∧ u = (f_Mod_go core_ place_ v).2) (fun u => hx_B D cI cZ cM cC n ad u) (hx_A n ad)) 0 0 (hx_A n ad) := by
  refine Met.ofW (cc := b_Mod_go) (maxL := 3) (ret := (some .boolean)) (by decide) rfl ?_
  intro p e s m args below meth c s₁ B hml hv
  obtain ⟨rfl, hP, hK, hN⟩ := hv
  have hx := B.exec
  have hb := B.bytes
  have hr := B.returns
  have hlk := B.notSynchronized
  have hts0 := atoms_spec (ws := w_Mod_go) B.pre
  have hts := fun w (hw : w ∈ lw_g) => hts0 w (List.mem_cons_of_mem _ hw)
  have hown : s.vm.findClass R_Mod = some m.cls := findClass_of_methodNamed B.named
  have hA : ∀ q, hx_A n ad q → hx_A n ad q := fun _ h => h
  have hS : va_S (hx_A n ad) s.heap s.heap [] := va_S.rf
  have hl := lv_entry ([.ref (ad 20 0), .int core_, .int place_]) (n := 3) (Nat.le_of_ble_eq_true rfl)
  rw [lg_entry_eq]
  generalize (lg_sl ([.ref (ad 20 0), .int core_, .int place_]) ++ List.replicate (3 - (lg_sl ([.ref (ad 20 0), .int core_, .int place_])).length) Slot.unset).toArray = ls at hl ⊢
  have hl : lv_has ls 3 [(0, .ref (ad 20 0)), (1, .int core_), (2, .int place_)] := hl
  refine lv_aload_n hx hb d_Mod_go_0 rfl (lv_at hl 0 rfl) ?_
  refine lv_iload_n hx hb d_Mod_go_1 rfl (lv_at hl 1 rfl) ?_
  refine hd_cI hK (va_runV (As := [.int core_]) (rest := []) ⟨hx, hb, hml, hown, hts⟩ (c_Mod_isCore l hJ core_ v ) (cwV 1 hts (hd_gV g_Mod_isCore k_533 k_535 s_25 k_8) rfl rfl rfl (by decide +kernel) ⟨Nat.le_of_ble_eq_true rfl, Nat.le_of_ble_eq_true rfl⟩) (hd_preV hK hN hP 20 0 Nat.one_pos rfl rfl [.int core_]) rfl rfl hl.1 rfl (lv_room (Nat.le_of_ble_eq_true rfl)) d_Mod_go_2 ⟨Nat.zero_le _, Nat.zero_le _⟩) hS hA (fun H locs hP hS => ?_)
  refine lv_if_eq (tgt := 27) hx hb d_Mod_go_5 (by decide) (fun h1 => ?_) (fun h1 => ?_)
  · refine lv_iconst (v := 0) hx hb d_Mod_go_27 (by decide) ?_
    exact hd_zret hx hb hr hlk hK hN hP hS d_Mod_go_28 rfl ⟨by simp only [f_Mod_go]; rw [if_pos h1], by simp only [f_Mod_go]; rw [if_pos h1]⟩
  · have hmch1 := in_Mod_isCore hmn h1
    refine lv_aload_n hx hb d_Mod_go_8 rfl (lv_at hl 0 rfl) ?_
    refine hd_get (C := R_Mod) (T := F_Mod) (N := 27) hx hb hts i_Mod hown hK hP 20 0 Nat.one_pos he_20 rfl 7 (by decide) (hts _ k_453) (fun _ h9 => h9) hv_20_7 d_Mod_go_9 ?_
    refine lv_iload_n hx hb d_Mod_go_12 rfl (lv_at hl 1 rfl) ?_
    refine hd_iald hx hb hK hP 27 0 0 Nat.one_pos rfl rfl hmch1 d_Mod_go_13 ?_
    refine lv_if_ne (tgt := 27) hx hb d_Mod_go_14 (by decide) (fun h2 => ?_) (fun h2 => ?_)
    · refine lv_iconst (v := 0) hx hb d_Mod_go_27 (by decide) ?_
      exact hd_zret hx hb hr hlk hK hN hP hS d_Mod_go_28 rfl ⟨by simp only [f_Mod_go]; rw [if_neg h1, if_neg h2], by simp only [f_Mod_go]; rw [if_neg h1, if_neg h2]⟩
    · refine lv_iload_n hx hb d_Mod_go_17 rfl (lv_at hl 2 rfl) ?_
      refine lv_if_lt (tgt := 27) hx hb d_Mod_go_18 (by decide) (fun h3 => ?_) (fun h3 => ?_)
      · refine lv_iconst (v := 0) hx hb d_Mod_go_27 (by decide) ?_
        exact hd_zret hx hb hr hlk hK hN hP hS d_Mod_go_28 rfl ⟨by simp only [f_Mod_go]; rw [if_neg h1, if_pos h2, if_pos h3], by simp only [f_Mod_go]; rw [if_neg h1, if_pos h2, if_pos h3]⟩
      · refine lv_iload_n hx hb d_Mod_go_21 rfl (lv_at hl 2 rfl) ?_
        refine lv_bipush (v := 16) hx hb d_Mod_go_22 (by decide) ?_
        refine lv_icmp_le (tgt := 29) hx hb d_Mod_go_24 (by decide) (fun h4 => ?_) (fun h4 => ?_)
        · refine lv_aload_n hx hb d_Mod_go_29 rfl (lv_at hl 0 rfl) ?_
          refine hd_get (C := R_Mod) (T := F_Mod) (N := 27) hx hb hts i_Mod hown hK hP 20 0 Nat.one_pos he_20 rfl 6 (by decide) (hts _ k_452) (fun _ h9 => h9) hv_20_6 d_Mod_go_30 ?_
          refine lv_iload_n hx hb d_Mod_go_33 rfl (lv_at hl 1 rfl) ?_
          refine lv_iload_n hx hb d_Mod_go_34 rfl (lv_at hl 2 rfl) ?_
          refine hd_iast hx hb hK hP hJ hA hS 26 0 0 Nat.one_pos (fun _ => rfl) rfl hmch1 d_Mod_go_35 (fun H locs hP hS => ?_)
          refine lv_iconst (v := 1) hx hb d_Mod_go_36 (by decide) ?_
          exact hd_zret hx hb hr hlk hK hN hP hS d_Mod_go_37 rfl ⟨by simp only [f_Mod_go]; rw [if_neg h1, if_pos h2, if_neg h3, if_pos h4], by simp only [f_Mod_go]; rw [if_neg h1, if_pos h2, if_neg h3, if_pos h4]⟩
        · refine lv_iconst (v := 0) hx hb d_Mod_go_27 (by decide) ?_
          exact hd_zret hx hb hr hlk hK hN hP hS d_Mod_go_28 rfl ⟨by simp only [f_Mod_go]; rw [if_neg h1, if_pos h2, if_neg h3, if_neg h4], by simp only [f_Mod_go]; rw [if_neg h1, if_pos h2, if_neg h3, if_neg h4]⟩
