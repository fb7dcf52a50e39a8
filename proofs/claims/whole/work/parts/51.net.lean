set_option maxHeartbeats 4000000 in
set_option maxRecDepth 100000 in
theorem c_Net_at (l : Launch) {D : va_G} {cI cZ cM cC : ClassId} {n : Nat} {ad : Nat → Nat → Nat} (hJ : hd_J (hx_L n) ad) (k_ : Int32) (v : hd_V) (hk : vp_in k_ 32) : Met l y_Net_at w_Net_at { frames := 0, cells := 0, slots := 0, locals := 0 } (va_Pc [.ref (ad 1 0), .int k_] (hx_B D cI cZ cM cC n ad v)) (va_Qr (fun u => u = v) (fun u a => fun U => a = ad 3 ((v 2 0 k_.toNatClampNeg).toNatClampNeg) ∧ hx_B D cI cZ cM cC n ad u U) (hx_A n ad)) 0 0 (hx_A n ad) := by
  refine Met.ofW (cc := b_Net_at) (maxL := 2) (ret := (some (.object "HomeDirectory$Message"))) (by decide) rfl ?_
  intro p e s m args below meth c s₁ B hml hv
  obtain ⟨rfl, hP, hK, hN⟩ := hv
  have hx := B.exec
  have hb := B.bytes
  have hr := B.returns
  have hlk := B.notSynchronized
  have hts0 := atoms_spec (ws := w_Net_at) B.pre
  have hts := fun w (hw : w ∈ lw_g) => hts0 w (List.mem_cons_of_mem _ hw)
  have hown : s.vm.findClass R_Net = some m.cls := findClass_of_methodNamed B.named
  have hA : ∀ q, hx_A n ad q → hx_A n ad q := fun _ h => h
  have hS : va_S (hx_A n ad) s.heap s.heap [] := va_S.rf
  have hl := lv_entry ([.ref (ad 1 0), .int k_]) (n := 2) (Nat.le_of_ble_eq_true rfl)
  rw [lg_entry_eq]
  generalize (lg_sl ([.ref (ad 1 0), .int k_]) ++ List.replicate (2 - (lg_sl ([.ref (ad 1 0), .int k_])).length) Slot.unset).toArray = ls at hl ⊢
  have hl : lv_has ls 2 [(0, .ref (ad 1 0)), (1, .int k_)] := hl
  refine lv_aload_n hx hb d_Net_at_0 rfl (lv_at hl 0 rfl) ?_
  refine hd_get (C := R_Net) (T := F_Net) (N := 3) hx hb hts i_Net hown hK hP 1 0 Nat.one_pos rfl rfl 0 (by decide) (hts _ k_76) (fun _ h9 => h9) rfl d_Net_at_1 ?_
  refine lv_iload_n hx hb d_Net_at_4 rfl (lv_at hl 1 rfl) ?_
  refine hd_aald hx hb hK hP 2 0 2 Nat.one_pos rfl rfl hk rfl d_Net_at_5 ?_
  exact hd_aret hx hb hr hlk hK hN hP hS d_Net_at_6 rfl rfl
def f_Net_send (kind_ : Int32) (sender_ : Int32) (receiver_ : Int32) (block_ : Int32) (word_ : Int32) (number_ : Int32) (requester_ : Int32) (v : hd_V) : hd_V :=
  if (v 1 0 1) < 32 then
    let v2 := hd_u v 3 ((v 2 0 (v 1 0 1).toNatClampNeg).toNatClampNeg) 0 kind_
    let v3 := hd_u v2 3 ((v 2 0 (v 1 0 1).toNatClampNeg).toNatClampNeg) 1 sender_
    let v4 := hd_u v3 3 ((v 2 0 (v 1 0 1).toNatClampNeg).toNatClampNeg) 2 receiver_
    let v5 := hd_u v4 3 ((v 2 0 (v 1 0 1).toNatClampNeg).toNatClampNeg) 3 block_
    let v6 := hd_u v5 3 ((v 2 0 (v 1 0 1).toNatClampNeg).toNatClampNeg) 4 word_
    let v7 := hd_u v6 3 ((v 2 0 (v 1 0 1).toNatClampNeg).toNatClampNeg) 5 number_
    let v8 := hd_u v7 3 ((v 2 0 (v 1 0 1).toNatClampNeg).toNatClampNeg) 6 requester_
    let v9 := hd_u v8 1 0 1 ((v8 1 0 1) + 1)
    let v10 := hd_u v9 1 0 2 ((v9 1 0 2) + 1)
    v10
  else
    v
set_option maxHeartbeats 4000000 in
set_option maxRecDepth 100000 in
theorem c_Net_send (l : Launch) {D : va_G} {cI cZ cM cC : ClassId} {n : Nat} {ad : Nat → Nat → Nat} (hJ : hd_J (hx_L n) ad) (kind_ : Int32) (sender_ : Int32) (receiver_ : Int32) (block_ : Int32) (word_ : Int32) (number_ : Int32) (requester_ : Int32) (v : hd_V) (hnet : hx_net v) : Met l y_Net_send w_Net_send { frames := 0, cells := 0, slots := 0, locals := 0 } (va_Pc [.ref (ad 1 0), .int kind_, .int sender_, .int receiver_, .int block_, .int word_, .int number_, .int requester_] (hx_B D cI cZ cM cC n ad v)) (va_Qv (fun u => u = f_Net_send kind_ sender_ receiver_ block_ word_ number_ requester_ v) (fun u => hx_B D cI cZ cM cC n ad u) (hx_A n ad)) 0 0 (hx_A n ad) := by
  refine Met.ofW (cc := b_Net_send) (maxL := 9) (ret := none) (by decide) rfl ?_
  intro p e s m args below meth c s₁ B hml hv
  obtain ⟨rfl, hP, hK, hN⟩ := hv
  have hx := B.exec
  have hb := B.bytes
  have hr := B.returns
  have hlk := B.notSynchronized
  have hts0 := atoms_spec (ws := w_Net_send) B.pre
  have hts := fun w (hw : w ∈ lw_g) => hts0 w (List.mem_cons_of_mem _ hw)
  have hown : s.vm.findClass R_Net = some m.cls := findClass_of_methodNamed B.named
  have hA : ∀ q, hx_A n ad q → hx_A n ad q := fun _ h => h
  have hS : va_S (hx_A n ad) s.heap s.heap [] := va_S.rf
  have hl := lv_entry ([.ref (ad 1 0), .int kind_, .int sender_, .int receiver_, .int block_, .int word_, .int number_, .int requester_]) (n := 9) (Nat.le_of_ble_eq_true rfl)
  rw [lg_entry_eq]
  generalize (lg_sl ([.ref (ad 1 0), .int kind_, .int sender_, .int receiver_, .int block_, .int word_, .int number_, .int requester_]) ++ List.replicate (9 - (lg_sl ([.ref (ad 1 0), .int kind_, .int sender_, .int receiver_, .int block_, .int word_, .int number_, .int requester_])).length) Slot.unset).toArray = ls at hl ⊢
  have hl : lv_has ls 9 [(0, .ref (ad 1 0)), (1, .int kind_), (2, .int sender_), (3, .int receiver_), (4, .int block_), (5, .int word_), (6, .int number_), (7, .int requester_)] := hl
  refine lv_aload_n hx hb d_Net_send_0 rfl (lv_at hl 0 rfl) ?_
  refine hd_get (C := R_Net) (T := F_Net) (N := 3) hx hb hts i_Net hown hK hP 1 0 Nat.one_pos rfl rfl 1 (by decide) (hts _ k_77) (fun _ h9 => h9) rfl d_Net_send_1 ?_
  refine lv_bipush (v := 32) hx hb d_Net_send_4 (by decide) ?_
  refine lv_icmp_lt (tgt := 10) hx hb d_Net_send_6 (by decide) (fun h1 => ?_) (fun h1 => ?_)
  · have hin : vp_in (v 1 0 1) 32 := hd_in4 rfl hnet.1 h1
    have hfr : (v 2 0 (v 1 0 1).toNatClampNeg).toNatClampNeg < 32 := hnet.2 _ (hd_lt hin)
    refine lv_aload_n hx hb d_Net_send_10 rfl (lv_at hl 0 rfl) ?_
    refine hd_get (C := R_Net) (T := F_Net) (N := 3) hx hb hts i_Net hown hK hP 1 0 Nat.one_pos rfl rfl 0 (by decide) (hts _ k_76) (fun _ h9 => h9) rfl d_Net_send_11 ?_
    refine lv_aload_n hx hb d_Net_send_14 rfl (lv_at hl 0 rfl) ?_
    refine hd_get (C := R_Net) (T := F_Net) (N := 3) hx hb hts i_Net hown hK hP 1 0 Nat.one_pos rfl rfl 1 (by decide) (hts _ k_77) (fun _ h9 => h9) rfl d_Net_send_15 ?_
    refine hd_aald hx hb hK hP 2 0 2 Nat.one_pos rfl rfl hin rfl d_Net_send_18 ?_
    refine lv_astore (lv' := [(8, .ref (ad 3 ((v 2 0 (v 1 0 1).toNatClampNeg).toNatClampNeg))), (0, .ref (ad 1 0)), (1, .int kind_), (2, .int sender_), (3, .int receiver_), (4, .int block_), (5, .int word_), (6, .int number_), (7, .int requester_)]) hx hb d_Net_send_19 hl (by decide) rfl (fun ls hl => ?_)
    refine lv_aload hx hb d_Net_send_21 (lv_at hl 0 rfl) ?_
    refine lv_iload_n hx hb d_Net_send_23 rfl (lv_at hl 2 rfl) ?_
    refine hd_putN (ty := .int) (C := R_Msg) (T := F_Msg) (N := 7) hx hb hts i_Msg t_Msg t_Msg_ok n_Msg hown hK hP hJ hA hS 3 ((v 2 0 (v 1 0 1).toNatClampNeg).toNatClampNeg) hfr rfl rfl 0 (by decide) (hN.use k_39) (fun _ h9 => h9) rfl (by decide +kernel) rfl rfl (Nat.le_of_ble_eq_true rfl) rfl d_Net_send_24 (fun H locs hP hS => ?_)
    refine lv_aload hx hb d_Net_send_27 (lv_at hl 0 rfl) ?_
    refine lv_iload_n hx hb d_Net_send_29 rfl (lv_at hl 3 rfl) ?_
    refine hd_putN (ty := .int) (C := R_Msg) (T := F_Msg) (N := 7) hx hb hts i_Msg t_Msg t_Msg_ok n_Msg hown hK hP hJ hA hS 3 ((v 2 0 (v 1 0 1).toNatClampNeg).toNatClampNeg) hfr rfl rfl 1 (by decide) (hN.use k_43) (fun _ h9 => h9) rfl (by decide +kernel) rfl rfl (Nat.le_of_ble_eq_true rfl) rfl d_Net_send_30 (fun H locs hP hS => ?_)
    refine lv_aload hx hb d_Net_send_33 (lv_at hl 0 rfl) ?_
    refine lv_iload_n hx hb d_Net_send_35 rfl (lv_at hl 4 rfl) ?_
    refine hd_putN (ty := .int) (C := R_Msg) (T := F_Msg) (N := 7) hx hb hts i_Msg t_Msg t_Msg_ok n_Msg hown hK hP hJ hA hS 3 ((v 2 0 (v 1 0 1).toNatClampNeg).toNatClampNeg) hfr rfl rfl 2 (by decide) (hN.use k_45) (fun _ h9 => h9) rfl (by decide +kernel) rfl rfl (Nat.le_of_ble_eq_true rfl) rfl d_Net_send_36 (fun H locs hP hS => ?_)
    refine lv_aload hx hb d_Net_send_39 (lv_at hl 0 rfl) ?_
    refine lv_iload hx hb d_Net_send_41 (lv_at hl 5 rfl) ?_
    refine hd_putN (ty := .int) (C := R_Msg) (T := F_Msg) (N := 7) hx hb hts i_Msg t_Msg t_Msg_ok n_Msg hown hK hP hJ hA hS 3 ((v 2 0 (v 1 0 1).toNatClampNeg).toNatClampNeg) hfr rfl rfl 3 (by decide) (hN.use k_49) (fun _ h9 => h9) rfl (by decide +kernel) rfl rfl (Nat.le_of_ble_eq_true rfl) rfl d_Net_send_43 (fun H locs hP hS => ?_)
    refine lv_aload hx hb d_Net_send_46 (lv_at hl 0 rfl) ?_
    refine lv_iload hx hb d_Net_send_48 (lv_at hl 6 rfl) ?_
    refine hd_putN (ty := .int) (C := R_Msg) (T := F_Msg) (N := 7) hx hb hts i_Msg t_Msg t_Msg_ok n_Msg hown hK hP hJ hA hS 3 ((v 2 0 (v 1 0 1).toNatClampNeg).toNatClampNeg) hfr rfl rfl 4 (by decide) (hN.use k_53) (fun _ h9 => h9) rfl (by decide +kernel) rfl rfl (Nat.le_of_ble_eq_true rfl) rfl d_Net_send_50 (fun H locs hP hS => ?_)
    refine lv_aload hx hb d_Net_send_53 (lv_at hl 0 rfl) ?_
    refine lv_iload hx hb d_Net_send_55 (lv_at hl 7 rfl) ?_
    refine hd_putN (ty := .int) (C := R_Msg) (T := F_Msg) (N := 7) hx hb hts i_Msg t_Msg t_Msg_ok n_Msg hown hK hP hJ hA hS 3 ((v 2 0 (v 1 0 1).toNatClampNeg).toNatClampNeg) hfr rfl rfl 5 (by decide) (hN.use k_56) (fun _ h9 => h9) rfl (by decide +kernel) rfl rfl (Nat.le_of_ble_eq_true rfl) rfl d_Net_send_57 (fun H locs hP hS => ?_)
    refine lv_aload hx hb d_Net_send_60 (lv_at hl 0 rfl) ?_
    refine lv_iload hx hb d_Net_send_62 (lv_at hl 8 rfl) ?_
    refine hd_putN (ty := .int) (C := R_Msg) (T := F_Msg) (N := 7) hx hb hts i_Msg t_Msg t_Msg_ok n_Msg hown hK hP hJ hA hS 3 ((v 2 0 (v 1 0 1).toNatClampNeg).toNatClampNeg) hfr rfl rfl 6 (by decide) (hN.use k_59) (fun _ h9 => h9) rfl (by decide +kernel) rfl rfl (Nat.le_of_ble_eq_true rfl) rfl d_Net_send_64 (fun H locs hP hS => ?_)
    refine lv_aload_n hx hb d_Net_send_67 rfl (lv_at hl 1 rfl) ?_
    refine lv_dup hx hb d_Net_send_68 rfl ?_
    refine hd_get (C := R_Net) (T := F_Net) (N := 3) hx hb hts i_Net hown hK hP 1 0 Nat.one_pos rfl rfl 1 (by decide) (hts _ k_77) (fun _ h9 => h9) rfl d_Net_send_69 ?_
    refine lv_iconst (v := 1) hx hb d_Net_send_72 (by decide) ?_
    refine lv_iadd hx hb d_Net_send_73 ?_
    refine hd_put (ty := .int) (C := R_Net) (T := F_Net) (N := 3) hx hb hts i_Net t_Net t_Net_ok n_Net hown hK hP hJ hA hS 1 0 Nat.one_pos rfl rfl 1 (by decide) (hts _ k_77) (fun _ h9 => h9) rfl (by decide +kernel) rfl rfl (Nat.le_of_ble_eq_true rfl) rfl d_Net_send_74 (fun H locs hP hS => ?_)
    refine lv_aload_n hx hb d_Net_send_77 rfl (lv_at hl 1 rfl) ?_
    refine lv_dup hx hb d_Net_send_78 rfl ?_
    refine hd_get (C := R_Net) (T := F_Net) (N := 3) hx hb hts i_Net hown hK hP 1 0 Nat.one_pos rfl rfl 2 (by decide) (hts _ k_79) (fun _ h9 => h9) rfl d_Net_send_79 ?_
    refine lv_iconst (v := 1) hx hb d_Net_send_82 (by decide) ?_
    refine lv_iadd hx hb d_Net_send_83 ?_
    refine hd_put (ty := .int) (C := R_Net) (T := F_Net) (N := 3) hx hb hts i_Net t_Net t_Net_ok n_Net hown hK hP hJ hA hS 1 0 Nat.one_pos rfl rfl 2 (by decide) (hts _ k_79) (fun _ h9 => h9) rfl (by decide +kernel) rfl rfl (Nat.le_of_ble_eq_true rfl) rfl d_Net_send_84 (fun H locs hP hS => ?_)
    exact hd_vret hx hb hr hlk hK hN hP hS d_Net_send_87 (by simp only [f_Net_send]; rw [if_pos h1])
  · exact hd_vret hx hb hr hlk hK hN hP hS d_Net_send_9 (by simp only [f_Net_send]; rw [if_neg h1])
theorem net_Net_send {a b c d e f g : Int32} {v : hd_V} (h : hx_net v) : hx_net (f_Net_send a b c d e f g v) := by
  unfold f_Net_send
  split
  · rename_i h1
    refine ⟨?_, h.2⟩
    have h0 := h.1
    rw [Int32.le_iff_toInt_le] at h0 ⊢
    rw [Int32.lt_iff_toInt_lt] at h1
    show _ ≤ (v 1 0 1 + 1).toInt
    rw [Int32.toInt_add]
    rw [show (32 : Int32).toInt = 32 from rfl] at h1
    rw [show (0 : Int32).toInt = 0 from rfl] at h0 ⊢
    rw [show (1 : Int32).toInt = 1 from rfl, Int.bmod_eq_of_le (by omega) (by omega)]
    omega
  · exact h
def f_Net_sendPlain (kind_ : Int32) (sender_ : Int32) (receiver_ : Int32) (block_ : Int32) (v : hd_V) : hd_V :=
  let v1 := f_Net_send kind_ sender_ receiver_ block_ 0 0 (-1) v
  v1
set_option maxHeartbeats 4000000 in
set_option maxRecDepth 100000 in
theorem c_Net_sendPlain (l : Launch) {D : va_G} {cI cZ cM cC : ClassId} {n : Nat} {ad : Nat → Nat → Nat} (hJ : hd_J (hx_L n) ad) (kind_ : Int32) (sender_ : Int32) (receiver_ : Int32) (block_ : Int32) (v : hd_V) (hnet : hx_net v) : Met l y_Net_sendPlain w_Net_sendPlain { frames := 1, cells := 0, slots := 0, locals := 28 } (va_Pc [.ref (ad 1 0), .int kind_, .int sender_, .int receiver_, .int block_] (hx_B D cI cZ cM cC n ad v)) (va_Qv (fun u => u = f_Net_sendPlain kind_ sender_ receiver_ block_ v) (fun u => hx_B D cI cZ cM cC n ad u) (hx_A n ad)) 0 0 (hx_A n ad) := by
  refine Met.ofW (cc := b_Net_sendPlain) (maxL := 5) (ret := none) (by decide) rfl ?_
  intro p e s m args below meth c s₁ B hml hv
  obtain ⟨rfl, hP, hK, hN⟩ := hv
  have hx := B.exec
  have hb := B.bytes
  have hr := B.returns
  have hlk := B.notSynchronized
  have hts0 := atoms_spec (ws := w_Net_sendPlain) B.pre
  have hts := fun w (hw : w ∈ lw_g) => hts0 w (List.mem_cons_of_mem _ hw)
  have hown : s.vm.findClass R_Net = some m.cls := findClass_of_methodNamed B.named
  have hA : ∀ q, hx_A n ad q → hx_A n ad q := fun _ h => h
  have hS : va_S (hx_A n ad) s.heap s.heap [] := va_S.rf
  have hl := lv_entry ([.ref (ad 1 0), .int kind_, .int sender_, .int receiver_, .int block_]) (n := 5) (Nat.le_of_ble_eq_true rfl)
  rw [lg_entry_eq]
  generalize (lg_sl ([.ref (ad 1 0), .int kind_, .int sender_, .int receiver_, .int block_]) ++ List.replicate (5 - (lg_sl ([.ref (ad 1 0), .int kind_, .int sender_, .int receiver_, .int block_])).length) Slot.unset).toArray = ls at hl ⊢
  have hl : lv_has ls 5 [(0, .ref (ad 1 0)), (1, .int kind_), (2, .int sender_), (3, .int receiver_), (4, .int block_)] := hl
  refine lv_aload_n hx hb d_Net_sendPlain_0 rfl (lv_at hl 0 rfl) ?_
  refine lv_iload_n hx hb d_Net_sendPlain_1 rfl (lv_at hl 1 rfl) ?_
  refine lv_iload_n hx hb d_Net_sendPlain_2 rfl (lv_at hl 2 rfl) ?_
  refine lv_iload_n hx hb d_Net_sendPlain_3 rfl (lv_at hl 3 rfl) ?_
  refine lv_iload hx hb d_Net_sendPlain_4 (lv_at hl 4 rfl) ?_
  refine lv_iconst (v := 0) hx hb d_Net_sendPlain_6 (by decide) ?_
  refine lv_iconst (v := 0) hx hb d_Net_sendPlain_7 (by decide) ?_
  refine lv_iconst (v := -1) hx hb d_Net_sendPlain_8 (by decide) ?_
  refine hd_cV hK (va_runV (As := [.int kind_, .int sender_, .int receiver_, .int block_, .int 0, .int 0, .int (-1)]) (rest := []) ⟨hx, hb, hml, hown, hts⟩ (c_Net_send l hJ kind_ sender_ receiver_ block_ 0 0 (-1) v hnet) (cwV 7 hts (hd_gV g_Net_send k_245 k_247 s_7 k_3) rfl rfl rfl (by decide +kernel) ⟨Nat.le_of_ble_eq_true rfl, Nat.le_of_ble_eq_true rfl⟩) (hd_preV hK hN hP 1 0 Nat.one_pos rfl rfl [.int kind_, .int sender_, .int receiver_, .int block_, .int 0, .int 0, .int (-1)]) rfl rfl hl.1 rfl (lv_room (Nat.le_of_ble_eq_true rfl)) d_Net_sendPlain_9 ⟨Nat.zero_le _, Nat.zero_le _⟩) hS hA (fun H locs hP hS => ?_)
  exact hd_vret hx hb hr hlk hK hN hP hS d_Net_sendPlain_12 (by simp only [f_Net_sendPlain])
theorem net_Net_sendPlain {a b c d : Int32} {v : hd_V} (h : hx_net v) : hx_net (f_Net_sendPlain a b c d v) := net_Net_send h
def f_Net_sendFor (kind_ : Int32) (owner_ : Int32) (block_ : Int32) (requester_ : Int32) (v : hd_V) : hd_V :=
  let v1 := f_Net_send kind_ 4 owner_ block_ 0 0 requester_ v
  v1
set_option maxHeartbeats 4000000 in
set_option maxRecDepth 100000 in
theorem c_Net_sendFor (l : Launch) {D : va_G} {cI cZ cM cC : ClassId} {n : Nat} {ad : Nat → Nat → Nat} (hJ : hd_J (hx_L n) ad) (kind_ : Int32) (owner_ : Int32) (block_ : Int32) (requester_ : Int32) (v : hd_V) (hnet : hx_net v) : Met l y_Net_sendFor w_Net_sendFor { frames := 1, cells := 0, slots := 0, locals := 28 } (va_Pc [.ref (ad 1 0), .int kind_, .int owner_, .int block_, .int requester_] (hx_B D cI cZ cM cC n ad v)) (va_Qv (fun u => u = f_Net_sendFor kind_ owner_ block_ requester_ v) (fun u => hx_B D cI cZ cM cC n ad u) (hx_A n ad)) 0 0 (hx_A n ad) := by
  refine Met.ofW (cc := b_Net_sendFor) (maxL := 5) (ret := none) (by decide) rfl ?_
  intro p e s m args below meth c s₁ B hml hv
  obtain ⟨rfl, hP, hK, hN⟩ := hv
  have hx := B.exec
  have hb := B.bytes
  have hr := B.returns
  have hlk := B.notSynchronized
  have hts0 := atoms_spec (ws := w_Net_sendFor) B.pre
  have hts := fun w (hw : w ∈ lw_g) => hts0 w (List.mem_cons_of_mem _ hw)
  have hown : s.vm.findClass R_Net = some m.cls := findClass_of_methodNamed B.named
  have hA : ∀ q, hx_A n ad q → hx_A n ad q := fun _ h => h
  have hS : va_S (hx_A n ad) s.heap s.heap [] := va_S.rf
  have hl := lv_entry ([.ref (ad 1 0), .int kind_, .int owner_, .int block_, .int requester_]) (n := 5) (Nat.le_of_ble_eq_true rfl)
  rw [lg_entry_eq]
  generalize (lg_sl ([.ref (ad 1 0), .int kind_, .int owner_, .int block_, .int requester_]) ++ List.replicate (5 - (lg_sl ([.ref (ad 1 0), .int kind_, .int owner_, .int block_, .int requester_])).length) Slot.unset).toArray = ls at hl ⊢
  have hl : lv_has ls 5 [(0, .ref (ad 1 0)), (1, .int kind_), (2, .int owner_), (3, .int block_), (4, .int requester_)] := hl
  refine lv_aload_n hx hb d_Net_sendFor_0 rfl (lv_at hl 0 rfl) ?_
  refine lv_iload_n hx hb d_Net_sendFor_1 rfl (lv_at hl 1 rfl) ?_
  refine lv_iconst (v := 4) hx hb d_Net_sendFor_2 (by decide) ?_
  refine lv_iload_n hx hb d_Net_sendFor_3 rfl (lv_at hl 2 rfl) ?_
  refine lv_iload_n hx hb d_Net_sendFor_4 rfl (lv_at hl 3 rfl) ?_
  refine lv_iconst (v := 0) hx hb d_Net_sendFor_5 (by decide) ?_
  refine lv_iconst (v := 0) hx hb d_Net_sendFor_6 (by decide) ?_
  refine lv_iload hx hb d_Net_sendFor_7 (lv_at hl 4 rfl) ?_
  refine hd_cV hK (va_runV (As := [.int kind_, .int 4, .int owner_, .int block_, .int 0, .int 0, .int requester_]) (rest := []) ⟨hx, hb, hml, hown, hts⟩ (c_Net_send l hJ kind_ 4 owner_ block_ 0 0 requester_ v hnet) (cwV 7 hts (hd_gV g_Net_send k_245 k_247 s_7 k_3) rfl rfl rfl (by decide +kernel) ⟨Nat.le_of_ble_eq_true rfl, Nat.le_of_ble_eq_true rfl⟩) (hd_preV hK hN hP 1 0 Nat.one_pos rfl rfl [.int kind_, .int 4, .int owner_, .int block_, .int 0, .int 0, .int requester_]) rfl rfl hl.1 rfl (lv_room (Nat.le_of_ble_eq_true rfl)) d_Net_sendFor_9 ⟨Nat.zero_le _, Nat.zero_le _⟩) hS hA (fun H locs hP hS => ?_)
  exact hd_vret hx hb hr hlk hK hN hP hS d_Net_sendFor_12 (by simp only [f_Net_sendFor])
theorem net_Net_sendFor {a b c d : Int32} {v : hd_V} (h : hx_net v) : hx_net (f_Net_sendFor a b c d v) := net_Net_send h
def f_Net_sendWord (kind_ : Int32) (sender_ : Int32) (receiver_ : Int32) (block_ : Int32) (word_ : Int32) (v : hd_V) : hd_V :=
  let v1 := f_Net_send kind_ sender_ receiver_ block_ word_ 0 (-1) v
  v1
set_option maxHeartbeats 4000000 in
set_option maxRecDepth 100000 in
theorem c_Net_sendWord (l : Launch) {D : va_G} {cI cZ cM cC : ClassId} {n : Nat} {ad : Nat → Nat → Nat} (hJ : hd_J (hx_L n) ad) (kind_ : Int32) (sender_ : Int32) (receiver_ : Int32) (block_ : Int32) (word_ : Int32) (v : hd_V) (hnet : hx_net v) : Met l y_Net_sendWord w_Net_sendWord { frames := 1, cells := 0, slots := 0, locals := 28 } (va_Pc [.ref (ad 1 0), .int kind_, .int sender_, .int receiver_, .int block_, .int word_] (hx_B D cI cZ cM cC n ad v)) (va_Qv (fun u => u = f_Net_sendWord kind_ sender_ receiver_ block_ word_ v) (fun u => hx_B D cI cZ cM cC n ad u) (hx_A n ad)) 0 0 (hx_A n ad) := by
  refine Met.ofW (cc := b_Net_sendWord) (maxL := 6) (ret := none) (by decide) rfl ?_
  intro p e s m args below meth c s₁ B hml hv
  obtain ⟨rfl, hP, hK, hN⟩ := hv
  have hx := B.exec
  have hb := B.bytes
  have hr := B.returns
  have hlk := B.notSynchronized
  have hts0 := atoms_spec (ws := w_Net_sendWord) B.pre
  have hts := fun w (hw : w ∈ lw_g) => hts0 w (List.mem_cons_of_mem _ hw)
  have hown : s.vm.findClass R_Net = some m.cls := findClass_of_methodNamed B.named
  have hA : ∀ q, hx_A n ad q → hx_A n ad q := fun _ h => h
  have hS : va_S (hx_A n ad) s.heap s.heap [] := va_S.rf
  have hl := lv_entry ([.ref (ad 1 0), .int kind_, .int sender_, .int receiver_, .int block_, .int word_]) (n := 6) (Nat.le_of_ble_eq_true rfl)
  rw [lg_entry_eq]
  generalize (lg_sl ([.ref (ad 1 0), .int kind_, .int sender_, .int receiver_, .int block_, .int word_]) ++ List.replicate (6 - (lg_sl ([.ref (ad 1 0), .int kind_, .int sender_, .int receiver_, .int block_, .int word_])).length) Slot.unset).toArray = ls at hl ⊢
  have hl : lv_has ls 6 [(0, .ref (ad 1 0)), (1, .int kind_), (2, .int sender_), (3, .int receiver_), (4, .int block_), (5, .int word_)] := hl
  refine lv_aload_n hx hb d_Net_sendWord_0 rfl (lv_at hl 0 rfl) ?_
  refine lv_iload_n hx hb d_Net_sendWord_1 rfl (lv_at hl 1 rfl) ?_
  refine lv_iload_n hx hb d_Net_sendWord_2 rfl (lv_at hl 2 rfl) ?_
  refine lv_iload_n hx hb d_Net_sendWord_3 rfl (lv_at hl 3 rfl) ?_
  refine lv_iload hx hb d_Net_sendWord_4 (lv_at hl 4 rfl) ?_
  refine lv_iload hx hb d_Net_sendWord_6 (lv_at hl 5 rfl) ?_
  refine lv_iconst (v := 0) hx hb d_Net_sendWord_8 (by decide) ?_
  refine lv_iconst (v := -1) hx hb d_Net_sendWord_9 (by decide) ?_
  refine hd_cV hK (va_runV (As := [.int kind_, .int sender_, .int receiver_, .int block_, .int word_, .int 0, .int (-1)]) (rest := []) ⟨hx, hb, hml, hown, hts⟩ (c_Net_send l hJ kind_ sender_ receiver_ block_ word_ 0 (-1) v hnet) (cwV 7 hts (hd_gV g_Net_send k_245 k_247 s_7 k_3) rfl rfl rfl (by decide +kernel) ⟨Nat.le_of_ble_eq_true rfl, Nat.le_of_ble_eq_true rfl⟩) (hd_preV hK hN hP 1 0 Nat.one_pos rfl rfl [.int kind_, .int sender_, .int receiver_, .int block_, .int word_, .int 0, .int (-1)]) rfl rfl hl.1 rfl (lv_room (Nat.le_of_ble_eq_true rfl)) d_Net_sendWord_10 ⟨Nat.zero_le _, Nat.zero_le _⟩) hS hA (fun H locs hP hS => ?_)
  exact hd_vret hx hb hr hlk hK hN hP hS d_Net_sendWord_13 (by simp only [f_Net_sendWord])
theorem net_Net_sendWord {a b c d e : Int32} {v : hd_V} (h : hx_net v) : hx_net (f_Net_sendWord a b c d e v) := net_Net_send h
def f_Net_sendData (sender_ : Int32) (receiver_ : Int32) (block_ : Int32) (word_ : Int32) (number_ : Int32) (v : hd_V) : hd_V :=
  let v1 := f_Net_send 8 sender_ receiver_ block_ word_ number_ (-1) v
  v1
set_option maxHeartbeats 4000000 in
set_option maxRecDepth 100000 in
theorem c_Net_sendData (l : Launch) {D : va_G} {cI cZ cM cC : ClassId} {n : Nat} {ad : Nat → Nat → Nat} (hJ : hd_J (hx_L n) ad) (sender_ : Int32) (receiver_ : Int32) (block_ : Int32) (word_ : Int32) (number_ : Int32) (v : hd_V) (hnet : hx_net v) : Met l y_Net_sendData w_Net_sendData { frames := 1, cells := 0, slots := 0, locals := 28 } (va_Pc [.ref (ad 1 0), .int sender_, .int receiver_, .int block_, .int word_, .int number_] (hx_B D cI cZ cM cC n ad v)) (va_Qv (fun u => u = f_Net_sendData sender_ receiver_ block_ word_ number_ v) (fun u => hx_B D cI cZ cM cC n ad u) (hx_A n ad)) 0 0 (hx_A n ad) := by
  refine Met.ofW (cc := b_Net_sendData) (maxL := 6) (ret := none) (by decide) rfl ?_
  intro p e s m args below meth c s₁ B hml hv
  obtain ⟨rfl, hP, hK, hN⟩ := hv
  have hx := B.exec
  have hb := B.bytes
  have hr := B.returns
  have hlk := B.notSynchronized
  have hts0 := atoms_spec (ws := w_Net_sendData) B.pre
  have hts := fun w (hw : w ∈ lw_g) => hts0 w (List.mem_cons_of_mem _ hw)
  have hown : s.vm.findClass R_Net = some m.cls := findClass_of_methodNamed B.named
  have hA : ∀ q, hx_A n ad q → hx_A n ad q := fun _ h => h
  have hS : va_S (hx_A n ad) s.heap s.heap [] := va_S.rf
  have hl := lv_entry ([.ref (ad 1 0), .int sender_, .int receiver_, .int block_, .int word_, .int number_]) (n := 6) (Nat.le_of_ble_eq_true rfl)
  rw [lg_entry_eq]
  generalize (lg_sl ([.ref (ad 1 0), .int sender_, .int receiver_, .int block_, .int word_, .int number_]) ++ List.replicate (6 - (lg_sl ([.ref (ad 1 0), .int sender_, .int receiver_, .int block_, .int word_, .int number_])).length) Slot.unset).toArray = ls at hl ⊢
  have hl : lv_has ls 6 [(0, .ref (ad 1 0)), (1, .int sender_), (2, .int receiver_), (3, .int block_), (4, .int word_), (5, .int number_)] := hl
  refine lv_aload_n hx hb d_Net_sendData_0 rfl (lv_at hl 0 rfl) ?_
  refine lv_bipush (v := 8) hx hb d_Net_sendData_1 (by decide) ?_
  refine lv_iload_n hx hb d_Net_sendData_3 rfl (lv_at hl 1 rfl) ?_
  refine lv_iload_n hx hb d_Net_sendData_4 rfl (lv_at hl 2 rfl) ?_
  refine lv_iload_n hx hb d_Net_sendData_5 rfl (lv_at hl 3 rfl) ?_
  refine lv_iload hx hb d_Net_sendData_6 (lv_at hl 4 rfl) ?_
  refine lv_iload hx hb d_Net_sendData_8 (lv_at hl 5 rfl) ?_
  refine lv_iconst (v := -1) hx hb d_Net_sendData_10 (by decide) ?_
  refine hd_cV hK (va_runV (As := [.int 8, .int sender_, .int receiver_, .int block_, .int word_, .int number_, .int (-1)]) (rest := []) ⟨hx, hb, hml, hown, hts⟩ (c_Net_send l hJ 8 sender_ receiver_ block_ word_ number_ (-1) v hnet) (cwV 7 hts (hd_gV g_Net_send k_245 k_247 s_7 k_3) rfl rfl rfl (by decide +kernel) ⟨Nat.le_of_ble_eq_true rfl, Nat.le_of_ble_eq_true rfl⟩) (hd_preV hK hN hP 1 0 Nat.one_pos rfl rfl [.int 8, .int sender_, .int receiver_, .int block_, .int word_, .int number_, .int (-1)]) rfl rfl hl.1 rfl (lv_room (Nat.le_of_ble_eq_true rfl)) d_Net_sendData_11 ⟨Nat.zero_le _, Nat.zero_le _⟩) hS hA (fun H locs hP hS => ?_)
  exact hd_vret hx hb hr hlk hK hN hP hS d_Net_sendData_14 (by simp only [f_Net_sendData])
theorem net_Net_sendData {a b c d e : Int32} {v : hd_V} (h : hx_net v) : hx_net (f_Net_sendData a b c d e v) := net_Net_send h
