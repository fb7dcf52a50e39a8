/-! What the methods of a core leave as it was: messages that lie in no free slot; the program -/
theorem mg_Net_send {a b c d e f g : Int32} {mj : Nat} {v : hd_V} (hn : hx_net v) (hf : hx_fr mj v) (j : Nat) : f_Net_send a b c d e f g v 3 mj j = v 3 mj j := by
  simp only [f_Net_send]
  split
  · rename_i h
    have hin : vp_in (v 1 0 1) 32 := hd_in4 rfl hn.1 h
    have h1 : ¬ mj = (v 2 0 (v 1 0 1).toNatClampNeg).toNatClampNeg := fun z => hf _ (hd_lt hin) (by
      rw [vp_in_iff] at hin
      rw [Int32.toNatClampNeg]
      omega) z.symm
    simp [hd_u_eq, h1]
  · rfl
theorem fr_Net_send {a b c d e f g : Int32} {mj : Nat} {v : hd_V} (hn : hx_net v) (hf : hx_fr mj v) : hx_fr mj (f_Net_send a b c d e f g v) := by
  simp only [f_Net_send]
  split
  · rename_i h
    intro k hk hc
    have h0 := hn.1
    rw [Int32.le_iff_toInt_le] at h0
    rw [Int32.lt_iff_toInt_lt] at h
    rw [show (32 : Int32).toInt = 32 from rfl] at h
    rw [show (0 : Int32).toInt = 0 from rfl] at h0
    have e1 : (v 1 0 1 + 1).toInt = (v 1 0 1).toInt + 1 := by
      rw [Int32.toInt_add, show (1 : Int32).toInt = 1 from rfl, Int.bmod_eq_of_le (by omega) (by omega)]
    have hc2 : (v 1 0 1 + 1).toInt ≤ k := hc
    exact hf k hk (by omega)
  · exact hf
theorem prog_Net_send {a b c d e f g : Int32} {cx : Nat} {v : hd_V} (h : hx_prog cx v) : hx_prog cx (f_Net_send a b c d e f g v) := by
  simp only [f_Net_send]
  split
  · exact h
  · exact h
theorem mg_Net_sendPlain {a b c d : Int32} {mj : Nat} {v : hd_V} (hn : hx_net v) (hf : hx_fr mj v) (j : Nat) : f_Net_sendPlain a b c d v 3 mj j = v 3 mj j := mg_Net_send hn hf j
theorem fr_Net_sendPlain {a b c d : Int32} {mj : Nat} {v : hd_V} (hn : hx_net v) (hf : hx_fr mj v) : hx_fr mj (f_Net_sendPlain a b c d v) := fr_Net_send hn hf
theorem prog_Net_sendPlain {a b c d : Int32} {cx : Nat} {v : hd_V} (h : hx_prog cx v) : hx_prog cx (f_Net_sendPlain a b c d v) := prog_Net_send h
theorem mg_Net_sendFor {a b c d : Int32} {mj : Nat} {v : hd_V} (hn : hx_net v) (hf : hx_fr mj v) (j : Nat) : f_Net_sendFor a b c d v 3 mj j = v 3 mj j := mg_Net_send hn hf j
theorem fr_Net_sendFor {a b c d : Int32} {mj : Nat} {v : hd_V} (hn : hx_net v) (hf : hx_fr mj v) : hx_fr mj (f_Net_sendFor a b c d v) := fr_Net_send hn hf
theorem prog_Net_sendFor {a b c d : Int32} {cx : Nat} {v : hd_V} (h : hx_prog cx v) : hx_prog cx (f_Net_sendFor a b c d v) := prog_Net_send h
theorem mg_Net_sendWord {a b c d e : Int32} {mj : Nat} {v : hd_V} (hn : hx_net v) (hf : hx_fr mj v) (j : Nat) : f_Net_sendWord a b c d e v 3 mj j = v 3 mj j := mg_Net_send hn hf j
theorem fr_Net_sendWord {a b c d e : Int32} {mj : Nat} {v : hd_V} (hn : hx_net v) (hf : hx_fr mj v) : hx_fr mj (f_Net_sendWord a b c d e v) := fr_Net_send hn hf
theorem prog_Net_sendWord {a b c d e : Int32} {cx : Nat} {v : hd_V} (h : hx_prog cx v) : hx_prog cx (f_Net_sendWord a b c d e v) := prog_Net_send h
theorem mg_Net_sendData {a b c d e : Int32} {mj : Nat} {v : hd_V} (hn : hx_net v) (hf : hx_fr mj v) (j : Nat) : f_Net_sendData a b c d e v 3 mj j = v 3 mj j := mg_Net_send hn hf j
theorem fr_Net_sendData {a b c d e : Int32} {mj : Nat} {v : hd_V} (hn : hx_net v) (hf : hx_fr mj v) : hx_fr mj (f_Net_sendData a b c d e v) := fr_Net_send hn hf
theorem prog_Net_sendData {a b c d e : Int32} {cx : Nat} {v : hd_V} (h : hx_prog cx v) : hx_prog cx (f_Net_sendData a b c d e v) := prog_Net_send h
theorem mg_Core_takeData {cx mj : Nat} {v : hd_V} (i j : Nat) : f_Core_takeData cx mj v 3 i j = v 3 i j := by
  simp only [f_Core_takeData]
  (repeat' split) <;> rfl
theorem prog_Core_takeData {cx mj : Nat} {v : hd_V} (h : hx_prog cx v) : hx_prog cx (f_Core_takeData cx mj v) := by
  simp only [f_Core_takeData]
  (repeat' split) <;> exact h
theorem mg_Core_takeAck {cx : Nat} {b : Int32} {v : hd_V} (i j : Nat) : f_Core_takeAck cx b v 3 i j = v 3 i j := by
  simp only [f_Core_takeAck]
  (repeat' split) <;> rfl
theorem prog_Core_takeAck {cx : Nat} {b : Int32} {v : hd_V} (h : hx_prog cx v) : hx_prog cx (f_Core_takeAck cx b v) := by
  simp only [f_Core_takeAck]
  (repeat' split) <;> exact h
theorem mg_Core_endReplacement {cx : Nat} {b : Int32} {v : hd_V} (i j : Nat) : f_Core_endReplacement cx b v 3 i j = v 3 i j := rfl
theorem prog_Core_endReplacement {cx : Nat} {b : Int32} {v : hd_V} (h : hx_prog cx v) : hx_prog cx (f_Core_endReplacement cx b v) := by
  unfold hx_prog f_Core_endReplacement at *
  simp [hd_u_eq]
  exact h
theorem mg_Core_giveUp {cx mj : Nat} {v : hd_V} (hn : hx_net v) (hf : hx_fr mj v) (j : Nat) : f_Core_giveUp cx mj v 3 mj j = v 3 mj j := by
  rw [← mg_Net_sendPlain (a := 9) (b := v 10 cx 0) (c := v 3 mj 6) (d := v 3 mj 3) hn hf j]
  simp only [f_Core_giveUp]
  (repeat' split) <;> rfl
theorem prog_Core_giveUp {cx mj : Nat} {v : hd_V} (h : hx_prog cx v) : hx_prog cx (f_Core_giveUp cx mj v) := by
  have h1 := prog_Net_sendPlain (a := 9) (b := v 10 cx 0) (c := v 3 mj 6) (d := v 3 mj 3) h
  simp only [f_Core_giveUp]
  (repeat' split) <;> exact h1
theorem mg_Core_share {cx mj : Nat} {v : hd_V} (hn : hx_net v) (hf : hx_fr mj v) (j : Nat) : f_Core_share cx mj v 3 mj j = v 3 mj j := by
  have h1 := mg_Net_sendData (a := v 10 cx 0) (b := v 3 mj 6) (c := v 3 mj 3) (d := v 14 cx (v 3 mj 3).toNatClampNeg) (e := 0) hn hf j
  have h2 := fun a b c d e => mg_Net_sendData (a := a) (b := b) (c := c) (d := d) (e := e) (net_Net_sendData (a := v 10 cx 0) (b := v 3 mj 6) (c := v 3 mj 3) (d := v 14 cx (v 3 mj 3).toNatClampNeg) (e := 0) hn) (fr_Net_sendData hn hf) j
  rw [← h1]
  simp only [f_Core_share]
  (repeat' split) <;> exact h2 _ _ _ _ _
theorem prog_Core_share {cx mj : Nat} {v : hd_V} (h : hx_prog cx v) : hx_prog cx (f_Core_share cx mj v) := by
  have h1 := fun a b c d e a' b' c' d' e' => prog_Net_sendData (a := a) (b := b) (c := c) (d := d) (e := e) (prog_Net_sendData (a := a') (b := b') (c := c') (d := d') (e := e') h)
  simp only [f_Core_share]
  (repeat' split) <;> exact h1 _ _ _ _ _ _ _ _ _ _
theorem mg_Core_handOn {cx mj : Nat} {v : hd_V} (hn : hx_net v) (hf : hx_fr mj v) (j : Nat) : f_Core_handOn cx mj v 3 mj j = v 3 mj j := by
  have h1 := fun a b c d e => mg_Net_sendData (a := a) (b := b) (c := c) (d := d) (e := e) hn hf j
  simp only [f_Core_handOn]
  (repeat' split) <;> exact h1 _ _ _ _ _
theorem prog_Core_handOn {cx mj : Nat} {v : hd_V} (h : hx_prog cx v) : hx_prog cx (f_Core_handOn cx mj v) := by
  have h1 := fun a b c d e => prog_Net_sendData (a := a) (b := b) (c := c) (d := d) (e := e) h
  simp only [f_Core_handOn]
  (repeat' split) <;> exact h1 _ _ _ _ _
def f_Core_receive (cx : Nat) (mj : Nat) (v : hd_V) : hd_V :=
  let x1 : Int32 := v 3 mj 0
  if x1 = 4 then
    let v3 := f_Core_share cx mj v
    let v4 := f_Core_performIfAllowed cx (v3 3 mj 3) v3
    v4
  else
    if x1 = 5 then
      let v6 := f_Core_handOn cx mj v
      let v7 := f_Core_performIfAllowed cx (v6 3 mj 3) v6
      v7
    else
      if x1 = 6 then
        let v9 := f_Core_giveUp cx mj v
        let v10 := f_Core_performIfAllowed cx (v9 3 mj 3) v9
        v10
      else
        if x1 = 7 then
          let v12 := f_Core_endReplacement cx (v 3 mj 3) v
          let v13 := f_Core_performIfAllowed cx (v12 3 mj 3) v12
          v13
        else
          if x1 = 8 then
            let v15 := f_Core_takeData cx mj v
            let v16 := f_Core_performIfAllowed cx (v15 3 mj 3) v15
            v16
          else
            if x1 = 9 then
              let v18 := f_Core_takeAck cx (v 3 mj 3) v
              let v19 := f_Core_performIfAllowed cx (v18 3 mj 3) v18
              v19
            else
              let v20 := f_Core_performIfAllowed cx (v 3 mj 3) v
              v20
set_option maxHeartbeats 4000000 in
set_option maxRecDepth 100000 in
theorem c_Core_receive (l : Launch) {D : va_G} {cI cZ cM cC : ClassId} {n : Nat} {ad : Nat → Nat → Nat} (hJ : hd_J (hx_L n) ad) (cx : Nat) (mj : Nat) (v : hd_V) (hcx : cx < n) (hmj : mj < 32) (hbl : vp_in (v 3 mj 3) 4) (hnet : hx_net v) (hprog : hx_prog cx v) (hfr : hx_fr mj v) : Met l y_Core_receive w_Core_receive { frames := 3, cells := 0, slots := 0, locals := 75 } (va_Pc [.ref (ad 10 cx), .ref (ad 3 mj)] (hx_B D cI cZ cM cC n ad v)) (va_Qv (fun u => u = f_Core_receive cx mj v) (fun u => hx_B D cI cZ cM cC n ad u) (hx_A n ad)) 0 0 (hx_A n ad) := by
  refine Met.ofW (cc := b_Core_receive) (maxL := 2) (ret := none) (by decide) rfl ?_
  intro p e s m args below meth c s₁ B hml hv
  obtain ⟨rfl, hP, hK, hN⟩ := hv
  have hx := B.exec
  have hb := B.bytes
  have hr := B.returns
  have hlk := B.notSynchronized
  have hts0 := atoms_spec (ws := w_Core_receive) B.pre
  have hts := fun w (hw : w ∈ lw_g) => hts0 w (List.mem_cons_of_mem _ hw)
  have hown : s.vm.findClass R_Core = some m.cls := findClass_of_methodNamed B.named
  have hA : ∀ q, hx_A n ad q → hx_A n ad q := fun _ h => h
  have hS : va_S (hx_A n ad) s.heap s.heap [] := va_S.rf
  have hl := lv_entry ([.ref (ad 10 cx), .ref (ad 3 mj)]) (n := 2) (Nat.le_of_ble_eq_true rfl)
  rw [lg_entry_eq]
  generalize (lg_sl ([.ref (ad 10 cx), .ref (ad 3 mj)]) ++ List.replicate (2 - (lg_sl ([.ref (ad 10 cx), .ref (ad 3 mj)])).length) Slot.unset).toArray = ls at hl ⊢
  have hl : lv_has ls 2 [(0, .ref (ad 10 cx)), (1, .ref (ad 3 mj))] := hl
  refine lv_aload_n hx hb d_Core_receive_0 rfl (lv_at hl 1 rfl) ?_
  refine hd_getN (C := R_Msg) (T := F_Msg) (N := 7) hx hb hts i_Msg hown hK hP 3 mj hmj rfl rfl 0 (by decide) (hN.use k_40) (fun _ h9 => h9) rfl d_Core_receive_1 ?_
  refine lv_topi (fun x1 ex1 => ?_)
  by_cases h2 : x1 = 4
  · refine lv_tableIn (off := 67) (tgt := 71) hx hb d_Core_receive_4 (by rw [h2]; decide) (by rw [h2]; decide) (by rw [h2]; rfl) (by decide) ?_
    refine lv_aload_n hx hb d_Core_receive_71 rfl (lv_at hl 0 rfl) ?_
    refine lv_aload_n hx hb d_Core_receive_72 rfl (lv_at hl 1 rfl) ?_
    refine hd_cV hK (va_runV (As := [.ref (ad 3 mj)]) (rest := []) ⟨hx, hb, hml, hown, hts⟩ (c_Core_share l hJ cx mj v hcx hmj hbl hnet) (cwV 1 hts (hd_gV g_Core_share k_363 k_365 s_21 k_7) rfl rfl rfl (by decide +kernel) ⟨Nat.le_of_ble_eq_true rfl, Nat.le_of_ble_eq_true rfl⟩) (hd_preV hK hN hP 10 cx hcx rfl rfl [.ref (ad 3 mj)]) rfl rfl hl.1 rfl (lv_room (Nat.le_of_ble_eq_true rfl)) d_Core_receive_73 ⟨Nat.zero_le _, Nat.zero_le _⟩) hS hA (fun H locs hP hS => ?_)
    refine lv_goto (tgt := 98) hx hb d_Core_receive_76 (by decide) ?_
    refine lv_aload_n hx hb d_Core_receive_98 rfl (lv_at hl 0 rfl) ?_
    refine lv_aload_n hx hb d_Core_receive_99 rfl (lv_at hl 1 rfl) ?_
    refine hd_getN (C := R_Msg) (T := F_Msg) (N := 7) hx hb hts i_Msg hown hK hP 3 mj hmj rfl rfl 3 (by decide) (hN.use k_50) (fun _ h9 => h9) rfl d_Core_receive_100 ?_
    refine hd_cV hK (va_runV (As := [.int ((f_Core_share cx mj v) 3 mj 3)]) (rest := []) ⟨hx, hb, hml, hown, hts⟩ (c_Core_performIfAllowed l hJ cx ((f_Core_share cx mj v) 3 mj 3) (f_Core_share cx mj v) hcx (by rw [mg_Core_share hnet hfr]; exact hbl) (prog_Core_share hprog)) (cwV 1 hts (hd_gV g_Core_performIfAllowed k_376 k_378 s_24 k_7) rfl rfl rfl (by decide +kernel) ⟨Nat.le_of_ble_eq_true rfl, Nat.le_of_ble_eq_true rfl⟩) (hd_preV hK hN hP 10 cx hcx rfl rfl [.int ((f_Core_share cx mj v) 3 mj 3)]) rfl rfl hl.1 rfl (lv_room (Nat.le_of_ble_eq_true rfl)) d_Core_receive_103 ⟨Nat.zero_le _, Nat.zero_le _⟩) hS hA (fun H locs hP hS => ?_)
    exact hd_vret hx hb hr hlk hK hN hP hS d_Core_receive_106 (by subst ex1; simp only [f_Core_receive]; rw [if_pos h2])
  · skip
    by_cases h5 : x1 = 5
    · refine lv_tableIn (off := 75) (tgt := 79) hx hb d_Core_receive_4 (by rw [h5]; decide) (by rw [h5]; decide) (by rw [h5]; rfl) (by decide) ?_
      refine lv_aload_n hx hb d_Core_receive_79 rfl (lv_at hl 0 rfl) ?_
      refine lv_aload_n hx hb d_Core_receive_80 rfl (lv_at hl 1 rfl) ?_
      refine hd_cV hK (va_runV (As := [.ref (ad 3 mj)]) (rest := []) ⟨hx, hb, hml, hown, hts⟩ (c_Core_handOn l hJ cx mj v hcx hmj hbl hnet) (cwV 1 hts (hd_gV g_Core_handOn k_368 k_370 s_22 k_7) rfl rfl rfl (by decide +kernel) ⟨Nat.le_of_ble_eq_true rfl, Nat.le_of_ble_eq_true rfl⟩) (hd_preV hK hN hP 10 cx hcx rfl rfl [.ref (ad 3 mj)]) rfl rfl hl.1 rfl (lv_room (Nat.le_of_ble_eq_true rfl)) d_Core_receive_81 ⟨Nat.zero_le _, Nat.zero_le _⟩) hS hA (fun H locs hP hS => ?_)
      refine lv_goto (tgt := 98) hx hb d_Core_receive_84 (by decide) ?_
      refine lv_aload_n hx hb d_Core_receive_98 rfl (lv_at hl 0 rfl) ?_
      refine lv_aload_n hx hb d_Core_receive_99 rfl (lv_at hl 1 rfl) ?_
      refine hd_getN (C := R_Msg) (T := F_Msg) (N := 7) hx hb hts i_Msg hown hK hP 3 mj hmj rfl rfl 3 (by decide) (hN.use k_50) (fun _ h9 => h9) rfl d_Core_receive_100 ?_
      refine hd_cV hK (va_runV (As := [.int ((f_Core_handOn cx mj v) 3 mj 3)]) (rest := []) ⟨hx, hb, hml, hown, hts⟩ (c_Core_performIfAllowed l hJ cx ((f_Core_handOn cx mj v) 3 mj 3) (f_Core_handOn cx mj v) hcx (by rw [mg_Core_handOn hnet hfr]; exact hbl) (prog_Core_handOn hprog)) (cwV 1 hts (hd_gV g_Core_performIfAllowed k_376 k_378 s_24 k_7) rfl rfl rfl (by decide +kernel) ⟨Nat.le_of_ble_eq_true rfl, Nat.le_of_ble_eq_true rfl⟩) (hd_preV hK hN hP 10 cx hcx rfl rfl [.int ((f_Core_handOn cx mj v) 3 mj 3)]) rfl rfl hl.1 rfl (lv_room (Nat.le_of_ble_eq_true rfl)) d_Core_receive_103 ⟨Nat.zero_le _, Nat.zero_le _⟩) hS hA (fun H locs hP hS => ?_)
      exact hd_vret hx hb hr hlk hK hN hP hS d_Core_receive_106 (by subst ex1; simp only [f_Core_receive]; rw [if_neg h2, if_pos h5])
    · skip
      by_cases h8 : x1 = 6
      · refine lv_tableIn (off := 59) (tgt := 63) hx hb d_Core_receive_4 (by rw [h8]; decide) (by rw [h8]; decide) (by rw [h8]; rfl) (by decide) ?_
        refine lv_aload_n hx hb d_Core_receive_63 rfl (lv_at hl 0 rfl) ?_
        refine lv_aload_n hx hb d_Core_receive_64 rfl (lv_at hl 1 rfl) ?_
        refine hd_cV hK (va_runV (As := [.ref (ad 3 mj)]) (rest := []) ⟨hx, hb, hml, hown, hts⟩ (c_Core_giveUp l hJ cx mj v hcx hmj hbl hnet) (cwV 1 hts (hd_gV g_Core_giveUp k_359 k_361 s_20 k_7) rfl rfl rfl (by decide +kernel) ⟨Nat.le_of_ble_eq_true rfl, Nat.le_of_ble_eq_true rfl⟩) (hd_preV hK hN hP 10 cx hcx rfl rfl [.ref (ad 3 mj)]) rfl rfl hl.1 rfl (lv_room (Nat.le_of_ble_eq_true rfl)) d_Core_receive_65 ⟨Nat.zero_le _, Nat.zero_le _⟩) hS hA (fun H locs hP hS => ?_)
        refine lv_goto (tgt := 98) hx hb d_Core_receive_68 (by decide) ?_
        refine lv_aload_n hx hb d_Core_receive_98 rfl (lv_at hl 0 rfl) ?_
        refine lv_aload_n hx hb d_Core_receive_99 rfl (lv_at hl 1 rfl) ?_
        refine hd_getN (C := R_Msg) (T := F_Msg) (N := 7) hx hb hts i_Msg hown hK hP 3 mj hmj rfl rfl 3 (by decide) (hN.use k_50) (fun _ h9 => h9) rfl d_Core_receive_100 ?_
        refine hd_cV hK (va_runV (As := [.int ((f_Core_giveUp cx mj v) 3 mj 3)]) (rest := []) ⟨hx, hb, hml, hown, hts⟩ (c_Core_performIfAllowed l hJ cx ((f_Core_giveUp cx mj v) 3 mj 3) (f_Core_giveUp cx mj v) hcx (by rw [mg_Core_giveUp hnet hfr]; exact hbl) (prog_Core_giveUp hprog)) (cwV 1 hts (hd_gV g_Core_performIfAllowed k_376 k_378 s_24 k_7) rfl rfl rfl (by decide +kernel) ⟨Nat.le_of_ble_eq_true rfl, Nat.le_of_ble_eq_true rfl⟩) (hd_preV hK hN hP 10 cx hcx rfl rfl [.int ((f_Core_giveUp cx mj v) 3 mj 3)]) rfl rfl hl.1 rfl (lv_room (Nat.le_of_ble_eq_true rfl)) d_Core_receive_103 ⟨Nat.zero_le _, Nat.zero_le _⟩) hS hA (fun H locs hP hS => ?_)
        exact hd_vret hx hb hr hlk hK hN hP hS d_Core_receive_106 (by subst ex1; simp only [f_Core_receive]; rw [if_neg h2, if_neg h5, if_pos h8])
      · skip
        by_cases h11 : x1 = 7
        · refine lv_tableIn (off := 83) (tgt := 87) hx hb d_Core_receive_4 (by rw [h11]; decide) (by rw [h11]; decide) (by rw [h11]; rfl) (by decide) ?_
          refine lv_aload_n hx hb d_Core_receive_87 rfl (lv_at hl 0 rfl) ?_
          refine lv_aload_n hx hb d_Core_receive_88 rfl (lv_at hl 1 rfl) ?_
          refine hd_getN (C := R_Msg) (T := F_Msg) (N := 7) hx hb hts i_Msg hown hK hP 3 mj hmj rfl rfl 3 (by decide) (hN.use k_50) (fun _ h9 => h9) rfl d_Core_receive_89 ?_
          refine hd_cV hK (va_runV (As := [.int (v 3 mj 3)]) (rest := []) ⟨hx, hb, hml, hown, hts⟩ (c_Core_endReplacement l hJ cx (v 3 mj 3) v hcx hbl) (cwV 1 hts (hd_gV g_Core_endReplacement k_372 k_374 s_23 k_7) rfl rfl rfl (by decide +kernel) ⟨Nat.le_of_ble_eq_true rfl, Nat.le_of_ble_eq_true rfl⟩) (hd_preV hK hN hP 10 cx hcx rfl rfl [.int (v 3 mj 3)]) rfl rfl hl.1 rfl (lv_room (Nat.le_of_ble_eq_true rfl)) d_Core_receive_92 ⟨Nat.zero_le _, Nat.zero_le _⟩) hS hA (fun H locs hP hS => ?_)
          refine lv_goto (tgt := 98) hx hb d_Core_receive_95 (by decide) ?_
          refine lv_aload_n hx hb d_Core_receive_98 rfl (lv_at hl 0 rfl) ?_
          refine lv_aload_n hx hb d_Core_receive_99 rfl (lv_at hl 1 rfl) ?_
          refine hd_getN (C := R_Msg) (T := F_Msg) (N := 7) hx hb hts i_Msg hown hK hP 3 mj hmj rfl rfl 3 (by decide) (hN.use k_50) (fun _ h9 => h9) rfl d_Core_receive_100 ?_
          refine hd_cV hK (va_runV (As := [.int ((f_Core_endReplacement cx (v 3 mj 3) v) 3 mj 3)]) (rest := []) ⟨hx, hb, hml, hown, hts⟩ (c_Core_performIfAllowed l hJ cx ((f_Core_endReplacement cx (v 3 mj 3) v) 3 mj 3) (f_Core_endReplacement cx (v 3 mj 3) v) hcx (by rw [mg_Core_endReplacement mj]; exact hbl) (prog_Core_endReplacement hprog)) (cwV 1 hts (hd_gV g_Core_performIfAllowed k_376 k_378 s_24 k_7) rfl rfl rfl (by decide +kernel) ⟨Nat.le_of_ble_eq_true rfl, Nat.le_of_ble_eq_true rfl⟩) (hd_preV hK hN hP 10 cx hcx rfl rfl [.int ((f_Core_endReplacement cx (v 3 mj 3) v) 3 mj 3)]) rfl rfl hl.1 rfl (lv_room (Nat.le_of_ble_eq_true rfl)) d_Core_receive_103 ⟨Nat.zero_le _, Nat.zero_le _⟩) hS hA (fun H locs hP hS => ?_)
          exact hd_vret hx hb hr hlk hK hN hP hS d_Core_receive_106 (by subst ex1; simp only [f_Core_receive]; rw [if_neg h2, if_neg h5, if_neg h8, if_pos h11])
        · skip
          by_cases h14 : x1 = 8
          · refine lv_tableIn (off := 40) (tgt := 44) hx hb d_Core_receive_4 (by rw [h14]; decide) (by rw [h14]; decide) (by rw [h14]; rfl) (by decide) ?_
            refine lv_aload_n hx hb d_Core_receive_44 rfl (lv_at hl 0 rfl) ?_
            refine lv_aload_n hx hb d_Core_receive_45 rfl (lv_at hl 1 rfl) ?_
            refine hd_cV hK (va_runV (As := [.ref (ad 3 mj)]) (rest := []) ⟨hx, hb, hml, hown, hts⟩ (c_Core_takeData l hJ cx mj v hcx hmj hbl) (cwV 1 hts (hd_gV g_Core_takeData k_351 k_353 s_18 k_7) rfl rfl rfl (by decide +kernel) ⟨Nat.le_of_ble_eq_true rfl, Nat.le_of_ble_eq_true rfl⟩) (hd_preV hK hN hP 10 cx hcx rfl rfl [.ref (ad 3 mj)]) rfl rfl hl.1 rfl (lv_room (Nat.le_of_ble_eq_true rfl)) d_Core_receive_46 ⟨Nat.zero_le _, Nat.zero_le _⟩) hS hA (fun H locs hP hS => ?_)
            refine lv_goto (tgt := 98) hx hb d_Core_receive_49 (by decide) ?_
            refine lv_aload_n hx hb d_Core_receive_98 rfl (lv_at hl 0 rfl) ?_
            refine lv_aload_n hx hb d_Core_receive_99 rfl (lv_at hl 1 rfl) ?_
            refine hd_getN (C := R_Msg) (T := F_Msg) (N := 7) hx hb hts i_Msg hown hK hP 3 mj hmj rfl rfl 3 (by decide) (hN.use k_50) (fun _ h9 => h9) rfl d_Core_receive_100 ?_
            refine hd_cV hK (va_runV (As := [.int ((f_Core_takeData cx mj v) 3 mj 3)]) (rest := []) ⟨hx, hb, hml, hown, hts⟩ (c_Core_performIfAllowed l hJ cx ((f_Core_takeData cx mj v) 3 mj 3) (f_Core_takeData cx mj v) hcx (by rw [mg_Core_takeData mj]; exact hbl) (prog_Core_takeData hprog)) (cwV 1 hts (hd_gV g_Core_performIfAllowed k_376 k_378 s_24 k_7) rfl rfl rfl (by decide +kernel) ⟨Nat.le_of_ble_eq_true rfl, Nat.le_of_ble_eq_true rfl⟩) (hd_preV hK hN hP 10 cx hcx rfl rfl [.int ((f_Core_takeData cx mj v) 3 mj 3)]) rfl rfl hl.1 rfl (lv_room (Nat.le_of_ble_eq_true rfl)) d_Core_receive_103 ⟨Nat.zero_le _, Nat.zero_le _⟩) hS hA (fun H locs hP hS => ?_)
            exact hd_vret hx hb hr hlk hK hN hP hS d_Core_receive_106 (by subst ex1; simp only [f_Core_receive]; rw [if_neg h2, if_neg h5, if_neg h8, if_neg h11, if_pos h14])
          · skip
            by_cases h17 : x1 = 9
            · refine lv_tableIn (off := 48) (tgt := 52) hx hb d_Core_receive_4 (by rw [h17]; decide) (by rw [h17]; decide) (by rw [h17]; rfl) (by decide) ?_
              refine lv_aload_n hx hb d_Core_receive_52 rfl (lv_at hl 0 rfl) ?_
              refine lv_aload_n hx hb d_Core_receive_53 rfl (lv_at hl 1 rfl) ?_
              refine hd_getN (C := R_Msg) (T := F_Msg) (N := 7) hx hb hts i_Msg hown hK hP 3 mj hmj rfl rfl 3 (by decide) (hN.use k_50) (fun _ h9 => h9) rfl d_Core_receive_54 ?_
              refine hd_cV hK (va_runV (As := [.int (v 3 mj 3)]) (rest := []) ⟨hx, hb, hml, hown, hts⟩ (c_Core_takeAck l hJ cx (v 3 mj 3) v hcx hbl) (cwV 1 hts (hd_gV g_Core_takeAck k_355 k_357 s_19 k_7) rfl rfl rfl (by decide +kernel) ⟨Nat.le_of_ble_eq_true rfl, Nat.le_of_ble_eq_true rfl⟩) (hd_preV hK hN hP 10 cx hcx rfl rfl [.int (v 3 mj 3)]) rfl rfl hl.1 rfl (lv_room (Nat.le_of_ble_eq_true rfl)) d_Core_receive_57 ⟨Nat.zero_le _, Nat.zero_le _⟩) hS hA (fun H locs hP hS => ?_)
              refine lv_goto (tgt := 98) hx hb d_Core_receive_60 (by decide) ?_
              refine lv_aload_n hx hb d_Core_receive_98 rfl (lv_at hl 0 rfl) ?_
              refine lv_aload_n hx hb d_Core_receive_99 rfl (lv_at hl 1 rfl) ?_
              refine hd_getN (C := R_Msg) (T := F_Msg) (N := 7) hx hb hts i_Msg hown hK hP 3 mj hmj rfl rfl 3 (by decide) (hN.use k_50) (fun _ h9 => h9) rfl d_Core_receive_100 ?_
              refine hd_cV hK (va_runV (As := [.int ((f_Core_takeAck cx (v 3 mj 3) v) 3 mj 3)]) (rest := []) ⟨hx, hb, hml, hown, hts⟩ (c_Core_performIfAllowed l hJ cx ((f_Core_takeAck cx (v 3 mj 3) v) 3 mj 3) (f_Core_takeAck cx (v 3 mj 3) v) hcx (by rw [mg_Core_takeAck mj]; exact hbl) (prog_Core_takeAck hprog)) (cwV 1 hts (hd_gV g_Core_performIfAllowed k_376 k_378 s_24 k_7) rfl rfl rfl (by decide +kernel) ⟨Nat.le_of_ble_eq_true rfl, Nat.le_of_ble_eq_true rfl⟩) (hd_preV hK hN hP 10 cx hcx rfl rfl [.int ((f_Core_takeAck cx (v 3 mj 3) v) 3 mj 3)]) rfl rfl hl.1 rfl (lv_room (Nat.le_of_ble_eq_true rfl)) d_Core_receive_103 ⟨Nat.zero_le _, Nat.zero_le _⟩) hS hA (fun H locs hP hS => ?_)
              exact hd_vret hx hb hr hlk hK hN hP hS d_Core_receive_106 (by subst ex1; simp only [f_Core_receive]; rw [if_neg h2, if_neg h5, if_neg h8, if_neg h11, if_neg h14, if_pos h17])
            · skip
              refine lv_tableOut (tgt := 98) hx hb d_Core_receive_4 (by have t0 := lv_neT h2 (a := 4) rfl; have t1 := lv_neT h5 (a := 5) rfl; have t2 := lv_neT h8 (a := 6) rfl; have t3 := lv_neT h11 (a := 7) rfl; have t4 := lv_neT h14 (a := 8) rfl; have t5 := lv_neT h17 (a := 9) rfl; omega) (by decide) ?_
              refine lv_aload_n hx hb d_Core_receive_98 rfl (lv_at hl 0 rfl) ?_
              refine lv_aload_n hx hb d_Core_receive_99 rfl (lv_at hl 1 rfl) ?_
              refine hd_getN (C := R_Msg) (T := F_Msg) (N := 7) hx hb hts i_Msg hown hK hP 3 mj hmj rfl rfl 3 (by decide) (hN.use k_50) (fun _ h9 => h9) rfl d_Core_receive_100 ?_
              refine hd_cV hK (va_runV (As := [.int (v 3 mj 3)]) (rest := []) ⟨hx, hb, hml, hown, hts⟩ (c_Core_performIfAllowed l hJ cx (v 3 mj 3) v hcx hbl hprog) (cwV 1 hts (hd_gV g_Core_performIfAllowed k_376 k_378 s_24 k_7) rfl rfl rfl (by decide +kernel) ⟨Nat.le_of_ble_eq_true rfl, Nat.le_of_ble_eq_true rfl⟩) (hd_preV hK hN hP 10 cx hcx rfl rfl [.int (v 3 mj 3)]) rfl rfl hl.1 rfl (lv_room (Nat.le_of_ble_eq_true rfl)) d_Core_receive_103 ⟨Nat.zero_le _, Nat.zero_le _⟩) hS hA (fun H locs hP hS => ?_)
              exact hd_vret hx hb hr hlk hK hN hP hS d_Core_receive_106 (by subst ex1; simp only [f_Core_receive]; rw [if_neg h2, if_neg h5, if_neg h8, if_neg h11, if_neg h14, if_neg h17])
