/-- what the compares of the law's loop say -/
theorem law_le {i L : Nat} (hL : L ≤ 2050) (hi : i ≤ 4000) (h : ¬ nI L - 4 < nI i) : i + 4 ≤ L := by
  rw [Int32.lt_iff_toInt_lt, Int32.toInt_sub, nI_toInt (by omega), nI_toInt (by omega), show (4 : Int32).toInt = 4 from rfl, Int.bmod_eq_of_le (by omega) (by omega)] at h
  omega
theorem law_in {i j L : Nat} {x : Int32} (hx : x = nI j) (h : i + j < L) (hL : L ≤ 2050) : vp_in (nI i + x) L := by
  rw [hx, nI_add]
  exact vp_in_nI h (by omega)
set_option maxHeartbeats 16000000 in
set_option maxRecDepth 100000 in
/-- the law's loop, over any invariant that does what it must -/
theorem law_loop {p : Program} {l : Launch} {ev : Env} {s : State} {m : MethodId} {below : List Frame} {meth : Method} {c : Code} {D : va_G} {cI cZ cM cC : ClassId} {n b L : Nat} {xs : Nat → Int32} (hL : L ≤ 2050) (C0 : lw_At p s m meth c b L xs) (hK : va_K D hx_cl (hx_ty cI cZ cM cC) s) (hN : hd_N s) (hn4 : n ≤ 4) {I : Nat → hd_V → Prop} (hO : hi_Ok n I) :
    ∀ (k t i : Nat) (v : hd_V), i = 2 + 4 * t → L + 8 ≤ i + 4 * k → i ≤ L + 4 → I t v → ∀ (H : Heap) (locs : List Loc) (ls : Array Slot), hd_P D hx_cl (hx_L n) (hx_ad s.heap.size n) (hx_ce cI cZ cM cC n (hx_ad s.heap.size n)) v H → va_S (fun q : Nat => s.heap.size ≤ q) s.heap H locs → lv_has ls 4 [(3, .int (nI i)), (0, .ref b), (1, .ref (hx_ad s.heap.size n 0 0)), (2, .ref (hx_ad s.heap.size n 20 0))] → W p l ev room_1 s m #[Value.ref b] below meth c H locs 91 1246 (lw_Z below #[Value.ref b] s) (F0 m 38 ls []) := by
  obtain ⟨hx, hb, hr, hml, hown, hts0, hX, hbl, hlocks, hgv⟩ := C0
  have hts : ∀ w ∈ lw_g, w.before #[Value.ref b] s = true := fun w hw => hts0 w (List.mem_filter.mp hw).1
  have hbA : ¬ (fun q : Nat => s.heap.size ≤ q) b := Nat.not_le.mpr hbl
  have hJ : hd_J (hx_L n) (hx_ad s.heap.size n) := hx_J
  have hA : ∀ q, hd_A (hx_L n) (hx_ad s.heap.size n) q → (fun q : Nat => s.heap.size ≤ q) q := fun q ⟨k, c, _, hq⟩ => by
    show s.heap.size ≤ q
    rw [hq]
    unfold hx_ad
    omega
  intro k
  induction k with
  | zero =>
    intro t i v h1 h2 h3
    exact absurd h2 (by omega)
  | succ k ih =>
    intro t i v hit hik hiL hI H locs ls hP hS hl
    have hs := hO.1 t v hI
    have hm := hO.2.1 t v hI
    refine lv_iload_n hx hb d_law_38 rfl (lv_at hl 0 rfl) ?_
    refine lv_aload_n hx hb d_law_39 rfl (lv_at hl 1 rfl) ?_
    refine va_slen hx hb hX hbl hbA hS d_law_40 ?_
    refine lv_iconst (v := 4) hx hb d_law_41 (by decide) ?_
    refine lv_isub hx hb d_law_42 ?_
    refine lv_icmp_gt (tgt := 482) hx hb d_law_43 (by decide) (fun h0 => ?_) (fun h0 => ?_)
    · refine lv_iconst (v := 1) hx hb d_law_482 (by decide) ?_
      refine va_forget (fun q hq => hS.2.2 q hq) ?_
      refine W.widen (k := 600000) (n := 7302249) (by decide) (by decide) ?_
      exact lw_ret hx hb hr hlocks d_law_483
    · have hle : i + 4 ≤ L := law_le hL (by omega) h0
      have ht : t < 512 := by omega
      have hi0 : vp_in (nI i) L := vp_in_nI (by omega) (by omega)
      have hi1 : vp_in (nI i + 1) L := law_in (j := 1) rfl (by omega) hL
      have hi2 : vp_in (nI i + 2) L := law_in (j := 2) rfl (by omega) hL
      have hi3 : vp_in (nI i + 3) L := law_in (j := 3) rfl (by omega) hL
      obtain ⟨a1, ha1⟩ : ∃ w, xs (nI i + 1).toNatClampNeg = w := ⟨_, rfl⟩
      obtain ⟨a2, ha2⟩ : ∃ w, xs (nI i + 2).toNatClampNeg = w := ⟨_, rfl⟩
      obtain ⟨a3, ha3⟩ : ∃ w, xs (nI i + 3).toNatClampNeg = w := ⟨_, rfl⟩
      have hnext : ∀ (v' : hd_V) (H' : Heap) (locs' : List Loc), I (t + 1) v' → hd_P D hx_cl (hx_L n) (hx_ad s.heap.size n) (hx_ce cI cZ cM cC n (hx_ad s.heap.size n)) v' H' → va_S (fun q : Nat => s.heap.size ≤ q) s.heap H' locs' → W p l ev room_1 s m #[Value.ref b] below meth c H' locs' 91 1246 (lw_Z below #[Value.ref b] s) (F0 m 476 ls []) := by
        intro v' H' locs' hI' hP' hS'
        refine lv_iinc (v := nI (i + 4)) (lv' := [(3, .int (nI (i + 4))), (0, .ref b), (1, .ref (hx_ad s.heap.size n 0 0)), (2, .ref (hx_ad s.heap.size n 20 0))]) hx hb d_law_476 hl (k := 0) rfl (nI_add i 4) (by decide) rfl (fun ls hl => ?_)
        refine lv_goto (tgt := 38) hx hb d_law_479 (by decide) ?_
        exact ih (t + 1) (i + 4) v' (by omega) (by omega) (by omega) hI' _ _ _ hP' hS' (lv_sub hl [0, 1, 2, 3] rfl)
      refine lv_aload_n hx hb d_law_46 rfl (lv_at hl 1 rfl) ?_
      refine lv_iload_n hx hb d_law_47 rfl (lv_at hl 0 rfl) ?_
      refine va_sld hx hb hX hbl hbA hS hi0 d_law_48 ?_
      refine lv_bipush (v := 15) hx hb d_law_49 (by decide) ?_
      refine lv_iand hx hb d_law_51 ?_
      refine lv_topi (fun x0 ex0 => ?_)
      by_cases hc0 : x0 = 0
      · refine lv_tableIn (off := 72) (tgt := 124) hx hb d_law_52 (by rw [hc0]; decide) (by rw [hc0]; decide) (by rw [hc0]; rfl) (by decide) ?_
        refine lv_aload_n hx hb d_law_124 rfl (lv_at hl 2 rfl) ?_
        refine lv_aload_n hx hb d_law_125 rfl (lv_at hl 1 rfl) ?_
        refine lv_iload_n hx hb d_law_126 rfl (lv_at hl 0 rfl) ?_
        refine lv_iconst (v := 1) hx hb d_law_127 (by decide) ?_
        refine lv_iadd hx hb d_law_128 ?_
        refine va_sld hx hb hX hbl hbA hS hi1 d_law_129 ?_
        rw [ha1]
        refine lv_aload_n hx hb d_law_130 rfl (lv_at hl 1 rfl) ?_
        refine lv_iload_n hx hb d_law_131 rfl (lv_at hl 0 rfl) ?_
        refine lv_iconst (v := 2) hx hb d_law_132 (by decide) ?_
        refine lv_iadd hx hb d_law_133 ?_
        refine va_sld hx hb hX hbl hbA hS hi2 d_law_134 ?_
        rw [ha2]
        refine lv_aload_n hx hb d_law_135 rfl (lv_at hl 1 rfl) ?_
        refine lv_iload_n hx hb d_law_136 rfl (lv_at hl 0 rfl) ?_
        refine lv_iconst (v := 3) hx hb d_law_137 (by decide) ?_
        refine lv_iadd hx hb d_law_138 ?_
        refine va_sld hx hb hX hbl hbA hS hi3 d_law_139 ?_
        rw [ha3]
        have ho := hO.2.2.1 t v a1 a2 a3 ht hI
        have hm1 := ho.1
        refine hd_cIV hK (va_runV (As := [.int a1, .int a2, .int a3]) (rest := []) ⟨hx, hb, hml, hown, hts⟩ (c_HD_code l hJ a1 a2 a3 v hn4 hs.2.2.1) (cwV 3 hts (hd_gV g_HD_code k_180 k_181 k_182 k_1) rfl rfl rfl (by decide +kernel) ⟨Nat.le_of_ble_eq_true rfl, Nat.le_of_ble_eq_true rfl⟩) (hd_preV hK hN hP 0 0 Nat.one_pos rfl rfl [.int a1, .int a2, .int a3]) rfl rfl hl.1 rfl (lv_room (Nat.le_of_ble_eq_true rfl)) d_law_140 ⟨Nat.le_of_ble_eq_true rfl, Nat.le_of_ble_eq_true rfl⟩) hS hA (fun H locs hP hS => ?_)
        refine lv_aload_n hx hb d_law_143 rfl (lv_at hl 3 rfl) ?_
        refine lv_aload_n hx hb d_law_144 rfl (lv_at hl 1 rfl) ?_
        refine lv_iload_n hx hb d_law_145 rfl (lv_at hl 0 rfl) ?_
        refine lv_iconst (v := 1) hx hb d_law_146 (by decide) ?_
        refine lv_iadd hx hb d_law_147 ?_
        refine va_sld hx hb hX hbl hbA hS hi1 d_law_148 ?_
        rw [ha1]
        refine lv_aload_n hx hb d_law_149 rfl (lv_at hl 1 rfl) ?_
        refine lv_iload_n hx hb d_law_150 rfl (lv_at hl 0 rfl) ?_
        refine lv_iconst (v := 2) hx hb d_law_151 (by decide) ?_
        refine lv_iadd hx hb d_law_152 ?_
        refine va_sld hx hb hX hbl hbA hS hi2 d_law_153 ?_
        rw [ha2]
        refine lv_aload_n hx hb d_law_154 rfl (lv_at hl 1 rfl) ?_
        refine lv_iload_n hx hb d_law_155 rfl (lv_at hl 0 rfl) ?_
        refine lv_iconst (v := 3) hx hb d_law_156 (by decide) ?_
        refine lv_iadd hx hb d_law_157 ?_
        refine va_sld hx hb hX hbl hbA hS hi3 d_law_158 ?_
        rw [ha3]
        refine hd_cIV hK (va_runV (As := [.int a1, .int a2, .int a3]) (rest := [.int (f_HD_code n a1 a2 a3 v).1]) ⟨hx, hb, hml, hown, hts⟩ (c_Mod_code l hJ a1 a2 a3 (f_HD_code n a1 a2 a3 v).2 hm1.1 hm1.2.1) (cwV 3 hts (hd_gV g_Mod_code k_529 k_530 k_531 k_8) rfl rfl rfl (by decide +kernel) ⟨Nat.le_of_ble_eq_true rfl, Nat.le_of_ble_eq_true rfl⟩) (hd_preV hK hN hP 20 0 Nat.one_pos he_20 rfl [.int a1, .int a2, .int a3]) rfl rfl hl.1 rfl (lv_room (Nat.le_of_ble_eq_true rfl)) d_law_159 ⟨Nat.le_of_ble_eq_true rfl, Nat.le_of_ble_eq_true rfl⟩) hS hA (fun H locs hP hS => ?_)
        refine lv_icmp_eq (tgt := 476) hx hb d_law_162 (by decide) (fun h9 => ?_) (fun h9 => absurd ho.2.1 h9)
        exact hnext _ _ _ ho.2.2 hP hS
      by_cases hc1 : x0 = 1
      · refine lv_tableIn (off := 115) (tgt := 167) hx hb d_law_52 (by rw [hc1]; decide) (by rw [hc1]; decide) (by rw [hc1]; rfl) (by decide) ?_
        refine lv_aload_n hx hb d_law_167 rfl (lv_at hl 2 rfl) ?_
        refine lv_aload_n hx hb d_law_168 rfl (lv_at hl 1 rfl) ?_
        refine lv_iload_n hx hb d_law_169 rfl (lv_at hl 0 rfl) ?_
        refine lv_iconst (v := 1) hx hb d_law_170 (by decide) ?_
        refine lv_iadd hx hb d_law_171 ?_
        refine va_sld hx hb hX hbl hbA hS hi1 d_law_172 ?_
        rw [ha1]
        refine lv_aload_n hx hb d_law_173 rfl (lv_at hl 1 rfl) ?_
        refine lv_iload_n hx hb d_law_174 rfl (lv_at hl 0 rfl) ?_
        refine lv_iconst (v := 2) hx hb d_law_175 (by decide) ?_
        refine lv_iadd hx hb d_law_176 ?_
        refine va_sld hx hb hX hbl hbA hS hi2 d_law_177 ?_
        rw [ha2]
        have ho := hO.2.2.2.1 t v a1 a2 ht hI
        have hm1 := ho.1
        refine hd_cIV hK (va_runV (As := [.int a1, .int a2]) (rest := []) ⟨hx, hb, hml, hown, hts⟩ (c_HD_go l hJ a1 a2 v hn4) (cwV 2 hts (hd_gV g_HD_go k_201 k_202 k_203 k_1) rfl rfl rfl (by decide +kernel) ⟨Nat.le_of_ble_eq_true rfl, Nat.le_of_ble_eq_true rfl⟩) (hd_preV hK hN hP 0 0 Nat.one_pos rfl rfl [.int a1, .int a2]) rfl rfl hl.1 rfl (lv_room (Nat.le_of_ble_eq_true rfl)) d_law_178 ⟨Nat.le_of_ble_eq_true rfl, Nat.le_of_ble_eq_true rfl⟩) hS hA (fun H locs hP hS => ?_)
        refine lv_aload_n hx hb d_law_181 rfl (lv_at hl 3 rfl) ?_
        refine lv_aload_n hx hb d_law_182 rfl (lv_at hl 1 rfl) ?_
        refine lv_iload_n hx hb d_law_183 rfl (lv_at hl 0 rfl) ?_
        refine lv_iconst (v := 1) hx hb d_law_184 (by decide) ?_
        refine lv_iadd hx hb d_law_185 ?_
        refine va_sld hx hb hX hbl hbA hS hi1 d_law_186 ?_
        rw [ha1]
        refine lv_aload_n hx hb d_law_187 rfl (lv_at hl 1 rfl) ?_
        refine lv_iload_n hx hb d_law_188 rfl (lv_at hl 0 rfl) ?_
        refine lv_iconst (v := 2) hx hb d_law_189 (by decide) ?_
        refine lv_iadd hx hb d_law_190 ?_
        refine va_sld hx hb hX hbl hbA hS hi2 d_law_191 ?_
        rw [ha2]
        refine hd_cIV hK (va_runV (As := [.int a1, .int a2]) (rest := [.int (f_HD_go n a1 a2 v).1]) ⟨hx, hb, hml, hown, hts⟩ (c_Mod_go l hJ a1 a2 (f_HD_go n a1 a2 v).2 hm1.1) (cwV 2 hts (hd_gV g_Mod_go k_543 k_544 k_545 k_8) rfl rfl rfl (by decide +kernel) ⟨Nat.le_of_ble_eq_true rfl, Nat.le_of_ble_eq_true rfl⟩) (hd_preV hK hN hP 20 0 Nat.one_pos he_20 rfl [.int a1, .int a2]) rfl rfl hl.1 rfl (lv_room (Nat.le_of_ble_eq_true rfl)) d_law_192 ⟨Nat.le_of_ble_eq_true rfl, Nat.le_of_ble_eq_true rfl⟩) hS hA (fun H locs hP hS => ?_)
        refine lv_icmp_eq (tgt := 476) hx hb d_law_195 (by decide) (fun h9 => ?_) (fun h9 => absurd ho.2.1 h9)
        exact hnext _ _ _ ho.2.2 hP hS
      by_cases hc2 : x0 = 2
      · refine lv_tableIn (off := 148) (tgt := 200) hx hb d_law_52 (by rw [hc2]; decide) (by rw [hc2]; decide) (by rw [hc2]; rfl) (by decide) ?_
        refine lv_aload_n hx hb d_law_200 rfl (lv_at hl 2 rfl) ?_
        refine lv_aload_n hx hb d_law_201 rfl (lv_at hl 1 rfl) ?_
        refine lv_iload_n hx hb d_law_202 rfl (lv_at hl 0 rfl) ?_
        refine lv_iconst (v := 1) hx hb d_law_203 (by decide) ?_
        refine lv_iadd hx hb d_law_204 ?_
        refine va_sld hx hb hX hbl hbA hS hi1 d_law_205 ?_
        rw [ha1]
        have ho := hO.2.2.2.2.1 t v a1 ht hI
        have hm1 := ho.1
        refine hd_cIV hK (va_runV (As := [.int a1]) (rest := []) ⟨hx, hb, hml, hown, hts⟩ (c_HD_step l hJ a1 v hn4 hs.2.2.2.1 hs.2.2.2.2.1 hs.1) (cwV 1 hts (hd_gV g_HD_step k_209 k_210 k_211 k_1) rfl rfl rfl (by decide +kernel) ⟨Nat.le_of_ble_eq_true rfl, Nat.le_of_ble_eq_true rfl⟩) (hd_preV hK hN hP 0 0 Nat.one_pos rfl rfl [.int a1]) rfl rfl hl.1 rfl (lv_room (Nat.le_of_ble_eq_true rfl)) d_law_206 ⟨Nat.le_of_ble_eq_true rfl, Nat.le_of_ble_eq_true rfl⟩) hS hA (fun H locs hP hS => ?_)
        refine lv_aload_n hx hb d_law_209 rfl (lv_at hl 3 rfl) ?_
        refine lv_aload_n hx hb d_law_210 rfl (lv_at hl 1 rfl) ?_
        refine lv_iload_n hx hb d_law_211 rfl (lv_at hl 0 rfl) ?_
        refine lv_iconst (v := 1) hx hb d_law_212 (by decide) ?_
        refine lv_iadd hx hb d_law_213 ?_
        refine va_sld hx hb hX hbl hbA hS hi1 d_law_214 ?_
        rw [ha1]
        refine hd_cIV hK (va_runV (As := [.int a1]) (rest := [.int (f_HD_step n a1 v).1]) ⟨hx, hb, hml, hown, hts⟩ (c_Mod_step l hJ a1 (f_HD_step n a1 v).2 hm1.1 hm1.2.2.1 hm1.2.2.2.1 hm1.2.2.2.2.1 (mm_w hm1.2.2.2.2.2.1)) (cwV 1 hts (hd_gV g_Mod_step k_547 k_548 k_549 k_8) rfl rfl rfl (by decide +kernel) ⟨Nat.le_of_ble_eq_true rfl, Nat.le_of_ble_eq_true rfl⟩) (hd_preV hK hN hP 20 0 Nat.one_pos he_20 rfl [.int a1]) rfl rfl hl.1 rfl (lv_room (Nat.le_of_ble_eq_true rfl)) d_law_215 ⟨Nat.le_of_ble_eq_true rfl, Nat.le_of_ble_eq_true rfl⟩) hS hA (fun H locs hP hS => ?_)
        refine lv_icmp_eq (tgt := 476) hx hb d_law_218 (by decide) (fun h9 => ?_) (fun h9 => absurd ho.2.1 h9)
        exact hnext _ _ _ ho.2.2 hP hS
      by_cases hc3 : x0 = 3
      · refine lv_tableIn (off := 171) (tgt := 223) hx hb d_law_52 (by rw [hc3]; decide) (by rw [hc3]; decide) (by rw [hc3]; rfl) (by decide) ?_
        refine lv_aload_n hx hb d_law_223 rfl (lv_at hl 2 rfl) ?_
        refine lv_aload_n hx hb d_law_224 rfl (lv_at hl 1 rfl) ?_
        refine lv_iload_n hx hb d_law_225 rfl (lv_at hl 0 rfl) ?_
        refine lv_iconst (v := 1) hx hb d_law_226 (by decide) ?_
        refine lv_iadd hx hb d_law_227 ?_
        refine va_sld hx hb hX hbl hbA hS hi1 d_law_228 ?_
        rw [ha1]
        have ho := hO.2.2.2.2.2.1 t v a1 ht hI
        have hm1 := ho.1
        refine hd_cIV hK (va_runV (As := [.int a1]) (rest := []) ⟨hx, hb, hml, hown, hts⟩ (c_HD_deliver l hJ a1 v hn4 hs.1 hs.2.1 hs.2.2.2.1 (hs.2.2.2.2.2 _)) (cwV 1 hts (hd_gV g_HD_deliver k_261 k_262 k_263 k_1) rfl rfl rfl (by decide +kernel) ⟨Nat.le_of_ble_eq_true rfl, Nat.le_of_ble_eq_true rfl⟩) (hd_preV hK hN hP 0 0 Nat.one_pos rfl rfl [.int a1]) rfl rfl hl.1 rfl (lv_room (Nat.le_of_ble_eq_true rfl)) d_law_229 ⟨Nat.le_of_ble_eq_true rfl, Nat.le_of_ble_eq_true rfl⟩) hS hA (fun H locs hP hS => ?_)
        refine lv_aload_n hx hb d_law_232 rfl (lv_at hl 3 rfl) ?_
        refine lv_aload_n hx hb d_law_233 rfl (lv_at hl 1 rfl) ?_
        refine lv_iload_n hx hb d_law_234 rfl (lv_at hl 0 rfl) ?_
        refine lv_iconst (v := 1) hx hb d_law_235 (by decide) ?_
        refine lv_iadd hx hb d_law_236 ?_
        refine va_sld hx hb hX hbl hbA hS hi1 d_law_237 ?_
        rw [ha1]
        refine hd_cIV hK (va_runV (As := [.int a1]) (rest := [.int (f_HD_deliver n a1 v).1]) ⟨hx, hb, hml, hown, hts⟩ (c_Mod_deliver l hJ a1 (f_HD_deliver n a1 v).2 hm1.2.2.2.2.2.1 (hm1.2.2.2.2.2.2.1 _) hm1.2.2.2.2.2.2.2.1 hm1.2.2.2.2.2.2.2.2) (cwV 1 hts (hd_gV g_Mod_deliver k_575 k_576 k_577 k_8) rfl rfl rfl (by decide +kernel) ⟨Nat.le_of_ble_eq_true rfl, Nat.le_of_ble_eq_true rfl⟩) (hd_preV hK hN hP 20 0 Nat.one_pos he_20 rfl [.int a1]) rfl rfl hl.1 rfl (lv_room (Nat.le_of_ble_eq_true rfl)) d_law_238 ⟨Nat.le_of_ble_eq_true rfl, Nat.le_of_ble_eq_true rfl⟩) hS hA (fun H locs hP hS => ?_)
        refine lv_icmp_eq (tgt := 476) hx hb d_law_241 (by decide) (fun h9 => ?_) (fun h9 => absurd ho.2.1 h9)
        exact hnext _ _ _ ho.2.2 hP hS
      by_cases hc4 : x0 = 4
      · refine lv_tableIn (off := 194) (tgt := 246) hx hb d_law_52 (by rw [hc4]; decide) (by rw [hc4]; decide) (by rw [hc4]; rfl) (by decide) ?_
        refine lv_aload_n hx hb d_law_246 rfl (lv_at hl 2 rfl) ?_
        refine hd_cI hK (va_runV (As := []) (rest := []) ⟨hx, hb, hml, hown, hts⟩ (c_HD_messages l hJ v ) (cwV 0 hts (hd_gV g_HD_messages k_384 k_385 k_386 k_1) rfl rfl rfl (by decide +kernel) ⟨Nat.le_of_ble_eq_true rfl, Nat.le_of_ble_eq_true rfl⟩) (hd_preV hK hN hP 0 0 Nat.one_pos rfl rfl []) rfl rfl hl.1 rfl (lv_room (Nat.le_of_ble_eq_true rfl)) d_law_247 ⟨Nat.le_of_ble_eq_true rfl, Nat.le_of_ble_eq_true rfl⟩) hS hA (fun H locs hP hS => ?_)
        refine lv_aload_n hx hb d_law_250 rfl (lv_at hl 3 rfl) ?_
        refine hd_cI hK (va_runV (As := []) (rest := [.int (f_HD_messages v)]) ⟨hx, hb, hml, hown, hts⟩ (c_Mod_messages l hJ v ) (cwV 0 hts (hd_gV g_Mod_messages k_619 k_620 k_621 k_8) rfl rfl rfl (by decide +kernel) ⟨Nat.le_of_ble_eq_true rfl, Nat.le_of_ble_eq_true rfl⟩) (hd_preV hK hN hP 20 0 Nat.one_pos he_20 rfl []) rfl rfl hl.1 rfl (lv_room (Nat.le_of_ble_eq_true rfl)) d_law_251 ⟨Nat.le_of_ble_eq_true rfl, Nat.le_of_ble_eq_true rfl⟩) hS hA (fun H locs hP hS => ?_)
        refine lv_icmp_eq (tgt := 476) hx hb d_law_254 (by decide) (fun h9 => ?_) (fun h9 => absurd (hO.2.2.2.2.2.2.1 t v hI) h9)
        exact hnext _ _ _ (hO.2.2.2.2.2.2.2.2.2.2.2.2.2.2.2.2 t v hI) hP hS
      by_cases hc5 : x0 = 5
      · refine lv_tableIn (off := 207) (tgt := 259) hx hb d_law_52 (by rw [hc5]; decide) (by rw [hc5]; decide) (by rw [hc5]; rfl) (by decide) ?_
        refine lv_aload_n hx hb d_law_259 rfl (lv_at hl 2 rfl) ?_
        refine lv_aload_n hx hb d_law_260 rfl (lv_at hl 1 rfl) ?_
        refine lv_iload_n hx hb d_law_261 rfl (lv_at hl 0 rfl) ?_
        refine lv_iconst (v := 1) hx hb d_law_262 (by decide) ?_
        refine lv_iadd hx hb d_law_263 ?_
        refine va_sld hx hb hX hbl hbA hS hi1 d_law_264 ?_
        rw [ha1]
        refine lv_aload_n hx hb d_law_265 rfl (lv_at hl 1 rfl) ?_
        refine lv_iload_n hx hb d_law_266 rfl (lv_at hl 0 rfl) ?_
        refine lv_iconst (v := 2) hx hb d_law_267 (by decide) ?_
        refine lv_iadd hx hb d_law_268 ?_
        refine va_sld hx hb hX hbl hbA hS hi2 d_law_269 ?_
        rw [ha2]
        refine hd_cI hK (va_runV (As := [.int a1, .int a2]) (rest := []) ⟨hx, hb, hml, hown, hts⟩ (c_HD_message l hJ a1 a2 v hs.1 hs.2.1) (cwV 2 hts (hd_gV g_HD_message k_388 k_389 k_390 k_1) rfl rfl rfl (by decide +kernel) ⟨Nat.le_of_ble_eq_true rfl, Nat.le_of_ble_eq_true rfl⟩) (hd_preV hK hN hP 0 0 Nat.one_pos rfl rfl [.int a1, .int a2]) rfl rfl hl.1 rfl (lv_room (Nat.le_of_ble_eq_true rfl)) d_law_270 ⟨Nat.le_of_ble_eq_true rfl, Nat.le_of_ble_eq_true rfl⟩) hS hA (fun H locs hP hS => ?_)
        refine lv_aload_n hx hb d_law_273 rfl (lv_at hl 3 rfl) ?_
        refine lv_aload_n hx hb d_law_274 rfl (lv_at hl 1 rfl) ?_
        refine lv_iload_n hx hb d_law_275 rfl (lv_at hl 0 rfl) ?_
        refine lv_iconst (v := 1) hx hb d_law_276 (by decide) ?_
        refine lv_iadd hx hb d_law_277 ?_
        refine va_sld hx hb hX hbl hbA hS hi1 d_law_278 ?_
        rw [ha1]
        refine lv_aload_n hx hb d_law_279 rfl (lv_at hl 1 rfl) ?_
        refine lv_iload_n hx hb d_law_280 rfl (lv_at hl 0 rfl) ?_
        refine lv_iconst (v := 2) hx hb d_law_281 (by decide) ?_
        refine lv_iadd hx hb d_law_282 ?_
        refine va_sld hx hb hX hbl hbA hS hi2 d_law_283 ?_
        rw [ha2]
        refine hd_cI hK (va_runV (As := [.int a1, .int a2]) (rest := [.int (f_HD_message a1 a2 v)]) ⟨hx, hb, hml, hown, hts⟩ (c_Mod_message l hJ a1 a2 v (hi_m64 hm.2.2.2.2.2.1)) (cwV 2 hts (hd_gV g_Mod_message k_623 k_624 k_625 k_8) rfl rfl rfl (by decide +kernel) ⟨Nat.le_of_ble_eq_true rfl, Nat.le_of_ble_eq_true rfl⟩) (hd_preV hK hN hP 20 0 Nat.one_pos he_20 rfl [.int a1, .int a2]) rfl rfl hl.1 rfl (lv_room (Nat.le_of_ble_eq_true rfl)) d_law_284 ⟨Nat.le_of_ble_eq_true rfl, Nat.le_of_ble_eq_true rfl⟩) hS hA (fun H locs hP hS => ?_)
        refine lv_icmp_eq (tgt := 476) hx hb d_law_287 (by decide) (fun h9 => ?_) (fun h9 => absurd (hO.2.2.2.2.2.2.2.1 t v a1 a2 hI) h9)
        exact hnext _ _ _ (hO.2.2.2.2.2.2.2.2.2.2.2.2.2.2.2.2 t v hI) hP hS
      by_cases hc6 : x0 = 6
      · refine lv_tableIn (off := 240) (tgt := 292) hx hb d_law_52 (by rw [hc6]; decide) (by rw [hc6]; decide) (by rw [hc6]; rfl) (by decide) ?_
        refine lv_aload_n hx hb d_law_292 rfl (lv_at hl 2 rfl) ?_
        refine lv_aload_n hx hb d_law_293 rfl (lv_at hl 1 rfl) ?_
        refine lv_iload_n hx hb d_law_294 rfl (lv_at hl 0 rfl) ?_
        refine lv_iconst (v := 1) hx hb d_law_295 (by decide) ?_
        refine lv_iadd hx hb d_law_296 ?_
        refine va_sld hx hb hX hbl hbA hS hi1 d_law_297 ?_
        rw [ha1]
        refine lv_aload_n hx hb d_law_298 rfl (lv_at hl 1 rfl) ?_
        refine lv_iload_n hx hb d_law_299 rfl (lv_at hl 0 rfl) ?_
        refine lv_iconst (v := 2) hx hb d_law_300 (by decide) ?_
        refine lv_iadd hx hb d_law_301 ?_
        refine va_sld hx hb hX hbl hbA hS hi2 d_law_302 ?_
        rw [ha2]
        refine hd_cI hK (va_runV (As := [.int a1, .int a2]) (rest := []) ⟨hx, hb, hml, hown, hts⟩ (c_HD_line l hJ a1 a2 v hn4) (cwV 2 hts (hd_gV g_HD_line k_396 k_397 k_398 k_1) rfl rfl rfl (by decide +kernel) ⟨Nat.le_of_ble_eq_true rfl, Nat.le_of_ble_eq_true rfl⟩) (hd_preV hK hN hP 0 0 Nat.one_pos rfl rfl [.int a1, .int a2]) rfl rfl hl.1 rfl (lv_room (Nat.le_of_ble_eq_true rfl)) d_law_303 ⟨Nat.le_of_ble_eq_true rfl, Nat.le_of_ble_eq_true rfl⟩) hS hA (fun H locs hP hS => ?_)
        refine lv_aload_n hx hb d_law_306 rfl (lv_at hl 3 rfl) ?_
        refine lv_aload_n hx hb d_law_307 rfl (lv_at hl 1 rfl) ?_
        refine lv_iload_n hx hb d_law_308 rfl (lv_at hl 0 rfl) ?_
        refine lv_iconst (v := 1) hx hb d_law_309 (by decide) ?_
        refine lv_iadd hx hb d_law_310 ?_
        refine va_sld hx hb hX hbl hbA hS hi1 d_law_311 ?_
        rw [ha1]
        refine lv_aload_n hx hb d_law_312 rfl (lv_at hl 1 rfl) ?_
        refine lv_iload_n hx hb d_law_313 rfl (lv_at hl 0 rfl) ?_
        refine lv_iconst (v := 2) hx hb d_law_314 (by decide) ?_
        refine lv_iadd hx hb d_law_315 ?_
        refine va_sld hx hb hX hbl hbA hS hi2 d_law_316 ?_
        rw [ha2]
        refine hd_cI hK (va_runV (As := [.int a1, .int a2]) (rest := [.int (f_HD_line n a1 a2 v)]) ⟨hx, hb, hml, hown, hts⟩ (c_Mod_line l hJ a1 a2 v hm.1) (cwV 2 hts (hd_gV g_Mod_line k_627 k_628 k_629 k_8) rfl rfl rfl (by decide +kernel) ⟨Nat.le_of_ble_eq_true rfl, Nat.le_of_ble_eq_true rfl⟩) (hd_preV hK hN hP 20 0 Nat.one_pos he_20 rfl [.int a1, .int a2]) rfl rfl hl.1 rfl (lv_room (Nat.le_of_ble_eq_true rfl)) d_law_317 ⟨Nat.le_of_ble_eq_true rfl, Nat.le_of_ble_eq_true rfl⟩) hS hA (fun H locs hP hS => ?_)
        refine lv_icmp_eq (tgt := 476) hx hb d_law_320 (by decide) (fun h9 => ?_) (fun h9 => absurd (hO.2.2.2.2.2.2.2.2.1 t v a1 a2 hI) h9)
        exact hnext _ _ _ (hO.2.2.2.2.2.2.2.2.2.2.2.2.2.2.2.2 t v hI) hP hS
      by_cases hc7 : x0 = 7
      · refine lv_tableIn (off := 273) (tgt := 325) hx hb d_law_52 (by rw [hc7]; decide) (by rw [hc7]; decide) (by rw [hc7]; rfl) (by decide) ?_
        refine lv_aload_n hx hb d_law_325 rfl (lv_at hl 2 rfl) ?_
        refine lv_aload_n hx hb d_law_326 rfl (lv_at hl 1 rfl) ?_
        refine lv_iload_n hx hb d_law_327 rfl (lv_at hl 0 rfl) ?_
        refine lv_iconst (v := 1) hx hb d_law_328 (by decide) ?_
        refine lv_iadd hx hb d_law_329 ?_
        refine va_sld hx hb hX hbl hbA hS hi1 d_law_330 ?_
        rw [ha1]
        refine lv_aload_n hx hb d_law_331 rfl (lv_at hl 1 rfl) ?_
        refine lv_iload_n hx hb d_law_332 rfl (lv_at hl 0 rfl) ?_
        refine lv_iconst (v := 2) hx hb d_law_333 (by decide) ?_
        refine lv_iadd hx hb d_law_334 ?_
        refine va_sld hx hb hX hbl hbA hS hi2 d_law_335 ?_
        rw [ha2]
        refine hd_cI hK (va_runV (As := [.int a1, .int a2]) (rest := []) ⟨hx, hb, hml, hown, hts⟩ (c_HD_word l hJ a1 a2 v hn4) (cwV 2 hts (hd_gV g_HD_word k_401 k_402 k_403 k_1) rfl rfl rfl (by decide +kernel) ⟨Nat.le_of_ble_eq_true rfl, Nat.le_of_ble_eq_true rfl⟩) (hd_preV hK hN hP 0 0 Nat.one_pos rfl rfl [.int a1, .int a2]) rfl rfl hl.1 rfl (lv_room (Nat.le_of_ble_eq_true rfl)) d_law_336 ⟨Nat.le_of_ble_eq_true rfl, Nat.le_of_ble_eq_true rfl⟩) hS hA (fun H locs hP hS => ?_)
        refine lv_aload_n hx hb d_law_339 rfl (lv_at hl 3 rfl) ?_
        refine lv_aload_n hx hb d_law_340 rfl (lv_at hl 1 rfl) ?_
        refine lv_iload_n hx hb d_law_341 rfl (lv_at hl 0 rfl) ?_
        refine lv_iconst (v := 1) hx hb d_law_342 (by decide) ?_
        refine lv_iadd hx hb d_law_343 ?_
        refine va_sld hx hb hX hbl hbA hS hi1 d_law_344 ?_
        rw [ha1]
        refine lv_aload_n hx hb d_law_345 rfl (lv_at hl 1 rfl) ?_
        refine lv_iload_n hx hb d_law_346 rfl (lv_at hl 0 rfl) ?_
        refine lv_iconst (v := 2) hx hb d_law_347 (by decide) ?_
        refine lv_iadd hx hb d_law_348 ?_
        refine va_sld hx hb hX hbl hbA hS hi2 d_law_349 ?_
        rw [ha2]
        refine hd_cI hK (va_runV (As := [.int a1, .int a2]) (rest := [.int (f_HD_word n a1 a2 v)]) ⟨hx, hb, hml, hown, hts⟩ (c_Mod_word l hJ a1 a2 v hm.1) (cwV 2 hts (hd_gV g_Mod_word k_631 k_632 k_633 k_8) rfl rfl rfl (by decide +kernel) ⟨Nat.le_of_ble_eq_true rfl, Nat.le_of_ble_eq_true rfl⟩) (hd_preV hK hN hP 20 0 Nat.one_pos he_20 rfl [.int a1, .int a2]) rfl rfl hl.1 rfl (lv_room (Nat.le_of_ble_eq_true rfl)) d_law_350 ⟨Nat.le_of_ble_eq_true rfl, Nat.le_of_ble_eq_true rfl⟩) hS hA (fun H locs hP hS => ?_)
        refine lv_icmp_eq (tgt := 476) hx hb d_law_353 (by decide) (fun h9 => ?_) (fun h9 => absurd (hO.2.2.2.2.2.2.2.2.2.1 t v a1 a2 hI) h9)
        exact hnext _ _ _ (hO.2.2.2.2.2.2.2.2.2.2.2.2.2.2.2.2 t v hI) hP hS
      by_cases hc8 : x0 = 8
      · refine lv_tableIn (off := 306) (tgt := 358) hx hb d_law_52 (by rw [hc8]; decide) (by rw [hc8]; decide) (by rw [hc8]; rfl) (by decide) ?_
        refine lv_aload_n hx hb d_law_358 rfl (lv_at hl 2 rfl) ?_
        refine lv_aload_n hx hb d_law_359 rfl (lv_at hl 1 rfl) ?_
        refine lv_iload_n hx hb d_law_360 rfl (lv_at hl 0 rfl) ?_
        refine lv_iconst (v := 1) hx hb d_law_361 (by decide) ?_
        refine lv_iadd hx hb d_law_362 ?_
        refine va_sld hx hb hX hbl hbA hS hi1 d_law_363 ?_
        rw [ha1]
        refine hd_cI hK (va_runV (As := [.int a1]) (rest := []) ⟨hx, hb, hml, hown, hts⟩ (c_HD_home l hJ a1 v ) (cwV 1 hts (hd_gV g_HD_home k_409 k_410 k_411 k_1) rfl rfl rfl (by decide +kernel) ⟨Nat.le_of_ble_eq_true rfl, Nat.le_of_ble_eq_true rfl⟩) (hd_preV hK hN hP 0 0 Nat.one_pos rfl rfl [.int a1]) rfl rfl hl.1 rfl (lv_room (Nat.le_of_ble_eq_true rfl)) d_law_364 ⟨Nat.le_of_ble_eq_true rfl, Nat.le_of_ble_eq_true rfl⟩) hS hA (fun H locs hP hS => ?_)
        refine lv_aload_n hx hb d_law_367 rfl (lv_at hl 3 rfl) ?_
        refine lv_aload_n hx hb d_law_368 rfl (lv_at hl 1 rfl) ?_
        refine lv_iload_n hx hb d_law_369 rfl (lv_at hl 0 rfl) ?_
        refine lv_iconst (v := 1) hx hb d_law_370 (by decide) ?_
        refine lv_iadd hx hb d_law_371 ?_
        refine va_sld hx hb hX hbl hbA hS hi1 d_law_372 ?_
        rw [ha1]
        refine hd_cI hK (va_runV (As := [.int a1]) (rest := [.int (f_HD_home a1 v)]) ⟨hx, hb, hml, hown, hts⟩ (c_Mod_home l hJ a1 v ) (cwV 1 hts (hd_gV g_Mod_home k_635 k_636 k_637 k_8) rfl rfl rfl (by decide +kernel) ⟨Nat.le_of_ble_eq_true rfl, Nat.le_of_ble_eq_true rfl⟩) (hd_preV hK hN hP 20 0 Nat.one_pos he_20 rfl [.int a1]) rfl rfl hl.1 rfl (lv_room (Nat.le_of_ble_eq_true rfl)) d_law_373 ⟨Nat.le_of_ble_eq_true rfl, Nat.le_of_ble_eq_true rfl⟩) hS hA (fun H locs hP hS => ?_)
        refine lv_icmp_eq (tgt := 476) hx hb d_law_376 (by decide) (fun h9 => ?_) (fun h9 => absurd (hO.2.2.2.2.2.2.2.2.2.2.1 t v a1 hI) h9)
        exact hnext _ _ _ (hO.2.2.2.2.2.2.2.2.2.2.2.2.2.2.2.2 t v hI) hP hS
      by_cases hc9 : x0 = 9
      · refine lv_tableIn (off := 329) (tgt := 381) hx hb d_law_52 (by rw [hc9]; decide) (by rw [hc9]; decide) (by rw [hc9]; rfl) (by decide) ?_
        refine lv_aload_n hx hb d_law_381 rfl (lv_at hl 2 rfl) ?_
        refine lv_aload_n hx hb d_law_382 rfl (lv_at hl 1 rfl) ?_
        refine lv_iload_n hx hb d_law_383 rfl (lv_at hl 0 rfl) ?_
        refine lv_iconst (v := 1) hx hb d_law_384 (by decide) ?_
        refine lv_iadd hx hb d_law_385 ?_
        refine va_sld hx hb hX hbl hbA hS hi1 d_law_386 ?_
        rw [ha1]
        refine hd_cI hK (va_runV (As := [.int a1]) (rest := []) ⟨hx, hb, hml, hown, hts⟩ (c_HD_memory l hJ a1 v ) (cwV 1 hts (hd_gV g_HD_memory k_417 k_418 k_419 k_1) rfl rfl rfl (by decide +kernel) ⟨Nat.le_of_ble_eq_true rfl, Nat.le_of_ble_eq_true rfl⟩) (hd_preV hK hN hP 0 0 Nat.one_pos rfl rfl [.int a1]) rfl rfl hl.1 rfl (lv_room (Nat.le_of_ble_eq_true rfl)) d_law_387 ⟨Nat.le_of_ble_eq_true rfl, Nat.le_of_ble_eq_true rfl⟩) hS hA (fun H locs hP hS => ?_)
        refine lv_aload_n hx hb d_law_390 rfl (lv_at hl 3 rfl) ?_
        refine lv_aload_n hx hb d_law_391 rfl (lv_at hl 1 rfl) ?_
        refine lv_iload_n hx hb d_law_392 rfl (lv_at hl 0 rfl) ?_
        refine lv_iconst (v := 1) hx hb d_law_393 (by decide) ?_
        refine lv_iadd hx hb d_law_394 ?_
        refine va_sld hx hb hX hbl hbA hS hi1 d_law_395 ?_
        rw [ha1]
        refine hd_cI hK (va_runV (As := [.int a1]) (rest := [.int (f_HD_memory a1 v)]) ⟨hx, hb, hml, hown, hts⟩ (c_Mod_memory l hJ a1 v ) (cwV 1 hts (hd_gV g_Mod_memory k_639 k_640 k_641 k_8) rfl rfl rfl (by decide +kernel) ⟨Nat.le_of_ble_eq_true rfl, Nat.le_of_ble_eq_true rfl⟩) (hd_preV hK hN hP 20 0 Nat.one_pos he_20 rfl [.int a1]) rfl rfl hl.1 rfl (lv_room (Nat.le_of_ble_eq_true rfl)) d_law_396 ⟨Nat.le_of_ble_eq_true rfl, Nat.le_of_ble_eq_true rfl⟩) hS hA (fun H locs hP hS => ?_)
        refine lv_icmp_eq (tgt := 476) hx hb d_law_399 (by decide) (fun h9 => ?_) (fun h9 => absurd (hO.2.2.2.2.2.2.2.2.2.2.2.1 t v a1 hI) h9)
        exact hnext _ _ _ (hO.2.2.2.2.2.2.2.2.2.2.2.2.2.2.2.2 t v hI) hP hS
      by_cases hc10 : x0 = 10
      · refine lv_tableIn (off := 352) (tgt := 404) hx hb d_law_52 (by rw [hc10]; decide) (by rw [hc10]; decide) (by rw [hc10]; rfl) (by decide) ?_
        refine lv_aload_n hx hb d_law_404 rfl (lv_at hl 2 rfl) ?_
        refine lv_aload_n hx hb d_law_405 rfl (lv_at hl 1 rfl) ?_
        refine lv_iload_n hx hb d_law_406 rfl (lv_at hl 0 rfl) ?_
        refine lv_iconst (v := 1) hx hb d_law_407 (by decide) ?_
        refine lv_iadd hx hb d_law_408 ?_
        refine va_sld hx hb hX hbl hbA hS hi1 d_law_409 ?_
        rw [ha1]
        refine hd_cI hK (va_runV (As := [.int a1]) (rest := []) ⟨hx, hb, hml, hown, hts⟩ (c_HD_accumulator l hJ a1 v hn4) (cwV 1 hts (hd_gV g_HD_accumulator k_421 k_422 k_423 k_1) rfl rfl rfl (by decide +kernel) ⟨Nat.le_of_ble_eq_true rfl, Nat.le_of_ble_eq_true rfl⟩) (hd_preV hK hN hP 0 0 Nat.one_pos rfl rfl [.int a1]) rfl rfl hl.1 rfl (lv_room (Nat.le_of_ble_eq_true rfl)) d_law_410 ⟨Nat.le_of_ble_eq_true rfl, Nat.le_of_ble_eq_true rfl⟩) hS hA (fun H locs hP hS => ?_)
        refine lv_aload_n hx hb d_law_413 rfl (lv_at hl 3 rfl) ?_
        refine lv_aload_n hx hb d_law_414 rfl (lv_at hl 1 rfl) ?_
        refine lv_iload_n hx hb d_law_415 rfl (lv_at hl 0 rfl) ?_
        refine lv_iconst (v := 1) hx hb d_law_416 (by decide) ?_
        refine lv_iadd hx hb d_law_417 ?_
        refine va_sld hx hb hX hbl hbA hS hi1 d_law_418 ?_
        rw [ha1]
        refine hd_cI hK (va_runV (As := [.int a1]) (rest := [.int (f_HD_accumulator n a1 v)]) ⟨hx, hb, hml, hown, hts⟩ (c_Mod_accumulator l hJ a1 v hm.1) (cwV 1 hts (hd_gV g_Mod_accumulator k_643 k_644 k_645 k_8) rfl rfl rfl (by decide +kernel) ⟨Nat.le_of_ble_eq_true rfl, Nat.le_of_ble_eq_true rfl⟩) (hd_preV hK hN hP 20 0 Nat.one_pos he_20 rfl [.int a1]) rfl rfl hl.1 rfl (lv_room (Nat.le_of_ble_eq_true rfl)) d_law_419 ⟨Nat.le_of_ble_eq_true rfl, Nat.le_of_ble_eq_true rfl⟩) hS hA (fun H locs hP hS => ?_)
        refine lv_icmp_eq (tgt := 476) hx hb d_law_422 (by decide) (fun h9 => ?_) (fun h9 => absurd (hO.2.2.2.2.2.2.2.2.2.2.2.2.1 t v a1 hI) h9)
        exact hnext _ _ _ (hO.2.2.2.2.2.2.2.2.2.2.2.2.2.2.2.2 t v hI) hP hS
      by_cases hc11 : x0 = 11
      · refine lv_tableIn (off := 375) (tgt := 427) hx hb d_law_52 (by rw [hc11]; decide) (by rw [hc11]; decide) (by rw [hc11]; rfl) (by decide) ?_
        refine lv_aload_n hx hb d_law_427 rfl (lv_at hl 2 rfl) ?_
        refine lv_aload_n hx hb d_law_428 rfl (lv_at hl 1 rfl) ?_
        refine lv_iload_n hx hb d_law_429 rfl (lv_at hl 0 rfl) ?_
        refine lv_iconst (v := 1) hx hb d_law_430 (by decide) ?_
        refine lv_iadd hx hb d_law_431 ?_
        refine va_sld hx hb hX hbl hbA hS hi1 d_law_432 ?_
        rw [ha1]
        refine hd_cI hK (va_runV (As := [.int a1]) (rest := []) ⟨hx, hb, hml, hown, hts⟩ (c_HD_place l hJ a1 v hn4) (cwV 1 hts (hd_gV g_HD_place k_425 k_426 k_427 k_1) rfl rfl rfl (by decide +kernel) ⟨Nat.le_of_ble_eq_true rfl, Nat.le_of_ble_eq_true rfl⟩) (hd_preV hK hN hP 0 0 Nat.one_pos rfl rfl [.int a1]) rfl rfl hl.1 rfl (lv_room (Nat.le_of_ble_eq_true rfl)) d_law_433 ⟨Nat.le_of_ble_eq_true rfl, Nat.le_of_ble_eq_true rfl⟩) hS hA (fun H locs hP hS => ?_)
        refine lv_aload_n hx hb d_law_436 rfl (lv_at hl 3 rfl) ?_
        refine lv_aload_n hx hb d_law_437 rfl (lv_at hl 1 rfl) ?_
        refine lv_iload_n hx hb d_law_438 rfl (lv_at hl 0 rfl) ?_
        refine lv_iconst (v := 1) hx hb d_law_439 (by decide) ?_
        refine lv_iadd hx hb d_law_440 ?_
        refine va_sld hx hb hX hbl hbA hS hi1 d_law_441 ?_
        rw [ha1]
        refine hd_cI hK (va_runV (As := [.int a1]) (rest := [.int (f_HD_place n a1 v)]) ⟨hx, hb, hml, hown, hts⟩ (c_Mod_place l hJ a1 v hm.1) (cwV 1 hts (hd_gV g_Mod_place k_647 k_648 k_649 k_8) rfl rfl rfl (by decide +kernel) ⟨Nat.le_of_ble_eq_true rfl, Nat.le_of_ble_eq_true rfl⟩) (hd_preV hK hN hP 20 0 Nat.one_pos he_20 rfl [.int a1]) rfl rfl hl.1 rfl (lv_room (Nat.le_of_ble_eq_true rfl)) d_law_442 ⟨Nat.le_of_ble_eq_true rfl, Nat.le_of_ble_eq_true rfl⟩) hS hA (fun H locs hP hS => ?_)
        refine lv_icmp_eq (tgt := 476) hx hb d_law_445 (by decide) (fun h9 => ?_) (fun h9 => absurd (hO.2.2.2.2.2.2.2.2.2.2.2.2.2.1 t v a1 hI) h9)
        exact hnext _ _ _ (hO.2.2.2.2.2.2.2.2.2.2.2.2.2.2.2.2 t v hI) hP hS
      by_cases hc12 : x0 = 12
      · refine lv_tableIn (off := 398) (tgt := 450) hx hb d_law_52 (by rw [hc12]; decide) (by rw [hc12]; decide) (by rw [hc12]; rfl) (by decide) ?_
        refine lv_aload_n hx hb d_law_450 rfl (lv_at hl 2 rfl) ?_
        refine hd_cI hK (va_runV (As := []) (rest := []) ⟨hx, hb, hml, hown, hts⟩ (c_HD_sent l hJ v ) (cwV 0 hts (hd_gV g_HD_sent k_429 k_430 k_431 k_1) rfl rfl rfl (by decide +kernel) ⟨Nat.le_of_ble_eq_true rfl, Nat.le_of_ble_eq_true rfl⟩) (hd_preV hK hN hP 0 0 Nat.one_pos rfl rfl []) rfl rfl hl.1 rfl (lv_room (Nat.le_of_ble_eq_true rfl)) d_law_451 ⟨Nat.le_of_ble_eq_true rfl, Nat.le_of_ble_eq_true rfl⟩) hS hA (fun H locs hP hS => ?_)
        refine lv_aload_n hx hb d_law_454 rfl (lv_at hl 3 rfl) ?_
        refine hd_cI hK (va_runV (As := []) (rest := [.int (f_HD_sent v)]) ⟨hx, hb, hml, hown, hts⟩ (c_Mod_sent l hJ v ) (cwV 0 hts (hd_gV g_Mod_sent k_651 k_652 k_653 k_8) rfl rfl rfl (by decide +kernel) ⟨Nat.le_of_ble_eq_true rfl, Nat.le_of_ble_eq_true rfl⟩) (hd_preV hK hN hP 20 0 Nat.one_pos he_20 rfl []) rfl rfl hl.1 rfl (lv_room (Nat.le_of_ble_eq_true rfl)) d_law_455 ⟨Nat.le_of_ble_eq_true rfl, Nat.le_of_ble_eq_true rfl⟩) hS hA (fun H locs hP hS => ?_)
        refine lv_icmp_eq (tgt := 476) hx hb d_law_458 (by decide) (fun h9 => ?_) (fun h9 => absurd (hO.2.2.2.2.2.2.2.2.2.2.2.2.2.2.1 t v hI) h9)
        exact hnext _ _ _ (hO.2.2.2.2.2.2.2.2.2.2.2.2.2.2.2.2 t v hI) hP hS
      by_cases hc13 : x0 = 13
      · refine lv_tableIn (off := 411) (tgt := 463) hx hb d_law_52 (by rw [hc13]; decide) (by rw [hc13]; decide) (by rw [hc13]; rfl) (by decide) ?_
        refine lv_aload_n hx hb d_law_463 rfl (lv_at hl 2 rfl) ?_
        refine hd_cI hK (va_runV (As := []) (rest := []) ⟨hx, hb, hml, hown, hts⟩ (c_HD_performed l hJ v hn4) (cwV 0 hts (hd_gV g_HD_performed k_433 k_434 k_435 k_1) rfl rfl rfl (by decide +kernel) ⟨Nat.le_of_ble_eq_true rfl, Nat.le_of_ble_eq_true rfl⟩) (hd_preV hK hN hP 0 0 Nat.one_pos rfl rfl []) rfl rfl hl.1 rfl (lv_room (Nat.le_of_ble_eq_true rfl)) d_law_464 ⟨Nat.le_of_ble_eq_true rfl, Nat.le_of_ble_eq_true rfl⟩) hS hA (fun H locs hP hS => ?_)
        refine lv_aload_n hx hb d_law_467 rfl (lv_at hl 3 rfl) ?_
        refine hd_cI hK (va_runV (As := []) (rest := [.int (f_HD_performed n v)]) ⟨hx, hb, hml, hown, hts⟩ (c_Mod_performed l hJ v ) (cwV 0 hts (hd_gV g_Mod_performed k_655 k_656 k_657 k_8) rfl rfl rfl (by decide +kernel) ⟨Nat.le_of_ble_eq_true rfl, Nat.le_of_ble_eq_true rfl⟩) (hd_preV hK hN hP 20 0 Nat.one_pos he_20 rfl []) rfl rfl hl.1 rfl (lv_room (Nat.le_of_ble_eq_true rfl)) d_law_468 ⟨Nat.le_of_ble_eq_true rfl, Nat.le_of_ble_eq_true rfl⟩) hS hA (fun H locs hP hS => ?_)
        refine lv_icmp_eq (tgt := 476) hx hb d_law_471 (by decide) (fun h9 => ?_) (fun h9 => absurd (hO.2.2.2.2.2.2.2.2.2.2.2.2.2.2.2.1 t v hI) h9)
        exact hnext _ _ _ (hO.2.2.2.2.2.2.2.2.2.2.2.2.2.2.2.2 t v hI) hP hS
      refine lv_tableOut (tgt := 476) hx hb d_law_52 (by have t0 := lv_neT hc0 (a := 0) rfl; have t1 := lv_neT hc1 (a := 1) rfl; have t2 := lv_neT hc2 (a := 2) rfl; have t3 := lv_neT hc3 (a := 3) rfl; have t4 := lv_neT hc4 (a := 4) rfl; have t5 := lv_neT hc5 (a := 5) rfl; have t6 := lv_neT hc6 (a := 6) rfl; have t7 := lv_neT hc7 (a := 7) rfl; have t8 := lv_neT hc8 (a := 8) rfl; have t9 := lv_neT hc9 (a := 9) rfl; have t10 := lv_neT hc10 (a := 10) rfl; have t11 := lv_neT hc11 (a := 11) rfl; have t12 := lv_neT hc12 (a := 12) rfl; have t13 := lv_neT hc13 (a := 13) rfl; omega) (by decide) ?_
      exact hnext _ _ _ (hO.2.2.2.2.2.2.2.2.2.2.2.2.2.2.2.2 t v hI) hP hS
