/-! Places in the reference's arrays -/
theorem mod_4 {c b : Int32} (hc : vp_in c 4) (hb : vp_in b 4) : vp_in (4 * c + b) 16 := by
  rw [vp_in_iff] at *
  have e1 : (4 * c).toInt = 4 * c.toInt := by
    rw [Int32.toInt_mul, show (4 : Int32).toInt = 4 from rfl, Int.bmod_eq_of_le (by omega) (by omega)]
  rw [Int32.toInt_add, e1, Int.bmod_eq_of_le (by omega) (by omega)]
  omega
theorem mod_16 {c b : Int32} (hc : vp_in c 4) (hb : vp_in b 16) : vp_in (16 * c + b) 64 := by
  rw [vp_in_iff] at *
  have e1 : (16 * c).toInt = 16 * c.toInt := by
    rw [Int32.toInt_mul, show (16 : Int32).toInt = 16 from rfl, Int.bmod_eq_of_le (by omega) (by omega)]
  rw [Int32.toInt_add, e1, Int.bmod_eq_of_le (by omega) (by omega)]
  omega
/-- room for r messages more -/
def hx_mm (r : Nat) (v : hd_V) : Prop := 0 ≤ (v 20 0 17).toInt ∧ (v 20 0 17).toInt + r ≤ 64
theorem mm_w {r : Nat} {v : hd_V} (h : hx_mm (r + 1) v) : hx_mm 1 v := ⟨h.1, by have := h.2; omega⟩
theorem mm_in {v : hd_V} (h : hx_mm 1 v) : vp_in (v 20 0 17) 64 := by
  rw [vp_in_iff]
  have h1 := h.1
  have h2 := h.2
  omega
theorem hd_in6 {x : Int32} (h0 : 0 ≤ x.toInt) (h1 : x.toInt ≤ 16) (h : ¬ x = 16) : vp_in x 16 := by
  rw [vp_in_iff]
  have : ¬ x.toInt = 16 := fun z => h (Int32.toInt_inj.mp z)
  omega
theorem hd_in7 {x y : Int32} {N : Nat} (h0 : ¬ x < 0) (h1 : ¬ y ≤ x) (hy : y.toInt ≤ N) : vp_in x N := by
  rw [vp_in_iff]
  rw [Int32.lt_iff_toInt_lt, show (0 : Int32).toInt = 0 from rfl] at h0
  rw [Int32.le_iff_toInt_le] at h1
  omega
theorem hd_in8 {x y : Int32} {N : Nat} (h0 : ¬ x < 0) (h1 : x < y) (hy : y.toInt ≤ N) : vp_in x N := by
  rw [vp_in_iff]
  rw [Int32.lt_iff_toInt_lt, show (0 : Int32).toInt = 0 from rfl] at h0
  rw [Int32.lt_iff_toInt_lt] at h1
  omega
/-- the reference's object -/
def fx_20 (ad : Nat → Nat → Nat) (g : Nat → Int32) : List Value := [.int (g 0), .int (g 1), .ref (ad 22 0), .ref (ad 23 0), .ref (ad 24 0), .ref (ad 25 0), .ref (ad 26 0), .ref (ad 27 0), .ref (ad 28 0), .ref (ad 29 0), .ref (ad 30 0), .ref (ad 31 0), .int (g 12), .ref (ad 33 0), .ref (ad 34 0), .ref (ad 35 0), .ref (ad 36 0), .int (g 17), .int (g 18), .int (g 19), .ref (ad 40 0), .ref (ad 41 0), .ref (ad 42 0), .ref (ad 43 0), .ref (ad 44 0), .ref (ad 45 0), .ref (ad 46 0)]
theorem he_20 {cI cZ cM cC : ClassId} {n c : Nat} {ad : Nat → Nat → Nat} {g : Nat → Int32} : hx_ce cI cZ cM cC n ad 20 c g = .inr (5, fx_20 ad g) := rfl
theorem hv_20_0 {ad : Nat → Nat → Nat} {g : Nat → Int32} : (fx_20 ad g)[0]? = some (.int (g 0)) := rfl
theorem hn_20_0 {ad : Nat → Nat → Nat} {g : Nat → Int32} : 0 < (fx_20 ad g).length := Nat.le_of_ble_eq_true rfl
theorem hu_20_0 {cI cZ cM cC : ClassId} {n c : Nat} {ad : Nat → Nat → Nat} {g : Nat → Int32} {x : Int32} : hx_ce cI cZ cM cC n ad 20 c (upd g 0 x) = .inr (5, (fx_20 ad g).set 0 (.int x)) := rfl
theorem hv_20_1 {ad : Nat → Nat → Nat} {g : Nat → Int32} : (fx_20 ad g)[1]? = some (.int (g 1)) := rfl
theorem hn_20_1 {ad : Nat → Nat → Nat} {g : Nat → Int32} : 1 < (fx_20 ad g).length := Nat.le_of_ble_eq_true rfl
theorem hu_20_1 {cI cZ cM cC : ClassId} {n c : Nat} {ad : Nat → Nat → Nat} {g : Nat → Int32} {x : Int32} : hx_ce cI cZ cM cC n ad 20 c (upd g 1 x) = .inr (5, (fx_20 ad g).set 1 (.int x)) := rfl
theorem hv_20_2 {ad : Nat → Nat → Nat} {g : Nat → Int32} : (fx_20 ad g)[2]? = some (.ref (ad 22 0)) := rfl
theorem hv_20_3 {ad : Nat → Nat → Nat} {g : Nat → Int32} : (fx_20 ad g)[3]? = some (.ref (ad 23 0)) := rfl
theorem hv_20_4 {ad : Nat → Nat → Nat} {g : Nat → Int32} : (fx_20 ad g)[4]? = some (.ref (ad 24 0)) := rfl
theorem hv_20_5 {ad : Nat → Nat → Nat} {g : Nat → Int32} : (fx_20 ad g)[5]? = some (.ref (ad 25 0)) := rfl
theorem hv_20_6 {ad : Nat → Nat → Nat} {g : Nat → Int32} : (fx_20 ad g)[6]? = some (.ref (ad 26 0)) := rfl
theorem hv_20_7 {ad : Nat → Nat → Nat} {g : Nat → Int32} : (fx_20 ad g)[7]? = some (.ref (ad 27 0)) := rfl
theorem hv_20_8 {ad : Nat → Nat → Nat} {g : Nat → Int32} : (fx_20 ad g)[8]? = some (.ref (ad 28 0)) := rfl
theorem hv_20_9 {ad : Nat → Nat → Nat} {g : Nat → Int32} : (fx_20 ad g)[9]? = some (.ref (ad 29 0)) := rfl
theorem hv_20_10 {ad : Nat → Nat → Nat} {g : Nat → Int32} : (fx_20 ad g)[10]? = some (.ref (ad 30 0)) := rfl
theorem hv_20_11 {ad : Nat → Nat → Nat} {g : Nat → Int32} : (fx_20 ad g)[11]? = some (.ref (ad 31 0)) := rfl
theorem hv_20_12 {ad : Nat → Nat → Nat} {g : Nat → Int32} : (fx_20 ad g)[12]? = some (.int (g 12)) := rfl
theorem hn_20_12 {ad : Nat → Nat → Nat} {g : Nat → Int32} : 12 < (fx_20 ad g).length := Nat.le_of_ble_eq_true rfl
theorem hu_20_12 {cI cZ cM cC : ClassId} {n c : Nat} {ad : Nat → Nat → Nat} {g : Nat → Int32} {x : Int32} : hx_ce cI cZ cM cC n ad 20 c (upd g 12 x) = .inr (5, (fx_20 ad g).set 12 (.int x)) := rfl
theorem hv_20_13 {ad : Nat → Nat → Nat} {g : Nat → Int32} : (fx_20 ad g)[13]? = some (.ref (ad 33 0)) := rfl
theorem hv_20_14 {ad : Nat → Nat → Nat} {g : Nat → Int32} : (fx_20 ad g)[14]? = some (.ref (ad 34 0)) := rfl
theorem hv_20_15 {ad : Nat → Nat → Nat} {g : Nat → Int32} : (fx_20 ad g)[15]? = some (.ref (ad 35 0)) := rfl
theorem hv_20_16 {ad : Nat → Nat → Nat} {g : Nat → Int32} : (fx_20 ad g)[16]? = some (.ref (ad 36 0)) := rfl
theorem hv_20_17 {ad : Nat → Nat → Nat} {g : Nat → Int32} : (fx_20 ad g)[17]? = some (.int (g 17)) := rfl
theorem hn_20_17 {ad : Nat → Nat → Nat} {g : Nat → Int32} : 17 < (fx_20 ad g).length := Nat.le_of_ble_eq_true rfl
theorem hu_20_17 {cI cZ cM cC : ClassId} {n c : Nat} {ad : Nat → Nat → Nat} {g : Nat → Int32} {x : Int32} : hx_ce cI cZ cM cC n ad 20 c (upd g 17 x) = .inr (5, (fx_20 ad g).set 17 (.int x)) := rfl
theorem hv_20_18 {ad : Nat → Nat → Nat} {g : Nat → Int32} : (fx_20 ad g)[18]? = some (.int (g 18)) := rfl
theorem hn_20_18 {ad : Nat → Nat → Nat} {g : Nat → Int32} : 18 < (fx_20 ad g).length := Nat.le_of_ble_eq_true rfl
theorem hu_20_18 {cI cZ cM cC : ClassId} {n c : Nat} {ad : Nat → Nat → Nat} {g : Nat → Int32} {x : Int32} : hx_ce cI cZ cM cC n ad 20 c (upd g 18 x) = .inr (5, (fx_20 ad g).set 18 (.int x)) := rfl
theorem hv_20_19 {ad : Nat → Nat → Nat} {g : Nat → Int32} : (fx_20 ad g)[19]? = some (.int (g 19)) := rfl
theorem hn_20_19 {ad : Nat → Nat → Nat} {g : Nat → Int32} : 19 < (fx_20 ad g).length := Nat.le_of_ble_eq_true rfl
theorem hu_20_19 {cI cZ cM cC : ClassId} {n c : Nat} {ad : Nat → Nat → Nat} {g : Nat → Int32} {x : Int32} : hx_ce cI cZ cM cC n ad 20 c (upd g 19 x) = .inr (5, (fx_20 ad g).set 19 (.int x)) := rfl
theorem hv_20_20 {ad : Nat → Nat → Nat} {g : Nat → Int32} : (fx_20 ad g)[20]? = some (.ref (ad 40 0)) := rfl
theorem hv_20_21 {ad : Nat → Nat → Nat} {g : Nat → Int32} : (fx_20 ad g)[21]? = some (.ref (ad 41 0)) := rfl
theorem hv_20_22 {ad : Nat → Nat → Nat} {g : Nat → Int32} : (fx_20 ad g)[22]? = some (.ref (ad 42 0)) := rfl
theorem hv_20_23 {ad : Nat → Nat → Nat} {g : Nat → Int32} : (fx_20 ad g)[23]? = some (.ref (ad 43 0)) := rfl
theorem hv_20_24 {ad : Nat → Nat → Nat} {g : Nat → Int32} : (fx_20 ad g)[24]? = some (.ref (ad 44 0)) := rfl
theorem hv_20_25 {ad : Nat → Nat → Nat} {g : Nat → Int32} : (fx_20 ad g)[25]? = some (.ref (ad 45 0)) := rfl
theorem hv_20_26 {ad : Nat → Nat → Nat} {g : Nat → Int32} : (fx_20 ad g)[26]? = some (.ref (ad 46 0)) := rfl
theorem rp_ext {v : hd_V} {c y : Int32} {i : Nat} (hy : y = nI i) (h : ∀ b, b < i → v 28 0 (4 * c + nI b).toNatClampNeg = 0) (h0 : v 28 0 (4 * c + y).toNatClampNeg = 0) : ∀ b, b < i + 1 → v 28 0 (4 * c + nI b).toNatClampNeg = 0 := by
  intro b hb
  by_cases z : b = i
  · subst z
    rw [← hy]
    exact h0
  · exact h b (by omega)
theorem hd_ge4 {x : Int32} {i : Nat} (hx : x = nI i) (hi : i ≤ 4) (h : 4 ≤ x) : i = 4 := by
  rw [hx, Int32.le_iff_toInt_le, nI_toInt (by omega), show (4 : Int32).toInt = 4 from rfl] at h
  omega
theorem mm_le {r r' : Nat} {v : hd_V} (h : r ≤ r') (k : hx_mm r' v) : hx_mm r v := ⟨k.1, by have := k.2; omega⟩
theorem hd_dec64 {k c : Int32} (hk : vp_in k 64) (h : k < c) (h2 : c.toInt ≤ 64) : vp_in (c - 1) 64 ∧ k.toNatClampNeg ≤ (c - 1).toNatClampNeg := by
  rw [vp_in_iff] at hk ⊢
  rw [Int32.lt_iff_toInt_lt] at h
  have e1 : (c - 1).toInt = c.toInt - 1 := by
    rw [Int32.toInt_sub, show (1 : Int32).toInt = 1 from rfl, Int.bmod_eq_of_le (by omega) (by omega)]
  refine ⟨by omega, ?_⟩
  rw [Int32.toNatClampNeg, Int32.toNatClampNeg]
  omega
