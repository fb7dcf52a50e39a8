/-! Numbers within -/
theorem hd_lt {x : Int32} {N : Nat} (h : vp_in x N) : x.toNatClampNeg < N := Nat.not_le.mp fun q => h (Or.inr q)
theorem hd_in {x y : Int32} {N : Nat} (hy : y.toInt = N) (h0 : 0 ≤ x) (h1 : ¬ y ≤ x) : vp_in x N := by
  rw [vp_in_iff]
  rw [Int32.le_iff_toInt_le] at h0 h1
  rw [Int32.toInt_zero] at h0
  omega
theorem hd_in2 {x y : Int32} {N : Nat} (hy : y.toInt = N) (h0 : ¬ x < 0) (h1 : ¬ y ≤ x) : vp_in x N := by
  rw [vp_in_iff]
  rw [Int32.lt_iff_toInt_lt] at h0
  rw [Int32.le_iff_toInt_le] at h1
  rw [Int32.toInt_zero] at h0
  omega
theorem hd_in3 {x y : Int32} {N : Nat} (h0 : 0 ≤ x) (h1 : ¬ y ≤ x) (hy : y.toInt ≤ N) : vp_in x N := by
  rw [vp_in_iff]
  rw [Int32.le_iff_toInt_le] at h0 h1
  rw [Int32.toInt_zero] at h0
  omega
theorem hd_in4 {x y : Int32} {N : Nat} (hy : y.toInt = N) (h0 : 0 ≤ x) (h1 : x < y) : vp_in x N := by
  rw [vp_in_iff]
  rw [Int32.le_iff_toInt_le] at h0
  rw [Int32.lt_iff_toInt_lt] at h1
  rw [Int32.toInt_zero] at h0
  omega
/-- the network: its count isn't negative, its slots hold messages -/
def hx_net (v : hd_V) : Prop := 0 ≤ v 1 0 1 ∧ ∀ k, k < 32 → (v 2 0 k).toNatClampNeg < 32
/-- a core's program: where it stands, how long it is -/
def hx_prog (cx : Nat) (v : hd_V) : Prop := 0 ≤ v 10 cx 7 ∧ (v 10 cx 5).toInt ≤ 16
/-- a loop's counter stays below its bound -/
theorem hd_lp {i B : Nat} {x y : Int32} (hx : x = nI i) (hy : y = nI B) (hi : i < 2 ^ 31) (h : ¬ y ≤ x) : i < B := by
  rcases Nat.lt_or_ge i B with z | z
  · exact z
  · exact absurd (by rw [hx, hy]; exact nI_le z hi) h
theorem hd_lpin {i N : Nat} {x : Int32} (hx : x = nI i) (h : i < N) (hN : N < 2 ^ 31) : vp_in x N := by
  rw [hx]
  exact vp_in_nI h hN
theorem hd_in5 {x y : Int32} {N : Nat} (h0 : 0 ≤ x) (h1 : x < y) (hy : y.toInt ≤ N) : vp_in x N := by
  rw [vp_in_iff]
  rw [Int32.le_iff_toInt_le] at h0
  rw [Int32.lt_iff_toInt_lt] at h1
  rw [Int32.toInt_zero] at h0
  omega
/-- message mj lies in no free slot -/
def hx_fr (mj : Nat) (v : hd_V) : Prop := ∀ k : Nat, k < 32 → (v 1 0 1).toInt ≤ k → (v 2 0 k).toNatClampNeg ≠ mj
theorem hd_nI {x : Int32} {N : Nat} (h : vp_in x N) : x = nI x.toNatClampNeg := by
  by_cases hN : N < 2 ^ 31
  · obtain ⟨j, hj, rfl⟩ := vp_in_of h hN
    rw [nI_clamp (by omega)]
  · have h1 : vp_in x (2 ^ 31 - 1 + 1) ∨ True := Or.inr trivial
    rw [vp_in_iff] at h
    have h2 : ¬ x < 0 := by
      rw [Int32.lt_iff_toInt_lt, Int32.toInt_zero]
      omega
    obtain ⟨j, hj, rfl⟩ := nI_of h2
    rw [nI_clamp hj]
theorem hd_slots {w : hd_V} {i : Nat} {x : Int32} (h : ∀ q, q < 32 → (w 2 0 q).toNatClampNeg < 32) (hx : x.toNatClampNeg < 32) : ∀ q, q < 32 → (hd_u w 2 0 i x 2 0 q).toNatClampNeg < 32 := by
  intro q hq
  rw [hd_u_eq]
  split
  · exact hx
  · exact h q hq
theorem hd_dec {k c : Int32} (hk : vp_in k 32) (h : k < c) (h2 : c.toInt ≤ 32) : vp_in (c - 1) 32 ∧ k.toNatClampNeg ≤ (c - 1).toNatClampNeg := by
  rw [vp_in_iff] at hk ⊢
  rw [Int32.lt_iff_toInt_lt] at h
  have e1 : (c - 1).toInt = c.toInt - 1 := by
    rw [Int32.toInt_sub, show (1 : Int32).toInt = 1 from rfl, Int.bmod_eq_of_le (by omega) (by omega)]
  refine ⟨by omega, ?_⟩
  rw [Int32.toNatClampNeg, Int32.toNatClampNeg]
  omega
theorem hd_ltle {k a b : Int32} (h : k < a) (h2 : a.toInt ≤ b.toInt) : k < b := by
  rw [Int32.lt_iff_toInt_lt] at *
  omega
