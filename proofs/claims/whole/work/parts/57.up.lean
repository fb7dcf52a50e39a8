/-! What the checks say of numbers; how the network grows while a message is handed over -/
theorem in_HD_isCore {n : Nat} {x : Int32} (hn : n ≤ 4) (h : ¬ f_HD_isCore n x = 0) : vp_in x n := by
  simp only [f_HD_isCore] at h
  split at h
  · exact absurd rfl h
  · rename_i h1
    split at h
    · exact absurd rfl h
    · rename_i h2
      exact hd_in2 (y := nI n) (nI_toInt (by omega)) h1 h2
theorem in_HD_isBlock {x : Int32} (h : ¬ f_HD_isBlock x = 0) : vp_in x 4 := by
  simp only [f_HD_isBlock] at h
  split at h
  · exact absurd rfl h
  · rename_i h1
    split at h
    · exact absurd rfl h
    · rename_i h2
      exact hd_in2 (y := 4) rfl h1 h2
theorem in_Net_has {k : Int32} {v : hd_V} (h0 : 0 ≤ v 1 0 1) (h2 : (v 1 0 1).toInt ≤ 32) (h : ¬ f_Net_has k v = 0) : vp_in k 32 ∧ k < v 1 0 1 := by
  simp only [f_Net_has] at h
  split at h
  · exact absurd rfl h
  · rename_i h1
    split at h
    · exact absurd rfl h
    · rename_i h3
      rw [vp_in_iff]
      rw [Int32.lt_iff_toInt_lt, show (0 : Int32).toInt = 0 from rfl] at h1
      rw [Int32.le_iff_toInt_le] at h3
      rw [Int32.lt_iff_toInt_lt]
      omega
/-- v comes out of v0 by sends alone, as far as the network goes -/
def hx_up (v0 v : hd_V) : Prop := hx_net v ∧ (v 1 0 1).toInt ≤ 32 ∧ (v0 1 0 1).toInt ≤ (v 1 0 1).toInt ∧ ∀ k, v 2 0 k = v0 2 0 k
theorem up_Net_send {a b c d e f g : Int32} {v0 v : hd_V} (h : hx_up v0 v) : hx_up v0 (f_Net_send a b c d e f g v) := by
  refine ⟨net_Net_send h.1, ?_⟩
  simp only [f_Net_send]
  split
  · rename_i h1
    have h0 := h.1.1
    rw [Int32.le_iff_toInt_le, show (0 : Int32).toInt = 0 from rfl] at h0
    rw [Int32.lt_iff_toInt_lt, show (32 : Int32).toInt = 32 from rfl] at h1
    have e1 : (v 1 0 1 + 1).toInt = (v 1 0 1).toInt + 1 := by
      rw [Int32.toInt_add, show (1 : Int32).toInt = 1 from rfl, Int.bmod_eq_of_le (by omega) (by omega)]
    have h3 := h.2.2.1
    refine ⟨?_, ?_, h.2.2.2⟩
    · show (v 1 0 1 + 1).toInt ≤ 32
      omega
    · show _ ≤ (v 1 0 1 + 1).toInt
      omega
  · exact h.2
theorem hx_up_u {v0 v : hd_V} {k c i : Nat} {x : Int32} (h1 : ¬ 1 = k) (h2 : ¬ 2 = k) (h : hx_up v0 v) : hx_up v0 (hd_u v k c i x) := by
  have e1 : ∀ a b, hd_u v k c i x 1 a b = v 1 a b := fun a b => hd_un v k c i x (fun z => h1 z.1)
  have e2 : ∀ a b, hd_u v k c i x 2 a b = v 2 a b := fun a b => hd_un v k c i x (fun z => h2 z.1)
  unfold hx_up hx_net at *
  simp only [e1, e2]
  exact h
theorem up_Net_sendPlain {a b c d : Int32} {v0 v : hd_V} (h : hx_up v0 v) : hx_up v0 (f_Net_sendPlain a b c d v) := up_Net_send h
theorem up_Net_sendFor {a b c d : Int32} {v0 v : hd_V} (h : hx_up v0 v) : hx_up v0 (f_Net_sendFor a b c d v) := up_Net_send h
theorem up_Net_sendWord {a b c d e : Int32} {v0 v : hd_V} (h : hx_up v0 v) : hx_up v0 (f_Net_sendWord a b c d e v) := up_Net_send h
theorem up_Net_sendData {a b c d e : Int32} {v0 v : hd_V} (h : hx_up v0 v) : hx_up v0 (f_Net_sendData a b c d e v) := up_Net_send h
theorem up_Core_perform {cx : Nat} {a b : Int32} {v0 v : hd_V} (h : hx_up v0 v) : hx_up v0 (f_Core_perform cx a b v) := by
  simp only [f_Core_perform]
  (repeat' split) <;> (repeat first | with_reducible exact h | with_reducible refine hx_up_u (by decide) (by decide) ?_)
theorem up_Core_performIfAllowed {cx : Nat} {b : Int32} {v0 v : hd_V} (h : hx_up v0 v) : hx_up v0 (f_Core_performIfAllowed cx b v) := by
  simp only [f_Core_performIfAllowed]
  (repeat' split) <;> (repeat first | with_reducible exact h | with_reducible refine hx_up_u (by decide) (by decide) ?_ | with_reducible refine up_Core_perform ?_)
theorem up_Core_takeData {cx mj : Nat} {v0 v : hd_V} (h : hx_up v0 v) : hx_up v0 (f_Core_takeData cx mj v) := by
  simp only [f_Core_takeData]
  (repeat' split) <;> (repeat first | with_reducible exact h | with_reducible refine hx_up_u (by decide) (by decide) ?_)
theorem up_Core_takeAck {cx : Nat} {b : Int32} {v0 v : hd_V} (h : hx_up v0 v) : hx_up v0 (f_Core_takeAck cx b v) := by
  simp only [f_Core_takeAck]
  (repeat' split) <;> (repeat first | with_reducible exact h | with_reducible refine hx_up_u (by decide) (by decide) ?_)
theorem up_Core_endReplacement {cx : Nat} {b : Int32} {v0 v : hd_V} (h : hx_up v0 v) : hx_up v0 (f_Core_endReplacement cx b v) := by
  simp only [f_Core_endReplacement]
  (repeat' split) <;> (repeat first | with_reducible exact h | with_reducible refine hx_up_u (by decide) (by decide) ?_)
theorem up_Core_giveUp {cx mj : Nat} {v0 v : hd_V} (h : hx_up v0 v) : hx_up v0 (f_Core_giveUp cx mj v) := by
  simp only [f_Core_giveUp]
  (repeat' split) <;> (repeat first | with_reducible exact h | with_reducible refine hx_up_u (by decide) (by decide) ?_ | with_reducible refine up_Net_sendPlain ?_)
theorem up_Core_share {cx mj : Nat} {v0 v : hd_V} (h : hx_up v0 v) : hx_up v0 (f_Core_share cx mj v) := by
  simp only [f_Core_share]
  (repeat' split) <;> (repeat first | with_reducible exact h | with_reducible refine hx_up_u (by decide) (by decide) ?_ | with_reducible refine up_Net_sendData ?_)
theorem up_Core_handOn {cx mj : Nat} {v0 v : hd_V} (h : hx_up v0 v) : hx_up v0 (f_Core_handOn cx mj v) := by
  simp only [f_Core_handOn]
  (repeat' split) <;> (repeat first | with_reducible exact h | with_reducible refine hx_up_u (by decide) (by decide) ?_ | with_reducible refine up_Net_sendData ?_)
theorem up_Core_receive {cx mj : Nat} {v0 v : hd_V} (h : hx_up v0 v) : hx_up v0 (f_Core_receive cx mj v) := by
  simp only [f_Core_receive]
  (repeat' split) <;> (repeat first | with_reducible exact h | with_reducible refine hx_up_u (by decide) (by decide) ?_ | with_reducible refine up_Core_performIfAllowed ?_ | with_reducible refine up_Core_takeData ?_ | with_reducible refine up_Core_takeAck ?_ | with_reducible refine up_Core_giveUp ?_ | with_reducible refine up_Core_share ?_ | with_reducible refine up_Core_handOn ?_ | with_reducible refine up_Core_endReplacement ?_)
theorem up_Home_giveToRead {a b : Int32} {v0 v : hd_V} (h : hx_up v0 v) : hx_up v0 (f_Home_giveToRead a b v) := by
  simp only [f_Home_giveToRead]
  (repeat' split) <;> (repeat first | with_reducible exact h | with_reducible refine hx_up_u (by decide) (by decide) ?_ | with_reducible refine up_Net_sendFor ?_ | with_reducible refine up_Net_sendData ?_)
theorem up_Home_invalidate_L {a b c : Int32} {v0 : hd_V} : ∀ (k : Nat) (y : Int32) (v : hd_V), hx_up v0 v → hx_up v0 (f_Home_invalidate_L3 a b c k y v) := by
  intro k
  induction k with
  | zero =>
    intro y v h
    exact h
  | succ k ih =>
    intro y v h
    simp only [f_Home_invalidate_L3]
    (repeat' split) <;> (repeat first | with_reducible exact h | with_reducible refine ih _ _ ?_ | with_reducible refine up_Net_sendFor ?_)
theorem up_Home_invalidate {a b c : Int32} {v0 v : hd_V} (h : hx_up v0 v) : hx_up v0 (f_Home_invalidate a b c v) := up_Home_invalidate_L _ _ _ h
theorem up_Home_giveToWrite {a b : Int32} {v0 v : hd_V} (h : hx_up v0 v) : hx_up v0 (f_Home_giveToWrite a b v) := by
  simp only [f_Home_giveToWrite]
  (repeat' split) <;> (repeat first | with_reducible exact h | with_reducible refine hx_up_u (by decide) (by decide) ?_ | with_reducible refine up_Net_sendFor ?_ | with_reducible refine up_Net_sendData ?_ | with_reducible refine up_Home_invalidate ?_)
theorem up_Home_takeBack {a b : Int32} {v0 v : hd_V} (h : hx_up v0 v) : hx_up v0 (f_Home_takeBack a b v) := by
  simp only [f_Home_takeBack]
  (repeat' split) <;> (repeat first | with_reducible exact h | with_reducible refine hx_up_u (by decide) (by decide) ?_ | with_reducible refine up_Net_sendPlain ?_)
theorem up_Home_takeBackWord {a b c : Int32} {v0 v : hd_V} (h : hx_up v0 v) : hx_up v0 (f_Home_takeBackWord a b c v) := by
  simp only [f_Home_takeBackWord]
  (repeat' split) <;> (repeat first | with_reducible exact h | with_reducible refine hx_up_u (by decide) (by decide) ?_ | with_reducible refine up_Net_sendPlain ?_ | with_reducible refine up_Home_takeBack ?_)
theorem up_Home_endSharing {a b : Int32} {v0 v : hd_V} (h : hx_up v0 v) : hx_up v0 (f_Home_endSharing a b v) := by
  simp only [f_Home_endSharing]
  (repeat' split) <;> (repeat first | with_reducible exact h | with_reducible refine hx_up_u (by decide) (by decide) ?_)
theorem up_Home_receive {mj : Nat} {v0 v : hd_V} (h : hx_up v0 v) : hx_up v0 (f_Home_receive mj v) := by
  simp only [f_Home_receive]
  (repeat' split) <;> (repeat first | with_reducible exact h | with_reducible refine hx_up_u (by decide) (by decide) ?_ | with_reducible refine up_Home_giveToRead ?_ | with_reducible refine up_Home_giveToWrite ?_ | with_reducible refine up_Home_takeBack ?_ | with_reducible refine up_Home_takeBackWord ?_ | with_reducible refine up_Home_endSharing ?_)
