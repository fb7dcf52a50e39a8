/-! The class leaves the reference alone, and the reference the class -/
theorem fc_send (a : Int32) (b : Int32) (c : Int32) (d : Int32) (e : Int32) (f : Int32) (g : Int32) (v : hd_V) {k : Nat} (hk : 20 ≤ k) : (f_Net_send a b c d e f g v) k = v k := by
  have h1 : ¬ k = 1 := by omega
  have h2 : ¬ k = 2 := by omega
  have h3 : ¬ k = 3 := by omega
  have h5 : ¬ k = 5 := by omega
  have h6 : ¬ k = 6 := by omega
  have h7 : ¬ k = 7 := by omega
  have h8 : ¬ k = 8 := by omega
  have h10 : ¬ k = 10 := by omega
  have h11 : ¬ k = 11 := by omega
  have h12 : ¬ k = 12 := by omega
  have h13 : ¬ k = 13 := by omega
  have h14 : ¬ k = 14 := by omega
  have h15 : ¬ k = 15 := by omega
  have h16 : ¬ k = 16 := by omega
  unfold f_Net_send
  try dsimp only
  repeat' split
  all_goals first | rfl | simp only [hu_k, not_false_eq_true, h1, h2, h3, h5, h6, h7, h8, h10, h11, h12, h13, h14, h15, h16]
theorem fc_perform (cx : Nat) (a : Int32) (b : Int32) (v : hd_V) {k : Nat} (hk : 20 ≤ k) : (f_Core_perform cx a b v) k = v k := by
  have h1 : ¬ k = 1 := by omega
  have h2 : ¬ k = 2 := by omega
  have h3 : ¬ k = 3 := by omega
  have h5 : ¬ k = 5 := by omega
  have h6 : ¬ k = 6 := by omega
  have h7 : ¬ k = 7 := by omega
  have h8 : ¬ k = 8 := by omega
  have h10 : ¬ k = 10 := by omega
  have h11 : ¬ k = 11 := by omega
  have h12 : ¬ k = 12 := by omega
  have h13 : ¬ k = 13 := by omega
  have h14 : ¬ k = 14 := by omega
  have h15 : ¬ k = 15 := by omega
  have h16 : ¬ k = 16 := by omega
  unfold f_Core_perform
  try dsimp only
  repeat' split
  all_goals first | rfl | simp only [hu_k, not_false_eq_true, h1, h2, h3, h5, h6, h7, h8, h10, h11, h12, h13, h14, h15, h16]
theorem fc_replace (cx : Nat) (a : Int32) (v : hd_V) {k : Nat} (hk : 20 ≤ k) : (f_Core_replace cx a v) k = v k := by
  have h1 : ¬ k = 1 := by omega
  have h2 : ¬ k = 2 := by omega
  have h3 : ¬ k = 3 := by omega
  have h5 : ¬ k = 5 := by omega
  have h6 : ¬ k = 6 := by omega
  have h7 : ¬ k = 7 := by omega
  have h8 : ¬ k = 8 := by omega
  have h10 : ¬ k = 10 := by omega
  have h11 : ¬ k = 11 := by omega
  have h12 : ¬ k = 12 := by omega
  have h13 : ¬ k = 13 := by omega
  have h14 : ¬ k = 14 := by omega
  have h15 : ¬ k = 15 := by omega
  have h16 : ¬ k = 16 := by omega
  unfold f_Core_replace
  try dsimp only
  repeat' split
  all_goals first | rfl | simp only [hu_k, not_false_eq_true, h1, h2, h3, h5, h6, h7, h8, h10, h11, h12, h13, h14, h15, h16, fc_send _ _ _ _ _ _ _ _ hk, f_Net_sendWord, f_Net_sendPlain]
theorem fc_request (cx : Nat) (a : Int32) (b : Int32) (v : hd_V) {k : Nat} (hk : 20 ≤ k) : (f_Core_request cx a b v) k = v k := by
  have h1 : ¬ k = 1 := by omega
  have h2 : ¬ k = 2 := by omega
  have h3 : ¬ k = 3 := by omega
  have h5 : ¬ k = 5 := by omega
  have h6 : ¬ k = 6 := by omega
  have h7 : ¬ k = 7 := by omega
  have h8 : ¬ k = 8 := by omega
  have h10 : ¬ k = 10 := by omega
  have h11 : ¬ k = 11 := by omega
  have h12 : ¬ k = 12 := by omega
  have h13 : ¬ k = 13 := by omega
  have h14 : ¬ k = 14 := by omega
  have h15 : ¬ k = 15 := by omega
  have h16 : ¬ k = 16 := by omega
  unfold f_Core_request
  try dsimp only
  repeat' split
  all_goals first | rfl | simp only [hu_k, not_false_eq_true, h1, h2, h3, h5, h6, h7, h8, h10, h11, h12, h13, h14, h15, h16, fc_send _ _ _ _ _ _ _ _ hk, f_Net_sendPlain]
theorem fc_compute (cx : Nat) (a : Int32) (b : Int32) (v : hd_V) {k : Nat} (hk : 20 ≤ k) : (f_Core_compute cx a b v) k = v k := by
  have h1 : ¬ k = 1 := by omega
  have h2 : ¬ k = 2 := by omega
  have h3 : ¬ k = 3 := by omega
  have h5 : ¬ k = 5 := by omega
  have h6 : ¬ k = 6 := by omega
  have h7 : ¬ k = 7 := by omega
  have h8 : ¬ k = 8 := by omega
  have h10 : ¬ k = 10 := by omega
  have h11 : ¬ k = 11 := by omega
  have h12 : ¬ k = 12 := by omega
  have h13 : ¬ k = 13 := by omega
  have h14 : ¬ k = 14 := by omega
  have h15 : ¬ k = 15 := by omega
  have h16 : ¬ k = 16 := by omega
  unfold f_Core_compute
  try dsimp only
  repeat' split
  all_goals first | rfl | simp only [hu_k, not_false_eq_true, h1, h2, h3, h5, h6, h7, h8, h10, h11, h12, h13, h14, h15, h16]
theorem fc_takeData (cx : Nat) (mj : Nat) (v : hd_V) {k : Nat} (hk : 20 ≤ k) : (f_Core_takeData cx mj v) k = v k := by
  have h1 : ¬ k = 1 := by omega
  have h2 : ¬ k = 2 := by omega
  have h3 : ¬ k = 3 := by omega
  have h5 : ¬ k = 5 := by omega
  have h6 : ¬ k = 6 := by omega
  have h7 : ¬ k = 7 := by omega
  have h8 : ¬ k = 8 := by omega
  have h10 : ¬ k = 10 := by omega
  have h11 : ¬ k = 11 := by omega
  have h12 : ¬ k = 12 := by omega
  have h13 : ¬ k = 13 := by omega
  have h14 : ¬ k = 14 := by omega
  have h15 : ¬ k = 15 := by omega
  have h16 : ¬ k = 16 := by omega
  unfold f_Core_takeData
  try dsimp only
  repeat' split
  all_goals first | rfl | simp only [hu_k, not_false_eq_true, h1, h2, h3, h5, h6, h7, h8, h10, h11, h12, h13, h14, h15, h16]
theorem fc_takeAck (cx : Nat) (a : Int32) (v : hd_V) {k : Nat} (hk : 20 ≤ k) : (f_Core_takeAck cx a v) k = v k := by
  have h1 : ¬ k = 1 := by omega
  have h2 : ¬ k = 2 := by omega
  have h3 : ¬ k = 3 := by omega
  have h5 : ¬ k = 5 := by omega
  have h6 : ¬ k = 6 := by omega
  have h7 : ¬ k = 7 := by omega
  have h8 : ¬ k = 8 := by omega
  have h10 : ¬ k = 10 := by omega
  have h11 : ¬ k = 11 := by omega
  have h12 : ¬ k = 12 := by omega
  have h13 : ¬ k = 13 := by omega
  have h14 : ¬ k = 14 := by omega
  have h15 : ¬ k = 15 := by omega
  have h16 : ¬ k = 16 := by omega
  unfold f_Core_takeAck
  try dsimp only
  repeat' split
  all_goals first | rfl | simp only [hu_k, not_false_eq_true, h1, h2, h3, h5, h6, h7, h8, h10, h11, h12, h13, h14, h15, h16]
theorem fc_giveUp (cx : Nat) (mj : Nat) (v : hd_V) {k : Nat} (hk : 20 ≤ k) : (f_Core_giveUp cx mj v) k = v k := by
  have h1 : ¬ k = 1 := by omega
  have h2 : ¬ k = 2 := by omega
  have h3 : ¬ k = 3 := by omega
  have h5 : ¬ k = 5 := by omega
  have h6 : ¬ k = 6 := by omega
  have h7 : ¬ k = 7 := by omega
  have h8 : ¬ k = 8 := by omega
  have h10 : ¬ k = 10 := by omega
  have h11 : ¬ k = 11 := by omega
  have h12 : ¬ k = 12 := by omega
  have h13 : ¬ k = 13 := by omega
  have h14 : ¬ k = 14 := by omega
  have h15 : ¬ k = 15 := by omega
  have h16 : ¬ k = 16 := by omega
  unfold f_Core_giveUp
  try dsimp only
  repeat' split
  all_goals first | rfl | simp only [hu_k, not_false_eq_true, h1, h2, h3, h5, h6, h7, h8, h10, h11, h12, h13, h14, h15, h16, fc_send _ _ _ _ _ _ _ _ hk, f_Net_sendPlain]
theorem fc_share (cx : Nat) (mj : Nat) (v : hd_V) {k : Nat} (hk : 20 ≤ k) : (f_Core_share cx mj v) k = v k := by
  have h1 : ¬ k = 1 := by omega
  have h2 : ¬ k = 2 := by omega
  have h3 : ¬ k = 3 := by omega
  have h5 : ¬ k = 5 := by omega
  have h6 : ¬ k = 6 := by omega
  have h7 : ¬ k = 7 := by omega
  have h8 : ¬ k = 8 := by omega
  have h10 : ¬ k = 10 := by omega
  have h11 : ¬ k = 11 := by omega
  have h12 : ¬ k = 12 := by omega
  have h13 : ¬ k = 13 := by omega
  have h14 : ¬ k = 14 := by omega
  have h15 : ¬ k = 15 := by omega
  have h16 : ¬ k = 16 := by omega
  unfold f_Core_share
  try dsimp only
  repeat' split
  all_goals first | rfl | simp only [hu_k, not_false_eq_true, h1, h2, h3, h5, h6, h7, h8, h10, h11, h12, h13, h14, h15, h16, fc_send _ _ _ _ _ _ _ _ hk, f_Net_sendData]
theorem fc_handOn (cx : Nat) (mj : Nat) (v : hd_V) {k : Nat} (hk : 20 ≤ k) : (f_Core_handOn cx mj v) k = v k := by
  have h1 : ¬ k = 1 := by omega
  have h2 : ¬ k = 2 := by omega
  have h3 : ¬ k = 3 := by omega
  have h5 : ¬ k = 5 := by omega
  have h6 : ¬ k = 6 := by omega
  have h7 : ¬ k = 7 := by omega
  have h8 : ¬ k = 8 := by omega
  have h10 : ¬ k = 10 := by omega
  have h11 : ¬ k = 11 := by omega
  have h12 : ¬ k = 12 := by omega
  have h13 : ¬ k = 13 := by omega
  have h14 : ¬ k = 14 := by omega
  have h15 : ¬ k = 15 := by omega
  have h16 : ¬ k = 16 := by omega
  unfold f_Core_handOn
  try dsimp only
  repeat' split
  all_goals first | rfl | simp only [hu_k, not_false_eq_true, h1, h2, h3, h5, h6, h7, h8, h10, h11, h12, h13, h14, h15, h16, fc_send _ _ _ _ _ _ _ _ hk, f_Net_sendData]
theorem fc_end (cx : Nat) (a : Int32) (v : hd_V) {k : Nat} (hk : 20 ≤ k) : (f_Core_endReplacement cx a v) k = v k := by
  have h1 : ¬ k = 1 := by omega
  have h2 : ¬ k = 2 := by omega
  have h3 : ¬ k = 3 := by omega
  have h5 : ¬ k = 5 := by omega
  have h6 : ¬ k = 6 := by omega
  have h7 : ¬ k = 7 := by omega
  have h8 : ¬ k = 8 := by omega
  have h10 : ¬ k = 10 := by omega
  have h11 : ¬ k = 11 := by omega
  have h12 : ¬ k = 12 := by omega
  have h13 : ¬ k = 13 := by omega
  have h14 : ¬ k = 14 := by omega
  have h15 : ¬ k = 15 := by omega
  have h16 : ¬ k = 16 := by omega
  unfold f_Core_endReplacement
  try dsimp only
  repeat' split
  all_goals first | rfl | simp only [hu_k, not_false_eq_true, h1, h2, h3, h5, h6, h7, h8, h10, h11, h12, h13, h14, h15, h16]
theorem fc_pia (cx : Nat) (a : Int32) (v : hd_V) {k : Nat} (hk : 20 ≤ k) : (f_Core_performIfAllowed cx a v) k = v k := by
  have h1 : ¬ k = 1 := by omega
  have h2 : ¬ k = 2 := by omega
  have h3 : ¬ k = 3 := by omega
  have h5 : ¬ k = 5 := by omega
  have h6 : ¬ k = 6 := by omega
  have h7 : ¬ k = 7 := by omega
  have h8 : ¬ k = 8 := by omega
  have h10 : ¬ k = 10 := by omega
  have h11 : ¬ k = 11 := by omega
  have h12 : ¬ k = 12 := by omega
  have h13 : ¬ k = 13 := by omega
  have h14 : ¬ k = 14 := by omega
  have h15 : ¬ k = 15 := by omega
  have h16 : ¬ k = 16 := by omega
  unfold f_Core_performIfAllowed
  try dsimp only
  repeat' split
  all_goals first | rfl | simp only [hu_k, not_false_eq_true, h1, h2, h3, h5, h6, h7, h8, h10, h11, h12, h13, h14, h15, h16, fc_perform _ _ _ _ hk]
theorem fc_receive (cx : Nat) (mj : Nat) (v : hd_V) {k : Nat} (hk : 20 ≤ k) : (f_Core_receive cx mj v) k = v k := by
  have h1 : ¬ k = 1 := by omega
  have h2 : ¬ k = 2 := by omega
  have h3 : ¬ k = 3 := by omega
  have h5 : ¬ k = 5 := by omega
  have h6 : ¬ k = 6 := by omega
  have h7 : ¬ k = 7 := by omega
  have h8 : ¬ k = 8 := by omega
  have h10 : ¬ k = 10 := by omega
  have h11 : ¬ k = 11 := by omega
  have h12 : ¬ k = 12 := by omega
  have h13 : ¬ k = 13 := by omega
  have h14 : ¬ k = 14 := by omega
  have h15 : ¬ k = 15 := by omega
  have h16 : ¬ k = 16 := by omega
  unfold f_Core_receive
  try dsimp only
  repeat' split
  all_goals first | rfl | simp only [hu_k, not_false_eq_true, h1, h2, h3, h5, h6, h7, h8, h10, h11, h12, h13, h14, h15, h16, fc_pia _ _ _ hk, fc_share _ _ _ hk, fc_handOn _ _ _ hk, fc_giveUp _ _ _ hk, fc_end _ _ _ hk, fc_takeData _ _ _ hk, fc_takeAck _ _ _ hk]
theorem fc_access (cx : Nat) (a : Int32) (b : Int32) (v : hd_V) {k : Nat} (hk : 20 ≤ k) : (f_Core_access cx a b v).2 k = v k := by
  have h1 : ¬ k = 1 := by omega
  have h2 : ¬ k = 2 := by omega
  have h3 : ¬ k = 3 := by omega
  have h5 : ¬ k = 5 := by omega
  have h6 : ¬ k = 6 := by omega
  have h7 : ¬ k = 7 := by omega
  have h8 : ¬ k = 8 := by omega
  have h10 : ¬ k = 10 := by omega
  have h11 : ¬ k = 11 := by omega
  have h12 : ¬ k = 12 := by omega
  have h13 : ¬ k = 13 := by omega
  have h14 : ¬ k = 14 := by omega
  have h15 : ¬ k = 15 := by omega
  have h16 : ¬ k = 16 := by omega
  unfold f_Core_access
  try dsimp only
  repeat' split
  all_goals first | rfl | simp only [hu_k, not_false_eq_true, h1, h2, h3, h5, h6, h7, h8, h10, h11, h12, h13, h14, h15, h16, fc_request _ _ _ _ hk, fc_replace _ _ _ hk, fc_perform _ _ _ _ hk]
theorem fc_advance (cx : Nat) (v : hd_V) {k : Nat} (hk : 20 ≤ k) : (f_Core_advance cx v).2 k = v k := by
  have h1 : ¬ k = 1 := by omega
  have h2 : ¬ k = 2 := by omega
  have h3 : ¬ k = 3 := by omega
  have h5 : ¬ k = 5 := by omega
  have h6 : ¬ k = 6 := by omega
  have h7 : ¬ k = 7 := by omega
  have h8 : ¬ k = 8 := by omega
  have h10 : ¬ k = 10 := by omega
  have h11 : ¬ k = 11 := by omega
  have h12 : ¬ k = 12 := by omega
  have h13 : ¬ k = 13 := by omega
  have h14 : ¬ k = 14 := by omega
  have h15 : ¬ k = 15 := by omega
  have h16 : ¬ k = 16 := by omega
  unfold f_Core_advance
  try dsimp only
  repeat' split
  all_goals first | rfl | simp only [hu_k, not_false_eq_true, h1, h2, h3, h5, h6, h7, h8, h10, h11, h12, h13, h14, h15, h16, fc_compute _ _ _ _ hk, fc_access _ _ _ _ hk]
theorem fc_read (a : Int32) (b : Int32) (v : hd_V) {k : Nat} (hk : 20 ≤ k) : (f_Home_giveToRead a b v) k = v k := by
  have h1 : ¬ k = 1 := by omega
  have h2 : ¬ k = 2 := by omega
  have h3 : ¬ k = 3 := by omega
  have h5 : ¬ k = 5 := by omega
  have h6 : ¬ k = 6 := by omega
  have h7 : ¬ k = 7 := by omega
  have h8 : ¬ k = 8 := by omega
  have h10 : ¬ k = 10 := by omega
  have h11 : ¬ k = 11 := by omega
  have h12 : ¬ k = 12 := by omega
  have h13 : ¬ k = 13 := by omega
  have h14 : ¬ k = 14 := by omega
  have h15 : ¬ k = 15 := by omega
  have h16 : ¬ k = 16 := by omega
  unfold f_Home_giveToRead
  try dsimp only
  repeat' split
  all_goals first | rfl | simp only [hu_k, not_false_eq_true, h1, h2, h3, h5, h6, h7, h8, h10, h11, h12, h13, h14, h15, h16, fc_send _ _ _ _ _ _ _ _ hk, f_Net_sendData, f_Net_sendFor]
theorem fc_invL (a b c : Int32) {k : Nat} (hk : 20 ≤ k) : ∀ (f : Nat) (y : Int32) (v : hd_V), f_Home_invalidate_L3 a b c f y v k = v k := by
  intro f
  induction f with
  | zero => intro y v; rfl
  | succ f ih =>
    intro y v
    unfold f_Home_invalidate_L3
    dsimp only
    split
    · rfl
    · split
      · exact ih _ _
      · rw [ih]
        exact fc_send _ _ _ _ _ _ _ _ hk
theorem fc_write (a : Int32) (b : Int32) (v : hd_V) {k : Nat} (hk : 20 ≤ k) : (f_Home_giveToWrite a b v) k = v k := by
  have h1 : ¬ k = 1 := by omega
  have h2 : ¬ k = 2 := by omega
  have h3 : ¬ k = 3 := by omega
  have h5 : ¬ k = 5 := by omega
  have h6 : ¬ k = 6 := by omega
  have h7 : ¬ k = 7 := by omega
  have h8 : ¬ k = 8 := by omega
  have h10 : ¬ k = 10 := by omega
  have h11 : ¬ k = 11 := by omega
  have h12 : ¬ k = 12 := by omega
  have h13 : ¬ k = 13 := by omega
  have h14 : ¬ k = 14 := by omega
  have h15 : ¬ k = 15 := by omega
  have h16 : ¬ k = 16 := by omega
  unfold f_Home_giveToWrite
  try dsimp only
  repeat' split
  all_goals first | rfl | simp only [hu_k, not_false_eq_true, h1, h2, h3, h5, h6, h7, h8, h10, h11, h12, h13, h14, h15, h16, fc_send _ _ _ _ _ _ _ _ hk, f_Net_sendData, f_Net_sendFor, f_Home_invalidate, fc_invL _ _ _ hk]
theorem fc_back (a : Int32) (b : Int32) (v : hd_V) {k : Nat} (hk : 20 ≤ k) : (f_Home_takeBack a b v) k = v k := by
  have h1 : ¬ k = 1 := by omega
  have h2 : ¬ k = 2 := by omega
  have h3 : ¬ k = 3 := by omega
  have h5 : ¬ k = 5 := by omega
  have h6 : ¬ k = 6 := by omega
  have h7 : ¬ k = 7 := by omega
  have h8 : ¬ k = 8 := by omega
  have h10 : ¬ k = 10 := by omega
  have h11 : ¬ k = 11 := by omega
  have h12 : ¬ k = 12 := by omega
  have h13 : ¬ k = 13 := by omega
  have h14 : ¬ k = 14 := by omega
  have h15 : ¬ k = 15 := by omega
  have h16 : ¬ k = 16 := by omega
  unfold f_Home_takeBack
  try dsimp only
  repeat' split
  all_goals first | rfl | simp only [hu_k, not_false_eq_true, h1, h2, h3, h5, h6, h7, h8, h10, h11, h12, h13, h14, h15, h16, fc_send _ _ _ _ _ _ _ _ hk, f_Net_sendPlain]
theorem fc_backw (a : Int32) (b : Int32) (c : Int32) (v : hd_V) {k : Nat} (hk : 20 ≤ k) : (f_Home_takeBackWord a b c v) k = v k := by
  have h1 : ¬ k = 1 := by omega
  have h2 : ¬ k = 2 := by omega
  have h3 : ¬ k = 3 := by omega
  have h5 : ¬ k = 5 := by omega
  have h6 : ¬ k = 6 := by omega
  have h7 : ¬ k = 7 := by omega
  have h8 : ¬ k = 8 := by omega
  have h10 : ¬ k = 10 := by omega
  have h11 : ¬ k = 11 := by omega
  have h12 : ¬ k = 12 := by omega
  have h13 : ¬ k = 13 := by omega
  have h14 : ¬ k = 14 := by omega
  have h15 : ¬ k = 15 := by omega
  have h16 : ¬ k = 16 := by omega
  unfold f_Home_takeBackWord
  try dsimp only
  repeat' split
  all_goals first | rfl | simp only [hu_k, not_false_eq_true, h1, h2, h3, h5, h6, h7, h8, h10, h11, h12, h13, h14, h15, h16, fc_send _ _ _ _ _ _ _ _ hk, f_Net_sendPlain, fc_back _ _ _ hk]
theorem fc_endS (a : Int32) (b : Int32) (v : hd_V) {k : Nat} (hk : 20 ≤ k) : (f_Home_endSharing a b v) k = v k := by
  have h1 : ¬ k = 1 := by omega
  have h2 : ¬ k = 2 := by omega
  have h3 : ¬ k = 3 := by omega
  have h5 : ¬ k = 5 := by omega
  have h6 : ¬ k = 6 := by omega
  have h7 : ¬ k = 7 := by omega
  have h8 : ¬ k = 8 := by omega
  have h10 : ¬ k = 10 := by omega
  have h11 : ¬ k = 11 := by omega
  have h12 : ¬ k = 12 := by omega
  have h13 : ¬ k = 13 := by omega
  have h14 : ¬ k = 14 := by omega
  have h15 : ¬ k = 15 := by omega
  have h16 : ¬ k = 16 := by omega
  unfold f_Home_endSharing
  try dsimp only
  repeat' split
  all_goals first | rfl | simp only [hu_k, not_false_eq_true, h1, h2, h3, h5, h6, h7, h8, h10, h11, h12, h13, h14, h15, h16]
theorem fc_hrec (mj : Nat) (v : hd_V) {k : Nat} (hk : 20 ≤ k) : (f_Home_receive mj v) k = v k := by
  have h1 : ¬ k = 1 := by omega
  have h2 : ¬ k = 2 := by omega
  have h3 : ¬ k = 3 := by omega
  have h5 : ¬ k = 5 := by omega
  have h6 : ¬ k = 6 := by omega
  have h7 : ¬ k = 7 := by omega
  have h8 : ¬ k = 8 := by omega
  have h10 : ¬ k = 10 := by omega
  have h11 : ¬ k = 11 := by omega
  have h12 : ¬ k = 12 := by omega
  have h13 : ¬ k = 13 := by omega
  have h14 : ¬ k = 14 := by omega
  have h15 : ¬ k = 15 := by omega
  have h16 : ¬ k = 16 := by omega
  unfold f_Home_receive
  try dsimp only
  repeat' split
  all_goals first | rfl | simp only [hu_k, not_false_eq_true, h1, h2, h3, h5, h6, h7, h8, h10, h11, h12, h13, h14, h15, h16, fc_read _ _ _ hk, fc_write _ _ _ hk, fc_back _ _ _ hk, fc_backw _ _ _ _ hk, fc_endS _ _ _ hk]
theorem fc_toL (a b : Int32) {k : Nat} (hk : 20 ≤ k) : ∀ (f : Nat) (y : Int32) (v : hd_V), f_Net_takeOut_L19 a b f y v k = v k := by
  intro f
  induction f with
  | zero => intro y v; rfl
  | succ f ih =>
    intro y v
    unfold f_Net_takeOut_L19
    dsimp only
    split
    · exact hu_k (by omega)
    · rw [ih]
      exact hu_k (by omega)
theorem fc_to (a : Int32) (v : hd_V) {k : Nat} (hk : 20 ≤ k) : (f_Net_takeOut a v) k = v k := by
  have h1 : ¬ k = 1 := by omega
  have h2 : ¬ k = 2 := by omega
  have h3 : ¬ k = 3 := by omega
  have h5 : ¬ k = 5 := by omega
  have h6 : ¬ k = 6 := by omega
  have h7 : ¬ k = 7 := by omega
  have h8 : ¬ k = 8 := by omega
  have h10 : ¬ k = 10 := by omega
  have h11 : ¬ k = 11 := by omega
  have h12 : ¬ k = 12 := by omega
  have h13 : ¬ k = 13 := by omega
  have h14 : ¬ k = 14 := by omega
  have h15 : ¬ k = 15 := by omega
  have h16 : ¬ k = 16 := by omega
  unfold f_Net_takeOut
  try dsimp only
  repeat' split
  all_goals first | rfl | simp only [hu_k, not_false_eq_true, h1, h2, h3, h5, h6, h7, h8, h10, h11, h12, h13, h14, h15, h16, fc_toL _ _ hk]
theorem fc_over (n : Nat) (mj : Nat) (v : hd_V) {k : Nat} (hk : 20 ≤ k) : (f_HD_handOver n mj v) k = v k := by
  have h1 : ¬ k = 1 := by omega
  have h2 : ¬ k = 2 := by omega
  have h3 : ¬ k = 3 := by omega
  have h5 : ¬ k = 5 := by omega
  have h6 : ¬ k = 6 := by omega
  have h7 : ¬ k = 7 := by omega
  have h8 : ¬ k = 8 := by omega
  have h10 : ¬ k = 10 := by omega
  have h11 : ¬ k = 11 := by omega
  have h12 : ¬ k = 12 := by omega
  have h13 : ¬ k = 13 := by omega
  have h14 : ¬ k = 14 := by omega
  have h15 : ¬ k = 15 := by omega
  have h16 : ¬ k = 16 := by omega
  unfold f_HD_handOver
  try dsimp only
  repeat' split
  all_goals first | rfl | simp only [hu_k, not_false_eq_true, h1, h2, h3, h5, h6, h7, h8, h10, h11, h12, h13, h14, h15, h16, fc_hrec _ _ hk, fc_receive _ _ _ hk]
theorem fc_deliver (n : Nat) (a : Int32) (v : hd_V) {k : Nat} (hk : 20 ≤ k) : (f_HD_deliver n a v).2 k = v k := by
  have h1 : ¬ k = 1 := by omega
  have h2 : ¬ k = 2 := by omega
  have h3 : ¬ k = 3 := by omega
  have h5 : ¬ k = 5 := by omega
  have h6 : ¬ k = 6 := by omega
  have h7 : ¬ k = 7 := by omega
  have h8 : ¬ k = 8 := by omega
  have h10 : ¬ k = 10 := by omega
  have h11 : ¬ k = 11 := by omega
  have h12 : ¬ k = 12 := by omega
  have h13 : ¬ k = 13 := by omega
  have h14 : ¬ k = 14 := by omega
  have h15 : ¬ k = 15 := by omega
  have h16 : ¬ k = 16 := by omega
  unfold f_HD_deliver
  try dsimp only
  repeat' split
  all_goals first | rfl | simp only [hu_k, not_false_eq_true, h1, h2, h3, h5, h6, h7, h8, h10, h11, h12, h13, h14, h15, h16, fc_to _ _ hk, fc_over _ _ _ hk]
theorem fc_step (n : Nat) (a : Int32) (v : hd_V) {k : Nat} (hk : 20 ≤ k) : (f_HD_step n a v).2 k = v k := by
  have h1 : ¬ k = 1 := by omega
  have h2 : ¬ k = 2 := by omega
  have h3 : ¬ k = 3 := by omega
  have h5 : ¬ k = 5 := by omega
  have h6 : ¬ k = 6 := by omega
  have h7 : ¬ k = 7 := by omega
  have h8 : ¬ k = 8 := by omega
  have h10 : ¬ k = 10 := by omega
  have h11 : ¬ k = 11 := by omega
  have h12 : ¬ k = 12 := by omega
  have h13 : ¬ k = 13 := by omega
  have h14 : ¬ k = 14 := by omega
  have h15 : ¬ k = 15 := by omega
  have h16 : ¬ k = 16 := by omega
  unfold f_HD_step
  try dsimp only
  repeat' split
  all_goals first | rfl | simp only [hu_k, not_false_eq_true, h1, h2, h3, h5, h6, h7, h8, h10, h11, h12, h13, h14, h15, h16, fc_advance _ _ hk]
theorem fc_append (cx : Nat) (a : Int32) (b : Int32) (v : hd_V) {k : Nat} (hk : 20 ≤ k) : (f_Core_append cx a b v).2 k = v k := by
  have h1 : ¬ k = 1 := by omega
  have h2 : ¬ k = 2 := by omega
  have h3 : ¬ k = 3 := by omega
  have h5 : ¬ k = 5 := by omega
  have h6 : ¬ k = 6 := by omega
  have h7 : ¬ k = 7 := by omega
  have h8 : ¬ k = 8 := by omega
  have h10 : ¬ k = 10 := by omega
  have h11 : ¬ k = 11 := by omega
  have h12 : ¬ k = 12 := by omega
  have h13 : ¬ k = 13 := by omega
  have h14 : ¬ k = 14 := by omega
  have h15 : ¬ k = 15 := by omega
  have h16 : ¬ k = 16 := by omega
  unfold f_Core_append
  try dsimp only
  repeat' split
  all_goals first | rfl | simp only [hu_k, not_false_eq_true, h1, h2, h3, h5, h6, h7, h8, h10, h11, h12, h13, h14, h15, h16]
theorem fc_move (cx : Nat) (a : Int32) (v : hd_V) {k : Nat} (hk : 20 ≤ k) : (f_Core_moveTo cx a v).2 k = v k := by
  have h1 : ¬ k = 1 := by omega
  have h2 : ¬ k = 2 := by omega
  have h3 : ¬ k = 3 := by omega
  have h5 : ¬ k = 5 := by omega
  have h6 : ¬ k = 6 := by omega
  have h7 : ¬ k = 7 := by omega
  have h8 : ¬ k = 8 := by omega
  have h10 : ¬ k = 10 := by omega
  have h11 : ¬ k = 11 := by omega
  have h12 : ¬ k = 12 := by omega
  have h13 : ¬ k = 13 := by omega
  have h14 : ¬ k = 14 := by omega
  have h15 : ¬ k = 15 := by omega
  have h16 : ¬ k = 16 := by omega
  unfold f_Core_moveTo
  try dsimp only
  repeat' split
  all_goals first | rfl | simp only [hu_k, not_false_eq_true, h1, h2, h3, h5, h6, h7, h8, h10, h11, h12, h13, h14, h15, h16]
theorem fc_code (n : Nat) (a : Int32) (b : Int32) (c : Int32) (v : hd_V) {k : Nat} (hk : 20 ≤ k) : (f_HD_code n a b c v).2 k = v k := by
  have h1 : ¬ k = 1 := by omega
  have h2 : ¬ k = 2 := by omega
  have h3 : ¬ k = 3 := by omega
  have h5 : ¬ k = 5 := by omega
  have h6 : ¬ k = 6 := by omega
  have h7 : ¬ k = 7 := by omega
  have h8 : ¬ k = 8 := by omega
  have h10 : ¬ k = 10 := by omega
  have h11 : ¬ k = 11 := by omega
  have h12 : ¬ k = 12 := by omega
  have h13 : ¬ k = 13 := by omega
  have h14 : ¬ k = 14 := by omega
  have h15 : ¬ k = 15 := by omega
  have h16 : ¬ k = 16 := by omega
  unfold f_HD_code
  try dsimp only
  repeat' split
  all_goals first | rfl | simp only [hu_k, not_false_eq_true, h1, h2, h3, h5, h6, h7, h8, h10, h11, h12, h13, h14, h15, h16, fc_append _ _ _ _ hk]
theorem fc_go (n : Nat) (a : Int32) (b : Int32) (v : hd_V) {k : Nat} (hk : 20 ≤ k) : (f_HD_go n a b v).2 k = v k := by
  have h1 : ¬ k = 1 := by omega
  have h2 : ¬ k = 2 := by omega
  have h3 : ¬ k = 3 := by omega
  have h5 : ¬ k = 5 := by omega
  have h6 : ¬ k = 6 := by omega
  have h7 : ¬ k = 7 := by omega
  have h8 : ¬ k = 8 := by omega
  have h10 : ¬ k = 10 := by omega
  have h11 : ¬ k = 11 := by omega
  have h12 : ¬ k = 12 := by omega
  have h13 : ¬ k = 13 := by omega
  have h14 : ¬ k = 14 := by omega
  have h15 : ¬ k = 15 := by omega
  have h16 : ¬ k = 16 := by omega
  unfold f_HD_go
  try dsimp only
  repeat' split
  all_goals first | rfl | simp only [hu_k, not_false_eq_true, h1, h2, h3, h5, h6, h7, h8, h10, h11, h12, h13, h14, h15, h16, fc_move _ _ _ hk]
theorem fm_send (a : Int32) (b : Int32) (c : Int32) (d : Int32) (e : Int32) (f : Int32) (g : Int32) (v : hd_V) {k : Nat} (hk : k < 20) : (f_Mod_send a b c d e f g v) k = v k := by
  have h20 : ¬ k = 20 := by omega
  have h22 : ¬ k = 22 := by omega
  have h23 : ¬ k = 23 := by omega
  have h24 : ¬ k = 24 := by omega
  have h25 : ¬ k = 25 := by omega
  have h26 : ¬ k = 26 := by omega
  have h27 : ¬ k = 27 := by omega
  have h28 : ¬ k = 28 := by omega
  have h29 : ¬ k = 29 := by omega
  have h30 : ¬ k = 30 := by omega
  have h31 : ¬ k = 31 := by omega
  have h33 : ¬ k = 33 := by omega
  have h34 : ¬ k = 34 := by omega
  have h35 : ¬ k = 35 := by omega
  have h36 : ¬ k = 36 := by omega
  have h40 : ¬ k = 40 := by omega
  have h41 : ¬ k = 41 := by omega
  have h42 : ¬ k = 42 := by omega
  have h43 : ¬ k = 43 := by omega
  have h44 : ¬ k = 44 := by omega
  have h45 : ¬ k = 45 := by omega
  have h46 : ¬ k = 46 := by omega
  unfold f_Mod_send
  try dsimp only
  repeat' split
  all_goals first | rfl | simp only [hu_k, not_false_eq_true, h20, h22, h23, h24, h25, h26, h27, h28, h29, h30, h31, h33, h34, h35, h36, h40, h41, h42, h43, h44, h45, h46]
theorem fm_code (a : Int32) (b : Int32) (c : Int32) (v : hd_V) {k : Nat} (hk : k < 20) : (f_Mod_code a b c v).2 k = v k := by
  have h20 : ¬ k = 20 := by omega
  have h22 : ¬ k = 22 := by omega
  have h23 : ¬ k = 23 := by omega
  have h24 : ¬ k = 24 := by omega
  have h25 : ¬ k = 25 := by omega
  have h26 : ¬ k = 26 := by omega
  have h27 : ¬ k = 27 := by omega
  have h28 : ¬ k = 28 := by omega
  have h29 : ¬ k = 29 := by omega
  have h30 : ¬ k = 30 := by omega
  have h31 : ¬ k = 31 := by omega
  have h33 : ¬ k = 33 := by omega
  have h34 : ¬ k = 34 := by omega
  have h35 : ¬ k = 35 := by omega
  have h36 : ¬ k = 36 := by omega
  have h40 : ¬ k = 40 := by omega
  have h41 : ¬ k = 41 := by omega
  have h42 : ¬ k = 42 := by omega
  have h43 : ¬ k = 43 := by omega
  have h44 : ¬ k = 44 := by omega
  have h45 : ¬ k = 45 := by omega
  have h46 : ¬ k = 46 := by omega
  unfold f_Mod_code
  try dsimp only
  repeat' split
  all_goals first | rfl | simp only [hu_k, not_false_eq_true, h20, h22, h23, h24, h25, h26, h27, h28, h29, h30, h31, h33, h34, h35, h36, h40, h41, h42, h43, h44, h45, h46]
theorem fm_go (a : Int32) (b : Int32) (v : hd_V) {k : Nat} (hk : k < 20) : (f_Mod_go a b v).2 k = v k := by
  have h20 : ¬ k = 20 := by omega
  have h22 : ¬ k = 22 := by omega
  have h23 : ¬ k = 23 := by omega
  have h24 : ¬ k = 24 := by omega
  have h25 : ¬ k = 25 := by omega
  have h26 : ¬ k = 26 := by omega
  have h27 : ¬ k = 27 := by omega
  have h28 : ¬ k = 28 := by omega
  have h29 : ¬ k = 29 := by omega
  have h30 : ¬ k = 30 := by omega
  have h31 : ¬ k = 31 := by omega
  have h33 : ¬ k = 33 := by omega
  have h34 : ¬ k = 34 := by omega
  have h35 : ¬ k = 35 := by omega
  have h36 : ¬ k = 36 := by omega
  have h40 : ¬ k = 40 := by omega
  have h41 : ¬ k = 41 := by omega
  have h42 : ¬ k = 42 := by omega
  have h43 : ¬ k = 43 := by omega
  have h44 : ¬ k = 44 := by omega
  have h45 : ¬ k = 45 := by omega
  have h46 : ¬ k = 46 := by omega
  unfold f_Mod_go
  try dsimp only
  repeat' split
  all_goals first | rfl | simp only [hu_k, not_false_eq_true, h20, h22, h23, h24, h25, h26, h27, h28, h29, h30, h31, h33, h34, h35, h36, h40, h41, h42, h43, h44, h45, h46]
theorem fm_plain (a : Int32) (b : Int32) (c : Int32) (v : hd_V) {k : Nat} (hk : k < 20) : (f_Mod_plain a b c v).2 k = v k := by
  have h20 : ¬ k = 20 := by omega
  have h22 : ¬ k = 22 := by omega
  have h23 : ¬ k = 23 := by omega
  have h24 : ¬ k = 24 := by omega
  have h25 : ¬ k = 25 := by omega
  have h26 : ¬ k = 26 := by omega
  have h27 : ¬ k = 27 := by omega
  have h28 : ¬ k = 28 := by omega
  have h29 : ¬ k = 29 := by omega
  have h30 : ¬ k = 30 := by omega
  have h31 : ¬ k = 31 := by omega
  have h33 : ¬ k = 33 := by omega
  have h34 : ¬ k = 34 := by omega
  have h35 : ¬ k = 35 := by omega
  have h36 : ¬ k = 36 := by omega
  have h40 : ¬ k = 40 := by omega
  have h41 : ¬ k = 41 := by omega
  have h42 : ¬ k = 42 := by omega
  have h43 : ¬ k = 43 := by omega
  have h44 : ¬ k = 44 := by omega
  have h45 : ¬ k = 45 := by omega
  have h46 : ¬ k = 46 := by omega
  unfold f_Mod_plain
  try dsimp only
  repeat' split
  all_goals first | rfl | simp only [hu_k, not_false_eq_true, h20, h22, h23, h24, h25, h26, h27, h28, h29, h30, h31, h33, h34, h35, h36, h40, h41, h42, h43, h44, h45, h46]
theorem fm_perform (a : Int32) (v : hd_V) {k : Nat} (hk : k < 20) : (f_Mod_perform a v) k = v k := by
  have h20 : ¬ k = 20 := by omega
  have h22 : ¬ k = 22 := by omega
  have h23 : ¬ k = 23 := by omega
  have h24 : ¬ k = 24 := by omega
  have h25 : ¬ k = 25 := by omega
  have h26 : ¬ k = 26 := by omega
  have h27 : ¬ k = 27 := by omega
  have h28 : ¬ k = 28 := by omega
  have h29 : ¬ k = 29 := by omega
  have h30 : ¬ k = 30 := by omega
  have h31 : ¬ k = 31 := by omega
  have h33 : ¬ k = 33 := by omega
  have h34 : ¬ k = 34 := by omega
  have h35 : ¬ k = 35 := by omega
  have h36 : ¬ k = 36 := by omega
  have h40 : ¬ k = 40 := by omega
  have h41 : ¬ k = 41 := by omega
  have h42 : ¬ k = 42 := by omega
  have h43 : ¬ k = 43 := by omega
  have h44 : ¬ k = 44 := by omega
  have h45 : ¬ k = 45 := by omega
  have h46 : ¬ k = 46 := by omega
  unfold f_Mod_perform
  try dsimp only
  repeat' split
  all_goals first | rfl | simp only [hu_k, not_false_eq_true, h20, h22, h23, h24, h25, h26, h27, h28, h29, h30, h31, h33, h34, h35, h36, h40, h41, h42, h43, h44, h45, h46]
theorem fm_ask (a : Int32) (b : Int32) (c : Int32) (d : Int32) (v : hd_V) {k : Nat} (hk : k < 20) : (f_Mod_ask a b c d v).2 k = v k := by
  have h20 : ¬ k = 20 := by omega
  have h22 : ¬ k = 22 := by omega
  have h23 : ¬ k = 23 := by omega
  have h24 : ¬ k = 24 := by omega
  have h25 : ¬ k = 25 := by omega
  have h26 : ¬ k = 26 := by omega
  have h27 : ¬ k = 27 := by omega
  have h28 : ¬ k = 28 := by omega
  have h29 : ¬ k = 29 := by omega
  have h30 : ¬ k = 30 := by omega
  have h31 : ¬ k = 31 := by omega
  have h33 : ¬ k = 33 := by omega
  have h34 : ¬ k = 34 := by omega
  have h35 : ¬ k = 35 := by omega
  have h36 : ¬ k = 36 := by omega
  have h40 : ¬ k = 40 := by omega
  have h41 : ¬ k = 41 := by omega
  have h42 : ¬ k = 42 := by omega
  have h43 : ¬ k = 43 := by omega
  have h44 : ¬ k = 44 := by omega
  have h45 : ¬ k = 45 := by omega
  have h46 : ¬ k = 46 := by omega
  unfold f_Mod_ask
  try dsimp only
  repeat' split
  all_goals first | rfl | simp only [hu_k, not_false_eq_true, h20, h22, h23, h24, h25, h26, h27, h28, h29, h30, h31, h33, h34, h35, h36, h40, h41, h42, h43, h44, h45, h46, fm_send _ _ _ _ _ _ _ _ hk, f_Mod_data]
theorem fm_repL (a : Int32) {k : Nat} (hk : k < 20) : ∀ (f : Nat) (x y : Int32) (v : hd_V), (f_Mod_replace_L4 a f x y v).2 k = v k := by
  intro f
  induction f with
  | zero => intro x y v; rfl
  | succ f ih =>
    intro x y v
    unfold f_Mod_replace_L4
    dsimp only
    repeat' split
    all_goals first | exact ih _ _ _ | (dsimp only; rw [hu_k (by omega), hu_k (by omega)]; exact fm_send _ _ _ _ _ _ _ _ hk)
theorem fm_rep (a : Int32) (v : hd_V) {k : Nat} (hk : k < 20) : (f_Mod_replace a v).2 k = v k := by
  have h20 : ¬ k = 20 := by omega
  have h22 : ¬ k = 22 := by omega
  have h23 : ¬ k = 23 := by omega
  have h24 : ¬ k = 24 := by omega
  have h25 : ¬ k = 25 := by omega
  have h26 : ¬ k = 26 := by omega
  have h27 : ¬ k = 27 := by omega
  have h28 : ¬ k = 28 := by omega
  have h29 : ¬ k = 29 := by omega
  have h30 : ¬ k = 30 := by omega
  have h31 : ¬ k = 31 := by omega
  have h33 : ¬ k = 33 := by omega
  have h34 : ¬ k = 34 := by omega
  have h35 : ¬ k = 35 := by omega
  have h36 : ¬ k = 36 := by omega
  have h40 : ¬ k = 40 := by omega
  have h41 : ¬ k = 41 := by omega
  have h42 : ¬ k = 42 := by omega
  have h43 : ¬ k = 43 := by omega
  have h44 : ¬ k = 44 := by omega
  have h45 : ¬ k = 45 := by omega
  have h46 : ¬ k = 46 := by omega
  unfold f_Mod_replace
  try dsimp only
  all_goals first | rfl | simp only [hu_k, not_false_eq_true, h20, h22, h23, h24, h25, h26, h27, h28, h29, h30, h31, h33, h34, h35, h36, h40, h41, h42, h43, h44, h45, h46, fm_repL _ hk]
theorem fm_step (a : Int32) (v : hd_V) {k : Nat} (hk : k < 20) : (f_Mod_step a v).2 k = v k := by
  have h20 : ¬ k = 20 := by omega
  have h22 : ¬ k = 22 := by omega
  have h23 : ¬ k = 23 := by omega
  have h24 : ¬ k = 24 := by omega
  have h25 : ¬ k = 25 := by omega
  have h26 : ¬ k = 26 := by omega
  have h27 : ¬ k = 27 := by omega
  have h28 : ¬ k = 28 := by omega
  have h29 : ¬ k = 29 := by omega
  have h30 : ¬ k = 30 := by omega
  have h31 : ¬ k = 31 := by omega
  have h33 : ¬ k = 33 := by omega
  have h34 : ¬ k = 34 := by omega
  have h35 : ¬ k = 35 := by omega
  have h36 : ¬ k = 36 := by omega
  have h40 : ¬ k = 40 := by omega
  have h41 : ¬ k = 41 := by omega
  have h42 : ¬ k = 42 := by omega
  have h43 : ¬ k = 43 := by omega
  have h44 : ¬ k = 44 := by omega
  have h45 : ¬ k = 45 := by omega
  have h46 : ¬ k = 46 := by omega
  unfold f_Mod_step
  try dsimp only
  repeat' split
  all_goals first | rfl | simp only [hu_k, not_false_eq_true, h20, h22, h23, h24, h25, h26, h27, h28, h29, h30, h31, h33, h34, h35, h36, h40, h41, h42, h43, h44, h45, h46, fm_plain _ _ _ _ hk, fm_perform _ _ hk, fm_ask _ _ _ _ _ hk, fm_rep _ _ hk]
theorem fm_rmL (a : Int32) {k : Nat} (hk : k < 20) : ∀ (f : Nat) (y : Int32) (v : hd_V), f_Mod_remove_L12 a f y v k = v k := by
  intro f
  induction f with
  | zero => intro y v; rfl
  | succ f ih =>
    intro y v
    unfold f_Mod_remove_L12
    dsimp only
    split
    · rfl
    · rw [ih]
      simp only [hu_k (show ¬ k = 40 by omega), hu_k (show ¬ k = 41 by omega), hu_k (show ¬ k = 42 by omega), hu_k (show ¬ k = 43 by omega), hu_k (show ¬ k = 44 by omega), hu_k (show ¬ k = 45 by omega), hu_k (show ¬ k = 46 by omega)]
theorem fm_rm (a : Int32) (v : hd_V) {k : Nat} (hk : k < 20) : (f_Mod_remove a v) k = v k := by
  have h20 : ¬ k = 20 := by omega
  have h22 : ¬ k = 22 := by omega
  have h23 : ¬ k = 23 := by omega
  have h24 : ¬ k = 24 := by omega
  have h25 : ¬ k = 25 := by omega
  have h26 : ¬ k = 26 := by omega
  have h27 : ¬ k = 27 := by omega
  have h28 : ¬ k = 28 := by omega
  have h29 : ¬ k = 29 := by omega
  have h30 : ¬ k = 30 := by omega
  have h31 : ¬ k = 31 := by omega
  have h33 : ¬ k = 33 := by omega
  have h34 : ¬ k = 34 := by omega
  have h35 : ¬ k = 35 := by omega
  have h36 : ¬ k = 36 := by omega
  have h40 : ¬ k = 40 := by omega
  have h41 : ¬ k = 41 := by omega
  have h42 : ¬ k = 42 := by omega
  have h43 : ¬ k = 43 := by omega
  have h44 : ¬ k = 44 := by omega
  have h45 : ¬ k = 45 := by omega
  have h46 : ¬ k = 46 := by omega
  unfold f_Mod_remove
  try dsimp only
  all_goals first | rfl | simp only [hu_k, not_false_eq_true, h20, h22, h23, h24, h25, h26, h27, h28, h29, h30, h31, h33, h34, h35, h36, h40, h41, h42, h43, h44, h45, h46, fm_rmL _ hk]
theorem fm_gets (a : Int32) (b : Int32) (v : hd_V) {k : Nat} (hk : k < 20) : (f_Mod_gets a b v) k = v k := by
  have h20 : ¬ k = 20 := by omega
  have h22 : ¬ k = 22 := by omega
  have h23 : ¬ k = 23 := by omega
  have h24 : ¬ k = 24 := by omega
  have h25 : ¬ k = 25 := by omega
  have h26 : ¬ k = 26 := by omega
  have h27 : ¬ k = 27 := by omega
  have h28 : ¬ k = 28 := by omega
  have h29 : ¬ k = 29 := by omega
  have h30 : ¬ k = 30 := by omega
  have h31 : ¬ k = 31 := by omega
  have h33 : ¬ k = 33 := by omega
  have h34 : ¬ k = 34 := by omega
  have h35 : ¬ k = 35 := by omega
  have h36 : ¬ k = 36 := by omega
  have h40 : ¬ k = 40 := by omega
  have h41 : ¬ k = 41 := by omega
  have h42 : ¬ k = 42 := by omega
  have h43 : ¬ k = 43 := by omega
  have h44 : ¬ k = 44 := by omega
  have h45 : ¬ k = 45 := by omega
  have h46 : ¬ k = 46 := by omega
  unfold f_Mod_gets
  try dsimp only
  repeat' split
  all_goals first | rfl | simp only [hu_k, not_false_eq_true, h20, h22, h23, h24, h25, h26, h27, h28, h29, h30, h31, h33, h34, h35, h36, h40, h41, h42, h43, h44, h45, h46, fm_send _ _ _ _ _ _ _ _ hk, f_Mod_data]
theorem fm_getmL (a b : Int32) {k : Nat} (hk : k < 20) : ∀ (f : Nat) (y : Int32) (v : hd_V), f_Mod_getm_L50 a b f y v k = v k := by
  intro f
  induction f with
  | zero => intro y v; rfl
  | succ f ih =>
    intro y v
    unfold f_Mod_getm_L50
    dsimp only
    repeat' split
    all_goals first | (rw [hu_k (by omega), hu_k (by omega)]; done) | (rw [ih, hu_k (by omega)]; done) | (rw [ih, hu_k (by omega)]; exact fm_send _ _ _ _ _ _ _ _ hk)
theorem fm_getm (a : Int32) (b : Int32) (v : hd_V) {k : Nat} (hk : k < 20) : (f_Mod_getm a b v) k = v k := by
  have h20 : ¬ k = 20 := by omega
  have h22 : ¬ k = 22 := by omega
  have h23 : ¬ k = 23 := by omega
  have h24 : ¬ k = 24 := by omega
  have h25 : ¬ k = 25 := by omega
  have h26 : ¬ k = 26 := by omega
  have h27 : ¬ k = 27 := by omega
  have h28 : ¬ k = 28 := by omega
  have h29 : ¬ k = 29 := by omega
  have h30 : ¬ k = 30 := by omega
  have h31 : ¬ k = 31 := by omega
  have h33 : ¬ k = 33 := by omega
  have h34 : ¬ k = 34 := by omega
  have h35 : ¬ k = 35 := by omega
  have h36 : ¬ k = 36 := by omega
  have h40 : ¬ k = 40 := by omega
  have h41 : ¬ k = 41 := by omega
  have h42 : ¬ k = 42 := by omega
  have h43 : ¬ k = 43 := by omega
  have h44 : ¬ k = 44 := by omega
  have h45 : ¬ k = 45 := by omega
  have h46 : ¬ k = 46 := by omega
  unfold f_Mod_getm
  try dsimp only
  repeat' split
  all_goals first | rfl | simp only [hu_k, not_false_eq_true, h20, h22, h23, h24, h25, h26, h27, h28, h29, h30, h31, h33, h34, h35, h36, h40, h41, h42, h43, h44, h45, h46, fm_send _ _ _ _ _ _ _ _ hk, f_Mod_data, fm_getmL _ _ hk]
theorem fm_home (a : Int32) (b : Int32) (c : Int32) (d : Int32) (v : hd_V) {k : Nat} (hk : k < 20) : (f_Mod_atHome a b c d v) k = v k := by
  have h20 : ¬ k = 20 := by omega
  have h22 : ¬ k = 22 := by omega
  have h23 : ¬ k = 23 := by omega
  have h24 : ¬ k = 24 := by omega
  have h25 : ¬ k = 25 := by omega
  have h26 : ¬ k = 26 := by omega
  have h27 : ¬ k = 27 := by omega
  have h28 : ¬ k = 28 := by omega
  have h29 : ¬ k = 29 := by omega
  have h30 : ¬ k = 30 := by omega
  have h31 : ¬ k = 31 := by omega
  have h33 : ¬ k = 33 := by omega
  have h34 : ¬ k = 34 := by omega
  have h35 : ¬ k = 35 := by omega
  have h36 : ¬ k = 36 := by omega
  have h40 : ¬ k = 40 := by omega
  have h41 : ¬ k = 41 := by omega
  have h42 : ¬ k = 42 := by omega
  have h43 : ¬ k = 43 := by omega
  have h44 : ¬ k = 44 := by omega
  have h45 : ¬ k = 45 := by omega
  have h46 : ¬ k = 46 := by omega
  unfold f_Mod_atHome
  try dsimp only
  repeat' split
  all_goals first | rfl | simp only [hu_k, not_false_eq_true, h20, h22, h23, h24, h25, h26, h27, h28, h29, h30, h31, h33, h34, h35, h36, h40, h41, h42, h43, h44, h45, h46, fm_send _ _ _ _ _ _ _ _ hk, f_Mod_data, fm_gets _ _ _ hk, fm_getm _ _ _ hk]
theorem fm_core (a : Int32) (b : Int32) (c : Int32) (d : Int32) (e : Int32) (f : Int32) (v : hd_V) {k : Nat} (hk : k < 20) : (f_Mod_atCore a b c d e f v) k = v k := by
  have h20 : ¬ k = 20 := by omega
  have h22 : ¬ k = 22 := by omega
  have h23 : ¬ k = 23 := by omega
  have h24 : ¬ k = 24 := by omega
  have h25 : ¬ k = 25 := by omega
  have h26 : ¬ k = 26 := by omega
  have h27 : ¬ k = 27 := by omega
  have h28 : ¬ k = 28 := by omega
  have h29 : ¬ k = 29 := by omega
  have h30 : ¬ k = 30 := by omega
  have h31 : ¬ k = 31 := by omega
  have h33 : ¬ k = 33 := by omega
  have h34 : ¬ k = 34 := by omega
  have h35 : ¬ k = 35 := by omega
  have h36 : ¬ k = 36 := by omega
  have h40 : ¬ k = 40 := by omega
  have h41 : ¬ k = 41 := by omega
  have h42 : ¬ k = 42 := by omega
  have h43 : ¬ k = 43 := by omega
  have h44 : ¬ k = 44 := by omega
  have h45 : ¬ k = 45 := by omega
  have h46 : ¬ k = 46 := by omega
  unfold f_Mod_atCore
  try dsimp only
  repeat' split
  all_goals first | rfl | simp only [hu_k, not_false_eq_true, h20, h22, h23, h24, h25, h26, h27, h28, h29, h30, h31, h33, h34, h35, h36, h40, h41, h42, h43, h44, h45, h46, fm_send _ _ _ _ _ _ _ _ hk, f_Mod_data]
theorem fm_fin (a : Int32) (b : Int32) (v : hd_V) {k : Nat} (hk : k < 20) : (f_Mod_finish a b v) k = v k := by
  have h20 : ¬ k = 20 := by omega
  have h22 : ¬ k = 22 := by omega
  have h23 : ¬ k = 23 := by omega
  have h24 : ¬ k = 24 := by omega
  have h25 : ¬ k = 25 := by omega
  have h26 : ¬ k = 26 := by omega
  have h27 : ¬ k = 27 := by omega
  have h28 : ¬ k = 28 := by omega
  have h29 : ¬ k = 29 := by omega
  have h30 : ¬ k = 30 := by omega
  have h31 : ¬ k = 31 := by omega
  have h33 : ¬ k = 33 := by omega
  have h34 : ¬ k = 34 := by omega
  have h35 : ¬ k = 35 := by omega
  have h36 : ¬ k = 36 := by omega
  have h40 : ¬ k = 40 := by omega
  have h41 : ¬ k = 41 := by omega
  have h42 : ¬ k = 42 := by omega
  have h43 : ¬ k = 43 := by omega
  have h44 : ¬ k = 44 := by omega
  have h45 : ¬ k = 45 := by omega
  have h46 : ¬ k = 46 := by omega
  unfold f_Mod_finish
  try dsimp only
  repeat' split
  all_goals first | rfl | simp only [hu_k, not_false_eq_true, h20, h22, h23, h24, h25, h26, h27, h28, h29, h30, h31, h33, h34, h35, h36, h40, h41, h42, h43, h44, h45, h46, fm_perform _ _ hk]
theorem fm_deliver (a : Int32) (v : hd_V) {k : Nat} (hk : k < 20) : (f_Mod_deliver a v).2 k = v k := by
  have h20 : ¬ k = 20 := by omega
  have h22 : ¬ k = 22 := by omega
  have h23 : ¬ k = 23 := by omega
  have h24 : ¬ k = 24 := by omega
  have h25 : ¬ k = 25 := by omega
  have h26 : ¬ k = 26 := by omega
  have h27 : ¬ k = 27 := by omega
  have h28 : ¬ k = 28 := by omega
  have h29 : ¬ k = 29 := by omega
  have h30 : ¬ k = 30 := by omega
  have h31 : ¬ k = 31 := by omega
  have h33 : ¬ k = 33 := by omega
  have h34 : ¬ k = 34 := by omega
  have h35 : ¬ k = 35 := by omega
  have h36 : ¬ k = 36 := by omega
  have h40 : ¬ k = 40 := by omega
  have h41 : ¬ k = 41 := by omega
  have h42 : ¬ k = 42 := by omega
  have h43 : ¬ k = 43 := by omega
  have h44 : ¬ k = 44 := by omega
  have h45 : ¬ k = 45 := by omega
  have h46 : ¬ k = 46 := by omega
  unfold f_Mod_deliver
  try dsimp only
  repeat' split
  all_goals first | rfl | simp only [hu_k, not_false_eq_true, h20, h22, h23, h24, h25, h26, h27, h28, h29, h30, h31, h33, h34, h35, h36, h40, h41, h42, h43, h44, h45, h46, fm_rm _ _ hk, fm_home _ _ _ _ _ hk, fm_core _ _ _ _ _ _ _ hk, fm_fin _ _ _ hk]
