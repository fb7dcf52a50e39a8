/-! What the class's methods need of the ints, and the reference's -/
def hi_S (n : Nat) (v : hd_V) : Prop := hx_net v ∧ (v 1 0 1).toInt ≤ 32 ∧ (∀ c, c < n → 0 ≤ v 10 c 5) ∧ (∀ c, c < n → hx_prog c v) ∧ (∀ c, c < n → ¬ f_Core_isAccess (v 11 c (v 10 c 7).toNatClampNeg) = 0 → vp_in (v 12 c (v 10 c 7).toNatClampNeg) 4) ∧ ∀ k_ : Int32, vp_in k_ 32 → k_ < v 1 0 1 → vp_in (v 3 (v 2 0 k_.toNatClampNeg).toNatClampNeg 3) 4 ∧ hx_fr (v 2 0 k_.toNatClampNeg).toNatClampNeg v
def hi_T (v : hd_V) : Prop := (v 20 0 0).toInt ≤ 4 ∧ (∀ c, c < 4 → 0 ≤ (v 25 0 c).toInt ∧ (v 25 0 c).toInt ≤ 16) ∧ 1 ≤ (v 20 0 1).toInt ∧ (∀ c, c < 4 → 0 ≤ v 26 0 c ∧ (v 25 0 c).toInt ≤ 16) ∧ (∀ c : Int32, vp_in c 4 → ¬ f_Mod_access (v 23 0 (16 * c + v 26 0 c.toNatClampNeg).toNatClampNeg) = 0 → vp_in (v 24 0 (16 * c + v 26 0 c.toNatClampNeg).toNatClampNeg) 4) ∧ hx_mm 5 v ∧ (∀ k_ : Int32, vp_in k_ 64 → k_ < v 20 0 17 → vp_in (v 43 0 k_.toNatClampNeg) 4 ∧ (¬ v 42 0 k_.toNatClampNeg = 4 → vp_in (v 42 0 k_.toNatClampNeg) 4) ∧ (v 42 0 k_.toNatClampNeg = 4 → ¬ v 40 0 k_.toNatClampNeg = 8 → vp_in (v 41 0 k_.toNatClampNeg) 4)) ∧ (∀ b, b < 4 → v 34 0 b = 2 → vp_in (v 35 0 b) 4) ∧ (∀ c, c < 4 → v 27 0 c = 1 → vp_in (v 26 0 c) 16)
theorem hi_m64 {v : hd_V} (h : hx_mm 5 v) : (v 20 0 17).toInt ≤ 64 := by have := h.2; omega
/-- what an invariant must do -/
def hi_Ok (n : Nat) (I : Nat → hd_V → Prop) : Prop :=
  (∀ t v, I t v → hi_S n v) ∧ (∀ t v, I t v → hi_T v) ∧
  (∀ t v (a b c : Int32), t < 512 → I t v → hi_T (f_HD_code n a b c v).2 ∧ (f_HD_code n a b c v).1 = (f_Mod_code a b c (f_HD_code n a b c v).2).1 ∧ I (t + 1) (f_Mod_code a b c (f_HD_code n a b c v).2).2) ∧
  (∀ t v (a b : Int32), t < 512 → I t v → hi_T (f_HD_go n a b v).2 ∧ (f_HD_go n a b v).1 = (f_Mod_go a b (f_HD_go n a b v).2).1 ∧ I (t + 1) (f_Mod_go a b (f_HD_go n a b v).2).2) ∧
  (∀ t v (a : Int32), t < 512 → I t v → hi_T (f_HD_step n a v).2 ∧ (f_HD_step n a v).1 = (f_Mod_step a (f_HD_step n a v).2).1 ∧ I (t + 1) (f_Mod_step a (f_HD_step n a v).2).2) ∧
  (∀ t v (a : Int32), t < 512 → I t v → hi_T (f_HD_deliver n a v).2 ∧ (f_HD_deliver n a v).1 = (f_Mod_deliver a (f_HD_deliver n a v).2).1 ∧ I (t + 1) (f_Mod_deliver a (f_HD_deliver n a v).2).2) ∧
  (∀ t v, I t v → f_HD_messages v = f_Mod_messages v) ∧
  (∀ t v (a b : Int32), I t v → f_HD_message a b v = f_Mod_message a b v) ∧
  (∀ t v (a b : Int32), I t v → f_HD_line n a b v = f_Mod_line a b v) ∧
  (∀ t v (a b : Int32), I t v → f_HD_word n a b v = f_Mod_word a b v) ∧
  (∀ t v (a : Int32), I t v → f_HD_home a v = f_Mod_home a v) ∧
  (∀ t v (a : Int32), I t v → f_HD_memory a v = f_Mod_memory a v) ∧
  (∀ t v (a : Int32), I t v → f_HD_accumulator n a v = f_Mod_accumulator a v) ∧
  (∀ t v (a : Int32), I t v → f_HD_place n a v = f_Mod_place a v) ∧
  (∀ t v, I t v → f_HD_sent v = f_Mod_sent v) ∧
  (∀ t v, I t v → f_HD_performed n v = f_Mod_performed v) ∧
  (∀ t v, I t v → I (t + 1) v)
