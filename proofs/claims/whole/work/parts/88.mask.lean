/-! The mask of the sharers -/
def hk_4 (a b c d : Bool) : Int32 := (if a = true then 1 else 0) + (if b = true then 2 else 0) + (if c = true then 4 else 0) + (if d = true then 8 else 0)
theorem hm_or4 : ∀ r, r < 4 → ∀ a b c d : Bool, hk_4 a b c d ||| f_Home_bit (nI r) = hk_4 (if 0 = r then true else a) (if 1 = r then true else b) (if 2 = r then true else c) (if 3 = r then true else d) := by decide
theorem hm_and4 : ∀ r, r < 4 → ∀ a b c d : Bool, hk_4 a b c d &&& (f_Home_bit (nI r) ^^^ -1) = hk_4 (if 0 = r then false else a) (if 1 = r then false else b) (if 2 = r then false else c) (if 3 = r then false else d) := by decide
theorem hm_or (f : Nat → Bool) {r : Nat} (hr : r < 4) : hk_m f ||| f_Home_bit (nI r) = hk_m (pr_up f r true) := hm_or4 r hr (f 0) (f 1) (f 2) (f 3)
theorem hm_or2 (f : Nat → Bool) {r o : Nat} (hr : r < 4) (ho : o < 4) : hk_m f ||| (f_Home_bit (nI r) ||| f_Home_bit (nI o)) = hk_m (pr_up (pr_up f r true) o true) := by
  rw [← hm_or _ ho, ← hm_or _ hr, Int32.or_assoc]
theorem hm_and (f : Nat → Bool) {r : Nat} (hr : r < 4) : hk_m f &&& (f_Home_bit (nI r) ^^^ -1) = hk_m (pr_up f r false) := hm_and4 r hr (f 0) (f 1) (f 2) (f 3)
theorem hm_bit4 : ∀ r, r < 4 → ∀ a b c d : Bool, (hk_4 a b c d &&& f_Home_bit (nI r)) = 0 ↔ (if r = 0 then a else if r = 1 then b else if r = 2 then c else d) = false := by decide
theorem hm_bit (f : Nat → Bool) {r : Nat} (hr : r < 4) : (hk_m f &&& f_Home_bit (nI r)) = 0 ↔ f r = false := by
  refine (hm_bit4 r hr (f 0) (f 1) (f 2) (f 3)).trans ?_
  rcases (show r = 0 ∨ r = 1 ∨ r = 2 ∨ r = 3 by omega) with z | z | z | z <;> subst z <;> exact Iff.rfl
theorem hm_0 (f : Nat → Bool) : hk_m f = 0 ↔ ∀ i, i < 4 → f i = false := by
  have e : (∀ i, i < 4 → f i = false) ↔ (f 0 = false ∧ f 1 = false ∧ f 2 = false ∧ f 3 = false) := by
    constructor
    · intro h; exact ⟨h 0 (by decide), h 1 (by decide), h 2 (by decide), h 3 (by decide)⟩
    · rintro ⟨a, b, c, d⟩ i hi
      rcases (show i = 0 ∨ i = 1 ∨ i = 2 ∨ i = 3 by omega) with z | z | z | z <;> subst z <;> assumption
  rw [e]
  unfold hk_m
  cases f 0 <;> cases f 1 <;> cases f 2 <;> cases f 3 <;> decide
/-- those among the four that have it -/
def hm_l (f : Nat → Bool) : List Nat := (if f 0 = true then [0] else []) ++ ((if f 1 = true then [1] else []) ++ ((if f 2 = true then [2] else []) ++ (if f 3 = true then [3] else [])))
theorem hm_len (f : Nat → Bool) : f_Int_bitCount (hk_m f) = nI (hm_l f).length := by
  unfold hk_m hm_l
  cases f 0 <;> cases f 1 <;> cases f 2 <;> cases f 3 <;> decide
theorem hm_nodup (f : Nat → Bool) : (hm_l f).Nodup := by
  unfold hm_l
  cases f 0 <;> cases f 1 <;> cases f 2 <;> cases f 3 <;> decide
theorem hm_mem (f : Nat → Bool) (i : Nat) : i ∈ hm_l f ↔ i < 4 ∧ f i = true := by
  unfold hm_l
  by_cases hi : i < 4
  · rcases (show i = 0 ∨ i = 1 ∨ i = 2 ∨ i = 3 by omega) with z | z | z | z <;> subst z <;> cases f 0 <;> cases f 1 <;> cases f 2 <;> cases f 3 <;> decide
  · have h0 : ¬ i = 0 := by omega
    have h1 : ¬ i = 1 := by omega
    have h2 : ¬ i = 2 := by omega
    have h3 : ¬ i = 3 := by omega
    cases f 0 <;> cases f 1 <;> cases f 2 <;> cases f 3 <;> simp [hi, h0, h1, h2, h3]
theorem hm_len4 (f : Nat → Bool) : (hm_l f).length ≤ 4 := by
  unfold hm_l
  cases f 0 <;> cases f 1 <;> cases f 2 <;> cases f 3 <;> decide
theorem hm_len3 (f : Nat → Bool) {r : Nat} (hr : r < 4) (h : f r = false) : (hm_l f).length ≤ 3 := by
  have key : ∀ a b c d : Bool, ((a && b && c && d) = false) → ((if a = true then [0] else []) ++ ((if b = true then [1] else []) ++ ((if c = true then [2] else []) ++ (if d = true then [3] else [])))).length ≤ 3 := by decide
  refine key (f 0) (f 1) (f 2) (f 3) ?_
  rcases (show r = 0 ∨ r = 1 ∨ r = 2 ∨ r = 3 by omega) with z | z | z | z <;> subst z <;> simp [h]
/-! Places in the reference's arrays -/
theorem ix4 {c b : Nat} (hc : c < 4) (hb : b < 4) : (4 * nI c + nI b).toNatClampNeg = 4 * c + b := by
  rcases (show c = 0 ∨ c = 1 ∨ c = 2 ∨ c = 3 by omega) with z | z | z | z <;> subst z <;> rcases (show b = 0 ∨ b = 1 ∨ b = 2 ∨ b = 3 by omega) with z | z | z | z <;> subst z <;> decide
theorem ix16 {c b : Nat} (hc : c < 4) (hb : b ≤ 16) : (16 * nI c + nI b).toNatClampNeg = 16 * c + b := by
  rcases (show c = 0 ∨ c = 1 ∨ c = 2 ∨ c = 3 by omega) with z | z | z | z <;> subst z <;> rcases (show b = 0 ∨ b = 1 ∨ b = 2 ∨ b = 3 ∨ b = 4 ∨ b = 5 ∨ b = 6 ∨ b = 7 ∨ b = 8 ∨ b = 9 ∨ b = 10 ∨ b = 11 ∨ b = 12 ∨ b = 13 ∨ b = 14 ∨ b = 15 ∨ b = 16 by omega) with z | z | z | z | z | z | z | z | z | z | z | z | z | z | z | z | z <;> subst z <;> decide
theorem ix1 {c : Nat} (hc : c < 4) : (nI c).toNatClampNeg = c := nI_clamp (by omega)
theorem nIe {a b : Nat} (ha : a < 100) (hb : b < 100) : nI a = nI b ↔ a = b := nI_eq (by omega) (by omega)
/-- the reference's count of the sharers -/
theorem sh_count {sh : Nat → Nat → Bool} {v : hd_V} {b : Nat} (hb : b < 4) (hg : ∀ c, c < 4 → v 36 0 (4 * b + c) = if sh b c = true then 1 else 0) : f_Mod_sharers (nI b) (-1) v = nI (hm_l (sh b)).length ∧ ∀ r, r < 4 → f_Mod_sharers (nI b) (nI r) v = nI (hm_l (pr_up (sh b) r false)).length := by
  have step : ∀ (x y3 : Int32) (k y : Nat), y < 4 → f_Mod_sharers_L5 (nI b) x (k + 1) y3 (nI y) v = f_Mod_sharers_L5 (nI b) x k (if sh b y = true ∧ ¬ nI y = x then y3 + 1 else y3) (nI (y + 1)) v := by
    intro x y3 k y hy
    conv => lhs; unfold f_Mod_sharers_L5
    dsimp only
    rw [if_neg (show ¬ (4 : Int32) ≤ nI y from nI_ge (a := y) (b := 4) hy (by decide)), ix4 hb hy, hg y hy, nI_1]
    by_cases z : sh b y = true
    · rw [if_pos z, if_neg (by decide)]
      by_cases w : nI y = x
      · rw [if_pos w, if_neg (fun q => q.2 w)]
      · rw [if_neg w, if_pos ⟨z, w⟩]
    · rw [if_neg z, if_pos rfl, if_neg (fun q => z q.1)]
  have last : ∀ (x y3 : Int32), f_Mod_sharers_L5 (nI b) x 1 y3 (nI 4) v = y3 := by
    intro x y3
    unfold f_Mod_sharers_L5
    exact if_pos (by decide)
  have key : ∀ x, f_Mod_sharers (nI b) x v = if sh b 3 = true ∧ ¬ nI 3 = x then (if sh b 2 = true ∧ ¬ nI 2 = x then (if sh b 1 = true ∧ ¬ nI 1 = x then (if sh b 0 = true ∧ ¬ nI 0 = x then 0 + 1 else 0) + 1 else (if sh b 0 = true ∧ ¬ nI 0 = x then 0 + 1 else 0)) + 1 else (if sh b 1 = true ∧ ¬ nI 1 = x then (if sh b 0 = true ∧ ¬ nI 0 = x then 0 + 1 else 0) + 1 else (if sh b 0 = true ∧ ¬ nI 0 = x then 0 + 1 else 0))) + 1 else (if sh b 2 = true ∧ ¬ nI 2 = x then (if sh b 1 = true ∧ ¬ nI 1 = x then (if sh b 0 = true ∧ ¬ nI 0 = x then 0 + 1 else 0) + 1 else (if sh b 0 = true ∧ ¬ nI 0 = x then 0 + 1 else 0)) + 1 else (if sh b 1 = true ∧ ¬ nI 1 = x then (if sh b 0 = true ∧ ¬ nI 0 = x then 0 + 1 else 0) + 1 else (if sh b 0 = true ∧ ¬ nI 0 = x then 0 + 1 else 0))) := by
    intro x
    show f_Mod_sharers_L5 (nI b) x 5 0 (nI 0) v = _
    rw [step x 0 4 0 (by decide), step x _ 3 1 (by decide), step x _ 2 2 (by decide), step x _ 1 3 (by decide), last]
  have fin : ∀ r, r < 4 → ∀ a b c d : Bool, (if d = true ∧ ¬ nI 3 = nI r then (if c = true ∧ ¬ nI 2 = nI r then (if b = true ∧ ¬ nI 1 = nI r then (if a = true ∧ ¬ nI 0 = nI r then (0 : Int32) + 1 else 0) + 1 else (if a = true ∧ ¬ nI 0 = nI r then 0 + 1 else 0)) + 1 else (if b = true ∧ ¬ nI 1 = nI r then (if a = true ∧ ¬ nI 0 = nI r then 0 + 1 else 0) + 1 else (if a = true ∧ ¬ nI 0 = nI r then 0 + 1 else 0))) + 1 else (if c = true ∧ ¬ nI 2 = nI r then (if b = true ∧ ¬ nI 1 = nI r then (if a = true ∧ ¬ nI 0 = nI r then 0 + 1 else 0) + 1 else (if a = true ∧ ¬ nI 0 = nI r then 0 + 1 else 0)) + 1 else (if b = true ∧ ¬ nI 1 = nI r then (if a = true ∧ ¬ nI 0 = nI r then 0 + 1 else 0) + 1 else (if a = true ∧ ¬ nI 0 = nI r then 0 + 1 else 0)))) = nI ((if (if 0 = r then false else a) = true then [0] else []) ++ ((if (if 1 = r then false else b) = true then [1] else []) ++ ((if (if 2 = r then false else c) = true then [2] else []) ++ (if (if 3 = r then false else d) = true then [3] else [])))).length := by decide
  have fin1 : ∀ a b c d : Bool, (if d = true ∧ ¬ nI 3 = -1 then (if c = true ∧ ¬ nI 2 = -1 then (if b = true ∧ ¬ nI 1 = -1 then (if a = true ∧ ¬ nI 0 = -1 then (0 : Int32) + 1 else 0) + 1 else (if a = true ∧ ¬ nI 0 = -1 then 0 + 1 else 0)) + 1 else (if b = true ∧ ¬ nI 1 = -1 then (if a = true ∧ ¬ nI 0 = -1 then 0 + 1 else 0) + 1 else (if a = true ∧ ¬ nI 0 = -1 then 0 + 1 else 0))) + 1 else (if c = true ∧ ¬ nI 2 = -1 then (if b = true ∧ ¬ nI 1 = -1 then (if a = true ∧ ¬ nI 0 = -1 then 0 + 1 else 0) + 1 else (if a = true ∧ ¬ nI 0 = -1 then 0 + 1 else 0)) + 1 else (if b = true ∧ ¬ nI 1 = -1 then (if a = true ∧ ¬ nI 0 = -1 then 0 + 1 else 0) + 1 else (if a = true ∧ ¬ nI 0 = -1 then 0 + 1 else 0)))) = nI ((if a = true then [0] else []) ++ ((if b = true then [1] else []) ++ ((if c = true then [2] else []) ++ (if d = true then [3] else [])))).length := by decide
  exact ⟨(key (-1)).trans (fin1 (sh b 0) (sh b 1) (sh b 2) (sh b 3)), fun r hr => (key (nI r)).trans (fin r hr (sh b 0) (sh b 1) (sh b 2) (sh b 3))⟩
