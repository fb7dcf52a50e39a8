/-! Behind another forward on the same way -/
def hq_f (x : Int32) : Prop := ¬ x < 4 ∧ ¬ 7 < x
def hq_g (v : hd_V) (k j : Nat) : Prop := hq_f (v 40 0 j) ∧ v 43 0 j = v 43 0 k ∧ v 42 0 j = v 42 0 k
theorem bh_class (v : hd_V) (k : Nat) (hk : k < 32) (ht : ∀ j, j ≤ k → hq_c v (hq_s v j) = hq_m v j) : ∀ (f y : Nat), y ≤ k → k < f + y → (f_Net_isBehind_L18 (nI k) f (nI y) v = 0 ↔ ∀ j, y ≤ j → j < k → ¬ hq_g v k j) := by
  intro f
  induction f with
  | zero => intro y h1 h2; omega
  | succ f ih =>
    intro y hy hf
    unfold f_Net_isBehind_L18
    by_cases h : y = k
    · subst h
      rw [if_pos (nI_le (Nat.le_refl _) (by omega))]
      exact ⟨fun _ j h1 h2 => by omega, fun _ => rfl⟩
    · rw [if_neg (nI_ge (by omega) (by omega)), nI_1, nI_clamp (by omega), nI_clamp (by omega)]
      have t1 := ht y hy
      have t2 := ht k (Nat.le_refl _)
      unfold hq_c hq_m at t1 t2
      simp only [Prod.mk.injEq] at t1 t2
      have ih1 := ih (y + 1) (by omega) (by omega)
      have key : (¬ hq_g v k y) → ((f_Net_isBehind_L18 (nI k) f (nI (y + 1)) v = 0) ↔ ∀ j, y ≤ j → j < k → ¬ hq_g v k j) := by
        intro hn
        rw [ih1]
        constructor
        · intro z j h1 h2
          by_cases hj : j = y
          · subst hj; exact hn
          · exact z j (by omega) h2
        · intro z j h1 h2
          exact z j (by omega) h2
      unfold f_Msg_isForward f_Msg_hasWayOf
      unfold hq_s at t1 t2
      rw [t1.1, t1.2.2.2.1, t1.2.2.1, t2.2.2.2.1, t2.2.2.1]
      by_cases a1 : v 40 0 y < 4
      · rw [if_pos a1, if_pos rfl]
        exact key (fun z => z.1.1 a1)
      · rw [if_neg a1]
        by_cases a2 : 7 < v 40 0 y
        · rw [if_pos a2, if_pos rfl]
          exact key (fun z => z.1.2 a2)
        · rw [if_neg a2, if_neg (by decide)]
          by_cases a3 : v 43 0 y = v 43 0 k
          · rw [if_pos a3]
            by_cases a4 : v 42 0 y = v 42 0 k
            · rw [if_pos a4, if_neg (by decide)]
              exact ⟨fun z => absurd z (by decide), fun z => absurd ⟨⟨a1, a2⟩, a3, a4⟩ (z y (Nat.le_refl _) (by omega))⟩
            · rw [if_neg a4, if_pos rfl]
              exact key (fun z => a4 z.2.2)
          · rw [if_neg a3, if_pos rfl]
            exact key (fun z => a3 z.2.1)
theorem bh_mod (v : hd_V) (k : Nat) (hk : k < 64) : ∀ (f y : Nat), y ≤ k → k < f + y → (f_Mod_behind_L2 (nI k) f (nI y) v = 0 ↔ (hq_f (v 40 0 k) → ∀ j, y ≤ j → j < k → ¬ hq_g v k j)) := by
  intro f
  induction f with
  | zero => intro y h1 h2; omega
  | succ f ih =>
    intro y hy hf
    unfold f_Mod_behind_L2
    by_cases h : y = k
    · subst h
      rw [if_pos (nI_le (Nat.le_refl _) (by omega))]
      exact ⟨fun _ _ j h1 h2 => by omega, fun _ => rfl⟩
    · rw [if_neg (nI_ge (by omega) (by omega)), nI_1, nI_clamp (by omega), nI_clamp (by omega)]
      have ih1 := ih (y + 1) (by omega) (by omega)
      have key : (¬ hq_g v k y) → ((f_Mod_behind_L2 (nI k) f (nI (y + 1)) v = 0) ↔ (hq_f (v 40 0 k) → ∀ j, y ≤ j → j < k → ¬ hq_g v k j)) := by
        intro hn
        rw [ih1]
        constructor
        · intro z hf j h1 h2
          by_cases hj : j = y
          · subst hj; exact hn
          · exact z hf j (by omega) h2
        · intro z hf j h1 h2
          exact z hf j (by omega) h2
      by_cases a1 : v 40 0 y < 4
      · rw [if_pos a1]
        exact key (fun z => z.1.1 a1)
      · rw [if_neg a1]
        by_cases a2 : 7 < v 40 0 y
        · rw [if_pos a2]
          exact key (fun z => z.1.2 a2)
        · rw [if_neg a2]
          by_cases a3 : v 43 0 y = v 43 0 k
          · rw [if_pos a3]
            by_cases a4 : v 42 0 y = v 42 0 k
            · rw [if_pos a4]
              by_cases b1 : v 40 0 k < 4
              · rw [if_pos b1]
                exact ⟨fun _ z => absurd b1 z.1, fun _ => rfl⟩
              · rw [if_neg b1]
                by_cases b2 : 7 < v 40 0 k
                · rw [if_pos b2]
                  exact ⟨fun _ z => absurd b2 z.2, fun _ => rfl⟩
                · rw [if_neg b2]
                  exact ⟨fun z => absurd z (by decide), fun z => absurd ⟨⟨a1, a2⟩, a3, a4⟩ (z ⟨b1, b2⟩ y (Nat.le_refl _) (by omega))⟩
            · rw [if_neg a4]
              exact key (fun z => a4 z.2.2)
          · rw [if_neg a3]
            exact key (fun z => a3 z.2.1)
/-- both say the same of 'behind' -/
theorem bh_eq {u v : hd_V} {q : List hq_M} (hC : hq_C u q) (hR : hq_R v q) (he : ∀ k, 40 ≤ k → k ≤ 46 → u k = v k) {k : Nat} (hk : k < q.length) : (f_Net_isBehind (nI k) u = 0 ↔ (hq_f (v 40 0 k) → ∀ j, j < k → ¬ hq_g v k j)) ∧ (f_Mod_behind (nI k) v = 0 ↔ (hq_f (v 40 0 k) → ∀ j, j < k → ¬ hq_g v k j)) := by
  have hm : ∀ j, hq_m u j = hq_m v j := fun j => by
    unfold hq_m
    rw [he 40 (by decide) (by decide), he 41 (by decide) (by decide), he 42 (by decide) (by decide), he 43 (by decide) (by decide), he 44 (by decide) (by decide), he 45 (by decide) (by decide), he 46 (by decide) (by decide)]
  have ht : ∀ j, j < q.length → hq_c u (hq_s u j) = hq_m u j := fun j hj => by
    rw [hC.2.2.2.2 j q[j] (List.getElem?_eq_getElem hj), hm, hR.2.2 j q[j] (List.getElem?_eq_getElem hj)]
  have h32 := hC.2.1
  have hg : ∀ j, hq_g u k j ↔ hq_g v k j := fun j => by
    unfold hq_g
    rw [he 40 (by decide) (by decide), he 42 (by decide) (by decide), he 43 (by decide) (by decide)]
  have e40 : u 40 = v 40 := he 40 (by decide) (by decide)
  constructor
  · have h1 := bh_class u k (by omega) (fun j hj => ht j (by omega)) 33 0 (by omega) (by omega)
    have t := ht k hk
    unfold hq_c hq_m hq_s at t
    simp only [Prod.mk.injEq] at t
    unfold f_Net_isBehind f_Msg_isForward
    rw [nI_clamp (by omega), t.1, e40]
    by_cases a1 : v 40 0 k < 4
    · rw [if_pos a1, if_pos rfl]
      exact ⟨fun _ z => absurd a1 z.1, fun _ => rfl⟩
    · rw [if_neg a1]
      by_cases a2 : 7 < v 40 0 k
      · rw [if_pos a2, if_pos rfl]
        exact ⟨fun _ z => absurd a2 z.2, fun _ => rfl⟩
      · rw [if_neg a2, if_neg (by decide)]
        refine h1.trans ⟨fun z _ j hj => fun w => z j (Nat.zero_le _) hj ((hg j).mpr w), fun z j _ hj => fun w => z ⟨a1, a2⟩ j hj ((hg j).mp w)⟩
  · have h1 := bh_mod v k (by omega) 65 0 (by omega) (by omega)
    unfold f_Mod_behind
    exact h1.trans ⟨fun z hf j hj => z hf j (Nat.zero_le _) hj, fun z hf j _ hj => z hf j hj⟩
