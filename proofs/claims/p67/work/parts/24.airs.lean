theorem k_row_ext {f g : Nat → Int32} (t : Nat) (h15 : f 15 = g 15) (hk : ∀ k, k < 9 → f (17 + 9 * t + k) = g (17 + 9 * t + k)) (ho : ∀ i, i ≠ 15 → (i < 17 + 9 * t ∨ 17 + 9 * t + 9 ≤ i) → f i = g i) : f = g := by
  funext i
  by_cases h1 : i = 15
  · rw [h1]; exact h15
  · by_cases h2 : i < 17 + 9 * t ∨ 17 + 9 * t + 9 ≤ i
    · exact ho i h1 h2
    · obtain ⟨k, hk1, rfl⟩ : ∃ k, k < 9 ∧ i = 17 + 9 * t + k := ⟨i - (17 + 9 * t), by omega, by omega⟩
      exact hk k hk1
/-- an hour of one trough, in the row -/
def a_airs (w : Nat → Int32) (t : Nat) (d : Int32) : Nat → Int32 := fun i => if i = 15 then w 15 + t_water (a_t w t) d else if 17 + 9 * t ≤ i ∧ i < 17 + 9 * t + 9 then t_pass (a_t w t) d (i - (17 + 9 * t)) else w i
theorem a_airs_15 (w : Nat → Int32) (t : Nat) (d : Int32) : a_airs w t d 15 = w 15 + t_water (a_t w t) d := rfl
theorem a_airs_in (w : Nat → Int32) (t : Nat) (d : Int32) {k : Nat} (hk : k < 9) : a_airs w t d (17 + 9 * t + k) = t_pass (a_t w t) d k := by
  unfold a_airs
  rw [if_neg (by omega), if_pos (by omega), Nat.add_sub_cancel_left]
theorem a_airs_out (w : Nat → Int32) (t : Nat) (d : Int32) {i : Nat} (h1 : i ≠ 15) (h2 : i < 17 + 9 * t ∨ 17 + 9 * t + 9 ≤ i) : a_airs w t d i = w i := by
  unfold a_airs
  rw [if_neg h1, if_neg (by omega)]
theorem a_dries_15 (w : Nat → Int32) (t j : Nat) (x : Int32) : a_dries w t j x 15 = w 15 + (a_t w t j - a_lo (a_t w t j - x)) * a_t w t 3 := rfl
theorem a_dries_in (w : Nat → Int32) (t j : Nat) (x : Int32) (k : Nat) : a_dries w t j x (17 + 9 * t + k) = if k = j then a_lo (a_t w t j - x) else if k = 8 then a_t w t 8 - (a_t w t j - a_lo (a_t w t j - x)) * a_t w t 3 else a_t w t k := by
  unfold a_dries
  rw [if_neg (by omega)]
  by_cases h : k = j
  · subst h
    simp
  · rw [if_neg (by omega), if_neg h]
    by_cases h8 : k = 8
    · subst h8
      simp
    · rw [if_neg (by omega), if_neg h8]
      rfl
theorem a_dries_out (w : Nat → Int32) (t j : Nat) (x : Int32) {i : Nat} (hj : j < 9) (h1 : i ≠ 15) (h2 : i < 17 + 9 * t ∨ 17 + 9 * t + 9 ≤ i) : a_dries w t j x i = w i := by
  unfold a_dries
  rw [if_neg h1, if_neg (by omega), if_neg (by omega)]
theorem a_t_eq (w : Nat → Int32) (t k : Nat) : w (17 + 9 * t + k) = a_t w t k := rfl
theorem upd_in (w : Nat → Int32) (t k j : Nat) (x : Int32) : upd w (17 + 9 * t + j) x (17 + 9 * t + k) = if k = j then x else a_t w t k := by
  rw [upd_at]
  by_cases h : k = j
  · subst h
    simp
  · rw [if_neg (by omega), if_neg h]
    rfl
theorem upd_t (w : Nat → Int32) (t k j : Nat) (x : Int32) : a_t (upd w (17 + 9 * t + j) x) t k = if k = j then x else a_t w t k := upd_in w t k j x
theorem dries_t (w : Nat → Int32) (t k j : Nat) (x : Int32) : a_t (a_dries w t j x) t k = if k = j then a_lo (a_t w t j - x) else if k = 8 then a_t w t 8 - (a_t w t j - a_lo (a_t w t j - x)) * a_t w t 3 else a_t w t k := a_dries_in w t j x k
