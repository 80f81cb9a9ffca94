/-! the model's own rows: every method is an operation on the row of numbers -/
theorem nI_mul (a b : Nat) : nI a * nI b = nI (a * b) := (Int32.ofNat_mul a b).symm
theorem k_idx (t j : Nat) : (17 : Int32) + 9 * nI t + nI j = nI (17 + 9 * t + j) := by
  show nI 17 + nI 9 * nI t + nI j = _
  rw [nI_mul, nI_add, nI_add]
theorem k_idp (t j : Nat) : (89 : Int32) + 3 * nI t + nI j = nI (89 + 3 * t + j) := by
  show nI 89 + nI 3 * nI t + nI j = _
  rw [nI_mul, nI_add, nI_add]
def a_t (w : Nat → Int32) (t : Nat) : Nat → Int32 := fun j => w (17 + 9 * t + j)
def a_p (w : Nat → Int32) (p : Nat) : Nat → Int32 := fun j => w (89 + 3 * p + j)
theorem k_upup (S : hk_S) (a : Nat) (I J : Nat → Int32) : va_up (va_up S a I) a J = va_up S a J := by
  funext b
  by_cases h : b = a
  · subst h; rw [va_up_self, va_up_self]
  · rw [va_up_ne _ _ h, va_up_ne _ _ h, va_up_ne _ _ h]
theorem k_up_same (S : hk_S) (a : Nat) : va_up S a (S a) = S := by
  funext b
  by_cases h : b = a
  · subst h; rw [va_up_self]
  · rw [va_up_ne _ _ h]
theorem k_hk_up (S : hk_S) (a k : Nat) (v : Int32) : hk_up S a k v = va_up S a (upd (S a) k v) := rfl
theorem upd_at (f : Nat → Int32) (k : Nat) (v : Int32) (j : Nat) : upd f k v j = if j = k then v else f j := rfl
theorem pJ9_max {E : hk_E} {F : Nat} {S : hk_S} {x y : Int32} : mJ9_max_7cf53 E F S x y = some (if x < y then y else x, S) := by
  unfold mJ9_max_7cf53
  by_cases h : x < y <;> simp [h]
def a_wetb (w : Nat → Int32) (h : Int32) : Bool := (List.range 3).any fun m => decide (nI m < w 5) && (decide (0 ≤ h / 24 - w (6 + m)) && decide (h / 24 - w (6 + m) ≤ 6))
def a_hum (w : Nat → Int32) (h : Int32) : Int32 := if a_wetb w h = true then 95 else w 2
def a_dry (w : Nat → Int32) (h : Int32) : Int32 := 100 - a_hum w h + 5 * w 1
/-- from the monsoon z on -/
def a_wetf (w : Nat → Int32) (h : Int32) (z : Nat) : Bool := (List.range 3).any fun m => decide (z ≤ m) && (decide (nI m < w 5) && (decide (0 ≤ h / 24 - w (6 + m)) && decide (h / 24 - w (6 + m) ≤ 6)))
theorem a_wetf0 (w : Nat → Int32) (h : Int32) : a_wetf w h 0 = a_wetb w h := by simp [a_wetf, a_wetb]
theorem a_wetf_end {w : Nat → Int32} {h : Int32} {z : Nat} (hz : w 5 ≤ nI z) (h3 : w 5 ≤ 3) (h0 : 0 ≤ w 5) : a_wetf w h z = false := by
  obtain ⟨n, hn, e⟩ := nI_of2 (M := 3) (n := 3) (by decide) (by grind) h3
  unfold a_wetf
  rw [e] at hz ⊢
  rw [Bool.eq_false_iff]
  intro hq
  obtain ⟨m, hm, hq⟩ := List.any_eq_true.mp hq
  have hm3 := List.mem_range.mp hm
  simp only [Bool.and_eq_true, decide_eq_true_eq] at hq
  have h1 := (nI_ltI (by omega) (by omega)).mp hq.2.1
  by_cases hzb : z < 2 ^ 31
  · have h2 := (nI_leI (by omega) hzb).mp hz
    omega
  · omega
theorem a_wetf_step {w : Nat → Int32} {h : Int32} {z : Nat} (hz : z < 3) (hn : nI z < w 5) : a_wetf w h z = ((decide (0 ≤ h / 24 - w (6 + z)) && decide (h / 24 - w (6 + z) ≤ 6)) || a_wetf w h (z + 1)) := by
  unfold a_wetf
  have hr : List.range 3 = [0, 1, 2] := by decide
  rw [hr]
  have : z = 0 ∨ z = 1 ∨ z = 2 := by omega
  rcases this with q | q | q <;> subst q <;> simp [hn]
/-- one layer dries -/
def a_dries (w : Nat → Int32) (t j : Nat) (x : Int32) : Nat → Int32 := fun i => if i = 15 then w 15 + (a_t w t j - a_lo (a_t w t j - x)) * a_t w t 3 else if i = 17 + 9 * t + j then a_lo (a_t w t j - x) else if i = 17 + 9 * t + 8 then a_t w t 8 - (a_t w t j - a_lo (a_t w t j - x)) * a_t w t 3 else w i
theorem pJ9_lo {E : hk_E} {F : Nat} {S : hk_S} {y : Int32} : mJ9_max_7cf53 E F S 300 y = some (a_lo y, S) := by
  rw [pJ9_max]
  unfold a_lo
  by_cases h : 300 ≤ y
  · by_cases h2 : (300 : Int32) < y
    · simp [h, h2]
    · have : y = 300 := by grind
      simp [this]
  · have : ¬ (300 : Int32) < y := by grind
    simp [h, this]
