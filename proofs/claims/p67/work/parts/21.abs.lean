/-! the state as the model keeps it: a row of numbers; a trough as nine of them -/
def a_lo (x : Int32) : Int32 := if 300 ≤ x then x else 300
def t_fill (v : Nat → Int32) : Int32 := v 3 * 100 / v 0
def t_loss (v : Nat → Int32) (d : Int32) : Int32 := if v 3 = 0 then 0 else v 1 * d * 60 / (100 + t_fill v)
def t_low (v : Nat → Int32) (d : Int32) : Int32 := if 0 < v 1 then a_lo (v 4 - (if v 2 = 1 then t_loss v d / 2 else t_loss v d)) else v 4
def t_high (v : Nat → Int32) (d : Int32) : Int32 := if 0 < v 1 then a_lo (v 5 - (if v 2 = 1 then t_loss v d else t_loss v d / 2)) else v 5
def t_water (v : Nat → Int32) (d : Int32) : Int32 := if v 3 = 0 then 0 else (v 4 + v 5 - t_low v d - t_high v d) * v 3
def t_warm (v : Nat → Int32) : Int32 := if 0 < v 1 then (if v 6 < v 1 then 0 else v 6 - v 1) else (if v 6 < 20 then v 6 + 1 else v 6)
def t_pass (v : Nat → Int32) (d : Int32) : Nat → Int32 := fun j => if v 3 = 0 then v j else if j = 4 then t_low v d else if j = 5 then t_high v d else if j = 6 then t_warm v else if j = 7 then v 7 + (if 10 ≤ t_warm v then 1 else 0) else if j = 8 then v 8 - t_water v d else v j
/-- a trough of the class keeps v -/
def hk_tr (u v : Nat → Int32) : Prop := u 0 = v 0 ∧ u 1 = v 1 ∧ u 2 = (if v 2 = 0 then 1 else 0) ∧ u 3 = v 3 ∧ u 4 = t_fill v ∧ u 5 = v 8 ∧ u 6 = v 4 ∧ u 7 = v 5 ∧ u 8 = v 6 ∧ u 9 = v 7
/-- what a trough keeps to -/
def t_ok (v : Nat → Int32) : Prop := (v 2 = 0 ∨ v 2 = 1) ∧ (0 ≤ v 0 ∧ v 0 ≤ 500) ∧ (0 ≤ v 1 ∧ v 1 ≤ 5) ∧ (0 ≤ v 3 ∧ v 3 ≤ v 0) ∧ (v 3 = 0 → v 4 = 0 ∧ v 5 = 0 ∧ v 6 = 0 ∧ v 7 = 0 ∧ v 8 = 0) ∧ (0 < v 3 → (300 ≤ v 4 ∧ v 4 ≤ 900) ∧ (300 ≤ v 5 ∧ v 5 ≤ 900) ∧ (0 ≤ v 6 ∧ v 6 ≤ 20))
theorem k_div {x y : Int32} (h : 0 ≤ x) (h2 : 0 < y) : (x / y).toInt = x.toInt / y.toInt := by
  rw [Int32.toInt_div]
  have hx : 0 ≤ x.toInt := by rw [Int32.le_iff_toInt_le] at h; exact h
  have hy : 0 < y.toInt := by rw [Int32.lt_iff_toInt_lt] at h2; exact h2
  have hb : x.toInt < 2 ^ 31 := Int32.toInt_lt x
  rw [Int.tdiv_eq_ediv_of_nonneg hx]
  have h3 : 0 ≤ x.toInt / y.toInt := Int.ediv_nonneg hx (Int.le_of_lt hy)
  have h4 : x.toInt / y.toInt ≤ x.toInt := Int.ediv_le_self _ hx
  exact Int.bmod_eq_of_le (by omega) (by omega)
theorem t_fill_ok {v : Nat → Int32} (h : t_ok v) : 0 ≤ t_fill v ∧ t_fill v ≤ 100 := by
  obtain ⟨-, ⟨a0, a1⟩, -, ⟨b0, b1⟩, -⟩ := h
  unfold t_fill
  generalize v 0 = c at *
  generalize v 3 = x at *
  by_cases hc : c = 0
  · subst hc
    have : x = 0 := by grind
    subst this
    decide
  · have hc2 : 0 < c := by grind
    have hx : 0 ≤ x * 100 := by grind
    have e := k_div hx hc2
    have hx100 : (x * 100).toInt = x.toInt * 100 := by
      rw [Int32.le_iff_toInt_le] at a1 b0 b1
      rw [Int32.toInt_mul]
      have h1 : (100 : Int32).toInt = 100 := by decide
      have h2 : (500 : Int32).toInt = 500 := by decide
      have h3 : (0 : Int32).toInt = 0 := by decide
      rw [h1]
      exact Int.bmod_eq_of_le (by omega) (by omega)
    rw [Int32.le_iff_toInt_le, Int32.le_iff_toInt_le, e, hx100]
    rw [Int32.le_iff_toInt_le] at a1 b0 b1
    rw [Int32.lt_iff_toInt_lt] at hc2
    have h1 : (100 : Int32).toInt = 100 := by decide
    have h3 : (0 : Int32).toInt = 0 := by decide
    rw [h1, h3]
    rw [h3] at b0 hc2
    refine ⟨Int.ediv_nonneg (by omega) (by omega), ?_⟩
    refine Int.ediv_le_of_le_mul hc2 ?_
    omega
