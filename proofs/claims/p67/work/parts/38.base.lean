/-! the class's heap; small facts -/
abbrev hk_E0 : hk_E := hk_EE 221 220
theorem hE2 : hk_Sh 221 hk_E0 := hk_Sh_all
theorem k_10 : ((1 : Int32) = 0) = False := by decide
theorem k_20 : ((2 : Int32) = 0) = False := by decide
theorem k_30 : ((3 : Int32) = 0) = False := by decide
theorem k_01 : ((0 : Int32) = 1) = False := by decide
theorem k_m0 : ((-1 : Int32) = 0) = False := by decide
theorem k_0m : ((0 : Int32) = -1) = False := by decide
theorem k_1m : ((1 : Int32) = -1) = False := by decide
theorem lg_cmp_self (x : Int64) : lg_cmp x x = 0 := by
  unfold lg_cmp
  rw [if_neg (Int64.lt_irrefl), if_pos rfl]
theorem k_in {t : Nat} {y : Int32} (ht : t < 2 ^ 31) (hn : nI t < y) : 0 ≤ nI t ∧ nI t < y := ⟨nI_pos' ht, hn⟩
