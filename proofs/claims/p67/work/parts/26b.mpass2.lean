/-! the model passes hours, to the end -/
theorem a_tick_eq (w : Nat → Int32) : a_tick w = if (w 0 + 1) - (w 0 + 1) / 24 * 24 = 0 then a_drift (upd w 0 (w 0 + 1)) else upd w 0 (w 0 + 1) := rfl
theorem a_hour_eq {w : Nat → Int32} {n : Nat} (hn : w 9 = nI n) (hn8 : n ≤ 8) : a_hour w = a_tick (a_airsN (a_dry w (w 0)) n w) := by
  unfold a_hour
  rw [hn, nI_clamp (by omega)]
