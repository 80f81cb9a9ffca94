/-! the model passes hours -/
def a_driftf (w : Nat → Int32) (z : Nat) : Nat → Int32 := fun i => if (89 ≤ i ∧ i < 107) ∧ (i - 89) % 3 = 2 ∧ z ≤ (i - 89) / 3 ∧ nI ((i - 89) / 3) < w 10 then (if 50 ≤ w i + 1 then 50 else w i + 1) else w i
theorem a_driftf0 (w : Nat → Int32) : a_driftf w 0 = a_drift w := by
  funext i
  unfold a_driftf a_drift
  simp
theorem a_driftf_end {w : Nat → Int32} {z : Nat} (hz : w 10 ≤ nI z) (hz6 : z ≤ 6) : a_driftf w z = w := by
  funext i
  unfold a_driftf
  rw [if_neg]
  rintro ⟨h1, h2, h3, h4⟩
  have : nI z ≤ nI ((i - 89) / 3) := (nI_leI (by omega) (by omega)).mpr h3
  grind
theorem a_driftf_step {w : Nat → Int32} {z : Nat} (hz : z < 6) (hn : nI z < w 10) : a_driftf (upd w (89 + 3 * z + 2) (if 50 ≤ w (89 + 3 * z + 2) + 1 then 50 else w (89 + 3 * z + 2) + 1)) (z + 1) = a_driftf w z := by
  funext i
  unfold a_driftf
  rw [upd_at w _ _ 10, if_neg (show ¬ (10 = 89 + 3 * z + 2) by omega)]
  by_cases hi : i = 89 + 3 * z + 2
  · subst hi
    have e2 : (89 + 3 * z + 2 - 89) / 3 = z := by omega
    rw [if_neg (by omega), upd_at, if_pos rfl]
    rw [if_pos (show (89 ≤ 89 + 3 * z + 2 ∧ 89 + 3 * z + 2 < 107) ∧ (89 + 3 * z + 2 - 89) % 3 = 2 ∧ z ≤ (89 + 3 * z + 2 - 89) / 3 ∧ nI ((89 + 3 * z + 2 - 89) / 3) < w 10 by rw [e2]; exact ⟨by omega, by omega, by omega, hn⟩)]
  · rw [upd_at, if_neg hi]
    by_cases hc : (89 ≤ i ∧ i < 107) ∧ (i - 89) % 3 = 2 ∧ z ≤ (i - 89) / 3 ∧ nI ((i - 89) / 3) < w 10
    · rw [if_pos hc, if_pos ⟨hc.1, hc.2.1, by omega, hc.2.2.2⟩]
    · rw [if_neg hc, if_neg (fun q => hc ⟨q.1, q.2.1, by omega, q.2.2.2⟩)]
theorem a_dry_lo {w w2 : Nat → Int32} (h : ∀ i, 0 < i → i < 9 → w2 i = w i) (x : Int32) : a_dry w2 x = a_dry w x := by
  unfold a_dry a_hum a_wetb
  rw [h 1 (by omega) (by omega), h 2 (by omega) (by omega), h 5 (by omega) (by omega)]
  have : (fun m => decide (nI m < w 5) && (decide (0 ≤ x / 24 - w2 (6 + m)) && decide (x / 24 - w2 (6 + m) ≤ 6))) = (fun m => decide (nI m < w 5) && (decide (0 ≤ x / 24 - w2 (6 + m)) && decide (x / 24 - w2 (6 + m) ≤ 6))) := rfl
  have e : ((List.range 3).any fun m => decide (nI m < w 5) && (decide (0 ≤ x / 24 - w2 (6 + m)) && decide (x / 24 - w2 (6 + m) ≤ 6))) = ((List.range 3).any fun m => decide (nI m < w 5) && (decide (0 ≤ x / 24 - w (6 + m)) && decide (x / 24 - w (6 + m) ≤ 6))) := by
    have hr : List.range 3 = [0, 1, 2] := by decide
    rw [hr]
    simp only [List.any_cons, List.any_nil]
    rw [h 6 (by omega) (by omega), h 7 (by omega) (by omega), h 8 (by omega) (by omega)]
  rw [e]
theorem a_airsN_row (d : Int32) (w : Nat → Int32) (n : Nat) {i : Nat} (h : i < 15) : a_airsN d n w i = w i := a_airsN_lo d n w (by omega) (by omega)
theorem a_pass_ok (k : Nat) : ∀ {w : Nat → Int32}, a_ok w → k ≤ 2000 → w 0 ≤ 2000 - nI k → a_ok (a_pass k w) ∧ (a_pass k w) 0 = w 0 + nI k ∧ (a_pass k w) 9 = w 9 := by
  induction k with
  | zero =>
    intro w h h3 h4
    have e2 : w 0 + nI 0 = w 0 := by rw [nI_0, Int32.add_zero]
    rw [e2]
    exact ⟨h, rfl, rfl⟩
  | succ k ih =>
    intro w h h3 h4
    have hk1 : nI (k + 1) = nI k + 1 := nI_succ k
    have hk0 : 0 ≤ nI k := nI_pos' (by omega)
    have hk2 : nI k < 2000 := (nI_ltI (b := 2000) (by omega) (by omega)).mpr (by omega)
    have g0 := h.1.1
    rw [hk1] at h4
    have hlt : w 0 < 2000 := by clear ih h; generalize w 0 = x at *; generalize nI k = y at *; grind
    obtain ⟨q1, q2, q3⟩ := a_hour_ok h hlt
    have hnext : a_hour w 0 ≤ 2000 - nI k := by
      rw [q2]
      clear ih h q1 q2 q3
      generalize w 0 = x at *
      generalize nI k = y at *
      grind
    obtain ⟨r1, r2, r3⟩ := ih q1 (by omega) hnext
    refine ⟨r1, ?_, r3.trans q3⟩
    show (a_pass k (a_hour w)) 0 = _
    rw [r2, q2, hk1, Int32.add_assoc, Int32.add_comm 1]
