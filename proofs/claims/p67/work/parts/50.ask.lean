/-! the class's questions -/
def hk_B (S : hk_S) (w : Nat → Int32) : Prop := hk_lf S 1 w ∧ a_ok w
theorem k_rq {E : hk_E} {F : Nat} {S : hk_S} {x lo hi : Int32} (h0 : lo ≤ x) (h1 : x ≤ hi) : mX11_requireRange E F S x lo hi = some S := by
  unfold mX11_requireRange
  rw [if_neg (by grind), if_pos h1]
theorem k_rf0 {E : hk_E} {F : Nat} {S : hk_S} : mX11_refuseIf E F S 0 = some S := rfl
theorem q_exT {F t : Nat} {S : hk_S} {w : Nat → Int32} (h : hk_B S w) (ht : t < 8) (hn : nI t < w 9) : mX11_existingTrough hk_E0 F S 0 (nI t) = some (1 + 5 + t, S) := by
  have h9 : S 1 2 = w 9 := h.1.2.1.1
  have hL := hk_L1 hE2
  unfold mX11_existingTrough
  rw [rE_0_0 hE2, Option.bind_some, if_pos hL.1, pX5_hasTrough, Option.bind_some, h9, if_pos (k_in (by omega) hn)]
  dsimp only
  rw [if_pos (by decide), pX5_troughAt hL, Option.bind_some]
  dsimp only
  rw [k_tn_nI ht, if_pos (hk_L_t hL ht)]
theorem q_exP {F t : Nat} {S : hk_S} {w : Nat → Int32} (h : hk_B S w) (ht : t < 6) (hn : nI t < w 10) : mX11_existingProbe hk_E0 F S 0 (nI t) = some (1 + 13 + t, S) := by
  have h9 : S 1 4 = w 10 := h.1.2.1.2.1
  have hL := hk_L1 hE2
  unfold mX11_existingProbe
  rw [rE_0_0 hE2, Option.bind_some, if_pos hL.1, pX5_hasProbe, Option.bind_some, h9, if_pos (k_in (by omega) hn)]
  dsimp only
  rw [if_pos (by decide), pX5_probeAt hL, Option.bind_some]
  dsimp only
  rw [k_pn_nI ht, if_pos (hk_L_p hL ht)]
theorem q_capacity {F t : Nat} {S : hk_S} {w : Nat → Int32} (h : hk_B S w) (ht : t < 8) (hn : nI t < w 9) : mX11_capacity hk_E0 F S 0 (nI t) = some (a_t w t 0, S) := by
  unfold mX11_capacity
  rw [q_exT h ht hn, Option.bind_some]
  dsimp only
  rw [if_pos (hk_L_t (hk_L1 hE2) ht), (h.1.2.2.1 t ht).1]
theorem q_kilograms {F t : Nat} {S : hk_S} {w : Nat → Int32} (h : hk_B S w) (ht : t < 8) (hn : nI t < w 9) : mX11_kilograms hk_E0 F S 0 (nI t) = some (a_t w t 3, S) := by
  unfold mX11_kilograms
  rw [q_exT h ht hn, Option.bind_some]
  dsimp only
  rw [if_pos (hk_L_t (hk_L1 hE2) ht), (h.1.2.2.1 t ht).2.2.2.1]
theorem q_fill {F t : Nat} {S : hk_S} {w : Nat → Int32} (h : hk_B S w) (ht : t < 8) (hn : nI t < w 9) : mX11_fill hk_E0 F S 0 (nI t) = some (t_fill (a_t w t), S) := by
  unfold mX11_fill
  rw [q_exT h ht hn, Option.bind_some]
  dsimp only
  rw [if_pos (hk_L_t (hk_L1 hE2) ht), (h.1.2.2.1 t ht).2.2.2.2.1]
theorem q_speed {F t : Nat} {S : hk_S} {w : Nat → Int32} (h : hk_B S w) (ht : t < 8) (hn : nI t < w 9) : mX11_speed hk_E0 F S 0 (nI t) = some (a_t w t 1, S) := by
  unfold mX11_speed
  rw [q_exT h ht hn, Option.bind_some]
  dsimp only
  rw [if_pos (hk_L_t (hk_L1 hE2) ht), (h.1.2.2.1 t ht).2.1]
theorem q_weight {F t : Nat} {S : hk_S} {w : Nat → Int32} (h : hk_B S w) (ht : t < 8) (hn : nI t < w 9) : mX11_weight hk_E0 F S 0 (nI t) = some (a_t w t 8, S) := by
  unfold mX11_weight
  rw [q_exT h ht hn, Option.bind_some]
  dsimp only
  rw [if_pos (hk_L_t (hk_L1 hE2) ht), (h.1.2.2.1 t ht).2.2.2.2.2.1]
theorem q_isUpwards {F t : Nat} {S : hk_S} {w : Nat → Int32} (h : hk_B S w) (ht : t < 8) (hn : nI t < w 9) : mX11_isUpwards hk_E0 F S 0 (nI t) = some (if a_t w t 2 = 0 then 1 else 0, S) := by
  unfold mX11_isUpwards
  rw [q_exT h ht hn, Option.bind_some]
  dsimp only
  rw [if_pos (hk_L_t (hk_L1 hE2) ht)]
  simp only [(h.1.2.2.1 t ht).2.2.1]
  by_cases q : a_t w t 2 = 0
  · simp [q]
  · simp [q]
theorem q_moisture0 {F t : Nat} {S : hk_S} {w : Nat → Int32} (h : hk_B S w) (ht : t < 8) (hn : nI t < w 9) : mX11_moisture hk_E0 F S 0 (nI t) 0 = some (if a_t w t 3 = 0 then -1 else a_t w t 4, S) := by
  have htr := h.1.2.2.1 t ht
  unfold mX11_moisture
  rw [q_exT h ht hn, Option.bind_some]
  dsimp only
  rw [if_pos (hk_L_t (hk_L1 hE2) ht), k_rq (by decide) (by decide), Option.bind_some, pX10_hasLeaf htr (k_leaf0 h.2 ht), Option.bind_some]
  by_cases hv : a_t w t 3 = 0
  · simp only [hv, if_true]
  · simp only [hv, if_false, k_10]
    unfold mX10_moistureOf
    simp only [htr.2.2.2.2.2.2.1, not_true_eq_false, if_false, if_true, Option.bind_some]
theorem q_moisture1 {F t : Nat} {S : hk_S} {w : Nat → Int32} (h : hk_B S w) (ht : t < 8) (hn : nI t < w 9) : mX11_moisture hk_E0 F S 0 (nI t) 1 = some (if a_t w t 3 = 0 then -1 else a_t w t 5, S) := by
  have htr := h.1.2.2.1 t ht
  unfold mX11_moisture
  rw [q_exT h ht hn, Option.bind_some]
  dsimp only
  rw [if_pos (hk_L_t (hk_L1 hE2) ht), k_rq (by decide) (by decide), Option.bind_some, pX10_hasLeaf htr (k_leaf0 h.2 ht), Option.bind_some]
  by_cases hv : a_t w t 3 = 0
  · simp only [hv, if_true]
  · simp only [hv, if_false, k_10]
    unfold mX10_moistureOf
    simp only [htr.2.2.2.2.2.2.2.1, k_10, not_false_eq_true, if_false, if_true, Option.bind_some]
theorem q_spread {F t : Nat} {S : hk_S} {w : Nat → Int32} (h : hk_B S w) (ht : t < 8) (hn : nI t < w 9) : mX11_spread hk_E0 F S 0 (nI t) = some (if a_t w t 3 = 0 then -1 else t_gap (a_t w t), S) := by
  have htr := h.1.2.2.1 t ht
  unfold mX11_spread
  rw [q_exT h ht hn, Option.bind_some]
  dsimp only
  rw [if_pos (hk_L_t (hk_L1 hE2) ht), pX10_hasLeaf htr (k_leaf0 h.2 ht), Option.bind_some]
  by_cases hv : a_t w t 3 = 0
  · simp only [hv, if_true]
  · simp only [hv, if_false, k_10]
    rw [pX10_gap htr, Option.bind_some]
theorem q_warmth {F t : Nat} {S : hk_S} {w : Nat → Int32} (h : hk_B S w) (ht : t < 8) (hn : nI t < w 9) : mX11_warmth hk_E0 F S 0 (nI t) = some (if a_t w t 3 = 0 then -1 else a_t w t 6, S) := by
  have htr := h.1.2.2.1 t ht
  unfold mX11_warmth
  rw [q_exT h ht hn, Option.bind_some]
  dsimp only
  rw [if_pos (hk_L_t (hk_L1 hE2) ht), pX10_hasLeaf htr (k_leaf0 h.2 ht), Option.bind_some]
  by_cases hv : a_t w t 3 = 0
  · simp only [hv, if_true]
  · simp only [hv, if_false, k_10]
    rw [htr.2.2.2.2.2.2.2.2.1]
theorem q_damage {F t : Nat} {S : hk_S} {w : Nat → Int32} (h : hk_B S w) (ht : t < 8) (hn : nI t < w 9) : mX11_damage hk_E0 F S 0 (nI t) = some (if a_t w t 3 = 0 then -1 else a_t w t 7, S) := by
  have htr := h.1.2.2.1 t ht
  unfold mX11_damage
  rw [q_exT h ht hn, Option.bind_some]
  dsimp only
  rw [if_pos (hk_L_t (hk_L1 hE2) ht), pX10_hasLeaf htr (k_leaf0 h.2 ht), Option.bind_some]
  by_cases hv : a_t w t 3 = 0
  · simp only [hv, if_true]
  · simp only [hv, if_false, k_10]
    rw [htr.2.2.2.2.2.2.2.2.2]
theorem q_marks {F t : Nat} {S : hk_S} {w : Nat → Int32} (h : hk_B S w) (ht : t < 8) (hn : nI t < w 9) : mX11_marks hk_E0 F S 0 (nI t) = some (if a_t w t 3 = 0 then -1 else t_mark (a_t w t), S) := by
  have htr := h.1.2.2.1 t ht
  unfold mX11_marks
  rw [q_exT h ht hn, Option.bind_some]
  dsimp only
  rw [if_pos (hk_L_t (hk_L1 hE2) ht), pX10_hasLeaf htr (k_leaf0 h.2 ht), Option.bind_some]
  by_cases hv : a_t w t 3 = 0
  · simp only [hv, if_true]
  · simp only [hv, if_false, k_10]
    rw [pX10_quality htr, Option.bind_some]
theorem q_why {F t : Nat} {S : hk_S} {w : Nat → Int32} (h : hk_B S w) (ht : t < 8) (hn : nI t < w 9) : mX11_whyNoDischarge hk_E0 F S 0 (nI t) = some (t_why w (a_t w t), S) := by
  have hL := hk_L1 hE2
  unfold mX11_whyNoDischarge
  rw [rE_0_0 hE2, Option.bind_some, if_pos hL.1, q_exT h ht hn, Option.bind_some]
  dsimp only
  rw [if_pos (hk_L_t hL ht), pX5_refusalOf h.1.2.1 (h.1.2.2.1 t ht) (k_leaf0 h.2 ht), Option.bind_some]
theorem q_troughCount {F : Nat} {S : hk_S} {w : Nat → Int32} (h : hk_B S w) : mX11_troughCount hk_E0 F S 0 = some (w 9, S) := by
  unfold mX11_troughCount
  rw [rE_0_0 hE2, Option.bind_some, if_pos (hk_L1 hE2).1, h.1.2.1.1]
theorem q_probeCount {F : Nat} {S : hk_S} {w : Nat → Int32} (h : hk_B S w) : mX11_probeCount hk_E0 F S 0 = some (w 10, S) := by
  unfold mX11_probeCount
  rw [rE_0_0 hE2, Option.bind_some, if_pos (hk_L1 hE2).1, h.1.2.1.2.1]
theorem q_dischargedKilograms {F : Nat} {S : hk_S} {w : Nat → Int32} (h : hk_B S w) : mX11_dischargedKilograms hk_E0 F S 0 = some (w 12, S) := by
  unfold mX11_dischargedKilograms
  rw [rE_0_0 hE2, Option.bind_some, if_pos (hk_L1 hE2).1, h.1.2.1.2.2.2.2.2.1]
theorem q_discardedKilograms {F : Nat} {S : hk_S} {w : Nat → Int32} (h : hk_B S w) : mX11_discardedKilograms hk_E0 F S 0 = some (w 13, S) := by
  unfold mX11_discardedKilograms
  rw [rE_0_0 hE2, Option.bind_some, if_pos (hk_L1 hE2).1, h.1.2.1.2.2.2.2.2.2.1]
theorem q_totalWorth {F : Nat} {S : hk_S} {w : Nat → Int32} (h : hk_B S w) : mX11_totalWorth hk_E0 F S 0 = some (w 14, S) := by
  unfold mX11_totalWorth
  rw [rE_0_0 hE2, Option.bind_some, if_pos (hk_L1 hE2).1, h.1.2.1.2.2.2.2.2.2.2.2.1]
theorem q_lostWater {F : Nat} {S : hk_S} {w : Nat → Int32} (h : hk_B S w) : mX11_lostWater hk_E0 F S 0 = some (w 15, S) := by
  unfold mX11_lostWater
  rw [rE_0_0 hE2, Option.bind_some, if_pos (hk_L1 hE2).1, h.1.2.1.2.2.2.2.2.2.2.2.2]
theorem q_ready {F : Nat} {S : hk_S} {w : Nat → Int32} (h : hk_B S w) (hF : 10 ≤ F) : mX11_readyTroughs hk_E0 F S 0 = some (k_rs (a_rd w) 8, S) := by
  have hL := hk_L1 hE2
  unfold mX11_readyTroughs
  rw [rE_0_0 hE2, Option.bind_some, if_pos hL.1, cX_set hF hL h.1.2.1 h.1.2.2.1 h.2, Option.bind_some]
theorem q_hour {F : Nat} {S : hk_S} {w : Nat → Int32} (h : hk_B S w) : mX11_hour hk_E0 F S 0 = some (w 0, S) := by
  have hL := hk_L1 hE2
  unfold mX11_hour
  rw [rE_0_0 hE2, Option.bind_some, if_pos hL.1, hL.2.2.2.2.2.2.2.1, Option.bind_some, if_pos hL.2.1, h.1.1.1]
theorem q_day {F : Nat} {S : hk_S} {w : Nat → Int32} (h : hk_B S w) : mX11_day hk_E0 F S 0 = some (w 0 / 24, S) := by
  have hL := hk_L1 hE2
  unfold mX11_day mX1_presentDay
  rw [rE_0_0 hE2, Option.bind_some, if_pos hL.1, hL.2.2.2.2.2.2.2.1, Option.bind_some, if_pos hL.2.1, h.1.1.1, Option.bind_some]
theorem q_dryness {F : Nat} {S : hk_S} {w : Nat → Int32} (h : hk_B S w) (hF : 10 ≤ F) : mX11_dryness hk_E0 F S 0 = some (a_dry w (w 0), S) := by
  have hL := hk_L1 hE2
  have h0 := h.2.1
  unfold mX11_dryness
  rw [rE_0_0 hE2, Option.bind_some, if_pos hL.1, hL.2.2.2.2.2.2.2.1, Option.bind_some, if_pos hL.2.1, h.1.1.1, pX1_drynessOf hL (by omega) h0.1 (by generalize w 0 = x at *; grind) (a_mok_of h.2) h.1.1, Option.bind_some]
theorem q_toMonsoon {F : Nat} {S : hk_S} {w : Nat → Int32} (h : hk_B S w) (hF : 10 ≤ F) : mX11_hoursToMonsoon hk_E0 F S 0 = some (a_nm w 3 0 (-1), S) := by
  have hL := hk_L1 hE2
  unfold mX11_hoursToMonsoon
  rw [rE_0_0 hE2, Option.bind_some, if_pos hL.1, hL.2.2.2.2.2.2.2.1, Option.bind_some, if_pos hL.2.1, pX1_next hL (by omega) (a_mok_of h.2) h.1.1, Option.bind_some]
theorem q_undoCount {F : Nat} {S : hk_S} : mX11_undoCount hk_E0 F S 0 = some (S 39 2, S) := by
  unfold mX11_undoCount
  rw [rE_0_3 hE2, Option.bind_some, if_pos (kE_39 hE2)]
theorem q_probeTrough {F q : Nat} {S : hk_S} {w : Nat → Int32} (h : hk_B S w) (hq : q < 6) (hn : nI q < w 10) : mX11_probeTrough hk_E0 F S 0 (nI q) = some (a_p w q 0, S) := by
  unfold mX11_probeTrough
  rw [q_exP h hq hn, Option.bind_some]
  dsimp only
  rw [if_pos (hk_L_p (hk_L1 hE2) hq), (h.1.2.2.2 q hq hn).1]
theorem q_probeLayer {F q : Nat} {S : hk_S} {w : Nat → Int32} (h : hk_B S w) (hq : q < 6) (hn : nI q < w 10) : mX11_probeLayer hk_E0 F S 0 (nI q) = some (a_p w q 1, S) := by
  unfold mX11_probeLayer
  rw [q_exP h hq hn, Option.bind_some]
  dsimp only
  rw [if_pos (hk_L_p (hk_L1 hE2) hq), (h.1.2.2.2 q hq hn).2.1]
def a_rdg (w : Nat → Int32) (q : Nat) : Int32 := if a_t w (k_tn (a_p w q 0)) 3 = 0 then -1 else (if a_p w q 1 = 0 then a_t w (k_tn (a_p w q 0)) 4 else a_t w (k_tn (a_p w q 0)) 5) + a_p w q 2
theorem q_reading {F q : Nat} {S : hk_S} {w : Nat → Int32} (h : hk_B S w) (hq : q < 6) (hn : nI q < w 10) : mX11_reading hk_E0 F S 0 (nI q) = some (a_rdg w q, S) := by
  have hL := hk_L1 hE2
  obtain ⟨p0, p1, p2⟩ := h.1.2.2.2 q hq hn
  have hk := k_tn_lt (a_p w q 0)
  have htr := h.1.2.2.1 (k_tn (a_p w q 0)) hk
  have h0 := k_leaf0 h.2 hk
  unfold mX11_reading mX5_readingOf a_rdg
  rw [rE_0_0 hE2, Option.bind_some, if_pos hL.1, q_exP h hq hn, Option.bind_some]
  dsimp only
  rw [if_pos (hk_L_p hL hq), p0, pX5_troughAt hL, Option.bind_some]
  dsimp only
  rw [if_pos (hk_L_t hL hk), pX10_hasLeaf htr h0, Option.bind_some]
  generalize k_tn (a_p w q 0) = t at *
  by_cases hv : a_t w t 3 = 0
  · simp only [hv, if_true, Option.bind_some]
  · simp only [hv, if_false, k_10, p1, p2]
    unfold mX10_moistureOf
    by_cases hl : a_p w q 1 = 0
    · simp only [hl, htr.2.2.2.2.2.2.1, not_true_eq_false, if_false, if_true, Option.bind_some, p2]
    · simp only [hl, htr.2.2.2.2.2.2.2.1, not_false_eq_true, if_false, if_true, Option.bind_some, p2]
theorem k_abs0 {E : hk_E} {F : Nat} {S : hk_S} : mJ9_abs_0f7a4 E F S 0 = some (0, S) := by
  rw [pJ9_abs]
  simp
theorem q_viol {F : Nat} {S : hk_S} {w : Nat → Int32} (h : hk_B S w) (hF : 10 ≤ F) (hv1 : w 11 - (w 12 + w 13 + k_sm (fun t => a_t w t 3) 8) = 0) (hv2 : w 11 * 2000 - (w 16 + w 15 + k_sm (fun t => a_t w t 8) 8) = 0) : mX11_violations hk_E0 F S 0 = some (0, S) := by
  have hL := hk_L1 hE2
  obtain ⟨n1, n2, n3, n4, n5, n6, n7, n8, n9, n10⟩ := h.1.2.1
  unfold mX11_violations mX5_countViolations
  rw [rE_0_0 hE2, Option.bind_some, if_pos hL.1, hk_let_eq, hk_let_eq, n6, n7, n8, n10]
  have hc : ∀ K : hk_S → Int32 → Int32 → Int32 → Int32 → Option (Int32 × hk_S), mX5_countViolations_25 hk_E0 F 1 K F S (w 12 + w 13) (w 16 + w 15) 0 (nI 0) = K S (w 12 + w 13 + k_sm (fun t => a_t w t 3) 8) (w 16 + w 15 + k_sm (fun t => a_t w t 8) 8) 0 (nI 8) := fun K => by
    have := cX_vi_25 (F := F) (K := K) (x := w 12 + w 13) (y := w 16 + w 15) hL h.1.2.2.1 h.2 8 0 F (by omega) (by omega)
    rw [show k_sm (fun t => a_t w t 3) 0 = 0 from rfl, show k_sm (fun t => a_t w t 8) 0 = 0 from rfl, Int32.add_zero, Int32.add_zero] at this
    exact this
  show Option.bind (mX5_countViolations_25 hk_E0 F 1 _ F S (w 12 + w 13) (w 16 + w 15) 0 (nI 0)) _ = _
  rw [hc]
  simp only [hk_let_eq, n5, hv1, hv2, k_abs0, Option.bind_some, Int32.add_zero]
