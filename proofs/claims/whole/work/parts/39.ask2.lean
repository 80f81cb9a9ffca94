/-! questions about the loft -/
theorem pX12_told {E : hk_E} {F : Nat} {S : hk_S} {k : Nat} (hE : hk_Sh 231 E) (hk : k < 107) : mX12_told E F S 221 (nI k) = some (S 222 k, hk_up S 221 15 0) := by
  unfold mX12_told
  rw [hk_let_eq, rE_221_0 hE, Option.bind_some, if_pos (kE_222 hE), lE_222 hE, if_pos (hk_okI hk (by omega)), nI_clamp (by omega), hk_upne _ _ _ (by decide)]
theorem mop_24_ok {F : Nat} {S : hk_S} {p1 p2 p3 p4 p5 : Int32} (hF : 2000000 ≤ F) (hI : hk_I S) : ∃ S', mop_24 F S p1 p2 p3 p4 p5 = some S' ∧ hk_I S' := by
  have hL := hk_L1 hE2
  have hA := hI.1.1
  have hN := hI.1.2.1
  have hc : mX11_hour hk_E0 F S 0 = some (S 222 0, S) := by
    unfold mX11_hour
    rw [rE_0_0 hE2, Option.bind_some, if_pos hL.1, hL.2.2.2.2.2.2.2.1, Option.bind_some, if_pos hL.2.1, hA.1]
  have hm : mX12_hour hk_E0 F S 221 = some (S 222 0, hk_up S 221 15 0) := by
    unfold mX12_hour
    rw [show mX12_told hk_E0 F S 221 0 = some (S 222 0, hk_up S 221 15 0) from pX12_told (k := 0) hE1 (by omega), Option.bind_some]
  exact ⟨_, k_mopP (m := fun S => mX12_hour hk_E0 F S 221) hc hm, hk_I_same hI (hk_same_thr _ _)⟩
theorem mop_25_ok {F : Nat} {S : hk_S} {p1 p2 p3 p4 p5 : Int32} (hF : 2000000 ≤ F) (hI : hk_I S) : ∃ S', mop_25 F S p1 p2 p3 p4 p5 = some S' ∧ hk_I S' := by
  have hL := hk_L1 hE2
  have hA := hI.1.1
  have hN := hI.1.2.1
  have hc : mX11_day hk_E0 F S 0 = some (S 222 0 / 24, S) := by
    unfold mX11_day
    rw [rE_0_0 hE2, Option.bind_some, if_pos hL.1, hL.2.2.2.2.2.2.2.1, Option.bind_some, if_pos hL.2.1]
    unfold mX1_presentDay
    rw [hA.1, Option.bind_some]
  have hm : mX12_day hk_E0 F S 221 = some (S 222 0 / 24, hk_up S 221 15 0) := by
    unfold mX12_day
    rw [show mX12_told hk_E0 F S 221 0 = some (S 222 0, hk_up S 221 15 0) from pX12_told (k := 0) hE1 (by omega), Option.bind_some]
  exact ⟨_, k_mopP (m := fun S => mX12_day hk_E0 F S 221) hc hm, hk_I_same hI (hk_same_thr _ _)⟩
theorem mop_27_ok {F : Nat} {S : hk_S} {p1 p2 p3 p4 p5 : Int32} (hF : 2000000 ≤ F) (hI : hk_I S) : ∃ S', mop_27 F S p1 p2 p3 p4 p5 = some S' ∧ hk_I S' := by
  have hL := hk_L1 hE2
  have hA := hI.1.1
  have hN := hI.1.2.1
  have hc : mX11_dryness hk_E0 F S 0 = some (a_dry (S 222) (S 222 0), S) := by
    unfold mX11_dryness
    rw [rE_0_0 hE2, Option.bind_some, if_pos hL.1, hL.2.2.2.2.2.2.2.1, Option.bind_some, if_pos hL.2.1, hA.1, pX1_drynessOf hL (by omega) hI.2.1.1.1 (by have := hI.2.1.1.2; generalize S 222 0 = x at *; grind) (a_mok_of hI.2.1) hA, Option.bind_some]
  have hm : mX12_dryness hk_E0 F S 221 = some (a_dry (S 222) (S 222 0), hk_up S 221 15 0) := by
    unfold mX12_dryness
    have h5 := hI.2.1.2.2.2.2.2.1
    have e : (hk_up S 221 15 0) 222 = S 222 := hk_upne _ _ _ (by decide)
    rw [hk_let_eq, rE_221_0 hE1, Option.bind_some, if_pos (kE_222 hE1), lE_222 hE1, if_pos (show hk_ok 0 107 by decide), pX12_dry hE1 (by omega) (by rw [e]; exact h5.1) (by rw [e]; exact h5.2), Option.bind_some, e]
  exact ⟨_, k_mopP (m := fun S => mX12_dryness hk_E0 F S 221) hc hm, hk_I_same hI (hk_same_thr _ _)⟩
theorem mop_28_ok {F : Nat} {S : hk_S} {p1 p2 p3 p4 p5 : Int32} (hF : 2000000 ≤ F) (hI : hk_I S) : ∃ S', mop_28 F S p1 p2 p3 p4 p5 = some S' ∧ hk_I S' := by
  have hL := hk_L1 hE2
  have hA := hI.1.1
  have hN := hI.1.2.1
  have hc : mX11_hoursToMonsoon hk_E0 F S 0 = some (a_nm (S 222) 3 0 (-1), S) := by
    unfold mX11_hoursToMonsoon
    rw [rE_0_0 hE2, Option.bind_some, if_pos hL.1, hL.2.2.2.2.2.2.2.1, Option.bind_some, if_pos hL.2.1, pX1_next hL (by omega) (a_mok_of hI.2.1) hA, Option.bind_some]
  have hm : mX12_hoursToMonsoon hk_E0 F S 221 = some (a_nm (S 222) 3 0 (-1), hk_up S 221 15 0) := by
    unfold mX12_hoursToMonsoon
    have e : (hk_up S 221 15 0) 222 = S 222 := hk_upne _ _ _ (by decide)
    rw [hk_let_eq]
    refine (pX12_nextM_9 (F := F) (S := hk_up S 221 15 0) hE1 (by rw [e]; exact a_mok_of hI.2.1) 3 0 F (-1) (by omega) (by omega)).trans ?_
    rw [e]
  exact ⟨_, k_mopP (m := fun S => mX12_hoursToMonsoon hk_E0 F S 221) hc hm, hk_I_same hI (hk_same_thr _ _)⟩
theorem mop_29_ok {F : Nat} {S : hk_S} {p1 p2 p3 p4 p5 : Int32} (hF : 2000000 ≤ F) (hI : hk_I S) : ∃ S', mop_29 F S p1 p2 p3 p4 p5 = some S' ∧ hk_I S' := by
  have hL := hk_L1 hE2
  have hA := hI.1.1
  have hN := hI.1.2.1
  have hc : mX11_isMonsoon hk_E0 F S 0 = some (if a_wetb (S 222) (S 222 0) = true then 1 else 0, S) := by
    unfold mX11_isMonsoon
    rw [rE_0_0 hE2, Option.bind_some, if_pos hL.1, hL.2.2.2.2.2.2.2.1, Option.bind_some, if_pos hL.2.1, hA.1, pX1_hasMonsoonAt hL (by omega) hI.2.1.1.1 (by have := hI.2.1.1.2; generalize S 222 0 = x at *; grind) (a_mok_of hI.2.1) hA, Option.bind_some]
    by_cases q : a_wetb (S 222) (S 222 0) = true <;> simp [q]
  have hm : mX12_isMonsoon hk_E0 F S 221 = some (if a_wetb (S 222) (S 222 0) = true then 1 else 0, hk_up S 221 15 0) := by
    unfold mX12_isMonsoon
    have h5 := hI.2.1.2.2.2.2.2.1
    have e : (hk_up S 221 15 0) 222 = S 222 := hk_upne _ _ _ (by decide)
    rw [hk_let_eq, rE_221_0 hE1, Option.bind_some, if_pos (kE_222 hE1), lE_222 hE1, if_pos (show hk_ok 0 107 by decide), pX12_isWet hE1 (by omega) (by rw [e]; exact h5.1) (by rw [e]; exact h5.2), Option.bind_some, e]
    by_cases q : a_wetb (S 222) (S 222 0) = true <;> simp [q]
  exact ⟨_, k_mopP (m := fun S => mX12_isMonsoon hk_E0 F S 221) hc hm, hk_I_same hI (hk_same_thr _ _)⟩
theorem mop_30_ok {F : Nat} {S : hk_S} {p1 p2 p3 p4 p5 : Int32} (hF : 2000000 ≤ F) (hI : hk_I S) : ∃ S', mop_30 F S p1 p2 p3 p4 p5 = some S' ∧ hk_I S' := by
  have hL := hk_L1 hE2
  have hA := hI.1.1
  have hN := hI.1.2.1
  have hc : mX11_troughCount hk_E0 F S 0 = some (S 222 9, S) := by
    unfold mX11_troughCount
    rw [rE_0_0 hE2, Option.bind_some, if_pos hL.1, hN.1]
  have hm : mX12_troughCount hk_E0 F S 221 = some (S 222 9, hk_up S 221 15 0) := by
    unfold mX12_troughCount
    rw [show (9 : Int32) = nI 9 from rfl, pX12_told hE1 (by omega), Option.bind_some]
  exact ⟨_, k_mopP (m := fun S => mX12_troughCount hk_E0 F S 221) hc hm, hk_I_same hI (hk_same_thr _ _)⟩
theorem mop_31_ok {F : Nat} {S : hk_S} {p1 p2 p3 p4 p5 : Int32} (hF : 2000000 ≤ F) (hI : hk_I S) : ∃ S', mop_31 F S p1 p2 p3 p4 p5 = some S' ∧ hk_I S' := by
  have hL := hk_L1 hE2
  have hA := hI.1.1
  have hN := hI.1.2.1
  have hc : mX11_probeCount hk_E0 F S 0 = some (S 222 10, S) := by
    unfold mX11_probeCount
    rw [rE_0_0 hE2, Option.bind_some, if_pos hL.1, hN.2.1]
  have hm : mX12_probeCount hk_E0 F S 221 = some (S 222 10, hk_up S 221 15 0) := by
    unfold mX12_probeCount
    rw [show (10 : Int32) = nI 10 from rfl, pX12_told hE1 (by omega), Option.bind_some]
  exact ⟨_, k_mopP (m := fun S => mX12_probeCount hk_E0 F S 221) hc hm, hk_I_same hI (hk_same_thr _ _)⟩
theorem mop_55_ok {F : Nat} {S : hk_S} {p1 p2 p3 p4 p5 : Int32} (hF : 2000000 ≤ F) (hI : hk_I S) : ∃ S', mop_55 F S p1 p2 p3 p4 p5 = some S' ∧ hk_I S' := by
  have hL := hk_L1 hE2
  have hA := hI.1.1
  have hN := hI.1.2.1
  have hc : mX11_dischargedKilograms hk_E0 F S 0 = some (S 222 12, S) := by
    unfold mX11_dischargedKilograms
    rw [rE_0_0 hE2, Option.bind_some, if_pos hL.1, hN.2.2.2.2.2.1]
  have hm : mX12_dischargedKilograms hk_E0 F S 221 = some (S 222 12, hk_up S 221 15 0) := by
    unfold mX12_dischargedKilograms
    rw [show (12 : Int32) = nI 12 from rfl, pX12_told hE1 (by omega), Option.bind_some]
  exact ⟨_, k_mopP (m := fun S => mX12_dischargedKilograms hk_E0 F S 221) hc hm, hk_I_same hI (hk_same_thr _ _)⟩
theorem mop_56_ok {F : Nat} {S : hk_S} {p1 p2 p3 p4 p5 : Int32} (hF : 2000000 ≤ F) (hI : hk_I S) : ∃ S', mop_56 F S p1 p2 p3 p4 p5 = some S' ∧ hk_I S' := by
  have hL := hk_L1 hE2
  have hA := hI.1.1
  have hN := hI.1.2.1
  have hc : mX11_discardedKilograms hk_E0 F S 0 = some (S 222 13, S) := by
    unfold mX11_discardedKilograms
    rw [rE_0_0 hE2, Option.bind_some, if_pos hL.1, hN.2.2.2.2.2.2.1]
  have hm : mX12_discardedKilograms hk_E0 F S 221 = some (S 222 13, hk_up S 221 15 0) := by
    unfold mX12_discardedKilograms
    rw [show (13 : Int32) = nI 13 from rfl, pX12_told hE1 (by omega), Option.bind_some]
  exact ⟨_, k_mopP (m := fun S => mX12_discardedKilograms hk_E0 F S 221) hc hm, hk_I_same hI (hk_same_thr _ _)⟩
theorem mop_57_ok {F : Nat} {S : hk_S} {p1 p2 p3 p4 p5 : Int32} (hF : 2000000 ≤ F) (hI : hk_I S) : ∃ S', mop_57 F S p1 p2 p3 p4 p5 = some S' ∧ hk_I S' := by
  have hL := hk_L1 hE2
  have hA := hI.1.1
  have hN := hI.1.2.1
  have hc : mX11_totalWorth hk_E0 F S 0 = some (S 222 14, S) := by
    unfold mX11_totalWorth
    rw [rE_0_0 hE2, Option.bind_some, if_pos hL.1, hN.2.2.2.2.2.2.2.2.1]
  have hm : mX12_totalWorth hk_E0 F S 221 = some (S 222 14, hk_up S 221 15 0) := by
    unfold mX12_totalWorth
    rw [show (14 : Int32) = nI 14 from rfl, pX12_told hE1 (by omega), Option.bind_some]
  exact ⟨_, k_mopP (m := fun S => mX12_totalWorth hk_E0 F S 221) hc hm, hk_I_same hI (hk_same_thr _ _)⟩
theorem mop_58_ok {F : Nat} {S : hk_S} {p1 p2 p3 p4 p5 : Int32} (hF : 2000000 ≤ F) (hI : hk_I S) : ∃ S', mop_58 F S p1 p2 p3 p4 p5 = some S' ∧ hk_I S' := by
  have hL := hk_L1 hE2
  have hA := hI.1.1
  have hN := hI.1.2.1
  have hc : mX11_lostWater hk_E0 F S 0 = some (S 222 15, S) := by
    unfold mX11_lostWater
    rw [rE_0_0 hE2, Option.bind_some, if_pos hL.1, hN.2.2.2.2.2.2.2.2.2]
  have hm : mX12_lostWater hk_E0 F S 221 = some (S 222 15, hk_up S 221 15 0) := by
    unfold mX12_lostWater
    rw [show (15 : Int32) = nI 15 from rfl, pX12_told hE1 (by omega), Option.bind_some]
  exact ⟨_, k_mopP (m := fun S => mX12_lostWater hk_E0 F S 221) hc hm, hk_I_same hI (hk_same_thr _ _)⟩
theorem mop_19_ok {F : Nat} {S : hk_S} {p1 p2 p3 p4 p5 : Int32} (hF : 2000000 ≤ F) (hI : hk_I S) : ∃ S', mop_19 F S p1 p2 p3 p4 p5 = some S' ∧ hk_I S' := by
  obtain ⟨c, nx, h1, h2, h3, h4, h5, h6⟩ := hI.2.2.1
  have hc : mX11_undoCount hk_E0 F S 0 = some (nI c, S) := by
    unfold mX11_undoCount
    rw [rE_0_3 hE2, Option.bind_some, if_pos (kE_39 hE2), h3]
  have hm : mX12_undoCount hk_E0 F S 221 = some (nI c, hk_up S 221 15 0) := by
    unfold mX12_undoCount
    rw [hk_let_eq, hk_up_eq, if_neg (by decide), h4]
  exact ⟨_, k_mopP (m := fun S => mX12_undoCount hk_E0 F S 221) hc hm, hk_I_same hI (hk_same_thr _ _)⟩
theorem mop_22_ok {F : Nat} {S : hk_S} {p1 p2 p3 p4 p5 : Int32} (hF : 2000000 ≤ F) (hI : hk_I S) : ∃ S', mop_22 F S p1 p2 p3 p4 p5 = some S' ∧ hk_I S' := by
  obtain ⟨h1, h2⟩ := hI.2.2.2.2.2.1
  have hc : mX11_scriptErrorKind hk_E0 F S 0 = some (S 221 11, S) := by
    unfold mX11_scriptErrorKind
    rw [rE_0_4 hE2, Option.bind_some, if_pos (kE_193 hE2), h1]
  have hm : mX12_scriptErrorKind hk_E0 F S 221 = some (S 221 11, hk_up S 221 15 0) := by
    unfold mX12_scriptErrorKind
    rw [hk_let_eq, hk_up_eq, if_neg (by decide)]
  exact ⟨_, k_mopP (m := fun S => mX12_scriptErrorKind hk_E0 F S 221) hc hm, hk_I_same hI (hk_same_thr _ _)⟩
theorem mop_23_ok {F : Nat} {S : hk_S} {p1 p2 p3 p4 p5 : Int32} (hF : 2000000 ≤ F) (hI : hk_I S) : ∃ S', mop_23 F S p1 p2 p3 p4 p5 = some S' ∧ hk_I S' := by
  obtain ⟨h1, h2⟩ := hI.2.2.2.2.2.1
  have hc : mX11_scriptErrorOffset hk_E0 F S 0 = some (S 221 12, S) := by
    unfold mX11_scriptErrorOffset
    rw [rE_0_4 hE2, Option.bind_some, if_pos (kE_193 hE2), h1, h2]
    by_cases q : S 221 11 = 0
    · rw [if_neg (fun z => z q), if_pos q]
    · rw [if_pos q, if_neg q]
  have hm : mX12_scriptErrorOffset hk_E0 F S 221 = some (S 221 12, hk_up S 221 15 0) := by
    unfold mX12_scriptErrorOffset
    rw [hk_let_eq, hk_up_eq, if_neg (by decide)]
  exact ⟨_, k_mopP (m := fun S => mX12_scriptErrorOffset hk_E0 F S 221) hc hm, hk_I_same hI (hk_same_thr _ _)⟩
theorem mop_63_ok {F : Nat} {S : hk_S} {p1 p2 p3 p4 p5 : Int32} (hF : 2000000 ≤ F) (hI : hk_I S) : ∃ S', mop_63 F S p1 p2 p3 p4 p5 = some S' ∧ hk_I S' := by
  obtain ⟨n, h1, h2, h3, h4⟩ := hI.2.2.2.2.2.2
  by_cases q : 0 ≤ p1 ∧ p1 < nI n
  · have hn8 : nI n ≤ 88 := (nI_leI (b := 88) (by omega) (by omega)).mpr h1
    obtain ⟨k, hk, rfl⟩ := nI_of2 (x := p1) (M := 87) (n := 87) (by decide) (by grind) (by have := q.2; generalize nI n = y at *; grind)
    have hkn : k < n := (nI_ltI (by omega) (by omega)).mp q.2
    have hc : mX11_reportByte hk_E0 F S 0 (nI k) = some (S 229 k, S) := by
      unfold mX11_reportByte mX7_byteAt
      rw [rE_0_5 hE2, Option.bind_some, if_pos (kE_218 hE2), h2, if_neg (nI_pos (by omega)), if_neg (nI_ge hkn (by omega)), if_neg (show ¬ (88 : Int32) ≤ nI k from nI_ge (a := k) (b := 88) (by omega) (by omega)), rE_218_0 hE2, Option.bind_some, if_pos (kE_219 hE2), lE_219 hE2, if_pos (hk_okI (by omega) (by omega)), Option.bind_some, nI_clamp (by omega), h4 k hkn]
    have hm : mX12_reportByte hk_E0 F S 221 (nI k) = some (S 229 k, hk_up S 221 15 0) := by
      have e : 0 ≤ nI k ∧ nI k ≤ nI n - 1 := ⟨nI_pos' (by omega), by
        obtain ⟨j, rfl⟩ : ∃ j, n = j + 1 := ⟨n - 1, by omega⟩
        rw [nI_pred]
        exact nI_le (by omega) (by omega)⟩
      unfold mX12_reportByte
      rw [hk_let_eq, hk_up_eq, if_neg (show ¬ (14 : Nat) = 15 by decide), h3, pX12_in, if_pos e, Option.bind_some]
      dsimp only
      rw [if_neg (by decide), rE_221_13 hE1, Option.bind_some, if_pos (kE_229 hE1), lE_229 hE1, if_pos (hk_okI (by omega) (by omega)), nI_clamp (by omega), hk_upne _ _ _ (by decide)]
    exact ⟨_, k_mopP (m := fun S => mX12_reportByte hk_E0 F S 221 (nI k)) hc hm, hk_I_same hI (hk_same_thr _ _)⟩
  · have hc : mX11_reportByte hk_E0 F S 0 p1 = some (-1, S) := by
      unfold mX11_reportByte mX7_byteAt
      rw [rE_0_5 hE2, Option.bind_some, if_pos (kE_218 hE2), h2]
      by_cases q1 : p1 < 0
      · rw [if_pos q1, Option.bind_some]
      · rw [if_neg q1, if_pos (by generalize nI n = y at *; grind), Option.bind_some]
    have hm : mX12_reportByte hk_E0 F S 221 p1 = some (-1, hk_up S 221 15 0) := by
      have e : ¬ (0 ≤ p1 ∧ p1 ≤ nI n - 1) := fun z => q ⟨z.1, by
        have h0 : 0 ≤ nI n := nI_pos' (by omega)
        have h88 : nI n ≤ 88 := (nI_leI (b := 88) (by omega) (by omega)).mpr h1
        have z2 := z.2
        generalize nI n = y at *
        grind⟩
      unfold mX12_reportByte
      rw [hk_let_eq, hk_up_eq, if_neg (show ¬ (14 : Nat) = 15 by decide), h3, pX12_in, if_neg e, Option.bind_some]
      dsimp only
      rw [if_pos rfl]
    exact ⟨_, k_mopP (m := fun S => mX12_reportByte hk_E0 F S 221 p1) hc hm, hk_I_same hI (hk_same_thr _ _)⟩
theorem mop_26_ok {F : Nat} {S : hk_S} {p1 p2 p3 p4 p5 : Int32} (hF : 2000000 ≤ F) (hI : hk_I S) : ∃ S', mop_26 F S p1 p2 p3 p4 p5 = some S' ∧ hk_I S' := by
  have hL := hk_L1 hE2
  have hA := hI.1.1
  by_cases q : 0 ≤ p1 ∧ p1 ≤ 2000
  · have hc : mX11_humidityAt hk_E0 F S 0 p1 = some (.inr (a_hum (S 222) p1, S)) := by
      unfold mX11_humidityAt
      rw [k_rq, if_pos q, hk_xb_inr, rE_0_0 hE2, Option.bind_some, if_pos hL.1, hL.2.2.2.2.2.2.2.1, Option.bind_some, if_pos hL.2.1, pX1_humidityOf hL (by omega) q.1 (by have := q.2; grind) (a_mok_of hI.2.1) hA, Option.bind_some]
    have hl : mL_humidityAt hk_E0 F S 0 p1 231 = some (0, hk_up S 231 0 (a_hum (S 222) p1)) := by
      unfold mL_humidityAt
      rw [hc]
      dsimp only
      rw [if_pos hk_ok231]
    generalize hv : a_hum (S 222) p1 = v at hl hc
    have ht2 : (hk_up (hk_up S 231 0 v) 221 15 0) 222 = S 222 := by rw [hk_upne _ _ _ (by decide), hk_upne _ _ _ (by decide)]
    have h5 := hI.2.1.2.2.2.2.2.1
    have hm : mX12_humidityAt hk_E0 F (hk_up S 231 0 v) 221 p1 = some (v, hk_up (hk_up S 231 0 v) 221 15 0) := by
      unfold mX12_humidityAt
      rw [pX12_in, if_pos q, Option.bind_some]
      dsimp only
      rw [if_pos (by decide), pX12_thr0, Option.bind_some]
      dsimp only
      rw [if_pos rfl, pX12_humid hE1 (by omega) (by rw [ht2]; exact h5.1) (by rw [ht2]; exact h5.2), Option.bind_some, ht2, hv]
    exact ⟨_, k_mop (m := fun S => mX12_humidityAt hk_E0 F S 221 p1) hl hm (by rw [hk_up_eq, if_pos rfl]) (fun _ => by rw [hk_upne _ _ _ (by decide), hk_up_eq, if_pos rfl]), hk_I_same hI (hk_same_trans (hk_same_out _ _) (hk_same_thr _ _))⟩
  · have hc : mX11_humidityAt hk_E0 F S 0 p1 = some (.inl (1, S)) := by
      unfold mX11_humidityAt
      rw [k_rq, if_neg q, hk_xb_inl]
    have hl : mL_humidityAt hk_E0 F S 0 p1 231 = some (1, S) := by
      unfold mL_humidityAt
      rw [hc]
      rfl
    have hm : mX12_humidityAt hk_E0 F S 221 p1 = some (0, hk_up S 221 15 1) := by
      unfold mX12_humidityAt
      rw [pX12_in, if_neg q, Option.bind_some]
      dsimp only
      rw [if_neg (by decide), pX12_thr1, Option.bind_some]
      dsimp only
      rw [if_neg (by decide)]
    exact ⟨_, k_mop (m := fun S => mX12_humidityAt hk_E0 F S 221 p1) hl hm (by rw [hk_up_eq, if_pos rfl]) (fun q => absurd q (by decide)), hk_I_same hI (hk_same_thr _ _)⟩
theorem mop_36_ok {F : Nat} {S : hk_S} {p1 p2 p3 p4 p5 : Int32} (hF : 2000000 ≤ F) (hI : hk_I S) : ∃ S', mop_36 F S p1 p2 p3 p4 p5 = some S' ∧ hk_I S' := by
  rcases k_exT (F := F) hI p1 with ⟨t, ht, rfl, hn, he⟩ | ⟨hno, he⟩
  · have htr := hI.1.2.2.1 t ht
    have hin := k_in (by omega) hn
    have hL := hk_L1 hE2
    have hc : mX11_isUpwards hk_E0 F S 0 (nI t) = some (.inr (if a_t (S 222) t 2 = 0 then 1 else 0, S)) := by
      unfold mX11_isUpwards
      rw [he, hk_xb_inr]
      dsimp only
      rw [if_pos (hk_L_t hL ht)]
      by_cases q : a_t (S 222) t 2 = 0 <;> simp [htr.2.2.1, q]
    have hl : mL_isUpwards hk_E0 F S 0 (nI t) 231 = some (0, hk_up S 231 0 (if a_t (S 222) t 2 = 0 then 1 else 0)) := by
      unfold mL_isUpwards
      rw [hc]
      dsimp only
      rw [if_pos hk_ok231]
      by_cases q : a_t (S 222) t 2 = 0 <;> simp [q]
    generalize hv : (if a_t (S 222) t 2 = 0 then (1 : Int32) else 0) = v at hl hc
    have hw : a_ok ((hk_up S 231 0 v) 222) := by rw [hk_upne _ _ _ (by decide)]; exact hI.2.1
    have ew : (hk_up S 231 0 v) 222 = S 222 := hk_upne _ _ _ (by decide)
    have hin : 0 ≤ nI t ∧ nI t < (hk_up S 231 0 v) 222 9 := by rw [ew]; exact hin
    have ht2 : (hk_up (hk_up S 231 0 v) 221 15 0) 222 = S 222 := by rw [hk_upne _ _ _ (by decide), ew]
    have hm : mX12_isUpwards hk_E0 F (hk_up S 231 0 v) 221 (nI t) = some (v, hk_up (hk_up S 231 0 v) 221 15 0) := by
      unfold mX12_isUpwards
      simp only [pX12_isTrough hE1 hw, if_pos hin, k_10, not_false_eq_true, if_true, Option.bind_some, pX12_thr0, not_true_eq_false, if_false, pX12_of_2 hE1 ht, ht2]
      rw [← hv]
      by_cases q : a_t (S 222) t 2 = 0 <;> simp [q]
    have hv2 : v = if v = 0 then 0 else 1 := by
      rw [← hv]
      by_cases q : a_t (S 222) t 2 = 0 <;> simp [q]
    exact ⟨_, k_mopB (m := fun S => mX12_isUpwards hk_E0 F S 221 (nI t)) hl hm (by rw [hk_up_eq, if_pos rfl]) (fun _ => by rw [hk_upne _ _ _ (by decide), hk_up_eq, if_pos rfl]; exact hv2), hk_I_same hI (hk_same_trans (hk_same_out _ _) (hk_same_thr _ _))⟩
  · have hc : mX11_isUpwards hk_E0 F S 0 p1 = some (.inl (0, S)) := by
      unfold mX11_isUpwards
      rw [he, hk_xb_inl]
    have hl : mL_isUpwards hk_E0 F S 0 p1 231 = some (1, S) := by
      unfold mL_isUpwards
      rw [hc]
      rfl
    have hm : mX12_isUpwards hk_E0 F S 221 p1 = some (0, hk_up S 221 15 1) := by
      unfold mX12_isUpwards
      simp only [pX12_isTrough hE1 hI.2.1, if_neg hno, not_true_eq_false, if_false, Option.bind_some, pX12_thr1, k_10, not_false_eq_true, if_true]
    exact ⟨_, k_mopB (m := fun S => mX12_isUpwards hk_E0 F S 221 p1) hl hm (by rw [hk_up_eq, if_pos rfl]) (fun q => absurd q (by decide)), hk_I_same hI (hk_same_thr _ _)⟩
