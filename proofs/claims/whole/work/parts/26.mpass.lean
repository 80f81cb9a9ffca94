/-! the model passes hours -/
def a_driftf (w : Nat → Int32) (z : Nat) : Nat → Int32 := fun i => if (89 ≤ i ∧ i < 107) ∧ (i - 89) % 3 = 2 ∧ z ≤ (i - 89) / 3 ∧ nI ((i - 89) / 3) < w 10 then (if 50 ≤ w i + 1 then 50 else w i + 1) else w i
theorem a_driftf0 (w : Nat → Int32) : a_driftf w 0 = a_drift w := by
  funext i
  unfold a_driftf a_drift
  simp
theorem a_driftf_end {w : Nat → Int32} {z : Nat} (hz : w 10 ≤ nI z) (hz6 : z ≤ 6) : a_driftf w z = w := by
  funext i
  unfold a_driftf
  rw [if_neg]
  rintro ⟨h1, h2, h3, h4⟩
  have : nI z ≤ nI ((i - 89) / 3) := (nI_leI (by omega) (by omega)).mpr h3
  grind
theorem a_driftf_step {w : Nat → Int32} {z : Nat} (hz : z < 6) (hn : nI z < w 10) : a_driftf (upd w (89 + 3 * z + 2) (if 50 ≤ w (89 + 3 * z + 2) + 1 then 50 else w (89 + 3 * z + 2) + 1)) (z + 1) = a_driftf w z := by
  funext i
  unfold a_driftf
  rw [upd_at w _ _ 10, if_neg (show ¬ (10 = 89 + 3 * z + 2) by omega)]
  by_cases hi : i = 89 + 3 * z + 2
  · subst hi
    have e2 : (89 + 3 * z + 2 - 89) / 3 = z := by omega
    rw [if_neg (by omega), upd_at, if_pos rfl]
    rw [if_pos (show (89 ≤ 89 + 3 * z + 2 ∧ 89 + 3 * z + 2 < 107) ∧ (89 + 3 * z + 2 - 89) % 3 = 2 ∧ z ≤ (89 + 3 * z + 2 - 89) / 3 ∧ nI ((89 + 3 * z + 2 - 89) / 3) < w 10 by rw [e2]; exact ⟨by omega, by omega, by omega, hn⟩)]
  · rw [upd_at, if_neg hi]
    by_cases hc : (89 ≤ i ∧ i < 107) ∧ (i - 89) % 3 = 2 ∧ z ≤ (i - 89) / 3 ∧ nI ((i - 89) / 3) < w 10
    · rw [if_pos hc, if_pos ⟨hc.1, hc.2.1, by omega, hc.2.2.2⟩]
    · rw [if_neg hc, if_neg (fun q => hc ⟨q.1, q.2.1, by omega, q.2.2.2⟩)]
theorem pX12_drifts_2 {E : hk_E} {F : Nat} (hE : hk_Sh 231 E) : ∀ (d z f : Nat) (S : hk_S), z + d = 7 → d < f → 0 ≤ S 222 10 → S 222 10 ≤ 6 → mX12_drifts_2 E F 221 (fun S9 _ => some S9) f S (nI z) = some (va_up S 222 (a_driftf (S 222) z)) := by
  intro d
  induction d with
  | zero =>
    intro z f S h1 h2 h4 h5
    obtain ⟨f, rfl⟩ : ∃ g, f = g + 1 := ⟨f - 1, by omega⟩
    have hz : z = 7 := by omega
    subst hz
    rw [mX12_drifts_2]
    dsimp only
    rw [rE_221_0 hE, Option.bind_some, if_pos (kE_222 hE), lE_222 hE, if_pos (show hk_ok 10 107 by decide)]
    have hq : S 222 10 ≤ nI 7 := by
      have : nI 7 = 7 := rfl
      rw [this]; grind
    rw [if_pos hq]
    have e : a_driftf (S 222) 7 = S 222 := by
      funext i
      unfold a_driftf
      rw [if_neg (by omega)]
    rw [e, k_up_same]
  | succ d ih =>
    intro z f S h1 h2 h4 h5
    obtain ⟨f, rfl⟩ : ∃ g, f = g + 1 := ⟨f - 1, by omega⟩
    rw [mX12_drifts_2]
    dsimp only
    rw [rE_221_0 hE, Option.bind_some, if_pos (kE_222 hE), lE_222 hE, if_pos (show hk_ok 10 107 by decide)]
    by_cases hz : S 222 10 ≤ nI z
    · rw [if_pos hz, a_driftf_end hz (by omega), k_up_same]
    · rw [if_neg hz, hk_let_eq]
      have hlt : nI z < S 222 10 := by grind
      have hz6 : z < 6 := by
        apply Classical.byContradiction
        intro q
        have : nI 6 ≤ nI z := (nI_leI (by omega) (by omega)).mpr (by omega)
        have e6 : nI 6 = 6 := rfl
        rw [e6] at this
        exact hz (by grind)
      have e : (89 : Int32) + 3 * nI z + 2 = nI (89 + 3 * z + 2) := k_idp z 2
      rw [e, if_pos (hk_okI (by omega) (by omega)), pJ9_min, Option.bind_some, if_pos (hk_okI (by omega) (by omega)), nI_clamp (by omega), hk_let_eq, hk_let_eq, nI_1]
      rw [ih (z + 1) f _ (by omega) (by omega) (by rw [hk_up_at, if_neg (by omega)]; exact h4) (by rw [hk_up_at, if_neg (by omega)]; exact h5)]
      rw [k_hk_up, k_upup, va_up_self, a_driftf_step hz6 hlt]
theorem pX12_drifts {E : hk_E} {F : Nat} {S : hk_S} (hE : hk_Sh 231 E) (hF : 9 ≤ F) (h4 : 0 ≤ S 222 10) (h5 : S 222 10 ≤ 6) : mX12_drifts E F S 221 = some (va_up S 222 (a_drift (S 222))) := by
  unfold mX12_drifts
  rw [← a_driftf0]
  exact pX12_drifts_2 hE 7 0 F S (by omega) (by omega) h4 h5
theorem a_dry_lo {w w2 : Nat → Int32} (h : ∀ i, 0 < i → i < 9 → w2 i = w i) (x : Int32) : a_dry w2 x = a_dry w x := by
  unfold a_dry a_hum a_wetb
  rw [h 1 (by omega) (by omega), h 2 (by omega) (by omega), h 5 (by omega) (by omega)]
  have : (fun m => decide (nI m < w 5) && (decide (0 ≤ x / 24 - w2 (6 + m)) && decide (x / 24 - w2 (6 + m) ≤ 6))) = (fun m => decide (nI m < w 5) && (decide (0 ≤ x / 24 - w2 (6 + m)) && decide (x / 24 - w2 (6 + m) ≤ 6))) := rfl
  have e : ((List.range 3).any fun m => decide (nI m < w 5) && (decide (0 ≤ x / 24 - w2 (6 + m)) && decide (x / 24 - w2 (6 + m) ≤ 6))) = ((List.range 3).any fun m => decide (nI m < w 5) && (decide (0 ≤ x / 24 - w (6 + m)) && decide (x / 24 - w (6 + m) ≤ 6))) := by
    have hr : List.range 3 = [0, 1, 2] := by decide
    rw [hr]
    simp only [List.any_cons, List.any_nil]
    rw [h 6 (by omega) (by omega), h 7 (by omega) (by omega), h 8 (by omega) (by omega)]
  rw [e]
theorem a_airsN_row (d : Int32) (w : Nat → Int32) (n : Nat) {i : Nat} (h : i < 15) : a_airsN d n w i = w i := a_airsN_lo d n w (by omega) (by omega)
theorem pX12_passes_9 {E : hk_E} {F : Nat} {x1 c3 : Int32} {K : hk_S → Int32 → Option (Int32 × hk_S)} {w : Nat → Int32} {n : Nat} (hE : hk_Sh 231 E) (hF : 9 ≤ F) (hw : a_ok w) (hn : w 9 = nI n) (hn8 : n ≤ 8) : ∀ (d z f : Nat) (S : hk_S), z + d = n → d < f → S 222 = a_airsN (a_dry w (w 0)) z w → mX12_passes_9 E F 221 x1 c3 K f S (nI z) = K (va_up S 222 (a_airsN (a_dry w (w 0)) n w)) (nI n) := by
  intro d
  induction d with
  | zero =>
    intro z f S h1 h2 hS
    obtain ⟨f, rfl⟩ : ∃ g, f = g + 1 := ⟨f - 1, by omega⟩
    have hz : z = n := by omega
    subst hz
    rw [mX12_passes_9]
    dsimp only
    rw [rE_221_0 hE, Option.bind_some, if_pos (kE_222 hE), lE_222 hE, if_pos (show hk_ok 9 107 by decide)]
    have e9 : S 222 9 = nI z := by rw [hS, a_airsN_row _ _ _ (by omega)]; exact hn
    rw [e9, if_pos (by grind), ← hS, k_up_same]
  | succ d ih =>
    intro z f S h1 h2 hS
    obtain ⟨f, rfl⟩ : ∃ g, f = g + 1 := ⟨f - 1, by omega⟩
    rw [mX12_passes_9]
    dsimp only
    rw [rE_221_0 hE, Option.bind_some, if_pos (kE_222 hE), lE_222 hE, if_pos (show hk_ok 9 107 by decide)]
    have e9 : S 222 9 = nI n := by rw [hS, a_airsN_row _ _ _ (by omega)]; exact hn
    have e0 : S 222 0 = w 0 := by rw [hS, a_airsN_row _ _ _ (by omega)]
    have e5 : S 222 5 = w 5 := by rw [hS, a_airsN_row _ _ _ (by omega)]
    have hlt : ¬ nI n ≤ nI z := fun q => by
      have := (nI_leI (by omega) (by omega)).mp q
      omega
    have hk : t_ok (a_t (S 222) z) := by
      rw [hS, a_airsN_t]
      exact t_ok_ext (hw.2.2.2.2.2.2.2.2.2.1 z (by omega)) (fun k hk => by simp [hk])
    have hair := pX12_airs (F := F) (S := S) (t := z) (h := S 222 0) hE (by omega) (by rw [e5]; exact hw.2.2.2.2.2.1.1) (by rw [e5]; exact hw.2.2.2.2.2.1.2) (by omega) hk
    rw [e9, if_neg hlt, if_pos (show hk_ok 0 107 by decide), hair, Option.bind_some, hk_let_eq, nI_1]
    have hdry : a_dry (S 222) (S 222 0) = a_dry w (w 0) := by
      rw [e0]
      exact a_dry_lo (fun i _ hi => by rw [hS, a_airsN_row _ _ _ (by omega)]) _
    rw [ih (z + 1) f _ (by omega) (by omega) (by rw [va_up_self, hdry, hS]; rfl), k_upup]
theorem a_pass_ok (k : Nat) : ∀ {w : Nat → Int32}, a_ok w → k ≤ 2000 → w 0 ≤ 2000 - nI k → a_ok (a_pass k w) ∧ (a_pass k w) 0 = w 0 + nI k ∧ (a_pass k w) 9 = w 9 := by
  induction k with
  | zero =>
    intro w h h3 h4
    have e2 : w 0 + nI 0 = w 0 := by rw [nI_0, Int32.add_zero]
    rw [e2]
    exact ⟨h, rfl, rfl⟩
  | succ k ih =>
    intro w h h3 h4
    have hk1 : nI (k + 1) = nI k + 1 := nI_succ k
    have hk0 : 0 ≤ nI k := nI_pos' (by omega)
    have hk2 : nI k < 2000 := (nI_ltI (b := 2000) (by omega) (by omega)).mpr (by omega)
    have g0 := h.1.1
    rw [hk1] at h4
    have hlt : w 0 < 2000 := by clear ih h; generalize w 0 = x at *; generalize nI k = y at *; grind
    obtain ⟨q1, q2, q3⟩ := a_hour_ok h hlt
    have hnext : a_hour w 0 ≤ 2000 - nI k := by
      rw [q2]
      clear ih h q1 q2 q3
      generalize w 0 = x at *
      generalize nI k = y at *
      grind
    obtain ⟨r1, r2, r3⟩ := ih q1 (by omega) hnext
    refine ⟨r1, ?_, r3.trans q3⟩
    show (a_pass k (a_hour w)) 0 = _
    rw [r2, q2, hk1, Int32.add_assoc, Int32.add_comm 1]
