/-! the model passes hours, to the end -/
theorem a_tick_eq (w : Nat → Int32) : a_tick w = if (w 0 + 1) - (w 0 + 1) / 24 * 24 = 0 then a_drift (upd w 0 (w 0 + 1)) else upd w 0 (w 0 + 1) := rfl
theorem a_hour_eq {w : Nat → Int32} {n : Nat} (hn : w 9 = nI n) (hn8 : n ≤ 8) : a_hour w = a_tick (a_airsN (a_dry w (w 0)) n w) := by
  unfold a_hour
  rw [hn, nI_clamp (by omega)]
theorem pX12_passes_2 {E : hk_E} {F : Nat} {K : hk_S → Int32 → Option (Int32 × hk_S)} (hE : hk_Sh 231 E) (hF : 9 ≤ F) : ∀ (d z f : Nat) (S : hk_S), z + d ≤ 1000 → d < f → a_ok (S 222) → S 222 0 ≤ 2000 - nI d → mX12_passes_2 E F 221 (nI (z + d)) K f S (nI z) = K (va_up S 222 (a_pass d (S 222))) (nI (z + d)) := by
  intro d
  induction d with
  | zero =>
    intro z f S h1 h2 hw h4
    obtain ⟨f, rfl⟩ : ∃ g, f = g + 1 := ⟨f - 1, by omega⟩
    rw [mX12_passes_2]
    dsimp only
    rw [if_pos (nI_le (by omega) (by omega)), a_pass, k_up_same]
    rfl
  | succ d ih =>
    intro z f S h1 h2 hw h4
    obtain ⟨f, rfl⟩ : ∃ g, f = g + 1 := ⟨f - 1, by omega⟩
    obtain ⟨n, hn8, hn⟩ := nI_of2 (x := S 222 9) (M := 8) (n := 8) (by decide) (by have := hw.2.2.2.2.2.2.2.1.1; grind) hw.2.2.2.2.2.2.2.1.2
    rw [mX12_passes_2]
    dsimp only
    rw [if_neg (nI_ge (by omega) (by omega))]
    refine (pX12_passes_9 (w := S 222) (n := n) hE hF hw hn hn8 n 0 F S (by omega) (by omega) rfl).trans ?_
    generalize hA : a_airsN (a_dry (S 222) (S 222 0)) n (S 222) = A
    have A0 : A 0 = S 222 0 := by rw [← hA, a_airsN_row _ _ _ (by omega)]
    have A10 : A 10 = S 222 10 := by rw [← hA, a_airsN_row _ _ _ (by omega)]
    have hh : a_hour (S 222) = a_tick A := by rw [a_hour_eq hn hn8, hA]
    have hd0 : nI d + 1 = nI (d + 1) := nI_1 d
    have hlt : S 222 0 < 2000 := by
      have q1 : 0 ≤ nI d := nI_pos' (by omega)
      have q2 : nI d < 2000 := (nI_ltI (b := 2000) (by omega) (by omega)).mpr (by omega)
      have q3 := hw.1.1
      rw [← hd0] at h4
      clear ih hh hw
      generalize S 222 0 = x at *
      generalize nI d = y at *
      grind
    obtain ⟨k1, k2, k3⟩ := a_hour_ok hw hlt
    have hnext : a_hour (S 222) 0 ≤ 2000 - nI d := by
      rw [k2]
      have q1 : 0 ≤ nI d := nI_pos' (by omega)
      have q2 : nI d < 2000 := (nI_ltI (b := 2000) (by omega) (by omega)).mpr (by omega)
      have q3 := hw.1.1
      rw [← hd0] at h4
      clear ih hh hw k1 k2 k3
      generalize S 222 0 = x at *
      generalize nI d = y at *
      grind
    have hz : z + (d + 1) = z + 1 + d := by omega
    simp only [rE_221_0 hE, Option.bind_some, kE_222 hE, if_true, lE_222 hE, if_pos (show hk_ok 0 107 by decide), hk_let_eq, k_hk_up, va_up_self, k_upup, upd_at, if_true]
    rw [A0]
    by_cases hq : (S 222 0 + 1) - (S 222 0 + 1) / 24 * 24 = 0
    · have ht : a_hour (S 222) = a_drift (upd A 0 (S 222 0 + 1)) := by rw [hh, a_tick_eq, A0, if_pos hq]
      rw [if_neg (fun q => q hq)]
      rw [pX12_drifts hE hF (by rw [va_up_self, upd_at, if_neg (by omega), A10]; exact hw.2.2.2.2.2.2.2.2.1.1) (by rw [va_up_self, upd_at, if_neg (by omega), A10]; exact hw.2.2.2.2.2.2.2.2.1.2)]
      rw [Option.bind_some, nI_1, va_up_self, k_upup, ← ht, hz]
      rw [ih (z + 1) f _ (by omega) (by omega) (by rw [va_up_self]; exact k1) (by rw [va_up_self]; exact hnext)]
      rw [va_up_self, k_upup]
      rfl
    · have ht : a_hour (S 222) = upd A 0 (S 222 0 + 1) := by rw [hh, a_tick_eq, A0, if_neg hq]
      rw [if_pos hq, nI_1, ← ht, hz]
      rw [ih (z + 1) f _ (by omega) (by omega) (by rw [va_up_self]; exact k1) (by rw [va_up_self]; exact hnext)]
      rw [va_up_self, k_upup]
      rfl
theorem pX12_passes {E : hk_E} {F : Nat} {S : hk_S} {d : Nat} (hE : hk_Sh 231 E) (hF : 1001 ≤ F) (hd : d ≤ 1000) (hw : a_ok (S 222)) (h4 : S 222 0 ≤ 2000 - nI d) : mX12_passes E F S 221 (nI d) = some (S 222 0 + nI d, va_up S 222 (a_pass d (S 222))) := by
  unfold mX12_passes
  have h := pX12_passes_2 (E := E) (F := F) (K := fun S22 z23 => (E.2.2.2 221 0).bind (fun r24 => if E.2.1 r24 = 13 then (if hk_ok 0 (E.2.2.1 r24) then (some ((S22 r24 0), S22)) else none) else none)) hE (by omega) d 0 F S (by omega) (by omega) hw h4
  rw [Nat.zero_add] at h
  refine h.trans ?_
  rw [rE_221_0 hE, Option.bind_some, if_pos (kE_222 hE), lE_222 hE, if_pos (show hk_ok 0 107 by decide), va_up_self]
  have := (a_pass_ok d hw (by omega) h4).2.1
  show some (a_pass d (S 222) 0, _) = _
  rw [this]
