/-! the model's changes of its row -/
theorem pX12_to {E : hk_E} {F : Nat} {S : hk_S} {t k : Nat} {x : Int32} (hE : hk_Sh 231 E) (ht : t < 8) (hk : k < 9) : mX12_to E F S 221 (nI t) (nI k) x = some (va_up S 222 (upd (S 222) (17 + 9 * t + k) x)) := by
  unfold mX12_to
  rw [k_idx t k, rE_221_0 hE, Option.bind_some, if_pos (kE_222 hE), lE_222 hE, if_pos (hk_okI (by omega) (by omega)), nI_clamp (by omega)]
  rfl
theorem pX12_of {E : hk_E} {F : Nat} {S : hk_S} {t k : Nat} (hE : hk_Sh 231 E) (ht : t < 8) (hk : k < 9) : mX12_of E F S 221 (nI t) (nI k) = some (a_t (S 222) t k, S) := by
  unfold mX12_of
  rw [k_idx t k, rE_221_0 hE, Option.bind_some, if_pos (kE_222 hE), lE_222 hE, if_pos (hk_okI (by omega) (by omega)), nI_clamp (by omega)]
  rfl
/-- the trough t from its k-th number on is 0 -/
def a_zero (w : Nat → Int32) (t z : Nat) : Nat → Int32 := fun i => if 17 + 9 * t + z ≤ i ∧ i < 17 + 9 * t + 9 then 0 else w i
theorem a_zero_end (w : Nat → Int32) (t : Nat) : a_zero w t 9 = w := by
  funext i
  unfold a_zero
  rw [if_neg (by omega)]
theorem a_zero_step (w : Nat → Int32) (t : Nat) {z : Nat} (hz : z < 9) : a_zero (upd w (17 + 9 * t + z) 0) t (z + 1) = a_zero w t z := by
  funext i
  unfold a_zero
  rw [upd_at]
  by_cases h : i = 17 + 9 * t + z
  · rw [if_neg (by omega), if_pos h, if_pos (by omega)]
  · by_cases h2 : 17 + 9 * t + z ≤ i ∧ i < 17 + 9 * t + 9
    · rw [if_pos (by omega), if_pos h2]
    · rw [if_neg (by omega), if_neg h, if_neg h2]
theorem pX12_builds_21 {E : hk_E} {F t : Nat} {x1 : Int32} {K : hk_S → Int32 → Option (Int32 × hk_S)} (hE : hk_Sh 231 E) (ht : t < 8) : ∀ (d z f : Nat) (S : hk_S), z + d = 9 → d < f → mX12_builds_21 E F 221 x1 (nI t) K f S (nI z) = K (va_up S 222 (a_zero (S 222) t z)) (nI 9) := by
  intro d
  induction d with
  | zero =>
    intro z f S h1 h2
    obtain ⟨f, rfl⟩ : ∃ g, f = g + 1 := ⟨f - 1, by omega⟩
    have hz : z = 9 := by omega
    subst hz
    rw [mX12_builds_21]
    dsimp only
    rw [if_pos (by decide), a_zero_end, k_up_same]
  | succ d ih =>
    intro z f S h1 h2
    obtain ⟨f, rfl⟩ : ∃ g, f = g + 1 := ⟨f - 1, by omega⟩
    rw [mX12_builds_21]
    dsimp only
    rw [if_neg (show ¬ (9 : Int32) ≤ nI z from nI_ge (a := z) (b := 9) (by omega) (by omega)), show (0 : Int32) = nI 0 from rfl, pX12_to hE ht (by omega), Option.bind_some, hk_let_eq, nI_1, ih (z + 1) f _ (by omega) (by omega), va_up_self, k_upup, nI_0, a_zero_step _ _ (by omega)]
theorem pX12_empties_37 {E : hk_E} {F t : Nat} {x2 c10 : Int32} {K : hk_S → Int32 → Option (Int32 × hk_S)} (hE : hk_Sh 231 E) (ht : t < 8) : ∀ (d z f : Nat) (S : hk_S), z + d = 9 → d < f → mX12_empties_37 E F 221 (nI t) x2 c10 K f S (nI z) = K (va_up S 222 (a_zero (S 222) t z)) (nI 9) := by
  intro d
  induction d with
  | zero =>
    intro z f S h1 h2
    obtain ⟨f, rfl⟩ : ∃ g, f = g + 1 := ⟨f - 1, by omega⟩
    have hz : z = 9 := by omega
    subst hz
    rw [mX12_empties_37]
    dsimp only
    rw [if_pos (by decide), a_zero_end, k_up_same]
  | succ d ih =>
    intro z f S h1 h2
    obtain ⟨f, rfl⟩ : ∃ g, f = g + 1 := ⟨f - 1, by omega⟩
    rw [mX12_empties_37]
    dsimp only
    rw [if_neg (show ¬ (8 : Int32) < nI z from nI_nlt (a := 8) (b := z) (by omega) (by omega)), show (0 : Int32) = nI 0 from rfl, pX12_to hE ht (by omega), Option.bind_some, hk_let_eq, nI_1, ih (z + 1) f _ (by omega) (by omega), va_up_self, k_upup, nI_0, a_zero_step _ _ (by omega)]
theorem pX12_builds {E : hk_E} {F : Nat} {S : hk_S} {n : Nat} {c : Int32} (hE : hk_Sh 231 E) (hF : 10 ≤ F) (hn : S 222 9 = nI n) (hn8 : n < 8) : mX12_builds E F S 221 c = some (nI n, va_up S 222 (a_build (S 222) n c)) := by
  unfold mX12_builds
  rw [rE_221_0 hE, Option.bind_some, if_pos (kE_222 hE), lE_222 hE, if_pos (show hk_ok 9 107 by decide)]
  simp only [hk_let_eq, if_pos (show hk_ok 9 107 by decide)]
  rw [hn]
  refine (pX12_builds_21 (F := F) hE hn8 9 0 F _ (by omega) (by omega)).trans ?_
  rw [pX12_to_0 hE hn8, Option.bind_some]
  rw [k_hk_up]
  simp only [va_up_self, k_upup]
  congr 3
  unfold a_build
  rw [hn]
  refine a_setT_of (fun k hk => ?_) (fun i hi => ?_)
  · rw [upd_at]
    unfold a_zero t_new
    by_cases h : k = 0
    · subst h
      rw [if_pos rfl, if_pos rfl]
    · rw [if_neg (by omega), if_pos (by omega), if_neg h]
  · rw [upd_at, if_neg (by omega)]
    unfold a_zero
    rw [if_neg (by omega)]
theorem pX12_loads {E : hk_E} {F : Nat} {S : hk_S} {t : Nat} {kg m : Int32} (hE : hk_Sh 231 E) (ht : t < 8) (hc : ¬ a_t (S 222) t 0 = 0) : mX12_loads E F S 221 (nI t) kg m = some (t_fill (t_load (a_t (S 222) t) kg m), va_up S 222 (a_load (S 222) t kg m)) := by
  have hrow : upd (upd (upd (upd (upd (upd (upd (S 222) (17 + 9 * t + 3) kg) (17 + 9 * t + 4) m) (17 + 9 * t + 5) m) (17 + 9 * t + 6) 0) (17 + 9 * t + 7) 0) (17 + 9 * t + 8) (2000 * kg)) 11 (S 222 11 + kg) = a_load (S 222) t kg m := by
    unfold a_load
    refine a_setT_of (fun k hk => ?_) (fun i hi => ?_)
    · simp only [upd_at]
      have : k = 0 ∨ k = 1 ∨ k = 2 ∨ k = 3 ∨ k = 4 ∨ k = 5 ∨ k = 6 ∨ k = 7 ∨ k = 8 := by omega
      rw [if_neg (by omega)]
      rcases this with q | q | q | q | q | q | q | q | q <;> subst q <;> simp [t_load, a_t]
    · simp only [upd_at]
      by_cases h : i = 11
      · rw [if_pos h, if_pos h]
      · rw [if_neg h, if_neg (by omega), if_neg (by omega), if_neg (by omega), if_neg (by omega), if_neg (by omega), if_neg (by omega), if_neg h]
  unfold mX12_loads
  rw [pX12_to_3 hE ht, Option.bind_some, pX12_to_4 hE ht, Option.bind_some, pX12_to_5 hE ht, Option.bind_some, pX12_to_6 hE ht, Option.bind_some, pX12_to_7 hE ht, Option.bind_some, pX12_to_8 hE ht, Option.bind_some, rE_221_0 hE, Option.bind_some, if_pos (kE_222 hE), lE_222 hE, if_pos (show hk_ok 11 107 by decide), if_pos (show hk_ok 11 107 by decide), hk_let_eq, k_hk_up]
  simp only [va_up_self, k_upup]
  have e11 : upd (upd (upd (upd (upd (upd (S 222) (17 + 9 * t + 3) kg) (17 + 9 * t + 4) m) (17 + 9 * t + 5) m) (17 + 9 * t + 6) 0) (17 + 9 * t + 7) 0) (17 + 9 * t + 8) (2000 * kg) 11 = S 222 11 := by
    simp only [upd_at]
    rw [if_neg (by omega), if_neg (by omega), if_neg (by omega), if_neg (by omega), if_neg (by omega), if_neg (by omega)]
  rw [e11, hrow]
  have e : ∀ k, k < 9 → a_t (a_load (S 222) t kg m) t k = t_load (a_t (S 222) t) kg m k := fun k hk => by
    unfold a_load
    rw [a_setT_t _ _ _ _ hk, if_pos rfl]
  rw [pX12_filled hE ht (by rw [va_up_self, e 0 (by omega)]; exact hc), Option.bind_some]
  congr 2
  rw [va_up_self]
  unfold t_fill
  rw [e 3 (by omega), e 0 (by omega)]
theorem pX12_turnsRound {E : hk_E} {F : Nat} {S : hk_S} {t : Nat} (hE : hk_Sh 231 E) (ht : t < 8) : mX12_turnsRound E F S 221 (nI t) = some (if 1 - a_t (S 222) t 2 = 0 then 1 else 0, va_up S 222 (a_rev (S 222) t)) := by
  have hrow : upd (S 222) (17 + 9 * t + 2) (1 - a_t (S 222) t 2) = a_rev (S 222) t := by
    unfold a_rev
    refine a_setT_of (fun k hk => ?_) (fun i hi => ?_)
    · rw [upd_in, upd_at]
    · rw [upd_at, if_neg (by omega)]
  unfold mX12_turnsRound
  rw [pX12_of_2 hE ht, Option.bind_some, pX12_to_2 hE ht, Option.bind_some, pX12_of_2 hE ht, Option.bind_some]
  simp only [va_up_self, hrow]
  have e : a_t (a_rev (S 222) t) t 2 = 1 - a_t (S 222) t 2 := by
    unfold a_rev
    rw [a_setT_t _ _ _ _ (by omega), if_pos rfl, upd_at, if_pos rfl]
  rw [e]
  by_cases h : 1 - a_t (S 222) t 2 = 0 <;> simp [h]
theorem pX12_announces {E : hk_E} {F : Nat} {S : hk_S} {n : Nat} {x : Int32} (hE : hk_Sh 231 E) (hn : S 222 5 = nI n) (hn3 : n < 3) : mX12_announces E F S 221 x = some (nI (n + 1), va_up S 222 (a_mon (S 222) n x)) := by
  have e6 : (6 : Int32) + nI n = nI (6 + n) := nI_add 6 n
  unfold mX12_announces
  rw [rE_221_0 hE, Option.bind_some, if_pos (kE_222 hE), lE_222 hE, if_pos (show hk_ok 5 107 by decide), hn, e6, if_pos (hk_okI (by omega) (by omega)), nI_clamp (by omega)]
  simp only [hk_let_eq, if_pos (show hk_ok 5 107 by decide), k_hk_up, va_up_self, k_upup]
  have e5 : upd (S 222) (6 + n) x 5 = nI n := by rw [upd_at, if_neg (by omega), hn]
  rw [e5]
  unfold a_mon
  rw [hn, nI_1]
  simp [upd_at]
theorem pX12_turns {E : hk_E} {F : Nat} {S : hk_S} {t : Nat} (hE : hk_Sh 231 E) (ht : t < 8) : mX12_turns E F S 221 (nI t) = some (t_turn (a_t (S 222) t) 5, va_up S 222 (a_turn (S 222) t)) := by
  have hrow : upd (upd (upd (S 222) (17 + 9 * t + 4) ((a_t (S 222) t 4 + a_t (S 222) t 5) / 2)) (17 + 9 * t + 5) ((a_t (S 222) t 4 + a_t (S 222) t 5) - (a_t (S 222) t 4 + a_t (S 222) t 5) / 2)) (17 + 9 * t + 7) (a_t (S 222) t 7 + 2) = a_turn (S 222) t := by
    unfold a_turn
    refine a_setT_of (fun k hk => ?_) (fun i hi => ?_)
    · simp only [upd_at]
      have : k = 0 ∨ k = 1 ∨ k = 2 ∨ k = 3 ∨ k = 4 ∨ k = 5 ∨ k = 6 ∨ k = 7 ∨ k = 8 := by omega
      rcases this with q | q | q | q | q | q | q | q | q <;> subst q <;> simp [t_turn, a_t]
    · simp only [upd_at]
      rw [if_neg (by omega), if_neg (by omega), if_neg (by omega)]
  unfold mX12_turns
  rw [pX12_of_4 hE ht, Option.bind_some, pX12_of_5 hE ht, Option.bind_some, hk_let_eq, pX12_to_4 hE ht, Option.bind_some, pX12_to_5 hE ht, Option.bind_some, pX12_of_7 hE ht, Option.bind_some, pX12_to_7 hE ht, Option.bind_some, pX12_of_5 hE ht, Option.bind_some]
  simp only [va_up_self, k_upup]
  have e7 : a_t (upd (upd (S 222) (17 + 9 * t + 4) ((a_t (S 222) t 4 + a_t (S 222) t 5) / 2)) (17 + 9 * t + 5) ((a_t (S 222) t 4 + a_t (S 222) t 5) - (a_t (S 222) t 4 + a_t (S 222) t 5) / 2)) t 7 = a_t (S 222) t 7 := by
    rw [upd_t, if_neg (by omega), upd_t, if_neg (by omega)]
  rw [e7, hrow]
  unfold a_turn
  rw [a_setT_t _ _ _ _ (by omega), if_pos rfl]
theorem pX12_empties {E : hk_E} {F : Nat} {S : hk_S} {t i : Nat} (hE : hk_Sh 231 E) (hF : 10 ≤ F) (ht : t < 8) (hi : i < 16) : mX12_empties E F S 221 (nI t) (nI i) = some (a_t (S 222) t 3, va_up S 222 (a_out (S 222) t i)) := by
  have e8 : a_t (upd (S 222) i (S 222 i + a_t (S 222) t 3)) t 8 = a_t (S 222) t 8 := by rw [a_t_upd t (by omega)]
  have e16 : upd (S 222) i (S 222 i + a_t (S 222) t 3) 16 = S 222 16 := by rw [upd_at, if_neg (by omega)]
  unfold mX12_empties
  rw [pX12_of_3 hE ht, Option.bind_some, rE_221_0 hE, Option.bind_some, if_pos (kE_222 hE), lE_222 hE, if_pos (hk_okI (by omega) (by omega)), if_pos (hk_okI (by omega) (by omega)), nI_clamp (by omega)]
  simp only [hk_let_eq, if_pos (show hk_ok 16 107 by decide), k_hk_up]
  rw [pX12_of_8 hE ht, Option.bind_some]
  simp only [va_up_self, k_upup, e8, e16]
  refine (pX12_empties_37 (F := F) hE ht 6 3 F _ (by omega) (by omega)).trans ?_
  simp only [va_up_self, k_upup]
  congr 3
  unfold a_out
  refine a_setT_of (fun k hk => ?_) (fun j hj => ?_)
  · unfold a_zero t_none
    by_cases h : k < 3
    · rw [if_neg (by omega), if_pos h, upd_at, if_neg (by omega), upd_at, if_neg (by omega)]
      rfl
    · rw [if_pos (by omega), if_neg h]
  · unfold a_zero
    rw [if_neg (by omega)]
theorem pX12_sends {E : hk_E} {F : Nat} {S : hk_S} {t : Nat} (hE : hk_Sh 231 E) (hF : 10 ≤ F) (ht : t < 8) : mX12_sends E F S 221 (nI t) = some (t_worth (a_t (S 222) t), va_up S 222 (a_send (S 222) t)) := by
  unfold mX12_sends
  rw [pX12_of_3 hE ht, Option.bind_some, pX12_markOf hE ht, Option.bind_some, hk_let_eq, rE_221_0 hE, Option.bind_some, if_pos (kE_222 hE), lE_222 hE, if_pos (show hk_ok 14 107 by decide), if_pos (show hk_ok 14 107 by decide), hk_let_eq, k_hk_up, show (12 : Int32) = nI 12 from rfl, pX12_empties hE hF ht (by omega), Option.bind_some]
  simp only [va_up_self, k_upup]
  rfl
theorem pX12_puts {E : hk_E} {F : Nat} {S : hk_S} {q : Nat} {x y z : Int32} (hE : hk_Sh 231 E) (hn : S 222 10 = nI q) (hq : q < 6) : mX12_puts E F S 221 x y z = some (nI q, va_up S 222 (a_put (S 222) q x y z)) := by
  have e0 : (89 : Int32) + 3 * nI q + 0 = nI (89 + 3 * q + 0) := k_idp q 0
  have e1 : (89 : Int32) + 3 * nI q + 1 = nI (89 + 3 * q + 1) := k_idp q 1
  have e2 : (89 : Int32) + 3 * nI q + 2 = nI (89 + 3 * q + 2) := k_idp q 2
  have e10 : upd (upd (upd (S 222) (89 + 3 * q + 0) x) (89 + 3 * q + 1) y) (89 + 3 * q + 2) z 10 = nI q := by
    simp only [upd_at]
    rw [if_neg (by omega), if_neg (by omega), if_neg (by omega), hn]
  unfold mX12_puts
  rw [rE_221_0 hE, Option.bind_some, if_pos (kE_222 hE), lE_222 hE, if_pos (show hk_ok 10 107 by decide), hn]
  simp only [hk_let_eq, e0, e1, e2]
  rw [if_pos (hk_okI (by omega) (by omega)), if_pos (hk_okI (by omega) (by omega)), if_pos (hk_okI (by omega) (by omega)), nI_clamp (by omega), nI_clamp (by omega), nI_clamp (by omega)]
  simp only [if_pos (show hk_ok 10 107 by decide), k_hk_up, va_up_self, k_upup, e10]
  unfold a_put
  rw [hn, nI_1]
  simp [upd_at, nI_pred]
theorem pX12_sets {E : hk_E} {F : Nat} {S : hk_S} {i : Nat} {x : Int32} (hE : hk_Sh 231 E) (hi : i < 107) : mX12_sets E F S 221 (nI i) x = some (S 222 i, va_up S 222 (upd (S 222) i x)) := by
  unfold mX12_sets
  rw [rE_221_0 hE, Option.bind_some, if_pos (kE_222 hE), lE_222 hE, if_pos (hk_okI (by omega) (by omega)), hk_let_eq, if_pos (hk_okI (by omega) (by omega)), nI_clamp (by omega)]
  rfl
theorem a_fan_upd (w : Nat → Int32) (t : Nat) (s : Int32) : upd w (17 + 9 * t + 1) s = a_fan w t s := by
  unfold a_fan
  refine a_setT_of (fun k hk => ?_) (fun i hi => ?_)
  · rw [upd_in, upd_at]
  · rw [upd_at, if_neg (by omega)]
