/-! the model's own rows: every method is an operation on the row of numbers -/
theorem nI_mul (a b : Nat) : nI a * nI b = nI (a * b) := (Int32.ofNat_mul a b).symm
theorem k_idx (t j : Nat) : (17 : Int32) + 9 * nI t + nI j = nI (17 + 9 * t + j) := by
  show nI 17 + nI 9 * nI t + nI j = _
  rw [nI_mul, nI_add, nI_add]
theorem k_idp (t j : Nat) : (89 : Int32) + 3 * nI t + nI j = nI (89 + 3 * t + j) := by
  show nI 89 + nI 3 * nI t + nI j = _
  rw [nI_mul, nI_add, nI_add]
def a_t (w : Nat → Int32) (t : Nat) : Nat → Int32 := fun j => w (17 + 9 * t + j)
def a_p (w : Nat → Int32) (p : Nat) : Nat → Int32 := fun j => w (89 + 3 * p + j)
theorem k_upup (S : hk_S) (a : Nat) (I J : Nat → Int32) : va_up (va_up S a I) a J = va_up S a J := by
  funext b
  by_cases h : b = a
  · subst h; rw [va_up_self, va_up_self]
  · rw [va_up_ne _ _ h, va_up_ne _ _ h, va_up_ne _ _ h]
theorem k_up_same (S : hk_S) (a : Nat) : va_up S a (S a) = S := by
  funext b
  by_cases h : b = a
  · subst h; rw [va_up_self]
  · rw [va_up_ne _ _ h]
theorem k_hk_up (S : hk_S) (a k : Nat) (v : Int32) : hk_up S a k v = va_up S a (upd (S a) k v) := rfl
theorem upd_at (f : Nat → Int32) (k : Nat) (v : Int32) (j : Nat) : upd f k v j = if j = k then v else f j := rfl
theorem pX12_in {E : hk_E} {F : Nat} {S : hk_S} {x lo hi : Int32} : mX12_in E F S x lo hi = some (if lo ≤ x ∧ x ≤ hi then 1 else 0, S) := by
  unfold mX12_in
  by_cases h1 : x < lo
  · have : ¬ lo ≤ x := by grind
    simp [h1, this]
  · have h1' : lo ≤ x := by grind
    by_cases h2 : hi < x
    · have : ¬ x ≤ hi := by grind
      simp [h1, h1', h2, this]
    · have : x ≤ hi := by grind
      simp [h1, h1', h2, this]
theorem pJ9_max {E : hk_E} {F : Nat} {S : hk_S} {x y : Int32} : mJ9_max_7cf53 E F S x y = some (if x < y then y else x, S) := by
  unfold mJ9_max_7cf53
  by_cases h : x < y <;> simp [h]
theorem pX12_of_0 {E : hk_E} {F : Nat} {S : hk_S} {t : Nat} (hE : hk_Sh 231 E) (ht : t < 8) : mX12_of E F S 221 (nI t) 0 = some (a_t (S 222) t 0, S) := by
  unfold mX12_of
  have e : (17 : Int32) + 9 * nI t + 0 = nI (17 + 9 * t + 0) := k_idx t 0
  rw [e, rE_221_0 hE, Option.bind_some, if_pos (kE_222 hE), lE_222 hE, if_pos (hk_okI (by omega) (by omega)), nI_clamp (by omega)]
  rfl
theorem pX12_to_0 {E : hk_E} {F : Nat} {S : hk_S} {t : Nat} {x : Int32} (hE : hk_Sh 231 E) (ht : t < 8) : mX12_to E F S 221 (nI t) 0 x = some (va_up S 222 (upd (S 222) (17 + 9 * t + 0) x)) := by
  unfold mX12_to
  have e : (17 : Int32) + 9 * nI t + 0 = nI (17 + 9 * t + 0) := k_idx t 0
  rw [e, rE_221_0 hE, Option.bind_some, if_pos (kE_222 hE), lE_222 hE, if_pos (hk_okI (by omega) (by omega)), nI_clamp (by omega)]
  rfl
theorem pX12_of_1 {E : hk_E} {F : Nat} {S : hk_S} {t : Nat} (hE : hk_Sh 231 E) (ht : t < 8) : mX12_of E F S 221 (nI t) 1 = some (a_t (S 222) t 1, S) := by
  unfold mX12_of
  have e : (17 : Int32) + 9 * nI t + 1 = nI (17 + 9 * t + 1) := k_idx t 1
  rw [e, rE_221_0 hE, Option.bind_some, if_pos (kE_222 hE), lE_222 hE, if_pos (hk_okI (by omega) (by omega)), nI_clamp (by omega)]
  rfl
theorem pX12_to_1 {E : hk_E} {F : Nat} {S : hk_S} {t : Nat} {x : Int32} (hE : hk_Sh 231 E) (ht : t < 8) : mX12_to E F S 221 (nI t) 1 x = some (va_up S 222 (upd (S 222) (17 + 9 * t + 1) x)) := by
  unfold mX12_to
  have e : (17 : Int32) + 9 * nI t + 1 = nI (17 + 9 * t + 1) := k_idx t 1
  rw [e, rE_221_0 hE, Option.bind_some, if_pos (kE_222 hE), lE_222 hE, if_pos (hk_okI (by omega) (by omega)), nI_clamp (by omega)]
  rfl
theorem pX12_of_2 {E : hk_E} {F : Nat} {S : hk_S} {t : Nat} (hE : hk_Sh 231 E) (ht : t < 8) : mX12_of E F S 221 (nI t) 2 = some (a_t (S 222) t 2, S) := by
  unfold mX12_of
  have e : (17 : Int32) + 9 * nI t + 2 = nI (17 + 9 * t + 2) := k_idx t 2
  rw [e, rE_221_0 hE, Option.bind_some, if_pos (kE_222 hE), lE_222 hE, if_pos (hk_okI (by omega) (by omega)), nI_clamp (by omega)]
  rfl
theorem pX12_to_2 {E : hk_E} {F : Nat} {S : hk_S} {t : Nat} {x : Int32} (hE : hk_Sh 231 E) (ht : t < 8) : mX12_to E F S 221 (nI t) 2 x = some (va_up S 222 (upd (S 222) (17 + 9 * t + 2) x)) := by
  unfold mX12_to
  have e : (17 : Int32) + 9 * nI t + 2 = nI (17 + 9 * t + 2) := k_idx t 2
  rw [e, rE_221_0 hE, Option.bind_some, if_pos (kE_222 hE), lE_222 hE, if_pos (hk_okI (by omega) (by omega)), nI_clamp (by omega)]
  rfl
theorem pX12_of_3 {E : hk_E} {F : Nat} {S : hk_S} {t : Nat} (hE : hk_Sh 231 E) (ht : t < 8) : mX12_of E F S 221 (nI t) 3 = some (a_t (S 222) t 3, S) := by
  unfold mX12_of
  have e : (17 : Int32) + 9 * nI t + 3 = nI (17 + 9 * t + 3) := k_idx t 3
  rw [e, rE_221_0 hE, Option.bind_some, if_pos (kE_222 hE), lE_222 hE, if_pos (hk_okI (by omega) (by omega)), nI_clamp (by omega)]
  rfl
theorem pX12_to_3 {E : hk_E} {F : Nat} {S : hk_S} {t : Nat} {x : Int32} (hE : hk_Sh 231 E) (ht : t < 8) : mX12_to E F S 221 (nI t) 3 x = some (va_up S 222 (upd (S 222) (17 + 9 * t + 3) x)) := by
  unfold mX12_to
  have e : (17 : Int32) + 9 * nI t + 3 = nI (17 + 9 * t + 3) := k_idx t 3
  rw [e, rE_221_0 hE, Option.bind_some, if_pos (kE_222 hE), lE_222 hE, if_pos (hk_okI (by omega) (by omega)), nI_clamp (by omega)]
  rfl
theorem pX12_of_4 {E : hk_E} {F : Nat} {S : hk_S} {t : Nat} (hE : hk_Sh 231 E) (ht : t < 8) : mX12_of E F S 221 (nI t) 4 = some (a_t (S 222) t 4, S) := by
  unfold mX12_of
  have e : (17 : Int32) + 9 * nI t + 4 = nI (17 + 9 * t + 4) := k_idx t 4
  rw [e, rE_221_0 hE, Option.bind_some, if_pos (kE_222 hE), lE_222 hE, if_pos (hk_okI (by omega) (by omega)), nI_clamp (by omega)]
  rfl
theorem pX12_to_4 {E : hk_E} {F : Nat} {S : hk_S} {t : Nat} {x : Int32} (hE : hk_Sh 231 E) (ht : t < 8) : mX12_to E F S 221 (nI t) 4 x = some (va_up S 222 (upd (S 222) (17 + 9 * t + 4) x)) := by
  unfold mX12_to
  have e : (17 : Int32) + 9 * nI t + 4 = nI (17 + 9 * t + 4) := k_idx t 4
  rw [e, rE_221_0 hE, Option.bind_some, if_pos (kE_222 hE), lE_222 hE, if_pos (hk_okI (by omega) (by omega)), nI_clamp (by omega)]
  rfl
theorem pX12_of_5 {E : hk_E} {F : Nat} {S : hk_S} {t : Nat} (hE : hk_Sh 231 E) (ht : t < 8) : mX12_of E F S 221 (nI t) 5 = some (a_t (S 222) t 5, S) := by
  unfold mX12_of
  have e : (17 : Int32) + 9 * nI t + 5 = nI (17 + 9 * t + 5) := k_idx t 5
  rw [e, rE_221_0 hE, Option.bind_some, if_pos (kE_222 hE), lE_222 hE, if_pos (hk_okI (by omega) (by omega)), nI_clamp (by omega)]
  rfl
theorem pX12_to_5 {E : hk_E} {F : Nat} {S : hk_S} {t : Nat} {x : Int32} (hE : hk_Sh 231 E) (ht : t < 8) : mX12_to E F S 221 (nI t) 5 x = some (va_up S 222 (upd (S 222) (17 + 9 * t + 5) x)) := by
  unfold mX12_to
  have e : (17 : Int32) + 9 * nI t + 5 = nI (17 + 9 * t + 5) := k_idx t 5
  rw [e, rE_221_0 hE, Option.bind_some, if_pos (kE_222 hE), lE_222 hE, if_pos (hk_okI (by omega) (by omega)), nI_clamp (by omega)]
  rfl
theorem pX12_of_6 {E : hk_E} {F : Nat} {S : hk_S} {t : Nat} (hE : hk_Sh 231 E) (ht : t < 8) : mX12_of E F S 221 (nI t) 6 = some (a_t (S 222) t 6, S) := by
  unfold mX12_of
  have e : (17 : Int32) + 9 * nI t + 6 = nI (17 + 9 * t + 6) := k_idx t 6
  rw [e, rE_221_0 hE, Option.bind_some, if_pos (kE_222 hE), lE_222 hE, if_pos (hk_okI (by omega) (by omega)), nI_clamp (by omega)]
  rfl
theorem pX12_to_6 {E : hk_E} {F : Nat} {S : hk_S} {t : Nat} {x : Int32} (hE : hk_Sh 231 E) (ht : t < 8) : mX12_to E F S 221 (nI t) 6 x = some (va_up S 222 (upd (S 222) (17 + 9 * t + 6) x)) := by
  unfold mX12_to
  have e : (17 : Int32) + 9 * nI t + 6 = nI (17 + 9 * t + 6) := k_idx t 6
  rw [e, rE_221_0 hE, Option.bind_some, if_pos (kE_222 hE), lE_222 hE, if_pos (hk_okI (by omega) (by omega)), nI_clamp (by omega)]
  rfl
theorem pX12_of_7 {E : hk_E} {F : Nat} {S : hk_S} {t : Nat} (hE : hk_Sh 231 E) (ht : t < 8) : mX12_of E F S 221 (nI t) 7 = some (a_t (S 222) t 7, S) := by
  unfold mX12_of
  have e : (17 : Int32) + 9 * nI t + 7 = nI (17 + 9 * t + 7) := k_idx t 7
  rw [e, rE_221_0 hE, Option.bind_some, if_pos (kE_222 hE), lE_222 hE, if_pos (hk_okI (by omega) (by omega)), nI_clamp (by omega)]
  rfl
theorem pX12_to_7 {E : hk_E} {F : Nat} {S : hk_S} {t : Nat} {x : Int32} (hE : hk_Sh 231 E) (ht : t < 8) : mX12_to E F S 221 (nI t) 7 x = some (va_up S 222 (upd (S 222) (17 + 9 * t + 7) x)) := by
  unfold mX12_to
  have e : (17 : Int32) + 9 * nI t + 7 = nI (17 + 9 * t + 7) := k_idx t 7
  rw [e, rE_221_0 hE, Option.bind_some, if_pos (kE_222 hE), lE_222 hE, if_pos (hk_okI (by omega) (by omega)), nI_clamp (by omega)]
  rfl
theorem pX12_of_8 {E : hk_E} {F : Nat} {S : hk_S} {t : Nat} (hE : hk_Sh 231 E) (ht : t < 8) : mX12_of E F S 221 (nI t) 8 = some (a_t (S 222) t 8, S) := by
  unfold mX12_of
  have e : (17 : Int32) + 9 * nI t + 8 = nI (17 + 9 * t + 8) := k_idx t 8
  rw [e, rE_221_0 hE, Option.bind_some, if_pos (kE_222 hE), lE_222 hE, if_pos (hk_okI (by omega) (by omega)), nI_clamp (by omega)]
  rfl
theorem pX12_to_8 {E : hk_E} {F : Nat} {S : hk_S} {t : Nat} {x : Int32} (hE : hk_Sh 231 E) (ht : t < 8) : mX12_to E F S 221 (nI t) 8 x = some (va_up S 222 (upd (S 222) (17 + 9 * t + 8) x)) := by
  unfold mX12_to
  have e : (17 : Int32) + 9 * nI t + 8 = nI (17 + 9 * t + 8) := k_idx t 8
  rw [e, rE_221_0 hE, Option.bind_some, if_pos (kE_222 hE), lE_222 hE, if_pos (hk_okI (by omega) (by omega)), nI_clamp (by omega)]
  rfl
theorem pX12_isEmpty {E : hk_E} {F : Nat} {S : hk_S} {t : Nat} (hE : hk_Sh 231 E) (ht : t < 8) : mX12_isEmpty E F S 221 (nI t) = some (if a_t (S 222) t 3 = 0 then 1 else 0, S) := by
  unfold mX12_isEmpty
  rw [pX12_of_3 hE ht]
  by_cases h : a_t (S 222) t 3 = 0 <;> simp [h]
def a_wetb (w : Nat → Int32) (h : Int32) : Bool := (List.range 3).any fun m => decide (nI m < w 5) && (decide (0 ≤ h / 24 - w (6 + m)) && decide (h / 24 - w (6 + m) ≤ 6))
def a_hum (w : Nat → Int32) (h : Int32) : Int32 := if a_wetb w h = true then 95 else w 2
def a_dry (w : Nat → Int32) (h : Int32) : Int32 := 100 - a_hum w h + 5 * w 1
/-- from the monsoon z on -/
def a_wetf (w : Nat → Int32) (h : Int32) (z : Nat) : Bool := (List.range 3).any fun m => decide (z ≤ m) && (decide (nI m < w 5) && (decide (0 ≤ h / 24 - w (6 + m)) && decide (h / 24 - w (6 + m) ≤ 6)))
theorem a_wetf0 (w : Nat → Int32) (h : Int32) : a_wetf w h 0 = a_wetb w h := by simp [a_wetf, a_wetb]
theorem a_wetf_end {w : Nat → Int32} {h : Int32} {z : Nat} (hz : w 5 ≤ nI z) (h3 : w 5 ≤ 3) (h0 : 0 ≤ w 5) : a_wetf w h z = false := by
  obtain ⟨n, hn, e⟩ := nI_of2 (M := 3) (n := 3) (by decide) (by grind) h3
  unfold a_wetf
  rw [e] at hz ⊢
  rw [Bool.eq_false_iff]
  intro hq
  obtain ⟨m, hm, hq⟩ := List.any_eq_true.mp hq
  have hm3 := List.mem_range.mp hm
  simp only [Bool.and_eq_true, decide_eq_true_eq] at hq
  have h1 := (nI_ltI (by omega) (by omega)).mp hq.2.1
  by_cases hzb : z < 2 ^ 31
  · have h2 := (nI_leI (by omega) hzb).mp hz
    omega
  · omega
theorem a_wetf_step {w : Nat → Int32} {h : Int32} {z : Nat} (hz : z < 3) (hn : nI z < w 5) : a_wetf w h z = ((decide (0 ≤ h / 24 - w (6 + z)) && decide (h / 24 - w (6 + z) ≤ 6)) || a_wetf w h (z + 1)) := by
  unfold a_wetf
  have hr : List.range 3 = [0, 1, 2] := by decide
  rw [hr]
  have : z = 0 ∨ z = 1 ∨ z = 2 := by omega
  rcases this with q | q | q <;> subst q <;> simp [hn]
theorem pX12_isWet_2 {E : hk_E} {F : Nat} {h : Int32} (hE : hk_Sh 231 E) : ∀ (d z f : Nat) (S : hk_S), z + d = 4 → d < f → z ≤ 3 → 0 ≤ S 222 5 → S 222 5 ≤ 3 → mX12_isWet_2 E F 221 h (fun S9 _ => some (0, S9)) f S (nI z) = some (if a_wetf (S 222) h z = true then 1 else 0, S) := by
  intro d
  induction d with
  | zero => intro z f S h1 h2 h3; omega
  | succ d ih =>
    intro z f S h1 h2 h3 h4 h5
    obtain ⟨f, rfl⟩ : ∃ g, f = g + 1 := ⟨f - 1, by omega⟩
    rw [mX12_isWet_2]
    dsimp only
    rw [rE_221_0 hE, Option.bind_some, if_pos (kE_222 hE), lE_222 hE, if_pos (show hk_ok 5 107 by decide)]
    by_cases hz : S 222 5 ≤ nI z
    · rw [if_pos hz, a_wetf_end hz h5 h4]
      simp
    · rw [if_neg hz]
      have hlt : nI z < S 222 5 := by grind
      have hz3 : z < 3 := by
        apply Classical.byContradiction
        intro q
        have : z = 3 := by omega
        subst this
        exact hz h5
      have e6 : (6 : Int32) + nI z = nI (6 + z) := nI_add 6 z
      rw [e6, if_pos (hk_okI (by omega) (by omega)), nI_clamp (by omega), pX12_in]
      rw [a_wetf_step hz3 hlt]
      by_cases hq : 0 ≤ h / 24 - S 222 (6 + z) ∧ h / 24 - S 222 (6 + z) ≤ 6
      · simp [hq.1, hq.2]
      · have hb : (decide (0 ≤ h / 24 - S 222 (6 + z)) && decide (h / 24 - S 222 (6 + z) ≤ 6)) = false := by
          rw [Bool.eq_false_iff]
          intro q
          simp at q
          exact hq q
        rw [hb, Bool.false_or, if_neg hq, Option.bind_some, if_pos rfl, hk_let_eq, nI_1]
        exact ih (z + 1) f S (by omega) (by omega) (by omega) h4 h5
theorem pX12_isWet {E : hk_E} {F : Nat} {S : hk_S} {h : Int32} (hE : hk_Sh 231 E) (hF : 5 ≤ F) (h4 : 0 ≤ S 222 5) (h5 : S 222 5 ≤ 3) : mX12_isWet E F S 221 h = some (if a_wetb (S 222) h = true then 1 else 0, S) := by
  unfold mX12_isWet
  have := pX12_isWet_2 (F := F) (h := h) hE 4 0 F S (by omega) (by omega) (by omega) h4 h5
  rw [a_wetf0] at this
  exact this
theorem pX12_humid {E : hk_E} {F : Nat} {S : hk_S} {h : Int32} (hE : hk_Sh 231 E) (hF : 5 ≤ F) (h4 : 0 ≤ S 222 5) (h5 : S 222 5 ≤ 3) : mX12_humid E F S 221 h = some (a_hum (S 222) h, S) := by
  unfold mX12_humid a_hum
  rw [pX12_isWet hE hF h4 h5, Option.bind_some]
  by_cases hw : a_wetb (S 222) h = true
  · simp [hw]
  · have hw2 : a_wetb (S 222) h = false := by simpa using hw
    rw [hw2]
    simp only [Bool.false_eq_true, if_false, if_true]
    rw [rE_221_0 hE, Option.bind_some, if_pos (kE_222 hE), lE_222 hE, if_pos (show hk_ok 2 107 by decide)]
theorem pX12_dry {E : hk_E} {F : Nat} {S : hk_S} {h : Int32} (hE : hk_Sh 231 E) (hF : 5 ≤ F) (h4 : 0 ≤ S 222 5) (h5 : S 222 5 ≤ 3) : mX12_dry E F S 221 h = some (a_dry (S 222) h, S) := by
  unfold mX12_dry a_dry
  rw [pX12_humid hE hF h4 h5, Option.bind_some, rE_221_0 hE, Option.bind_some, if_pos (kE_222 hE), lE_222 hE, if_pos (show hk_ok 1 107 by decide)]
theorem pX12_filled {E : hk_E} {F : Nat} {S : hk_S} {t : Nat} (hE : hk_Sh 231 E) (ht : t < 8) (hc : ¬ a_t (S 222) t 0 = 0) : mX12_filled E F S 221 (nI t) = some (t_fill (a_t (S 222) t), S) := by
  unfold mX12_filled t_fill
  rw [pX12_of_3 hE ht, Option.bind_some, pX12_of_0 hE ht, Option.bind_some, if_pos hc]
theorem pX12_lossIn {E : hk_E} {F : Nat} {S : hk_S} {t : Nat} {h : Int32} (hE : hk_Sh 231 E) (hF : 5 ≤ F) (h4 : 0 ≤ S 222 5) (h5 : S 222 5 ≤ 3) (ht : t < 8) (hc : ¬ a_t (S 222) t 0 = 0) (hk : t_ok (a_t (S 222) t)) : mX12_lossIn E F S 221 (nI t) h = some (t_loss (a_t (S 222) t) (a_dry (S 222) h), S) := by
  obtain ⟨f0, f1⟩ := t_fill_ok hk
  unfold mX12_lossIn t_loss
  rw [pX12_isEmpty hE ht, Option.bind_some]
  by_cases hv : a_t (S 222) t 3 = 0
  · simp [hv]
  · have hf2 : ¬ (100 + t_fill (a_t (S 222) t) = 0) := by grind
    simp only [hv, if_false, if_true]
    rw [pX12_of_1 hE ht, Option.bind_some, pX12_dry hE hF h4 h5, Option.bind_some, pX12_filled hE ht hc, Option.bind_some, if_pos hf2]
/-- one layer dries -/
def a_dries (w : Nat → Int32) (t j : Nat) (x : Int32) : Nat → Int32 := fun i => if i = 15 then w 15 + (a_t w t j - a_lo (a_t w t j - x)) * a_t w t 3 else if i = 17 + 9 * t + j then a_lo (a_t w t j - x) else if i = 17 + 9 * t + 8 then a_t w t 8 - (a_t w t j - a_lo (a_t w t j - x)) * a_t w t 3 else w i
theorem pJ9_lo {E : hk_E} {F : Nat} {S : hk_S} {y : Int32} : mJ9_max_7cf53 E F S 300 y = some (a_lo y, S) := by
  rw [pJ9_max]
  unfold a_lo
  by_cases h : 300 ≤ y
  · by_cases h2 : (300 : Int32) < y
    · simp [h, h2]
    · have : y = 300 := by grind
      simp [this]
  · have : ¬ (300 : Int32) < y := by grind
    simp [h, this]
theorem pX12_dries_4 {E : hk_E} {F : Nat} {S : hk_S} {t : Nat} {x : Int32} (hE : hk_Sh 231 E) (ht : t < 8) : mX12_dries E F S 221 (nI t) 4 x = some (va_up S 222 (a_dries (S 222) t 4 x)) := by
  unfold mX12_dries
  rw [pX12_of_4 hE ht, Option.bind_some, pJ9_lo, Option.bind_some, pX12_of_4 hE ht, Option.bind_some, pX12_of_3 hE ht, Option.bind_some, hk_let_eq, pX12_to_4 hE ht, Option.bind_some, pX12_of_8 hE ht, Option.bind_some, pX12_to_8 hE ht, Option.bind_some, rE_221_0 hE, Option.bind_some, if_pos (kE_222 hE), lE_222 hE, if_pos (show hk_ok 15 107 by decide), if_pos (show hk_ok 15 107 by decide), hk_let_eq, k_hk_up]
  simp only [va_up_self, k_upup]
  congr 2
  funext i
  simp only [upd_at, a_dries, a_t, va_up_self]
  by_cases h1 : i = 15
  · subst h1
    simp [show ¬ (15 = 17 + 9 * t + 4) by omega, show ¬ (15 = 17 + 9 * t + 8) by omega]
  · by_cases h2 : i = 17 + 9 * t + 4
    · subst h2
      simp [show ¬ (17 + 9 * t + 4 = 15) by omega]
    · by_cases h3 : i = 17 + 9 * t + 8
      · subst h3
        simp [show ¬ (17 + 9 * t + 8 = 15) by omega]
      · simp [h1, h2, h3]
theorem pX12_dries_5 {E : hk_E} {F : Nat} {S : hk_S} {t : Nat} {x : Int32} (hE : hk_Sh 231 E) (ht : t < 8) : mX12_dries E F S 221 (nI t) 5 x = some (va_up S 222 (a_dries (S 222) t 5 x)) := by
  unfold mX12_dries
  rw [pX12_of_5 hE ht, Option.bind_some, pJ9_lo, Option.bind_some, pX12_of_5 hE ht, Option.bind_some, pX12_of_3 hE ht, Option.bind_some, hk_let_eq, pX12_to_5 hE ht, Option.bind_some, pX12_of_8 hE ht, Option.bind_some, pX12_to_8 hE ht, Option.bind_some, rE_221_0 hE, Option.bind_some, if_pos (kE_222 hE), lE_222 hE, if_pos (show hk_ok 15 107 by decide), if_pos (show hk_ok 15 107 by decide), hk_let_eq, k_hk_up]
  simp only [va_up_self, k_upup]
  congr 2
  funext i
  simp only [upd_at, a_dries, a_t, va_up_self]
  by_cases h1 : i = 15
  · subst h1
    simp [show ¬ (15 = 17 + 9 * t + 5) by omega, show ¬ (15 = 17 + 9 * t + 8) by omega]
  · by_cases h2 : i = 17 + 9 * t + 5
    · subst h2
      simp [show ¬ (17 + 9 * t + 5 = 15) by omega]
    · by_cases h3 : i = 17 + 9 * t + 8
      · subst h3
        simp [show ¬ (17 + 9 * t + 8 = 15) by omega]
      · simp [h1, h2, h3]
