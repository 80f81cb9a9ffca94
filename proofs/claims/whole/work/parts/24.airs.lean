theorem pJ9_min {E : hk_E} {F : Nat} {S : hk_S} {x y : Int32} : mJ9_min_7cf53 E F S x y = some (if x ≤ y then x else y, S) := by
  unfold mJ9_min_7cf53
  by_cases h : x ≤ y
  · by_cases h2 : y < x
    · grind
    · simp [h, h2]
  · have : y < x := by grind
    simp [h, this]
theorem k_row_ext {f g : Nat → Int32} (t : Nat) (h15 : f 15 = g 15) (hk : ∀ k, k < 9 → f (17 + 9 * t + k) = g (17 + 9 * t + k)) (ho : ∀ i, i ≠ 15 → (i < 17 + 9 * t ∨ 17 + 9 * t + 9 ≤ i) → f i = g i) : f = g := by
  funext i
  by_cases h1 : i = 15
  · rw [h1]; exact h15
  · by_cases h2 : i < 17 + 9 * t ∨ 17 + 9 * t + 9 ≤ i
    · exact ho i h1 h2
    · obtain ⟨k, hk1, rfl⟩ : ∃ k, k < 9 ∧ i = 17 + 9 * t + k := ⟨i - (17 + 9 * t), by omega, by omega⟩
      exact hk k hk1
/-- an hour of one trough, in the row -/
def a_airs (w : Nat → Int32) (t : Nat) (d : Int32) : Nat → Int32 := fun i => if i = 15 then w 15 + t_water (a_t w t) d else if 17 + 9 * t ≤ i ∧ i < 17 + 9 * t + 9 then t_pass (a_t w t) d (i - (17 + 9 * t)) else w i
theorem a_airs_15 (w : Nat → Int32) (t : Nat) (d : Int32) : a_airs w t d 15 = w 15 + t_water (a_t w t) d := rfl
theorem a_airs_in (w : Nat → Int32) (t : Nat) (d : Int32) {k : Nat} (hk : k < 9) : a_airs w t d (17 + 9 * t + k) = t_pass (a_t w t) d k := by
  unfold a_airs
  rw [if_neg (by omega), if_pos (by omega), Nat.add_sub_cancel_left]
theorem a_airs_out (w : Nat → Int32) (t : Nat) (d : Int32) {i : Nat} (h1 : i ≠ 15) (h2 : i < 17 + 9 * t ∨ 17 + 9 * t + 9 ≤ i) : a_airs w t d i = w i := by
  unfold a_airs
  rw [if_neg h1, if_neg (by omega)]
theorem a_dries_15 (w : Nat → Int32) (t j : Nat) (x : Int32) : a_dries w t j x 15 = w 15 + (a_t w t j - a_lo (a_t w t j - x)) * a_t w t 3 := rfl
theorem a_dries_in (w : Nat → Int32) (t j : Nat) (x : Int32) (k : Nat) : a_dries w t j x (17 + 9 * t + k) = if k = j then a_lo (a_t w t j - x) else if k = 8 then a_t w t 8 - (a_t w t j - a_lo (a_t w t j - x)) * a_t w t 3 else a_t w t k := by
  unfold a_dries
  rw [if_neg (by omega)]
  by_cases h : k = j
  · subst h
    simp
  · rw [if_neg (by omega), if_neg h]
    by_cases h8 : k = 8
    · subst h8
      simp
    · rw [if_neg (by omega), if_neg h8]
      rfl
theorem a_dries_out (w : Nat → Int32) (t j : Nat) (x : Int32) {i : Nat} (hj : j < 9) (h1 : i ≠ 15) (h2 : i < 17 + 9 * t ∨ 17 + 9 * t + 9 ≤ i) : a_dries w t j x i = w i := by
  unfold a_dries
  rw [if_neg h1, if_neg (by omega), if_neg (by omega)]
theorem a_t_eq (w : Nat → Int32) (t k : Nat) : w (17 + 9 * t + k) = a_t w t k := rfl
theorem upd_in (w : Nat → Int32) (t k j : Nat) (x : Int32) : upd w (17 + 9 * t + j) x (17 + 9 * t + k) = if k = j then x else a_t w t k := by
  rw [upd_at]
  by_cases h : k = j
  · subst h
    simp
  · rw [if_neg (by omega), if_neg h]
    rfl
theorem upd_t (w : Nat → Int32) (t k j : Nat) (x : Int32) : a_t (upd w (17 + 9 * t + j) x) t k = if k = j then x else a_t w t k := upd_in w t k j x
theorem dries_t (w : Nat → Int32) (t k j : Nat) (x : Int32) : a_t (a_dries w t j x) t k = if k = j then a_lo (a_t w t j - x) else if k = 8 then a_t w t 8 - (a_t w t j - a_lo (a_t w t j - x)) * a_t w t 3 else a_t w t k := a_dries_in w t j x k
set_option maxHeartbeats 8000000 in
theorem pX12_airs {E : hk_E} {F : Nat} {S : hk_S} {t : Nat} {h : Int32} (hE : hk_Sh 231 E) (hF : 5 ≤ F) (h4 : 0 ≤ S 222 5) (h5 : S 222 5 ≤ 3) (ht : t < 8) (hk : t_ok (a_t (S 222) t)) : mX12_airs E F S 221 (nI t) h = some (va_up S 222 (a_airs (S 222) t (a_dry (S 222) h))) := by
  have hk0 := hk
  obtain ⟨k2, ⟨c0, c1⟩, ⟨s0, s1⟩, ⟨b0, b1⟩, ke, kl⟩ := hk
  unfold mX12_airs
  rw [pX12_isEmpty hE ht, Option.bind_some]
  by_cases hv : a_t (S 222) t 3 = 0
  · have e : a_airs (S 222) t (a_dry (S 222) h) = S 222 := by
      refine k_row_ext t ?_ (fun k hk => ?_) (fun i h1 h2 => a_airs_out _ _ _ h1 h2)
      · rw [a_airs_15]
        simp [t_water, hv]
      · rw [a_airs_in _ _ _ hk]
        simp [t_pass, hv]
        rfl
    rw [e, k_up_same]
    simp [hv]
  · have hc : ¬ a_t (S 222) t 0 = 0 := by grind
    have hl := pX12_lossIn (F := F) (h := h) hE hF h4 h5 ht hc hk0
    generalize hd : a_dry (S 222) h = d at hl ⊢
    simp only [hv, if_false, if_true]
    rw [pX12_of_1 hE ht, Option.bind_some]
    generalize hw : S 222 = w at *
    by_cases hs : a_t w t 1 ≤ 0
    · have hs2 : ¬ 0 < a_t w t 1 := by grind
      have hwat : t_water (a_t w t) d = 0 := by
        unfold t_water t_low t_high
        simp [hs2, hv]
        grind
      simp only [hs, if_true]
      rw [pX12_of_6 hE ht, Option.bind_some, pJ9_min, Option.bind_some, pX12_to_6 hE ht, Option.bind_some, pX12_of_7 hE ht, Option.bind_some, pX12_of_6 hE ht, Option.bind_some]
      simp only [va_up_self, hw, upd_t]
      have hwm : (if (20 : Int32) ≤ a_t w t 6 + 1 then 20 else a_t w t 6 + 1) = t_warm (a_t w t) := by
        unfold t_warm
        rw [if_neg hs2]
        grind
      simp only [hwm, if_true, show ¬ ((7 : Nat) = 6) by decide, if_false]
      have fin : ∀ x : Int32, x = a_t w t 7 + (if 10 ≤ t_warm (a_t w t) then 1 else 0) → (mX12_to E F (va_up S 222 (upd w (17 + 9 * t + 6) (t_warm (a_t w t)))) 221 (nI t) 7 x).bind (fun r => some r) = some (va_up S 222 (a_airs w t d)) := by
        intro x hx
        rw [pX12_to_7 hE ht, Option.bind_some, k_upup, va_up_self]
        congr 2
        refine k_row_ext t ?_ (fun k hk => ?_) (fun i h1 h2 => ?_)
        · rw [a_airs_15, hwat, upd_at, if_neg (by omega), upd_at, if_neg (by omega)]
          simp
        · rw [a_airs_in _ _ _ hk, upd_in, upd_t]
          have : k = 0 ∨ k = 1 ∨ k = 2 ∨ k = 3 ∨ k = 4 ∨ k = 5 ∨ k = 6 ∨ k = 7 ∨ k = 8 := by omega
          rcases this with q | q | q | q | q | q | q | q | q <;> subst q <;> simp [t_pass, hv, t_low, t_high, hs2, hx, hwat]
        · rw [a_airs_out _ _ _ h1 h2, upd_at, if_neg (by omega), upd_at, if_neg (by omega)]
      by_cases hten : t_warm (a_t w t) < 10
      · rw [if_pos hten]
        exact fin _ (by rw [if_neg (by grind)])
      · rw [if_neg hten]
        exact fin _ (by rw [if_pos (by grind)])
    · have hs2 : 0 < a_t w t 1 := by grind
      simp only [hs, if_false]
      rw [hl, Option.bind_some, pX12_of_2 hE ht, Option.bind_some]
      simp only [hw]
      have hwm : (if (0 : Int32) < a_t w t 6 - a_t w t 1 then a_t w t 6 - a_t w t 1 else 0) = t_warm (a_t w t) := by
        obtain ⟨-, -, ⟨m0, m1⟩⟩ := kl (by grind)
        unfold t_warm
        rw [if_pos hs2]
        grind
      -- the end, behind the two layers: R is the row then
      have fin : ∀ R : Nat → Int32, a_t R t 6 = a_t w t 6 → a_t R t 1 = a_t w t 1 → a_t R t 7 = a_t w t 7 → (∀ x : Int32, x = a_t w t 7 + (if 10 ≤ t_warm (a_t w t) then 1 else 0) → upd (upd R (17 + 9 * t + 6) (t_warm (a_t w t))) (17 + 9 * t + 7) x = a_airs w t d) →
          ((mX12_of E F (va_up S 222 R) 221 (nI t) 6).bind (fun r20 => (mX12_of E F r20.2 221 (nI t) 1).bind (fun r21 => (mJ9_max_7cf53 E F r21.2 0 (r20.1 - r21.1)).bind (fun r22 => (mX12_to E F r22.2 221 (nI t) 6 r22.1).bind (fun r23 => (mX12_of E F r23 221 (nI t) 7).bind (fun r24 => (mX12_of E F r24.2 221 (nI t) 6).bind (fun r25 => if r25.1 < 10 then ((mX12_to E F r25.2 221 (nI t) 7 (r24.1 + 0)).bind (fun r27 => some (r27))) else ((mX12_to E F r25.2 221 (nI t) 7 (r24.1 + 1)).bind (fun r28 => some (r28))))))))))
            = some (va_up S 222 (a_airs w t d)) := by
        intro R q6 q1 q7 hfin
        rw [pX12_of_6 hE ht, Option.bind_some, pX12_of_1 hE ht, Option.bind_some, pJ9_max, Option.bind_some, pX12_to_6 hE ht, Option.bind_some, pX12_of_7 hE ht, Option.bind_some, pX12_of_6 hE ht, Option.bind_some]
        simp only [va_up_self, upd_t, k_upup, q6, q1, q7, hwm, if_true, show ¬ ((7 : Nat) = 6) by decide, if_false]
        by_cases hten : t_warm (a_t w t) < 10
        · rw [if_pos hten, pX12_to_7 hE ht, Option.bind_some, k_upup, va_up_self, hfin _ (by rw [if_neg (by grind)])]
        · rw [if_neg hten, pX12_to_7 hE ht, Option.bind_some, k_upup, va_up_self, hfin _ (by rw [if_pos (by grind)])]
      by_cases hdn : a_t w t 2 = 1
      · simp only [hdn, not_true_eq_false, if_false]
        rw [pX12_dries_5 hE ht, Option.bind_some, pX12_dries_4 hE ht, Option.bind_some]
        simp only [va_up_self, k_upup, hw]
        refine fin _ (by simp [dries_t]) (by simp [dries_t]) (by simp [dries_t]) (fun x hx => ?_)
        refine k_row_ext t ?_ (fun k hk => ?_) (fun i h1 h2 => ?_)
        · rw [a_airs_15, upd_at, if_neg (by omega), upd_at, if_neg (by omega), a_dries_15, a_dries_15]
          simp only [dries_t, show ¬ ((4 : Nat) = 5) by decide, show ¬ ((4 : Nat) = 8) by decide, show ¬ ((3 : Nat) = 5) by decide, show ¬ ((3 : Nat) = 8) by decide, if_false]
          simp only [t_water, hv, if_false, t_low, t_high, hs2, hdn, if_true]
          grind
        · rw [a_airs_in _ _ _ hk, upd_in, upd_t, dries_t]
          have : k = 0 ∨ k = 1 ∨ k = 2 ∨ k = 3 ∨ k = 4 ∨ k = 5 ∨ k = 6 ∨ k = 7 ∨ k = 8 := by omega
          rcases this with q | q | q | q | q | q | q | q | q <;> subst q <;> simp [t_pass, hv, t_low, t_high, hs2, hx, hdn, dries_t, t_water]
          grind
        · rw [a_airs_out _ _ _ h1 h2, upd_at, if_neg (by omega), upd_at, if_neg (by omega), a_dries_out _ _ _ _ (by decide) h1 h2, a_dries_out _ _ _ _ (by decide) h1 h2]
      · simp only [hdn, not_false_eq_true, if_true]
        rw [pX12_dries_4 hE ht, Option.bind_some, pX12_dries_5 hE ht, Option.bind_some]
        simp only [va_up_self, k_upup, hw]
        refine fin _ (by simp [dries_t]) (by simp [dries_t]) (by simp [dries_t]) (fun x hx => ?_)
        refine k_row_ext t ?_ (fun k hk => ?_) (fun i h1 h2 => ?_)
        · rw [a_airs_15, upd_at, if_neg (by omega), upd_at, if_neg (by omega), a_dries_15, a_dries_15]
          simp only [dries_t, show ¬ ((5 : Nat) = 4) by decide, show ¬ ((5 : Nat) = 8) by decide, show ¬ ((3 : Nat) = 4) by decide, show ¬ ((3 : Nat) = 8) by decide, if_false]
          simp only [t_water, hv, if_false, t_low, t_high, hs2, hdn, if_true]
          grind
        · rw [a_airs_in _ _ _ hk, upd_in, upd_t, dries_t]
          have : k = 0 ∨ k = 1 ∨ k = 2 ∨ k = 3 ∨ k = 4 ∨ k = 5 ∨ k = 6 ∨ k = 7 ∨ k = 8 := by omega
          rcases this with q | q | q | q | q | q | q | q | q <;> subst q <;> simp [t_pass, hv, t_low, t_high, hs2, hx, hdn, dries_t, t_water]
          grind
        · rw [a_airs_out _ _ _ h1 h2, upd_at, if_neg (by omega), upd_at, if_neg (by omega), a_dries_out _ _ _ _ (by decide) h1 h2, a_dries_out _ _ _ _ (by decide) h1 h2]
