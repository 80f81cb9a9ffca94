theorem t_loss_nn {d : Int32} {v : Nat → Int32} (h : t_ok v) (h0 : 0 ≤ d) (h1 : d ≤ 130) : 0 ≤ t_loss v d ∧ t_loss v d ≤ 390 := by
  obtain ⟨f0, f1⟩ := t_fill_ok h
  obtain ⟨-, -, ⟨s0, s1⟩, -⟩ := h
  unfold t_loss
  by_cases hv : v 3 = 0
  · rw [if_pos hv]; decide
  · rw [if_neg hv]
    generalize t_fill v = f at *
    generalize v 1 = s at *
    have hf : 0 < 100 + f := by grind
    have e2 : (s * d * 60).toInt = s.toInt * d.toInt * 60 := by
      rw [Int32.le_iff_toInt_le] at s0 s1 h0 h1
      have q1 : (0 : Int32).toInt = 0 := by decide
      have q2 : (5 : Int32).toInt = 5 := by decide
      have q3 : (130 : Int32).toInt = 130 := by decide
      have q4 : (60 : Int32).toInt = 60 := by decide
      rw [q1] at s0 h0
      rw [q2] at s1
      rw [q3] at h1
      have m0 : 0 ≤ s.toInt * d.toInt := Int.mul_nonneg s0 h0
      have m1 : s.toInt * d.toInt ≤ 5 * 130 := Int.mul_le_mul s1 h1 h0 (by decide)
      have e1 : (s * d).toInt = s.toInt * d.toInt := by
        rw [Int32.toInt_mul]
        exact Int.bmod_eq_of_le (by omega) (by omega)
      rw [Int32.toInt_mul, e1, q4]
      exact Int.bmod_eq_of_le (by omega) (by omega)
    have hn : 0 ≤ (s * d * 60).toInt := by
      rw [e2]
      rw [Int32.le_iff_toInt_le] at s0 h0
      exact Int.mul_nonneg (Int.mul_nonneg s0 h0) (by decide)
    have hb : (s * d * 60).toInt ≤ 39000 := by
      rw [e2]
      rw [Int32.le_iff_toInt_le] at s0 s1 h0 h1
      have q1 : (0 : Int32).toInt = 0 := by decide
      have q2 : (5 : Int32).toInt = 5 := by decide
      have q3 : (130 : Int32).toInt = 130 := by decide
      have m1 : s.toInt * d.toInt ≤ 5 * 130 := Int.mul_le_mul (by rw [← q2]; exact s1) (by rw [← q3]; exact h1) (by rw [← q1]; exact h0) (by decide)
      omega
    have hx : 0 ≤ s * d * 60 := by
      rw [Int32.le_iff_toInt_le]
      exact hn
    rw [Int32.le_iff_toInt_le, Int32.le_iff_toInt_le, k_div hx hf]
    have hf2 : 100 ≤ (100 + f).toInt := by
      have : (100 : Int32) ≤ 100 + f := by grind
      rw [Int32.le_iff_toInt_le] at this
      exact this
    refine ⟨Int.ediv_nonneg hn (by omega), ?_⟩
    have q : (390 : Int32).toInt = 390 := by decide
    rw [q]
    refine Int.ediv_le_of_le_mul (by omega) ?_
    omega
/-- the class's loss -/
theorem pX10_lossAt {E : hk_E} {F : Nat} {S : hk_S} {a : Nat} {d : Int32} {v : Nat → Int32} (ht : hk_tr (S a) v) (hk : t_ok v) : mX10_lossAt E F S a d = some (t_loss v d, S) := by
  obtain ⟨f0, f1⟩ := t_fill_ok hk
  obtain ⟨u0, u1, u2, u3, u4, u5, u6, u7, u8, u9⟩ := ht
  obtain ⟨-, -, -, ⟨b0, b1⟩, -⟩ := hk
  have hf : 0 < 100 + t_fill v := by grind
  have hf2 : ¬ (100 + t_fill v = 0) := by grind
  unfold mX10_lossAt mX10_hasLeaf t_loss
  simp only [hk_let_eq, u3, u4, u1]
  by_cases hv : v 3 = 0
  · simp [hv]
  · have : ¬ v 3 ≤ 0 := by grind
    simp [hv, this, hf, hf2, u1]
theorem pX11_low {E : hk_E} {F : Nat} {S : hk_S} {x : Int32} : mX11_notBelowLowest E F S x = some (a_lo x, S) := by
  unfold mX11_notBelowLowest a_lo
  by_cases h : 300 ≤ x
  · simp [h]
  · simp [h]
set_option maxHeartbeats 4000000 in
theorem pX10_loseMoisture {E : hk_E} {F : Nat} {S : hk_S} {a : Nat} {x : Int32} : mX10_loseMoisture E F S a x = some (((S a 6 + S a 7 - a_lo (S a 6 - (if S a 2 = 0 then x / 2 else x)) - a_lo (S a 7 - (if S a 2 = 0 then x else x / 2))) * S a 3), hk_up (hk_up (hk_up S a 6 (a_lo (S a 6 - (if S a 2 = 0 then x / 2 else x)))) a 7 (a_lo (S a 7 - (if S a 2 = 0 then x else x / 2)))) a 5 (S a 5 - (S a 6 + S a 7 - a_lo (S a 6 - (if S a 2 = 0 then x / 2 else x)) - a_lo (S a 7 - (if S a 2 = 0 then x else x / 2))) * S a 3)) := by
  unfold mX10_loseMoisture
  by_cases h : S a 2 = 0
  · simp [hk_let_eq, pX11_low, hk_up_at, h]
  · simp [hk_let_eq, pX11_low, hk_up_at, h]
theorem t_lo_self {x : Int32} (h : 300 ≤ x) : a_lo x = x := if_pos h
theorem t_lo_ge (x : Int32) : 300 ≤ a_lo x := by
  unfold a_lo
  by_cases h : 300 ≤ x
  · rw [if_pos h]; exact h
  · rw [if_neg h]; decide
theorem t_lo_le {x : Int32} (h : x ≤ 900) : a_lo x ≤ 900 := by
  unfold a_lo
  by_cases h2 : 300 ≤ x
  · rw [if_pos h2]; exact h
  · rw [if_neg h2]; decide
set_option maxHeartbeats 4000000 in
/-- an hour of the class's trough -/
theorem pX10_passHour {E : hk_E} {F : Nat} {S : hk_S} {a : Nat} {d : Int32} {v : Nat → Int32} (ht : hk_tr (S a) v) (hk : t_ok v) : ∃ S', mX10_passHour E F S a d = some (t_water v d, S') ∧ hk_tr (S' a) (t_pass v d) ∧ ∀ b, b ≠ a → S' b = S b := by
  have hl := pX10_lossAt (E := E) (F := F) (d := d) ht hk
  obtain ⟨u0, u1, u2, u3, u4, u5, u6, u7, u8, u9⟩ := ht
  obtain ⟨k2, -, ⟨s0, s1⟩, ⟨b0, b1⟩, ke, kl⟩ := hk
  by_cases hv : v 3 = 0
  · refine ⟨S, ?_, ?_, fun _ _ => rfl⟩
    · unfold mX10_passHour mX10_hasLeaf t_water
      simp [u3, hv]
    · unfold t_pass
      simp only [hv, if_true]
      exact ⟨u0, u1, u2, u3, u4, u5, u6, u7, u8, u9⟩
  · have hp : 0 < v 3 := by grind
    have hp2 : ¬ v 3 ≤ 0 := by grind
    obtain ⟨⟨l0, l1⟩, ⟨g0, g1⟩, ⟨w0, w1⟩⟩ := kl hp
    have hd2 : (S a 2 = 0) ↔ (v 2 = 1) := by
      rw [u2]
      rcases k2 with k | k <;> simp [k]
    -- the two layers
    have hL : a_lo (S a 6 - (if S a 2 = 0 then t_loss v d / 2 else t_loss v d)) = t_low v d := by
      unfold t_low
      rw [u6]
      by_cases hs : 0 < v 1
      · rw [if_pos hs]
        by_cases h : v 2 = 1
        · rw [if_pos (hd2.mpr h), if_pos h]
        · rw [if_neg (fun q => h (hd2.mp q)), if_neg h]
      · have hs0 : v 1 = 0 := by grind
        have hz : t_loss v d = 0 := by
          unfold t_loss
          rw [if_neg hv, hs0]
          simp
        rw [if_neg hs, hz]
        simp [t_lo_self l0]
    have hH : a_lo (S a 7 - (if S a 2 = 0 then t_loss v d else t_loss v d / 2)) = t_high v d := by
      unfold t_high
      rw [u7]
      by_cases hs : 0 < v 1
      · rw [if_pos hs]
        by_cases h : v 2 = 1
        · rw [if_pos (hd2.mpr h), if_pos h]
        · rw [if_neg (fun q => h (hd2.mp q)), if_neg h]
      · have hs0 : v 1 = 0 := by grind
        have hz : t_loss v d = 0 := by
          unfold t_loss
          rw [if_neg hv, hs0]
          simp
        rw [if_neg hs, hz]
        simp [t_lo_self g0]
    have hW : (S a 6 + S a 7 - a_lo (S a 6 - (if S a 2 = 0 then t_loss v d / 2 else t_loss v d)) - a_lo (S a 7 - (if S a 2 = 0 then t_loss v d else t_loss v d / 2))) * S a 3 = t_water v d := by
      rw [hL, hH, u6, u7, u3]
      unfold t_water
      rw [if_neg hv]
    have hlm := pX10_loseMoisture (E := E) (F := F) (S := S) (a := a) (x := t_loss v d)
    rw [hW, hL, hH] at hlm
    unfold mX10_passHour
    have hh : mX10_hasLeaf E F S a = some (1, S) := by
      unfold mX10_hasLeaf
      rw [u3, if_neg hp2]
    rw [hh]
    simp only [Option.bind_some, hl, hlm]
    generalize hS1 : hk_up (hk_up (hk_up S a 6 (t_low v d)) a 7 (t_high v d)) a 5 (S a 5 - t_water v d) = S1
    have e1 : ∀ j, S1 a j = if j = 5 then v 8 - t_water v d else if j = 7 then t_high v d else if j = 6 then t_low v d else S a j := by
      intro j
      rw [← hS1]
      simp [hk_up_at, u5]
    have e2 : ∀ b, b ≠ a → S1 b = S b := by
      intro b hb
      funext j
      rw [← hS1]
      simp [hk_up_at, hb]
    have f1 : S1 a 1 = v 1 := by rw [e1]; simp [u1]
    have f8 : S1 a 8 = v 6 := by rw [e1]; simp [u8]
    have f9 : S1 a 9 = v 7 := by rw [e1]; simp [u9]
    -- what is left of the row, with a warmth and a damage
    have fin : ∀ (S2 : hk_S), (∀ b, b ≠ a → S2 b = S1 b) → S2 a 8 = t_warm v → S2 a 9 = v 7 + (if 10 ≤ t_warm v then 1 else 0) → (∀ j, j ≠ 8 → j ≠ 9 → S2 a j = S1 a j) → hk_tr (S2 a) (t_pass v d) ∧ ∀ b, b ≠ a → S2 b = S b := by
      intro S2 q0 q1 q2 q3
      refine ⟨?_, fun b hb => (q0 b hb).trans (e2 b hb)⟩
      unfold t_pass
      refine ⟨?_, ?_, ?_, ?_, ?_, ?_, ?_, ?_, ?_, ?_⟩
      · rw [q3 0 (by decide) (by decide), e1]; simp [hv, u0]
      · rw [q3 1 (by decide) (by decide), e1]; simp [hv, u1]
      · rw [q3 2 (by decide) (by decide), e1]; simp [hv, u2]
      · rw [q3 3 (by decide) (by decide), e1]; simp [hv, u3]
      · rw [q3 4 (by decide) (by decide), e1]; simp [hv, u4, t_fill]
      · rw [q3 5 (by decide) (by decide), e1]; simp [hv]
      · rw [q3 6 (by decide) (by decide), e1]; simp [hv]
      · rw [q3 7 (by decide) (by decide), e1]; simp [hv]
      · rw [q1]; simp [hv]
      · rw [q2]; simp [hv]
    simp only [show ¬ ((1 : Int32) = 0) by decide, not_false_eq_true, if_true, f1, f8]
    unfold t_warm at fin
    by_cases hs : 0 < v 1
    · have hs2 : ¬ v 1 ≤ 0 := by grind
      simp only [hs, hs2, if_true, if_false] at fin ⊢
      by_cases hw : v 6 < v 1
      · have hw2 : ¬ v 1 ≤ v 6 := by grind
        simp only [hw, hw2, if_true, if_false, hk_let_eq, hk_up_at, and_self, show ((0 : Int32) < 10) by decide, show ¬ ((10 : Int32) ≤ 0) by decide] at fin ⊢
        exact ⟨_, rfl, fin _ (fun b hb => by funext j; simp [hk_up_at, hb]) (by simp [hk_up_at]) (by simp [hk_up_at, f9]) (fun j h8 h9 => by simp [hk_up_at, h8])⟩
      · have hw2 : v 1 ≤ v 6 := by grind
        simp only [hw, hw2, if_true, if_false, hk_let_eq, hk_up_at, and_self] at fin ⊢
        by_cases hd : v 6 - v 1 < 10
        · have hd2 : ¬ (10 : Int32) ≤ v 6 - v 1 := by grind
          simp only [hd, hd2, if_true, if_false] at fin ⊢
          exact ⟨_, rfl, fin _ (fun b hb => by funext j; simp [hk_up_at, hb]) (by simp [hk_up_at]) (by simp [hk_up_at, f9]) (fun j h8 h9 => by simp [hk_up_at, h8])⟩
        · have hd2 : (10 : Int32) ≤ v 6 - v 1 := by grind
          simp only [hd, hd2, if_true, if_false] at fin ⊢
          exact ⟨_, rfl, fin _ (fun b hb => by funext j; simp [hk_up_at, hb]) (by simp [hk_up_at]) (by simp [hk_up_at, f9]) (fun j h8 h9 => by simp [hk_up_at, h8, h9])⟩
    · have hs2 : v 1 ≤ 0 := by grind
      simp only [hs, hs2, if_true, if_false] at fin ⊢
      by_cases hw : v 6 < 20
      · have hw2 : ¬ (20 : Int32) ≤ v 6 := by grind
        simp only [hw, hw2, if_true, if_false, hk_let_eq, hk_up_at, and_self] at fin ⊢
        by_cases hd : v 6 + 1 < 10
        · have hd2 : ¬ (10 : Int32) ≤ v 6 + 1 := by grind
          simp only [hd, hd2, if_true, if_false] at fin ⊢
          exact ⟨_, rfl, fin _ (fun b hb => by funext j; simp [hk_up_at, hb]) (by simp [hk_up_at]) (by simp [hk_up_at, f9]) (fun j h8 h9 => by simp [hk_up_at, h8])⟩
        · have hd2 : (10 : Int32) ≤ v 6 + 1 := by grind
          simp only [hd, hd2, if_true, if_false] at fin ⊢
          exact ⟨_, rfl, fin _ (fun b hb => by funext j; simp [hk_up_at, hb]) (by simp [hk_up_at]) (by simp [hk_up_at, f9]) (fun j h8 h9 => by simp [hk_up_at, h8, h9])⟩
      · have hw2 : (20 : Int32) ≤ v 6 := by grind
        have hd : ¬ v 6 < 10 := by grind
        have hd2 : (10 : Int32) ≤ v 6 := by grind
        simp only [hw, hw2, hd, hd2, if_true, if_false, hk_let_eq] at fin ⊢
        exact ⟨_, rfl, fin _ (fun b hb => by funext j; simp [hk_up_at, hb]) (by simp [hk_up_at, f8]) (by simp [hk_up_at, f9]) (fun j h8 h9 => by simp [hk_up_at, h9])⟩
