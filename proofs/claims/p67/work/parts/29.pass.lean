/-! the class passes hours -/
theorem hk_lf_probe {S : hk_S} {b z : Nat} {w : Nat → Int32} (h : hk_lf S b w) (hz : z < 6) (x : Int32) : hk_lf (hk_up S (b + 13 + z) 2 x) b (upd w (89 + 3 * z + 2) x) := by
  obtain ⟨⟨a0, a1, a2, a3, a4⟩, h2, h3, h4⟩ := h
  refine ⟨⟨?_, ?_, ?_, ?_, fun m hm hn => ?_⟩, ?_, fun t ht => ?_, fun q hq hn => ?_⟩
  · rw [hk_upne _ _ _ (by omega), upd_at, if_neg (by omega)]; exact a0
  · rw [hk_upne _ _ _ (by omega), upd_at, if_neg (by omega)]; exact a1
  · rw [hk_upne _ _ _ (by omega), upd_at, if_neg (by omega)]; exact a2
  · rw [hk_upne _ _ _ (by omega), upd_at, if_neg (by omega)]; exact a3
  · rw [hk_upne _ _ _ (by omega), upd_at, if_neg (by omega)]
    rw [upd_at, if_neg (by omega)] at hn
    exact a4 m hm hn
  · unfold hk_num at h2 ⊢
    rw [hk_upne _ _ _ (by omega)]
    simp only [upd_at]
    rw [if_neg (by omega), if_neg (by omega), if_neg (by omega), if_neg (by omega), if_neg (by omega), if_neg (by omega), if_neg (by omega), if_neg (by omega), if_neg (by omega), if_neg (by omega)]
    exact h2
  · rw [hk_upne _ _ _ (by omega)]
    exact hk_tr_ext (h3 t ht) (fun k hk => by show upd w _ x _ = _; rw [upd_at, if_neg (by omega)]; rfl)
  · rw [upd_at, if_neg (by omega)] at hn
    have g := h4 q hq hn
    have e : ∀ k, k < 3 → a_p (upd w (89 + 3 * z + 2) x) q k = if q = z ∧ k = 2 then x else a_p w q k := fun k hk => by
      show upd w _ x _ = _
      rw [upd_at]
      by_cases h : q = z ∧ k = 2
      · rw [if_pos (by omega), if_pos h]
      · rw [if_neg (by omega), if_neg h]
        rfl
    rw [e 0 (by omega), e 1 (by omega), e 2 (by omega)]
    by_cases hqz : q = z
    · subst hqz
      rw [hk_up_eq, hk_up_eq, hk_up_eq]
      simp [g.1, g.2.1]
    · rw [hk_upne _ _ _ (by omega)]
      simp only [hqz, false_and, if_false]
      exact g
theorem pX5_age_2 {E : hk_E} {F b : Nat} (hL : hk_L E b) : ∀ (d z f : Nat) (S : hk_S) (w : Nat → Int32), z + d = 6 → d < f → hk_lf S b w → (w 10 ≤ 6) → (∀ q, q < 6 → nI q < w 10 → -50 ≤ a_p w q 2 ∧ a_p w q 2 ≤ 50) → ∃ S', mX5_ageProbes_2 E F b (fun S9 _ => some S9) f S (nI z) = some S' ∧ hk_lf S' b (a_driftf w z) ∧ hk_fr b S S' := by
  intro d
  induction d with
  | zero =>
    intro z f S w h1 h2 hS h4 h5
    obtain ⟨f, rfl⟩ : ∃ g, f = g + 1 := ⟨f - 1, by omega⟩
    have hz : z = 6 := by omega
    subst hz
    refine ⟨S, ?_, ?_, hk_fr_refl _ _⟩
    · rw [mX5_ageProbes_2]
      dsimp only
      rw [hS.2.1.2.1, if_pos (show w 10 ≤ nI 6 from h4)]
    · rw [a_driftf_end (z := 6) h4 (by omega)]
      exact hS
  | succ d ih =>
    intro z f S w h1 h2 hS h4 h5
    obtain ⟨f, rfl⟩ : ∃ g, f = g + 1 := ⟨f - 1, by omega⟩
    have hz6 : z < 6 := by omega
    have e4 : S b 4 = w 10 := hS.2.1.2.1
    by_cases hz : w 10 ≤ nI z
    · refine ⟨S, ?_, ?_, hk_fr_refl _ _⟩
      · rw [mX5_ageProbes_2]
        dsimp only
        rw [e4, if_pos hz]
      · rw [a_driftf_end hz (by omega)]
        exact hS
    · have hlt : nI z < w 10 := by grind
      have hp := hS.2.2.2 z hz6 hlt
      obtain ⟨k0, k1, k2, k3, ⟨k4, l4⟩, k5, k6, ⟨r0, r1, r3, r4⟩⟩ := hL
      have hst : mX5_ageProbes_2 E F b (fun S9 _ => some S9) (f + 1) S (nI z) = (if 50 ≤ a_p w z 2 then mX5_ageProbes_2 E F b (fun S9 _ => some S9) f S (nI (z + 1)) else mX5_ageProbes_2 E F b (fun S9 _ => some S9) f (hk_up S (b + 13 + z) 2 (a_p w z 2 + 1)) (nI (z + 1))) := by
        rw [mX5_ageProbes_2]
        dsimp only
        rw [e4, if_neg hz, if_neg (show ¬ (6 : Int32) ≤ nI z from nI_ge (a := z) (b := 6) (by omega) (by omega)), r3, Option.bind_some, if_pos k4, l4, if_pos (hk_okI (by omega) (by omega)), show E.2.2.2 (b + 4) (nI z).toNatClampNeg = some (b + 13 + z) from (by rw [nI_clamp (by omega)]; exact (k6 z hz6).2), Option.bind_some, if_pos (k6 z hz6).1, if_pos (hk_okI (by omega) (by omega)), hp.2.2]
        simp only [hk_let_eq, nI_1]
      rw [hst, ← a_driftf_step hz6 hlt]
      have hb := h5 z hz6 hlt
      have ew : w (89 + 3 * z + 2) = a_p w z 2 := rfl
      rw [ew]
      have h5' : ∀ x : Int32, -50 ≤ x → x ≤ 50 → ∀ q, q < 6 → nI q < (upd w (89 + 3 * z + 2) x) 10 → -50 ≤ a_p (upd w (89 + 3 * z + 2) x) q 2 ∧ a_p (upd w (89 + 3 * z + 2) x) q 2 ≤ 50 := fun x x0 x1 q hq hn => by
        rw [upd_at, if_neg (by omega)] at hn
        show -50 ≤ upd w _ x _ ∧ upd w _ x _ ≤ 50
        rw [upd_at]
        by_cases hqz : q = z
        · rw [if_pos (by omega)]
          exact ⟨x0, x1⟩
        · rw [if_neg (by omega)]
          exact h5 q hq hn
      by_cases c : 50 ≤ a_p w z 2
      · have ex : a_p w z 2 = 50 := by grind
        rw [if_pos c]
        have eu : upd w (89 + 3 * z + 2) (if 50 ≤ a_p w z 2 + 1 then 50 else a_p w z 2 + 1) = w := by
          funext i
          rw [upd_at]
          by_cases hi : i = 89 + 3 * z + 2
          · rw [if_pos hi, hi, ew, ex]
            decide
          · rw [if_neg hi]
        rw [eu]
        exact ih (z + 1) f S w (by omega) (by omega) hS h4 h5
      · rw [if_neg c]
        have ex : (if 50 ≤ a_p w z 2 + 1 then 50 else a_p w z 2 + 1) = a_p w z 2 + 1 := by
          generalize a_p w z 2 = x at *
          grind
        rw [ex]
        obtain ⟨S2, s1, s2, s3⟩ := ih (z + 1) f _ _ (by omega) (by omega) (hk_lf_probe hS hz6 (a_p w z 2 + 1)) (by rw [upd_at, if_neg (by omega)]; exact h4) (h5' _ (by generalize a_p w z 2 = x at *; grind) (by generalize a_p w z 2 = x at *; grind))
        exact ⟨S2, s1, s2, hk_fr_trans (hk_fr_up (hk_fr_refl _ _) (by omega) (by omega) _ _) s3⟩
theorem pX5_age {E : hk_E} {F b : Nat} {S : hk_S} {w : Nat → Int32} (hL : hk_L E b) (hF : 9 ≤ F) (hS : hk_lf S b w) (h4 : w 10 ≤ 6) (h5 : ∀ q, q < 6 → nI q < w 10 → -50 ≤ a_p w q 2 ∧ a_p w q 2 ≤ 50) : ∃ S', mX5_ageProbes E F S b = some S' ∧ hk_lf S' b (a_drift w) ∧ hk_fr b S S' := by
  unfold mX5_ageProbes
  rw [← a_driftf0]
  exact pX5_age_2 (F := F) hL 6 0 F S w (by omega) (by omega) hS h4 h5
theorem pX5_pass_2 {E : hk_E} {F b : Nat} (hL : hk_L E b) (hF : 9 ≤ F) : ∀ (d z f : Nat) (S : hk_S) (w : Nat → Int32), z + d ≤ 1000 → d < f → hk_lf S b w → a_ok w → w 0 ≤ 2000 - nI d → ∃ S', mX5_letHoursPass_2 E F b (nI (z + d)) (fun S9 _ => some S9) f S (nI z) = some S' ∧ hk_lf S' b (a_pass d w) ∧ hk_fr b S S' := by
  intro d
  induction d with
  | zero =>
    intro z f S w h1 h2 hS hw h4
    obtain ⟨f, rfl⟩ : ∃ g, f = g + 1 := ⟨f - 1, by omega⟩
    refine ⟨S, ?_, hS, hk_fr_refl _ _⟩
    rw [mX5_letHoursPass_2]
    dsimp only
    rw [if_pos (nI_le (by omega) (by omega))]
  | succ d ih =>
    intro z f S w h1 h2 hS hw h4
    obtain ⟨f, rfl⟩ : ∃ g, f = g + 1 := ⟨f - 1, by omega⟩
    obtain ⟨n, hn8, hn⟩ := nI_of2 (x := w 9) (M := 8) (n := 8) (by decide) (by have := hw.2.2.2.2.2.2.2.1.1; grind) hw.2.2.2.2.2.2.2.1.2
    have hd0 : nI d + 1 = nI (d + 1) := nI_1 d
    have q1 : 0 ≤ nI d := nI_pos' (by omega)
    have q2 : nI d < 2000 := (nI_ltI (b := 2000) (by omega) (by omega)).mpr (by omega)
    have q3 := hw.1.1
    have q4 := hw.1.2
    have hlt : w 0 < 2000 := by
      rw [← hd0] at h4
      clear ih hS hw
      generalize w 0 = x at *
      generalize nI d = y at *
      grind
    obtain ⟨k1, k2, k3⟩ := a_hour_ok hw hlt
    have hnext : a_hour w 0 ≤ 2000 - nI d := by
      rw [k2]
      rw [← hd0] at h4
      clear ih hS hw k1 k2 k3
      generalize w 0 = x at *
      generalize nI d = y at *
      grind
    have hz : z + (d + 1) = z + 1 + d := by omega
    have hdr := pX1_drynessOf (E := E) (F := F) (h := w 0) hL (by omega) q3 (by clear ih hS hw k1 k2 k3 hnext; generalize w 0 = x at *; grind) (a_mok_of hw) hS.1
    rw [← hS.1.1] at hdr
    have hKS : ∀ (K : hk_S → Int32 → Option hk_S), ∃ S', mX5_letHoursPass_25 E F b (nI (z + (d + 1))) (nI z) (a_dry w (w 0)) K F S 0 = K S' (nI n) ∧ hk_lf S' b (a_airsN (a_dry w (w 0)) n w) ∧ hk_fr b S S' := fun K => pX5_pass_25 (F := F) hL hw hn hn8 n 0 F S (by omega) (by omega) hS
    -- the state behind the troughs does not depend on what follows
    obtain ⟨k0, k1', k2', k3', k4, k5, k6, ⟨r0, r1, r3, r4⟩⟩ := id hL
    rw [mX5_letHoursPass_2]
    dsimp only
    rw [if_neg (nI_ge (by omega) (by omega)), r0, Option.bind_some, if_pos k1', hdr, Option.bind_some, hS.1.1]
    obtain ⟨S1, s1, s2, s3⟩ := hKS (fun S16 z17 => hk_let (hk_up S16 (b + 1) 0 ((S16 (b + 1) 0) + 1)) (fun S18 => if ¬ ((S18 (b + 1) 0) - (S18 (b + 1) 0) / 24 * 24) = 0 then (hk_let (nI z + 1) (fun y20 => mX5_letHoursPass_2 E F b (nI (z + (d + 1))) (fun S9 _ => some S9) f S18 y20)) else ((mX5_ageProbes E F S18 b).bind (fun r21 => hk_let (nI z + 1) (fun y22 => mX5_letHoursPass_2 E F b (nI (z + (d + 1))) (fun S9 _ => some S9) f r21 y22)))))
    rw [s1]
    generalize hA : a_airsN (a_dry w (w 0)) n w = A at *
    have A0 : A 0 = w 0 := by rw [← hA, a_airsN_row _ _ _ (by omega)]
    have A10 : A 10 = w 10 := by rw [← hA, a_airsN_row _ _ _ (by omega)]
    have hh : a_hour w = a_tick A := by rw [a_hour_eq hn hn8, hA]
    have e1 : S1 (b + 1) 0 = w 0 := s2.1.1.trans A0
    have hS2 : hk_lf (hk_up S1 (b + 1) 0 (w 0 + 1)) b (upd A 0 (w 0 + 1)) := hk_lf_hour s2 _
    have hf2 : hk_fr b S (hk_up S1 (b + 1) 0 (w 0 + 1)) := hk_fr_up s3 (by omega) (by omega) _ _
    simp only [hk_let_eq, e1, hk_up_eq, if_true, nI_1]
    by_cases hq : (w 0 + 1) - (w 0 + 1) / 24 * 24 = 0
    · have ht : a_hour w = a_drift (upd A 0 (w 0 + 1)) := by rw [hh, a_tick_eq, A0, if_pos hq]
      have hpe : ∀ q, q < 6 → nI q < (upd A 0 (w 0 + 1)) 10 → -50 ≤ a_p (upd A 0 (w 0 + 1)) q 2 ∧ a_p (upd A 0 (w 0 + 1)) q 2 ≤ 50 := fun q hq6 hn10 => by
        rw [upd_at, if_neg (by omega), A10] at hn10
        have e : a_p (upd A 0 (w 0 + 1)) q 2 = a_p w q 2 := by
          show upd A 0 _ _ = _
          rw [upd_at, if_neg (by omega), ← hA, a_airsN_lo _ _ _ (by omega) (by omega)]
          rfl
        rw [e]
        exact (hw.2.2.2.2.2.2.2.2.2.2.2.2 q hq6 hn10).2.2
      obtain ⟨S3, t1, t2, t3⟩ := pX5_age (F := F) hL hF hS2 (by rw [upd_at, if_neg (by omega), A10]; exact hw.2.2.2.2.2.2.2.2.1.2) hpe
      rw [if_neg (fun q => q hq), t1, Option.bind_some, hz]
      rw [← ht] at t2
      obtain ⟨S4, u1, u2, u3⟩ := ih (z + 1) f S3 (a_hour w) (by omega) (by omega) t2 k1 hnext
      exact ⟨S4, u1, u2, hk_fr_trans hf2 (hk_fr_trans t3 u3)⟩
    · have ht : a_hour w = upd A 0 (w 0 + 1) := by rw [hh, a_tick_eq, A0, if_neg hq]
      rw [if_pos hq, hz]
      rw [← ht] at hS2
      obtain ⟨S4, u1, u2, u3⟩ := ih (z + 1) f _ (a_hour w) (by omega) (by omega) hS2 k1 hnext
      exact ⟨S4, u1, u2, hk_fr_trans hf2 u3⟩
theorem pX5_pass {E : hk_E} {F b d : Nat} {S : hk_S} {w : Nat → Int32} (hL : hk_L E b) (hF : 1001 ≤ F) (hd : d ≤ 1000) (hS : hk_lf S b w) (hw : a_ok w) (h4 : w 0 ≤ 2000 - nI d) : ∃ S', mX5_letHoursPass E F S b (nI d) = some S' ∧ hk_lf S' b (a_pass d w) ∧ hk_fr b S S' := by
  unfold mX5_letHoursPass
  have := pX5_pass_2 (F := F) hL (by omega) d 0 F S w (by omega) (by omega) hS hw h4
  rw [Nat.zero_add] at this
  exact this
