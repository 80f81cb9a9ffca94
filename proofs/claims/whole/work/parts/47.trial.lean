/-! what is to come, of one trough -/
/-- n hours, from r hours ahead on -/
def t_go (w v : Nat → Int32) (r : Nat) : Nat → Nat → Int32
  | 0 => v
  | n + 1 => t_pass (t_go w v r n) (a_dry w (w 0 + nI (r + n)))
theorem t_go_ok {w v : Nat → Int32} (h : a_ok w) (hv : t_ok v) (r n : Nat) : t_ok (t_go w v r n) := by
  induction n with
  | zero => exact hv
  | succ n ih =>
    obtain ⟨d0, d1⟩ := a_dry_ok h (w 0 + nI (r + n))
    exact t_pass_ok ih d0 d1
theorem t_go_same (w v : Nat → Int32) (r n : Nat) : t_go w v r n 0 = v 0 ∧ t_go w v r n 1 = v 1 ∧ t_go w v r n 2 = v 2 ∧ t_go w v r n 3 = v 3 := by
  induction n with
  | zero => exact ⟨rfl, rfl, rfl, rfl⟩
  | succ n ih =>
    obtain ⟨a, b, c, d⟩ := t_pass_same (t_go w v r n) (a_dry w (w 0 + nI (r + n)))
    exact ⟨a.trans ih.1, b.trans ih.2.1, c.trans ih.2.2.1, d.trans ih.2.2.2⟩
theorem t_pass_none {v : Nat → Int32} (h : v 3 = 0) (d : Int32) : t_pass v d = v := by
  funext j
  simp [t_pass, h]
theorem t_go_none {w v : Nat → Int32} (h : v 3 = 0) (r n : Nat) : t_go w v r n = v := by
  induction n with
  | zero => rfl
  | succ n ih => rw [t_go, ih, t_pass_none h]
theorem t_go_add (w v : Nat → Int32) (r n m : Nat) : t_go w (t_go w v r n) (r + n) m = t_go w v r (n + m) := by
  induction m with
  | zero => rfl
  | succ m ih => rw [t_go, ih, ← Nat.add_assoc n m 1, t_go, Nat.add_assoc r n m]
theorem t_pass_ext {v v' : Nat → Int32} (e : ∀ k, k < 9 → v' k = v k) (d : Int32) {k : Nat} (hk : k < 9) : t_pass v' d k = t_pass v d k := by
  unfold t_pass t_water t_low t_high t_warm t_loss t_fill
  rw [e 0 (by omega), e 1 (by omega), e 2 (by omega), e 3 (by omega), e 4 (by omega), e 5 (by omega), e 6 (by omega), e 7 (by omega), e 8 (by omega), e k hk]
/-- a row that is w, but for the trough t, which is v, and the water -/
def k_tw (W w : Nat → Int32) (t : Nat) (v : Nat → Int32) : Prop := (∀ i, i ≠ 15 → (i < 17 + 9 * t ∨ 17 + 9 * t + 9 ≤ i) → W i = w i) ∧ ∀ k, k < 9 → a_t W t k = v k
theorem k_tw_airs {W w : Nat → Int32} {t : Nat} {v : Nat → Int32} (h : k_tw W w t v) (d : Int32) : k_tw (a_airs W t d) w t (t_pass v d) := by
  refine ⟨fun i h1 h2 => (a_airs_out _ _ _ h1 h2).trans (h.1 i h1 h2), fun k hk => ?_⟩
  rw [a_airs_t _ _ _ _ hk, if_pos rfl]
  exact t_pass_ext h.2 d hk
theorem k_tw_dry {W w : Nat → Int32} {t : Nat} {v : Nat → Int32} (h : k_tw W w t v) (x : Int32) : a_dry W x = a_dry w x := a_dry_lo (fun i h0 h9 => h.1 i (by omega) (by omega)) x
theorem pX12_tries_3 {E : hk_E} {F t r : Nat} {w v : Nat → Int32} {K : hk_S → Int32 → Option hk_S} (hE : hk_Sh 231 E) (hF : 10 ≤ F) (ht : t < 8) (hw : a_ok w) (hv : t_ok v) : ∀ (d z f : Nat) (M : hk_S), d < f → z + d < 1000 → k_tw (M 222) w t (t_go w v r z) → ∃ W, mX12_tries_3 E F 221 (nI t) (nI r) (nI (z + d)) K f M (nI z) = K (va_up M 222 W) (nI (z + d)) ∧ k_tw W w t (t_go w v r (z + d)) := by
  intro d
  induction d with
  | zero =>
    intro z f M h1 hz h2
    obtain ⟨f, rfl⟩ : ∃ g, f = g + 1 := ⟨f - 1, by omega⟩
    refine ⟨M 222, ?_, h2⟩
    rw [mX12_tries_3]
    dsimp only
    rw [if_pos (nI_le (by omega) (by omega)), k_up_same]
    rfl
  | succ d ih =>
    intro z f M h1 hz h2
    obtain ⟨f, rfl⟩ : ∃ g, f = g + 1 := ⟨f - 1, by omega⟩
    have e0 : M 222 0 = w 0 := h2.1 0 (by omega) (by omega)
    have e5 : M 222 5 = w 5 := h2.1 5 (by omega) (by omega)
    have hk : t_ok (a_t (M 222) t) := t_ok_ext (t_go_ok hw hv r z) h2.2
    have h5 := hw.2.2.2.2.2.1
    have eh : w 0 + nI r + nI z = w 0 + nI (r + z) := by rw [Int32.add_assoc, nI_add]
    have hn : k_tw (a_airs (M 222) t (a_dry (M 222) (w 0 + nI (r + z)))) w t (t_go w v r (z + 1)) := by
      rw [k_tw_dry h2]
      exact k_tw_airs h2 _
    have hz2 : z + (d + 1) = z + 1 + d := by omega
    obtain ⟨W, i1, i2⟩ := ih (z + 1) f (va_up M 222 (a_airs (M 222) t (a_dry (M 222) (w 0 + nI (r + z))))) (by omega) (by omega) (by rw [va_up_self]; exact hn)
    refine ⟨W, ?_, by rw [hz2]; exact i2⟩
    rw [mX12_tries_3]
    dsimp only
    rw [if_neg (nI_ge (by omega) (by omega)), rE_221_0 hE, Option.bind_some, if_pos (kE_222 hE), lE_222 hE, if_pos (show hk_ok 0 107 by decide), e0, eh, pX12_airs hE (by omega) (by rw [e5]; exact h5.1) (by rw [e5]; exact h5.2) ht hk, Option.bind_some, hk_let_eq, nI_1, hz2, i1, k_upup]
theorem pX12_tries {E : hk_E} {F t r n : Nat} {w v : Nat → Int32} {M : hk_S} (hE : hk_Sh 231 E) (hF : 1010 ≤ F) (ht : t < 8) (hw : a_ok w) (hv : t_ok v) (hn : n < 1000) (h : k_tw (M 222) w t v) : ∃ W, mX12_tries E F M 221 (nI t) (nI r) (nI n) = some (va_up M 222 W) ∧ k_tw W w t (t_go w v r n) := by
  unfold mX12_tries
  have := pX12_tries_3 (F := F) (r := r) (K := fun S7 _ => some S7) hE (by omega) ht hw hv n 0 F M (by omega) (by omega) h
  rw [Nat.zero_add] at this
  exact this
/-- the row is brought back -/
theorem k_bring {E : hk_E} {F t : Nat} {M : hk_S} {W v : Nat → Int32} (hE : hk_Sh 231 E) (hF : 109 ≤ F) (ht : t < 8) (h : k_tw W (M 222) t v) : mX12_bringBack E F (va_up (va_up M 224 (a_cp (M 222) (M 224) 0)) 222 W) 221 = some (va_up M 224 (a_cp (M 222) (M 224) 0)) := by
  rw [pX12_bringBack hE hF, va_up_self, va_up_ne _ _ (show 224 ≠ 222 by decide), va_up_self, k_upup]
  have e : a_cp (a_cp (M 222) (M 224) 0) W 0 = (va_up M 224 (a_cp (M 222) (M 224) 0)) 222 := by
    rw [va_up_ne _ _ (show 222 ≠ 224 by decide)]
    funext i
    by_cases hi : i < 107
    · rw [a_cp_lt hi, a_cp_lt hi]
    · unfold a_cp
      rw [if_neg (by omega)]
      exact h.1 i (by omega) (by omega)
  rw [e, k_up_same]
theorem k_tw_self (w : Nat → Int32) (t : Nat) : k_tw w w t (a_t w t) := ⟨fun _ _ _ => rfl, fun _ _ => rfl⟩
/-! the class's trial -/
theorem cX_trial_2 {F : Nat} {w v : Nat → Int32} (hF : 10 ≤ F) (hw : a_ok w) (hv : t_ok v) : ∀ (d z f : Nat) (S : hk_S), d < f → z + d ≤ 1000 → hk_air S 1 w → hk_tr (S 220) (t_go w v 0 z) → ∃ S', mX11_letTrialPass_2 hk_E0 F 0 (nI (z + d)) (fun S9 _ => some S9) f S (nI z) = some S' ∧ hk_tr (S' 220) (t_go w v 0 (z + d)) ∧ ∀ a, a ≠ 220 → S' a = S a := by
  intro d
  induction d with
  | zero =>
    intro z f S h1 hz hA h2
    obtain ⟨f, rfl⟩ : ∃ g, f = g + 1 := ⟨f - 1, by omega⟩
    refine ⟨S, ?_, h2, fun _ _ => rfl⟩
    rw [mX11_letTrialPass_2]
    dsimp only
    rw [if_pos (nI_le (by omega) (by omega))]
  | succ d ih =>
    intro z f S h1 hz hA h2
    obtain ⟨f, rfl⟩ : ∃ g, f = g + 1 := ⟨f - 1, by omega⟩
    have hL := hk_L1 hE2
    have h0 := hw.1
    have hz1 : nI z ≤ 1000 := (nI_leI (b := 1000) (by omega) (by omega)).mpr (by omega)
    have hz0 : 0 ≤ nI z := nI_pos' (by omega)
    obtain ⟨S1, p1, p2, p3⟩ := pX10_passHour (E := hk_E0) (F := F) (d := a_dry w (w 0 + nI (0 + z))) h2 (t_go_ok hw hv 0 z)
    obtain ⟨S2, s1, s2, s3⟩ := ih (z + 1) f S1 (by omega) (by omega) ⟨by rw [p3 _ (by decide)]; exact hA.1, by rw [p3 _ (by decide)]; exact hA.2.1, by rw [p3 _ (by decide)]; exact hA.2.2.1, by rw [p3 _ (by decide)]; exact hA.2.2.2.1, fun m hm hn => by rw [p3 _ (by decide)]; exact hA.2.2.2.2 m hm hn⟩ p2
    have hz2 : z + (d + 1) = z + 1 + d := by omega
    refine ⟨S2, ?_, by rw [hz2]; exact s2, fun a ha => (s3 a ha).trans (p3 a ha)⟩
    rw [mX11_letTrialPass_2]
    dsimp only
    rw [if_neg (nI_ge (by omega) (by omega)), rE_0_6 hE2, Option.bind_some, if_pos (kE_220 hE2), rE_0_0 hE2, Option.bind_some, if_pos hL.1, hL.2.2.2.2.2.2.2.1, Option.bind_some, if_pos hL.2.1, hA.1, pX1_drynessOf hL (by omega) (by generalize w 0 = x at *; generalize nI z = y at *; grind) (by generalize w 0 = x at *; generalize nI z = y at *; grind) (a_mok_of hw) hA, Option.bind_some]
    dsimp only
    rw [Nat.zero_add] at p1
    rw [p1, Option.bind_some, hk_let_eq, nI_1, hz2]
    exact s1
theorem cX_trial {F n : Nat} {S : hk_S} {w v : Nat → Int32} (hF : 1010 ≤ F) (hn : n ≤ 1000) (hw : a_ok w) (hv : t_ok v) (hA : hk_air S 1 w) (h2 : hk_tr (S 220) v) : ∃ S', mX11_letTrialPass hk_E0 F S 0 (nI n) = some S' ∧ hk_tr (S' 220) (t_go w v 0 n) ∧ ∀ a, a ≠ 220 → S' a = S a := by
  unfold mX11_letTrialPass
  have := cX_trial_2 (F := F) (by omega) hw hv n 0 F S (by omega) (by omega) hA h2
  rw [Nat.zero_add] at this
  exact this
theorem k_air_ext {S S' : hk_S} {w : Nat → Int32} (h : hk_air S 1 w) (e : ∀ a, a < 220 → S' a = S a) : hk_air S' 1 w := ⟨by rw [e _ (by omega)]; exact h.1, by rw [e _ (by omega)]; exact h.2.1, by rw [e _ (by omega)]; exact h.2.2.1, by rw [e _ (by omega)]; exact h.2.2.2.1, fun m hm hn => by rw [e _ (by omega)]; exact h.2.2.2.2 m hm hn⟩
theorem k_num_ext {S S' : hk_S} {w : Nat → Int32} (h : hk_num S 1 w) (e : ∀ a, a < 220 → S' a = S a) : hk_num S' 1 w := by
  unfold hk_num at h ⊢
  rw [e _ (by omega)]
  exact h
/-- the trial becomes the trough -/
theorem k_tri {F t : Nat} {S : hk_S} {v : Nat → Int32} (ht : t < 8) (h : hk_tr (S (1 + 5 + t)) v) : ∃ S', mX10_become hk_E0 F S 220 (1 + 5 + t) = some S' ∧ hk_tr (S' 220) v ∧ ∀ a, a ≠ 220 → S' a = S a := by
  obtain ⟨S', p1, p2, p3⟩ := pX10_become (E := hk_E0) (F := F) (S := S) (a := 220) (c := 1 + 5 + t) (by omega) h
  exact ⟨S', p1, hk_tr_cp h p2, p3⟩
