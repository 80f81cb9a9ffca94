/-! the class's first loft-/
theorem a_airs_19 (w : Nat → Int32) (t : Nat) (d : Int32) : a_airs w t d 19 = w 19 := by
  have h := a_airs_t w t 0 d (k := 2) (by decide)
  have e : a_t (a_airs w t d) 0 2 = a_airs w t d 19 := rfl
  rw [← e, h]
  by_cases q : 0 = t
  · subst q
    rw [if_pos rfl]
    unfold t_pass
    by_cases q2 : a_t w 0 3 = 0
    · rw [if_pos q2]
      rfl
    · rw [if_neg q2, if_neg (by decide), if_neg (by decide), if_neg (by decide), if_neg (by decide), if_neg (by decide)]
      rfl
  · rw [if_neg q]
    rfl
theorem a_airsN_19 (d : Int32) (w : Nat → Int32) : ∀ n, a_airsN d n w 19 = w 19 := by
  intro n
  induction n with
  | zero => rfl
  | succ n ih => rw [a_airsN, a_airs_19, ih]
theorem a_hour_19 (w : Nat → Int32) : a_hour w 19 = w 19 := by
  unfold a_hour a_tick
  by_cases q : (a_airsN (a_dry w (w 0)) (w 9).toNatClampNeg w 0 + 1) - (a_airsN (a_dry w (w 0)) (w 9).toNatClampNeg w 0 + 1) / 24 * 24 = 0
  · rw [if_pos q, a_drift_lo _ (by decide), upd_at, if_neg (by decide), a_airsN_19]
  · rw [if_neg q, upd_at, if_neg (by decide), a_airsN_19]
theorem u_dir : a_t u_w11 0 2 = 0 := by
  show a_hour (a_hour u_w10) 19 = 0
  rw [a_hour_19, a_hour_19]
  decide +kernel
set_option maxHeartbeats 4000000 in
theorem s_ops {F : Nat} {P : hk_S} (hF : 2000 ≤ F) (hP : hk_lf P 1 a_first) : ∃ S', ((mX5_placeTrough (hk_EE 221 220) F P 1 100).bind (fun r13 => (mX5_placeTrough (hk_EE 221 220) F r13.2 1 200).bind (fun r14 => (mX5_placeTrough (hk_EE 221 220) F r14.2 1 50).bind (fun r15 => (mX5_troughAt (hk_EE 221 220) F r15.2 1 0).bind (fun r16 => if (hk_EE 221 220).2.1 r16.1 = 8 then ((mX5_putLeaf (hk_EE 221 220) F r16.2 1 r16.1 50 760).bind (fun r18 => (mX5_troughAt (hk_EE 221 220) F r18 1 1).bind (fun r19 => if (hk_EE 221 220).2.1 r19.1 = 8 then ((mX5_putLeaf (hk_EE 221 220) F r19.2 1 r19.1 200 780).bind (fun r21 => (mX5_troughAt (hk_EE 221 220) F r21 1 0).bind (fun r22 => if (hk_EE 221 220).2.1 r22.1 = 8 then (hk_let (hk_up r22.2 r22.1 1 3) (fun S24 => (mX5_troughAt (hk_EE 221 220) F S24 1 1).bind (fun r25 => if (hk_EE 221 220).2.1 r25.1 = 8 then (hk_let (hk_up r25.2 r25.1 1 4) (fun S27 => (mX1_addMonsoon (hk_EE 221 220) F S27 2 1).bind (fun r28 => (mX5_placeProbe (hk_EE 221 220) F r28 1 0 1 10).bind (fun r29 => (mX5_placeProbe (hk_EE 221 220) F r29.2 1 1 0 (-5)).bind (fun r30 => (mX5_letHoursPass (hk_EE 221 220) F r30.2 1 2).bind (fun r31 => (mX5_troughAt (hk_EE 221 220) F r31 1 0).bind (fun r32 => if (hk_EE 221 220).2.1 r32.1 = 8 then (hk_let (hk_up r32.2 r32.1 2 0) (fun S34 => (mX5_letHoursPass (hk_EE 221 220) F S34 1 1).bind (fun r35 => some (r35)))) else none))))))) else none))) else none))) else none))) else none))))) = some S' ∧ hk_lf S' 1 u_w13 ∧ hk_fr 1 P S' := by
  have hL := hk_L_c1
  have tA0 : ∀ S, mX5_troughAt (hk_EE 221 220) F S 1 0 = some (1 + 5 + 0, S) := fun S => by rw [pX5_troughAt hL, show k_tn 0 = 0 by decide]
  have tA1 : ∀ S, mX5_troughAt (hk_EE 221 220) F S 1 1 = some (1 + 5 + 1, S) := fun S => by rw [pX5_troughAt hL, show k_tn 1 = 1 by decide]
  have K0 : (hk_EE 221 220).2.1 (1 + 5 + 0) = 8 := hk_L_t hL (by decide)
  have K1 : (hk_EE 221 220).2.1 (1 + 5 + 1) = 8 := hk_L_t hL (by decide)
  obtain ⟨S1, a1, b1, c1⟩ := cX_placeTrough (F := F) (c := 100) (n := 0) hL hP (by decide) (by decide)
  obtain ⟨S2, a2, b2, c2⟩ := cX_placeTrough (F := F) (c := 200) (n := 1) (w := u_w1) hL b1 (by decide +kernel) (by decide)
  obtain ⟨S3, a3, b3, c3⟩ := cX_placeTrough (F := F) (c := 50) (n := 2) (w := u_w2) hL b2 (by decide +kernel) (by decide)
  obtain ⟨S4, a4, b4, c4⟩ := cX_putLeaf (E := hk_EE 221 220) (F := F) (kg := 50) (m := 760) (t := 0) (w := u_w3) b3 (by decide) (by decide +kernel)
  obtain ⟨S5, a5, b5, c5⟩ := cX_putLeaf (E := hk_EE 221 220) (F := F) (kg := 200) (m := 780) (t := 1) (w := u_w4) b4 (by decide) (by decide +kernel)
  have b6 : hk_lf (hk_up S5 (1 + 5 + 0) 1 3) 1 u_w6 := cX_fan (w := u_w5) b5 (by decide)
  have c6 : hk_fr 1 S5 (hk_up S5 (1 + 5 + 0) 1 3) := hk_fr_up (hk_fr_refl _ _) (by decide) (by decide) _ _
  have b7 : hk_lf (hk_up (hk_up S5 (1 + 5 + 0) 1 3) (1 + 5 + 1) 1 4) 1 u_w7 := cX_fan (w := u_w6) b6 (by decide)
  have c7 : hk_fr 1 S5 (hk_up (hk_up S5 (1 + 5 + 0) 1 3) (1 + 5 + 1) 1 4) := hk_fr_up c6 (by decide) (by decide) _ _
  obtain ⟨S8, a8, b8, c8, -⟩ := cX_addMonsoon (E := hk_EE 221 220) (F := F) (x := 1) (n := 0) (w := u_w7) hL b7 (by decide +kernel) (by decide)
  have a8' : mX1_addMonsoon (hk_EE 221 220) F (hk_up (hk_up S5 (1 + 5 + 0) 1 3) (1 + 5 + 1) 1 4) 2 1 = some S8 := a8
  obtain ⟨S9, a9, b9, c9⟩ := cX_placeProbe (E := hk_EE 221 220) (F := F) (x := 0) (y := 1) (z := 10) (q := 0) (w := u_w8) hL b8 (by decide +kernel) (by decide)
  obtain ⟨S10, a10, b10, c10⟩ := cX_placeProbe (E := hk_EE 221 220) (F := F) (x := 1) (y := 0) (z := -5) (q := 1) (w := u_w9) hL b9 (by decide +kernel) (by decide)
  obtain ⟨S11, a11, b11, c11⟩ := pX5_pass (E := hk_EE 221 220) (F := F) (d := 2) (w := u_w10) hL (by omega) (by decide) b10 u_ok10 (by decide +kernel)
  have a11' : mX5_letHoursPass (hk_EE 221 220) F S10 1 2 = some S11 := a11
  have e2 : S11 (1 + 5 + 0) 2 = 1 := by rw [(b11.2.2.1 0 (by decide)).2.2.1, show a_t (a_pass 2 u_w10) 0 2 = 0 from u_dir, if_pos rfl]
  have b12 := cX_rev (w := u_w11) (t := 0) b11 (by decide) (Or.inl u_dir)
  rw [e2, if_neg (by decide)] at b12
  obtain ⟨S13, a13, b13, c13⟩ := pX5_pass (E := hk_EE 221 220) (F := F) (d := 1) (w := u_w12) hL (by omega) (by decide) b12 u_ok12 (by rw [u_h12]; decide)
  have a13' : mX5_letHoursPass (hk_EE 221 220) F (hk_up S11 (1 + 5 + 0) 2 0) 1 1 = some S13 := a13
  refine ⟨S13, ?_, b13, ?_⟩
  · rw [a1, Option.bind_some]
    dsimp only
    rw [a2, Option.bind_some]
    dsimp only
    rw [a3, Option.bind_some]
    dsimp only
    rw [tA0, Option.bind_some]
    dsimp only
    rw [if_pos K0, a4, Option.bind_some, tA1, Option.bind_some]
    dsimp only
    rw [if_pos K1, a5, Option.bind_some, tA0, Option.bind_some]
    dsimp only
    rw [if_pos K0, hk_let_eq, tA1, Option.bind_some]
    dsimp only
    rw [if_pos K1, hk_let_eq, a8', Option.bind_some, a9, Option.bind_some]
    dsimp only
    rw [a10, Option.bind_some]
    dsimp only
    rw [a11', Option.bind_some, tA0, Option.bind_some]
    dsimp only
    rw [if_pos K0, hk_let_eq, a13', Option.bind_some]
  · have c12 : hk_fr 1 S11 (hk_up S11 (1 + 5 + 0) 2 0) := hk_fr_up (hk_fr_refl _ _) (by decide) (by decide) _ _
    exact hk_fr_trans c1 (hk_fr_trans c2 (hk_fr_trans c3 (hk_fr_trans c4 (hk_fr_trans c5 (hk_fr_trans c7 (hk_fr_trans c8 (hk_fr_trans c9 (hk_fr_trans c10 (hk_fr_trans c11 (hk_fr_trans c12 c13))))))))))
theorem s_init_0 {F : Nat} (S : hk_S) (hF : 2000 ≤ F) : ∃ S', mX11_init_0 F S = some S' ∧ hk_lf S' 1 u_w13 ∧ S' 0 = S 0 ∧ S' 39 = hk_i0 1 ∧ S' 194 = hk_i0 2 ∧ (∀ k, k ≠ 5 → S' 193 k = hk_i0 6 k) ∧ S' 218 = hk_i0 5 ∧ ∀ a, 221 ≤ a → S' a = S a := by
  unfold mX11_init_0 mX7_init_218 mX10_init
  obtain ⟨S1, a1, b1, c1⟩ := s_init_1 (F := F) (va_up S 1 (hk_i0 3)) (by omega)
  obtain ⟨S2, a2, b2, c2⟩ := s_init_20 (F := F) (va_up S1 20 (hk_i0 3)) (by omega)
  obtain ⟨S3, a3, c3⟩ := s_init_39 (F := F) (va_up S2 39 (hk_i0 1)) (by omega)
  obtain ⟨S4, a4, c4, c4b, c4c⟩ := s_init_193 (F := F) (va_up S3 193 (hk_i0 6)) (by omega)
  have eP : ∀ a, a < 193 ∨ 221 ≤ a → (va_up (va_up (va_up S4 218 (hk_i0 5)) 219 (fun _ => 0)) 220 (hk_i0 7)) a = S3 a := fun a ha => by
    rw [va_up_ne _ _ (by omega), va_up_ne _ _ (by omega), va_up_ne _ _ (by omega), c4 a (by omega), va_up_ne _ _ (by omega)]
  have eQ : ∀ a, a < 20 ∨ 221 ≤ a → (va_up (va_up (va_up S4 218 (hk_i0 5)) 219 (fun _ => 0)) 220 (hk_i0 7)) a = S1 a := fun a ha => by
    rw [eP a (by omega), c3 a (by omega), va_up_ne _ _ (by omega), c2 a (by omega), va_up_ne _ _ (by omega)]
  obtain ⟨S5, a5, b5, c5⟩ := s_ops (F := F) (P := va_up (va_up (va_up S4 218 (hk_i0 5)) 219 (fun _ => 0)) 220 (hk_i0 7)) hF (hk_lf_ext b1 (fun a h1 h2 => eQ a (by omega)))
  refine ⟨S5, ?_, b5, ?_, ?_, ?_, fun k hk => ?_, ?_, fun a ha => ?_⟩
  · simp only [hk_let_eq]
    rw [a1, Option.bind_some, a2, Option.bind_some, a3, Option.bind_some, a4, Option.bind_some, Option.bind_some, Option.bind_some]
    exact a5
  · rw [c5 0 (by omega), eQ 0 (by omega), c1 0 (by omega), va_up_ne _ _ (by omega)]
  · rw [c5 39 (by omega), eP 39 (by omega), c3 39 (by omega), va_up_self]
  · rw [c5 194 (by omega), va_up_ne _ _ (by omega), va_up_ne _ _ (by omega), va_up_ne _ _ (by omega), c4b]
  · rw [c5 193 (by omega), va_up_ne _ _ (by omega), va_up_ne _ _ (by omega), va_up_ne _ _ (by omega), c4c k hk, va_up_self]
  · rw [c5 218 (by omega), va_up_ne _ _ (by omega), va_up_ne _ _ (by omega), va_up_self]
  · rw [c5 a (by omega), eQ a (by omega), c1 a (by omega), va_up_ne _ _ (by omega)]
