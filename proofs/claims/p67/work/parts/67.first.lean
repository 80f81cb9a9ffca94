/-! the class's first state-/
theorem hk_fr_va {b : Nat} {S S1 : hk_S} (h : hk_fr b S S1) {a : Nat} (h0 : b ≤ a) (h1 : a < b + 19) (f : Nat → Int32) : hk_fr b S (va_up S1 a f) := fun c hc => by rw [va_up_ne _ _ (by omega)]; exact h c hc
theorem s_clr {E : hk_E} {F b : Nat} {BIG S : hk_S} (hF : 10 ≤ F) (hL : hk_L E b) (hfr : hk_fr b S BIG) : ∃ S', (mX5_clear E F BIG b).bind (fun r49 => some r49) = some S' ∧ hk_lf S' b a_first ∧ hk_fr b S S' := by
  obtain ⟨S', h1, h2, h3⟩ := cX_clear (E := E) (F := F) (S := BIG) hF hL
  exact ⟨S', by rw [h1, Option.bind_some], h2, hk_fr_trans hfr h3⟩
theorem hk_L_i1 : hk_L (hk_EE 20 18) 1 := by
  unfold hk_L
  decide +kernel
theorem s_init_1 {F : Nat} (S : hk_S) (hF : 10 ≤ F) : ∃ S', mX5_init_1 F S = some S' ∧ hk_lf S' 1 a_first ∧ hk_fr 1 S S' := by
  unfold mX5_init_1 mX1_init_2
  simp only [hk_let_eq, mX10_init, mX6_init, Option.bind_some]
  refine s_clr hF hk_L_i1 ?_
  repeat (first | exact hk_fr_refl _ _ | refine hk_fr_va ?_ (by decide) (by decide) _)
theorem hk_L_i20 : hk_L (hk_EE 39 37) 20 := by
  unfold hk_L
  decide +kernel
theorem s_init_20 {F : Nat} (S : hk_S) (hF : 10 ≤ F) : ∃ S', mX5_init_20 F S = some S' ∧ hk_lf S' 20 a_first ∧ hk_fr 20 S S' := by
  unfold mX5_init_20 mX1_init_21
  simp only [hk_let_eq, mX10_init, mX6_init, Option.bind_some]
  refine s_clr hF hk_L_i20 ?_
  repeat (first | exact hk_fr_refl _ _ | refine hk_fr_va ?_ (by decide) (by decide) _)
theorem hk_L_i41 : hk_L (hk_EE 60 57) 41 := by
  unfold hk_L
  decide +kernel
theorem s_init_41 {F : Nat} (S : hk_S) (hF : 10 ≤ F) : ∃ S', mX5_init_41 F S = some S' ∧ hk_lf S' 41 a_first ∧ hk_fr 41 S S' := by
  unfold mX5_init_41 mX1_init_42
  simp only [hk_let_eq, mX10_init, mX6_init, Option.bind_some]
  refine s_clr hF hk_L_i41 ?_
  repeat (first | exact hk_fr_refl _ _ | refine hk_fr_va ?_ (by decide) (by decide) _)
theorem hk_L_i60 : hk_L (hk_EE 79 76) 60 := by
  unfold hk_L
  decide +kernel
theorem s_init_60 {F : Nat} (S : hk_S) (hF : 10 ≤ F) : ∃ S', mX5_init_60 F S = some S' ∧ hk_lf S' 60 a_first ∧ hk_fr 60 S S' := by
  unfold mX5_init_60 mX1_init_61
  simp only [hk_let_eq, mX10_init, mX6_init, Option.bind_some]
  refine s_clr hF hk_L_i60 ?_
  repeat (first | exact hk_fr_refl _ _ | refine hk_fr_va ?_ (by decide) (by decide) _)
theorem hk_L_i79 : hk_L (hk_EE 98 95) 79 := by
  unfold hk_L
  decide +kernel
theorem s_init_79 {F : Nat} (S : hk_S) (hF : 10 ≤ F) : ∃ S', mX5_init_79 F S = some S' ∧ hk_lf S' 79 a_first ∧ hk_fr 79 S S' := by
  unfold mX5_init_79 mX1_init_80
  simp only [hk_let_eq, mX10_init, mX6_init, Option.bind_some]
  refine s_clr hF hk_L_i79 ?_
  repeat (first | exact hk_fr_refl _ _ | refine hk_fr_va ?_ (by decide) (by decide) _)
theorem hk_L_i98 : hk_L (hk_EE 117 114) 98 := by
  unfold hk_L
  decide +kernel
theorem s_init_98 {F : Nat} (S : hk_S) (hF : 10 ≤ F) : ∃ S', mX5_init_98 F S = some S' ∧ hk_lf S' 98 a_first ∧ hk_fr 98 S S' := by
  unfold mX5_init_98 mX1_init_99
  simp only [hk_let_eq, mX10_init, mX6_init, Option.bind_some]
  refine s_clr hF hk_L_i98 ?_
  repeat (first | exact hk_fr_refl _ _ | refine hk_fr_va ?_ (by decide) (by decide) _)
theorem hk_L_i117 : hk_L (hk_EE 136 133) 117 := by
  unfold hk_L
  decide +kernel
theorem s_init_117 {F : Nat} (S : hk_S) (hF : 10 ≤ F) : ∃ S', mX5_init_117 F S = some S' ∧ hk_lf S' 117 a_first ∧ hk_fr 117 S S' := by
  unfold mX5_init_117 mX1_init_118
  simp only [hk_let_eq, mX10_init, mX6_init, Option.bind_some]
  refine s_clr hF hk_L_i117 ?_
  repeat (first | exact hk_fr_refl _ _ | refine hk_fr_va ?_ (by decide) (by decide) _)
theorem hk_L_i136 : hk_L (hk_EE 155 152) 136 := by
  unfold hk_L
  decide +kernel
theorem s_init_136 {F : Nat} (S : hk_S) (hF : 10 ≤ F) : ∃ S', mX5_init_136 F S = some S' ∧ hk_lf S' 136 a_first ∧ hk_fr 136 S S' := by
  unfold mX5_init_136 mX1_init_137
  simp only [hk_let_eq, mX10_init, mX6_init, Option.bind_some]
  refine s_clr hF hk_L_i136 ?_
  repeat (first | exact hk_fr_refl _ _ | refine hk_fr_va ?_ (by decide) (by decide) _)
theorem hk_L_i155 : hk_L (hk_EE 174 171) 155 := by
  unfold hk_L
  decide +kernel
theorem s_init_155 {F : Nat} (S : hk_S) (hF : 10 ≤ F) : ∃ S', mX5_init_155 F S = some S' ∧ hk_lf S' 155 a_first ∧ hk_fr 155 S S' := by
  unfold mX5_init_155 mX1_init_156
  simp only [hk_let_eq, mX10_init, mX6_init, Option.bind_some]
  refine s_clr hF hk_L_i155 ?_
  repeat (first | exact hk_fr_refl _ _ | refine hk_fr_va ?_ (by decide) (by decide) _)
theorem hk_L_i174 : hk_L (hk_EE 193 190) 174 := by
  unfold hk_L
  decide +kernel
theorem s_init_174 {F : Nat} (S : hk_S) (hF : 10 ≤ F) : ∃ S', mX5_init_174 F S = some S' ∧ hk_lf S' 174 a_first ∧ hk_fr 174 S S' := by
  unfold mX5_init_174 mX1_init_175
  simp only [hk_let_eq, mX10_init, mX6_init, Option.bind_some]
  refine s_clr hF hk_L_i174 ?_
  repeat (first | exact hk_fr_refl _ _ | refine hk_fr_va ?_ (by decide) (by decide) _)
theorem hk_L_i196 : hk_L (hk_EE 215 212) 196 := by
  unfold hk_L
  decide +kernel
theorem s_init_196 {F : Nat} (S : hk_S) (hF : 10 ≤ F) : ∃ S', mX5_init_196 F S = some S' ∧ hk_lf S' 196 a_first ∧ hk_fr 196 S S' := by
  unfold mX5_init_196 mX1_init_197
  simp only [hk_let_eq, mX10_init, mX6_init, Option.bind_some]
  refine s_clr hF hk_L_i196 ?_
  repeat (first | exact hk_fr_refl _ _ | refine hk_fr_va ?_ (by decide) (by decide) _)
theorem s_init_39 {F : Nat} (S : hk_S) (hF : 10 ≤ F) : ∃ S', mX3_init_39 F S = some S' ∧ ∀ a, (a < 40 ∨ 193 ≤ a) → S' a = S a := by
  unfold mX3_init_39
  simp only [hk_let_eq]
  obtain ⟨S41, e41, -, f41⟩ := s_init_41 (F := F) (va_up (va_up S 40 (fun _ => 0)) 41 (hk_i0 3)) hF
  rw [e41, Option.bind_some]
  obtain ⟨S60, e60, -, f60⟩ := s_init_60 (F := F) (va_up S41 60 (hk_i0 3)) hF
  rw [e60, Option.bind_some]
  obtain ⟨S79, e79, -, f79⟩ := s_init_79 (F := F) (va_up S60 79 (hk_i0 3)) hF
  rw [e79, Option.bind_some]
  obtain ⟨S98, e98, -, f98⟩ := s_init_98 (F := F) (va_up S79 98 (hk_i0 3)) hF
  rw [e98, Option.bind_some]
  obtain ⟨S117, e117, -, f117⟩ := s_init_117 (F := F) (va_up S98 117 (hk_i0 3)) hF
  rw [e117, Option.bind_some]
  obtain ⟨S136, e136, -, f136⟩ := s_init_136 (F := F) (va_up S117 136 (hk_i0 3)) hF
  rw [e136, Option.bind_some]
  obtain ⟨S155, e155, -, f155⟩ := s_init_155 (F := F) (va_up S136 155 (hk_i0 3)) hF
  rw [e155, Option.bind_some]
  obtain ⟨S174, e174, -, f174⟩ := s_init_174 (F := F) (va_up S155 174 (hk_i0 3)) hF
  rw [e174, Option.bind_some]
  refine ⟨S174, rfl, fun a ha => ?_⟩
  rw [f174 a (by omega), va_up_ne _ _ (by omega), f155 a (by omega), va_up_ne _ _ (by omega), f136 a (by omega), va_up_ne _ _ (by omega), f117 a (by omega), va_up_ne _ _ (by omega), f98 a (by omega), va_up_ne _ _ (by omega), f79 a (by omega), va_up_ne _ _ (by omega), f60 a (by omega), va_up_ne _ _ (by omega), f41 a (by omega), va_up_ne _ _ (by omega), va_up_ne _ _ (by omega)]
theorem s_init_193 {F : Nat} (S : hk_S) (hF : 10 ≤ F) : ∃ S', mX8_init_193 F S = some S' ∧ (∀ a, (a < 193 ∨ 218 ≤ a) → S' a = S a) ∧ S' 194 = hk_i0 2 ∧ ∀ k, k ≠ 5 → S' 193 k = S 193 k := by
  unfold mX8_init_193 mX4_init_194
  simp only [hk_let_eq, Option.bind_some]
  obtain ⟨S2, e2, -, f2⟩ := s_init_196 (F := F) (va_up (va_up (va_up S 194 (hk_i0 2)) 195 (fun _ => 0)) 196 (hk_i0 3)) hF
  rw [e2, Option.bind_some]
  refine ⟨_, rfl, fun a ha => ?_, ?_, fun k hk => ?_⟩
  · rw [va_up_ne _ _ (by omega), va_up_ne _ _ (by omega), va_up_ne _ _ (by omega), hk_upne _ _ _ (by omega), f2 a (by omega), va_up_ne _ _ (by omega), va_up_ne _ _ (by omega), va_up_ne _ _ (by omega)]
  · rw [va_up_ne _ _ (by omega), va_up_ne _ _ (by omega), va_up_ne _ _ (by omega), hk_upne _ _ _ (by omega), f2 194 (by omega), va_up_ne _ _ (by omega), va_up_ne _ _ (by omega), va_up_self]
  · rw [va_up_ne _ _ (by omega), va_up_ne _ _ (by omega), va_up_ne _ _ (by omega), hk_up_eq, if_neg hk, f2 193 (by omega), va_up_ne _ _ (by omega), va_up_ne _ _ (by omega), va_up_ne _ _ (by omega)]
def u_w1 : Nat → Int32 := a_build a_first 0 100
def u_w2 : Nat → Int32 := a_build u_w1 1 200
def u_w3 : Nat → Int32 := a_build u_w2 2 50
def u_w4 : Nat → Int32 := a_load u_w3 0 50 760
def u_w5 : Nat → Int32 := a_load u_w4 1 200 780
def u_w6 : Nat → Int32 := a_fan u_w5 0 3
def u_w7 : Nat → Int32 := a_fan u_w6 1 4
def u_w8 : Nat → Int32 := a_mon u_w7 0 1
def u_w9 : Nat → Int32 := a_put u_w8 0 0 1 10
def u_w10 : Nat → Int32 := a_put u_w9 1 1 0 (-5)
def u_w11 : Nat → Int32 := a_pass 2 u_w10
def u_w12 : Nat → Int32 := a_rev u_w11 0
def u_w13 : Nat → Int32 := a_pass 1 u_w12
theorem u_ok1 : a_ok u_w1 := a_ok_build a_first_ok (by decide) (by decide) (by decide) (by decide)
theorem u_ok2 : a_ok u_w2 := a_ok_build u_ok1 (by decide +kernel) (by decide) (by decide) (by decide)
theorem u_ok3 : a_ok u_w3 := a_ok_build u_ok2 (by decide +kernel) (by decide) (by decide) (by decide)
theorem u_ok4 : a_ok u_w4 := a_ok_load u_ok3 (by decide) (by decide +kernel) (by decide) (by decide +kernel) (by decide) (by decide)
theorem u_ok5 : a_ok u_w5 := a_ok_load u_ok4 (by decide) (by decide +kernel) (by decide) (by decide +kernel) (by decide) (by decide)
theorem u_ok6 : a_ok u_w6 := a_ok_fan u_ok5 (by decide) (by decide +kernel) (by decide) (by decide)
theorem u_ok7 : a_ok u_w7 := a_ok_fan u_ok6 (by decide) (by decide +kernel) (by decide) (by decide)
theorem u_ok8 : a_ok u_w8 := a_ok_mon u_ok7 (by decide +kernel) (by decide) (by decide) (by decide)
theorem u_ok9 : a_ok u_w9 := a_ok_put u_ok8 (by decide +kernel) (by decide) (by decide +kernel) (Or.inr rfl) (by decide)
theorem u_ok10 : a_ok u_w10 := a_ok_put u_ok9 (by decide +kernel) (by decide) (by decide +kernel) (Or.inl rfl) (by decide)
theorem u_p11 : a_ok u_w11 ∧ u_w11 0 = u_w10 0 + nI 2 ∧ u_w11 9 = u_w10 9 := a_pass_ok 2 u_ok10 (by decide) (by decide +kernel)
theorem u_f11 : u_w11 9 = 3 := u_p11.2.2.trans (by decide +kernel)
theorem u_h11 : u_w11 0 = 2 := u_p11.2.1.trans (by decide +kernel)
theorem u_ok12 : a_ok u_w12 := a_ok_rev u_p11.1 (by decide) (by rw [u_f11]; decide)
theorem u_h12 : u_w12 0 = 2 := by
  unfold u_w12 a_rev a_setT
  simp [u_h11]
theorem u_p13 : a_ok u_w13 ∧ u_w13 0 = u_w12 0 + nI 1 ∧ u_w13 9 = u_w12 9 := a_pass_ok 1 u_ok12 (by decide) (by rw [u_h12]; decide)
theorem hk_L_c1 : hk_L (hk_EE 221 220) 1 := by
  unfold hk_L
  decide +kernel
