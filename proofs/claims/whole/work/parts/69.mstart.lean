/-! the model's first state-/
def u_T0 : Nat → Int32 := fun k => if k < hk_ln 10 then hk_ch 10 (nI k) else hk_ch 11 (nI (k - hk_ln 10))
theorem hE3 : hk_Sh 231 (hk_EE 231 229) := by
  refine ⟨fun a ha => ?_, fun a => rfl, fun a k ha => ?_⟩
  · show (if a < 231 then hk_KT.getD a 0 else 0) = _
    rw [if_pos ha]
  · show hk_ref (hk_RT.take 229) a k = _
    rw [List.take_of_length_le (by decide +kernel)]
theorem pX12_tell_2 {E : hk_E} {F i m : Nat} {K : hk_S → Int32 → Option hk_S} (hE : hk_Sh 231 E) (hi : i < 47) (hm : m + hk_ln i ≤ 600) : ∀ (d z f : Nat) (S : hk_S), z + d = hk_ln i → d < f → S 221 10 = nI (m + z) → ∃ S', mX12_tell_2 E F 221 i K f S (nI z) = K S' (nI (hk_ln i)) ∧ S' 221 10 = nI (m + hk_ln i) ∧ (∀ k, z ≤ k → k < hk_ln i → S' 228 (m + k) = hk_ch i (nI k)) ∧ (∀ k, k < m + z → S' 228 k = S 228 k) ∧ (∀ a, a ≠ 221 → a ≠ 228 → S' a = S a) ∧ (∀ k, k ≠ 10 → S' 221 k = S 221 k) := by
  intro d
  induction d with
  | zero =>
    intro z f S h1 h2 h3
    obtain ⟨f, rfl⟩ : ∃ g, f = g + 1 := ⟨f - 1, by omega⟩
    have hz : z = hk_ln i := by omega
    subst hz
    refine ⟨S, ?_, h3, fun k h4 h5 => by omega, fun _ _ => rfl, fun _ _ _ => rfl, fun _ _ => rfl⟩
    rw [mX12_tell_2]
    dsimp only
    rw [pJ0_len hi, Option.bind_some, if_pos (nI_le (Nat.le_refl _) (by omega))]
  | succ d ih =>
    intro z f S h1 h2 h3
    obtain ⟨f, rfl⟩ : ∃ g, f = g + 1 := ⟨f - 1, by omega⟩
    have e2 : (hk_up S 228 (m + z) (hk_ch i (nI z))) 221 10 = nI (m + z) := by rw [hk_upne _ _ _ (by decide)]; exact h3
    obtain ⟨S', a1, a2, a3, a4, a5, a6⟩ := ih (z + 1) f (hk_up (hk_up S 228 (m + z) (hk_ch i (nI z))) 221 10 (nI (m + z + 1))) (by omega) (by omega) (by rw [hk_up_eq, if_pos rfl]; rfl)
    refine ⟨S', ?_, a2, fun k h4 h5 => ?_, fun k h4 => ?_, fun a h4 h5 => ?_, fun k h4 => ?_⟩
    · rw [mX12_tell_2]
      dsimp only
      rw [pJ0_len hi, Option.bind_some]
      dsimp only
      rw [if_neg (show ¬ nI (hk_ln i) ≤ nI z from nI_ge (by omega) (by omega)), rE_221_8 hE, Option.bind_some, if_pos (kE_228 hE), pJ0_chr hi (by omega), Option.bind_some]
      dsimp only
      rw [lE_228 hE, if_pos (show hk_ok (S 221 10) 600 by rw [h3]; exact hk_okI (by omega) (by omega)), show (S 221 10).toNatClampNeg = m + z by rw [h3]; exact nI_clamp (by omega), hk_let_eq, hk_let_eq, hk_let_eq, e2, nI_1, nI_1]
      exact a1
    · by_cases q : k = z
      · subst q
        rw [a4 (m + k) (by omega), hk_upne _ _ _ (by decide), hk_up_eq, if_pos rfl]
      · exact a3 k (by omega) h5
    · rw [a4 k (by omega), hk_upne _ _ _ (by decide), hk_up_eq, if_neg (by omega)]
    · rw [a5 a h4 h5, hk_upne _ _ _ h4, hk_upne _ _ _ h5]
    · rw [a6 k h4, hk_up_eq, if_neg h4, hk_upne _ _ _ (by decide)]
theorem pX12_tell {E : hk_E} {F i m : Nat} {S : hk_S} (hE : hk_Sh 231 E) (hF : 1000 ≤ F) (hi : i < 47) (hm : m + hk_ln i ≤ 600) (h : S 221 10 = nI m) : ∃ S', mX12_tell E F S 221 i = some S' ∧ S' 221 10 = nI (m + hk_ln i) ∧ (∀ k, k < hk_ln i → S' 228 (m + k) = hk_ch i (nI k)) ∧ (∀ k, k < m → S' 228 k = S 228 k) ∧ (∀ a, a ≠ 221 → a ≠ 228 → S' a = S a) ∧ (∀ k, k ≠ 10 → S' 221 k = S 221 k) := by
  obtain ⟨S', a1, a2, a3, a4, a5, a6⟩ := pX12_tell_2 (E := E) (F := F) (K := fun S10 _ => some S10) hE hi hm (hk_ln i) 0 F S (by omega) (by have := (k_ln_le i hi).1; omega) h
  refine ⟨S', ?_, a2, fun k hk => a3 k (Nat.zero_le _) hk, fun k hk => a4 k (by omega), a5, a6⟩
  unfold mX12_tell
  exact a1
theorem m_one {E : hk_E} {F n p x c q f : Nat} {T w w' : Nat → Int32} {M : hk_S} {K : hk_S → Option (Int32 × hk_S)} (hE : hk_Sh 231 E) (hF : 2000 ≤ F) (h : k_P T n p x w M) (hk : u_k T n p = 2) (hc : u_cmd T n p = nI c) (hc14 : c < 14) (hx : x < 200) (hD : u_D T n w (u_e T n p) c = .inr (w', q)) : ∃ M', mX12_readsAll_34 E F 221 K (f + 1) M = mX12_readsAll_34 E F 221 K f M' ∧ k_P T n (u_e T n q) (x + 1) w' M' ∧ k_gM M M' := by
  have wa := pX12_wordAhead (F := F) hE (by omega) h.2.1 h.1 h.2.2.1
  obtain ⟨M2, b1, b2, b3⟩ := k_P_next (F := F) hE (by omega) (k_P_20 h)
  have g2 : k_gM M M2 := k_gM_fx (k_gM_up (k_gM_refl M) (by decide) _) b3
  have hcm : ¬ nI c = -1 := fun z => absurd (show nI c < 0 by rw [z]; decide) (nI_pos (by omega))
  have hm := k_mo_wrap (m_cmd hc14 hE hF b2 g2)
  rw [hD] at hm
  obtain ⟨M3, d1, d2, d3⟩ := hm
  have hrm : mX12_rC0 E F M 221 0 = some (1, M3) := by
    unfold mX12_rC0 mX12_readsCommand
    rw [wa, Option.bind_some, hc]
    dsimp only
    rw [if_pos hcm, if_pos (show ¬ nI c = 14 from fun z => by have := (nI_eq (b := 14) (by omega) (by omega)).mp z; omega), if_pos (show ¬ M 221 20 = 200 by rw [h.2.2.2.1]; exact fun z => by have := (nI_eq (b := 200) (by omega) (by omega)).mp z; omega), hk_let_eq, b1, Option.bind_some]
    exact d1
  obtain ⟨M4, v1, v2, v3⟩ := k_P_next (F := F) hE (by omega) d3
  refine ⟨M4, ?_, v2, k_gM_fx d2 v3⟩
  rw [mX12_readsAll_34]
  dsimp only
  rw [h.2.2.1.2.1, hk, if_neg (by decide), hrm, Option.bind_some]
  dsimp only
  rw [if_pos (show ¬ (1 : Int32) = 0 by decide), v1, Option.bind_some]
theorem u_num_ok {T : Nat → Int32} {n p : Nat} {lo hi : Int32} {K : Int32 → Nat → u_R} (a : Int32) (q : Nat) (h1 : u_k T n p = 3) (h2 : u_v T n p = a) (h3 : lo ≤ a) (h4 : a ≤ hi) (h5 : u_e T n p = q) : u_num T n lo hi p K = K a q := by
  unfold u_num
  rw [if_pos h1, h2, if_pos ⟨h3, h4⟩, h5]
theorem u_stop_ok {T : Nat → Int32} {n p : Nat} {c : Prop} [Decidable c] {w : Nat → Int32} (h1 : u_k T n p = 1) (h2 : c) : u_stop T n c p w = .inr (w, p) := by
  unfold u_stop
  rw [if_pos h1, if_pos h2]
theorem u_two_ok0 {T : Nat → Int32} {n p i j : Nat} {K : Bool → Nat → u_R} (q : Nat) (h1 : u_says T n p i = true) (h5 : u_e T n p = q) : u_two T n i j p K = K false q := by
  unfold u_two
  rw [if_pos h1, h5]
theorem u_two_ok1 {T : Nat → Int32} {n p i j : Nat} {K : Bool → Nat → u_R} (q : Nat) (h0 : u_says T n p i = false) (h1 : u_says T n p j = true) (h5 : u_e T n p = q) : u_two T n i j p K = K true q := by
  unfold u_two
  rw [if_neg (by rw [h0]; decide), if_pos h1, h5]
theorem a_first_eq : upd (upd (upd (a_zr (fun _ => 0) 0) 2 60) 3 580) 4 20 = a_first := by
  funext i
  rw [upd_at, upd_at, upd_at]
  unfold a_first a_zr
  by_cases q4 : i = 4
  · subst q4
    decide
  · rw [if_neg q4]
    by_cases q3 : i = 3
    · subst q3
      decide
    · rw [if_neg q3]
      by_cases q2 : i = 2
      · rw [if_pos q2, if_pos q2]
      · rw [if_neg q2, if_neg q2, if_neg q3, if_neg q4]
        by_cases q : 0 ≤ i ∧ i < 107
        · rw [if_pos q]
        · rw [if_neg q]
theorem u_D0 : u_D u_T0 174 a_first (u_e u_T0 174 5) 0 = .inr (u_w1, 16) := by
  rw [show u_e u_T0 174 5 = 12 by decide +kernel]
  simp only [u_D]
  rw [u_num_ok 100 16 (by decide +kernel) (by decide +kernel) (by decide +kernel) (by decide +kernel) (by decide +kernel)]
  rw [u_stop_ok (by decide +kernel) (by decide +kernel)]
  rw [show (a_first 9).toNatClampNeg = 0 by decide +kernel]
  rfl
theorem u_D1 : u_D u_T0 174 u_w1 (u_e u_T0 174 17) 0 = .inr (u_w2, 28) := by
  rw [show u_e u_T0 174 17 = 24 by decide +kernel]
  simp only [u_D]
  rw [u_num_ok 200 28 (by decide +kernel) (by decide +kernel) (by decide +kernel) (by decide +kernel) (by decide +kernel)]
  rw [u_stop_ok (by decide +kernel) (by decide +kernel)]
  rw [show (u_w1 9).toNatClampNeg = 1 by decide +kernel]
  rfl
theorem u_D2 : u_D u_T0 174 u_w2 (u_e u_T0 174 29) 0 = .inr (u_w3, 39) := by
  rw [show u_e u_T0 174 29 = 36 by decide +kernel]
  simp only [u_D]
  rw [u_num_ok 50 39 (by decide +kernel) (by decide +kernel) (by decide +kernel) (by decide +kernel) (by decide +kernel)]
  rw [u_stop_ok (by decide +kernel) (by decide +kernel)]
  rw [show (u_w2 9).toNatClampNeg = 2 by decide +kernel]
  rfl
theorem u_D3 : u_D u_T0 174 u_w3 (u_e u_T0 174 40) 1 = .inr (u_w4, 54) := by
  rw [show u_e u_T0 174 40 = 45 by decide +kernel]
  simp only [u_D]
  rw [u_num_ok 0 47 (by decide +kernel) (by decide +kernel) (by decide +kernel) (by decide +kernel) (by decide +kernel)]
  rw [u_num_ok 50 50 (by decide +kernel) (by decide +kernel) (by decide +kernel) (by decide +kernel) (by decide +kernel)]
  rw [u_num_ok 760 54 (by decide +kernel) (by decide +kernel) (by decide +kernel) (by decide +kernel) (by decide +kernel)]
  rw [u_stop_ok (by decide +kernel) (by decide +kernel)]
  rfl
theorem u_D4 : u_D u_T0 174 u_w4 (u_e u_T0 174 55) 1 = .inr (u_w5, 70) := by
  rw [show u_e u_T0 174 55 = 60 by decide +kernel]
  simp only [u_D]
  rw [u_num_ok 1 62 (by decide +kernel) (by decide +kernel) (by decide +kernel) (by decide +kernel) (by decide +kernel)]
  rw [u_num_ok 200 66 (by decide +kernel) (by decide +kernel) (by decide +kernel) (by decide +kernel) (by decide +kernel)]
  rw [u_num_ok 780 70 (by decide +kernel) (by decide +kernel) (by decide +kernel) (by decide +kernel) (by decide +kernel)]
  rw [u_stop_ok (by decide +kernel) (by decide +kernel)]
  rfl
theorem u_D5 : u_D u_T0 174 u_w5 (u_e u_T0 174 71) 2 = .inr (u_w6, 79) := by
  rw [show u_e u_T0 174 71 = 75 by decide +kernel]
  simp only [u_D]
  rw [u_num_ok 0 77 (by decide +kernel) (by decide +kernel) (by decide +kernel) (by decide +kernel) (by decide +kernel)]
  rw [u_num_ok 3 79 (by decide +kernel) (by decide +kernel) (by decide +kernel) (by decide +kernel) (by decide +kernel)]
  rw [u_stop_ok (by decide +kernel) trivial]
  rfl
theorem u_D6 : u_D u_T0 174 u_w6 (u_e u_T0 174 80) 2 = .inr (u_w7, 88) := by
  rw [show u_e u_T0 174 80 = 84 by decide +kernel]
  simp only [u_D]
  rw [u_num_ok 1 86 (by decide +kernel) (by decide +kernel) (by decide +kernel) (by decide +kernel) (by decide +kernel)]
  rw [u_num_ok 4 88 (by decide +kernel) (by decide +kernel) (by decide +kernel) (by decide +kernel) (by decide +kernel)]
  rw [u_stop_ok (by decide +kernel) trivial]
  rfl
theorem u_D7 : u_D u_T0 174 u_w7 (u_e u_T0 174 89) 6 = .inr (u_w8, 99) := by
  rw [show u_e u_T0 174 89 = 97 by decide +kernel]
  simp only [u_D]
  rw [u_num_ok 1 99 (by decide +kernel) (by decide +kernel) (by decide +kernel) (by decide +kernel) (by decide +kernel)]
  rw [u_stop_ok (by decide +kernel) (by decide +kernel)]
  rw [show (u_w7 5).toNatClampNeg = 0 by decide +kernel]
  rfl
theorem u_D8 : u_D u_T0 174 u_w8 (u_e u_T0 174 100) 11 = .inr (u_w9, 120) := by
  rw [show u_e u_T0 174 100 = 106 by decide +kernel]
  simp only [u_D]
  rw [u_num_ok 0 108 (by decide +kernel) (by decide +kernel) (by decide +kernel) (by decide +kernel) (by decide +kernel)]
  rw [u_two_ok1 112 (by decide +kernel) (by decide +kernel) (by decide +kernel)]
  rw [u_two_ok0 117 (by decide +kernel) (by decide +kernel)]
  rw [u_num_ok 10 120 (by decide +kernel) (by decide +kernel) (by decide +kernel) (by decide +kernel) (by decide +kernel)]
  rw [u_stop_ok (by decide +kernel) (by decide +kernel)]
  rw [show (u_w8 10).toNatClampNeg = 0 by decide +kernel]
  rfl
theorem u_D9 : u_D u_T0 174 u_w9 (u_e u_T0 174 121) 11 = .inr (u_w10, 144) := by
  rw [show u_e u_T0 174 121 = 127 by decide +kernel]
  simp only [u_D]
  rw [u_num_ok 1 129 (by decide +kernel) (by decide +kernel) (by decide +kernel) (by decide +kernel) (by decide +kernel)]
  rw [u_two_ok0 136 (by decide +kernel) (by decide +kernel)]
  rw [u_two_ok1 142 (by decide +kernel) (by decide +kernel) (by decide +kernel)]
  rw [u_num_ok 5 144 (by decide +kernel) (by decide +kernel) (by decide +kernel) (by decide +kernel) (by decide +kernel)]
  rw [u_stop_ok (by decide +kernel) (by decide +kernel)]
  rw [show (u_w9 10).toNatClampNeg = 1 by decide +kernel]
  rfl
theorem u_D10 : u_D u_T0 174 u_w10 (u_e u_T0 174 145) 13 = .inr (u_w11, 153) := by
  rw [show u_e u_T0 174 145 = 151 by decide +kernel]
  simp only [u_D]
  rw [u_num_ok 2 153 (by decide +kernel) (by decide +kernel) (by decide +kernel) (by decide +kernel) (by decide +kernel)]
  rw [u_stop_ok (by decide +kernel) (by decide +kernel)]
  rfl
theorem u_D11 : u_D u_T0 174 u_w11 (u_e u_T0 174 154) 3 = .inr (u_w12, 164) := by
  rw [show u_e u_T0 174 154 = 162 by decide +kernel]
  simp only [u_D]
  rw [u_num_ok 0 164 (by decide +kernel) (by decide +kernel) (by decide +kernel) (by rw [u_f11]; decide) (by decide +kernel)]
  rw [u_stop_ok (by decide +kernel) trivial]
  rfl
theorem u_D12 : u_D u_T0 174 u_w12 (u_e u_T0 174 165) 13 = .inr (u_w13, 173) := by
  rw [show u_e u_T0 174 165 = 171 by decide +kernel]
  simp only [u_D]
  rw [u_num_ok 1 173 (by decide +kernel) (by decide +kernel) (by decide +kernel) (by decide +kernel) (by decide +kernel)]
  rw [u_stop_ok (by decide +kernel) (by rw [u_h12]; decide)]
  rfl
set_option maxHeartbeats 4000000 in
theorem m_start {F : Nat} {M : hk_S} (hF : 2000 ≤ F) (hT : k_mT u_T0 174 M) (h0 : M 222 = fun _ => 0) : ∃ M', mX12_parses (hk_EE 231 229) F M 221 = some (1, M') ∧ M' 222 = u_w13 ∧ M' 221 11 = 0 ∧ M' 221 12 = -1 ∧ k_gM M M' := by
  obtain ⟨M1, w, p1, p2, -, p4, p5⟩ := m_parse (F := F) hE3 (by omega) hT
  rw [h0, a_first_eq] at p5
  subst p5
  have hs1 := pX12_says (F := F) (i := 12) hE3 (by omega) (by decide) p2.2.1 p2.1 p2.2.2.1
  rw [show u_says u_T0 174 0 12 = true by decide +kernel, if_pos rfl] at hs1
  obtain ⟨M2, b1, b2, b3⟩ := k_P_next (F := F) hE3 (by omega) p2
  rw [show u_e u_T0 174 0 = 4 by decide +kernel] at b2
  obtain ⟨M3, c1, c2, c3⟩ := k_P_next (F := F) hE3 (by omega) b2
  rw [show u_e u_T0 174 4 = 5 by decide +kernel] at c2
  have gm : k_gM M M3 := k_gM_fx (k_gM_fx p4 b3) c3
  obtain ⟨f, hf⟩ : ∃ f, F = f + 14 := ⟨F - 14, by omega⟩
  have hu : mX12_readsAll (hk_EE 231 229) F M1 221 = mX12_readsAll_34 (hk_EE 231 229) F 221 (fun S11 => some (1, S11)) (f + 14) M3 := by
    unfold mX12_readsAll mX12_is
    rw [hs1, Option.bind_some]
    dsimp only
    rw [if_pos (show ¬ (1 : Int32) = 0 by decide), b1, Option.bind_some, if_pos (show M2 221 16 = 1 from b2.2.2.1.2.1.trans (by decide +kernel)), Option.bind_some]
    dsimp only
    rw [if_pos (show ¬ (1 : Int32) = 0 by decide), c1, Option.bind_some, ← hf]
  rw [p1, hu]
  obtain ⟨N0, s0, t0, g0⟩ := m_one (E := hk_EE 231 229) (F := F) (K := fun S11 => some (1, S11)) (f := f + 13) (c := 0) hE3 hF c2 (by decide +kernel) (by decide +kernel) (by decide) (by decide) u_D0
  rw [show u_e u_T0 174 16 = 17 by decide +kernel] at t0
  rw [s0]
  obtain ⟨N1, s1, t1, g1⟩ := m_one (E := hk_EE 231 229) (F := F) (K := fun S11 => some (1, S11)) (f := f + 12) (c := 0) hE3 hF t0 (by decide +kernel) (by decide +kernel) (by decide) (by decide) u_D1
  rw [show u_e u_T0 174 28 = 29 by decide +kernel] at t1
  rw [s1]
  obtain ⟨N2, s2, t2, g2⟩ := m_one (E := hk_EE 231 229) (F := F) (K := fun S11 => some (1, S11)) (f := f + 11) (c := 0) hE3 hF t1 (by decide +kernel) (by decide +kernel) (by decide) (by decide) u_D2
  rw [show u_e u_T0 174 39 = 40 by decide +kernel] at t2
  rw [s2]
  obtain ⟨N3, s3, t3, g3⟩ := m_one (E := hk_EE 231 229) (F := F) (K := fun S11 => some (1, S11)) (f := f + 10) (c := 1) hE3 hF t2 (by decide +kernel) (by decide +kernel) (by decide) (by decide) u_D3
  rw [show u_e u_T0 174 54 = 55 by decide +kernel] at t3
  rw [s3]
  obtain ⟨N4, s4, t4, g4⟩ := m_one (E := hk_EE 231 229) (F := F) (K := fun S11 => some (1, S11)) (f := f + 9) (c := 1) hE3 hF t3 (by decide +kernel) (by decide +kernel) (by decide) (by decide) u_D4
  rw [show u_e u_T0 174 70 = 71 by decide +kernel] at t4
  rw [s4]
  obtain ⟨N5, s5, t5, g5⟩ := m_one (E := hk_EE 231 229) (F := F) (K := fun S11 => some (1, S11)) (f := f + 8) (c := 2) hE3 hF t4 (by decide +kernel) (by decide +kernel) (by decide) (by decide) u_D5
  rw [show u_e u_T0 174 79 = 80 by decide +kernel] at t5
  rw [s5]
  obtain ⟨N6, s6, t6, g6⟩ := m_one (E := hk_EE 231 229) (F := F) (K := fun S11 => some (1, S11)) (f := f + 7) (c := 2) hE3 hF t5 (by decide +kernel) (by decide +kernel) (by decide) (by decide) u_D6
  rw [show u_e u_T0 174 88 = 89 by decide +kernel] at t6
  rw [s6]
  obtain ⟨N7, s7, t7, g7⟩ := m_one (E := hk_EE 231 229) (F := F) (K := fun S11 => some (1, S11)) (f := f + 6) (c := 6) hE3 hF t6 (by decide +kernel) (by decide +kernel) (by decide) (by decide) u_D7
  rw [show u_e u_T0 174 99 = 100 by decide +kernel] at t7
  rw [s7]
  obtain ⟨N8, s8, t8, g8⟩ := m_one (E := hk_EE 231 229) (F := F) (K := fun S11 => some (1, S11)) (f := f + 5) (c := 11) hE3 hF t7 (by decide +kernel) (by decide +kernel) (by decide) (by decide) u_D8
  rw [show u_e u_T0 174 120 = 121 by decide +kernel] at t8
  rw [s8]
  obtain ⟨N9, s9, t9, g9⟩ := m_one (E := hk_EE 231 229) (F := F) (K := fun S11 => some (1, S11)) (f := f + 4) (c := 11) hE3 hF t8 (by decide +kernel) (by decide +kernel) (by decide) (by decide) u_D9
  rw [show u_e u_T0 174 144 = 145 by decide +kernel] at t9
  rw [s9]
  obtain ⟨N10, s10, t10, g10⟩ := m_one (E := hk_EE 231 229) (F := F) (K := fun S11 => some (1, S11)) (f := f + 3) (c := 13) hE3 hF t9 (by decide +kernel) (by decide +kernel) (by decide) (by decide) u_D10
  rw [show u_e u_T0 174 153 = 154 by decide +kernel] at t10
  rw [s10]
  obtain ⟨N11, s11, t11, g11⟩ := m_one (E := hk_EE 231 229) (F := F) (K := fun S11 => some (1, S11)) (f := f + 2) (c := 3) hE3 hF t10 (by decide +kernel) (by decide +kernel) (by decide) (by decide) u_D11
  rw [show u_e u_T0 174 164 = 165 by decide +kernel] at t11
  rw [s11]
  obtain ⟨N12, s12, t12, g12⟩ := m_one (E := hk_EE 231 229) (F := F) (K := fun S11 => some (1, S11)) (f := f + 1) (c := 13) hE3 hF t11 (by decide +kernel) (by decide +kernel) (by decide) (by decide) u_D12
  rw [show u_e u_T0 174 173 = 174 by decide +kernel] at t12
  rw [s12]
  rw [mX12_readsAll_34]
  dsimp only
  rw [show N12 221 16 = 0 from t12.2.2.1.2.1.trans (by decide +kernel), if_pos rfl, Option.bind_some, if_pos (Or.inr rfl)]
  exact ⟨N12, rfl, t12.2.2.2.2.2.2.1, t12.2.2.2.2.1, t12.2.2.2.2.2.1, (k_gM_trans (k_gM_trans (k_gM_trans (k_gM_trans (k_gM_trans (k_gM_trans (k_gM_trans (k_gM_trans (k_gM_trans (k_gM_trans (k_gM_trans (k_gM_trans (k_gM_trans gm g0) g1) g2) g3) g4) g5) g6) g7) g8) g9) g10) g11) g12)⟩
