/-! a whole script on both sides -/
def a_zr (w : Nat → Int32) (z : Nat) : Nat → Int32 := fun i => if z ≤ i ∧ i < 107 then 0 else w i
theorem pX12_parses_2 {E : hk_E} {F : Nat} {K : hk_S → Int32 → Option (Int32 × hk_S)} (hE : hk_Sh 231 E) : ∀ (d z f : Nat) (S : hk_S), z + d = 107 → d < f → mX12_parses_2 E F 221 K f S (nI z) = K (va_up S 222 (a_zr (S 222) z)) (nI 107) := by
  intro d
  induction d with
  | zero =>
    intro z f S h1 h2
    obtain ⟨f, rfl⟩ : ∃ g, f = g + 1 := ⟨f - 1, by omega⟩
    have hz : z = 107 := by omega
    have e : a_zr (S 222) z = S 222 := by
      funext i
      unfold a_zr
      rw [if_neg (by omega)]
    rw [mX12_parses_2]
    dsimp only
    rw [if_pos (show (107 : Int32) ≤ nI z from (nI_leI (a := 107) (by omega) (by omega)).mpr (by omega)), e, k_up_same, hz]
  | succ d ih =>
    intro z f S h1 h2
    obtain ⟨f, rfl⟩ : ∃ g, f = g + 1 := ⟨f - 1, by omega⟩
    have e : a_zr (upd (S 222) z 0) (z + 1) = a_zr (S 222) z := by
      funext i
      unfold a_zr
      rw [upd_at]
      by_cases q : i = z
      · rw [if_neg (by omega), if_pos q, if_pos (by omega)]
      · rw [if_neg q]
        by_cases q2 : z ≤ i ∧ i < 107
        · rw [if_pos q2, if_pos (by omega)]
        · rw [if_neg q2, if_neg (by omega)]
    rw [mX12_parses_2]
    dsimp only
    rw [if_neg (show ¬ (107 : Int32) ≤ nI z from nI_ge (a := z) (b := 107) (by omega) (by omega)), rE_221_0 hE, Option.bind_some, if_pos (kE_222 hE), lE_222 hE, if_pos (hk_okI (by omega) (by omega)), nI_clamp (by omega), hk_let_eq, hk_let_eq, nI_1, ih (z + 1) f _ (by omega) (by omega), k_hk_up, va_up_self, k_upup, e]
theorem m_parse {E : hk_E} {F n : Nat} {T : Nat → Int32} {M : hk_S} (hE : hk_Sh 231 E) (hF : 1000 ≤ F) (hT : k_mT T n M) : ∃ M1 w, mX12_parses E F M 221 = (mX12_readsAll E F M1 221).bind (fun r21 => if r21.1 = 0 ∨ r21.1 = 1 then (some (r21.1, r21.2)) else none) ∧ k_P T n 0 0 w M1 ∧ (∀ i, i < 107 → w i = a_first i) ∧ k_gM M M1 ∧ w = upd (upd (upd (a_zr (M 222) 0) 2 60) 3 580) 4 20 := by
  let M2 := hk_up (hk_up (hk_up (hk_up (hk_up (hk_up (hk_up (va_up M 222 (a_zr (M 222) 0)) 222 2 60) 222 3 580) 222 4 20) 221 11 0) 221 12 (-1)) 221 20 0) 221 18 0
  have g2 : k_gM M M2 := by
    refine k_gM_up (k_gM_up (k_gM_up (k_gM_up ?_ (by decide) _) (by decide) _) (by decide) _) (by decide) _
    refine ⟨fun a h1 h2 h3 => by rw [hk_upne _ _ _ h2, hk_upne _ _ _ h2, hk_upne _ _ _ h2, va_up_ne _ _ h2], fun k hk => by rw [hk_upne _ _ _ (by decide), hk_upne _ _ _ (by decide), hk_upne _ _ _ (by decide), va_up_ne _ _ (by decide)]⟩
  have e222 : M2 222 = upd (upd (upd (a_zr (M 222) 0) 2 60) 3 580) 4 20 := by
    show hk_up (hk_up (hk_up (hk_up (hk_up (hk_up (hk_up (va_up M 222 (a_zr (M 222) 0)) 222 2 60) 222 3 580) 222 4 20) 221 11 0) 221 12 (-1)) 221 20 0) 221 18 0 222 = _
    rw [hk_upne _ _ _ (by decide), hk_upne _ _ _ (by decide), hk_upne _ _ _ (by decide), hk_upne _ _ _ (by decide), hk_up_self, hk_up_self, hk_up_self, va_up_self]
  have eW : ∀ i, i < 107 → (upd (upd (upd (a_zr (M 222) 0) 2 60) 3 580) 4 20) i = a_first i := fun i hi => by
    rw [upd_at, upd_at, upd_at]
    unfold a_first a_zr
    rw [if_pos (show 0 ≤ i ∧ i < 107 by omega)]
    by_cases q4 : i = 4
    · subst q4
      decide
    · rw [if_neg q4]
      by_cases q3 : i = 3
      · subst q3
        decide
      · rw [if_neg q3]
        by_cases q2 : i = 2
        · rw [if_pos q2, if_pos q2]
        · rw [if_neg q2, if_neg q2, if_neg q3, if_neg q4]
  have hT2 : k_mT T n M2 := ⟨hT.1, by rw [g2.2 10 (by decide)]; exact hT.2.1, fun k hk => by rw [g2.1 228 (by decide) (by decide) (by decide)]; exact hT.2.2 k hk⟩
  have e18 : M2 221 18 = nI 0 := by
    show hk_up (hk_up (hk_up (hk_up (hk_up (hk_up (hk_up (va_up M 222 (a_zr (M 222) 0)) 222 2 60) 222 3 580) 222 4 20) 221 11 0) 221 12 (-1)) 221 20 0) 221 18 0 221 18 = _
    rw [hk_up_eq, if_pos rfl]
    rfl
  have e20 : M2 221 20 = nI 0 := by
    show hk_up (hk_up (hk_up (hk_up (hk_up (hk_up (hk_up (va_up M 222 (a_zr (M 222) 0)) 222 2 60) 222 3 580) 222 4 20) 221 11 0) 221 12 (-1)) 221 20 0) 221 18 0 221 20 = _
    rw [hk_up_eq, if_neg (by decide), hk_up_eq, if_pos rfl]
    rfl
  have e12 : M2 221 12 = -1 := by
    show hk_up (hk_up (hk_up (hk_up (hk_up (hk_up (hk_up (va_up M 222 (a_zr (M 222) 0)) 222 2 60) 222 3 580) 222 4 20) 221 11 0) 221 12 (-1)) 221 20 0) 221 18 0 221 12 = _
    rw [hk_up_eq, if_neg (by decide), hk_up_eq, if_neg (by decide), hk_up_eq, if_pos rfl]
  have e11 : M2 221 11 = 0 := by
    show hk_up (hk_up (hk_up (hk_up (hk_up (hk_up (hk_up (va_up M 222 (a_zr (M 222) 0)) 222 2 60) 222 3 580) 222 4 20) 221 11 0) 221 12 (-1)) 221 20 0) 221 18 0 221 11 = _
    rw [hk_up_eq, if_neg (by decide), hk_up_eq, if_neg (by decide), hk_up_eq, if_neg (by decide), hk_up_eq, if_pos rfl]
  have hp : mX12_parses E F M 221 = ((mX12_next E F M2 221).bind (fun r20 => (mX12_readsAll E F r20 221).bind (fun r21 => if r21.1 = 0 ∨ r21.1 = 1 then (some (r21.1, r21.2)) else none))) := by
    unfold mX12_parses
    refine (pX12_parses_2 (E := E) (F := F) hE 107 0 F M (by omega) (by omega)).trans ?_
    rw [rE_221_0 hE, Option.bind_some, if_pos (kE_222 hE), lE_222 hE, if_pos (show hk_ok 2 107 by decide), hk_let_eq, if_pos (show hk_ok 3 107 by decide), hk_let_eq, if_pos (show hk_ok 4 107 by decide), hk_let_eq, hk_let_eq, hk_let_eq, hk_let_eq, hk_let_eq]
  obtain ⟨M3, a1, a2, a3, a4, a5, a6⟩ := pX12_next (F := F) hE hF hT2 (Nat.zero_le n) e18
  refine ⟨M3, _, by rw [hp, a1, Option.bind_some], ⟨k_mT_fx hT2 a6, Nat.zero_le _, ⟨a2, a3, a4, a5⟩, (a6.2 20 (by decide)).trans e20, (a6.2 11 (by decide)).trans e11, (a6.2 12 (by decide)).trans e12, (a6.1 222 (by decide)).trans e222, a_ok_row a_first_ok eW⟩, eW, k_gM_fx g2 a6, rfl⟩
def k_Kf (S36 : hk_S) (_ _ : Int32) : Option (Int32 × hk_S) := if ¬ (S36 193 2) = 0 then (some (0, S36)) else (some (1, S36))
theorem k_run0 {F f : Nat} {K : hk_S → Int32 → Int32 → Option (Int32 × hk_S)} {C : hk_S} {z : Int32} : mX8_run_52 hk_E0 F 193 K (f + 1) C 0 z = K C 0 z := by
  rw [mX8_run_52]
  dsimp only
  rw [if_pos rfl]
theorem k_script {F n : Nat} {T : Nat → Int32} {C M : hk_S} (hF : 2000000 ≤ F) (hC : k_cT T n C) (hM : k_mT T n M) :
    (∃ C' M' w', mX8_run hk_E0 F C 193 = some (1, C') ∧ mX12_parses hk_E0 F M 221 = some (1, M') ∧ hk_lf C' 196 w' ∧ a_ok w' ∧ M' 222 = w' ∧ C' 193 2 = 0 ∧ M' 221 11 = 0 ∧ M' 221 12 = -1 ∧ k_gC 0 C C' ∧ k_gM M M')
    ∨ (∃ C' M' k o, mX8_run hk_E0 F C 193 = some (0, C') ∧ mX12_parses hk_E0 F M 221 = some (0, M') ∧ ¬ k = 0 ∧ C' 193 2 = k ∧ C' 193 3 = nI o ∧ M' 221 11 = k ∧ M' 221 12 = nI o ∧ k_gC 0 C C' ∧ k_gM M M') := by
  have hn := hC.1
  have hL := hk_L196 hE2
  obtain ⟨M1, w, p1, p2, p3, p4, -⟩ := m_parse (F := F) hE1 (by omega) hM
  obtain ⟨S2, s1, s2, s3⟩ := cX_clear (E := hk_E0) (F := F) (S := C) (by omega) hL
  have s2' : hk_lf S2 196 w := hk_lf_row s2 (fun i hi => p3 i hi)
  let S6 := hk_up (hk_up (hk_up (hk_up S2 193 2 0) 193 4 0) 193 10 0) 193 11 0
  have e6 : ∀ a, a ≠ 193 → S6 a = S2 a := fun a ha => by
    show hk_up (hk_up (hk_up (hk_up S2 193 2 0) 193 4 0) 193 10 0) 193 11 0 a = _
    rw [hk_upne _ _ _ ha, hk_upne _ _ _ ha, hk_upne _ _ _ ha, hk_upne _ _ _ ha]
  have q6 : k_Q T n 0 0 0 w S6 := by
    refine ⟨k_cT_ext hC ((e6 194 (by decide)).trans (s3 194 (by omega))) ((e6 195 (by decide)).trans (s3 195 (by omega))), Nat.zero_le _, ?_, ?_, ?_, ?_, hk_lf_ext s2' (fun a h1 h2 => e6 a (by omega)), a_ok_row a_first_ok p3⟩
    · show hk_up (hk_up (hk_up (hk_up S2 193 2 0) 193 4 0) 193 10 0) 193 11 0 193 4 = _
      rw [hk_up_eq, if_neg (by decide), hk_up_eq, if_neg (by decide), hk_up_eq, if_pos rfl]
      rfl
    · show hk_up (hk_up (hk_up (hk_up S2 193 2 0) 193 4 0) 193 10 0) 193 11 0 193 10 = _
      rw [hk_up_eq, if_neg (by decide), hk_up_eq, if_pos rfl]
      rfl
    · show hk_up (hk_up (hk_up (hk_up S2 193 2 0) 193 4 0) 193 10 0) 193 11 0 193 11 = _
      rw [hk_up_eq, if_pos rfl]
      rfl
    · show hk_up (hk_up (hk_up (hk_up S2 193 2 0) 193 4 0) 193 10 0) 193 11 0 193 2 = _
      rw [hk_up_eq, if_neg (by decide), hk_up_eq, if_neg (by decide), hk_up_eq, if_neg (by decide), hk_up_eq, if_pos rfl]
  have g6 : k_gC 0 C S6 := ⟨fun a ha => by rw [e6 a (by omega)]; exact s3 a (by omega), fun i hi => absurd hi (by omega)⟩
  have hrun : mX8_run hk_E0 F C 193 = (mX8_readFirstWord hk_E0 F S6 193).bind (fun r7 => if r7.1 = 0 then (mX8_run_52 hk_E0 F 193 k_Kf F r7.2 0 0) else ((mX8_readMark hk_E0 F r7.2 193 4).bind (fun r40 => if r40.1 = 0 then (mX8_run_52 hk_E0 F 193 k_Kf F r40.2 0 0) else (mX8_run_52 hk_E0 F 193 k_Kf F r40.2 1 0)))) := by
    unfold mX8_run
    rw [rE_193_1 hE2, Option.bind_some, if_pos hL.1, s1, Option.bind_some, hk_let_eq, hk_let_eq, hk_let_eq, hk_let_eq]
    rfl
  obtain ⟨f0, hf0⟩ : ∃ f, F = f + 1 := ⟨F - 1, by omega⟩
  have r0 : ∀ D : hk_S, ¬ D 193 2 = 0 → mX8_run_52 hk_E0 F 193 k_Kf F D 0 0 = some (0, D) := fun D hD => by
    have := k_run0 (F := F) (f := f0) (K := k_Kf) (C := D) (z := 0)
    rw [← hf0] at this
    rw [this]
    unfold k_Kf
    rw [if_pos hD]
  clear_value S6
  obtain ⟨C1, a1, a2, a3, a4, a5, a6⟩ := pX8_readToken (F := F) (by omega) q6.1 q6.2.1 q6.2.2.1
  have q1 := k_Q_tok q6 a6 a2
  have tok : k_tok T n 0 C1 := ⟨a2, a3, a4, a5⟩
  have gc1 : k_gC 0 C C1 := k_gC_fx g6 a6
  have ew : u_says T n 0 0 = u_says T n 0 12 := u_says_eq (by decide +kernel)
  have hw1 := pX8_isWord (F := F) (i := 0) (by omega) (by decide) q6.2.1 q1.1 tok
  have hs1 := pX12_says (F := F) (i := 12) hE1 (by omega) (by decide) p2.2.1 p2.1 p2.2.2.1
  rw [ew] at hw1
  rw [hrun, p1]
  unfold mX8_readFirstWord mX12_readsAll
  rw [a1, Option.bind_some, hw1, Option.bind_some, hs1, Option.bind_some]
  dsimp only
  by_cases w1 : u_says T n 0 12 = true
  · obtain ⟨M2, b1, b2, b3⟩ := k_P_next (F := F) hE1 (by omega) p2
    obtain ⟨C2, d1, d2, d3, d4⟩ := c_mark (F := F) (by omega) q1 4 (by decide)
    have gm2 : k_gM M M2 := k_gM_fx p4 b3
    rw [if_pos w1, if_pos (show ¬ (1 : Int32) = 0 by decide), if_pos (show ¬ (1 : Int32) = 0 by decide), Option.bind_some, b1, Option.bind_some]
    dsimp only
    rw [if_neg (show ¬ (1 : Int32) = 0 by decide), d4]
    unfold mX12_is
    by_cases k1 : u_k T n (u_e T n 0) = 1
    · obtain ⟨M3, v1, v2, v3⟩ := k_P_next (F := F) hE1 (by omega) b2
      have gm3 : k_gM M M3 := k_gM_fx gm2 v3
      have gc2 : k_gC 0 C C2 := k_gC_fx gc1 d2
      rw [if_pos ((u_c_iff _).2.2.2.2.1.mpr k1), Option.bind_some]
      dsimp only
      rw [if_neg (show ¬ (1 : Int32) = 0 by decide), if_pos (show M2 221 16 = 1 from b2.2.2.1.2.1.trans k1), Option.bind_some]
      dsimp only
      rw [if_pos (show ¬ (1 : Int32) = 0 by decide), v1, Option.bind_some]
      rcases k_all (F := F) (by omega) (n + 1) (u_e T n (u_e T n 0)) 0 w C2 M3 F (by omega) (by omega) d1 v2 (by decide) with ⟨C', M', w', s, t1, t2, t3, t4, t5, t6, t7, t8, t9, t10, t11⟩ | ⟨C', M', k, o, s, t1, t2, t3, t4, t5, t6, t7, t8, t9, t10⟩
      · left
        refine ⟨C', M', w', ?_, by rw [t1, Option.bind_some, if_pos (Or.inr rfl)], t5, t6, t7, t4, t8, t9, k_gC_trans gc2 t10, k_gM_trans gm3 t11⟩
        obtain ⟨f, hf⟩ : ∃ f, F = f + 1 + s := ⟨F - 1 - s, by omega⟩
        have := t3 k_Kf (f + 1) 0 (by omega)
        rw [← hf, k_run0, show nI 0 = (0 : Int32) from rfl] at this
        rw [this]
        unfold k_Kf
        rw [if_neg (fun z => z t4)]
      · right
        refine ⟨C', M', k, o, ?_, by rw [t1, Option.bind_some, if_pos (Or.inl rfl)], t3, t4, t5, t6, t7, k_gC_trans gc2 t8, k_gM_trans gm3 t9⟩
        obtain ⟨f, hf⟩ : ∃ f, F = f + 1 + s := ⟨F - 1 - s, by omega⟩
        have := t10 k_Kf (f + 1) 0 (by omega)
        rw [← hf, k_run0, show nI 0 = (0 : Int32) from rfl] at this
        rw [this]
        unfold k_Kf
        rw [if_pos (by rw [t4]; exact t3)]
    · right
      have e2 : (hk_up (hk_up C2 193 2 1) 193 3 (C2 193 6)) 193 2 = 1 := by rw [hk_up_eq, if_neg (by decide), hk_up_eq, if_pos rfl]
      rw [if_neg (fun z => k1 ((u_c_iff _).2.2.2.2.1.mp z)), Option.bind_some]
      dsimp only
      rw [if_pos rfl, r0 _ (by rw [e2]; decide), if_neg (show ¬ M2 221 16 = 1 from fun z => k1 (b2.2.2.1.2.1.symm.trans z)), pX12_fail b2, Option.bind_some, if_pos rfl, Option.bind_some, if_neg (fun z => z rfl), Option.bind_some, if_pos (Or.inl rfl)]
      exact ⟨_, _, 1, u_s T n (u_e T n 0), rfl, rfl, by decide, e2, by rw [hk_up_eq, if_pos rfl, d3], by dsimp only; rw [hk_up_eq, if_neg (by decide), hk_up_eq, if_pos rfl], by dsimp only; rw [hk_up_eq, if_pos rfl], k_gC_up (k_gC_up (k_gC_fx gc1 d2) (Or.inl rfl) _ _) (Or.inl rfl) _ _, k_gM_up (k_gM_up gm2 (by decide) _) (by decide) _⟩
  · right
    have e2 : (hk_up (hk_up C1 193 2 1) 193 3 (C1 193 6)) 193 2 = 1 := by rw [hk_up_eq, if_neg (by decide), hk_up_eq, if_pos rfl]
    rw [if_neg w1, if_neg (fun z => z rfl), pX8_fail, Option.bind_some, if_pos rfl, Option.bind_some, if_pos rfl, r0 _ (by dsimp only; rw [e2]; decide), if_neg (fun z => z rfl), pX12_fail p2, Option.bind_some, if_pos (Or.inl rfl), Option.bind_some, if_pos (Or.inl rfl)]
    exact ⟨_, _, 1, u_s T n 0, rfl, rfl, by decide, e2, by dsimp only; rw [hk_up_eq, if_pos rfl, a4], by dsimp only; rw [hk_up_eq, if_neg (by decide), hk_up_eq, if_pos rfl], by dsimp only; rw [hk_up_eq, if_pos rfl], k_gC_up (k_gC_up gc1 (Or.inl rfl) _ _) (Or.inl rfl) _ _, k_gM_up (k_gM_up p4 (by decide) _) (by decide) _⟩
