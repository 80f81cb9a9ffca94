/-! repeats: opening and closing -/
theorem k_Q_o {T : Nat → Int32} {n p x d : Nat} {w : Nat → Int32} {C : hk_S} (h : k_Q T n p x d w C) {a : Nat} (ha : a = 216 ∨ a = 217) (k : Nat) (y : Int32) : k_Q T n p x d w (hk_up C a k y) := ⟨k_cT_ext h.1 (hk_upne _ _ _ (by omega)) (hk_upne _ _ _ (by omega)), h.2.1, by rw [hk_upne _ _ _ (by omega)]; exact h.2.2.1, by rw [hk_upne _ _ _ (by omega)]; exact h.2.2.2.1, by rw [hk_upne _ _ _ (by omega)]; exact h.2.2.2.2.1, by rw [hk_upne _ _ _ (by omega)]; exact h.2.2.2.2.2.1, hk_lf_ext h.2.2.2.2.2.2.1 (fun a h1 h2 => hk_upne _ _ _ (by omega)), h.2.2.2.2.2.2.2⟩
theorem k_Q_11 {T : Nat → Int32} {n p x d : Nat} {w : Nat → Int32} {C : hk_S} (h : k_Q T n p x d w C) (e : Nat) : k_Q T n p x e w (hk_up C 193 11 (nI e)) := ⟨k_cT_ext h.1 (hk_upne _ _ _ (by decide)) (hk_upne _ _ _ (by decide)), h.2.1, by rw [hk_up_eq, if_neg (by decide)]; exact h.2.2.1, by rw [hk_up_eq, if_neg (by decide)]; exact h.2.2.2.1, by rw [hk_up_eq, if_pos rfl], by rw [hk_up_eq, if_neg (by decide)]; exact h.2.2.2.2.2.1, hk_lf_ext h.2.2.2.2.2.2.1 (fun a h1 h2 => hk_upne _ _ _ (by omega)), h.2.2.2.2.2.2.2⟩
theorem k_Q_4 {T : Nat → Int32} {n p x d q : Nat} {w : Nat → Int32} {C : hk_S} (h : k_Q T n p x d w C) (hq : q ≤ n) : k_Q T n q x d w (hk_up C 193 4 (nI q)) := ⟨k_cT_ext h.1 (hk_upne _ _ _ (by decide)) (hk_upne _ _ _ (by decide)), hq, by rw [hk_up_eq, if_pos rfl], by rw [hk_up_eq, if_neg (by decide)]; exact h.2.2.2.1, by rw [hk_up_eq, if_neg (by decide)]; exact h.2.2.2.2.1, by rw [hk_up_eq, if_neg (by decide)]; exact h.2.2.2.2.2.1, hk_lf_ext h.2.2.2.2.2.2.1 (fun a h1 h2 => hk_upne _ _ _ (by omega)), h.2.2.2.2.2.2.2⟩
theorem k_gC_o {d : Nat} {C C1 : hk_S} (h : k_gC d C C1) {a k : Nat} (ha : a = 216 ∨ a = 217) (hk : d ≤ k) (y : Int32) : k_gC d C (hk_up C1 a k y) := ⟨fun c hc => by rw [hk_upne _ _ _ (by omega)]; exact h.1 c hc, fun i hi => by
  have e : ∀ b, (hk_up C1 a k y) b i = C1 b i := fun b => by
    by_cases q : b = a
    · subst q
      rw [hk_up_eq, if_neg (by omega)]
    · rw [hk_upne _ _ _ q]
  rw [e, e]
  exact h.2 i hi⟩
theorem k_openC {F n p x d : Nat} {T w : Nat → Int32} {C : hk_S} (hF : 1000 ≤ F) (hd : d < 2) (h : k_Q T n p x d w C) (h9 : C 193 9 = nI 0) :
    (u_nok T n p 1 20 → u_k T n (u_e T n p) = 4 → ∃ C', mX8_openRepeat hk_E0 F C 193 = some (1, C') ∧ k_Q T n (u_e T n (u_e T n p)) x (d + 1) w C' ∧ k_gC d C C' ∧ C' 216 d = nI (u_e T n (u_e T n p)) ∧ C' 217 d = u_v T n p)
    ∧ (u_nok T n p 1 20 → ¬ u_k T n (u_e T n p) = 4 → ∃ C', mX8_openRepeat hk_E0 F C 193 = some (0, C') ∧ k_gC 0 C C' ∧ C' 193 2 = 1 ∧ C' 193 3 = nI (u_s T n (u_e T n p)))
    ∧ (¬ u_nok T n p 1 20 → ∃ C', mX8_openRepeat hk_E0 F C 193 = some (0, C') ∧ k_gC 0 C C' ∧ C' 193 2 = u_nk T n p ∧ C' 193 3 = nI (u_s T n p)) := by
  obtain ⟨y1, y2⟩ := c_numX (lo := 1) (hi := 20) hF h h9 (by decide)
  refine ⟨fun z1 z2 => ?_, fun z1 z2 => ?_, fun z1 => ?_⟩
  · obtain ⟨C1, a1, a2, a3, a4⟩ := y1 z1
    obtain ⟨C2, b1, b2, b3, b4⟩ := c_mark hF a2 2 (by decide)
    rw [if_pos ((u_c_iff _).2.2.1.mpr z2)] at b4
    have e215 : C2 215 = upd (C 215) 0 (u_v T n p) := (b2.1 215 (by decide)).trans a4
    have g2 : k_gC d C C2 := k_gC_fx (k_gC_le a3 (by omega)) b2
    have eop : mX8_operand hk_E0 F (hk_up C2 216 d (nI (u_e T n (u_e T n p)))) 193 0 = some (u_v T n p, hk_up C2 216 d (nI (u_e T n (u_e T n p)))) := by
      rw [c_op0 (A := upd (C 215) 0 (u_v T n p)) (by rw [hk_upne _ _ _ (by decide)]; exact e215), upd_at, if_pos rfl]
    refine ⟨hk_up (hk_up (hk_up C2 216 d (nI (u_e T n (u_e T n p)))) 217 d (u_v T n p)) 193 11 (nI (d + 1)), ?_, k_Q_11 (k_Q_o (k_Q_o b1 (Or.inl rfl) _ _) (Or.inr rfl) _ _) _, k_gC_up (k_gC_o (k_gC_o g2 (Or.inl rfl) (Nat.le_refl _) _) (Or.inr rfl) (Nat.le_refl _) _) (Or.inl rfl) _ _, ?_, ?_⟩
    · unfold mX8_openRepeat
      rw [a1, Option.bind_some]
      dsimp only
      rw [if_neg (by decide), b4, Option.bind_some]
      dsimp only
      have e11 : (hk_up C2 216 d (nI (u_e T n (u_e T n p)))) 193 11 = nI d := by rw [hk_upne _ _ _ (by decide)]; exact b1.2.2.2.2.1
      have d11 := b1.2.2.2.2.1
      rw [if_pos (show ¬ (1 : Int32) = 0 by decide), if_neg (show ¬ C2 193 11 < 0 by rw [d11]; exact nI_pos (by omega)), if_neg (show ¬ (2 : Int32) ≤ C2 193 11 by rw [d11]; exact nI_ge (a := d) (b := 2) hd (by omega)), rE_193_12 hE2, Option.bind_some, if_pos (kE_216 hE2), lE_216 hE2, if_pos (show hk_ok (C2 193 11) 2 by rw [d11]; exact hk_okI hd (by omega)), show (C2 193 11).toNatClampNeg = d by rw [d11]; exact nI_clamp (by omega), b1.2.2.1, hk_let_eq, rE_193_13 hE2, Option.bind_some, if_pos (kE_217 hE2), eop, Option.bind_some]
      dsimp only
      generalize hk_up C2 216 d (nI (u_e T n (u_e T n p))) = S9 at *
      rw [lE_217 hE2, if_pos (show hk_ok (S9 193 11) 2 by rw [e11]; exact hk_okI hd (by omega)), show (S9 193 11).toNatClampNeg = d by rw [e11]; exact nI_clamp (by omega), hk_let_eq, hk_let_eq, show (hk_up S9 217 d (u_v T n p)) 193 11 = nI d by rw [hk_upne _ _ _ (by decide)]; exact e11, nI_1]
    · rw [hk_upne _ _ _ (by decide), hk_upne _ _ _ (by decide), hk_up_eq, if_pos rfl]
    · rw [hk_upne _ _ _ (by decide), hk_up_eq, if_pos rfl]
  · obtain ⟨C1, a1, a2, a3, a4⟩ := y1 z1
    obtain ⟨C2, b1, b2, b3, b4⟩ := c_mark hF a2 2 (by decide)
    rw [if_neg (fun z => z2 ((u_c_iff _).2.2.1.mp z))] at b4
    refine ⟨_, ?_, k_gC_up (k_gC_up (k_gC_fx (k_gC_le a3 (Nat.zero_le _)) b2) (Or.inl rfl) 2 1) (Or.inl rfl) 3 (C2 193 6), by rw [hk_up_eq, if_neg (by decide), hk_up_eq, if_pos rfl], by rw [hk_up_eq, if_pos rfl, b3]⟩
    unfold mX8_openRepeat
    rw [a1, Option.bind_some]
    dsimp only
    rw [if_neg (by decide), b4, Option.bind_some]
    dsimp only
    rw [if_neg (fun z => z rfl)]
  · obtain ⟨C1, a1, a2, a3, a4⟩ := y2 z1
    refine ⟨C1, ?_, k_gC_le a2 (Nat.zero_le _), a3, a4⟩
    unfold mX8_openRepeat
    rw [a1, Option.bind_some]
    dsimp only
    rw [if_pos rfl]
def k_KK (F : Nat) (S24 : hk_S) (_ : Int32) : Option (Int32 × hk_S) := (mX12_next hk_E0 F S24 221).bind (fun r26 => (mX12_is hk_E0 F r26 221 1).bind (fun r27 => if r27.1 = 0 ∨ r27.1 = 1 then (some (r27.1, r27.2)) else none))
theorem k_openM {F n p x : Nat} {T w : Nat → Int32} {M : hk_S} {x1 : Int32} {rc : hk_S → Nat → Int32 → Option (Int32 × hk_S)} (hF : 1000 ≤ F) (h : k_P T n p x w M) :
    (u_nok T n p 1 20 → u_k T n (u_e T n p) = 4 → ∃ M', mX12_readsRepeat hk_E0 F rc M 221 x1 = mX12_readsRepeat_36 hk_E0 F rc 221 x1 (u_v T n p) (nI (u_e T n (u_e T n p))) (k_KK F) F M' 0 ∧ k_P T n (u_e T n p) x w M' ∧ k_gM M M')
    ∧ (u_nok T n p 1 20 → ¬ u_k T n (u_e T n p) = 4 → ∃ M', mX12_readsRepeat hk_E0 F rc M 221 x1 = some (0, M') ∧ k_gM M M' ∧ M' 221 11 = 1 ∧ M' 221 12 = nI (u_s T n (u_e T n p)))
    ∧ (¬ u_nok T n p 1 20 → ∃ M', mX12_readsRepeat hk_E0 F rc M 221 x1 = some (0, M') ∧ k_gM M M' ∧ M' 221 11 = u_nk T n p ∧ M' 221 12 = nI (u_s T n p)) := by
  obtain ⟨y1, y2⟩ := m_numX (E := hk_E0) (F := F) (i := 0) (lo := 1) (hi := 20) hE1 hF (by decide) h
  refine ⟨fun z1 z2 => ?_, fun z1 z2 => ?_, fun z1 => ?_⟩
  · obtain ⟨M1, a1, a2, a3, a4⟩ := y1 z1
    have a1' : mX12_number hk_E0 F M 221 0 1 20 = some (1, M1) := a1
    refine ⟨M1, ?_, a2, a3⟩
    unfold mX12_readsRepeat mX12_is
    rw [a1', Option.bind_some]
    dsimp only
    rw [if_neg (by decide), if_pos (show M1 221 16 = 4 from a2.2.2.1.2.1.trans z2), Option.bind_some]
    dsimp only
    rw [if_pos (show ¬ (1 : Int32) = 0 by decide), rE_221_21 hE1, Option.bind_some, if_pos (kE_230 hE1), lE_230 hE1, if_pos (show hk_ok 0 3 by decide), hk_let_eq, hk_let_eq, a4, upd_at, if_pos rfl, a2.2.2.1.1]
    rfl
  · obtain ⟨M1, a1, a2, a3, a4⟩ := y1 z1
    have a1' : mX12_number hk_E0 F M 221 0 1 20 = some (1, M1) := a1
    refine ⟨_, ?_, k_gM_up (k_gM_up a3 (show 11 ∈ [11, 12, 16, 17, 18, 19, 20] by decide) 1) (show 12 ∈ [11, 12, 16, 17, 18, 19, 20] by decide) (nI (u_s T n (u_e T n p))), by rw [hk_up_eq, if_neg (by decide), hk_up_eq, if_pos rfl], by rw [hk_up_eq, if_pos rfl]⟩
    unfold mX12_readsRepeat mX12_is
    rw [a1', Option.bind_some]
    dsimp only
    rw [if_neg (by decide), if_neg (show ¬ M1 221 16 = 4 from fun z => z2 (a2.2.2.1.2.1.symm.trans z)), pX12_fail a2, Option.bind_some, if_pos rfl, Option.bind_some, if_neg (fun z => z rfl)]
  · obtain ⟨M1, a1, a2, a3, a4⟩ := y2 z1
    have a1' : mX12_number hk_E0 F M 221 0 1 20 = some (0, M1) := a1
    refine ⟨M1, ?_, a2, a3, a4⟩
    unfold mX12_readsRepeat
    rw [a1', Option.bind_some]
    dsimp only
    rw [if_pos rfl]
theorem k_closeC {F n p x d r q : Nat} {T w : Nat → Int32} {C : hk_S} (hF : 1000 ≤ F) (hd : d < 2) (h : k_Q T n p x (d + 1) w C) (h7 : C 217 d = nI r) (h6 : C 216 d = nI q) (hq : q ≤ n) (hr : 1 ≤ r) (hr2 : r ≤ 20) :
    (2 ≤ r → ∃ C', mX8_closeRepeat hk_E0 F C 193 = some (1, C') ∧ k_Q T n q x (d + 1) w C' ∧ k_gC d C C' ∧ C' 217 d = nI (r - 1) ∧ C' 216 d = nI q)
    ∧ (r = 1 → u_k T n p = 1 → ∃ C', mX8_closeRepeat hk_E0 F C 193 = some (1, C') ∧ k_Q T n (u_e T n p) x d w C' ∧ k_gC d C C')
    ∧ (r = 1 → ¬ u_k T n p = 1 → ∃ C', mX8_closeRepeat hk_E0 F C 193 = some (0, C') ∧ k_gC 0 C C' ∧ C' 193 2 = 1 ∧ C' 193 3 = nI (u_s T n p)) := by
  have e11 : C 193 11 - 1 = nI d := by
    rw [h.2.2.2.2.1]
    exact nI_subN (a := d + 1) (b := 1) (by omega)
  have er : nI r - 1 = nI (r - 1) := nI_subN (a := r) (b := 1) hr
  have e9 : (hk_up C 217 d (nI (r - 1))) 217 d = nI (r - 1) := by rw [hk_up_eq, if_pos rfl]
  have q9 : k_Q T n p x (d + 1) w (hk_up C 217 d (nI (r - 1))) := k_Q_o h (Or.inr rfl) _ _
  have g9 : k_gC d C (hk_up C 217 d (nI (r - 1))) := k_gC_o (k_gC_refl d C) (Or.inr rfl) (Nat.le_refl _) _
  have h69 : (hk_up C 217 d (nI (r - 1))) 216 d = nI q := by rw [hk_upne _ _ _ (by decide)]; exact h6
  have hu : mX8_closeRepeat hk_E0 F C 193 = if nI (r - 1) ≤ 0 then (mX8_readMark hk_E0 F (hk_up (hk_up C 217 d (nI (r - 1))) 193 11 (nI d)) 193 4).bind (fun r13 => if r13.1 = 0 ∨ r13.1 = 1 then (some (r13.1, r13.2)) else none) else some (1, hk_up (hk_up C 217 d (nI (r - 1))) 193 4 (nI q)) := by
    unfold mX8_closeRepeat
    rw [hk_let_eq, e11, if_neg (nI_pos (by omega)), if_pos (show nI d < 2 from nI_lt (b := 2) hd (by omega)), rE_193_13 hE2, Option.bind_some, if_pos (kE_217 hE2), lE_217 hE2, if_pos (hk_okI hd (by omega))]
    simp only [show (nI d).toNatClampNeg = d from nI_clamp (by omega), h7, er, hk_let_eq, e9]
    rw [if_pos (hk_okI hd (by omega)), rE_193_12 hE2, Option.bind_some, if_pos (kE_216 hE2), lE_216 hE2, if_pos (hk_okI hd (by omega)), h69, if_pos (show hk_ok (nI d) 2 from hk_okI hd (by omega))]
  generalize hk_up C 217 d (nI (r - 1)) = C9 at *
  refine ⟨fun z => ?_, fun z1 z2 => ?_, fun z1 z2 => ?_⟩
  · refine ⟨hk_up C9 193 4 (nI q), ?_, k_Q_4 q9 hq, k_gC_up g9 (Or.inl rfl) _ _, by rw [hk_upne _ _ _ (by decide)]; exact e9, by rw [hk_upne _ _ _ (by decide)]; exact h69⟩
    rw [hu, if_neg (show ¬ nI (r - 1) ≤ 0 from fun z => by
      have := (nI_leI (a := r - 1) (b := 0) (by omega) (by omega)).mp z
      omega)]
  · subst z1
    obtain ⟨C2, b1, b2, b3, b4⟩ := c_mark hF (k_Q_11 q9 d) 4 (by decide)
    rw [if_pos ((u_c_iff _).2.2.2.2.1.mpr z2)] at b4
    refine ⟨C2, ?_, b1, k_gC_fx (k_gC_up g9 (Or.inl rfl) _ _) b2⟩
    rw [hu, if_pos (by decide), b4, Option.bind_some, if_pos (Or.inr rfl)]
  · subst z1
    obtain ⟨C2, b1, b2, b3, b4⟩ := c_mark hF (k_Q_11 q9 d) 4 (by decide)
    rw [if_neg (fun z => z2 ((u_c_iff _).2.2.2.2.1.mp z))] at b4
    refine ⟨_, ?_, k_gC_up (k_gC_up (k_gC_fx (k_gC_up (k_gC_le g9 (Nat.zero_le _)) (Or.inl rfl) _ _) b2) (Or.inl rfl) 2 1) (Or.inl rfl) 3 (C2 193 6), by rw [hk_up_eq, if_neg (by decide), hk_up_eq, if_pos rfl], by rw [hk_up_eq, if_pos rfl, b3]⟩
    rw [hu, if_pos (by decide), b4, Option.bind_some, if_pos (Or.inl rfl)]
