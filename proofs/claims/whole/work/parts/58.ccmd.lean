/-! the class reads and does each command -/
theorem k_tail0 {F : Nat} {cc : Int32} {C : hk_S} : k_tail F cc (0, C) = some (0, C) := if_pos rfl
theorem c_op0 {F : Nat} {C : hk_S} {A : Nat → Int32} (hA : C 215 = A) : mX8_operand hk_E0 F C 193 0 = some (A 0, C) := pX8_operand (i := 0) hA (by decide)
theorem c_op1 {F : Nat} {C : hk_S} {A : Nat → Int32} (hA : C 215 = A) : mX8_operand hk_E0 F C 193 1 = some (A 1, C) := pX8_operand (i := 1) hA (by decide)
theorem c_op2 {F : Nat} {C : hk_S} {A : Nat → Int32} (hA : C 215 = A) : mX8_operand hk_E0 F C 193 2 = some (A 2, C) := pX8_operand (i := 2) hA (by decide)
theorem c_op3 {F : Nat} {C : hk_S} {A : Nat → Int32} (hA : C 215 = A) : mX8_operand hk_E0 F C 193 3 = some (A 3, C) := pX8_operand (i := 3) hA (by decide)
section
variable {F n p x d : Nat} {T w : Nat → Int32} {C0 C : hk_S}
set_option maxHeartbeats 4000000 in
theorem c_cmd_0 (hF : 2000 ≤ F) (h : k_Q T n p x d w C) (hg : k_gC d C0 C) (h9 : C 193 9 = nI 0) : k_co T n d x C0 ((mX8_readOperands hk_E0 F C 193 0).bind (k_tail F 0)) (u_D T n w p 0) := by
  have hL := hk_L196 hE2
  have hw := h.2.2.2.2.2.2.2
  have hS := h.2.2.2.2.2.2.1
  unfold mX8_readOperands
  rw [if_pos (show hk_ok (0 : Int32) 15 by decide), if_pos (show hk_ok (0 : Int32) 15 by decide), if_pos (show hk_sm.getD (0 : Int32).toNatClampNeg 0 = 1 by decide)]
  simp only [u_D]
  rw [Option.bind_assoc]
  obtain ⟨m, hm, e9⟩ := k_n9 hw
  refine c_num (j := 0) (by omega) h hg h9 (by decide) rfl (fun _ => by rw [if_pos (Or.inl rfl), Option.bind_some, k_tail0]) (fun C1 l1 l2 h1 g1 j1 b1 => ?_)
  rw [if_pos (Or.inr rfl), Option.bind_some]
  have a0 : (upd (C 215) 0 (u_v T n p)) 0 = u_v T n p := by rw [upd_at, if_pos rfl]
  generalize upd (C 215) 0 (u_v T n p) = A at *
  refine c_stop (by omega) h1 g1 b1 (fun C2 h2 a2 => ?_) (fun C2 hc h2 a2 => ?_)
  · have hS2 := h2.2.2.2.2.2.2.1
    unfold mX8_isRefused mX5_hasRoomForTrough
    rw [if_pos (show hk_ok (0 : Int32) 15 by decide), if_pos (show hk_ok (0 : Int32) 15 by decide), if_pos (show hk_sm.getD (0 : Int32).toNatClampNeg 0 = 1 by decide), rE_193_1 hE2, Option.bind_some, if_pos hL.1, hS2.2.1.1]
    by_cases q : 8 ≤ w 9
    · rw [if_pos q, Option.bind_some, if_neg (fun z => z rfl), if_neg (fun z => z q)]
    · rw [if_neg q, Option.bind_some, if_pos (show ¬ (1 : Int32) = 0 by decide), if_pos q]
  · have hS2 := h2.2.2.2.2.2.2.1
    unfold mX8_execute
    rw [rE_193_1 hE2, Option.bind_some, if_pos hL.1, c_op0 a2, Option.bind_some]
    dsimp only
    rw [pX5_troughAt hL, Option.bind_some]
    dsimp only
    rw [if_pos (hk_L_t hL (k_tn_lt _)), if_pos (show hk_ok (0 : Int32) 15 by decide), if_pos (show hk_ok (0 : Int32) 15 by decide), if_pos (show hk_sm.getD (0 : Int32).toNatClampNeg 0 = 1 by decide)]
    have hm8 : m < 8 := by
      apply Classical.byContradiction
      intro z
      exact hc (by rw [e9]; exact (nI_leI (a := 8) (by omega) (by omega)).mpr (by omega))
    obtain ⟨S', s1, s2, s3⟩ := cX_placeTrough (E := hk_E0) (F := F) (c := u_v T n p) hL hS2 e9 hm8
    rw [c_op0 a2, Option.bind_some, a0]
    dsimp only
    rw [s1, Option.bind_some, show (w 9).toNatClampNeg = m by rw [e9]; exact nI_clamp (by omega)]
    exact ⟨S', rfl, s2, a_ok_build hw e9 hm8 l1 l2, s3⟩
set_option maxHeartbeats 4000000 in
theorem c_cmd_1 (hF : 2000 ≤ F) (h : k_Q T n p x d w C) (hg : k_gC d C0 C) (h9 : C 193 9 = nI 0) : k_co T n d x C0 ((mX8_readOperands hk_E0 F C 193 1).bind (k_tail F 1)) (u_D T n w p 1) := by
  have hL := hk_L196 hE2
  have hw := h.2.2.2.2.2.2.2
  have hS := h.2.2.2.2.2.2.1
  unfold mX8_readOperands
  rw [if_pos (show hk_ok (1 : Int32) 15 by decide), if_pos (show hk_ok (1 : Int32) 15 by decide), if_neg (show ¬ hk_sm.getD (1 : Int32).toNatClampNeg 0 = 1 by decide), if_pos (show hk_sm.getD (1 : Int32).toNatClampNeg 0 = 2 by decide)]
  simp only [u_D]
  rw [rE_193_1 hE2, Option.bind_some, if_pos hL.1, hS.2.1.1, Option.bind_assoc]
  refine c_num (j := 0) (by omega) h hg h9 (by decide) rfl (fun _ => by rw [if_pos rfl, Option.bind_some, k_tail0]) (fun C1 l1 l2 h1 g1 j1 b1 => ?_)
  have hS1 := h1.2.2.2.2.2.2.1
  obtain ⟨t, ht, et, hn9⟩ := k_tr1 hw l1 l2
  have ec : (nI t).toNatClampNeg = t := nI_clamp (by omega)
  rw [et] at b1 ⊢
  simp only [ec]
  have a0 : (upd (C 215) 0 (nI t)) 0 = nI t := by rw [upd_at, if_pos rfl]
  generalize upd (C 215) 0 (nI t) = A at *
  rw [if_neg (show ¬ (1 : Int32) = 0 by decide), c_op0 b1, Option.bind_some, a0]
  dsimp only
  rw [pX5_troughAt hL, Option.bind_some, k_tn_nI ht]
  dsimp only
  rw [if_pos (hk_L_t hL ht), (hS1.2.2.1 t ht).1, Option.bind_assoc]
  refine c_num (j := 1) (by omega) h1 g1 j1 (by decide) b1 (fun _ => by rw [if_pos rfl, Option.bind_some, k_tail0]) (fun C2 l3 l4 h2 g2 j2 b2 => ?_)
  rw [if_neg (show ¬ (1 : Int32) = 0 by decide), Option.bind_assoc]
  refine c_num (j := 2) (by omega) h2 g2 j2 (by decide) b2 (fun _ => by rw [if_pos rfl, Option.bind_some, k_tail0]) (fun C3 l5 l6 h3 g3 j3 b3 => ?_)
  rw [if_neg (show ¬ (1 : Int32) = 0 by decide), Option.bind_some]
  have c0 : (upd (upd A 1 (u_v T n (u_e T n p))) 2 (u_v T n (u_e T n (u_e T n p)))) 0 = nI t := by rw [upd_at, if_neg (by decide), upd_at, if_neg (by decide), a0]
  have c1 : (upd (upd A 1 (u_v T n (u_e T n p))) 2 (u_v T n (u_e T n (u_e T n p)))) 1 = u_v T n (u_e T n p) := by rw [upd_at, if_neg (by decide), upd_at, if_pos rfl]
  have c2 : (upd (upd A 1 (u_v T n (u_e T n p))) 2 (u_v T n (u_e T n (u_e T n p)))) 2 = u_v T n (u_e T n (u_e T n p)) := by rw [upd_at, if_pos rfl]
  generalize upd (upd A 1 (u_v T n (u_e T n p))) 2 (u_v T n (u_e T n (u_e T n p))) = B at *
  refine c_stop (by omega) h3 g3 b3 (fun C2 h2 a2 => ?_) (fun C2 hc h2 a2 => ?_)
  · have hS2 := h2.2.2.2.2.2.2.1
    unfold mX8_isRefused
    rw [if_pos (show hk_ok (1 : Int32) 15 by decide), if_pos (show hk_ok (1 : Int32) 15 by decide), if_neg (show ¬ hk_sm.getD (1 : Int32).toNatClampNeg 0 = 1 by decide), if_pos (show hk_sm.getD (1 : Int32).toNatClampNeg 0 = 2 by decide), rE_193_1 hE2, Option.bind_some, if_pos hL.1, c_op0 a2, Option.bind_some, c0]
    dsimp only
    rw [pX5_troughAt hL, Option.bind_some, k_tn_nI ht]
    dsimp only
    rw [if_pos (hk_L_t hL ht), pX10_hasLeaf (hS2.2.2.1 t ht) (k_leaf0 hw ht), Option.bind_some]
    dsimp only
    by_cases q : a_t w t 3 = 0
    · rw [if_pos q, if_pos (Or.inl rfl)]
    · rw [if_neg q, if_pos (Or.inr rfl)]
  · have hS2 := h2.2.2.2.2.2.2.1
    unfold mX8_execute
    rw [rE_193_1 hE2, Option.bind_some, if_pos hL.1, c_op0 a2, Option.bind_some]
    dsimp only
    rw [pX5_troughAt hL, Option.bind_some]
    dsimp only
    rw [if_pos (hk_L_t hL (k_tn_lt _)), if_pos (show hk_ok (1 : Int32) 15 by decide), if_pos (show hk_ok (1 : Int32) 15 by decide), if_neg (show ¬ hk_sm.getD (1 : Int32).toNatClampNeg 0 = 1 by decide), if_pos (show hk_sm.getD (1 : Int32).toNatClampNeg 0 = 2 by decide)]
    have hcp := k_cap hw ht hn9
    obtain ⟨S', s1, s2, s3⟩ := cX_putLeaf (E := hk_E0) (F := F) (kg := u_v T n (u_e T n p)) (m := u_v T n (u_e T n (u_e T n p))) hS2 ht (by generalize a_t w t 0 = y at *; grind)
    rw [c_op1 a2, Option.bind_some]
    dsimp only
    rw [c_op2 a2, Option.bind_some, c0, c1, c2, k_tn_nI ht]
    dsimp only
    rw [s1, Option.bind_some]
    exact ⟨S', rfl, s2, a_ok_load hw ht hn9 l3 l4 l5 l6, s3⟩
set_option maxHeartbeats 4000000 in
theorem c_cmd_2 (hF : 2000 ≤ F) (h : k_Q T n p x d w C) (hg : k_gC d C0 C) (h9 : C 193 9 = nI 0) : k_co T n d x C0 ((mX8_readOperands hk_E0 F C 193 2).bind (k_tail F 2)) (u_D T n w p 2) := by
  have hL := hk_L196 hE2
  have hw := h.2.2.2.2.2.2.2
  have hS := h.2.2.2.2.2.2.1
  unfold mX8_readOperands
  rw [if_pos (show hk_ok (2 : Int32) 15 by decide), if_pos (show hk_ok (2 : Int32) 15 by decide), if_neg (show ¬ hk_sm.getD (2 : Int32).toNatClampNeg 0 = 1 by decide), if_neg (show ¬ hk_sm.getD (2 : Int32).toNatClampNeg 0 = 2 by decide), if_pos (show hk_sm.getD (2 : Int32).toNatClampNeg 0 = 3 by decide)]
  simp only [u_D]
  rw [rE_193_1 hE2, Option.bind_some, if_pos hL.1, hS.2.1.1, Option.bind_assoc]
  refine c_num (j := 0) (by omega) h hg h9 (by decide) rfl (fun _ => by rw [if_pos rfl, Option.bind_some, k_tail0]) (fun C1 l1 l2 h1 g1 j1 b1 => ?_)
  obtain ⟨t, ht, et, hn9⟩ := k_tr1 hw l1 l2
  have ec : (nI t).toNatClampNeg = t := nI_clamp (by omega)
  rw [et] at b1 ⊢
  simp only [ec]
  have a0 : (upd (C 215) 0 (nI t)) 0 = nI t := by rw [upd_at, if_pos rfl]
  generalize upd (C 215) 0 (nI t) = A at *
  rw [if_neg (show ¬ (1 : Int32) = 0 by decide), Option.bind_assoc]
  refine c_num (j := 1) (by omega) h1 g1 j1 (by decide) b1 (fun _ => by rw [if_pos rfl, Option.bind_some, k_tail0]) (fun C2 l3 l4 h2 g2 j2 b2 => ?_)
  rw [if_neg (show ¬ (1 : Int32) = 0 by decide), Option.bind_some]
  have c0 : (upd A 1 (u_v T n (u_e T n p))) 0 = nI t := by rw [upd_at, if_neg (by decide), a0]
  have c1 : (upd A 1 (u_v T n (u_e T n p))) 1 = u_v T n (u_e T n p) := by rw [upd_at, if_pos rfl]
  generalize upd A 1 (u_v T n (u_e T n p)) = B at *
  refine c_stop (by omega) h2 g2 b2 (fun C2 h2 a2 => ?_) (fun C2 hc h2 a2 => ?_)
  · unfold mX8_isRefused
    rw [if_pos (show hk_ok (2 : Int32) 15 by decide), if_pos (show hk_ok (2 : Int32) 15 by decide), if_neg (show ¬ hk_sm.getD (2 : Int32).toNatClampNeg 0 = 1 by decide), if_neg (show ¬ hk_sm.getD (2 : Int32).toNatClampNeg 0 = 2 by decide), if_pos (show hk_sm.getD (2 : Int32).toNatClampNeg 0 = 3 by decide), if_pos trivial]
  · have hS2 := h2.2.2.2.2.2.2.1
    unfold mX8_execute
    rw [rE_193_1 hE2, Option.bind_some, if_pos hL.1, c_op0 a2, Option.bind_some]
    dsimp only
    rw [pX5_troughAt hL, Option.bind_some]
    dsimp only
    rw [if_pos (hk_L_t hL (k_tn_lt _)), if_pos (show hk_ok (2 : Int32) 15 by decide), if_pos (show hk_ok (2 : Int32) 15 by decide), if_neg (show ¬ hk_sm.getD (2 : Int32).toNatClampNeg 0 = 1 by decide), if_neg (show ¬ hk_sm.getD (2 : Int32).toNatClampNeg 0 = 2 by decide), if_pos (show hk_sm.getD (2 : Int32).toNatClampNeg 0 = 3 by decide)]
    rw [c_op1 a2, Option.bind_some, hk_let_eq, c0, c1, k_tn_nI ht]
    exact ⟨_, rfl, cX_fan hS2 ht, a_ok_fan hw ht hn9 l3 l4, hk_fr_up (hk_fr_refl _ _) (by omega) (by omega) _ _⟩
set_option maxHeartbeats 4000000 in
theorem c_cmd_3 (hF : 2000 ≤ F) (h : k_Q T n p x d w C) (hg : k_gC d C0 C) (h9 : C 193 9 = nI 0) : k_co T n d x C0 ((mX8_readOperands hk_E0 F C 193 3).bind (k_tail F 3)) (u_D T n w p 3) := by
  have hL := hk_L196 hE2
  have hw := h.2.2.2.2.2.2.2
  have hS := h.2.2.2.2.2.2.1
  unfold mX8_readOperands
  rw [if_pos (show hk_ok (3 : Int32) 15 by decide), if_pos (show hk_ok (3 : Int32) 15 by decide), if_neg (show ¬ hk_sm.getD (3 : Int32).toNatClampNeg 0 = 1 by decide), if_neg (show ¬ hk_sm.getD (3 : Int32).toNatClampNeg 0 = 2 by decide), if_neg (show ¬ hk_sm.getD (3 : Int32).toNatClampNeg 0 = 3 by decide), if_pos (show hk_sm.getD (3 : Int32).toNatClampNeg 0 = 4 by decide)]
  simp only [u_D]
  rw [rE_193_1 hE2, Option.bind_some, if_pos hL.1, hS.2.1.1, Option.bind_assoc]
  refine c_num (j := 0) (by omega) h hg h9 (by decide) rfl (fun _ => by rw [if_pos (Or.inl rfl), Option.bind_some, k_tail0]) (fun C1 l1 l2 h1 g1 j1 b1 => ?_)
  rw [if_pos (Or.inr rfl), Option.bind_some]
  obtain ⟨t, ht, et, hn9⟩ := k_tr1 hw l1 l2
  have ec : (nI t).toNatClampNeg = t := nI_clamp (by omega)
  rw [et] at b1 ⊢
  simp only [ec]
  have a0 : (upd (C 215) 0 (nI t)) 0 = nI t := by rw [upd_at, if_pos rfl]
  generalize upd (C 215) 0 (nI t) = A at *
  refine c_stop (by omega) h1 g1 b1 (fun C2 h2 a2 => ?_) (fun C2 hc h2 a2 => ?_)
  · unfold mX8_isRefused
    rw [if_pos (show hk_ok (3 : Int32) 15 by decide), if_pos (show hk_ok (3 : Int32) 15 by decide), if_neg (show ¬ hk_sm.getD (3 : Int32).toNatClampNeg 0 = 1 by decide), if_neg (show ¬ hk_sm.getD (3 : Int32).toNatClampNeg 0 = 2 by decide), if_neg (show ¬ hk_sm.getD (3 : Int32).toNatClampNeg 0 = 3 by decide), if_pos (show hk_sm.getD (3 : Int32).toNatClampNeg 0 = 4 by decide), if_pos trivial]
  · have hS2 := h2.2.2.2.2.2.2.1
    unfold mX8_execute
    rw [rE_193_1 hE2, Option.bind_some, if_pos hL.1, c_op0 a2, Option.bind_some]
    dsimp only
    rw [pX5_troughAt hL, Option.bind_some]
    dsimp only
    rw [if_pos (hk_L_t hL (k_tn_lt _)), if_pos (show hk_ok (3 : Int32) 15 by decide), if_pos (show hk_ok (3 : Int32) 15 by decide), if_neg (show ¬ hk_sm.getD (3 : Int32).toNatClampNeg 0 = 1 by decide), if_neg (show ¬ hk_sm.getD (3 : Int32).toNatClampNeg 0 = 2 by decide), if_neg (show ¬ hk_sm.getD (3 : Int32).toNatClampNeg 0 = 3 by decide), if_pos (show hk_sm.getD (3 : Int32).toNatClampNeg 0 = 4 by decide)]
    have h2d := (hw.2.2.2.2.2.2.2.2.2.1 t ht).1
    have hr := cX_rev hS2 ht h2d
    rw [a0, k_tn_nI ht]
    by_cases q : C2 (196 + 5 + t) 2 = 0
    · rw [if_pos q] at hr
      rw [if_neg (fun z => z q), hk_let_eq]
      exact ⟨_, rfl, hr, a_ok_rev hw ht hn9, hk_fr_up (hk_fr_refl _ _) (by omega) (by omega) _ _⟩
    · rw [if_neg q] at hr
      rw [if_pos q, hk_let_eq]
      exact ⟨_, rfl, hr, a_ok_rev hw ht hn9, hk_fr_up (hk_fr_refl _ _) (by omega) (by omega) _ _⟩
set_option maxHeartbeats 4000000 in
theorem c_cmd_4 (hF : 2000 ≤ F) (h : k_Q T n p x d w C) (hg : k_gC d C0 C) (h9 : C 193 9 = nI 0) : k_co T n d x C0 ((mX8_readOperands hk_E0 F C 193 4).bind (k_tail F 4)) (u_D T n w p 4) := by
  have hL := hk_L196 hE2
  have hw := h.2.2.2.2.2.2.2
  have hS := h.2.2.2.2.2.2.1
  unfold mX8_readOperands
  rw [if_pos (show hk_ok (4 : Int32) 15 by decide), if_pos (show hk_ok (4 : Int32) 15 by decide), if_neg (show ¬ hk_sm.getD (4 : Int32).toNatClampNeg 0 = 1 by decide), if_neg (show ¬ hk_sm.getD (4 : Int32).toNatClampNeg 0 = 2 by decide), if_neg (show ¬ hk_sm.getD (4 : Int32).toNatClampNeg 0 = 3 by decide), if_neg (show ¬ hk_sm.getD (4 : Int32).toNatClampNeg 0 = 4 by decide), if_neg (show ¬ hk_sm.getD (4 : Int32).toNatClampNeg 0 = 5 by decide), if_neg (show ¬ hk_sm.getD (4 : Int32).toNatClampNeg 0 = 6 by decide), if_neg (show ¬ hk_sm.getD (4 : Int32).toNatClampNeg 0 = 7 by decide), if_pos (show hk_sm.getD (4 : Int32).toNatClampNeg 0 = 8 by decide)]
  simp only [u_D]
  rw [Option.bind_assoc]
  refine c_num (j := 0) (by omega) h hg h9 (by decide) rfl (fun _ => by rw [if_pos (Or.inl rfl), Option.bind_some, k_tail0]) (fun C1 l1 l2 h1 g1 j1 b1 => ?_)
  rw [if_pos (Or.inr rfl), Option.bind_some]
  have a0 : (upd (C 215) 0 (u_v T n p)) 0 = u_v T n p := by rw [upd_at, if_pos rfl]
  generalize upd (C 215) 0 (u_v T n p) = A at *
  refine c_stop (by omega) h1 g1 b1 (fun C2 h2 a2 => ?_) (fun C2 hc h2 a2 => ?_)
  · unfold mX8_isRefused
    rw [if_pos (show hk_ok (4 : Int32) 15 by decide), if_pos (show hk_ok (4 : Int32) 15 by decide), if_neg (show ¬ hk_sm.getD (4 : Int32).toNatClampNeg 0 = 1 by decide), if_neg (show ¬ hk_sm.getD (4 : Int32).toNatClampNeg 0 = 2 by decide), if_neg (show ¬ hk_sm.getD (4 : Int32).toNatClampNeg 0 = 3 by decide), if_neg (show ¬ hk_sm.getD (4 : Int32).toNatClampNeg 0 = 4 by decide), if_neg (show ¬ hk_sm.getD (4 : Int32).toNatClampNeg 0 = 5 by decide), if_neg (show ¬ hk_sm.getD (4 : Int32).toNatClampNeg 0 = 6 by decide), if_neg (show ¬ hk_sm.getD (4 : Int32).toNatClampNeg 0 = 7 by decide), if_pos (show hk_sm.getD (4 : Int32).toNatClampNeg 0 = 8 by decide), if_pos trivial]
  · have hS2 := h2.2.2.2.2.2.2.1
    unfold mX8_execute
    rw [rE_193_1 hE2, Option.bind_some, if_pos hL.1, c_op0 a2, Option.bind_some]
    dsimp only
    rw [pX5_troughAt hL, Option.bind_some]
    dsimp only
    rw [if_pos (hk_L_t hL (k_tn_lt _)), if_pos (show hk_ok (4 : Int32) 15 by decide), if_pos (show hk_ok (4 : Int32) 15 by decide), if_neg (show ¬ hk_sm.getD (4 : Int32).toNatClampNeg 0 = 1 by decide), if_neg (show ¬ hk_sm.getD (4 : Int32).toNatClampNeg 0 = 2 by decide), if_neg (show ¬ hk_sm.getD (4 : Int32).toNatClampNeg 0 = 3 by decide), if_neg (show ¬ hk_sm.getD (4 : Int32).toNatClampNeg 0 = 4 by decide), if_neg (show ¬ hk_sm.getD (4 : Int32).toNatClampNeg 0 = 5 by decide), if_neg (show ¬ hk_sm.getD (4 : Int32).toNatClampNeg 0 = 6 by decide), if_neg (show ¬ hk_sm.getD (4 : Int32).toNatClampNeg 0 = 7 by decide), if_pos (show hk_sm.getD (4 : Int32).toNatClampNeg 0 = 8 by decide)]
    rw [hL.2.2.2.2.2.2.2.1, Option.bind_some, if_pos hL.2.1, c_op0 a2, Option.bind_some, hk_let_eq, a0]
    exact ⟨_, rfl, cX_heat hS2, a_ok_heat hw l1 l2, hk_fr_up (hk_fr_refl _ _) (by omega) (by omega) _ _⟩
set_option maxHeartbeats 4000000 in
theorem c_cmd_5 (hF : 2000 ≤ F) (h : k_Q T n p x d w C) (hg : k_gC d C0 C) (h9 : C 193 9 = nI 0) : k_co T n d x C0 ((mX8_readOperands hk_E0 F C 193 5).bind (k_tail F 5)) (u_D T n w p 5) := by
  have hL := hk_L196 hE2
  have hw := h.2.2.2.2.2.2.2
  have hS := h.2.2.2.2.2.2.1
  unfold mX8_readOperands
  rw [if_pos (show hk_ok (5 : Int32) 15 by decide), if_pos (show hk_ok (5 : Int32) 15 by decide), if_neg (show ¬ hk_sm.getD (5 : Int32).toNatClampNeg 0 = 1 by decide), if_neg (show ¬ hk_sm.getD (5 : Int32).toNatClampNeg 0 = 2 by decide), if_neg (show ¬ hk_sm.getD (5 : Int32).toNatClampNeg 0 = 3 by decide), if_neg (show ¬ hk_sm.getD (5 : Int32).toNatClampNeg 0 = 4 by decide), if_neg (show ¬ hk_sm.getD (5 : Int32).toNatClampNeg 0 = 5 by decide), if_neg (show ¬ hk_sm.getD (5 : Int32).toNatClampNeg 0 = 6 by decide), if_neg (show ¬ hk_sm.getD (5 : Int32).toNatClampNeg 0 = 7 by decide), if_neg (show ¬ hk_sm.getD (5 : Int32).toNatClampNeg 0 = 8 by decide), if_pos (show hk_sm.getD (5 : Int32).toNatClampNeg 0 = 9 by decide)]
  simp only [u_D]
  rw [Option.bind_assoc]
  refine c_num (j := 0) (by omega) h hg h9 (by decide) rfl (fun _ => by rw [if_pos (Or.inl rfl), Option.bind_some, k_tail0]) (fun C1 l1 l2 h1 g1 j1 b1 => ?_)
  rw [if_pos (Or.inr rfl), Option.bind_some]
  have a0 : (upd (C 215) 0 (u_v T n p)) 0 = u_v T n p := by rw [upd_at, if_pos rfl]
  generalize upd (C 215) 0 (u_v T n p) = A at *
  refine c_stop (by omega) h1 g1 b1 (fun C2 h2 a2 => ?_) (fun C2 hc h2 a2 => ?_)
  · unfold mX8_isRefused
    rw [if_pos (show hk_ok (5 : Int32) 15 by decide), if_pos (show hk_ok (5 : Int32) 15 by decide), if_neg (show ¬ hk_sm.getD (5 : Int32).toNatClampNeg 0 = 1 by decide), if_neg (show ¬ hk_sm.getD (5 : Int32).toNatClampNeg 0 = 2 by decide), if_neg (show ¬ hk_sm.getD (5 : Int32).toNatClampNeg 0 = 3 by decide), if_neg (show ¬ hk_sm.getD (5 : Int32).toNatClampNeg 0 = 4 by decide), if_neg (show ¬ hk_sm.getD (5 : Int32).toNatClampNeg 0 = 5 by decide), if_neg (show ¬ hk_sm.getD (5 : Int32).toNatClampNeg 0 = 6 by decide), if_neg (show ¬ hk_sm.getD (5 : Int32).toNatClampNeg 0 = 7 by decide), if_neg (show ¬ hk_sm.getD (5 : Int32).toNatClampNeg 0 = 8 by decide), if_pos (show hk_sm.getD (5 : Int32).toNatClampNeg 0 = 9 by decide), if_pos trivial]
  · have hS2 := h2.2.2.2.2.2.2.1
    unfold mX8_execute
    rw [rE_193_1 hE2, Option.bind_some, if_pos hL.1, c_op0 a2, Option.bind_some]
    dsimp only
    rw [pX5_troughAt hL, Option.bind_some]
    dsimp only
    rw [if_pos (hk_L_t hL (k_tn_lt _)), if_pos (show hk_ok (5 : Int32) 15 by decide), if_pos (show hk_ok (5 : Int32) 15 by decide), if_neg (show ¬ hk_sm.getD (5 : Int32).toNatClampNeg 0 = 1 by decide), if_neg (show ¬ hk_sm.getD (5 : Int32).toNatClampNeg 0 = 2 by decide), if_neg (show ¬ hk_sm.getD (5 : Int32).toNatClampNeg 0 = 3 by decide), if_neg (show ¬ hk_sm.getD (5 : Int32).toNatClampNeg 0 = 4 by decide), if_neg (show ¬ hk_sm.getD (5 : Int32).toNatClampNeg 0 = 5 by decide), if_neg (show ¬ hk_sm.getD (5 : Int32).toNatClampNeg 0 = 6 by decide), if_neg (show ¬ hk_sm.getD (5 : Int32).toNatClampNeg 0 = 7 by decide), if_neg (show ¬ hk_sm.getD (5 : Int32).toNatClampNeg 0 = 8 by decide), if_pos (show hk_sm.getD (5 : Int32).toNatClampNeg 0 = 9 by decide)]
    rw [hL.2.2.2.2.2.2.2.1, Option.bind_some, if_pos hL.2.1, c_op0 a2, Option.bind_some, hk_let_eq, a0]
    exact ⟨_, rfl, cX_humid hS2, a_ok_humid hw l1 l2, hk_fr_up (hk_fr_refl _ _) (by omega) (by omega) _ _⟩
set_option maxHeartbeats 4000000 in
theorem c_cmd_6 (hF : 2000 ≤ F) (h : k_Q T n p x d w C) (hg : k_gC d C0 C) (h9 : C 193 9 = nI 0) : k_co T n d x C0 ((mX8_readOperands hk_E0 F C 193 6).bind (k_tail F 6)) (u_D T n w p 6) := by
  have hL := hk_L196 hE2
  have hw := h.2.2.2.2.2.2.2
  have hS := h.2.2.2.2.2.2.1
  unfold mX8_readOperands
  rw [if_pos (show hk_ok (6 : Int32) 15 by decide), if_pos (show hk_ok (6 : Int32) 15 by decide), if_neg (show ¬ hk_sm.getD (6 : Int32).toNatClampNeg 0 = 1 by decide), if_neg (show ¬ hk_sm.getD (6 : Int32).toNatClampNeg 0 = 2 by decide), if_neg (show ¬ hk_sm.getD (6 : Int32).toNatClampNeg 0 = 3 by decide), if_neg (show ¬ hk_sm.getD (6 : Int32).toNatClampNeg 0 = 4 by decide), if_neg (show ¬ hk_sm.getD (6 : Int32).toNatClampNeg 0 = 5 by decide), if_neg (show ¬ hk_sm.getD (6 : Int32).toNatClampNeg 0 = 6 by decide), if_neg (show ¬ hk_sm.getD (6 : Int32).toNatClampNeg 0 = 7 by decide), if_neg (show ¬ hk_sm.getD (6 : Int32).toNatClampNeg 0 = 8 by decide), if_neg (show ¬ hk_sm.getD (6 : Int32).toNatClampNeg 0 = 9 by decide), if_pos (show hk_sm.getD (6 : Int32).toNatClampNeg 0 = 10 by decide)]
  simp only [u_D]
  obtain ⟨m, hm, e5⟩ := k_n5 hw
  rw [rE_193_1 hE2, Option.bind_some, if_pos hL.1, hL.2.2.2.2.2.2.2.1, Option.bind_some, if_pos hL.2.1]
  unfold mX1_presentDay
  rw [hS.1.1, Option.bind_some, Option.bind_assoc]
  refine c_num (j := 0) (by omega) h hg h9 (by decide) rfl (fun _ => by rw [if_pos (Or.inl rfl), Option.bind_some, k_tail0]) (fun C1 l1 l2 h1 g1 j1 b1 => ?_)
  rw [if_pos (Or.inr rfl), Option.bind_some]
  have a0 : (upd (C 215) 0 (u_v T n p)) 0 = u_v T n p := by rw [upd_at, if_pos rfl]
  generalize upd (C 215) 0 (u_v T n p) = A at *
  refine c_stop (by omega) h1 g1 b1 (fun C2 h2 a2 => ?_) (fun C2 hc h2 a2 => ?_)
  · have hS2 := h2.2.2.2.2.2.2.1
    unfold mX8_isRefused mX1_hasRoomForMonsoon
    rw [if_pos (show hk_ok (6 : Int32) 15 by decide), if_pos (show hk_ok (6 : Int32) 15 by decide), if_neg (show ¬ hk_sm.getD (6 : Int32).toNatClampNeg 0 = 1 by decide), if_neg (show ¬ hk_sm.getD (6 : Int32).toNatClampNeg 0 = 2 by decide), if_neg (show ¬ hk_sm.getD (6 : Int32).toNatClampNeg 0 = 3 by decide), if_neg (show ¬ hk_sm.getD (6 : Int32).toNatClampNeg 0 = 4 by decide), if_neg (show ¬ hk_sm.getD (6 : Int32).toNatClampNeg 0 = 5 by decide), if_neg (show ¬ hk_sm.getD (6 : Int32).toNatClampNeg 0 = 6 by decide), if_neg (show ¬ hk_sm.getD (6 : Int32).toNatClampNeg 0 = 7 by decide), if_neg (show ¬ hk_sm.getD (6 : Int32).toNatClampNeg 0 = 8 by decide), if_neg (show ¬ hk_sm.getD (6 : Int32).toNatClampNeg 0 = 9 by decide), if_pos (show hk_sm.getD (6 : Int32).toNatClampNeg 0 = 10 by decide), rE_193_1 hE2, Option.bind_some, if_pos hL.1, hL.2.2.2.2.2.2.2.1, Option.bind_some, if_pos hL.2.1, hS2.1.2.2.2.1]
    by_cases q : 3 ≤ w 5
    · rw [if_pos q, Option.bind_some, if_neg (fun z => z rfl), if_neg (fun z => z q)]
    · rw [if_neg q, Option.bind_some, if_pos (show ¬ (1 : Int32) = 0 by decide), if_pos q]
  · have hS2 := h2.2.2.2.2.2.2.1
    unfold mX8_execute
    rw [rE_193_1 hE2, Option.bind_some, if_pos hL.1, c_op0 a2, Option.bind_some]
    dsimp only
    rw [pX5_troughAt hL, Option.bind_some]
    dsimp only
    rw [if_pos (hk_L_t hL (k_tn_lt _)), if_pos (show hk_ok (6 : Int32) 15 by decide), if_pos (show hk_ok (6 : Int32) 15 by decide), if_neg (show ¬ hk_sm.getD (6 : Int32).toNatClampNeg 0 = 1 by decide), if_neg (show ¬ hk_sm.getD (6 : Int32).toNatClampNeg 0 = 2 by decide), if_neg (show ¬ hk_sm.getD (6 : Int32).toNatClampNeg 0 = 3 by decide), if_neg (show ¬ hk_sm.getD (6 : Int32).toNatClampNeg 0 = 4 by decide), if_neg (show ¬ hk_sm.getD (6 : Int32).toNatClampNeg 0 = 5 by decide), if_neg (show ¬ hk_sm.getD (6 : Int32).toNatClampNeg 0 = 6 by decide), if_neg (show ¬ hk_sm.getD (6 : Int32).toNatClampNeg 0 = 7 by decide), if_neg (show ¬ hk_sm.getD (6 : Int32).toNatClampNeg 0 = 8 by decide), if_neg (show ¬ hk_sm.getD (6 : Int32).toNatClampNeg 0 = 9 by decide), if_pos (show hk_sm.getD (6 : Int32).toNatClampNeg 0 = 10 by decide)]
    have hm3 : m < 3 := by
      apply Classical.byContradiction
      intro z
      exact hc (by rw [e5]; exact (nI_leI (a := 3) (by omega) (by omega)).mpr (by omega))
    have h0 : 0 ≤ w 0 / 24 := by
      have z := hw.1
      obtain ⟨k, hk, ek⟩ := nI_of2 (x := w 0) (M := 2000) (n := 2000) (by decide) (by have := z.1; grind) z.2
      rw [ek, show nI k / 24 = nI (k / 24) from nI_divN (b := 24) (by omega) (by omega) (by omega)]
      exact nI_pos' (by omega)
    obtain ⟨S', s1, s2, s3, -⟩ := cX_addMonsoon (E := hk_E0) (F := F) (x := u_v T n p) hL hS2 e5 hm3
    rw [hL.2.2.2.2.2.2.2.1, Option.bind_some, if_pos hL.2.1, c_op0 a2, Option.bind_some, a0]
    dsimp only
    rw [s1, Option.bind_some, show (w 5).toNatClampNeg = m by rw [e5]; exact nI_clamp (by omega)]
    exact ⟨S', rfl, s2, a_ok_mon hw e5 hm3 (Int32.le_trans h0 l1) l2, s3⟩
set_option maxHeartbeats 4000000 in
theorem c_cmd_7 (hF : 2000 ≤ F) (h : k_Q T n p x d w C) (hg : k_gC d C0 C) (h9 : C 193 9 = nI 0) : k_co T n d x C0 ((mX8_readOperands hk_E0 F C 193 7).bind (k_tail F 7)) (u_D T n w p 7) := by
  have hL := hk_L196 hE2
  have hw := h.2.2.2.2.2.2.2
  have hS := h.2.2.2.2.2.2.1
  unfold mX8_readOperands
  rw [if_pos (show hk_ok (7 : Int32) 15 by decide), if_pos (show hk_ok (7 : Int32) 15 by decide), if_neg (show ¬ hk_sm.getD (7 : Int32).toNatClampNeg 0 = 1 by decide), if_neg (show ¬ hk_sm.getD (7 : Int32).toNatClampNeg 0 = 2 by decide), if_neg (show ¬ hk_sm.getD (7 : Int32).toNatClampNeg 0 = 3 by decide), if_neg (show ¬ hk_sm.getD (7 : Int32).toNatClampNeg 0 = 4 by decide), if_neg (show ¬ hk_sm.getD (7 : Int32).toNatClampNeg 0 = 5 by decide), if_neg (show ¬ hk_sm.getD (7 : Int32).toNatClampNeg 0 = 6 by decide), if_neg (show ¬ hk_sm.getD (7 : Int32).toNatClampNeg 0 = 7 by decide), if_neg (show ¬ hk_sm.getD (7 : Int32).toNatClampNeg 0 = 8 by decide), if_neg (show ¬ hk_sm.getD (7 : Int32).toNatClampNeg 0 = 9 by decide), if_neg (show ¬ hk_sm.getD (7 : Int32).toNatClampNeg 0 = 10 by decide), if_pos (show hk_sm.getD (7 : Int32).toNatClampNeg 0 = 11 by decide)]
  simp only [u_D]
  rw [Option.bind_assoc]
  refine c_num (j := 0) (by omega) h hg h9 (by decide) rfl (fun _ => by rw [if_pos rfl, Option.bind_some, k_tail0]) (fun C1 l1 l2 h1 g1 j1 b1 => ?_)
  rw [if_neg (show ¬ (1 : Int32) = 0 by decide), Option.bind_assoc]
  refine c_num (j := 1) (by omega) h1 g1 j1 (by decide) b1 (fun _ => by rw [if_pos rfl, Option.bind_some, k_tail0]) (fun C2 l3 l4 h2 g2 j2 b2 => ?_)
  rw [if_neg (show ¬ (1 : Int32) = 0 by decide), Option.bind_some]
  have c0 : (upd (upd (C 215) 0 (u_v T n p)) 1 (u_v T n (u_e T n p))) 0 = u_v T n p := by rw [upd_at, if_neg (by decide), upd_at, if_pos rfl]
  have c1 : (upd (upd (C 215) 0 (u_v T n p)) 1 (u_v T n (u_e T n p))) 1 = u_v T n (u_e T n p) := by rw [upd_at, if_pos rfl]
  generalize upd (upd (C 215) 0 (u_v T n p)) 1 (u_v T n (u_e T n p)) = B at *
  refine c_stop (by omega) h2 g2 b2 (fun C2 h2 a2 => ?_) (fun C2 hc h2 a2 => ?_)
  · unfold mX8_isRefused
    rw [if_pos (show hk_ok (7 : Int32) 15 by decide), if_pos (show hk_ok (7 : Int32) 15 by decide), if_neg (show ¬ hk_sm.getD (7 : Int32).toNatClampNeg 0 = 1 by decide), if_neg (show ¬ hk_sm.getD (7 : Int32).toNatClampNeg 0 = 2 by decide), if_neg (show ¬ hk_sm.getD (7 : Int32).toNatClampNeg 0 = 3 by decide), if_neg (show ¬ hk_sm.getD (7 : Int32).toNatClampNeg 0 = 4 by decide), if_neg (show ¬ hk_sm.getD (7 : Int32).toNatClampNeg 0 = 5 by decide), if_neg (show ¬ hk_sm.getD (7 : Int32).toNatClampNeg 0 = 6 by decide), if_neg (show ¬ hk_sm.getD (7 : Int32).toNatClampNeg 0 = 7 by decide), if_neg (show ¬ hk_sm.getD (7 : Int32).toNatClampNeg 0 = 8 by decide), if_neg (show ¬ hk_sm.getD (7 : Int32).toNatClampNeg 0 = 9 by decide), if_neg (show ¬ hk_sm.getD (7 : Int32).toNatClampNeg 0 = 10 by decide), if_pos (show hk_sm.getD (7 : Int32).toNatClampNeg 0 = 11 by decide), if_pos trivial]
  · have hS2 := h2.2.2.2.2.2.2.1
    unfold mX8_execute
    rw [rE_193_1 hE2, Option.bind_some, if_pos hL.1, c_op0 a2, Option.bind_some]
    dsimp only
    rw [pX5_troughAt hL, Option.bind_some]
    dsimp only
    rw [if_pos (hk_L_t hL (k_tn_lt _)), if_pos (show hk_ok (7 : Int32) 15 by decide), if_pos (show hk_ok (7 : Int32) 15 by decide), if_neg (show ¬ hk_sm.getD (7 : Int32).toNatClampNeg 0 = 1 by decide), if_neg (show ¬ hk_sm.getD (7 : Int32).toNatClampNeg 0 = 2 by decide), if_neg (show ¬ hk_sm.getD (7 : Int32).toNatClampNeg 0 = 3 by decide), if_neg (show ¬ hk_sm.getD (7 : Int32).toNatClampNeg 0 = 4 by decide), if_neg (show ¬ hk_sm.getD (7 : Int32).toNatClampNeg 0 = 5 by decide), if_neg (show ¬ hk_sm.getD (7 : Int32).toNatClampNeg 0 = 6 by decide), if_neg (show ¬ hk_sm.getD (7 : Int32).toNatClampNeg 0 = 7 by decide), if_neg (show ¬ hk_sm.getD (7 : Int32).toNatClampNeg 0 = 8 by decide), if_neg (show ¬ hk_sm.getD (7 : Int32).toNatClampNeg 0 = 9 by decide), if_neg (show ¬ hk_sm.getD (7 : Int32).toNatClampNeg 0 = 10 by decide), if_pos (show hk_sm.getD (7 : Int32).toNatClampNeg 0 = 11 by decide)]
    obtain ⟨S', s1, s2, s3⟩ := cX_aimAt (E := hk_E0) (F := F) (x := u_v T n p) (y := u_v T n (u_e T n p)) hS2
    rw [c_op0 a2, Option.bind_some]
    dsimp only
    rw [c_op1 a2, Option.bind_some, c0, c1]
    dsimp only
    rw [s1, Option.bind_some]
    exact ⟨S', rfl, s2, a_ok_aim hw l1 l2 l3 l4, s3⟩
set_option maxHeartbeats 4000000 in
theorem c_cmd_8 (hF : 2000 ≤ F) (h : k_Q T n p x d w C) (hg : k_gC d C0 C) (h9 : C 193 9 = nI 0) : k_co T n d x C0 ((mX8_readOperands hk_E0 F C 193 8).bind (k_tail F 8)) (u_D T n w p 8) := by
  have hL := hk_L196 hE2
  have hw := h.2.2.2.2.2.2.2
  have hS := h.2.2.2.2.2.2.1
  unfold mX8_readOperands
  rw [if_pos (show hk_ok (8 : Int32) 15 by decide), if_pos (show hk_ok (8 : Int32) 15 by decide), if_neg (show ¬ hk_sm.getD (8 : Int32).toNatClampNeg 0 = 1 by decide), if_neg (show ¬ hk_sm.getD (8 : Int32).toNatClampNeg 0 = 2 by decide), if_neg (show ¬ hk_sm.getD (8 : Int32).toNatClampNeg 0 = 3 by decide), if_neg (show ¬ hk_sm.getD (8 : Int32).toNatClampNeg 0 = 4 by decide), if_pos (show hk_sm.getD (8 : Int32).toNatClampNeg 0 = 5 by decide)]
  simp only [u_D]
  rw [rE_193_1 hE2, Option.bind_some, if_pos hL.1, hS.2.1.1, Option.bind_assoc]
  refine c_num (j := 0) (by omega) h hg h9 (by decide) rfl (fun _ => by rw [if_pos (Or.inl rfl), Option.bind_some, k_tail0]) (fun C1 l1 l2 h1 g1 j1 b1 => ?_)
  rw [if_pos (Or.inr rfl), Option.bind_some]
  obtain ⟨t, ht, et, hn9⟩ := k_tr1 hw l1 l2
  have ec : (nI t).toNatClampNeg = t := nI_clamp (by omega)
  rw [et] at b1 ⊢
  simp only [ec]
  have a0 : (upd (C 215) 0 (nI t)) 0 = nI t := by rw [upd_at, if_pos rfl]
  generalize upd (C 215) 0 (nI t) = A at *
  refine c_stop (by omega) h1 g1 b1 (fun C2 h2 a2 => ?_) (fun C2 hc h2 a2 => ?_)
  · have hS2 := h2.2.2.2.2.2.2.1
    unfold mX8_isRefused
    rw [if_pos (show hk_ok (8 : Int32) 15 by decide), if_pos (show hk_ok (8 : Int32) 15 by decide), if_neg (show ¬ hk_sm.getD (8 : Int32).toNatClampNeg 0 = 1 by decide), if_neg (show ¬ hk_sm.getD (8 : Int32).toNatClampNeg 0 = 2 by decide), if_neg (show ¬ hk_sm.getD (8 : Int32).toNatClampNeg 0 = 3 by decide), if_neg (show ¬ hk_sm.getD (8 : Int32).toNatClampNeg 0 = 4 by decide), if_pos (show hk_sm.getD (8 : Int32).toNatClampNeg 0 = 5 by decide), rE_193_1 hE2, Option.bind_some, if_pos hL.1, c_op0 a2, Option.bind_some, a0]
    dsimp only
    rw [pX5_troughAt hL, Option.bind_some, k_tn_nI ht]
    dsimp only
    rw [if_pos (hk_L_t hL ht), pX10_hasLeaf (hS2.2.2.1 t ht) (k_leaf0 hw ht), Option.bind_some]
    dsimp only
    by_cases q : a_t w t 3 = 0
    · rw [if_pos q, if_neg (fun z => z rfl), if_neg (fun z => z q)]
    · rw [if_neg q, if_pos (show ¬ (1 : Int32) = 0 by decide), if_pos q]
  · have hS2 := h2.2.2.2.2.2.2.1
    unfold mX8_execute
    rw [rE_193_1 hE2, Option.bind_some, if_pos hL.1, c_op0 a2, Option.bind_some]
    dsimp only
    rw [pX5_troughAt hL, Option.bind_some]
    dsimp only
    rw [if_pos (hk_L_t hL (k_tn_lt _)), if_pos (show hk_ok (8 : Int32) 15 by decide), if_pos (show hk_ok (8 : Int32) 15 by decide), if_neg (show ¬ hk_sm.getD (8 : Int32).toNatClampNeg 0 = 1 by decide), if_neg (show ¬ hk_sm.getD (8 : Int32).toNatClampNeg 0 = 2 by decide), if_neg (show ¬ hk_sm.getD (8 : Int32).toNatClampNeg 0 = 3 by decide), if_neg (show ¬ hk_sm.getD (8 : Int32).toNatClampNeg 0 = 4 by decide), if_pos (show hk_sm.getD (8 : Int32).toNatClampNeg 0 = 5 by decide)]
    obtain ⟨S', s1, s2, s3⟩ := cX_turn (E := hk_E0) (F := F) hS2 ht
    rw [a0, k_tn_nI ht, s1, Option.bind_some]
    exact ⟨S', rfl, s2, a_ok_turn hw ht hn9 hc, s3⟩
set_option maxHeartbeats 4000000 in
theorem c_cmd_9 (hF : 2000 ≤ F) (h : k_Q T n p x d w C) (hg : k_gC d C0 C) (h9 : C 193 9 = nI 0) : k_co T n d x C0 ((mX8_readOperands hk_E0 F C 193 9).bind (k_tail F 9)) (u_D T n w p 9) := by
  have hL := hk_L196 hE2
  have hw := h.2.2.2.2.2.2.2
  have hS := h.2.2.2.2.2.2.1
  unfold mX8_readOperands
  rw [if_pos (show hk_ok (9 : Int32) 15 by decide), if_pos (show hk_ok (9 : Int32) 15 by decide), if_neg (show ¬ hk_sm.getD (9 : Int32).toNatClampNeg 0 = 1 by decide), if_neg (show ¬ hk_sm.getD (9 : Int32).toNatClampNeg 0 = 2 by decide), if_neg (show ¬ hk_sm.getD (9 : Int32).toNatClampNeg 0 = 3 by decide), if_neg (show ¬ hk_sm.getD (9 : Int32).toNatClampNeg 0 = 4 by decide), if_neg (show ¬ hk_sm.getD (9 : Int32).toNatClampNeg 0 = 5 by decide), if_pos (show hk_sm.getD (9 : Int32).toNatClampNeg 0 = 6 by decide)]
  simp only [u_D]
  rw [rE_193_1 hE2, Option.bind_some, if_pos hL.1, hS.2.1.1, Option.bind_assoc]
  refine c_num (j := 0) (by omega) h hg h9 (by decide) rfl (fun _ => by rw [if_pos (Or.inl rfl), Option.bind_some, k_tail0]) (fun C1 l1 l2 h1 g1 j1 b1 => ?_)
  rw [if_pos (Or.inr rfl), Option.bind_some]
  obtain ⟨t, ht, et, hn9⟩ := k_tr1 hw l1 l2
  have ec : (nI t).toNatClampNeg = t := nI_clamp (by omega)
  rw [et] at b1 ⊢
  simp only [ec]
  have a0 : (upd (C 215) 0 (nI t)) 0 = nI t := by rw [upd_at, if_pos rfl]
  generalize upd (C 215) 0 (nI t) = A at *
  refine c_stop (by omega) h1 g1 b1 (fun C2 h2 a2 => ?_) (fun C2 hc h2 a2 => ?_)
  · have hS2 := h2.2.2.2.2.2.2.1
    unfold mX8_isRefused
    rw [if_pos (show hk_ok (9 : Int32) 15 by decide), if_pos (show hk_ok (9 : Int32) 15 by decide), if_neg (show ¬ hk_sm.getD (9 : Int32).toNatClampNeg 0 = 1 by decide), if_neg (show ¬ hk_sm.getD (9 : Int32).toNatClampNeg 0 = 2 by decide), if_neg (show ¬ hk_sm.getD (9 : Int32).toNatClampNeg 0 = 3 by decide), if_neg (show ¬ hk_sm.getD (9 : Int32).toNatClampNeg 0 = 4 by decide), if_neg (show ¬ hk_sm.getD (9 : Int32).toNatClampNeg 0 = 5 by decide), if_pos (show hk_sm.getD (9 : Int32).toNatClampNeg 0 = 6 by decide), rE_193_1 hE2, Option.bind_some, if_pos hL.1, c_op0 a2, Option.bind_some, a0]
    dsimp only
    rw [pX5_troughAt hL, Option.bind_some, k_tn_nI ht]
    dsimp only
    rw [if_pos (hk_L_t hL ht), pX5_refusalOf hS2.2.1 (hS2.2.2.1 t ht) (k_leaf0 hw ht), Option.bind_some]
    dsimp only
    by_cases q : t_why w (a_t w t) = 0
    · rw [if_pos q, if_pos q]
    · rw [if_neg q, if_neg q]
  · have hS2 := h2.2.2.2.2.2.2.1
    unfold mX8_execute
    rw [rE_193_1 hE2, Option.bind_some, if_pos hL.1, c_op0 a2, Option.bind_some]
    dsimp only
    rw [pX5_troughAt hL, Option.bind_some]
    dsimp only
    rw [if_pos (hk_L_t hL (k_tn_lt _)), if_pos (show hk_ok (9 : Int32) 15 by decide), if_pos (show hk_ok (9 : Int32) 15 by decide), if_neg (show ¬ hk_sm.getD (9 : Int32).toNatClampNeg 0 = 1 by decide), if_neg (show ¬ hk_sm.getD (9 : Int32).toNatClampNeg 0 = 2 by decide), if_neg (show ¬ hk_sm.getD (9 : Int32).toNatClampNeg 0 = 3 by decide), if_neg (show ¬ hk_sm.getD (9 : Int32).toNatClampNeg 0 = 4 by decide), if_neg (show ¬ hk_sm.getD (9 : Int32).toNatClampNeg 0 = 5 by decide), if_pos (show hk_sm.getD (9 : Int32).toNatClampNeg 0 = 6 by decide)]
    obtain ⟨S', s1, s2, s3⟩ := cX_dischargeLeaf (E := hk_E0) (F := F) hS2 ht
    rw [a0, k_tn_nI ht, s1, Option.bind_some]
    exact ⟨S', rfl, s2, a_ok_send hw ht hn9, s3⟩
set_option maxHeartbeats 4000000 in
theorem c_cmd_10 (hF : 2000 ≤ F) (h : k_Q T n p x d w C) (hg : k_gC d C0 C) (h9 : C 193 9 = nI 0) : k_co T n d x C0 ((mX8_readOperands hk_E0 F C 193 10).bind (k_tail F 10)) (u_D T n w p 10) := by
  have hL := hk_L196 hE2
  have hw := h.2.2.2.2.2.2.2
  have hS := h.2.2.2.2.2.2.1
  unfold mX8_readOperands
  rw [if_pos (show hk_ok (10 : Int32) 15 by decide), if_pos (show hk_ok (10 : Int32) 15 by decide), if_neg (show ¬ hk_sm.getD (10 : Int32).toNatClampNeg 0 = 1 by decide), if_neg (show ¬ hk_sm.getD (10 : Int32).toNatClampNeg 0 = 2 by decide), if_neg (show ¬ hk_sm.getD (10 : Int32).toNatClampNeg 0 = 3 by decide), if_neg (show ¬ hk_sm.getD (10 : Int32).toNatClampNeg 0 = 4 by decide), if_neg (show ¬ hk_sm.getD (10 : Int32).toNatClampNeg 0 = 5 by decide), if_neg (show ¬ hk_sm.getD (10 : Int32).toNatClampNeg 0 = 6 by decide), if_pos (show hk_sm.getD (10 : Int32).toNatClampNeg 0 = 7 by decide)]
  simp only [u_D]
  rw [rE_193_1 hE2, Option.bind_some, if_pos hL.1, hS.2.1.1, Option.bind_assoc]
  refine c_num (j := 0) (by omega) h hg h9 (by decide) rfl (fun _ => by rw [if_pos (Or.inl rfl), Option.bind_some, k_tail0]) (fun C1 l1 l2 h1 g1 j1 b1 => ?_)
  rw [if_pos (Or.inr rfl), Option.bind_some]
  obtain ⟨t, ht, et, hn9⟩ := k_tr1 hw l1 l2
  have ec : (nI t).toNatClampNeg = t := nI_clamp (by omega)
  rw [et] at b1 ⊢
  simp only [ec]
  have a0 : (upd (C 215) 0 (nI t)) 0 = nI t := by rw [upd_at, if_pos rfl]
  generalize upd (C 215) 0 (nI t) = A at *
  refine c_stop (by omega) h1 g1 b1 (fun C2 h2 a2 => ?_) (fun C2 hc h2 a2 => ?_)
  · have hS2 := h2.2.2.2.2.2.2.1
    unfold mX8_isRefused
    rw [if_pos (show hk_ok (10 : Int32) 15 by decide), if_pos (show hk_ok (10 : Int32) 15 by decide), if_neg (show ¬ hk_sm.getD (10 : Int32).toNatClampNeg 0 = 1 by decide), if_neg (show ¬ hk_sm.getD (10 : Int32).toNatClampNeg 0 = 2 by decide), if_neg (show ¬ hk_sm.getD (10 : Int32).toNatClampNeg 0 = 3 by decide), if_neg (show ¬ hk_sm.getD (10 : Int32).toNatClampNeg 0 = 4 by decide), if_neg (show ¬ hk_sm.getD (10 : Int32).toNatClampNeg 0 = 5 by decide), if_neg (show ¬ hk_sm.getD (10 : Int32).toNatClampNeg 0 = 6 by decide), if_pos (show hk_sm.getD (10 : Int32).toNatClampNeg 0 = 7 by decide), rE_193_1 hE2, Option.bind_some, if_pos hL.1, c_op0 a2, Option.bind_some, a0]
    dsimp only
    rw [pX5_troughAt hL, Option.bind_some, k_tn_nI ht]
    dsimp only
    rw [if_pos (hk_L_t hL ht), pX10_hasLeaf (hS2.2.2.1 t ht) (k_leaf0 hw ht), Option.bind_some]
    dsimp only
    by_cases q : a_t w t 3 = 0
    · rw [if_pos q, if_neg (fun z => z rfl), if_neg (fun z => z q)]
    · rw [if_neg q, if_pos (show ¬ (1 : Int32) = 0 by decide), if_pos q]
  · have hS2 := h2.2.2.2.2.2.2.1
    unfold mX8_execute
    rw [rE_193_1 hE2, Option.bind_some, if_pos hL.1, c_op0 a2, Option.bind_some]
    dsimp only
    rw [pX5_troughAt hL, Option.bind_some]
    dsimp only
    rw [if_pos (hk_L_t hL (k_tn_lt _)), if_pos (show hk_ok (10 : Int32) 15 by decide), if_pos (show hk_ok (10 : Int32) 15 by decide), if_neg (show ¬ hk_sm.getD (10 : Int32).toNatClampNeg 0 = 1 by decide), if_neg (show ¬ hk_sm.getD (10 : Int32).toNatClampNeg 0 = 2 by decide), if_neg (show ¬ hk_sm.getD (10 : Int32).toNatClampNeg 0 = 3 by decide), if_neg (show ¬ hk_sm.getD (10 : Int32).toNatClampNeg 0 = 4 by decide), if_neg (show ¬ hk_sm.getD (10 : Int32).toNatClampNeg 0 = 5 by decide), if_neg (show ¬ hk_sm.getD (10 : Int32).toNatClampNeg 0 = 6 by decide), if_pos (show hk_sm.getD (10 : Int32).toNatClampNeg 0 = 7 by decide)]
    obtain ⟨S', s1, s2, s3⟩ := cX_discardLeaf (E := hk_E0) (F := F) hS2 ht
    rw [a0, k_tn_nI ht, s1, Option.bind_some]
    exact ⟨S', rfl, s2, a_ok_out hw ht hn9 (by decide), s3⟩
set_option maxHeartbeats 4000000 in
theorem c_cmd_11 (hF : 2000 ≤ F) (h : k_Q T n p x d w C) (hg : k_gC d C0 C) (h9 : C 193 9 = nI 0) : k_co T n d x C0 ((mX8_readOperands hk_E0 F C 193 11).bind (k_tail F 11)) (u_D T n w p 11) := by
  have hL := hk_L196 hE2
  have hw := h.2.2.2.2.2.2.2
  have hS := h.2.2.2.2.2.2.1
  unfold mX8_readOperands
  rw [if_pos (show hk_ok (11 : Int32) 15 by decide), if_pos (show hk_ok (11 : Int32) 15 by decide), if_neg (show ¬ hk_sm.getD (11 : Int32).toNatClampNeg 0 = 1 by decide), if_neg (show ¬ hk_sm.getD (11 : Int32).toNatClampNeg 0 = 2 by decide), if_neg (show ¬ hk_sm.getD (11 : Int32).toNatClampNeg 0 = 3 by decide), if_neg (show ¬ hk_sm.getD (11 : Int32).toNatClampNeg 0 = 4 by decide), if_neg (show ¬ hk_sm.getD (11 : Int32).toNatClampNeg 0 = 5 by decide), if_neg (show ¬ hk_sm.getD (11 : Int32).toNatClampNeg 0 = 6 by decide), if_neg (show ¬ hk_sm.getD (11 : Int32).toNatClampNeg 0 = 7 by decide), if_neg (show ¬ hk_sm.getD (11 : Int32).toNatClampNeg 0 = 8 by decide), if_neg (show ¬ hk_sm.getD (11 : Int32).toNatClampNeg 0 = 9 by decide), if_neg (show ¬ hk_sm.getD (11 : Int32).toNatClampNeg 0 = 10 by decide), if_neg (show ¬ hk_sm.getD (11 : Int32).toNatClampNeg 0 = 11 by decide), if_pos (show hk_sm.getD (11 : Int32).toNatClampNeg 0 = 12 by decide)]
  simp only [u_D]
  obtain ⟨m, hm, e10⟩ := k_n10 hw
  rw [rE_193_1 hE2, Option.bind_some, if_pos hL.1, hS.2.1.1, Option.bind_assoc]
  refine c_num (j := 0) (by omega) h hg h9 (by decide) rfl (fun _ => by rw [if_pos rfl, Option.bind_some, k_tail0]) (fun C1 l1 l2 h1 g1 j1 b1 => ?_)
  obtain ⟨t, ht, et, hn9⟩ := k_tr1 hw l1 l2
  rw [et] at b1 ⊢
  have a0 : (upd (C 215) 0 (nI t)) 0 = nI t := by rw [upd_at, if_pos rfl]
  generalize upd (C 215) 0 (nI t) = A at *
  rw [if_neg (show ¬ (1 : Int32) = 0 by decide), Option.bind_assoc]
  refine c_two (j := 1) (by omega) h1 g1 j1 (by decide) b1 (by decide) (by decide) (by decide +kernel) (by decide +kernel) (fun _ => by rw [if_pos rfl, Option.bind_some, k_tail0]) (fun C2 b h2 g2 j2 b2 => ?_)
  rw [if_neg (show ¬ (1 : Int32) = 0 by decide), Option.bind_assoc]
  refine c_two (j := 2) (by omega) h2 g2 j2 (by decide) b2 (by decide) (by decide) (by decide +kernel) (by decide +kernel) (fun _ => by rw [if_pos rfl, Option.bind_some, k_tail0]) (fun C3 c h3 g3 j3 b3 => ?_)
  rw [if_neg (show ¬ (1 : Int32) = 0 by decide), Option.bind_assoc]
  refine c_num (j := 3) (by omega) h3 g3 j3 (by decide) b3 (fun _ => by rw [if_pos rfl, Option.bind_some, k_tail0]) (fun C4 l3 l4 h4 g4 j4 b4 => ?_)
  rw [if_neg (show ¬ (1 : Int32) = 0 by decide), Option.bind_some]
  have c0 : C4 215 0 = nI t := by rw [b4, upd_at, if_neg (by decide), upd_at, if_neg (by decide), upd_at, if_neg (by decide), a0]
  have c1 : C4 215 1 = (if b = true then 1 else 0) := by rw [b4, upd_at, if_neg (by decide), upd_at, if_neg (by decide), upd_at, if_pos rfl]
  have c2 : C4 215 2 = (if c = true then -1 else 1) := by rw [b4, upd_at, if_neg (by decide), upd_at, if_pos rfl]
  have c3 : C4 215 3 = u_v T n (u_e T n (u_e T n (u_e T n p))) := by rw [b4, upd_at, if_pos rfl]
  generalize u_v T n (u_e T n (u_e T n (u_e T n p))) = z at *
  refine c_stop (by omega) h4 g4 rfl (fun C2 h2 a2 => ?_) (fun C2 hc h2 a2 => ?_)
  · have hS2 := h2.2.2.2.2.2.2.1
    unfold mX8_isRefused mX5_hasRoomForProbe
    rw [if_pos (show hk_ok (11 : Int32) 15 by decide), if_pos (show hk_ok (11 : Int32) 15 by decide), if_neg (show ¬ hk_sm.getD (11 : Int32).toNatClampNeg 0 = 1 by decide), if_neg (show ¬ hk_sm.getD (11 : Int32).toNatClampNeg 0 = 2 by decide), if_neg (show ¬ hk_sm.getD (11 : Int32).toNatClampNeg 0 = 3 by decide), if_neg (show ¬ hk_sm.getD (11 : Int32).toNatClampNeg 0 = 4 by decide), if_neg (show ¬ hk_sm.getD (11 : Int32).toNatClampNeg 0 = 5 by decide), if_neg (show ¬ hk_sm.getD (11 : Int32).toNatClampNeg 0 = 6 by decide), if_neg (show ¬ hk_sm.getD (11 : Int32).toNatClampNeg 0 = 7 by decide), if_neg (show ¬ hk_sm.getD (11 : Int32).toNatClampNeg 0 = 8 by decide), if_neg (show ¬ hk_sm.getD (11 : Int32).toNatClampNeg 0 = 9 by decide), if_neg (show ¬ hk_sm.getD (11 : Int32).toNatClampNeg 0 = 10 by decide), if_neg (show ¬ hk_sm.getD (11 : Int32).toNatClampNeg 0 = 11 by decide), if_pos (show hk_sm.getD (11 : Int32).toNatClampNeg 0 = 12 by decide), rE_193_1 hE2, Option.bind_some, if_pos hL.1, hS2.2.1.2.1]
    by_cases q : 6 ≤ w 10
    · rw [if_pos q, Option.bind_some, if_neg (fun z => z rfl), if_neg (fun z => z q)]
    · rw [if_neg q, Option.bind_some, if_pos (show ¬ (1 : Int32) = 0 by decide), if_pos q]
  · have hS2 := h2.2.2.2.2.2.2.1
    unfold mX8_execute
    rw [rE_193_1 hE2, Option.bind_some, if_pos hL.1, c_op0 a2, Option.bind_some]
    dsimp only
    rw [pX5_troughAt hL, Option.bind_some]
    dsimp only
    rw [if_pos (hk_L_t hL (k_tn_lt _)), if_pos (show hk_ok (11 : Int32) 15 by decide), if_pos (show hk_ok (11 : Int32) 15 by decide), if_neg (show ¬ hk_sm.getD (11 : Int32).toNatClampNeg 0 = 1 by decide), if_neg (show ¬ hk_sm.getD (11 : Int32).toNatClampNeg 0 = 2 by decide), if_neg (show ¬ hk_sm.getD (11 : Int32).toNatClampNeg 0 = 3 by decide), if_neg (show ¬ hk_sm.getD (11 : Int32).toNatClampNeg 0 = 4 by decide), if_neg (show ¬ hk_sm.getD (11 : Int32).toNatClampNeg 0 = 5 by decide), if_neg (show ¬ hk_sm.getD (11 : Int32).toNatClampNeg 0 = 6 by decide), if_neg (show ¬ hk_sm.getD (11 : Int32).toNatClampNeg 0 = 7 by decide), if_neg (show ¬ hk_sm.getD (11 : Int32).toNatClampNeg 0 = 8 by decide), if_neg (show ¬ hk_sm.getD (11 : Int32).toNatClampNeg 0 = 9 by decide), if_neg (show ¬ hk_sm.getD (11 : Int32).toNatClampNeg 0 = 10 by decide), if_neg (show ¬ hk_sm.getD (11 : Int32).toNatClampNeg 0 = 11 by decide), if_pos (show hk_sm.getD (11 : Int32).toNatClampNeg 0 = 12 by decide)]
    have hm6 : m < 6 := by
      apply Classical.byContradiction
      intro z
      exact hc (by rw [e10]; exact (nI_leI (a := 6) (by omega) (by omega)).mpr (by omega))
    have hb : (if b = true then (1 : Int32) else 0) = 0 ∨ (if b = true then (1 : Int32) else 0) = 1 := by cases b <;> decide
    have hz : -50 ≤ (if c = true then -z else z) ∧ (if c = true then -z else z) ≤ 50 := by
      cases c with
      | false => exact ⟨by rw [if_neg (by decide)]; grind, by rw [if_neg (by decide)]; exact l4⟩
      | true => exact ⟨by rw [if_pos rfl]; grind, by rw [if_pos rfl]; grind⟩
    have hm : (if c = true then (-1 : Int32) else 1) * z = if c = true then -z else z := by
      cases c with
      | false => rw [if_neg (by decide), if_neg (by decide), Int32.one_mul]
      | true => rw [if_pos rfl, if_pos rfl]; grind
    obtain ⟨S', s1, s2, s3⟩ := cX_placeProbe (E := hk_E0) (F := F) (x := nI t) (y := (if b = true then (1 : Int32) else 0)) (z := (if c = true then -z else z)) hL hS2 e10 hm6
    rw [c_op0 a2, Option.bind_some]
    dsimp only
    rw [c_op1 a2, Option.bind_some]
    dsimp only
    rw [c_op2 a2, Option.bind_some]
    dsimp only
    rw [c_op3 a2, Option.bind_some]
    dsimp only
    rw [c0, c1, c2, c3, hm, s1, Option.bind_some, show (w 10).toNatClampNeg = m by rw [e10]; exact nI_clamp (by omega)]
    exact ⟨S', rfl, s2, a_ok_put hw e10 hm6 ⟨nI_pos' (by omega), hn9⟩ hb hz, s3⟩
set_option maxHeartbeats 4000000 in
theorem c_cmd_12 (hF : 2000 ≤ F) (h : k_Q T n p x d w C) (hg : k_gC d C0 C) (h9 : C 193 9 = nI 0) : k_co T n d x C0 ((mX8_readOperands hk_E0 F C 193 12).bind (k_tail F 12)) (u_D T n w p 12) := by
  have hL := hk_L196 hE2
  have hw := h.2.2.2.2.2.2.2
  have hS := h.2.2.2.2.2.2.1
  unfold mX8_readOperands
  rw [if_pos (show hk_ok (12 : Int32) 15 by decide), if_pos (show hk_ok (12 : Int32) 15 by decide), if_neg (show ¬ hk_sm.getD (12 : Int32).toNatClampNeg 0 = 1 by decide), if_neg (show ¬ hk_sm.getD (12 : Int32).toNatClampNeg 0 = 2 by decide), if_neg (show ¬ hk_sm.getD (12 : Int32).toNatClampNeg 0 = 3 by decide), if_neg (show ¬ hk_sm.getD (12 : Int32).toNatClampNeg 0 = 4 by decide), if_neg (show ¬ hk_sm.getD (12 : Int32).toNatClampNeg 0 = 5 by decide), if_neg (show ¬ hk_sm.getD (12 : Int32).toNatClampNeg 0 = 6 by decide), if_neg (show ¬ hk_sm.getD (12 : Int32).toNatClampNeg 0 = 7 by decide), if_neg (show ¬ hk_sm.getD (12 : Int32).toNatClampNeg 0 = 8 by decide), if_neg (show ¬ hk_sm.getD (12 : Int32).toNatClampNeg 0 = 9 by decide), if_neg (show ¬ hk_sm.getD (12 : Int32).toNatClampNeg 0 = 10 by decide), if_neg (show ¬ hk_sm.getD (12 : Int32).toNatClampNeg 0 = 11 by decide), if_neg (show ¬ hk_sm.getD (12 : Int32).toNatClampNeg 0 = 12 by decide), if_pos (show hk_sm.getD (12 : Int32).toNatClampNeg 0 = 13 by decide)]
  simp only [u_D]
  rw [rE_193_1 hE2, Option.bind_some, if_pos hL.1, hS.2.1.2.1, Option.bind_assoc]
  refine c_num (j := 0) (by omega) h hg h9 (by decide) rfl (fun _ => by rw [if_pos (Or.inl rfl), Option.bind_some, k_tail0]) (fun C1 l1 l2 h1 g1 j1 b1 => ?_)
  rw [if_pos (Or.inr rfl), Option.bind_some]
  obtain ⟨t, ht, et, hn9⟩ := k_pr1 hw l1 l2
  have ec : (nI t).toNatClampNeg = t := nI_clamp (by omega)
  rw [et] at b1 ⊢
  simp only [ec]
  have a0 : (upd (C 215) 0 (nI t)) 0 = nI t := by rw [upd_at, if_pos rfl]
  generalize upd (C 215) 0 (nI t) = A at *
  refine c_stop (by omega) h1 g1 b1 (fun C2 h2 a2 => ?_) (fun C2 hc h2 a2 => ?_)
  · unfold mX8_isRefused
    rw [if_pos (show hk_ok (12 : Int32) 15 by decide), if_pos (show hk_ok (12 : Int32) 15 by decide), if_neg (show ¬ hk_sm.getD (12 : Int32).toNatClampNeg 0 = 1 by decide), if_neg (show ¬ hk_sm.getD (12 : Int32).toNatClampNeg 0 = 2 by decide), if_neg (show ¬ hk_sm.getD (12 : Int32).toNatClampNeg 0 = 3 by decide), if_neg (show ¬ hk_sm.getD (12 : Int32).toNatClampNeg 0 = 4 by decide), if_neg (show ¬ hk_sm.getD (12 : Int32).toNatClampNeg 0 = 5 by decide), if_neg (show ¬ hk_sm.getD (12 : Int32).toNatClampNeg 0 = 6 by decide), if_neg (show ¬ hk_sm.getD (12 : Int32).toNatClampNeg 0 = 7 by decide), if_neg (show ¬ hk_sm.getD (12 : Int32).toNatClampNeg 0 = 8 by decide), if_neg (show ¬ hk_sm.getD (12 : Int32).toNatClampNeg 0 = 9 by decide), if_neg (show ¬ hk_sm.getD (12 : Int32).toNatClampNeg 0 = 10 by decide), if_neg (show ¬ hk_sm.getD (12 : Int32).toNatClampNeg 0 = 11 by decide), if_neg (show ¬ hk_sm.getD (12 : Int32).toNatClampNeg 0 = 12 by decide), if_pos (show hk_sm.getD (12 : Int32).toNatClampNeg 0 = 13 by decide), if_pos trivial]
  · have hS2 := h2.2.2.2.2.2.2.1
    unfold mX8_execute
    rw [rE_193_1 hE2, Option.bind_some, if_pos hL.1, c_op0 a2, Option.bind_some]
    dsimp only
    rw [pX5_troughAt hL, Option.bind_some]
    dsimp only
    rw [if_pos (hk_L_t hL (k_tn_lt _)), if_pos (show hk_ok (12 : Int32) 15 by decide), if_pos (show hk_ok (12 : Int32) 15 by decide), if_neg (show ¬ hk_sm.getD (12 : Int32).toNatClampNeg 0 = 1 by decide), if_neg (show ¬ hk_sm.getD (12 : Int32).toNatClampNeg 0 = 2 by decide), if_neg (show ¬ hk_sm.getD (12 : Int32).toNatClampNeg 0 = 3 by decide), if_neg (show ¬ hk_sm.getD (12 : Int32).toNatClampNeg 0 = 4 by decide), if_neg (show ¬ hk_sm.getD (12 : Int32).toNatClampNeg 0 = 5 by decide), if_neg (show ¬ hk_sm.getD (12 : Int32).toNatClampNeg 0 = 6 by decide), if_neg (show ¬ hk_sm.getD (12 : Int32).toNatClampNeg 0 = 7 by decide), if_neg (show ¬ hk_sm.getD (12 : Int32).toNatClampNeg 0 = 8 by decide), if_neg (show ¬ hk_sm.getD (12 : Int32).toNatClampNeg 0 = 9 by decide), if_neg (show ¬ hk_sm.getD (12 : Int32).toNatClampNeg 0 = 10 by decide), if_neg (show ¬ hk_sm.getD (12 : Int32).toNatClampNeg 0 = 11 by decide), if_neg (show ¬ hk_sm.getD (12 : Int32).toNatClampNeg 0 = 12 by decide), if_pos (show hk_sm.getD (12 : Int32).toNatClampNeg 0 = 13 by decide)]
    rw [c_op0 a2, Option.bind_some, a0]
    dsimp only
    rw [pX5_probeAt hL, Option.bind_some, k_pn_nI ht]
    dsimp only
    rw [if_pos (hk_L_p hL ht), hk_let_eq]
    exact ⟨_, rfl, cX_cal hS2 ht, a_ok_cal hw ht, hk_fr_up (hk_fr_refl _ _) (by omega) (by omega) _ _⟩
set_option maxHeartbeats 4000000 in
theorem c_cmd_13 (hF : 2000 ≤ F) (h : k_Q T n p x d w C) (hg : k_gC d C0 C) (h9 : C 193 9 = nI 0) : k_co T n d x C0 ((mX8_readOperands hk_E0 F C 193 13).bind (k_tail F 13)) (u_D T n w p 13) := by
  have hL := hk_L196 hE2
  have hw := h.2.2.2.2.2.2.2
  have hS := h.2.2.2.2.2.2.1
  unfold mX8_readOperands
  rw [if_pos (show hk_ok (13 : Int32) 15 by decide), if_pos (show hk_ok (13 : Int32) 15 by decide), if_neg (show ¬ hk_sm.getD (13 : Int32).toNatClampNeg 0 = 1 by decide), if_neg (show ¬ hk_sm.getD (13 : Int32).toNatClampNeg 0 = 2 by decide), if_neg (show ¬ hk_sm.getD (13 : Int32).toNatClampNeg 0 = 3 by decide), if_neg (show ¬ hk_sm.getD (13 : Int32).toNatClampNeg 0 = 4 by decide), if_neg (show ¬ hk_sm.getD (13 : Int32).toNatClampNeg 0 = 5 by decide), if_neg (show ¬ hk_sm.getD (13 : Int32).toNatClampNeg 0 = 6 by decide), if_neg (show ¬ hk_sm.getD (13 : Int32).toNatClampNeg 0 = 7 by decide), if_neg (show ¬ hk_sm.getD (13 : Int32).toNatClampNeg 0 = 8 by decide), if_neg (show ¬ hk_sm.getD (13 : Int32).toNatClampNeg 0 = 9 by decide), if_neg (show ¬ hk_sm.getD (13 : Int32).toNatClampNeg 0 = 10 by decide), if_neg (show ¬ hk_sm.getD (13 : Int32).toNatClampNeg 0 = 11 by decide), if_neg (show ¬ hk_sm.getD (13 : Int32).toNatClampNeg 0 = 12 by decide), if_neg (show ¬ hk_sm.getD (13 : Int32).toNatClampNeg 0 = 13 by decide), if_pos (show hk_sm.getD (13 : Int32).toNatClampNeg 0 = 14 by decide)]
  simp only [u_D]
  rw [Option.bind_assoc]
  refine c_num (j := 0) (by omega) h hg h9 (by decide) rfl (fun _ => by rw [if_pos (Or.inl rfl), Option.bind_some, k_tail0]) (fun C1 l1 l2 h1 g1 j1 b1 => ?_)
  rw [if_pos (Or.inr rfl), Option.bind_some]
  obtain ⟨e, he, ee⟩ := nI_of2 (x := u_v T n p) (M := 200) (n := 200) (by decide) (by generalize u_v T n p = z at *; grind) l2
  rw [ee] at b1 l1 l2 ⊢
  have a0 : (upd (C 215) 0 (nI e)) 0 = nI e := by rw [upd_at, if_pos rfl]
  generalize upd (C 215) 0 (nI e) = A at *
  refine c_stop (by omega) h1 g1 b1 (fun C2 h2 a2 => ?_) (fun C2 hc h2 a2 => ?_)
  · have hS2 := h2.2.2.2.2.2.2.1
    unfold mX8_isRefused mX1_hasHoursLeft
    rw [if_pos (show hk_ok (13 : Int32) 15 by decide), if_pos (show hk_ok (13 : Int32) 15 by decide), if_neg (show ¬ hk_sm.getD (13 : Int32).toNatClampNeg 0 = 1 by decide), if_neg (show ¬ hk_sm.getD (13 : Int32).toNatClampNeg 0 = 2 by decide), if_neg (show ¬ hk_sm.getD (13 : Int32).toNatClampNeg 0 = 3 by decide), if_neg (show ¬ hk_sm.getD (13 : Int32).toNatClampNeg 0 = 4 by decide), if_neg (show ¬ hk_sm.getD (13 : Int32).toNatClampNeg 0 = 5 by decide), if_neg (show ¬ hk_sm.getD (13 : Int32).toNatClampNeg 0 = 6 by decide), if_neg (show ¬ hk_sm.getD (13 : Int32).toNatClampNeg 0 = 7 by decide), if_neg (show ¬ hk_sm.getD (13 : Int32).toNatClampNeg 0 = 8 by decide), if_neg (show ¬ hk_sm.getD (13 : Int32).toNatClampNeg 0 = 9 by decide), if_neg (show ¬ hk_sm.getD (13 : Int32).toNatClampNeg 0 = 10 by decide), if_neg (show ¬ hk_sm.getD (13 : Int32).toNatClampNeg 0 = 11 by decide), if_neg (show ¬ hk_sm.getD (13 : Int32).toNatClampNeg 0 = 12 by decide), if_neg (show ¬ hk_sm.getD (13 : Int32).toNatClampNeg 0 = 13 by decide), if_pos (show hk_sm.getD (13 : Int32).toNatClampNeg 0 = 14 by decide), rE_193_1 hE2, Option.bind_some, if_pos hL.1, hL.2.2.2.2.2.2.2.1, Option.bind_some, if_pos hL.2.1, c_op0 a2, Option.bind_some, a0]
    have e0 : C2 (196 + 1) 0 = w 0 := hS2.1.1
    simp only [e0]
    have z := hw.1
    by_cases q : 2000 < w 0 + nI e
    · rw [if_pos (show 2000 - w 0 < nI e by generalize w 0 = y at *; generalize nI e = u at *; grind), Option.bind_some, if_neg (fun z => z rfl), if_neg (fun z => z q)]
    · rw [if_neg (show ¬ 2000 - w 0 < nI e by generalize w 0 = y at *; generalize nI e = u at *; grind), Option.bind_some, if_pos (show ¬ (1 : Int32) = 0 by decide), if_pos q]
  · have hS2 := h2.2.2.2.2.2.2.1
    unfold mX8_execute
    rw [rE_193_1 hE2, Option.bind_some, if_pos hL.1, c_op0 a2, Option.bind_some]
    dsimp only
    rw [pX5_troughAt hL, Option.bind_some]
    dsimp only
    rw [if_pos (hk_L_t hL (k_tn_lt _)), if_pos (show hk_ok (13 : Int32) 15 by decide), if_pos (show hk_ok (13 : Int32) 15 by decide), if_neg (show ¬ hk_sm.getD (13 : Int32).toNatClampNeg 0 = 1 by decide), if_neg (show ¬ hk_sm.getD (13 : Int32).toNatClampNeg 0 = 2 by decide), if_neg (show ¬ hk_sm.getD (13 : Int32).toNatClampNeg 0 = 3 by decide), if_neg (show ¬ hk_sm.getD (13 : Int32).toNatClampNeg 0 = 4 by decide), if_neg (show ¬ hk_sm.getD (13 : Int32).toNatClampNeg 0 = 5 by decide), if_neg (show ¬ hk_sm.getD (13 : Int32).toNatClampNeg 0 = 6 by decide), if_neg (show ¬ hk_sm.getD (13 : Int32).toNatClampNeg 0 = 7 by decide), if_neg (show ¬ hk_sm.getD (13 : Int32).toNatClampNeg 0 = 8 by decide), if_neg (show ¬ hk_sm.getD (13 : Int32).toNatClampNeg 0 = 9 by decide), if_neg (show ¬ hk_sm.getD (13 : Int32).toNatClampNeg 0 = 10 by decide), if_neg (show ¬ hk_sm.getD (13 : Int32).toNatClampNeg 0 = 11 by decide), if_neg (show ¬ hk_sm.getD (13 : Int32).toNatClampNeg 0 = 12 by decide), if_neg (show ¬ hk_sm.getD (13 : Int32).toNatClampNeg 0 = 13 by decide), if_pos (show hk_sm.getD (13 : Int32).toNatClampNeg 0 = 14 by decide)]
    have q3 : w 0 ≤ 2000 - nI e := by
      have z := hw.1
      generalize w 0 = y at *
      generalize nI e = u at *
      grind
    obtain ⟨S', s1, s2, s3⟩ := pX5_pass (E := hk_E0) (F := F) (d := e) hL (by omega) (by omega) hS2 hw q3
    rw [c_op0 a2, Option.bind_some, a0]
    dsimp only
    rw [s1, Option.bind_some, show (nI e).toNatClampNeg = e from nI_clamp (by omega)]
    exact ⟨S', rfl, s2, (a_pass_ok e hw (by omega) q3).1, s3⟩
end
