/-! the class's changes of a loft -/
theorem hk_fr_at {b : Nat} {S S' : hk_S} {t : Nat} (ht : t < 8) (h : ∀ a, a ≠ b + 5 + t → S' a = S a) : hk_fr b S S' := fun a ha => h a (by omega)
theorem cX_placeTrough {E : hk_E} {F b : Nat} {S : hk_S} {w : Nat → Int32} {n : Nat} {c : Int32} (hL : hk_L E b) (hS : hk_lf S b w) (hn : w 9 = nI n) (hn8 : n < 8) : ∃ S', mX5_placeTrough E F S b c = some (nI n, S') ∧ hk_lf S' b (a_build w n c) ∧ hk_fr b S S' := by
  obtain ⟨S1, p1, p2, p3⟩ := pX10_build (E := E) (F := F) (S := S) (a := b + 5 + n) (c := c)
  have h1 : hk_lf S1 b (a_setT w n (t_new c)) := hk_lf_setT hS hn8 p2 p3
  have e2 : S1 b 2 = nI n := by rw [p3 b (by omega), hS.2.1.1, hn]
  have h2 : hk_lf (hk_up S1 b 2 (nI (n + 1))) b (a_build w n c) := by
    have := hk_lf_acc h1 (2, 9) (by decide) (nI (n + 1))
    unfold a_build
    rw [hn, nI_1, ← a_setT_upd (by omega)]
    exact this
  refine ⟨_, ?_, h2, hk_fr_up (hk_fr_at hn8 p3) (by omega) (by omega) _ _⟩
  unfold mX5_placeTrough
  rw [hS.2.1.1, hn, pX5_troughAt hL, Option.bind_some]
  dsimp only
  rw [k_tn_nI hn8, if_pos (hk_L_t hL hn8), p1, Option.bind_some, hk_let_eq, e2, nI_1, hk_up_eq, if_pos rfl, nI_pred]
theorem cX_putLeaf {E : hk_E} {F b : Nat} {S : hk_S} {w : Nat → Int32} {t : Nat} {kg m : Int32} (hS : hk_lf S b w) (ht : t < 8) (hc : 0 < a_t w t 0) : ∃ S', mX5_putLeaf E F S b (b + 5 + t) kg m = some S' ∧ hk_lf S' b (a_load w t kg m) ∧ hk_fr b S S' := by
  obtain ⟨S1, p1, p2, p3⟩ := pX10_takeLeaf (E := E) (F := F) (kg := kg) (m := m) (hS.2.2.1 t ht) hc
  have h1 := hk_lf_setT hS ht p2 p3
  have e2 : S1 b 7 = w 11 := by rw [p3 b (by omega), hS.2.1.2.2.2.2.1]
  have h2 : hk_lf (hk_up S1 b 7 (w 11 + kg)) b (a_load w t kg m) := by
    have := hk_lf_acc h1 (7, 11) (by decide) (w 11 + kg)
    unfold a_load
    rw [← a_setT_upd (by omega)]
    exact this
  refine ⟨_, ?_, h2, hk_fr_up (hk_fr_at ht p3) (by omega) (by omega) _ _⟩
  unfold mX5_putLeaf
  rw [p1, Option.bind_some, hk_let_eq, e2]
theorem hk_up_tr {S : hk_S} {b t : Nat} {v : Nat → Int32} (h : hk_tr (S (b + 5 + t)) v) (k : Nat) (x : Int32) : hk_tr (hk_up S b k x (b + 5 + t)) v := by
  rw [hk_upne _ _ _ (by omega)]
  exact h
theorem cX_discardLeaf {E : hk_E} {F b : Nat} {S : hk_S} {w : Nat → Int32} {t : Nat} (hS : hk_lf S b w) (ht : t < 8) : ∃ S', mX5_discardLeaf E F S b (b + 5 + t) = some (a_t w t 3, S') ∧ hk_lf S' b (a_out w t 13) ∧ hk_fr b S S' := by
  have htr := hS.2.2.1 t ht
  have h1 := hk_lf_acc hS (9, 13) (by decide) (w 13 + a_t w t 3)
  have h2 := hk_lf_acc h1 (10, 16) (by decide) (w 16 + a_t w t 8)
  obtain ⟨S1, p1, p2, p3⟩ := pX10_removeLeaf (E := E) (F := F) (hk_up_tr (hk_up_tr htr 9 (w 13 + a_t w t 3)) 10 (w 16 + a_t w t 8))
  refine ⟨S1, ?_, hk_lf_setT h2 ht p2 p3, hk_fr_trans (hk_fr_up (hk_fr_up (hk_fr_refl _ _) (by omega) (by omega) _ _) (by omega) (by omega) _ _) (hk_fr_at ht p3)⟩
  unfold mX5_discardLeaf
  simp only [hk_let_eq]
  rw [htr.2.2.2.1, hS.2.1.2.2.2.2.2.2.1, hk_up_eq, if_neg (by omega), hS.2.1.2.2.2.2.2.2.2.1, hk_upne _ _ _ (by omega), htr.2.2.2.2.2.1, p1, Option.bind_some]
theorem cX_dischargeLeaf {E : hk_E} {F b : Nat} {S : hk_S} {w : Nat → Int32} {t : Nat} (hS : hk_lf S b w) (ht : t < 8) : ∃ S', mX5_dischargeLeaf E F S b (b + 5 + t) = some (t_worth (a_t w t), S') ∧ hk_lf S' b (a_send w t) ∧ hk_fr b S S' := by
  have htr := hS.2.2.1 t ht
  have h0 := hk_lf_acc hS (11, 14) (by decide) (w 14 + t_worth (a_t w t))
  have h1 := hk_lf_acc h0 (8, 12) (by decide) (w 12 + a_t w t 3)
  have h2 := hk_lf_acc h1 (10, 16) (by decide) (w 16 + a_t w t 8)
  obtain ⟨S1, p1, p2, p3⟩ := pX10_removeLeaf (E := E) (F := F) (hk_up_tr (hk_up_tr (hk_up_tr htr 11 (w 14 + t_worth (a_t w t))) 8 (w 12 + a_t w t 3)) 10 (w 16 + a_t w t 8))
  refine ⟨S1, ?_, ?_, hk_fr_trans (hk_fr_up (hk_fr_up (hk_fr_up (hk_fr_refl _ _) (by omega) (by omega) _ _) (by omega) (by omega) _ _) (by omega) (by omega) _ _) (hk_fr_at ht p3)⟩
  · unfold mX5_dischargeLeaf
    rw [pX10_quality htr, Option.bind_some]
    simp only [hk_let_eq]
    rw [htr.2.2.2.1]
    show (mX10_removeLeaf E F (hk_up (hk_up (hk_up S b 11 (S b 11 + t_worth (a_t w t))) b 8 _) b 10 _) (b + 5 + t)).bind _ = _
    rw [hS.2.1.2.2.2.2.2.2.2.2.1, hk_up_eq, if_neg (by omega), hS.2.1.2.2.2.2.2.1, hk_upne _ _ _ (show b + 5 + t ≠ b by omega), htr.2.2.2.1, hk_up_eq, if_neg (by omega), hk_up_eq, if_neg (by omega), hS.2.1.2.2.2.2.2.2.2.1, hk_upne _ _ _ (show b + 5 + t ≠ b by omega), hk_upne _ _ _ (show b + 5 + t ≠ b by omega), htr.2.2.2.2.2.1, p1, Option.bind_some]
    rfl
  · have := hk_lf_setT h2 ht p2 p3
    unfold a_send a_out
    rw [a_t_upd t (by omega), upd_at, if_neg (by omega), upd_at, if_neg (by omega)]
    exact this
theorem cX_fan {S : hk_S} {b : Nat} {w : Nat → Int32} {t : Nat} {s : Int32} (hS : hk_lf S b w) (ht : t < 8) : hk_lf (hk_up S (b + 5 + t) 1 s) b (a_fan w t s) := by
  refine hk_lf_setT hS ht ?_ (fun a ha => hk_upne _ _ _ ha)
  obtain ⟨u0, u1, u2, u3, u4, u5, u6, u7, u8, u9⟩ := hS.2.2.1 t ht
  unfold hk_tr t_fill
  simp [hk_up_eq, upd_at, u0, u2, u3, u4, u5, u6, u7, u8, u9, t_fill]
theorem cX_rev {S : hk_S} {b : Nat} {w : Nat → Int32} {t : Nat} (hS : hk_lf S b w) (ht : t < 8) (h2 : a_t w t 2 = 0 ∨ a_t w t 2 = 1) : hk_lf (hk_up S (b + 5 + t) 2 (if S (b + 5 + t) 2 = 0 then 1 else 0)) b (a_rev w t) := by
  refine hk_lf_setT hS ht ?_ (fun a ha => hk_upne _ _ _ ha)
  obtain ⟨u0, u1, u2, u3, u4, u5, u6, u7, u8, u9⟩ := hS.2.2.1 t ht
  unfold hk_tr t_fill
  rcases h2 with q | q <;> simp [hk_up_eq, upd_at, u0, u1, u2, u3, u4, u5, u6, u7, u8, u9, t_fill, q]
theorem cX_turn {E : hk_E} {F b : Nat} {S : hk_S} {w : Nat → Int32} {t : Nat} (hS : hk_lf S b w) (ht : t < 8) : ∃ S', mX10_mixLayers E F S (b + 5 + t) = some S' ∧ hk_lf S' b (a_turn w t) ∧ hk_fr b S S' := by
  obtain ⟨S1, p1, p2, p3⟩ := pX10_mixLayers (E := E) (F := F) (hS.2.2.1 t ht)
  exact ⟨S1, p1, hk_lf_setT hS ht p2 p3, hk_fr_at ht p3⟩
theorem hk_lf_air {S S' : hk_S} {b : Nat} {w W : Nat → Int32} (h : hk_lf S b w) (hA : hk_air S' b W) (h2 : ∀ a, a ≠ b + 1 → a ≠ b + 2 → S' a = S a) (e : ∀ j, (j = 3 ∨ j = 4 ∨ 9 ≤ j) → W j = w j) : hk_lf S' b W := by
  obtain ⟨-, g2, g3, g4⟩ := h
  have et : ∀ t, a_t W t = a_t w t := fun t => by funext k; exact e _ (by omega)
  have ep : ∀ q, a_p W q = a_p w q := fun q => by funext k; exact e _ (by omega)
  refine ⟨hA, ?_, fun t ht => ?_, fun q hq hn => ?_⟩
  · unfold hk_num at g2 ⊢
    rw [h2 _ (by omega) (by omega), e 9 (by omega), e 10 (by omega), e 3 (by omega), e 4 (by omega), e 11 (by omega), e 12 (by omega), e 13 (by omega), e 14 (by omega), e 15 (by omega), e 16 (by omega)]
    exact g2
  · rw [h2 _ (by omega) (by omega), et]
    exact g3 t ht
  · rw [h2 _ (by omega) (by omega)]
    simp only [ep]
    rw [e 10 (by omega)] at hn
    exact g4 q hq hn
theorem cX_heat {S : hk_S} {b : Nat} {w : Nat → Int32} {x : Int32} (hS : hk_lf S b w) : hk_lf (hk_up S (b + 1) 2 x) b (upd w 1 x) := by
  obtain ⟨a0, a1, a2, a3, a4⟩ := hS.1
  refine hk_lf_air hS ⟨?_, ?_, ?_, ?_, fun m hm hn => ?_⟩ (fun a h1 h2 => hk_upne _ _ _ h1) (fun j hj => by rw [upd_at, if_neg (by omega)])
  · simp [hk_up_eq, upd_at, a0]
  · simp [hk_up_eq, upd_at, a1]
  · simp [hk_up_eq, upd_at]
  · simp [hk_up_eq, upd_at, a3]
  · rw [hk_upne _ _ _ (by omega), upd_at, if_neg (by omega)]
    rw [upd_at, if_neg (by omega)] at hn
    exact a4 m hm hn
theorem cX_humid {S : hk_S} {b : Nat} {w : Nat → Int32} {x : Int32} (hS : hk_lf S b w) : hk_lf (hk_up S (b + 1) 1 x) b (upd w 2 x) := by
  obtain ⟨a0, a1, a2, a3, a4⟩ := hS.1
  refine hk_lf_air hS ⟨?_, ?_, ?_, ?_, fun m hm hn => ?_⟩ (fun a h1 h2 => hk_upne _ _ _ h1) (fun j hj => by rw [upd_at, if_neg (by omega)])
  · simp [hk_up_eq, upd_at, a0]
  · simp [hk_up_eq, upd_at]
  · simp [hk_up_eq, upd_at, a2]
  · simp [hk_up_eq, upd_at, a3]
  · rw [hk_upne _ _ _ (by omega), upd_at, if_neg (by omega)]
    rw [upd_at, if_neg (by omega)] at hn
    exact a4 m hm hn
theorem cX_addMonsoon {E : hk_E} {F b : Nat} {S : hk_S} {w : Nat → Int32} {n : Nat} {x : Int32} (hL : hk_L E b) (hS : hk_lf S b w) (hn : w 5 = nI n) (hn3 : n < 3) : ∃ S', mX1_addMonsoon E F S (b + 1) x = some S' ∧ hk_lf S' b (a_mon w n x) ∧ hk_fr b S S' ∧ S' (b + 1) 3 = nI (n + 1) := by
  obtain ⟨k0, k1, ⟨k2, l2⟩, k3, k4, k5, k6, ⟨r0, r1, r3, r4⟩⟩ := hL
  obtain ⟨a0, a1, a2, a3, a4⟩ := hS.1
  have e : ∀ i, a_mon w n x i = if i = 5 then nI (n + 1) else if i = 6 + n then x else w i := fun i => by
    unfold a_mon
    rw [upd_at, upd_at, hn, nI_1]
  refine ⟨hk_up (hk_up S (b + 2) n x) (b + 1) 3 (nI (n + 1)), ?_, ?_, hk_fr_up (hk_fr_up (hk_fr_refl _ _) (by omega) (by omega) _ _) (by omega) (by omega) _ _, by simp [hk_up_eq]⟩
  · unfold mX1_addMonsoon
    rw [a3, hn, if_neg (nI_pos (by omega)), if_neg (show ¬ (3 : Int32) ≤ nI n from nI_ge (a := n) (b := 3) (by omega) (by omega)), r4, Option.bind_some, if_pos k2, l2, if_pos (hk_okI hn3 (by omega)), nI_clamp (by omega)]
    simp only [hk_let_eq]
    rw [hk_upne _ _ _ (show b + 1 ≠ b + 2 by omega), a3, hn, nI_1]
  · refine hk_lf_air hS ⟨?_, ?_, ?_, ?_, fun m hm hl => ?_⟩ (fun a h1 h2 => by rw [hk_upne _ _ _ h1, hk_upne _ _ _ h2]) (fun j hj => by rw [e, if_neg (by omega), if_neg (by omega)])
    · rw [hk_up_eq, if_neg (by omega), hk_upne _ _ _ (by omega), e, if_neg (by omega), if_neg (by omega)]; exact a0
    · rw [hk_up_eq, if_neg (by omega), hk_upne _ _ _ (by omega), e, if_neg (by omega), if_neg (by omega)]; exact a1
    · rw [hk_up_eq, if_neg (by omega), hk_upne _ _ _ (by omega), e, if_neg (by omega), if_neg (by omega)]; exact a2
    · rw [hk_up_eq, if_pos rfl, e, if_pos rfl]
    · rw [e, if_pos rfl] at hl
      rw [hk_upne _ _ _ (by omega), hk_up_eq, e, if_neg (show ¬ 6 + m = 5 by omega)]
      by_cases q : m = n
      · rw [if_pos q, if_pos (by omega)]
      · rw [if_neg q, if_neg (by omega)]
        have := (nI_ltI (by omega) (by omega)).mp hl
        exact a4 m hm (by rw [hn]; exact nI_lt (by omega) (by omega))
theorem cX_aimAt {E : hk_E} {F b : Nat} {S : hk_S} {w : Nat → Int32} {x y : Int32} (hS : hk_lf S b w) : ∃ S', mX5_aimAt E F S b x y = some S' ∧ hk_lf S' b (a_aim w x y) ∧ hk_fr b S S' := by
  refine ⟨_, rfl, hk_lf_acc (hk_lf_acc hS (5, 3) (by decide) x) (6, 4) (by decide) y, hk_fr_up (hk_fr_up (hk_fr_refl _ _) (by omega) (by omega) _ _) (by omega) (by omega) _ _⟩
theorem hk_lf_prs {S S' : hk_S} {b : Nat} {w W : Nat → Int32} (h : hk_lf S b w) (hP : hk_prs S' b W) (h2 : ∀ a, a ≠ b → a < b + 13 → S' a = S a) (hb : ∀ k, k ≠ 4 → S' b k = S b k) (h4 : S' b 4 = W 10) (e : ∀ j, j ≠ 10 → j < 89 → W j = w j) : hk_lf S' b W := by
  obtain ⟨g1, g2, g3, g4⟩ := h
  refine ⟨?_, ?_, fun t ht => ?_, hP⟩
  · unfold hk_air at g1 ⊢
    rw [h2 _ (by omega) (by omega), h2 _ (by omega) (by omega), e 0 (by omega) (by omega), e 1 (by omega) (by omega), e 2 (by omega) (by omega), e 5 (by omega) (by omega)]
    exact ⟨g1.1, g1.2.1, g1.2.2.1, g1.2.2.2.1, fun m hm hn => (g1.2.2.2.2 m hm hn).trans (e _ (by omega) (by omega)).symm⟩
  · unfold hk_num at g2 ⊢
    rw [hb _ (by omega), h4, hb _ (by omega), hb _ (by omega), hb _ (by omega), hb _ (by omega), hb _ (by omega), hb _ (by omega), hb _ (by omega), hb _ (by omega), e 9 (by omega) (by omega), e 3 (by omega) (by omega), e 4 (by omega) (by omega), e 11 (by omega) (by omega), e 12 (by omega) (by omega), e 13 (by omega) (by omega), e 14 (by omega) (by omega), e 15 (by omega) (by omega), e 16 (by omega) (by omega)]
    exact ⟨g2.1, rfl, g2.2.2⟩
  · rw [h2 _ (by omega) (by omega)]
    exact hk_tr_ext (g3 t ht) (fun k hk => e _ (by omega) (by omega))
theorem cX_placeProbe {E : hk_E} {F b : Nat} {S : hk_S} {w : Nat → Int32} {q : Nat} {x y z : Int32} (hL : hk_L E b) (hS : hk_lf S b w) (hn : w 10 = nI q) (hq : q < 6) : ∃ S', mX5_placeProbe E F S b x y z = some (nI q, S') ∧ hk_lf S' b (a_put w q x y z) ∧ hk_fr b S S' := by
  refine ⟨hk_up (hk_up (hk_up (hk_up S (b + 13 + q) 0 x) (b + 13 + q) 1 y) (b + 13 + q) 2 z) b 4 (nI (q + 1)), ?_, ?_, hk_fr_up (hk_fr_up (hk_fr_up (hk_fr_up (hk_fr_refl _ _) (by omega) (by omega) _ _) (by omega) (by omega) _ _) (by omega) (by omega) _ _) (by omega) (by omega) _ _⟩
  · unfold mX5_placeProbe
    rw [hS.2.1.2.1, hn, pX5_probeAt hL, Option.bind_some]
    dsimp only
    rw [k_pn_nI hq, if_pos (hk_L_p hL hq)]
    simp only [hk_let_eq]
    rw [hk_upne _ _ _ (show b ≠ b + 13 + q by omega), hk_upne _ _ _ (show b ≠ b + 13 + q by omega), hk_upne _ _ _ (show b ≠ b + 13 + q by omega), hS.2.1.2.1, hn, nI_1, hk_up_eq, if_pos rfl, nI_pred]
  · refine hk_lf_prs hS (fun q' hq' hl => ?_) (fun a h1 h2 => ?_) (fun k hk => ?_) ?_ (fun j h1 h2 => a_put_lo _ _ _ _ _ h1 h2)
    · rw [a_put_10, hn, nI_1] at hl
      have := (nI_ltI (by omega) (by omega)).mp hl
      rw [a_put_p _ _ _ _ _ _ (by omega), a_put_p _ _ _ _ _ _ (by omega), a_put_p _ _ _ _ _ _ (by omega), hk_upne _ _ _ (by omega)]
      by_cases e : q' = q
      · subst e
        simp [hk_up_eq]
      · rw [hk_upne _ _ _ (by omega), hk_upne _ _ _ (by omega), hk_upne _ _ _ (by omega), if_neg e, if_neg e, if_neg e]
        exact hS.2.2.2 q' hq' (by rw [hn]; exact nI_lt (by omega) (by omega))
    · rw [hk_upne _ _ _ (by omega), hk_upne _ _ _ (by omega), hk_upne _ _ _ (by omega), hk_upne _ _ _ (by omega)]
    · rw [hk_up_eq, if_neg hk, hk_upne _ _ _ (by omega), hk_upne _ _ _ (by omega), hk_upne _ _ _ (by omega)]
    · rw [hk_up_eq, if_pos rfl, a_put_10, hn, nI_1]
theorem cX_move {S : hk_S} {b : Nat} {w : Nat → Int32} {q : Nat} {x y : Int32} (hS : hk_lf S b w) (hq : q < 6) : hk_lf (hk_up (hk_up S (b + 13 + q) 0 x) (b + 13 + q) 1 y) b (a_move w q x y) := by
  refine hk_lf_prs hS (fun q' hq' hl => ?_) (fun a h1 h2 => ?_) (fun k hk => ?_) ?_ (fun j h1 h2 => a_move_lo _ _ _ _ h2)
  · rw [a_move_lo _ _ _ _ (by omega)] at hl
    have g := hS.2.2.2 q' hq' hl
    rw [a_move_p _ _ _ _ _ (by omega), a_move_p _ _ _ _ _ (by omega), a_move_p _ _ _ _ _ (by omega)]
    by_cases e : q' = q
    · subst e
      simp [hk_up_eq, g]
    · rw [hk_upne _ _ _ (by omega), hk_upne _ _ _ (by omega), if_neg e, if_neg e, if_neg e]
      exact g
  · rw [hk_upne _ _ _ (by omega), hk_upne _ _ _ (by omega)]
  · rw [hk_upne _ _ _ (by omega), hk_upne _ _ _ (by omega)]
  · rw [hk_upne _ _ _ (by omega), hk_upne _ _ _ (by omega), a_move_lo _ _ _ _ (by omega)]
    exact hS.2.1.2.1
theorem cX_cal {S : hk_S} {b : Nat} {w : Nat → Int32} {q : Nat} (hS : hk_lf S b w) (hq : q < 6) : hk_lf (hk_up S (b + 13 + q) 2 0) b (a_cal w q) := hk_lf_probe hS hq 0
