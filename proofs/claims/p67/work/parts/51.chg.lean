/-! the class's changes: what is remembered, and the loft behind -/
def hk_hs (S : hk_S) (c nx : Nat) : Prop := c ≤ 8 ∧ nx < 8 ∧ S 39 1 = nI nx ∧ S 39 2 = nI c
/-- behind a change: the row before is remembered; the snapshot stays -/
def hk_re (S S1 : hk_S) (w : Nat → Int32) (c nx : Nat) : Prop := S1 39 1 = nI ((nx + 1) % 8) ∧ S1 39 2 = nI (min (c + 1) 8) ∧ hk_lf S1 (hk_ring nx) w ∧ ∀ a, (a = 0 ∨ (20 ≤ a ∧ a < 39)) → S1 a = S a
theorem q_rem {F c nx : Nat} {S : hk_S} {w : Nat → Int32} (hF : 10 ≤ F) (h : hk_B S w) (hh : hk_hs S c nx) : ∃ S1, mX3_remember hk_E0 F S 39 1 = some S1 ∧ hk_lf S1 1 w ∧ hk_re S S1 w c nx := by
  obtain ⟨h1, h2, h3, h4⟩ := hh
  have hr := hk_ring_lt nx
  obtain ⟨S1, p1, p2, p3, p4, p5⟩ := cX_remember (F := F) hE2 hF h.1 h2 h1 h3 h4
  exact ⟨S1, p1, hk_lf_ext h.1 (fun a ha hb => p5 a (by omega) (by omega)), p3, p4, p2, fun a ha => p5 a (by omega) (by omega)⟩
theorem q_ch {S S1 S2 : hk_S} {w : Nat → Int32} {c nx : Nat} (R : hk_re S S1 w c nx) (f : hk_fr 1 S1 S2) : hk_re S S2 w c nx := by
  obtain ⟨r1, r2, r3, r4⟩ := R
  have hr := hk_ring_lt nx
  exact ⟨by rw [f 39 (by omega)]; exact r1, by rw [f 39 (by omega)]; exact r2, hk_lf_ext r3 (fun a ha hb => f a (by omega)), fun a ha => (f a (by omega)).trans (r4 a ha)⟩
theorem q_hs {S S1 : hk_S} {w : Nat → Int32} {c nx : Nat} (R : hk_re S S1 w c nx) : hk_hs S1 (min (c + 1) 8) ((nx + 1) % 8) := ⟨by omega, Nat.mod_lt _ (by omega), R.1, R.2.1⟩
theorem c_setFan {F c nx t : Nat} {S : hk_S} {w : Nat → Int32} {x : Int32} (hF : 10 ≤ F) (h : hk_B S w) (hh : hk_hs S c nx) (ht : t < 8) (hn : nI t < w 9) (h0 : 0 ≤ x) (h1 : x ≤ 5) : ∃ r S', mX11_setFan hk_E0 F S 0 (nI t) x = some (r, S') ∧ hk_lf S' 1 (a_fan w t x) ∧ hk_re S S' w c nx := by
  have hL := hk_L1 hE2
  obtain ⟨S1, r1, r2, r3⟩ := q_rem hF h hh
  refine ⟨?r, _, ?g, cX_fan r2 ht (s := x), q_ch r3 (hk_fr_up (hk_fr_refl _ _) (by omega) (by omega) _ _)⟩
  case g =>
    unfold mX11_setFan
    rw [q_exT h ht hn, Option.bind_some]
    dsimp only
    rw [if_pos (hk_L_t hL ht), k_rq h0 h1, Option.bind_some, rE_0_3 hE2, Option.bind_some, if_pos (kE_39 hE2), rE_0_0 hE2, Option.bind_some, if_pos hL.1, r1, Option.bind_some]
    rfl
theorem c_reverse {F c nx t : Nat} {S : hk_S} {w : Nat → Int32} (hF : 10 ≤ F) (h : hk_B S w) (hh : hk_hs S c nx) (ht : t < 8) (hn : nI t < w 9) : ∃ r S', mX11_reverse hk_E0 F S 0 (nI t) = some (r, S') ∧ hk_lf S' 1 (a_rev w t) ∧ hk_re S S' w c nx := by
  have hL := hk_L1 hE2
  obtain ⟨S1, r1, r2, r3⟩ := q_rem hF h hh
  have h2 := (h.2.2.2.2.2.2.2.2.2.2.1 t ht).1
  refine ⟨if S1 (1 + 5 + t) 2 = 0 then 1 else 0, _, ?_, cX_rev r2 ht h2, q_ch r3 (hk_fr_up (hk_fr_refl _ _) (by omega) (by omega) _ _)⟩
  unfold mX11_reverse
  rw [q_exT h ht hn, Option.bind_some]
  dsimp only
  rw [if_pos (hk_L_t hL ht), rE_0_3 hE2, Option.bind_some, if_pos (kE_39 hE2), rE_0_0 hE2, Option.bind_some, if_pos hL.1, r1, Option.bind_some]
  simp only [hk_let_eq]
  by_cases q : S1 (1 + 5 + t) 2 = 0
  · rw [if_neg (fun z => z q), hk_up_eq, if_pos rfl, if_pos (Or.inr rfl)]
    simp only [q, if_true]
  · rw [if_pos q, hk_up_eq, if_pos rfl, if_pos (Or.inl rfl)]
    simp only [q, if_false]
theorem c_setHeat {F c nx : Nat} {S : hk_S} {w : Nat → Int32} {x : Int32} (hF : 10 ≤ F) (h : hk_B S w) (hh : hk_hs S c nx) (h0 : 0 ≤ x) (h1 : x ≤ 5) : ∃ r S', mX11_setHeat hk_E0 F S 0 x = some (r, S') ∧ hk_lf S' 1 (upd w 1 x) ∧ hk_re S S' w c nx := by
  have hL := hk_L1 hE2
  obtain ⟨S1, r1, r2, r3⟩ := q_rem hF h hh
  refine ⟨?r, _, ?g, cX_heat r2 (x := x), q_ch r3 (hk_fr_up (hk_fr_refl _ _) (by omega) (by omega) _ _)⟩
  case g =>
    unfold mX11_setHeat
    rw [k_rq h0 h1, Option.bind_some, rE_0_3 hE2, Option.bind_some, if_pos (kE_39 hE2), rE_0_0 hE2, Option.bind_some, if_pos hL.1, r1, Option.bind_some, hL.2.2.2.2.2.2.2.1, Option.bind_some, if_pos hL.2.1]
    rfl
theorem c_setHumidity {F c nx : Nat} {S : hk_S} {w : Nat → Int32} {x : Int32} (hF : 10 ≤ F) (h : hk_B S w) (hh : hk_hs S c nx) (h0 : 20 ≤ x) (h1 : x ≤ 95) : ∃ r S', mX11_setHumidity hk_E0 F S 0 x = some (r, S') ∧ hk_lf S' 1 (upd w 2 x) ∧ hk_re S S' w c nx := by
  have hL := hk_L1 hE2
  obtain ⟨S1, r1, r2, r3⟩ := q_rem hF h hh
  refine ⟨?r, _, ?g, cX_humid r2 (x := x), q_ch r3 (hk_fr_up (hk_fr_refl _ _) (by omega) (by omega) _ _)⟩
  case g =>
    unfold mX11_setHumidity
    rw [k_rq h0 h1, Option.bind_some, rE_0_3 hE2, Option.bind_some, if_pos (kE_39 hE2), rE_0_0 hE2, Option.bind_some, if_pos hL.1, r1, Option.bind_some, hL.2.2.2.2.2.2.2.1, Option.bind_some, if_pos hL.2.1]
    rfl
theorem c_addTrough {F c nx n : Nat} {S : hk_S} {w : Nat → Int32} {x : Int32} (hF : 10 ≤ F) (h : hk_B S w) (hh : hk_hs S c nx) (hn : w 9 = nI n) (hn8 : n < 8) (h0 : 10 ≤ x) (h1 : x ≤ 500) : ∃ r S', mX11_addTrough hk_E0 F S 0 x = some (r, S') ∧ hk_lf S' 1 (a_build w n x) ∧ hk_re S S' w c nx := by
  have hL := hk_L1 hE2
  obtain ⟨S1, r1, r2, r3⟩ := q_rem hF h hh
  obtain ⟨S2, p1, p2, p3⟩ := cX_placeTrough (F := F) (c := x) hL r2 hn hn8
  refine ⟨?r, _, ?g, p2, q_ch r3 p3⟩
  case g =>
    have e9 : S 1 2 = nI n := h.1.2.1.1.trans hn
    unfold mX11_addTrough mX5_hasRoomForTrough
    rw [k_rq h0 h1, Option.bind_some, rE_0_0 hE2, Option.bind_some, if_pos hL.1, e9, if_neg (show ¬ (8 : Int32) ≤ nI n from nI_ge (a := n) (b := 8) (by omega) (by omega)), Option.bind_some]
    dsimp only
    rw [if_pos (by decide), k_rf0, Option.bind_some, rE_0_3 hE2, Option.bind_some, if_pos (kE_39 hE2), r1, Option.bind_some, p1, Option.bind_some]
theorem c_load {F c nx t : Nat} {S : hk_S} {w : Nat → Int32} {x y : Int32} (hF : 10 ≤ F) (h : hk_B S w) (hh : hk_hs S c nx) (ht : t < 8) (hn : nI t < w 9) (h0 : 1 ≤ x) (h1 : x ≤ a_t w t 0) (h2 : 600 ≤ y) (h3 : y ≤ 900) (he : a_t w t 3 = 0) : ∃ r S', mX11_load hk_E0 F S 0 (nI t) x y = some (r, S') ∧ hk_lf S' 1 (a_load w t x y) ∧ hk_re S S' w c nx := by
  have hL := hk_L1 hE2
  obtain ⟨S1, r1, r2, r3⟩ := q_rem hF h hh
  have hcap := k_cap h.2 ht hn
  obtain ⟨S2, p1, p2, p3⟩ := cX_putLeaf (E := hk_E0) (F := F) (kg := x) (m := y) r2 ht (by generalize a_t w t 0 = z at *; grind)
  refine ⟨?r, _, ?g, p2, q_ch r3 p3⟩
  case g =>
    have htr := h.1.2.2.1 t ht
    unfold mX11_load
    rw [q_exT h ht hn, Option.bind_some]
    dsimp only
    rw [if_pos (hk_L_t hL ht), htr.1, k_rq h0 h1, Option.bind_some, k_rq h2 h3, Option.bind_some, pX10_hasLeaf htr (k_leaf0 h.2 ht), Option.bind_some]
    dsimp only
    rw [if_pos he, k_rf0, Option.bind_some, rE_0_3 hE2, Option.bind_some, if_pos (kE_39 hE2), rE_0_0 hE2, Option.bind_some, if_pos hL.1, r1, Option.bind_some, p1, Option.bind_some]
theorem c_announceMonsoon {F c nx n : Nat} {S : hk_S} {w : Nat → Int32} {x : Int32} (hF : 10 ≤ F) (h : hk_B S w) (hh : hk_hs S c nx) (hn : w 5 = nI n) (hn3 : n < 3) (h0 : w 0 / 24 ≤ x) (h1 : x ≤ 83) : ∃ r S', mX11_announceMonsoon hk_E0 F S 0 x = some (r, S') ∧ hk_lf S' 1 (a_mon w n x) ∧ hk_re S S' w c nx := by
  have hL := hk_L1 hE2
  obtain ⟨S1, r1, r2, r3⟩ := q_rem hF h hh
  obtain ⟨S2, p1, p2, p3, p4⟩ := cX_addMonsoon (F := F) (x := x) hL r2 hn hn3
  refine ⟨?r, _, ?g, p2, q_ch r3 p3⟩
  case g =>
    obtain ⟨a0, a1, a2, a3, a4⟩ := h.1.1
    have e5 : S (1 + 1) 3 = nI n := a3.trans hn
    unfold mX11_announceMonsoon mX1_presentDay mX1_hasRoomForMonsoon
    rw [rE_0_0 hE2, Option.bind_some, if_pos hL.1, hL.2.2.2.2.2.2.2.1, Option.bind_some, if_pos hL.2.1, a0, Option.bind_some]
    dsimp only
    rw [k_rq h0 h1, Option.bind_some, e5, if_neg (show ¬ (3 : Int32) ≤ nI n from nI_ge (a := n) (b := 3) (by omega) (by omega)), Option.bind_some]
    dsimp only
    rw [if_pos (by decide), k_rf0, Option.bind_some, rE_0_3 hE2, Option.bind_some, if_pos (kE_39 hE2), r1, Option.bind_some, p1, Option.bind_some]
theorem c_setTarget {F c nx : Nat} {S : hk_S} {w : Nat → Int32} {x y : Int32} (hF : 10 ≤ F) (h : hk_B S w) (hh : hk_hs S c nx) (h0 : 500 ≤ x) (h1 : x ≤ 700) (h2 : 5 ≤ y) (h3 : y ≤ 50) : ∃ r S', mX11_setTarget hk_E0 F S 0 x y = some (r, S') ∧ hk_lf S' 1 (a_aim w x y) ∧ hk_re S S' w c nx := by
  have hL := hk_L1 hE2
  obtain ⟨S1, r1, r2, r3⟩ := q_rem hF h hh
  obtain ⟨S2, p1, p2, p3⟩ := cX_aimAt (E := hk_E0) (F := F) (x := x) (y := y) r2
  refine ⟨?r, _, ?g, p2, q_ch r3 p3⟩
  case g =>
    unfold mX11_setTarget
    rw [k_rq h0 h1, Option.bind_some, k_rq h2 h3, Option.bind_some, rE_0_3 hE2, Option.bind_some, if_pos (kE_39 hE2), rE_0_0 hE2, Option.bind_some, if_pos hL.1, r1, Option.bind_some, p1, Option.bind_some, cX_set hF hL p2.2.1 p2.2.2.1 (a_ok_aim h.2 h0 h1 h2 h3), Option.bind_some, pJ6, Option.bind_some]
theorem c_turnLeaf {F c nx t : Nat} {S : hk_S} {w : Nat → Int32} (hF : 10 ≤ F) (h : hk_B S w) (hh : hk_hs S c nx) (ht : t < 8) (hn : nI t < w 9) (he : ¬ a_t w t 3 = 0) : ∃ r S', mX11_turnLeaf hk_E0 F S 0 (nI t) = some (r, S') ∧ hk_lf S' 1 (a_turn w t) ∧ hk_re S S' w c nx := by
  have hL := hk_L1 hE2
  obtain ⟨S1, r1, r2, r3⟩ := q_rem hF h hh
  obtain ⟨S2, p1, p2, p3⟩ := cX_turn (E := hk_E0) (F := F) r2 ht
  refine ⟨?r, _, ?g, p2, q_ch r3 p3⟩
  case g =>
    have htr := h.1.2.2.1 t ht
    unfold mX11_turnLeaf
    rw [q_exT h ht hn, Option.bind_some]
    dsimp only
    rw [if_pos (hk_L_t hL ht), pX10_hasLeaf htr (k_leaf0 h.2 ht), Option.bind_some]
    dsimp only
    rw [if_neg he, if_pos (by decide), k_rf0, Option.bind_some, rE_0_3 hE2, Option.bind_some, if_pos (kE_39 hE2), rE_0_0 hE2, Option.bind_some, if_pos hL.1, r1, Option.bind_some, p1, Option.bind_some]
theorem c_discard {F c nx t : Nat} {S : hk_S} {w : Nat → Int32} (hF : 10 ≤ F) (h : hk_B S w) (hh : hk_hs S c nx) (ht : t < 8) (hn : nI t < w 9) (he : ¬ a_t w t 3 = 0) : ∃ r S', mX11_discard hk_E0 F S 0 (nI t) = some (r, S') ∧ hk_lf S' 1 (a_out w t 13) ∧ hk_re S S' w c nx := by
  have hL := hk_L1 hE2
  obtain ⟨S1, r1, r2, r3⟩ := q_rem hF h hh
  obtain ⟨S2, p1, p2, p3⟩ := cX_discardLeaf (E := hk_E0) (F := F) r2 ht
  refine ⟨?r, _, ?g, p2, q_ch r3 p3⟩
  case g =>
    have htr := h.1.2.2.1 t ht
    unfold mX11_discard
    rw [q_exT h ht hn, Option.bind_some]
    dsimp only
    rw [if_pos (hk_L_t hL ht), pX10_hasLeaf htr (k_leaf0 h.2 ht), Option.bind_some]
    dsimp only
    rw [if_neg he, if_pos (by decide), k_rf0, Option.bind_some, rE_0_3 hE2, Option.bind_some, if_pos (kE_39 hE2), rE_0_0 hE2, Option.bind_some, if_pos hL.1, r1, Option.bind_some, p1, Option.bind_some]
theorem c_discharge {F c nx t : Nat} {S : hk_S} {w : Nat → Int32} (hF : 10 ≤ F) (h : hk_B S w) (hh : hk_hs S c nx) (ht : t < 8) (hn : nI t < w 9) (he : t_why w (a_t w t) = 0) : ∃ r S', mX11_discharge hk_E0 F S 0 (nI t) = some (r, S') ∧ hk_lf S' 1 (a_send w t) ∧ hk_re S S' w c nx := by
  have hL := hk_L1 hE2
  obtain ⟨S1, r1, r2, r3⟩ := q_rem hF h hh
  obtain ⟨S2, p1, p2, p3⟩ := cX_dischargeLeaf (E := hk_E0) (F := F) r2 ht
  refine ⟨?r, _, ?g, p2, q_ch r3 p3⟩
  case g =>
    unfold mX11_discharge
    rw [q_exT h ht hn, Option.bind_some]
    dsimp only
    rw [if_pos (hk_L_t hL ht), rE_0_0 hE2, Option.bind_some, if_pos hL.1, pX5_refusalOf h.1.2.1 (h.1.2.2.1 t ht) (k_leaf0 h.2 ht), Option.bind_some]
    dsimp only
    rw [if_pos he, k_rf0, Option.bind_some, rE_0_3 hE2, Option.bind_some, if_pos (kE_39 hE2), r1, Option.bind_some, p1, Option.bind_some]
theorem c_addProbe {F c nx t q : Nat} {S : hk_S} {w : Nat → Int32} {y z : Int32} (hF : 10 ≤ F) (h : hk_B S w) (hh : hk_hs S c nx) (ht : t < 8) (hn : nI t < w 9) (hq : w 10 = nI q) (hq6 : q < 6) (h0 : 0 ≤ y) (h1 : y ≤ 1) (h2 : -50 ≤ z) (h3 : z ≤ 50) : ∃ r S', mX11_addProbe hk_E0 F S 0 (nI t) y z = some (r, S') ∧ hk_lf S' 1 (a_put w q (nI t) y z) ∧ hk_re S S' w c nx := by
  have hL := hk_L1 hE2
  obtain ⟨S1, r1, r2, r3⟩ := q_rem hF h hh
  obtain ⟨S2, p1, p2, p3⟩ := cX_placeProbe (F := F) (x := nI t) (y := y) (z := z) hL r2 hq hq6
  refine ⟨?r, _, ?g, p2, q_ch r3 p3⟩
  case g =>
    have e10 : S 1 4 = nI q := h.1.2.1.2.1.trans hq
    unfold mX11_addProbe mX5_hasRoomForProbe
    rw [q_exT h ht hn, Option.bind_some]
    dsimp only
    rw [if_pos (hk_L_t hL ht), k_rq h0 h1, Option.bind_some, k_rq h2 h3, Option.bind_some, rE_0_0 hE2, Option.bind_some, if_pos hL.1, e10, if_neg (show ¬ (6 : Int32) ≤ nI q from nI_ge (a := q) (b := 6) (by omega) (by omega)), Option.bind_some]
    dsimp only
    rw [if_pos (by decide), k_rf0, Option.bind_some, rE_0_3 hE2, Option.bind_some, if_pos (kE_39 hE2), r1, Option.bind_some, p1, Option.bind_some]
theorem c_moveProbe {F c nx t q : Nat} {S : hk_S} {w : Nat → Int32} {y : Int32} (hF : 10 ≤ F) (h : hk_B S w) (hh : hk_hs S c nx) (hq6 : q < 6) (hq : nI q < w 10) (ht : t < 8) (hn : nI t < w 9) (h0 : 0 ≤ y) (h1 : y ≤ 1) : ∃ r S', mX11_moveProbe hk_E0 F S 0 (nI q) (nI t) y = some (r, S') ∧ hk_lf S' 1 (a_move w q (nI t) y) ∧ hk_re S S' w c nx := by
  have hL := hk_L1 hE2
  obtain ⟨S1, r1, r2, r3⟩ := q_rem hF h hh
  refine ⟨?r, _, ?g, cX_move r2 hq6 (x := nI t) (y := y), q_ch r3 (hk_fr_up (hk_fr_up (hk_fr_refl _ _) (by omega) (by omega) _ _) (by omega) (by omega) _ _)⟩
  case g =>
    unfold mX11_moveProbe
    rw [q_exP h hq6 hq, Option.bind_some]
    dsimp only
    rw [if_pos (hk_L_p hL hq6), q_exT h ht hn, Option.bind_some]
    dsimp only
    rw [if_pos (hk_L_t hL ht), k_rq h0 h1, Option.bind_some, rE_0_3 hE2, Option.bind_some, if_pos (kE_39 hE2), rE_0_0 hE2, Option.bind_some, if_pos hL.1, r1, Option.bind_some]
    rfl
theorem c_calibrate {F c nx q : Nat} {S : hk_S} {w : Nat → Int32} (hF : 10 ≤ F) (h : hk_B S w) (hh : hk_hs S c nx) (hq6 : q < 6) (hq : nI q < w 10) : ∃ r S', mX11_calibrate hk_E0 F S 0 (nI q) = some (r, S') ∧ hk_lf S' 1 (a_cal w q) ∧ hk_re S S' w c nx := by
  have hL := hk_L1 hE2
  obtain ⟨S1, r1, r2, r3⟩ := q_rem hF h hh
  refine ⟨?r, _, ?g, cX_cal r2 hq6, q_ch r3 (hk_fr_up (hk_fr_refl _ _) (by omega) (by omega) _ _)⟩
  case g =>
    unfold mX11_calibrate
    rw [q_exP h hq6 hq, Option.bind_some]
    dsimp only
    rw [if_pos (hk_L_p hL hq6), rE_0_3 hE2, Option.bind_some, if_pos (kE_39 hE2), rE_0_0 hE2, Option.bind_some, if_pos hL.1, r1, Option.bind_some]
    rfl
theorem c_passHours {F c nx d : Nat} {S : hk_S} {w : Nat → Int32} (hF : 2000 ≤ F) (h : hk_B S w) (hh : hk_hs S c nx) (h0 : 1 ≤ d) (h1 : d ≤ 200) (h2 : nI d ≤ 2000 - w 0) : ∃ S', mX11_passHours hk_E0 F S 0 (nI d) = some ((a_pass d w) 0, S') ∧ hk_lf S' 1 (a_pass d w) ∧ hk_re S S' w c nx := by
  have hL := hk_L1 hE2
  obtain ⟨S1, r1, r2, r3⟩ := q_rem (F := F) (by omega) h hh
  have h3 : w 0 ≤ 2000 - nI d := by
    have q1 := h.2.1.1
    have q2 : nI d ≤ 200 := (nI_leI (b := 200) (by omega) (by omega)).mpr (by omega)
    have q3 : 0 ≤ nI d := nI_pos' (by omega)
    generalize nI d = y at *
    generalize w 0 = x at *
    grind
  obtain ⟨S2, p1, p2, p3⟩ := pX5_pass (F := F) (d := d) hL (by omega) (by omega) r2 h.2 h3
  refine ⟨S2, ?_, p2, q_ch r3 p3⟩
  unfold mX11_passHours mX1_hasHoursLeft
  rw [k_rq (show (1 : Int32) ≤ nI d from (nI_leI (a := 1) (by omega) (by omega)).mpr h0) (show nI d ≤ (200 : Int32) from (nI_leI (b := 200) (by omega) (by omega)).mpr h1), Option.bind_some, rE_0_0 hE2, Option.bind_some, if_pos hL.1, hL.2.2.2.2.2.2.2.1, Option.bind_some, if_pos hL.2.1, h.1.1.1, if_neg ((show ∀ y z : Int32, y ≤ z → ¬ z < y from by intro y z; grind) _ _ h2), Option.bind_some]
  dsimp only
  rw [if_pos (by decide), k_rf0, Option.bind_some, rE_0_3 hE2, Option.bind_some, if_pos (kE_39 hE2), r1, Option.bind_some, p1, Option.bind_some, p2.1.1]
/-- undone: what the ring keeps stands again -/
theorem c_undo {F c nx : Nat} {S : hk_S} {W w : Nat → Int32} (hF : 10 ≤ F) (hh : hk_hs S (c + 1) nx) (hr : hk_lf S (hk_ring (nx + 7)) w) (hW : hk_lf S 1 W) : ∃ S', mX11_undo hk_E0 F S 0 = some (nI c, S') ∧ hk_lf S' 1 w ∧ hk_hs S' c ((nx + 7) % 8) ∧ ∀ a, (a = 0 ∨ (20 ≤ a ∧ a < 39)) → S' a = S a := by
  have hL := hk_L1 hE2
  obtain ⟨h1, h2, h5, h3⟩ := hh
  have hne : ¬ nI (c + 1) = 0 := nI_ne0 (by omega) (by omega)
  have h81 : (nx + 7) % 8 < 8 := Nat.mod_lt _ (by omega)
  have hrl := hk_ring_lt (nx + 7)
  have hrr : hk_ring ((nx + 7) % 8) = hk_ring (nx + 7) := hk_ring_eq (by omega)
  have hring : hk_lf (hk_up S 39 1 (nI ((nx + 7) % 8))) (hk_ring (nx + 7)) w := hk_lf_ext hr (fun a ha hb => hk_upne _ _ _ (by omega))
  obtain ⟨S1, p1, p2, p3⟩ := cX_become (F := F) (S := hk_up S 39 1 (nI ((nx + 7) % 8))) (by omega) (hk_ringL hE2 (nx + 7)) hL (by omega) hring.2.2.1
  have hlf1 : hk_lf S1 1 w := hk_lf_cp hring p2
  have e39 : S1 39 = (hk_up S 39 1 (nI ((nx + 7) % 8))) 39 := p3 39 (by omega)
  have e392 : S1 39 2 = nI (c + 1) := by rw [e39, hk_up_eq, if_neg (by decide), h3]
  refine ⟨hk_up S1 39 2 (nI c), ?_, hk_lf_ext hlf1 (fun a ha hb => hk_upne _ _ _ (by omega)), ⟨by omega, h81, ?_, by rw [hk_up_eq, if_pos rfl]⟩, fun a ha => ?_⟩
  · unfold mX11_undo mX3_takeBack
    rw [rE_0_3 hE2, Option.bind_some, if_pos (kE_39 hE2), h3, if_pos hne, rE_0_0 hE2, Option.bind_some, if_pos hL.1, h5, pJ9_fm1 h2, Option.bind_some]
    simp only [hk_let_eq]
    rw [rE_39_0 hE2, Option.bind_some, if_pos (kE_40 hE2), lE_40 hE2, hk_up_eq, if_pos rfl, if_pos (hk_okI h81 (by omega)), nI_clamp (by omega), hk_ringR hE2 h81, Option.bind_some, hrr, if_pos (hk_ringL hE2 (nx + 7)).1, p1, Option.bind_some, Option.bind_some, e392, nI_pred, hk_up_eq, if_pos rfl]
  · rw [hk_up_eq, if_neg (by decide), e39, hk_up_eq, if_pos rfl]
  · rw [hk_upne _ _ _ (by omega), p3 a (by omega), hk_upne _ _ _ (by omega)]
theorem c_save {F : Nat} {S : hk_S} {w : Nat → Int32} (hF : 10 ≤ F) (h : hk_lf S 1 w) : ∃ r S', mX11_saveSnapshot hk_E0 F S 0 = some (r, S') ∧ hk_lf S' 1 w ∧ hk_lf S' 20 w ∧ S' 0 2 = 1 ∧ S' 39 = S 39 := by
  have hL := hk_L1 hE2
  obtain ⟨S1, p1, p2, p3⟩ := cX_become (F := F) (S := S) (by omega) hL (hk_L20 hE2) (by omega) h.2.2.1
  have hlf : hk_lf S1 20 w := hk_lf_cp h p2
  refine ⟨?r, hk_up S1 0 2 1, ?g, hk_lf_ext h (fun a ha hb => by rw [hk_upne _ _ _ (by omega), p3 a (by omega)]), hk_lf_ext hlf (fun a ha hb => hk_upne _ _ _ (by omega)), by rw [hk_up_eq, if_pos rfl], by rw [hk_upne _ _ _ (by omega), p3 39 (by omega)]⟩
  case g =>
    unfold mX11_saveSnapshot
    rw [rE_0_1 hE2, Option.bind_some, if_pos (hk_L20 hE2).1, rE_0_0 hE2, Option.bind_some, if_pos hL.1, p1, Option.bind_some, hk_let_eq, hL.2.2.2.2.2.2.2.1, Option.bind_some, if_pos hL.2.1]
theorem c_restore {F c nx : Nat} {S : hk_S} {w : Nat → Int32} (hF : 10 ≤ F) (hh : hk_hs S c nx) (h : hk_lf S 20 w) (h0 : S 0 2 = 1) : ∃ r S', mX11_restoreSnapshot hk_E0 F S 0 = some (r, S') ∧ hk_lf S' 1 w ∧ hk_lf S' 20 w ∧ S' 0 2 = 1 ∧ hk_hs S' 0 nx := by
  have hL := hk_L1 hE2
  have hL2 := hk_L20 hE2
  obtain ⟨S1, p1, p2, p3⟩ := cX_become (F := F) (S := S) (by omega) hL2 hL (by omega) h.2.2.1
  have hlf : hk_lf S1 1 w := hk_lf_cp h p2
  refine ⟨?r, hk_up S1 39 2 0, ?g, hk_lf_ext hlf (fun a ha hb => hk_upne _ _ _ (by omega)), hk_lf_ext h (fun a ha hb => by rw [hk_upne _ _ _ (by omega), p3 a (by omega)]), by rw [hk_upne _ _ _ (by omega), p3 0 (by omega)]; exact h0, ⟨by omega, hh.2.1, by rw [hk_up_eq, if_neg (by decide), p3 39 (by omega)]; exact hh.2.2.1, by rw [hk_up_eq, if_pos rfl]; rfl⟩⟩
  case g =>
    unfold mX11_restoreSnapshot
    rw [h0, if_pos (by decide), rE_0_0 hE2, Option.bind_some, if_pos hL.1, rE_0_1 hE2, Option.bind_some, if_pos hL2.1, p1, Option.bind_some, rE_0_3 hE2, Option.bind_some, if_pos (kE_39 hE2), hk_let_eq, hL.2.2.2.2.2.2.2.1, Option.bind_some, if_pos hL.2.1]
/-- after how many hours the leaf is ready: the row alone tells -/
def a_htr (w : Nat → Int32) (t : Nat) : Int32 := if a_t w t 3 = 0 then -1 else k_fr (fun n => t_rb w (t_go w (a_t w t) 0 n)) 200 0
theorem k_fr_le (P : Nat → Bool) : ∀ d z : Nat, k_fr P d z = -1 ∨ ∃ n, z ≤ n ∧ n ≤ z + d ∧ k_fr P d z = nI n := by
  intro d
  induction d with
  | zero =>
    intro z
    rw [k_fr]
    by_cases q : P z = true
    · rw [if_pos q]; exact Or.inr ⟨z, by omega, by omega, rfl⟩
    · rw [if_neg q]; exact Or.inl rfl
  | succ d ih =>
    intro z
    rw [k_fr]
    by_cases q : P z = true
    · rw [if_pos q]; exact Or.inr ⟨z, by omega, by omega, rfl⟩
    · rw [if_neg q]
      rcases ih (z + 1) with e | ⟨n, h1, h2, e⟩
      · exact Or.inl e
      · exact Or.inr ⟨n, by omega, by omega, e⟩
theorem a_htr_le (w : Nat → Int32) (t : Nat) : a_htr w t = -1 ∨ ∃ n, n ≤ 200 ∧ a_htr w t = nI n := by
  unfold a_htr
  by_cases q : a_t w t 3 = 0
  · rw [if_pos q]; exact Or.inl rfl
  · rw [if_neg q]
    rcases k_fr_le (fun n => t_rb w (t_go w (a_t w t) 0 n)) 200 0 with e | ⟨n, h1, h2, e⟩
    · exact Or.inl e
    · exact Or.inr ⟨n, by omega, e⟩
theorem q_htr {F t : Nat} {S : hk_S} {w : Nat → Int32} (hF : 2000 ≤ F) (h : hk_B S w) (ht : t < 8) (hn : nI t < w 9) : ∃ S', mX11_hoursToReady hk_E0 F S 0 (nI t) = some (a_htr w t, S') ∧ ∀ a, a ≠ 220 → S' a = S a := by
  have hL := hk_L1 hE2
  have htr := h.1.2.2.1 t ht
  have hok := h.2.2.2.2.2.2.2.2.2.2.1 t ht
  unfold a_htr mX11_hoursToReady
  rw [q_exT h ht hn, Option.bind_some]
  dsimp only
  rw [if_pos (hk_L_t hL ht), pX10_hasLeaf htr (k_leaf0 h.2 ht), Option.bind_some]
  dsimp only
  by_cases q : a_t w t 3 = 0
  · rw [if_pos q, if_neg (by decide), if_pos q]
    exact ⟨S, rfl, fun _ _ => rfl⟩
  · rw [if_neg q, if_pos (by decide), if_neg q, rE_0_6 hE2, Option.bind_some, if_pos (kE_220 hE2)]
    obtain ⟨S1, p1, p2, p3⟩ := k_tri (F := F) ht htr
    rw [p1, Option.bind_some]
    obtain ⟨S2, s1, s2⟩ := cX_htr_25 (F := F) (t := 1 + 5 + t) (x1 := nI t) (by omega) h.2 hok 200 0 F S1 (by omega) (by omega) (k_air_ext h.1.1 (fun a ha => p3 a (by omega))) (k_num_ext h.1.2.1 (fun a ha => p3 a (by omega))) p2
    exact ⟨S2, s1, fun a ha => (s2 a ha).trans (p3 a ha)⟩
theorem hk_B220 {S S' : hk_S} {w : Nat → Int32} (h : hk_B S w) (e : ∀ a, a ≠ 220 → S' a = S a) : hk_B S' w := ⟨hk_lf_ext h.1 (fun a ha hb => e a (by omega)), h.2⟩
theorem hk_hs220 {S S' : hk_S} {c nx : Nat} (h : hk_hs S c nx) (e : ∀ a, a ≠ 220 → S' a = S a) : hk_hs S' c nx := ⟨h.1, h.2.1, by rw [e 39 (by decide)]; exact h.2.2.1, by rw [e 39 (by decide)]; exact h.2.2.2⟩
