/-! water lost is weight lost; hours in pieces do the same as at once -/
theorem l_sm_int {f : Nat → Int32} : ∀ n : Nat, n ≤ 8 → (∀ j, j < n → 0 ≤ (f j).toInt ∧ (f j).toInt ≤ 1000000) → (l_sm (fun t => (f t).toInt64) n).toInt = i_sum (fun t => (f t).toInt) n := by
  intro n
  induction n with
  | zero => intro _ _; rfl
  | succ n ih =>
    intro h8 h
    have h1 := ih (by omega) (fun j hj => h j (by omega))
    have h2 := i_sum_b (f := fun t => (f t).toInt) n (fun j hj => h j (by omega))
    have h3 := h n (by omega)
    have h4 : (n : Int) ≤ 8 := by omega
    rw [l_sm, i_sum, Int64.toInt_add, h1, Int32.toInt_toInt64]
    exact Int.bmod_eq_of_le (by omega) (by omega)
/-- the weights of the troughs that are there are the weights of all -/
theorem k_wts {A : Int} {w : Nat → Int32} (h : a_ok w) (g : g_ok A w) {n : Nat} (hn : w 9 = nI n) (hn8 : n ≤ 8) : (l_sm (fun t => (a_t w t 8).toInt64) n).toInt = i_sum (fun t => (a_t w t 8).toInt) 8 := by
  rw [l_sm_int (f := fun t => a_t w t 8) n hn8 (fun j hj => t_g_b (a_okT h (by omega)) (g.2.2.2.2 j (by omega)))]
  have e := i_sum_stop (f := fun t => (a_t w t 8).toInt) (n := n) (8 - n) (fun t h1 h2 => by rw [(a_none h hn hn8 h1 (by omega)).2.2.2]; rfl)
  rw [show n + (8 - n) = 8 by omega] at e
  exact e.symm
theorem k_weighed {A : Int} {w W : Nat → Int32} (hA : A ≤ 10000) (h : a_ok w) (g : g_ok A w) (H : a_ok W) (G : g_ok A W) (kp : k_kp w W) {n : Nat} (hn : w 9 = nI n) (hn8 : n ≤ 8) : l_sm (fun t => (a_t w t 8).toInt64) n - l_sm (fun t => (a_t W t 8).toInt64) n = ((W 15 - w 15) : Int32).toInt64 := by
  have s1 := k_wts h g hn hn8
  have s2 := k_wts H G ((kp.1 9 (by omega)).trans hn) hn8
  have b1 := g_wtb h g
  have b2 := g_wtb H G
  obtain ⟨⟨a0, a1⟩, ⟨a2, a3, a4, a5⟩, e1, e2, gt⟩ := g
  obtain ⟨⟨c0, c1⟩, ⟨c2, c3, c4, c5⟩, f1, f2, ft⟩ := G
  rw [kp.1 11 (by omega), kp.1 16 (by omega)] at f2
  rw [kp.1 16 (by omega)] at c5
  apply Int64.toInt_inj.mp
  rw [Int32.toInt_toInt64, k_toI_sub (by omega) (by omega), Int64.toInt_sub, s1, s2]
  rw [Int.bmod_eq_of_le (by omega) (by omega)]
  omega
theorem c_undo2 {F c nx : Nat} {S S1 : hk_S} {W w : Nat → Int32} (hF : 10 ≤ F) (hh : hk_hs S c nx) (R : hk_re S S1 w c nx) (hW : hk_lf S1 1 W) (hw : a_ok w) : ∃ S', mX11_undo hk_E0 F S1 0 = some (nI (min (c + 1) 8 - 1), S') ∧ hk_B S' w ∧ ∃ c' nx', hk_hs S' c' nx' := by
  have h1 := q_hs R
  obtain ⟨d, hd⟩ : ∃ d, min (c + 1) 8 = d + 1 := ⟨min (c + 1) 8 - 1, by omega⟩
  rw [hd] at h1
  have er : hk_ring ((nx + 1) % 8 + 7) = hk_ring nx := hk_ring_eq (by omega)
  obtain ⟨S', e1, e2, e3, e4⟩ := c_undo hF h1 (by rw [er]; exact R.2.2.1) hW
  rw [hd, Nat.add_sub_cancel]
  exact ⟨S', e1, ⟨e2, hw⟩, _, _, e3⟩
theorem k_leafs {w W : Nat → Int32} (kp : k_kp w W) {n : Nat} (hn8 : n ≤ 8) : W 12 + W 13 + k_sm (fun t => a_t W t 3) n = w 12 + w 13 + k_sm (fun t => a_t w t 3) n := by
  rw [kp.1 12 (by omega), kp.1 13 (by omega), k_sm_ext (f := fun t => a_t w t 3) (g := fun t => a_t W t 3) n (fun j hj => kp.2 j (by omega))]
set_option maxHeartbeats 4000000 in
theorem q_isWeighed {A D : Int} {F c nx d : Nat} {S : hk_S} {w : Nat → Int32} (hF : 2000 ≤ F) (h : hk_B S w) (hh : hk_hs S c nx) (g : g_ok A w) (hA : A ≤ 10000) (gd : g_dm D w) (hD : D ≤ 90000) (h0 : 1 ≤ d) (h1 : d ≤ 32) : ∃ S', mL_isWeighed hk_E0 F S 0 (nI d) = some (1, S') ∧ hk_B S' w ∧ ∃ c' nx', hk_hs S' c' nx' := by
  obtain ⟨n, hn8, hn⟩ := k_n9 h.2
  unfold mL_isWeighed
  rw [q_hour h, Option.bind_some]
  dsimp only
  by_cases q : w 0 + nI d ≤ 2000
  · rw [if_pos q]
    have hw0 := h.2.1
    have hd0 : 0 ≤ nI d := k_pos (by omega)
    have hd2 : nI d ≤ 200 := k_nle (b := 200) (by omega) (by omega)
    have hle := k_hr2 hw0.1 hw0.2 hd0 hd2 (by generalize w 0 + nI d = z at *; grind)
    obtain ⟨S1, p1, p2, p3⟩ := c_passHours hF h hh h0 (by omega) hle.1
    obtain ⟨G, kp⟩ := g_passA hA d w h.2 g (by omega) hle.2
    have GD := g_passD d w D h.2 gd (by omega) (by omega) hle.2
    have HW := (a_pass_0 d w h.2 (by omega) hle.2).2
    generalize a_pass d w = W at *
    have B1 : hk_B S1 W := ⟨p2, HW⟩
    have hN : W 9 = nI n := (kp.1 9 (by omega)).trans hn
    have ew := k_weighed hA h.2 g HW G kp hn hn8
    have el := k_leafs kp hn8
    obtain ⟨S2, u1, u2, u3⟩ := c_undo2 (F := F) (by omega) hh p3 p2 h.2
    rw [q_all (by omega) h hn hn8, Option.bind_some]
    dsimp only
    rw [q_lostWater h, Option.bind_some]
    dsimp only
    rw [q_leaf (by omega) h hn hn8, Option.bind_some]
    dsimp only
    rw [p1, Option.bind_some]
    dsimp only
    rw [q_all (by omega) B1 hN hn8, Option.bind_some]
    dsimp only
    rw [q_lostWater B1, Option.bind_some]
    dsimp only
    rw [ew, lg_cmp_self, if_neg (fun z => z rfl), q_leaf (by omega) B1 hN hn8, Option.bind_some]
    dsimp only
    rw [el, if_neg (fun z => z rfl), q_holds (by omega) B1 G hA GD, Option.bind_some]
    dsimp only
    rw [if_neg (by decide), u1, Option.bind_some]
    dsimp only
    rw [q_lostWater u2, Option.bind_some]
    dsimp only
    rw [if_neg (fun z => z rfl), q_all (by omega) u2 hn hn8, Option.bind_some]
    dsimp only
    rw [lg_cmp_self, if_neg (fun z => z rfl)]
    exact ⟨S2, rfl, u2, u3⟩
  · rw [if_neg q]
    exact ⟨S, rfl, h, c, nx, hh⟩
/-- the snapshot stands -/
def hk_sn (S : hk_S) (w : Nat → Int32) : Prop := hk_lf S 20 w ∧ S 0 2 = 1
theorem hk_sn_re {S S1 : hk_S} {w W : Nat → Int32} {c nx : Nat} (h : hk_sn S w) (R : hk_re S S1 W c nx) : hk_sn S1 w := ⟨hk_lf_ext h.1 (fun a h1 h2 => R.2.2.2 a (by omega)), by rw [R.2.2.2 0 (by omega)]; exact h.2⟩
theorem c_restore2 {F c nx : Nat} {S : hk_S} {w : Nat → Int32} (hF : 10 ≤ F) (hh : hk_hs S c nx) (h : hk_sn S w) (hw : a_ok w) : ∃ r S', mX11_restoreSnapshot hk_E0 F S 0 = some (r, S') ∧ hk_B S' w ∧ hk_sn S' w ∧ hk_hs S' 0 nx := by
  obtain ⟨r, S', e1, e2, e3, e4, e5⟩ := c_restore hF hh h.1 h.2
  exact ⟨r, S', e1, ⟨e2, hw⟩, ⟨e3, e4⟩, e5⟩
theorem k_hr3 {x y z : Int32} (h0 : 0 ≤ x) (h1 : x ≤ 2000) (h2 : 0 ≤ y) (h3 : y ≤ 100) (h4 : 0 ≤ z) (h5 : z ≤ 100) (h : x + y + z ≤ 2000) : (y + z ≤ 2000 - x ∧ x ≤ 2000 - (y + z)) ∧ (y ≤ 2000 - x ∧ x ≤ 2000 - y) ∧ z ≤ 2000 - (x + y) := by
  refine ⟨⟨?_, ?_⟩, ⟨?_, ?_⟩, ?_⟩ <;> grind
set_option maxHeartbeats 4000000 in
theorem q_isSame {F c nx a b : Nat} {S : hk_S} {w : Nat → Int32} (hF : 2000 ≤ F) (h : hk_B S w) (hh : hk_hs S c nx) (ha0 : 1 ≤ a) (ha : a ≤ 32) (hb0 : 1 ≤ b) (hb : b ≤ 64) : ∃ S', mL_isSame hk_E0 F S 0 (nI a) (nI b) = some (1, S') := by
  have hF10 : 10 ≤ F := by omega
  have hF20 : 20 ≤ F := by omega
  unfold mL_isSame
  rw [q_hour h, Option.bind_some]
  dsimp only
  by_cases q : w 0 + nI a + nI b ≤ 2000
  · rw [if_pos q]
    have hw0 := h.2.1
    obtain ⟨⟨t1, t2⟩, ⟨t3, t4⟩, t5⟩ := k_hr3 hw0.1 hw0.2 (k_pos (k := a) (by omega)) (k_nle (b := 100) (by omega) (by omega)) (k_pos (k := b) (by omega)) (k_nle (b := 100) (by omega) (by omega)) q
    rw [nI_add] at t1 t2 ⊢
    rw [q_sum hF20 h, Option.bind_some]
    dsimp only
    obtain ⟨r1, S1, e1, e2, e3, e4, e5⟩ := c_save hF10 h.1
    have B1 : hk_B S1 w := ⟨e2, h.2⟩
    have N1 : hk_sn S1 w := ⟨e3, e4⟩
    have H1 : hk_hs S1 c nx := ⟨hh.1, hh.2.1, by rw [e5]; exact hh.2.2.1, by rw [e5]; exact hh.2.2.2⟩
    rw [e1, Option.bind_some]
    dsimp only
    obtain ⟨S2, f1, f2, f3⟩ := c_passHours hF B1 H1 (show 1 ≤ a + b by omega) (by omega) t1
    have ok2 := (a_pass_0 (a + b) w h.2 (by omega) t2).2
    have B2 : hk_B S2 (a_pass (a + b) w) := ⟨f2, ok2⟩
    rw [f1, Option.bind_some]
    dsimp only
    rw [q_sum hF20 B2, Option.bind_some]
    dsimp only
    obtain ⟨r3, S3, g1, B3, N3, H3⟩ := c_restore2 hF10 (q_hs f3) (hk_sn_re N1 f3) h.2
    rw [g1, Option.bind_some]
    dsimp only
    obtain ⟨S4, i1, i2, i3⟩ := c_passHours hF B3 H3 ha0 (by omega) t3
    obtain ⟨o4, ok4⟩ := a_pass_0 a w h.2 (by omega) t4
    have B4 : hk_B S4 (a_pass a w) := ⟨i2, ok4⟩
    rw [i1, Option.bind_some]
    dsimp only
    obtain ⟨S5, j1, j2, j3⟩ := c_passHours hF B4 (q_hs i3) hb0 (by omega) (by rw [o4]; exact t5)
    have ep : a_pass b (a_pass a w) = a_pass (a + b) w := (a_pass_add a b w).symm
    rw [ep] at j1 j2
    have B5 : hk_B S5 (a_pass (a + b) w) := ⟨j2, ok2⟩
    rw [j1, Option.bind_some]
    dsimp only
    rw [if_neg (fun z => z rfl), q_sum hF20 B5, Option.bind_some]
    dsimp only
    rw [lg_cmp_self, if_neg (fun z => z rfl)]
    obtain ⟨r6, S6, l1, B6, -, -⟩ := c_restore2 hF10 (q_hs j3) (hk_sn_re (hk_sn_re N3 i3) j3) h.2
    rw [l1, Option.bind_some]
    dsimp only
    rw [q_sum hF20 B6, Option.bind_some]
    dsimp only
    rw [lg_cmp_self, if_neg (fun z => z rfl)]
    exact ⟨S6, rfl⟩
  · rw [if_neg q]
    exact ⟨S, rfl⟩
