/-! the law's run, of the pure functions -/
def w_inv (A D : Int) (S : hk_S) (w : Nat → Int32) : Prop := hk_B S w ∧ (∃ c nx, hk_hs S c nx) ∧ g_ok A w ∧ g_dm D w ∧ 1 ≤ w 9 ∧ 1 ≤ w 10
theorem g_ok_mono {A B : Int} {w : Nat → Int32} (g : g_ok A w) (h : A ≤ B) : g_ok B w := g_ok_ext g h (fun _ _ => rfl) (fun _ _ _ _ => rfl)
theorem g_dm_mono {A B : Int} {w : Nat → Int32} (g : g_dm A w) (h : A ≤ B) : g_dm B w := g_dm_ext g h (fun _ _ => rfl)
theorem k_tail {A D : Int} {F c nx : Nat} {S : hk_S} {w : Nat → Int32} (hF : 2000 ≤ F) (h : hk_B S w) (hh : hk_hs S c nx) (g : g_ok A w) (hA : A ≤ 10000) (gd : g_dm D w) (hD : D ≤ 90000) (k ck : Int32) : ∃ S', (if ¬ (k - k / 3 * 3) = 2 then (some S) else ((mL_isWeighed (hk_EE 221 220) F S 0 (1 + ((((ck : Int32).toUInt32 >>> ((5 : Int32).toUInt32 &&& Int32.toUInt32 31)).toInt32) &&& 31))).bind (fun r12 => if ¬ r12.1 = 0 then (some r12.2) else (none)))) = some S' ∧ hk_B S' w ∧ ∃ c' nx', hk_hs S' c' nx' := by
  by_cases q : (k - k / 3 * 3) = 2
  · rw [if_neg (fun z => z q)]
    obtain ⟨d, hd, ed⟩ := pk_andE (((ck : Int32).toUInt32 >>> ((5 : Int32).toUInt32 &&& Int32.toUInt32 31)).toInt32) (m := 31) 5 (by decide)
    have hd : d < 32 := hd
    have e1 : (1 : Int32) + nI d = nI (1 + d) := nI_add 1 d
    rw [ed, e1]
    obtain ⟨S', a1, a2, a3⟩ := q_isWeighed (d := 1 + d) hF h hh g hA gd hD (by omega) (by omega)
    rw [a1, Option.bind_some]
    dsimp only
    rw [if_pos (by decide)]
    exact ⟨S', rfl, a2, a3⟩
  · rw [if_pos q]
    exact ⟨S, rfl, h, c, nx, hh⟩
set_option maxHeartbeats 4000000 in
theorem k_body {A D : Int} {F : Nat} {S : hk_S} {w : Nat → Int32} (hF : 2000 ≤ F) (hA : A ≤ 9000) (hD : D ≤ 80000) (h : w_inv A D S w) (k ck : Int32) : ∃ S' W, mlaw_body F S k ck = some S' ∧ w_inv (A + 500) (D + 200) S' W := by
  obtain ⟨B, ⟨c, nx, hh⟩, g, gd, h9, h10⟩ := h
  have hF20 : 20 ≤ F := by omega
  obtain ⟨S1, d1, d2⟩ := q_deed hF B hh h9 h10 ck
  have fin : ∀ {S' : hk_S} {W : Nat → Int32}, hk_B S' W → (∃ c' nx', hk_hs S' c' nx') → w_st w W → w_inv (A + 500) (D + 200) S' W := fun b hs st => ⟨b, hs, st.2.1 A hA g, st.2.2.1 D (by omega) gd, st.2.2.2.1 h9, st.2.2.2.2 h10⟩
  have fin0 : ∀ {S' : hk_S}, hk_B S' w → (∃ c' nx', hk_hs S' c' nx') → w_inv (A + 500) (D + 200) S' w := fun b hs => ⟨b, hs, g_ok_mono g (by omega), g_dm_mono gd (by omega), h9, h10⟩
  unfold mlaw_body
  rw [q_undoCount, Option.bind_some]
  dsimp only
  rw [hh.2.2.2, q_sum hF20 B, Option.bind_some]
  dsimp only
  rw [d1, Option.bind_some, q_undoCount, Option.bind_some]
  dsimp only
  rcases d2 with ⟨B1, H1⟩ | ⟨W, B1, st, R⟩
  · rw [H1.2.2.2, if_pos (Int32.le_refl _), q_holds hF20 B1 g (by omega) gd, Option.bind_some]
    dsimp only
    rw [if_neg (show ¬ (1 : Int32) = 0 by decide)]
    obtain ⟨S2, t1, t2, t3⟩ := k_tail hF B1 H1 g (by omega) gd (by omega) k ck
    by_cases h8 : 8 ≤ nI c
    · rw [if_pos h8]
      exact ⟨S2, w, t1, fin0 t2 t3⟩
    · rw [if_neg h8, q_sum hF20 B1, Option.bind_some]
      dsimp only
      rw [lg_cmp_self, if_pos rfl]
      exact ⟨S2, w, t1, fin0 t2 t3⟩
  · have H1 := q_hs R
    have gW := st.2.1 A hA g
    have dW := st.2.2.1 D (by omega) gd
    have hc8 := hh.1
    rw [H1.2.2.2]
    obtain ⟨S2, t1, t2, t3⟩ := k_tail hF B1 H1 gW (by omega) dW (by omega) k ck
    by_cases h8 : c = 8
    · subst h8
      rw [if_pos (by decide), q_holds hF20 B1 gW (by omega) dW, Option.bind_some]
      dsimp only
      rw [if_neg (show ¬ (1 : Int32) = 0 by decide), if_pos (by decide)]
      exact ⟨S2, W, t1, fin t2 t3 st⟩
    · have hm : min (c + 1) 8 = c + 1 := by omega
      rw [hm, if_neg (nI_ge (show c < c + 1 by omega) (by omega)), q_holds hF20 B1 gW (by omega) dW, Option.bind_some]
      dsimp only
      rw [if_neg (show ¬ (1 : Int32) = 0 by decide)]
      by_cases hb : ((((ck : Int32).toUInt32 >>> ((29 : Int32).toUInt32 &&& Int32.toUInt32 31)).toInt32) &&& 3) = 1
      · rw [if_neg (fun z => z hb)]
        obtain ⟨S3, u1, u2, c3, nx3, u3⟩ := c_undo2 (F := F) (by omega) hh R B1.1 B.2
        rw [hm, Nat.add_sub_cancel] at u1
        rw [u1, Option.bind_some]
        dsimp only
        rw [if_neg (fun z => z rfl), q_sum hF20 u2, Option.bind_some]
        dsimp only
        rw [lg_cmp_self, if_pos rfl]
        obtain ⟨S4, v1, v2, v3⟩ := k_tail hF u2 u3 g (by omega) gd (by omega) k ck
        exact ⟨S4, w, v1, fin0 v2 v3⟩
      · rw [if_pos hb]
        exact ⟨S2, W, t1, fin t2 t3 st⟩
def mlaw_loop (F : Nat) (cs : Nat → Int32) : Nat → Nat → hk_S → Option hk_S
  | 0, _ => fun S => some S
  | d + 1, k => fun S => (mlaw_body F S (nI k) (cs k)).bind (fun S1 => mlaw_loop F cs d (k + 1) S1)
theorem k_loop {F : Nat} (hF : 2000 ≤ F) (cs : Nat → Int32) : ∀ (d k : Nat) (A D : Int) (S : hk_S) (w : Nat → Int32), A + 500 * d ≤ 9000 → D + 200 * d ≤ 80000 → w_inv A D S w → ∃ S' W, mlaw_loop F cs d k S = some S' ∧ w_inv (A + 500 * d) (D + 200 * d) S' W := by
  intro d
  induction d with
  | zero =>
    intro k A D S w _ _ h
    refine ⟨S, w, rfl, ?_⟩
    have e1 : A + 500 * ((0 : Nat) : Int) = A := by omega
    have e2 : D + 200 * ((0 : Nat) : Int) = D := by omega
    rw [e1, e2]
    exact h
  | succ d ih =>
    intro k A D S w hA hD h
    obtain ⟨S1, W1, e1, h1⟩ := k_body hF (by omega) (by omega) h (nI k) (cs k)
    obtain ⟨S2, W2, e2, h2⟩ := ih (k + 1) (A + 500) (D + 200) S1 W1 (by omega) (by omega) h1
    refine ⟨S2, W2, ?_, ?_⟩
    · rw [mlaw_loop]
      dsimp only
      rw [e1, Option.bind_some]
      exact e2
    · have f1 : A + 500 * ((d + 1 : Nat) : Int) = A + 500 + 500 * (d : Int) := by omega
      have f2 : D + 200 * ((d + 1 : Nat) : Int) = D + 200 + 200 * (d : Int) := by omega
      rw [f1, f2]
      exact h2
theorem k_mon {F c nx n k : Nat} {S : hk_S} {w : Nat → Int32} (hF : 2000 ≤ F) (h : hk_B S w) (hh : hk_hs S c nx) (h0 : w 0 = 3) (hn : w 5 = nI n) (hn3 : n < 3) (hk : k ≤ 83) : ∃ r S', mX11_announceMonsoon hk_E0 F S 0 (nI k) = some (r, S') ∧ hk_B S' (a_mon w n (nI k)) ∧ w_st w (a_mon w n (nI k)) ∧ (∃ c' nx', hk_hs S' c' nx') ∧ a_mon w n (nI k) 0 = 3 ∧ a_mon w n (nI k) 5 = nI (n + 1) := by
  have f0 : w 0 / 24 ≤ nI k := by
    rw [h0, show (3 : Int32) / 24 = nI 0 by decide]
    exact k_nle (by omega) (by omega)
  have f1 : nI k ≤ 83 := k_nle (b := 83) hk (by omega)
  have f2 : 0 ≤ nI k := k_pos (by omega)
  obtain ⟨r, S', e1, e2, e3⟩ := c_announceMonsoon (F := F) (by omega) h hh hn hn3 f0 f1
  have st := st_mon h.2 hn hn3 f2 f1
  refine ⟨r, S', e1, ⟨e2, st.1⟩, st, ⟨_, _, q_hs e3⟩, ?_, ?_⟩
  · unfold a_mon
    rw [upd_at, if_neg (by omega), upd_at, if_neg (by omega)]
    exact h0
  · unfold a_mon
    rw [upd_at, if_pos rfl, hn, nI_1]
theorem k_pre {A D : Int} {F : Nat} {S : hk_S} {w : Nat → Int32} (hF : 2000 ≤ F) (hA : A ≤ 2000) (hD : D ≤ 20000) (h : w_inv A D S w) (h0 : w 0 = 3) (h5 : w 5 = nI 1) (c0 c1 : Int32) : ∃ S' W, mlaw_pre F S c0 c1 = some S' ∧ w_inv (A + 1000) (D + 400) S' W := by
  obtain ⟨B, ⟨c, nx, hh⟩, g, gd, h9, h10⟩ := h
  have hF20 : 20 ≤ F := by omega
  obtain ⟨a, ha, ea⟩ := pk_andE (((c0 : Int32).toUInt32 >>> ((7 : Int32).toUInt32 &&& Int32.toUInt32 31)).toInt32) (m := 15) 4 (by decide)
  obtain ⟨b, hb, eb⟩ := pk_andE (((c1 : Int32).toUInt32 >>> ((7 : Int32).toUInt32 &&& Int32.toUInt32 31)).toInt32) (m := 63) 6 (by decide)
  have ha : a < 16 := ha
  have hb : b < 64 := hb
  unfold mlaw_pre
  simp only [hk_let_eq, ea, eb]
  by_cases q0 : (c0 &&& 64) = 0
  · rw [if_pos q0]
    by_cases q1 : (c1 &&& 64) = 0
    · rw [if_pos q1, q_holds hF20 B g (by omega) gd, Option.bind_some]
      dsimp only
      rw [if_pos (show ¬ (1 : Int32) = 0 by decide)]
      exact ⟨S, w, rfl, B, ⟨c, nx, hh⟩, g_ok_mono g (by omega), g_dm_mono gd (by omega), h9, h10⟩
    · rw [if_neg q1]
      obtain ⟨r, S1, e1, B1, st, H1, -, -⟩ := k_mon hF B hh h0 h5 (by omega) (show b ≤ 83 by omega)
      have g1 := st.2.1 A (by omega) g
      have d1 := st.2.2.1 D (by omega) gd
      rw [e1, Option.bind_some]
      dsimp only
      rw [q_holds hF20 B1 g1 (by omega) d1, Option.bind_some]
      dsimp only
      rw [if_pos (show ¬ (1 : Int32) = 0 by decide)]
      exact ⟨S1, _, rfl, B1, H1, g_ok_mono g1 (by omega), g_dm_mono d1 (by omega), st.2.2.2.1 h9, st.2.2.2.2 h10⟩
  · rw [if_neg q0]
    obtain ⟨r, S1, e1, B1, st, ⟨c1', nx1, H1⟩, z0, z5⟩ := k_mon hF B hh h0 h5 (by omega) (show a ≤ 83 by omega)
    have g1 := st.2.1 A (by omega) g
    have d1 := st.2.2.1 D (by omega) gd
    have i9 := st.2.2.2.1 h9
    have i10 := st.2.2.2.2 h10
    rw [e1, Option.bind_some]
    dsimp only
    by_cases q1 : (c1 &&& 64) = 0
    · rw [if_pos q1, q_holds hF20 B1 g1 (by omega) d1, Option.bind_some]
      dsimp only
      rw [if_pos (show ¬ (1 : Int32) = 0 by decide)]
      exact ⟨S1, _, rfl, B1, ⟨c1', nx1, H1⟩, g_ok_mono g1 (by omega), g_dm_mono d1 (by omega), i9, i10⟩
    · rw [if_neg q1]
      obtain ⟨r2, S2, e2, B2, st2, H2, -, -⟩ := k_mon hF B1 H1 z0 z5 (by omega) (show b ≤ 83 by omega)
      have g2 := st2.2.1 (A + 500) (by omega) g1
      have d2 := st2.2.2.1 (D + 200) (by omega) d1
      rw [e2, Option.bind_some]
      dsimp only
      rw [q_holds hF20 B2 g2 (by omega) d2, Option.bind_some]
      dsimp only
      rw [if_pos (show ¬ (1 : Int32) = 0 by decide)]
      exact ⟨S2, _, rfl, B2, H2, g_ok_mono g2 (by omega), g_dm_mono d2 (by omega), st2.2.2.2.1 i9, st2.2.2.2.2 i10⟩
theorem k_end {A D : Int} {F : Nat} {S : hk_S} {w : Nat → Int32} (hF : 2000 ≤ F) (h : w_inv A D S w) (c0 c1 : Int32) : ∃ S', mlaw_end F S c0 c1 = some S' := by
  obtain ⟨B, ⟨c, nx, hh⟩, -⟩ := h
  obtain ⟨a, ha, ea⟩ := pk_andE (((c0 : Int32).toUInt32 >>> ((4 : Int32).toUInt32 &&& Int32.toUInt32 31)).toInt32) (m := 31) 5 (by decide)
  obtain ⟨b, hb, eb⟩ := pk_andE (((c1 : Int32).toUInt32 >>> ((4 : Int32).toUInt32 &&& Int32.toUInt32 31)).toInt32) (m := 63) 6 (by decide)
  have ha : a < 32 := ha
  have hb : b < 64 := hb
  unfold mlaw_end
  rw [ea, eb, show (1 : Int32) + nI a = nI (1 + a) from nI_add 1 a, show (1 : Int32) + nI b = nI (1 + b) from nI_add 1 b]
  obtain ⟨S', e⟩ := q_isSame (a := 1 + a) (b := 1 + b) hF B hh (by omega) (by omega) (by omega) (by omega)
  rw [e, Option.bind_some]
  dsimp only
  rw [if_pos rfl]
  exact ⟨S', rfl⟩
/-! the first state -/
theorem g_first : g_ok 0 a_first := by
  unfold g_ok t_g
  decide +kernel
theorem gd_first : g_dm 0 a_first := by
  unfold g_dm
  decide +kernel
theorem k_st {A D : Int} {w W : Nat → Int32} (h : g_ok A w ∧ g_dm D w) (hA : A ≤ 9000) (hD : D ≤ 90000) (st : w_st w W) : g_ok (A + 500) W ∧ g_dm (D + 200) W := ⟨st.2.1 A hA h.1, st.2.2.1 D hD h.2⟩
theorem u_11 : u_w13 11 = 250 ∧ u_w13 10 = 2 := by
  have e : ∀ (d : Nat) (w : Nat → Int32), (a_pass d w) 11 = w 11 ∧ (a_pass d w) 10 = w 10 := by
    intro d
    induction d with
    | zero => intro w; exact ⟨rfl, rfl⟩
    | succ d ih =>
      intro w
      have e : ∀ i, i = 10 ∨ i = 11 → a_hour w i = w i := fun i hi => by
        unfold a_hour
        rw [k_tick_lo _ (by omega) (by omega), a_airsN_lo _ _ _ (by omega) (by omega)]
      exact ⟨(ih (a_hour w)).1.trans (e 11 (Or.inr rfl)), (ih (a_hour w)).2.trans (e 10 (Or.inl rfl))⟩
  have r : ∀ (w : Nat → Int32) (i : Nat), i < 17 → a_rev w 0 i = w i := fun w i hi => st_lo _ _ _ hi
  constructor
  · show (a_pass 1 (a_rev (a_pass 2 u_w10) 0)) 11 = 250
    rw [(e 1 _).1, r _ _ (by omega), (e 2 _).1]
    decide +kernel
  · show (a_pass 1 (a_rev (a_pass 2 u_w10) 0)) 10 = 2
    rw [(e 1 _).2, r _ _ (by omega), (e 2 _).2]
    decide +kernel
theorem u_5 : u_w13 5 = nI 1 := by
  have e : ∀ (d : Nat) (w : Nat → Int32), (a_pass d w) 5 = w 5 := by
    intro d
    induction d with
    | zero => intro w; rfl
    | succ d ih =>
      intro w
      have e : a_hour w 5 = w 5 := by
        unfold a_hour
        rw [k_tick_lo _ (by omega) (by omega), a_airsN_lo _ _ _ (by omega) (by omega)]
      exact (ih (a_hour w)).trans e
  show (a_pass 1 (a_rev (a_pass 2 u_w10) 0)) 5 = nI 1
  rw [e 1 _, show a_rev (a_pass 2 u_w10) 0 5 = (a_pass 2 u_w10) 5 from st_lo _ _ _ (by omega), e 2 _]
  decide +kernel
theorem u_g13 : g_ok 250 u_w13 ∧ g_dm 2600 u_w13 := by
  have s1 := k_st ⟨g_first, gd_first⟩ (by omega) (by omega) (st_build (n := 0) (c := 100) a_first_ok (by decide) (by decide) (by decide) (by decide))
  have s2 := k_st s1 (by omega) (by omega) (st_build (n := 1) (c := 200) u_ok1 (by decide +kernel) (by decide) (by decide) (by decide))
  have s3 := k_st s2 (by omega) (by omega) (st_build (n := 2) (c := 50) u_ok2 (by decide +kernel) (by decide) (by decide) (by decide))
  have s4 := k_st s3 (by omega) (by omega) (st_load (t := 0) (kg := 50) (m := 760) u_ok3 (by decide) (by decide +kernel) (by decide) (by decide +kernel) (by decide) (by decide) (by decide +kernel))
  have s5 := k_st s4 (by omega) (by omega) (st_load (t := 1) (kg := 200) (m := 780) u_ok4 (by decide) (by decide +kernel) (by decide) (by decide +kernel) (by decide) (by decide) (by decide +kernel))
  have s6 := k_st s5 (by omega) (by omega) (st_fan (t := 0) (x := 3) u_ok5 (by decide) (by decide +kernel) (by decide) (by decide))
  have s7 := k_st s6 (by omega) (by omega) (st_fan (t := 1) (x := 4) u_ok6 (by decide) (by decide +kernel) (by decide) (by decide))
  have s8 := k_st s7 (by omega) (by omega) (st_mon (n := 0) (x := 1) u_ok7 (by decide +kernel) (by decide) (by decide) (by decide))
  have s9 := k_st s8 (by omega) (by omega) (st_put (q := 0) (x := 0) (y := 1) (z := 10) u_ok8 (by decide +kernel) (by decide) (by decide +kernel) (Or.inr rfl) (by decide))
  have s10 := k_st s9 (by omega) (by omega) (st_put (q := 1) (x := 1) (y := 0) (z := -5) u_ok9 (by decide +kernel) (by decide) (by decide +kernel) (Or.inl rfl) (by decide))
  have s11 := k_st s10 (by omega) (by omega) (st_pass (d := 2) u_ok10 (by decide) (by decide +kernel))
  have s12 := k_st s11 (by omega) (by omega) (st_rev (t := 0) u_p11.1 (by decide) (by rw [u_f11]; decide))
  have s13 := k_st s12 (by omega) (by omega) (st_pass (d := 1) u_ok12 (by decide) (by rw [u_h12]; decide))
  refine ⟨?_, g_dm_mono s13.2 (by omega)⟩
  have g : g_ok 6500 u_w13 := g_ok_mono s13.1 (by omega)
  obtain ⟨⟨a0, a1⟩, g2⟩ := g
  refine ⟨⟨a0, ?_⟩, g2⟩
  rw [u_11.1]
  decide
theorem k_first {F : Nat} (hF : 2000 ≤ F) : ∃ o1, mlaw_start F (fun _ _ => 0) = some o1 ∧ w_inv 250 2600 o1 u_w13 := by
  unfold mlaw_start
  obtain ⟨S1, a1, a2, a3, a4, a5, a6, a7, -⟩ := s_init_0 (F := F) (va_up (fun _ _ => 0) 0 (hk_i0 8)) hF
  refine ⟨S1, by rw [hk_let_eq, a1, Option.bind_some], ⟨a2, u_p13.1⟩, ⟨0, 0, by omega, by omega, ?_, ?_⟩, u_g13.1, u_g13.2, ?_, ?_⟩
  · rw [a4]
    decide +kernel
  · rw [a4]
    decide +kernel
  · rw [u_p13.2.2, show u_w12 9 = u_w11 9 from (by unfold u_w12 a_rev; exact st_lo _ _ _ (by omega)), u_f11]
    decide
  · rw [u_11.2]
    decide
/-- the number of steps that every loop may take -/
abbrev hk_F : Nat := 100000000
theorem hk_pure (cs : Nat → Int32) : ∃ o1 o2 o3 o4, mlaw_start hk_F (fun _ _ => 0) = some o1 ∧ mlaw_pre hk_F o1 (cs 0) (cs 1) = some o2 ∧ mlaw_loop hk_F cs 12 0 o2 = some o3 ∧ mlaw_end hk_F o3 (cs 0) (cs 1) = some o4 := by
  have hF : 2000 ≤ hk_F := by decide
  obtain ⟨o1, e1, h1⟩ := k_first hF
  have h0 : u_w13 0 = 3 := by rw [u_p13.2.1, u_h12]; decide
  obtain ⟨o2, w2, e2, h2⟩ := k_pre hF (by omega) (by omega) h1 h0 u_5 (cs 0) (cs 1)
  obtain ⟨o3, w3, e3, h3⟩ := k_loop hF cs 12 0 _ _ o2 w2 (by omega) (by omega) h2
  obtain ⟨o4, e4⟩ := k_end hF h3 (cs 0) (cs 1)
  exact ⟨o1, o2, o3, o4, e1, e2, e3, e4⟩
