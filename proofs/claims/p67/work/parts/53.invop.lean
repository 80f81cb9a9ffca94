/-! what hours do to the accounts -/
theorem t_lay2 {x y : Int32} (h0 : 300 ≤ x) (h1 : x ≤ 900) (h2 : 0 ≤ y) (h3 : y ≤ 390) : a_lo (x - y) ≤ x := by
  unfold a_lo
  by_cases q : 300 ≤ x - y
  · rw [if_pos q]; grind
  · rw [if_neg q]; exact h0
theorem t_lowI {v : Nat → Int32} {d : Int32} (h : t_ok v) (hv : ¬ v 3 = 0) (h0 : 0 ≤ d) (h1 : d ≤ 130) : (300 ≤ t_low v d ∧ t_low v d ≤ v 4) ∧ (300 ≤ t_high v d ∧ t_high v d ≤ v 5) := by
  obtain ⟨l0, l1⟩ := t_loss_nn h h0 h1
  obtain ⟨m0, m1⟩ := t_half l0 l1
  obtain ⟨k2, c, ⟨s0, s1⟩, ⟨b0, b1⟩, ke, kl⟩ := h
  obtain ⟨⟨x0, x1⟩, ⟨y0, y1⟩, ⟨w0, w1⟩⟩ := kl (by generalize v 3 = z at *; grind)
  unfold t_low t_high
  by_cases hs : 0 < v 1
  · rw [if_pos hs, if_pos hs]
    by_cases hd : v 2 = 1
    · rw [if_pos hd, if_pos hd]
      exact ⟨⟨t_lo_ge _, t_lay2 x0 x1 m0 m1⟩, t_lo_ge _, t_lay2 y0 y1 l0 l1⟩
    · rw [if_neg hd, if_neg hd]
      exact ⟨⟨t_lo_ge _, t_lay2 x0 x1 l0 l1⟩, t_lo_ge _, t_lay2 y0 y1 m0 m1⟩
  · rw [if_neg hs, if_neg hs]
    exact ⟨⟨x0, Int32.le_refl _⟩, y0, Int32.le_refl _⟩
theorem t_passI {v : Nat → Int32} {d : Int32} (h : t_ok v) (h0 : 0 ≤ d) (h1 : d ≤ 130) (g : t_g v) : t_g (t_pass v d) ∧ (t_pass v d 8).toInt = (v 8).toInt - (t_water v d).toInt ∧ (0 ≤ (t_water v d).toInt ∧ (t_water v d).toInt ≤ 600000) := by
  by_cases hv : v 3 = 0
  · have e : t_water v d = 0 := by unfold t_water; rw [if_pos hv]
    rw [t_pass_none hv, e, k_i0]
    exact ⟨g, by omega, by omega, by omega⟩
  · obtain ⟨⟨a0, a1⟩, -, c⟩ := t_okI h
    have b8 := t_g_b h g
    have hp : 0 < (v 3).toInt := by
      have : (v 3).toInt ≠ 0 := fun q => hv (Int32.toInt_inj.mp (by rw [q, k_i0]))
      omega
    obtain ⟨⟨x0, x1⟩, y0, y1⟩ := c hp
    obtain ⟨⟨l0, l1⟩, m0, m1⟩ := t_lowI h hv h0 h1
    have l0 := k_leI l0
    have l1 := k_leI l1
    have m0 := k_leI m0
    have m1 := k_leI m1
    rw [k_i300] at l0 m0
    obtain ⟨g0, g1⟩ := g
    have e3 : t_pass v d 3 = v 3 := (t_pass_same v d).2.2.2
    have e4 : t_pass v d 4 = t_low v d := by simp [t_pass, hv]
    have e5 : t_pass v d 5 = t_high v d := by simp [t_pass, hv]
    have e8 : t_pass v d 8 = v 8 - t_water v d := by simp [t_pass, hv]
    have ew : (t_water v d).toInt = (v 3).toInt * ((v 4).toInt + (v 5).toInt - (t_low v d).toInt - (t_high v d).toInt) := by
      have q1 : (v 4 + v 5).toInt = (v 4).toInt + (v 5).toInt := k_toI_add (by omega) (by omega)
      have q2 : (v 4 + v 5 - t_low v d).toInt = (v 4).toInt + (v 5).toInt - (t_low v d).toInt := by
        rw [k_toI_sub (by rw [q1]; omega) (by rw [q1]; omega), q1]
      have q3 : (v 4 + v 5 - t_low v d - t_high v d).toInt = (v 4).toInt + (v 5).toInt - (t_low v d).toInt - (t_high v d).toInt := by
        rw [k_toI_sub (by rw [q2]; omega) (by rw [q2]; omega), q2]
      unfold t_water
      rw [if_neg hv, Int32.mul_comm]
      have n0 : 0 ≤ (v 3).toInt * ((v 4).toInt + (v 5).toInt - (t_low v d).toInt - (t_high v d).toInt) := Int.mul_nonneg a0 (by omega)
      have n1 : (v 3).toInt * ((v 4).toInt + (v 5).toInt - (t_low v d).toInt - (t_high v d).toInt) ≤ 500 * 1200 := Int.mul_le_mul a1 (by omega) (by omega) (by omega)
      rw [k_toI_mul (by rw [q3]; omega) (by rw [q3]; omega), q3]
    have n0 : 0 ≤ (v 3).toInt * ((v 4).toInt + (v 5).toInt - (t_low v d).toInt - (t_high v d).toInt) := Int.mul_nonneg a0 (by omega)
    have n1 : (v 3).toInt * ((v 4).toInt + (v 5).toInt - (t_low v d).toInt - (t_high v d).toInt) ≤ 500 * 1200 := Int.mul_le_mul a1 (by omega) (by omega) (by omega)
    have hr : (v 3).toInt * ((t_low v d).toInt + (t_high v d).toInt + 200) = (v 3).toInt * ((v 4).toInt + (v 5).toInt + 200) - (v 3).toInt * ((v 4).toInt + (v 5).toInt - (t_low v d).toInt - (t_high v d).toInt) := by
      rw [← Int.mul_sub]
      congr 1
      omega
    have e8I : (t_pass v d 8).toInt = (v 8).toInt - (t_water v d).toInt := by
      rw [e8, k_toI_sub (by rw [ew]; omega) (by rw [ew]; omega)]
    refine ⟨⟨?_, ?_⟩, e8I, by rw [ew]; exact n0, by rw [ew]; omega⟩
    · rw [e3, e4, e5, e8I, ew, hr]
      omega
    · rw [e3, e8I, ew]
      omega
theorem g_airs {A : Int} {w : Nat → Int32} {t : Nat} {d : Int32} (h : a_ok w) (g : g_ok A w) (hA : A ≤ 10000) (ht : t < 8) (h0 : 0 ≤ d) (h1 : d ≤ 130) : g_ok A (a_airs w t d) := by
  obtain ⟨p1, p2, p3, p4⟩ := t_passI (a_okT h ht) h0 h1 (g.2.2.2.2 t ht)
  have e : ∀ i, i ≠ 15 → i < 17 → a_airs w t d i = w i := fun i h1 h2 => a_airs_out _ _ _ h1 (by omega)
  have e3 : a_t (a_airs w t d) t 3 = a_t w t 3 := by rw [a_airs_t _ _ _ _ (by omega), if_pos rfl]; exact (t_pass_same _ _).2.2.2
  have e8 : a_t (a_airs w t d) t 8 = t_pass (a_t w t) d 8 := by rw [a_airs_t _ _ _ _ (by omega), if_pos rfl]
  have b2 := g_wtb h g
  have gg := g
  obtain ⟨⟨a0, a1⟩, ⟨a2, a3, a4, a5⟩, e1, e2, gt⟩ := gg
  have e15 : (a_airs w t d 15).toInt = (w 15).toInt + (t_water (a_t w t) d).toInt := by
    rw [a_airs_15, k_toI_add (by omega) (by omega)]
  refine g_ok_set g ht (fun t' ht' hne k hk => by rw [a_airs_t _ _ _ _ hk, if_neg hne]) (by rw [e 11 (by omega) (by omega)]; exact ⟨a0, a1⟩) (by rw [e 12 (by omega) (by omega), e 13 (by omega) (by omega), e 16 (by omega) (by omega), e15]; exact ⟨a2, a3, by omega, a5⟩) ?_ ?_ ?_
  · rw [e 11 (by omega) (by omega), e 12 (by omega) (by omega), e 13 (by omega) (by omega), e3]
  · rw [e 11 (by omega) (by omega), e 16 (by omega) (by omega), e15, e8, p2]
    omega
  · unfold t_g at p1 ⊢
    rw [a_airs_t _ _ _ _ (by omega), a_airs_t _ _ _ _ (by omega), a_airs_t _ _ _ _ (by omega), a_airs_t _ _ _ _ (by omega), if_pos rfl, if_pos rfl, if_pos rfl, if_pos rfl]
    exact p1
theorem g_airsN {A : Int} {w : Nat → Int32} {d : Int32} (h : a_ok w) (g : g_ok A w) (hA : A ≤ 10000) (h0 : 0 ≤ d) (h1 : d ≤ 130) : ∀ n, n ≤ 8 → g_ok A (a_airsN d n w) := by
  intro n
  induction n with
  | zero => intro _; exact g
  | succ n ih =>
    intro hn
    exact g_airs (a_airsN_ok h h0 h1 n (by omega)) (ih (by omega)) hA (by omega) h0 h1
/-- what hours leave -/
def k_kp (w W : Nat → Int32) : Prop := (∀ i, (i = 9 ∨ i = 10 ∨ i = 11 ∨ i = 12 ∨ i = 13 ∨ i = 16) → W i = w i) ∧ ∀ t, t < 8 → a_t W t 3 = a_t w t 3
theorem k_kp_refl (w : Nat → Int32) : k_kp w w := ⟨fun _ _ => rfl, fun _ _ => rfl⟩
theorem k_kp_trans {w W V : Nat → Int32} (h : k_kp w W) (h2 : k_kp W V) : k_kp w V := ⟨fun i hi => (h2.1 i hi).trans (h.1 i hi), fun t ht => (h2.2 t ht).trans (h.2 t ht)⟩
theorem k_tick_lo (W : Nat → Int32) {i : Nat} (h0 : i ≠ 0) (h : i < 89) : a_tick W i = W i := by
  rw [a_tick_eq]
  by_cases q : (W 0 + 1) - (W 0 + 1) / 24 * 24 = 0
  · rw [if_pos q, a_drift_lo _ h, upd_at, if_neg h0]
  · rw [if_neg q, upd_at, if_neg h0]
theorem k_tick_t (W : Nat → Int32) {t k : Nat} (ht : t < 8) (hk : k < 9) : a_t (a_tick W) t k = a_t W t k := k_tick_lo W (by omega) (by omega)
theorem k_airsN_in {d : Int32} {n t k : Nat} {w : Nat → Int32} (hb : t < n) (hk : k < 9) : a_t (a_airsN d n w) t k = t_pass (a_t w t) d k := by
  rw [a_airsN_t]
  simp [hb, hk]
theorem k_airsN_o {d : Int32} {n t k : Nat} {w : Nat → Int32} (hb : ¬ t < n) (hk : k < 9) : a_t (a_airsN d n w) t k = a_t w t k := by
  rw [a_airsN_t]
  simp [hb, hk]
theorem g_hourA {A : Int} {w : Nat → Int32} (h : a_ok w) (g : g_ok A w) (hA : A ≤ 10000) : g_ok A (a_hour w) ∧ k_kp w (a_hour w) := by
  obtain ⟨d0, d1⟩ := a_dry_ok h (w 0)
  obtain ⟨c0, c1⟩ := a_cnt h.2.2.2.2.2.2.2.1.1 h.2.2.2.2.2.2.2.1.2
  unfold a_hour
  generalize (w 9).toNatClampNeg = n at *
  generalize a_dry w (w 0) = d at *
  have h1 := g_airsN h g hA d0 d1 n c0
  refine ⟨g_ok_ext h1 (Int.le_refl _) (fun i hi => k_tick_lo _ (by omega) (by omega)) (fun t ht k hk => k_tick_t _ ht (by omega)), fun i hi => ?_, fun t ht => ?_⟩
  · rw [k_tick_lo _ (by omega) (by omega), a_airsN_lo _ _ _ (by omega) (by omega)]
  · rw [k_tick_t _ ht (by omega)]
    by_cases hb : t < n
    · rw [k_airsN_in hb (by omega)]; exact (t_pass_same _ _).2.2.2
    · rw [k_airsN_o hb (by omega)]
theorem g_hourD {D : Int} {w : Nat → Int32} (gd : g_dm D w) (hD : D ≤ 100000) : g_dm (D + 1) (a_hour w) := by
  unfold a_hour
  generalize (w 9).toNatClampNeg = n at *
  generalize a_dry w (w 0) = d at *
  intro t ht
  rw [k_tick_t _ ht (by omega)]
  have b := gd t ht
  by_cases hb : t < n
  · rw [k_airsN_in hb (by omega)]
    by_cases hv : a_t w t 3 = 0
    · rw [t_pass_none hv]; omega
    · have e7 : t_pass (a_t w t) d 7 = a_t w t 7 + (if 10 ≤ t_warm (a_t w t) then 1 else 0) := by simp [t_pass, hv]
      rw [e7]
      by_cases q : 10 ≤ t_warm (a_t w t)
      · rw [if_pos q, k_toI_add (by rw [k_i1]; omega) (by rw [k_i1]; omega), k_i1]; omega
      · rw [if_neg q, Int32.add_zero]; omega
  · rw [k_airsN_o hb (by omega)]; omega
theorem k_next {d : Nat} {w : Nat → Int32} (h : a_ok w) (hd : d + 1 ≤ 1000) (h4 : w 0 ≤ 2000 - nI (d + 1)) : a_ok (a_hour w) ∧ a_hour w 0 = w 0 + 1 ∧ a_hour w 0 ≤ 2000 - nI d := by
  have hd0 : nI d + 1 = nI (d + 1) := nI_1 d
  have q1 : 0 ≤ nI d := nI_pos' (by omega)
  have q2 : nI d < 2000 := (nI_ltI (b := 2000) (by omega) (by omega)).mpr (by omega)
  have q3 := h.1.1
  have q4 := h.1.2
  have hlt : w 0 < 2000 := by
    rw [← hd0] at h4
    clear h
    generalize w 0 = x at *
    generalize nI d = y at *
    grind
  obtain ⟨k1, k2, k3⟩ := a_hour_ok h hlt
  refine ⟨k1, k2, ?_⟩
  rw [k2]
  rw [← hd0] at h4
  clear h k1 k2 k3
  generalize w 0 = x at *
  generalize nI d = y at *
  grind
theorem g_passA {A : Int} (hA : A ≤ 10000) : ∀ (d : Nat) (w : Nat → Int32), a_ok w → g_ok A w → d ≤ 1000 → w 0 ≤ 2000 - nI d → g_ok A (a_pass d w) ∧ k_kp w (a_pass d w) := by
  intro d
  induction d with
  | zero =>
    intro w h g _ _
    exact ⟨g, k_kp_refl w⟩
  | succ d ih =>
    intro w h g hd h4
    obtain ⟨k1, k2, k3⟩ := k_next h hd h4
    obtain ⟨r1, r2⟩ := g_hourA h g hA
    obtain ⟨s1, s2⟩ := ih (a_hour w) k1 r1 (by omega) k3
    exact ⟨s1, k_kp_trans r2 s2⟩
theorem g_passD : ∀ (d : Nat) (w : Nat → Int32) (D : Int), a_ok w → g_dm D w → D + d ≤ 100000 → d ≤ 1000 → w 0 ≤ 2000 - nI d → g_dm (D + d) (a_pass d w) := by
  intro d
  induction d with
  | zero =>
    intro w D h gd hD _ _
    rw [show D + ((0 : Nat) : Int) = D by omega]
    exact gd
  | succ d ih =>
    intro w D h gd hD hd h4
    obtain ⟨k1, k2, k3⟩ := k_next h hd h4
    have := ih (a_hour w) (D + 1) k1 (g_hourD gd (by omega)) (by omega) (by omega) k3
    have e : D + ((d + 1 : Nat) : Int) = D + 1 + (d : Int) := by omega
    rw [e]
    exact this
theorem a_pass_add (m n : Nat) (w : Nat → Int32) : a_pass (m + n) w = a_pass n (a_pass m w) := by
  induction m generalizing w with
  | zero => rw [Nat.zero_add]; rfl
  | succ m ih =>
    rw [show m + 1 + n = (m + n) + 1 by omega]
    exact ih (a_hour w)
theorem a_pass_0 : ∀ (d : Nat) (w : Nat → Int32), a_ok w → d ≤ 1000 → w 0 ≤ 2000 - nI d → (a_pass d w) 0 = w 0 + nI d ∧ a_ok (a_pass d w) := by
  intro d
  induction d with
  | zero =>
    intro w h _ _
    exact ⟨(Int32.add_zero _).symm, h⟩
  | succ d ih =>
    intro w h hd h4
    have hd0 : nI d + 1 = nI (d + 1) := nI_1 d
    obtain ⟨k1, k2, k3⟩ := k_next h hd h4
    obtain ⟨s1, s2⟩ := ih (a_hour w) k1 (by omega) k3
    refine ⟨?_, s2⟩
    rw [a_pass, s1, k2, ← hd0]
    generalize w 0 = x
    generalize nI d = y
    grind
