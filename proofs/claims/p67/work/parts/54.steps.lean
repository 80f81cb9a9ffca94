/-! each deed keeps the accounts -/
def w_st (w W : Nat → Int32) : Prop := a_ok W ∧ (∀ A : Int, A ≤ 9000 → g_ok A w → g_ok (A + 500) W) ∧ (∀ D : Int, D ≤ 90000 → g_dm D w → g_dm (D + 200) W) ∧ (1 ≤ w 9 → 1 ≤ W 9) ∧ (1 ≤ w 10 → 1 ≤ W 10)
theorem st_in (u : Nat → Int32) (t : Nat) (v : Nat → Int32) {k : Nat} (hk : k < 9) : a_t (a_setT u t v) t k = v k := by
  rw [a_setT_t _ _ _ _ hk, if_pos rfl]
theorem st_out {w u : Nat → Int32} (eu : ∀ i, 17 ≤ i → u i = w i) (t : Nat) (v : Nat → Int32) {t' k : Nat} (hne : t' ≠ t) (hk : k < 9) : a_t (a_setT u t v) t' k = a_t w t' k := by
  rw [a_setT_t _ _ _ _ hk, if_neg hne]
  exact eu _ (by omega)
theorem st_lo (u : Nat → Int32) (t : Nat) (v : Nat → Int32) {i : Nat} (hi : i < 17) : a_setT u t v i = u i := a_setT_lo _ _ _ (by omega)
/-- nothing of the accounts changes -/
theorem st_same {w W : Nat → Int32} (h : a_ok W) (e : ∀ i, (i = 11 ∨ i = 12 ∨ i = 13 ∨ i = 15 ∨ i = 16) → W i = w i) (et : ∀ t, t < 8 → ∀ k, (k = 3 ∨ k = 4 ∨ k = 5 ∨ k = 7 ∨ k = 8) → a_t W t k = a_t w t k) (h9 : 1 ≤ w 9 → 1 ≤ W 9) (h10 : 1 ≤ w 10 → 1 ≤ W 10) : w_st w W :=
  ⟨h, fun A _ g => g_ok_ext g (by omega) e (fun t ht k hk => et t ht k (by omega)), fun D _ g => g_dm_ext g (by omega) (fun t ht => et t ht 7 (by omega)), h9, h10⟩
theorem st_fan {w : Nat → Int32} (h : a_ok w) {t : Nat} (ht : t < 8) (hn : nI t < w 9) {x : Int32} (h0 : 0 ≤ x) (h1 : x ≤ 5) : w_st w (a_fan w t x) := by
  refine st_same (a_ok_fan h ht hn h0 h1) (fun i hi => st_lo _ _ _ (by omega)) (fun t' ht' k hk => ?_) (fun q => by unfold a_fan; rw [st_lo _ _ _ (by omega)]; exact q) (fun q => by unfold a_fan; rw [st_lo _ _ _ (by omega)]; exact q)
  unfold a_fan
  by_cases q : t' = t
  · subst q
    rw [st_in _ _ _ (by omega), upd_at, if_neg (by omega)]
  · exact st_out (fun _ _ => rfl) _ _ q (by omega)
theorem st_rev {w : Nat → Int32} (h : a_ok w) {t : Nat} (ht : t < 8) (hn : nI t < w 9) : w_st w (a_rev w t) := by
  refine st_same (a_ok_rev h ht hn) (fun i hi => st_lo _ _ _ (by omega)) (fun t' ht' k hk => ?_) (fun q => by unfold a_rev; rw [st_lo _ _ _ (by omega)]; exact q) (fun q => by unfold a_rev; rw [st_lo _ _ _ (by omega)]; exact q)
  unfold a_rev
  by_cases q : t' = t
  · subst q
    rw [st_in _ _ _ (by omega), upd_at, if_neg (by omega)]
  · exact st_out (fun _ _ => rfl) _ _ q (by omega)
theorem st_lowers {w W : Nat → Int32} (h : a_ok W) (e : ∀ j, 5 < j → W j = w j) : w_st w W :=
  st_same h (fun i hi => e i (by omega)) (fun t ht k hk => e _ (by omega)) (fun q => by rw [e 9 (by omega)]; exact q) (fun q => by rw [e 10 (by omega)]; exact q)
theorem st_heat {w : Nat → Int32} (h : a_ok w) {x : Int32} (h0 : 0 ≤ x) (h1 : x ≤ 5) : w_st w (upd w 1 x) := st_lowers (a_ok_heat h h0 h1) (fun j hj => by rw [upd_at, if_neg (by omega)])
theorem st_humid {w : Nat → Int32} (h : a_ok w) {x : Int32} (h0 : 20 ≤ x) (h1 : x ≤ 95) : w_st w (upd w 2 x) := st_lowers (a_ok_humid h h0 h1) (fun j hj => by rw [upd_at, if_neg (by omega)])
theorem st_aim {w : Nat → Int32} (h : a_ok w) {x y : Int32} (h0 : 500 ≤ x) (h1 : x ≤ 700) (h2 : 5 ≤ y) (h3 : y ≤ 50) : w_st w (a_aim w x y) := st_lowers (a_ok_aim h h0 h1 h2 h3) (fun j hj => by unfold a_aim; rw [upd_at, if_neg (by omega), upd_at, if_neg (by omega)])
theorem st_mon {w : Nat → Int32} (h : a_ok w) {n : Nat} (hn : w 5 = nI n) (hn3 : n < 3) {x : Int32} (h0 : 0 ≤ x) (h1 : x ≤ 83) : w_st w (a_mon w n x) := by
  have e : ∀ j, 8 < j → a_mon w n x j = w j := fun j hj => by unfold a_mon; rw [upd_at, if_neg (by omega), upd_at, if_neg (by omega)]
  exact st_same (a_ok_mon h hn hn3 h0 h1) (fun i hi => e i (by omega)) (fun t ht k hk => e _ (by omega)) (fun q => by rw [e 9 (by omega)]; exact q) (fun q => by rw [e 10 (by omega)]; exact q)
theorem st_put {w : Nat → Int32} (h : a_ok w) {q : Nat} (hn : w 10 = nI q) (hq : q < 6) {x y z : Int32} (h0 : 0 ≤ x ∧ x < w 9) (h1 : y = 0 ∨ y = 1) (h2 : -50 ≤ z ∧ z ≤ 50) : w_st w (a_put w q x y z) := by
  refine st_same (a_ok_put h hn hq h0 h1 h2) (fun i hi => a_put_lo _ _ _ _ _ (by omega) (by omega)) (fun t ht k hk => a_put_lo _ _ _ _ _ (by omega) (by omega)) (fun p => by rw [a_put_lo _ _ _ _ _ (by omega) (by omega)]; exact p) (fun _ => ?_)
  rw [a_put_10, hn, nI_1]
  exact (nI_leI (a := 1) (by omega) (by omega)).mpr (by omega)
theorem st_move {w : Nat → Int32} (h : a_ok w) {q : Nat} (hq : q < 6) {x y : Int32} (h0 : 0 ≤ x ∧ x < w 9) (h1 : y = 0 ∨ y = 1) : w_st w (a_move w q x y) :=
  st_same (a_ok_move h hq h0 h1) (fun i hi => a_move_lo _ _ _ _ (by omega)) (fun t ht k hk => a_move_lo _ _ _ _ (by omega)) (fun p => by rw [a_move_lo _ _ _ _ (by omega)]; exact p) (fun p => by rw [a_move_lo _ _ _ _ (by omega)]; exact p)
theorem st_cal {w : Nat → Int32} (h : a_ok w) {q : Nat} (hq : q < 6) : w_st w (a_cal w q) :=
  st_same (a_ok_cal h hq) (fun i hi => a_cal_lo _ _ (by omega)) (fun t ht k hk => a_cal_lo _ _ (by omega)) (fun p => by rw [a_cal_lo _ _ (by omega)]; exact p) (fun p => by rw [a_cal_lo _ _ (by omega)]; exact p)
theorem st_load {w : Nat → Int32} (h : a_ok w) {t : Nat} (ht : t < 8) (hn : nI t < w 9) {kg m : Int32} (h0 : 1 ≤ kg) (h1 : kg ≤ a_t w t 0) (h2 : 600 ≤ m) (h3 : m ≤ 900) (he : a_t w t 3 = 0) : w_st w (a_load w t kg m) := by
  have e : ∀ i, i < 17 → a_load w t kg m i = if i = 11 then w 11 + kg else w i := fun i hi => by unfold a_load; rw [st_lo _ _ _ hi, upd_at]
  have eu : ∀ i, 17 ≤ i → upd w 11 (w 11 + kg) i = w i := fun i hi => by rw [upd_at, if_neg (by omega)]
  have eo : ∀ t', t' < 8 → t' ≠ t → ∀ k, k < 9 → a_t (a_load w t kg m) t' k = a_t w t' k := fun t' _ hne k hk => st_out eu _ _ hne hk
  have ei : ∀ k, k < 9 → a_t (a_load w t kg m) t k = t_load (a_t w t) kg m k := fun k hk => st_in _ _ _ hk
  obtain ⟨-, z, -⟩ := t_okI (a_okT h ht)
  obtain ⟨z4, z5, z7, z8⟩ := z (by rw [he, k_i0])
  have c := (a_okT h ht).2.1.2
  have i0 := k_leI h0
  have i1 := k_leI h1
  have i2 := k_leI h2
  have i3 := k_leI h3
  have i4 := k_leI c
  rw [k_i1] at i0
  rw [k_i900] at i3
  rw [k_i500] at i4
  have i600 : (600 : Int32).toInt = 600 := by decide
  rw [i600] at i2
  have f3 : t_load (a_t w t) kg m 3 = kg := rfl
  have f4 : t_load (a_t w t) kg m 4 = m := rfl
  have f5 : t_load (a_t w t) kg m 5 = m := rfl
  have f7 : t_load (a_t w t) kg m 7 = 0 := rfl
  have f8 : t_load (a_t w t) kg m 8 = 2000 * kg := rfl
  have f8I : (2000 * kg).toInt = 2000 * kg.toInt := by rw [k_toI_mul (by rw [k_i2000]; omega) (by rw [k_i2000]; omega), k_i2000]
  refine ⟨a_ok_load h ht hn h0 h1 h2 h3, fun A hA g => ?_, fun D hD g => g_dm_set g (t := t) (by omega) (fun t' h' hne => eo t' h' hne 7 (by omega)) (by rw [ei 7 (by omega), f7, k_i0]; have := (g t ht); omega), fun q => by rw [e 9 (by omega), if_neg (by omega)]; exact q, fun q => by rw [e 10 (by omega), if_neg (by omega)]; exact q⟩
  have gg := g
  obtain ⟨⟨a0, a1⟩, ⟨a2, a3, a4, a5⟩, e1, e2, gt⟩ := gg
  have e11 : (w 11 + kg).toInt = (w 11).toInt + kg.toInt := k_toI_add (by omega) (by omega)
  have he0 : (a_t w t 3).toInt = 0 := by rw [he, k_i0]
  refine g_ok_set g ht eo (by rw [e 11 (by omega), if_pos rfl, e11]; omega) (by rw [e 12 (by omega), e 13 (by omega), e 15 (by omega), e 16 (by omega)]; exact ⟨a2, a3, a4, a5⟩) ?_ ?_ ?_
  · rw [e 11 (by omega), e 12 (by omega), e 13 (by omega), if_pos rfl, if_neg (by omega), if_neg (by omega), e11, ei 3 (by omega), f3, he0]
    omega
  · rw [e 11 (by omega), e 15 (by omega), e 16 (by omega), if_pos rfl, if_neg (by omega), if_neg (by omega), e11, ei 8 (by omega), f8, f8I, z8]
    omega
  · unfold t_g
    rw [ei 3 (by omega), ei 4 (by omega), ei 5 (by omega), ei 8 (by omega), f3, f4, f5, f8, f8I]
    refine ⟨?_, Int.le_refl _⟩
    rw [Int.mul_comm 2000]
    exact Int.mul_le_mul_of_nonneg_left (by omega) (by omega)
theorem t_halfI {x y : Int32} (h0 : 300 ≤ x) (h1 : x ≤ 900) (h2 : 300 ≤ y) (h3 : y ≤ 900) : ((x + y) / 2).toInt + ((x + y) - (x + y) / 2).toInt = x.toInt + y.toInt := by
  obtain ⟨⟨a0, a1⟩, b0, b1⟩ := t_half_ok h0 h1 h2 h3
  have i0 := k_leI h0
  have i1 := k_leI h1
  have i2 := k_leI h2
  have i3 := k_leI h3
  have j0 := k_leI a0
  have j1 := k_leI a1
  rw [k_i300] at i0 i2 j0
  rw [k_i900] at i1 i3 j1
  have q1 : (x + y).toInt = x.toInt + y.toInt := k_toI_add (by omega) (by omega)
  rw [k_toI_sub (x := x + y) (by rw [q1]; omega) (by rw [q1]; omega), q1]
  omega
theorem st_turn {w : Nat → Int32} (h : a_ok w) {t : Nat} (ht : t < 8) (hn : nI t < w 9) (hv : ¬ a_t w t 3 = 0) : w_st w (a_turn w t) := by
  have e : ∀ i, i < 17 → a_turn w t i = w i := fun i hi => st_lo _ _ _ hi
  have eo : ∀ t', t' < 8 → t' ≠ t → ∀ k, k < 9 → a_t (a_turn w t) t' k = a_t w t' k := fun t' _ hne k hk => st_out (fun _ _ => rfl) _ _ hne hk
  have ei : ∀ k, k < 9 → a_t (a_turn w t) t k = t_turn (a_t w t) k := fun k hk => st_in _ _ _ hk
  obtain ⟨k2, c, s, b, ke, kl⟩ := a_okT h ht
  obtain ⟨⟨x0, x1⟩, ⟨y0, y1⟩, hw⟩ := kl (by have := b.1; generalize a_t w t 3 = z at *; grind)
  have hs := t_halfI x0 x1 y0 y1
  have f3 : t_turn (a_t w t) 3 = a_t w t 3 := rfl
  have f4 : t_turn (a_t w t) 4 = (a_t w t 4 + a_t w t 5) / 2 := rfl
  have f5 : t_turn (a_t w t) 5 = (a_t w t 4 + a_t w t 5) - (a_t w t 4 + a_t w t 5) / 2 := rfl
  have f7 : t_turn (a_t w t) 7 = a_t w t 7 + 2 := rfl
  have f8 : t_turn (a_t w t) 8 = a_t w t 8 := rfl
  refine ⟨a_ok_turn h ht hn hv, fun A hA g => ?_, fun D hD g => g_dm_set g (t := t) (by omega) (fun t' h' hne => eo t' h' hne 7 (by omega)) ?_, fun q => by rw [e 9 (by omega)]; exact q, fun q => by rw [e 10 (by omega)]; exact q⟩
  · have gg := g
    obtain ⟨⟨a0, a1⟩, ⟨a2, a3, a4, a5⟩, e1, e2, gt⟩ := gg
    refine g_ok_set g ht eo (by rw [e 11 (by omega)]; omega) (by rw [e 12 (by omega), e 13 (by omega), e 15 (by omega), e 16 (by omega)]; exact ⟨a2, a3, a4, a5⟩) ?_ ?_ ?_
    · rw [e 11 (by omega), e 12 (by omega), e 13 (by omega), ei 3 (by omega), f3]
    · rw [e 11 (by omega), e 15 (by omega), e 16 (by omega), ei 8 (by omega), f8]
    · have := gt t ht
      unfold t_g at this ⊢
      rw [ei 3 (by omega), ei 4 (by omega), ei 5 (by omega), ei 8 (by omega), f3, f4, f5, f8, hs]
      exact this
  · rw [ei 7 (by omega), f7]
    have := g t ht
    rw [k_toI_add (by rw [k_i2]; omega) (by rw [k_i2]; omega), k_i2]
    omega
theorem st_out2 {w : Nat → Int32} (h : a_ok w) {t : Nat} (ht : t < 8) (hn : nI t < w 9) {i : Nat} (hi : i = 12 ∨ i = 13) : w_st w (a_out w t i) := by
  have e : ∀ j, j < 17 → a_out w t i j = if j = 16 then w 16 + a_t w t 8 else if j = i then w i + a_t w t 3 else w j := fun j hj => by
    unfold a_out
    rw [st_lo _ _ _ hj, upd_at, upd_at]
  have eu : ∀ j, 17 ≤ j → upd (upd w i (w i + a_t w t 3)) 16 (w 16 + a_t w t 8) j = w j := fun j hj => by rw [upd_at, if_neg (by omega), upd_at, if_neg (by omega)]
  have eo : ∀ t', t' < 8 → t' ≠ t → ∀ k, k < 9 → a_t (a_out w t i) t' k = a_t w t' k := fun t' _ hne k hk => st_out eu _ _ hne hk
  have ei : ∀ k, 3 ≤ k → k < 9 → a_t (a_out w t i) t k = 0 := fun k h3 hk => by
    unfold a_out
    rw [st_in _ _ _ hk]
    unfold t_none
    rw [if_neg (by omega)]
  obtain ⟨⟨b0, b1⟩, -, -⟩ := t_okI (a_okT h ht)
  refine ⟨a_ok_out h ht hn (by omega), fun A hA g => ?_, fun D hD g => g_dm_set g (t := t) (by omega) (fun t' h' hne => eo t' h' hne 7 (by omega)) (by rw [ei 7 (by omega) (by omega), k_i0]; have := g t ht; omega), fun q => by rw [e 9 (by omega), if_neg (by omega), if_neg (by omega)]; exact q, fun q => by rw [e 10 (by omega), if_neg (by omega), if_neg (by omega)]; exact q⟩
  have b8 := t_g_b (a_okT h ht) (g.2.2.2.2 t ht)
  have bk := g_kgb h
  have bw := g_wtb h g
  have gg := g
  obtain ⟨⟨a0, a1⟩, ⟨a2, a3, a4, a5⟩, e1, e2, gt⟩ := gg
  have e16 : (w 16 + a_t w t 8).toInt = (w 16).toInt + (a_t w t 8).toInt := k_toI_add (by omega) (by omega)
  have e12 : (w 12 + a_t w t 3).toInt = (w 12).toInt + (a_t w t 3).toInt := k_toI_add (by omega) (by omega)
  have e13 : (w 13 + a_t w t 3).toInt = (w 13).toInt + (a_t w t 3).toInt := k_toI_add (by omega) (by omega)
  have f16 : a_out w t i 16 = w 16 + a_t w t 8 := by rw [e 16 (by omega), if_pos rfl]
  have f15 : a_out w t i 15 = w 15 := by rw [e 15 (by omega), if_neg (by omega), if_neg (by omega)]
  have f11 : a_out w t i 11 = w 11 := by rw [e 11 (by omega), if_neg (by omega), if_neg (by omega)]
  have hg : t_g (a_t (a_out w t i) t) := by
    unfold t_g
    rw [ei 3 (by omega) (by omega), ei 4 (by omega) (by omega), ei 5 (by omega) (by omega), ei 8 (by omega) (by omega), k_i0]
    omega
  rcases hi with q | q
  · subst q
    have f12 : a_out w t 12 12 = w 12 + a_t w t 3 := by rw [e 12 (by omega), if_neg (by omega), if_pos rfl]
    have f13 : a_out w t 12 13 = w 13 := by rw [e 13 (by omega), if_neg (by omega), if_neg (by omega)]
    refine g_ok_set g ht eo (by rw [f11]; omega) (by rw [f12, f13, f15, f16, e12, e16]; omega) ?_ ?_ hg
    · rw [f11, f12, f13, e12, ei 3 (by omega) (by omega), k_i0]
      omega
    · rw [f11, f15, f16, e16, ei 8 (by omega) (by omega), k_i0]
      omega
  · subst q
    have f12 : a_out w t 13 12 = w 12 := by rw [e 12 (by omega), if_neg (by omega), if_neg (by omega)]
    have f13 : a_out w t 13 13 = w 13 + a_t w t 3 := by rw [e 13 (by omega), if_neg (by omega), if_pos rfl]
    refine g_ok_set g ht eo (by rw [f11]; omega) (by rw [f12, f13, f15, f16, e13, e16]; omega) ?_ ?_ hg
    · rw [f11, f12, f13, e13, ei 3 (by omega) (by omega), k_i0]
      omega
    · rw [f11, f15, f16, e16, ei 8 (by omega) (by omega), k_i0]
      omega
theorem st_send {w : Nat → Int32} (h : a_ok w) {t : Nat} (ht : t < 8) (hn : nI t < w 9) : w_st w (a_send w t) := by
  have h14 : ∀ x : Int32, w_st w (a_out (upd w 14 x) t 12) := fun x => by
    have hu : a_ok (upd w 14 x) := a_ok_upd h (by omega) x
    have eu : ∀ i, i ≠ 14 → upd w 14 x i = w i := fun i hi => by rw [upd_at, if_neg hi]
    have et : ∀ t', a_t (upd w 14 x) t' = a_t w t' := fun t' => a_t_upd t' (by omega)
    obtain ⟨s1, s2, s3, s4, s5⟩ := st_out2 hu ht (by rw [eu 9 (by omega)]; exact hn) (Or.inl rfl)
    refine ⟨s1, fun A hA g => s2 A hA (g_ok_ext g (Int.le_refl _) (fun i hi => eu i (by omega)) (fun t' _ k _ => by rw [et])), fun D hD g => s3 D hD (g_dm_ext g (Int.le_refl _) (fun t' _ => by rw [et])), fun q => s4 (by rw [eu 9 (by omega)]; exact q), fun q => s5 (by rw [eu 10 (by omega)]; exact q)⟩
  exact h14 _
theorem st_build {w : Nat → Int32} (h : a_ok w) {n : Nat} (hn : w 9 = nI n) (hn8 : n < 8) {c : Int32} (h0 : 10 ≤ c) (h1 : c ≤ 500) : w_st w (a_build w n c) := by
  have e : ∀ i, i < 17 → a_build w n c i = if i = 9 then w 9 + 1 else w i := fun i hi => by
    unfold a_build
    rw [st_lo _ _ _ hi, upd_at]
  have eu : ∀ i, 17 ≤ i → upd w 9 (w 9 + 1) i = w i := fun i hi => by rw [upd_at, if_neg (by omega)]
  obtain ⟨z3, z4, z5, z8⟩ := a_none h hn (by omega) (Nat.le_refl n) hn8
  have z7 : a_t w n 7 = 0 := ((a_okT h hn8).2.2.2.2.1 z3).2.2.2.1
  refine st_same (a_ok_build h hn hn8 h0 h1) (fun i hi => by rw [e i (by omega), if_neg (by omega)]) (fun t' ht' k hk => ?_) (fun _ => ?_) (fun q => by rw [e 10 (by omega), if_neg (by omega)]; exact q)
  · unfold a_build
    by_cases q : t' = n
    · subst q
      rw [st_in _ _ _ (by omega)]
      unfold t_new
      rw [if_neg (by omega)]
      rcases hk with r | r | r | r | r <;> subst r <;> simp [z3, z4, z5, z7, z8]
    · exact st_out eu _ _ q (by omega)
  · rw [e 9 (by omega), if_pos rfl, hn, nI_1]
    exact (nI_leI (a := 1) (by omega) (by omega)).mpr (by omega)
theorem st_pass {w : Nat → Int32} (h : a_ok w) {d : Nat} (hd : d ≤ 200) (h2 : w 0 ≤ 2000 - nI d) : w_st w (a_pass d w) := by
  have h9 : (1 ≤ w 9 → 1 ≤ a_pass d w 9) ∧ (1 ≤ w 10 → 1 ≤ a_pass d w 10) := by
    have : ∀ (d : Nat) (w : Nat → Int32), (a_pass d w) 9 = w 9 ∧ (a_pass d w) 10 = w 10 := by
      intro d
      induction d with
      | zero => intro w; exact ⟨rfl, rfl⟩
      | succ d ih =>
        intro w
        have e : ∀ i, i = 9 ∨ i = 10 → a_hour w i = w i := fun i hi => by
          unfold a_hour
          rw [k_tick_lo _ (by omega) (by omega), a_airsN_lo _ _ _ (by omega) (by omega)]
        exact ⟨(ih (a_hour w)).1.trans (e 9 (Or.inl rfl)), (ih (a_hour w)).2.trans (e 10 (Or.inr rfl))⟩
    rw [(this d w).1, (this d w).2]
    exact ⟨id, id⟩
  refine ⟨(a_pass_0 d w h (by omega) h2).2, fun A hA g => ?_, fun D hD g => ?_, h9.1, h9.2⟩
  · skip
    exact g_ok_ext ((g_passA (by omega) d w h g (by omega) h2).1) (by omega) (fun _ _ => rfl) (fun _ _ _ _ => rfl)
  · exact g_dm_ext (g_passD d w D h g (by omega) (by omega) h2) (by omega) (fun _ _ => rfl)
