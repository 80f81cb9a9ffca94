/-! hours pass: the row's own operation, and that it keeps to its ranges -/
theorem t_half {x : Int32} (h : 0 ≤ x) (h2 : x ≤ 390) : 0 ≤ x / 2 ∧ x / 2 ≤ 390 := by
  have e := k_div (y := 2) h (by decide)
  rw [Int32.le_iff_toInt_le] at h h2
  rw [Int32.le_iff_toInt_le, Int32.le_iff_toInt_le, e]
  have q0 : (0 : Int32).toInt = 0 := by decide
  have q1 : (390 : Int32).toInt = 390 := by decide
  have q2 : (2 : Int32).toInt = 2 := by decide
  rw [q0] at h
  rw [q1] at h2
  rw [q0, q1, q2]
  omega
theorem t_layer {x y : Int32} (h0 : 300 ≤ x) (h1 : x ≤ 900) (h2 : 0 ≤ y) (h3 : y ≤ 390) : 300 ≤ a_lo (x - y) ∧ a_lo (x - y) ≤ 900 := ⟨t_lo_ge _, t_lo_le (by grind)⟩
theorem t_pass_ok {d : Int32} {v : Nat → Int32} (h : t_ok v) (h0 : 0 ≤ d) (h1 : d ≤ 130) : t_ok (t_pass v d) := by
  obtain ⟨l0, l1⟩ := t_loss_nn h h0 h1
  obtain ⟨m0, m1⟩ := t_half l0 l1
  have hh := h
  obtain ⟨k2, c, ⟨s0, s1⟩, ⟨b0, b1⟩, ke, kl⟩ := h
  by_cases hv : v 3 = 0
  · have e : t_pass v d = v := by funext j; simp [t_pass, hv]
    rw [e]
    exact hh
  · have hp : 0 < v 3 := by grind
    obtain ⟨⟨x0, x1⟩, ⟨y0, y1⟩, ⟨w0, w1⟩⟩ := kl hp
    have e0 : t_pass v d 0 = v 0 := by simp [t_pass, hv]
    have e1 : t_pass v d 1 = v 1 := by simp [t_pass, hv]
    have e2 : t_pass v d 2 = v 2 := by simp [t_pass, hv]
    have e3 : t_pass v d 3 = v 3 := by simp [t_pass, hv]
    have e4 : t_pass v d 4 = t_low v d := by simp [t_pass, hv]
    have e5 : t_pass v d 5 = t_high v d := by simp [t_pass, hv]
    have e6 : t_pass v d 6 = t_warm v := by simp [t_pass, hv]
    refine ⟨by rw [e2]; exact k2, by rw [e0]; exact c, by rw [e1]; exact ⟨s0, s1⟩, by rw [e3, e0]; exact ⟨b0, b1⟩, fun q => absurd (e3.symm.trans q) hv, fun _ => ⟨?_, ?_, ?_⟩⟩
    · rw [e4]
      unfold t_low
      by_cases hs : 0 < v 1
      · rw [if_pos hs]
        by_cases hd : v 2 = 1
        · rw [if_pos hd]; exact t_layer x0 x1 m0 m1
        · rw [if_neg hd]; exact t_layer x0 x1 l0 l1
      · rw [if_neg hs]; exact ⟨x0, x1⟩
    · rw [e5]
      unfold t_high
      by_cases hs : 0 < v 1
      · rw [if_pos hs]
        by_cases hd : v 2 = 1
        · rw [if_pos hd]; exact t_layer y0 y1 l0 l1
        · rw [if_neg hd]; exact t_layer y0 y1 m0 m1
      · rw [if_neg hs]; exact ⟨y0, y1⟩
    · rw [e6]
      unfold t_warm
      grind
/-- what a row keeps to -/
def a_ok (w : Nat → Int32) : Prop := (0 ≤ w 0 ∧ w 0 ≤ 2000) ∧ (0 ≤ w 1 ∧ w 1 ≤ 5) ∧ (20 ≤ w 2 ∧ w 2 ≤ 95) ∧ (500 ≤ w 3 ∧ w 3 ≤ 700) ∧ (5 ≤ w 4 ∧ w 4 ≤ 50) ∧ (0 ≤ w 5 ∧ w 5 ≤ 3) ∧ (∀ m, m < 3 → nI m < w 5 → 0 ≤ w (6 + m) ∧ w (6 + m) ≤ 83) ∧ (0 ≤ w 9 ∧ w 9 ≤ 8) ∧ (0 ≤ w 10 ∧ w 10 ≤ 6) ∧ (∀ t, t < 8 → t_ok (a_t w t)) ∧ (∀ t, t < 8 → nI t < w 9 → 10 ≤ a_t w t 0) ∧ (∀ t, t < 8 → w 9 ≤ nI t → a_t w t 0 = 0 ∧ a_t w t 1 = 0 ∧ a_t w t 2 = 0) ∧ (∀ q, q < 6 → nI q < w 10 → (0 ≤ a_p w q 0 ∧ a_p w q 0 < w 9) ∧ (a_p w q 1 = 0 ∨ a_p w q 1 = 1) ∧ (-50 ≤ a_p w q 2 ∧ a_p w q 2 ≤ 50))
theorem a_dry_ok {w : Nat → Int32} (h : a_ok w) (x : Int32) : 0 ≤ a_dry w x ∧ a_dry w x ≤ 130 := by
  obtain ⟨-, ⟨h1, h1'⟩, ⟨h2, h2'⟩, -⟩ := h
  unfold a_dry a_hum
  by_cases hw : a_wetb w x = true
  · rw [if_pos hw]; grind
  · rw [if_neg hw]; grind
/-- the troughs below n dry -/
def a_airsN (d : Int32) : Nat → (Nat → Int32) → Nat → Int32
  | 0, w => w
  | n + 1, w => a_airs (a_airsN d n w) n d
theorem a_airsN_lo (d : Int32) (n : Nat) (w : Nat → Int32) {i : Nat} (h1 : i ≠ 15) (h2 : i < 17 ∨ 17 + 9 * n ≤ i) : a_airsN d n w i = w i := by
  induction n with
  | zero => rfl
  | succ n ih =>
    rw [a_airsN, a_airs_out _ _ _ h1 (by omega)]
    exact ih (by omega)
theorem a_airsN_t (d : Int32) (n : Nat) (w : Nat → Int32) (t : Nat) : a_t (a_airsN d n w) t = fun k => if k < 9 ∧ t < n then t_pass (a_t w t) d k else if k < 9 then a_t w t k else a_airsN d n w (17 + 9 * t + k) := by
  funext k
  by_cases hk : k < 9
  · simp only [hk, true_and, if_true]
    induction n with
    | zero => simp [a_airsN]
    | succ n ih =>
      by_cases ht : t = n
      · subst ht
        show a_airs (a_airsN d t w) t d (17 + 9 * t + k) = _
        rw [a_airs_in _ _ _ hk, if_pos (by omega)]
        have : ∀ j, j < 9 → a_t (a_airsN d t w) t j = a_t w t j := fun j hj => a_airsN_lo d t w (by omega) (by omega)
        unfold t_pass t_water t_low t_high t_warm t_loss t_fill
        rw [this 0 (by omega), this 1 (by omega), this 2 (by omega), this 3 (by omega), this 4 (by omega), this 5 (by omega), this 6 (by omega), this 7 (by omega), this 8 (by omega), this k hk]
      · show a_airs (a_airsN d n w) n d (17 + 9 * t + k) = _
        rw [a_airs_out _ _ _ (by omega) (by omega)]
        have := ih
        unfold a_t at this
        rw [this]
        by_cases h2 : t < n
        · rw [if_pos h2, if_pos (by omega)]; rfl
        · rw [if_neg h2, if_neg (by omega)]; rfl
  · simp [hk]
    rfl
theorem t_ok_ext {v v' : Nat → Int32} (h : t_ok v) (e : ∀ k, k < 9 → v' k = v k) : t_ok v' := by
  unfold t_ok at h ⊢
  rw [e 0 (by omega), e 1 (by omega), e 2 (by omega), e 3 (by omega), e 4 (by omega), e 5 (by omega), e 6 (by omega), e 7 (by omega), e 8 (by omega)]
  exact h
/-- the probes drift -/
def a_drift (w : Nat → Int32) : Nat → Int32 := fun i => if (89 ≤ i ∧ i < 107) ∧ (i - 89) % 3 = 2 ∧ nI ((i - 89) / 3) < w 10 then (if 50 ≤ w i + 1 then 50 else w i + 1) else w i
theorem a_drift_lo (w : Nat → Int32) {i : Nat} (h : i < 89) : a_drift w i = w i := by
  unfold a_drift
  rw [if_neg (by omega)]
theorem a_drift_p (w : Nat → Int32) {q k : Nat} (hq : q < 6) (hk : k < 3) : a_p (a_drift w) q k = if k = 2 ∧ nI q < w 10 then (if 50 ≤ a_p w q 2 + 1 then 50 else a_p w q 2 + 1) else a_p w q k := by
  show a_drift w (89 + 3 * q + k) = _
  unfold a_drift
  have e1 : (89 + 3 * q + k - 89) % 3 = k := by omega
  have e2 : (89 + 3 * q + k - 89) / 3 = q := by omega
  rw [e1, e2]
  by_cases h : k = 2 ∧ nI q < w 10
  · rw [if_pos ⟨by omega, h⟩, if_pos h, h.1]
    rfl
  · rw [if_neg (fun x => h x.2), if_neg h]
    rfl
/-- the hour is counted, and a day's end -/
def a_tick (w1 : Nat → Int32) : Nat → Int32 := if (w1 0 + 1) - (w1 0 + 1) / 24 * 24 = 0 then a_drift (upd w1 0 (w1 0 + 1)) else upd w1 0 (w1 0 + 1)
/-- an hour -/
def a_hour (w : Nat → Int32) : Nat → Int32 := a_tick (a_airsN (a_dry w (w 0)) (w 9).toNatClampNeg w)
def a_pass : Nat → (Nat → Int32) → Nat → Int32
  | 0, w => w
  | k + 1, w => a_pass k (a_hour w)
theorem a_cnt {x : Int32} (h0 : 0 ≤ x) (h1 : x ≤ 8) : x.toNatClampNeg ≤ 8 ∧ nI x.toNatClampNeg = x := by
  obtain ⟨n, hn, rfl⟩ := nI_of2 (M := 8) (n := 8) (by decide) (by grind) h1
  rw [nI_clamp (by omega)]
  exact ⟨hn, rfl⟩
theorem a_okD {w : Nat → Int32} (h : a_ok w) (w2 : Nat → Int32) (h0 : 0 ≤ w2 0 ∧ w2 0 ≤ 2000) (hlo : ∀ i, 0 < i → i < 11 → w2 i = w i) (ht : ∀ t, t < 8 → t_ok (a_t w2 t) ∧ a_t w2 t 0 = a_t w t 0 ∧ a_t w2 t 1 = a_t w t 1 ∧ a_t w2 t 2 = a_t w t 2) (hp : ∀ q, q < 6 → a_p w2 q 0 = a_p w q 0 ∧ a_p w2 q 1 = a_p w q 1 ∧ (nI q < w 10 → -50 ≤ a_p w2 q 2 ∧ a_p w2 q 2 ≤ 50)) : a_ok w2 := by
  obtain ⟨g0, g1, g2, g3, g4, g5, g6, g7, g8, g9, g10, g11, g12⟩ := h
  refine ⟨h0, by rw [hlo 1 (by omega) (by omega)]; exact g1, by rw [hlo 2 (by omega) (by omega)]; exact g2, by rw [hlo 3 (by omega) (by omega)]; exact g3, by rw [hlo 4 (by omega) (by omega)]; exact g4, by rw [hlo 5 (by omega) (by omega)]; exact g5, fun m hm => by rw [hlo 5 (by omega) (by omega), hlo (6 + m) (by omega) (by omega)]; exact g6 m hm, by rw [hlo 9 (by omega) (by omega)]; exact g7, by rw [hlo 10 (by omega) (by omega)]; exact g8, fun t h => (ht t h).1, fun t h => by rw [hlo 9 (by omega) (by omega), (ht t h).2.1]; exact g10 t h, fun t h => by rw [hlo 9 (by omega) (by omega), (ht t h).2.1, (ht t h).2.2.1, (ht t h).2.2.2]; exact g11 t h, fun q h hn => ?_⟩
  rw [hlo 10 (by omega) (by omega)] at hn
  rw [hlo 9 (by omega) (by omega), (hp q h).1, (hp q h).2.1]
  exact ⟨(g12 q h hn).1, (g12 q h hn).2.1, (hp q h).2.2 hn⟩
theorem t_pass_same (v : Nat → Int32) (d : Int32) : t_pass v d 0 = v 0 ∧ t_pass v d 1 = v 1 ∧ t_pass v d 2 = v 2 ∧ t_pass v d 3 = v 3 := by
  refine ⟨?_, ?_, ?_, ?_⟩ <;> simp [t_pass]
theorem a_airsN_ok {d : Int32} {w : Nat → Int32} (h : a_ok w) (h0 : 0 ≤ d) (h1 : d ≤ 130) (n : Nat) (hn : n ≤ 8) : a_ok (a_airsN d n w) := by
  refine a_okD h _ ?_ (fun i hi h11 => a_airsN_lo d n w (by omega) (by omega)) (fun t ht => ?_) (fun q hq => ?_)
  · rw [a_airsN_lo d n w (by omega) (by omega)]; exact h.1
  · have hk := h.2.2.2.2.2.2.2.2.2.1 t ht
    rw [a_airsN_t]
    obtain ⟨q0, q1, q2, q3⟩ := t_pass_same (a_t w t) d
    by_cases hb : t < n
    · refine ⟨t_ok_ext (t_pass_ok hk h0 h1) (fun k hk => by simp [hk, hb]), by simp [hb, q0], by simp [hb, q1], by simp [hb, q2]⟩
    · refine ⟨t_ok_ext hk (fun k hk => by simp [hk, hb]), by simp [hb], by simp [hb], by simp [hb]⟩
  · have e : ∀ k, k < 3 → a_p (a_airsN d n w) q k = a_p w q k := fun k hk => a_airsN_lo d n w (by omega) (by omega)
    exact ⟨e 0 (by omega), e 1 (by omega), fun hx => by rw [e 2 (by omega)]; exact (h.2.2.2.2.2.2.2.2.2.2.2.2 q hq hx).2.2⟩
theorem k_drift {x : Int32} (h1 : -50 ≤ x) (h2 : x ≤ 50) : -50 ≤ (if 50 ≤ x + 1 then 50 else x + 1) ∧ (if 50 ≤ x + 1 then 50 else x + 1) ≤ 50 := by grind
theorem k_hr {x : Int32} (h1 : 0 ≤ x) (h2 : x < 2000) : 0 ≤ x + 1 ∧ x + 1 ≤ 2000 := by grind
theorem a_tick_ok {w1 : Nat → Int32} (h1 : a_ok w1) (hh : w1 0 < 2000) : a_ok (a_tick w1) ∧ (a_tick w1) 0 = w1 0 + 1 ∧ (a_tick w1) 9 = w1 9 := by
  have hr := h1.1
  have hu : a_ok (upd w1 0 (w1 0 + 1)) := by
    refine a_okD h1 _ ?_ (fun i hi _ => by rw [upd_at, if_neg (by omega)]) (fun t ht => ?_) (fun q hq => ?_)
    · rw [upd_at, if_pos rfl]
      exact k_hr hr.1 hh
    · have e : ∀ k, a_t (upd w1 0 (w1 0 + 1)) t k = a_t w1 t k := fun k => by
        show upd w1 0 _ _ = _
        rw [upd_at, if_neg (by omega)]
        rfl
      exact ⟨t_ok_ext (h1.2.2.2.2.2.2.2.2.2.1 t ht) (fun k _ => e k), e 0, e 1, e 2⟩
    · have e : ∀ k, a_p (upd w1 0 (w1 0 + 1)) q k = a_p w1 q k := fun k => by
        show upd w1 0 _ _ = _
        rw [upd_at, if_neg (by omega)]
        rfl
      exact ⟨e 0, e 1, fun hx => by rw [e 2]; exact (h1.2.2.2.2.2.2.2.2.2.2.2.2 q hq hx).2.2⟩
  unfold a_tick
  generalize hw2 : upd w1 0 (w1 0 + 1) = w2 at *
  have f0 : w2 0 = w1 0 + 1 := by rw [← hw2, upd_at, if_pos rfl]
  have f9 : w2 9 = w1 9 := by rw [← hw2, upd_at, if_neg (by omega)]
  by_cases hq : (w1 0 + 1) - (w1 0 + 1) / 24 * 24 = 0
  · rw [if_pos hq]
    refine ⟨a_okD hu _ (by rw [a_drift_lo _ (by omega)]; exact hu.1) (fun i _ hi => a_drift_lo _ (by omega)) (fun t ht => ?_) (fun q hq => ?_), by rw [a_drift_lo _ (by omega)]; exact f0, by rw [a_drift_lo _ (by omega)]; exact f9⟩
    · have e : ∀ k, k < 9 → a_t (a_drift w2) t k = a_t w2 t k := fun k hk => a_drift_lo _ (by omega)
      exact ⟨t_ok_ext (hu.2.2.2.2.2.2.2.2.2.1 t ht) e, e 0 (by omega), e 1 (by omega), e 2 (by omega)⟩
    · refine ⟨by rw [a_drift_p _ hq (by omega), if_neg (by omega)], by rw [a_drift_p _ hq (by omega), if_neg (by omega)], fun hx => ?_⟩
      rw [a_drift_p _ hq (by omega), if_pos ⟨rfl, hx⟩]
      exact k_drift (hu.2.2.2.2.2.2.2.2.2.2.2.2 q hq hx).2.2.1 (hu.2.2.2.2.2.2.2.2.2.2.2.2 q hq hx).2.2.2
  · rw [if_neg hq]
    exact ⟨hu, f0, f9⟩
theorem a_hour_ok {w : Nat → Int32} (h : a_ok w) (hh : w 0 < 2000) : a_ok (a_hour w) ∧ (a_hour w) 0 = w 0 + 1 ∧ (a_hour w) 9 = w 9 := by
  obtain ⟨d0, d1⟩ := a_dry_ok h (w 0)
  obtain ⟨c0, c1⟩ := a_cnt h.2.2.2.2.2.2.2.1.1 h.2.2.2.2.2.2.2.1.2
  have h1 := a_airsN_ok h d0 d1 _ c0
  have e0 : a_airsN (a_dry w (w 0)) (w 9).toNatClampNeg w 0 = w 0 := a_airsN_lo _ _ _ (by omega) (by omega)
  have e9 : a_airsN (a_dry w (w 0)) (w 9).toNatClampNeg w 9 = w 9 := a_airsN_lo _ _ _ (by omega) (by omega)
  obtain ⟨q1, q2, q3⟩ := a_tick_ok h1 (by rw [e0]; exact hh)
  exact ⟨q1, q2.trans (by rw [e0]), q3.trans e9⟩
