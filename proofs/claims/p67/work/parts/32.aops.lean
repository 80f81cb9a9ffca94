/-! what is done to a row -/
theorem a_setT_upd {w : Nat → Int32} {t i : Nat} {v : Nat → Int32} {x : Int32} (hi : i < 17) : upd (a_setT w t v) i x = a_setT (upd w i x) t v := by
  refine a_setT_of (fun k hk => ?_) (fun j hj => ?_)
  · rw [upd_at, if_neg (by omega)]
    show a_setT w t v (17 + 9 * t + k) = _
    unfold a_setT
    rw [if_pos (by omega), Nat.add_sub_cancel_left]
  · rw [upd_at, upd_at, a_setT_lo _ _ _ hj]
theorem a_t_upd {w : Nat → Int32} {i : Nat} {x : Int32} (t : Nat) (hi : i < 17) : a_t (upd w i x) t = a_t w t := by
  funext k
  show upd w i x _ = _
  rw [upd_at, if_neg (by omega)]
  rfl
def a_build (w : Nat → Int32) (n : Nat) (c : Int32) : Nat → Int32 := a_setT (upd w 9 (w 9 + 1)) n (t_new c)
def a_load (w : Nat → Int32) (t : Nat) (kg m : Int32) : Nat → Int32 := a_setT (upd w 11 (w 11 + kg)) t (t_load (a_t w t) kg m)
def a_fan (w : Nat → Int32) (t : Nat) (s : Int32) : Nat → Int32 := a_setT w t (upd (a_t w t) 1 s)
def a_rev (w : Nat → Int32) (t : Nat) : Nat → Int32 := a_setT w t (upd (a_t w t) 2 (1 - a_t w t 2))
def a_turn (w : Nat → Int32) (t : Nat) : Nat → Int32 := a_setT w t (t_turn (a_t w t))
def a_out (w : Nat → Int32) (t i : Nat) : Nat → Int32 := a_setT (upd (upd w i (w i + a_t w t 3)) 16 (w 16 + a_t w t 8)) t (t_none (a_t w t))
def t_worth (v : Nat → Int32) : Int32 := v 3 * t_mark v / 100
def a_send (w : Nat → Int32) (t : Nat) : Nat → Int32 := a_out (upd w 14 (w 14 + t_worth (a_t w t))) t 12
def a_mon (w : Nat → Int32) (n : Nat) (day : Int32) : Nat → Int32 := upd (upd w (6 + n) day) 5 (w 5 + 1)
def a_aim (w : Nat → Int32) (x y : Int32) : Nat → Int32 := upd (upd w 3 x) 4 y
def a_put (w : Nat → Int32) (q : Nat) (x y z : Int32) : Nat → Int32 := upd (upd (upd (upd w (89 + 3 * q + 0) x) (89 + 3 * q + 1) y) (89 + 3 * q + 2) z) 10 (w 10 + 1)
def a_move (w : Nat → Int32) (q : Nat) (x y : Int32) : Nat → Int32 := upd (upd w (89 + 3 * q + 1) y) (89 + 3 * q + 0) x
def a_cal (w : Nat → Int32) (q : Nat) : Nat → Int32 := upd w (89 + 3 * q + 2) 0
/-! they keep the ranges -/
theorem a_ok_upd {w : Nat → Int32} (h : a_ok w) {i : Nat} (hi : 11 ≤ i ∧ i < 17) (x : Int32) : a_ok (upd w i x) := by
  have e : ∀ j, (j < 11 ∨ 17 ≤ j) → upd w i x j = w j := fun j hj => by rw [upd_at, if_neg (by omega)]
  obtain ⟨g0, g1, g2, g3, g4, g5, g6, g7, g8, g9, g10, g11, g12⟩ := h
  have et : ∀ t, a_t (upd w i x) t = a_t w t := fun t => a_t_upd t (by omega)
  have ep : ∀ q, a_p (upd w i x) q = a_p w q := fun q => by funext k; exact e _ (by omega)
  unfold a_ok
  rw [e 0 (by omega), e 1 (by omega), e 2 (by omega), e 3 (by omega), e 4 (by omega), e 5 (by omega), e 9 (by omega), e 10 (by omega)]
  simp only [et, ep]
  exact ⟨g0, g1, g2, g3, g4, g5, fun m hm hn => by rw [e (6 + m) (by omega)]; exact g6 m hm hn, g7, g8, g9, g10, g11, g12⟩
theorem t_new_ok {c : Int32} (h0 : 10 ≤ c) (h1 : c ≤ 500) : t_ok (t_new c) := by
  unfold t_ok t_new
  simp
  grind
theorem t_none_ok {v : Nat → Int32} (h : t_ok v) : t_ok (t_none v) := by
  obtain ⟨k2, c, s, b, ke, kl⟩ := h
  unfold t_ok t_none
  simp
  exact ⟨k2, c, s, c.1⟩
theorem t_load_ok {v : Nat → Int32} (h : t_ok v) {kg m : Int32} (h0 : 1 ≤ kg) (h1 : kg ≤ v 0) (h2 : 600 ≤ m) (h3 : m ≤ 900) : t_ok (t_load v kg m) := by
  obtain ⟨k2, c, s, b, ke, kl⟩ := h
  unfold t_ok t_load
  simp
  refine ⟨k2, c, s, ⟨by grind, h1⟩, fun q => by subst q; grind, fun _ => ⟨by grind, h3⟩⟩
theorem t_half_ok {x y : Int32} (h0 : 300 ≤ x) (h1 : x ≤ 900) (h2 : 300 ≤ y) (h3 : y ≤ 900) : (300 ≤ (x + y) / 2 ∧ (x + y) / 2 ≤ 900) ∧ (300 ≤ (x + y) - (x + y) / 2 ∧ (x + y) - (x + y) / 2 ≤ 900) := by
  obtain ⟨a, ha, rfl⟩ := nI_of2 (x := x) (M := 900) (n := 900) (by decide) (by grind) h1
  obtain ⟨c, hc, rfl⟩ := nI_of2 (x := y) (M := 900) (n := 900) (by decide) (by grind) h3
  have a3 : 300 ≤ a := (nI_leI (a := 300) (by omega) (by omega)).mp h0
  have c3 : 300 ≤ c := (nI_leI (a := 300) (by omega) (by omega)).mp h2
  have e : (nI a + nI c) / 2 = nI ((a + c) / 2) := by
    rw [nI_add]
    exact nI_divN (b := 2) (by omega) (by omega) (by omega)
  rw [e, nI_add]
  have s : nI (a + c) - nI ((a + c) / 2) = nI ((a + c) - (a + c) / 2) := by
    have h : nI (a + c) = nI ((a + c) - (a + c) / 2) + nI ((a + c) / 2) := by
      rw [nI_add]
      congr 1
      omega
    rw [h]
    grind
  rw [s]
  exact ⟨⟨(nI_leI (a := 300) (by omega) (by omega)).mpr (by omega), (nI_leI (b := 900) (by omega) (by omega)).mpr (by omega)⟩, (nI_leI (a := 300) (by omega) (by omega)).mpr (by omega), (nI_leI (b := 900) (by omega) (by omega)).mpr (by omega)⟩
theorem t_turn_ok {v : Nat → Int32} (h : t_ok v) (hv : ¬ v 3 = 0) : t_ok (t_turn v) := by
  obtain ⟨k2, c, s, b, ke, kl⟩ := h
  have hp : 0 < v 3 := by grind
  obtain ⟨⟨x0, x1⟩, ⟨y0, y1⟩, hw⟩ := kl hp
  have hh := t_half_ok x0 x1 y0 y1
  unfold t_ok t_turn
  simp
  exact ⟨k2, c, s, b, fun q => absurd q hv, fun _ => ⟨hh.1, hh.2, hw⟩⟩
theorem a_ok_load {w : Nat → Int32} (h : a_ok w) {t : Nat} (ht : t < 8) (hn : nI t < w 9) {kg m : Int32} (h0 : 1 ≤ kg) (h1 : kg ≤ a_t w t 0) (h2 : 600 ≤ m) (h3 : m ≤ 900) : a_ok (a_load w t kg m) := by
  refine a_ok_setT (a_ok_upd h (by omega) _) ht (by rw [upd_at, if_neg (by omega)]; exact hn) (t_load_ok (h.2.2.2.2.2.2.2.2.2.1 t ht) h0 h1 h2 h3) ?_
  rw [a_t_upd t (by omega)]
  rfl
theorem a_ok_fan {w : Nat → Int32} (h : a_ok w) {t : Nat} (ht : t < 8) (hn : nI t < w 9) {s : Int32} (h0 : 0 ≤ s) (h1 : s ≤ 5) : a_ok (a_fan w t s) := by
  refine a_ok_setT h ht hn ?_ (by rw [upd_at, if_neg (by omega)])
  obtain ⟨k2, c, s', b, ke, kl⟩ := h.2.2.2.2.2.2.2.2.2.1 t ht
  unfold t_ok
  simp only [upd_at]
  simp
  exact ⟨k2, c, ⟨h0, h1⟩, b, ke, kl⟩
theorem a_ok_rev {w : Nat → Int32} (h : a_ok w) {t : Nat} (ht : t < 8) (hn : nI t < w 9) : a_ok (a_rev w t) := by
  refine a_ok_setT h ht hn ?_ (by rw [upd_at, if_neg (by omega)])
  obtain ⟨k2, c, s', b, ke, kl⟩ := h.2.2.2.2.2.2.2.2.2.1 t ht
  unfold t_ok
  simp only [upd_at]
  simp
  exact ⟨by rcases k2 with k | k <;> rw [k] <;> decide, c, s', b, ke, kl⟩
theorem a_ok_turn {w : Nat → Int32} (h : a_ok w) {t : Nat} (ht : t < 8) (hn : nI t < w 9) (hv : ¬ a_t w t 3 = 0) : a_ok (a_turn w t) :=
  a_ok_setT h ht hn (t_turn_ok (h.2.2.2.2.2.2.2.2.2.1 t ht) hv) rfl
theorem a_ok_out {w : Nat → Int32} (h : a_ok w) {t : Nat} (ht : t < 8) (hn : nI t < w 9) {i : Nat} (hi : 11 ≤ i ∧ i < 17) : a_ok (a_out w t i) := by
  refine a_ok_setT (a_ok_upd (a_ok_upd h hi _) (by omega) _) ht (by rw [upd_at, if_neg (by omega), upd_at, if_neg (by omega)]; exact hn) (t_none_ok (h.2.2.2.2.2.2.2.2.2.1 t ht)) ?_
  rw [a_t_upd t (by omega), a_t_upd t (by omega)]
  rfl
theorem a_ok_send {w : Nat → Int32} (h : a_ok w) {t : Nat} (ht : t < 8) (hn : nI t < w 9) : a_ok (a_send w t) :=
  a_ok_out (a_ok_upd h (by omega) _) ht (by rw [upd_at, if_neg (by omega)]; exact hn) (by omega)
theorem a_ok_build {w : Nat → Int32} (h : a_ok w) {n : Nat} (hn : w 9 = nI n) (hn8 : n < 8) {c : Int32} (h0 : 10 ≤ c) (h1 : c ≤ 500) : a_ok (a_build w n c) := by
  obtain ⟨g0, g1, g2, g3, g4, g5, g6, g7, g8, g9, g10, g11, g12⟩ := h
  have e : ∀ i, i < 17 → a_build w n c i = if i = 9 then nI (n + 1) else w i := fun i hi => by
    unfold a_build
    rw [a_setT_lo _ _ _ (by omega), upd_at, hn, nI_1]
  have et : ∀ t k, k < 9 → a_t (a_build w n c) t k = if t = n then t_new c k else a_t w t k := fun t k hk => by
    unfold a_build
    rw [a_setT_t _ _ _ _ hk, a_t_upd t (by omega)]
  have ep : ∀ q k, a_p (a_build w n c) q k = a_p w q k := fun q k => by
    unfold a_build
    rw [a_setT_p _ hn8]
    show upd w 9 _ _ = _
    rw [upd_at, if_neg (by omega)]
    rfl
  unfold a_ok
  rw [e 0 (by omega), e 1 (by omega), e 2 (by omega), e 3 (by omega), e 4 (by omega), e 5 (by omega), e 9 (by omega), e 10 (by omega)]
  simp only [ep]
  simp only [show ¬ ((0 : Nat) = 9) by decide, show ¬ ((1 : Nat) = 9) by decide, show ¬ ((2 : Nat) = 9) by decide, show ¬ ((3 : Nat) = 9) by decide, show ¬ ((4 : Nat) = 9) by decide, show ¬ ((5 : Nat) = 9) by decide, show ¬ ((10 : Nat) = 9) by decide, if_false, if_true]
  refine ⟨g0, g1, g2, g3, g4, g5, fun m hm hm5 => ?_, ⟨nI_pos' (by omega), (nI_leI (b := 8) (by omega) (by omega)).mpr (by omega)⟩, g8, fun t ht => ?_, fun t ht hl => ?_, fun t ht hl => ?_, fun q hq hl => ?_⟩
  · rw [e (6 + m) (by omega), if_neg (by omega)]
    exact g6 m hm hm5
  · by_cases q : t = n
    · exact t_ok_ext (t_new_ok h0 h1) (fun k hk => by rw [et t k hk, if_pos q])
    · exact t_ok_ext (g9 t ht) (fun k hk => by rw [et t k hk, if_neg q])
  · rw [et t 0 (by omega)]
    by_cases q : t = n
    · rw [if_pos q]
      exact h0
    · rw [if_neg q]
      refine g10 t ht ?_
      rw [hn]
      have := (nI_ltI (by omega) (by omega)).mp hl
      exact nI_lt (by omega) (by omega)
  · have hl2 := (nI_leI (by omega) (by omega)).mp hl
    rw [et t 0 (by omega), et t 1 (by omega), et t 2 (by omega), if_neg (by omega), if_neg (by omega), if_neg (by omega)]
    refine g11 t ht ?_
    rw [hn]
    exact nI_le (by omega) (by omega)
  · have g := g12 q hq hl
    refine ⟨⟨g.1.1, ?_⟩, g.2⟩
    have h9 := g.1.2
    rw [hn] at h9
    have : nI n < nI (n + 1) := nI_lt (by omega) (by omega)
    clear g g12 g11 g10 g9 g8 g7 g6 e et ep
    generalize a_p w q 0 = x at *
    generalize nI n = y at *
    generalize nI (n + 1) = z at *
    grind
theorem a_ok_lo {w : Nat → Int32} (h : a_ok w) {W : Nat → Int32} (e : ∀ j, 5 ≤ j → W j = w j) (h0 : 0 ≤ W 0 ∧ W 0 ≤ 2000) (h1 : 0 ≤ W 1 ∧ W 1 ≤ 5) (h2 : 20 ≤ W 2 ∧ W 2 ≤ 95) (h3 : 500 ≤ W 3 ∧ W 3 ≤ 700) (h4 : 5 ≤ W 4 ∧ W 4 ≤ 50) : a_ok W := by
  obtain ⟨g0, g1, g2, g3, g4, g5, g6, g7, g8, g9, g10, g11, g12⟩ := h
  have et : ∀ t, a_t W t = a_t w t := fun t => by funext k; exact e _ (by omega)
  have ep : ∀ q, a_p W q = a_p w q := fun q => by funext k; exact e _ (by omega)
  unfold a_ok
  rw [e 5 (by omega), e 9 (by omega), e 10 (by omega)]
  simp only [et, ep]
  exact ⟨h0, h1, h2, h3, h4, g5, fun m hm hn => by rw [e (6 + m) (by omega)]; exact g6 m hm hn, g7, g8, g9, g10, g11, g12⟩
theorem a_ok_aim {w : Nat → Int32} (h : a_ok w) {x y : Int32} (h0 : 500 ≤ x) (h1 : x ≤ 700) (h2 : 5 ≤ y) (h3 : y ≤ 50) : a_ok (a_aim w x y) := by
  unfold a_aim
  refine a_ok_lo h (fun j hj => by rw [upd_at, if_neg (by omega), upd_at, if_neg (by omega)]) ?_ ?_ ?_ ?_ ?_
  · simp only [upd_at]; exact h.1
  · simp only [upd_at]; exact h.2.1
  · simp only [upd_at]; exact h.2.2.1
  · simp only [upd_at]; exact ⟨h0, h1⟩
  · simp only [upd_at]; exact ⟨h2, h3⟩
theorem a_ok_heat {w : Nat → Int32} (h : a_ok w) {x : Int32} (h0 : 0 ≤ x) (h1 : x ≤ 5) : a_ok (upd w 1 x) := by
  refine a_ok_lo h (fun j hj => by rw [upd_at, if_neg (by omega)]) ?_ ?_ ?_ ?_ ?_
  · simp only [upd_at]; exact h.1
  · simp only [upd_at]; exact ⟨h0, h1⟩
  · simp only [upd_at]; exact h.2.2.1
  · simp only [upd_at]; exact h.2.2.2.1
  · simp only [upd_at]; exact h.2.2.2.2.1
theorem a_ok_humid {w : Nat → Int32} (h : a_ok w) {x : Int32} (h0 : 20 ≤ x) (h1 : x ≤ 95) : a_ok (upd w 2 x) := by
  refine a_ok_lo h (fun j hj => by rw [upd_at, if_neg (by omega)]) ?_ ?_ ?_ ?_ ?_
  · simp only [upd_at]; exact h.1
  · simp only [upd_at]; exact h.2.1
  · simp only [upd_at]; exact ⟨h0, h1⟩
  · simp only [upd_at]; exact h.2.2.2.1
  · simp only [upd_at]; exact h.2.2.2.2.1
theorem a_ok_mon {w : Nat → Int32} (h : a_ok w) {n : Nat} (hn : w 5 = nI n) (hn3 : n < 3) {x : Int32} (h0 : 0 ≤ x) (h1 : x ≤ 83) : a_ok (a_mon w n x) := by
  obtain ⟨g0, g1, g2, g3, g4, g5, g6, g7, g8, g9, g10, g11, g12⟩ := h
  have e : ∀ i, a_mon w n x i = if i = 5 then nI (n + 1) else if i = 6 + n then x else w i := fun i => by
    unfold a_mon
    rw [upd_at, upd_at, hn, nI_1]
  have et : ∀ t, a_t (a_mon w n x) t = a_t w t := fun t => by
    funext k
    show a_mon w n x _ = _
    rw [e, if_neg (by omega), if_neg (by omega)]
    rfl
  have ep : ∀ q, a_p (a_mon w n x) q = a_p w q := fun q => by
    funext k
    show a_mon w n x _ = _
    rw [e, if_neg (by omega), if_neg (by omega)]
    rfl
  unfold a_ok
  simp only [et, ep]
  rw [e 0, e 1, e 2, e 3, e 4, e 5, e 9, e 10]
  rw [if_neg (by omega), if_neg (by omega), if_neg (by omega), if_neg (by omega), if_neg (by omega), if_neg (by omega), if_neg (by omega), if_neg (by omega), if_neg (by omega), if_neg (by omega), if_pos rfl, if_neg (by omega), if_neg (by omega), if_neg (by omega), if_neg (by omega)]
  refine ⟨g0, g1, g2, g3, g4, ⟨nI_pos' (by omega), (nI_leI (b := 3) (by omega) (by omega)).mpr (by omega)⟩, fun m hm hl => ?_, g7, g8, g9, g10, g11, g12⟩
  rw [e, if_neg (by omega)]
  by_cases q : m = n
  · rw [if_pos (by omega)]
    exact ⟨h0, h1⟩
  · rw [if_neg (by omega)]
    have := (nI_ltI (by omega) (by omega)).mp hl
    exact g6 m hm (by rw [hn]; exact nI_lt (by omega) (by omega))
/-- the probes alone -/
theorem a_ok_prs {w : Nat → Int32} (h : a_ok w) {W : Nat → Int32} (e : ∀ j, j ≠ 10 → j < 89 → W j = w j) (h1 : 0 ≤ W 10 ∧ W 10 ≤ 6) (h2 : ∀ q, q < 6 → nI q < W 10 → (0 ≤ a_p W q 0 ∧ a_p W q 0 < w 9) ∧ (a_p W q 1 = 0 ∨ a_p W q 1 = 1) ∧ (-50 ≤ a_p W q 2 ∧ a_p W q 2 ≤ 50)) : a_ok W := by
  obtain ⟨g0, g1, g2, g3, g4, g5, g6, g7, g8, g9, g10, g11, g12⟩ := h
  have et : ∀ t k, t < 8 → k < 9 → a_t W t k = a_t w t k := fun t k ht hk => e _ (by omega) (by omega)
  unfold a_ok
  rw [e 0 (by omega) (by omega), e 1 (by omega) (by omega), e 2 (by omega) (by omega), e 3 (by omega) (by omega), e 4 (by omega) (by omega), e 5 (by omega) (by omega), e 9 (by omega) (by omega)]
  exact ⟨g0, g1, g2, g3, g4, g5, fun m hm hn => by rw [e (6 + m) (by omega) (by omega)]; exact g6 m hm hn, g7, h1, fun t ht => t_ok_ext (g9 t ht) (fun k hk => et t k ht hk), fun t ht hn => by rw [et t 0 ht (by omega)]; exact g10 t ht hn, fun t ht hn => by rw [et t 0 ht (by omega), et t 1 ht (by omega), et t 2 ht (by omega)]; exact g11 t ht hn, h2⟩
theorem a_put_p (w : Nat → Int32) (q : Nat) (x y z : Int32) (q' : Nat) {k : Nat} (hk : k < 3) : a_p (a_put w q x y z) q' k = if q' = q then (if k = 0 then x else if k = 1 then y else z) else a_p w q' k := by
  show a_put w q x y z (89 + 3 * q' + k) = _
  unfold a_put
  simp only [upd_at]
  by_cases h : q' = q
  · subst h
    have : k = 0 ∨ k = 1 ∨ k = 2 := by omega
    rcases this with r | r | r <;> subst r <;> simp
    all_goals omega
  · rw [if_neg (by omega), if_neg (by omega), if_neg (by omega), if_neg (by omega), if_neg h]
    rfl
theorem a_put_10 (w : Nat → Int32) (q : Nat) (x y z : Int32) : a_put w q x y z 10 = w 10 + 1 := by
  unfold a_put
  rw [upd_at, if_pos rfl]
theorem a_put_lo (w : Nat → Int32) (q : Nat) (x y z : Int32) {j : Nat} (h1 : j ≠ 10) (h2 : j < 89) : a_put w q x y z j = w j := by
  unfold a_put
  rw [upd_at, if_neg h1, upd_at, if_neg (by omega), upd_at, if_neg (by omega), upd_at, if_neg (by omega)]
theorem a_ok_put {w : Nat → Int32} (h : a_ok w) {q : Nat} (hn : w 10 = nI q) (hq : q < 6) {x y z : Int32} (h0 : 0 ≤ x ∧ x < w 9) (h1 : y = 0 ∨ y = 1) (h2 : -50 ≤ z ∧ z ≤ 50) : a_ok (a_put w q x y z) := by
  refine a_ok_prs h (fun j hj h89 => a_put_lo _ _ _ _ _ hj h89) ?_ (fun q' hq' hl => ?_)
  · rw [a_put_10, hn, nI_1]
    exact ⟨nI_pos' (by omega), (nI_leI (b := 6) (by omega) (by omega)).mpr (by omega)⟩
  · rw [a_put_10, hn, nI_1] at hl
    rw [a_put_p _ _ _ _ _ _ (by omega), a_put_p _ _ _ _ _ _ (by omega), a_put_p _ _ _ _ _ _ (by omega)]
    by_cases e : q' = q
    · simp only [e, if_true, show ¬ ((1 : Nat) = 0) by decide, show ¬ ((2 : Nat) = 0) by decide, show ¬ ((2 : Nat) = 1) by decide, if_false]
      exact ⟨h0, h1, h2⟩
    · rw [if_neg e, if_neg e, if_neg e]
      have := (nI_ltI (by omega) (by omega)).mp hl
      exact h.2.2.2.2.2.2.2.2.2.2.2.2 q' hq' (by rw [hn]; exact nI_lt (by omega) (by omega))
theorem a_move_p (w : Nat → Int32) (q : Nat) (x y : Int32) (q' : Nat) {k : Nat} (hk : k < 3) : a_p (a_move w q x y) q' k = if q' = q then (if k = 0 then x else if k = 1 then y else a_p w q 2) else a_p w q' k := by
  show a_move w q x y (89 + 3 * q' + k) = _
  unfold a_move
  simp only [upd_at]
  by_cases h : q' = q
  · subst h
    have : k = 0 ∨ k = 1 ∨ k = 2 := by omega
    rcases this with r | r | r <;> subst r <;> simp
    rfl
  · rw [if_neg (by omega), if_neg (by omega), if_neg h]
    rfl
theorem a_move_lo (w : Nat → Int32) (q : Nat) (x y : Int32) {j : Nat} (h2 : j < 89) : a_move w q x y j = w j := by
  unfold a_move
  rw [upd_at, if_neg (by omega), upd_at, if_neg (by omega)]
theorem a_ok_move {w : Nat → Int32} (h : a_ok w) {q : Nat} (hq : q < 6) {x y : Int32} (h0 : 0 ≤ x ∧ x < w 9) (h1 : y = 0 ∨ y = 1) : a_ok (a_move w q x y) := by
  have e10 : a_move w q x y 10 = w 10 := a_move_lo _ _ _ _ (by omega)
  refine a_ok_prs h (fun j _ h89 => a_move_lo _ _ _ _ h89) (by rw [e10]; exact h.2.2.2.2.2.2.2.2.1) (fun q' hq' hl => ?_)
  rw [e10] at hl
  have g := h.2.2.2.2.2.2.2.2.2.2.2.2 q' hq' hl
  rw [a_move_p _ _ _ _ _ (by omega), a_move_p _ _ _ _ _ (by omega), a_move_p _ _ _ _ _ (by omega)]
  by_cases e : q' = q
  · subst e
    simp only [if_true, show ¬ ((1 : Nat) = 0) by decide, show ¬ ((2 : Nat) = 0) by decide, show ¬ ((2 : Nat) = 1) by decide, if_false]
    exact ⟨h0, h1, g.2.2⟩
  · rw [if_neg e, if_neg e, if_neg e]
    exact g
theorem a_cal_p (w : Nat → Int32) (q : Nat) (q' : Nat) {k : Nat} (hk : k < 3) : a_p (a_cal w q) q' k = if q' = q ∧ k = 2 then 0 else a_p w q' k := by
  show a_cal w q (89 + 3 * q' + k) = _
  unfold a_cal
  rw [upd_at]
  by_cases h : q' = q ∧ k = 2
  · rw [if_pos (by omega), if_pos h]
  · rw [if_neg (by omega), if_neg h]
    rfl
theorem a_cal_lo (w : Nat → Int32) (q : Nat) {j : Nat} (h2 : j < 89) : a_cal w q j = w j := by
  unfold a_cal
  rw [upd_at, if_neg (by omega)]
theorem a_ok_cal {w : Nat → Int32} (h : a_ok w) {q : Nat} (hq : q < 6) : a_ok (a_cal w q) := by
  have e10 : a_cal w q 10 = w 10 := a_cal_lo _ _ (by omega)
  refine a_ok_prs h (fun j _ h89 => a_cal_lo _ _ h89) (by rw [e10]; exact h.2.2.2.2.2.2.2.2.1) (fun q' hq' hl => ?_)
  rw [e10] at hl
  have g := h.2.2.2.2.2.2.2.2.2.2.2.2 q' hq' hl
  rw [a_cal_p _ _ _ (by omega), a_cal_p _ _ _ (by omega), a_cal_p _ _ _ (by omega)]
  by_cases e : q' = q
  · subst e
    simp only [true_and, if_true, show ¬ ((0 : Nat) = 2) by decide, show ¬ ((1 : Nat) = 2) by decide, if_false]
    exact ⟨g.1, g.2.1, by decide, by decide⟩
  · simp only [e, false_and, if_false]
    exact g
