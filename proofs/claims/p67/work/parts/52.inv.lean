/-! what holds of the accounts: kilograms and weights, as whole numbers -/
def i_sum (f : Nat → Int) : Nat → Int
  | 0 => 0
  | n + 1 => i_sum f n + f n
theorem i_sum_ext {f g : Nat → Int} : ∀ n, (∀ j, j < n → g j = f j) → i_sum g n = i_sum f n := by
  intro n
  induction n with
  | zero => intro _; rfl
  | succ n ih =>
    intro h
    rw [i_sum, i_sum, ih (fun j hj => h j (by omega)), h n (by omega)]
theorem i_sum_upd {f g : Nat → Int} {t : Nat} : ∀ n, t < n → (∀ j, j < n → j ≠ t → g j = f j) → i_sum g n = i_sum f n - f t + g t := by
  intro n
  induction n with
  | zero => intro h; omega
  | succ n ih =>
    intro h e
    rw [i_sum, i_sum]
    by_cases q : t = n
    · subst q
      rw [i_sum_ext t (fun j hj => e j (by omega) (by omega))]
      omega
    · rw [ih (by omega) (fun j hj hne => e j (by omega) hne), e n (by omega) (by omega)]
      omega
theorem i_sum_b {f : Nat → Int} : ∀ n : Nat, (∀ j, j < n → 0 ≤ f j ∧ f j ≤ 1000000) → 0 ≤ i_sum f n ∧ i_sum f n ≤ 1000000 * (n : Int) := by
  intro n
  induction n with
  | zero => intro _; exact ⟨Int.le_refl _, Int.le_refl _⟩
  | succ n ih =>
    intro h
    have h1 := ih (fun j hj => h j (by omega))
    have h2 := h n (by omega)
    rw [i_sum]
    omega
theorem i_sum_stop {f : Nat → Int} {n : Nat} : ∀ d, (∀ t, n ≤ t → t < n + d → f t = 0) → i_sum f (n + d) = i_sum f n := by
  intro d
  induction d with
  | zero => intro _; rfl
  | succ d ih =>
    intro h
    rw [← Nat.add_assoc, i_sum, ih (fun t h1 h2 => h t h1 (by omega)), h (n + d) (by omega) (by omega)]
    omega
theorem k_sm_int {f : Nat → Int32} : ∀ n : Nat, n ≤ 8 → (∀ j, j < n → 0 ≤ (f j).toInt ∧ (f j).toInt ≤ 1000000) → (k_sm f n).toInt = i_sum (fun t => (f t).toInt) n := by
  intro n
  induction n with
  | zero => intro _ _; rfl
  | succ n ih =>
    intro h8 h
    have h1 := ih (by omega) (fun j hj => h j (by omega))
    have h2 := i_sum_b (f := fun t => (f t).toInt) n (fun j hj => h j (by omega))
    have h3 := h n (by omega)
    have h4 : (n : Int) ≤ 8 := by omega
    rw [k_sm, i_sum, Int32.toInt_add, h1]
    exact Int.bmod_eq_of_le (by omega) (by omega)
theorem k_sm_ext {f g : Nat → Int32} : ∀ n, (∀ j, j < n → g j = f j) → k_sm g n = k_sm f n := by
  intro n
  induction n with
  | zero => intro _; rfl
  | succ n ih =>
    intro h
    rw [k_sm, k_sm, ih (fun j hj => h j (by omega)), h n (by omega)]
/-- numbers that are small -/
theorem k_toI_add {x y : Int32} (h0 : -1000000000 ≤ x.toInt + y.toInt) (h1 : x.toInt + y.toInt ≤ 1000000000) : (x + y).toInt = x.toInt + y.toInt := by
  rw [Int32.toInt_add]
  exact Int.bmod_eq_of_le (by omega) (by omega)
theorem k_toI_sub {x y : Int32} (h0 : -1000000000 ≤ x.toInt - y.toInt) (h1 : x.toInt - y.toInt ≤ 1000000000) : (x - y).toInt = x.toInt - y.toInt := by
  rw [Int32.toInt_sub]
  exact Int.bmod_eq_of_le (by omega) (by omega)
theorem k_toI_mul {x y : Int32} (h0 : -1000000000 ≤ x.toInt * y.toInt) (h1 : x.toInt * y.toInt ≤ 1000000000) : (x * y).toInt = x.toInt * y.toInt := by
  rw [Int32.toInt_mul]
  exact Int.bmod_eq_of_le (by omega) (by omega)
theorem k_leI {x y : Int32} (h : x ≤ y) : x.toInt ≤ y.toInt := Int32.le_iff_toInt_le.mp h
theorem k_ltI {x y : Int32} (h : x < y) : x.toInt < y.toInt := Int32.lt_iff_toInt_lt.mp h
theorem k_Ile {x y : Int32} (h : x.toInt ≤ y.toInt) : x ≤ y := Int32.le_iff_toInt_le.mpr h
theorem k_i0 : (0 : Int32).toInt = 0 := by decide
theorem k_i1 : (1 : Int32).toInt = 1 := by decide
theorem k_i2 : (2 : Int32).toInt = 2 := by decide
theorem k_i20 : (20 : Int32).toInt = 20 := by decide
theorem k_i300 : (300 : Int32).toInt = 300 := by decide
theorem k_i500 : (500 : Int32).toInt = 500 := by decide
theorem k_i900 : (900 : Int32).toInt = 900 := by decide
theorem k_i2000 : (2000 : Int32).toInt = 2000 := by decide
theorem k_i390 : (390 : Int32).toInt = 390 := by decide
/-- a trough's numbers as whole numbers -/
theorem t_okI {v : Nat → Int32} (h : t_ok v) : (0 ≤ (v 3).toInt ∧ (v 3).toInt ≤ 500) ∧ ((v 3).toInt = 0 → (v 4).toInt = 0 ∧ (v 5).toInt = 0 ∧ (v 7).toInt = 0 ∧ (v 8).toInt = 0) ∧ (0 < (v 3).toInt → (300 ≤ (v 4).toInt ∧ (v 4).toInt ≤ 900) ∧ (300 ≤ (v 5).toInt ∧ (v 5).toInt ≤ 900)) := by
  obtain ⟨k2, ⟨c0, c1⟩, s, ⟨b0, b1⟩, ke, kl⟩ := h
  have i0 := k_leI b0
  have i1 := k_leI b1
  have i2 := k_leI c1
  rw [k_i0] at i0
  rw [k_i500] at i2
  refine ⟨⟨i0, by omega⟩, fun h0 => ?_, fun h0 => ?_⟩
  · have e : v 3 = 0 := Int32.toInt_inj.mp (by rw [h0, k_i0])
    obtain ⟨e4, e5, e6, e7, e8⟩ := ke e
    rw [e4, e5, e7, e8]
    decide
  · have e : 0 < v 3 := Int32.lt_iff_toInt_lt.mpr (by rw [k_i0]; exact h0)
    obtain ⟨⟨a, b⟩, ⟨c, d⟩, -⟩ := kl e
    have j1 := k_leI a
    have j2 := k_leI b
    have j3 := k_leI c
    have j4 := k_leI d
    rw [k_i300] at j1 j3
    rw [k_i900] at j2 j4
    exact ⟨⟨j1, j2⟩, j3, j4⟩
/-- the weight goes with the moistures -/
def t_g (v : Nat → Int32) : Prop := (v 3).toInt * ((v 4).toInt + (v 5).toInt + 200) ≤ (v 8).toInt ∧ (v 8).toInt ≤ 2000 * (v 3).toInt
theorem t_g_b {v : Nat → Int32} (h : t_ok v) (g : t_g v) : 0 ≤ (v 8).toInt ∧ (v 8).toInt ≤ 1000000 := by
  obtain ⟨⟨a0, a1⟩, b, c⟩ := t_okI h
  obtain ⟨g0, g1⟩ := g
  refine ⟨?_, by omega⟩
  by_cases q : (v 3).toInt = 0
  · have := (b q).2.2.2
    omega
  · have := c (by omega)
    have : 0 ≤ (v 3).toInt * ((v 4).toInt + (v 5).toInt + 200) := Int.mul_nonneg a0 (by omega)
    omega
def g_ok (A : Int) (w : Nat → Int32) : Prop := (0 ≤ (w 11).toInt ∧ (w 11).toInt ≤ A) ∧ (0 ≤ (w 12).toInt ∧ 0 ≤ (w 13).toInt ∧ 0 ≤ (w 15).toInt ∧ 0 ≤ (w 16).toInt) ∧ (w 12).toInt + (w 13).toInt + i_sum (fun t => (a_t w t 3).toInt) 8 = (w 11).toInt ∧ (w 15).toInt + (w 16).toInt + i_sum (fun t => (a_t w t 8).toInt) 8 = 2000 * (w 11).toInt ∧ ∀ t, t < 8 → t_g (a_t w t)
def g_dm (D : Int) (w : Nat → Int32) : Prop := ∀ t, t < 8 → 0 ≤ (a_t w t 7).toInt ∧ (a_t w t 7).toInt ≤ D
theorem a_okT {w : Nat → Int32} (h : a_ok w) {t : Nat} (ht : t < 8) : t_ok (a_t w t) := h.2.2.2.2.2.2.2.2.2.1 t ht
theorem g_kgb {w : Nat → Int32} (h : a_ok w) : 0 ≤ i_sum (fun t => (a_t w t 3).toInt) 8 := (i_sum_b 8 (fun j hj => by have := (t_okI (a_okT h hj)).1; omega)).1
theorem g_wtb {A : Int} {w : Nat → Int32} (h : a_ok w) (g : g_ok A w) : 0 ≤ i_sum (fun t => (a_t w t 8).toInt) 8 := (i_sum_b 8 (fun j hj => t_g_b (a_okT h hj) (g.2.2.2.2 j hj))).1
/-- no violation -/
theorem g_viol {A : Int} {w : Nat → Int32} (h : a_ok w) (g : g_ok A w) (hA : A ≤ 10000) : w 11 - (w 12 + w 13 + k_sm (fun t => a_t w t 3) 8) = 0 ∧ w 11 * 2000 - (w 16 + w 15 + k_sm (fun t => a_t w t 8) 8) = 0 := by
  have b1 := g_kgb h
  have b2 := g_wtb h g
  obtain ⟨⟨a0, a1⟩, ⟨a2, a3, a4, a5⟩, e1, e2, gt⟩ := g
  have s1 := k_sm_int (f := fun t => a_t w t 3) 8 (by omega) (fun j hj => by have := (t_okI (a_okT h hj)).1; omega)
  have s2 := k_sm_int (f := fun t => a_t w t 8) 8 (by omega) (fun j hj => t_g_b (a_okT h hj) (gt j hj))
  have c1 : w 12 + w 13 + k_sm (fun t => a_t w t 3) 8 = w 11 := by
    have q1 : (w 12 + w 13).toInt = (w 12).toInt + (w 13).toInt := k_toI_add (by omega) (by omega)
    apply Int32.toInt_inj.mp
    rw [k_toI_add (by rw [q1, s1]; omega) (by rw [q1, s1]; omega), q1, s1]
    exact e1
  have c2 : w 16 + w 15 + k_sm (fun t => a_t w t 8) 8 = w 11 * 2000 := by
    have q1 : (w 16 + w 15).toInt = (w 16).toInt + (w 15).toInt := k_toI_add (by omega) (by omega)
    apply Int32.toInt_inj.mp
    rw [k_toI_add (by rw [q1, s2]; omega) (by rw [q1, s2]; omega), q1, s2, k_toI_mul (by rw [k_i2000]; omega) (by rw [k_i2000]; omega), k_i2000]
    omega
  rw [c1, c2]
  exact ⟨Int32.sub_self _, Int32.sub_self _⟩
/-- one trough and the accounts change -/
theorem g_ok_set {A B : Int} {w W : Nat → Int32} {t : Nat} (g : g_ok A w) (ht : t < 8) (e : ∀ t', t' < 8 → t' ≠ t → ∀ k, k < 9 → a_t W t' k = a_t w t' k) (h11 : 0 ≤ (W 11).toInt ∧ (W 11).toInt ≤ B) (hn : 0 ≤ (W 12).toInt ∧ 0 ≤ (W 13).toInt ∧ 0 ≤ (W 15).toInt ∧ 0 ≤ (W 16).toInt)
    (s1 : (W 12).toInt + (W 13).toInt + (a_t W t 3).toInt - (W 11).toInt = (w 12).toInt + (w 13).toInt + (a_t w t 3).toInt - (w 11).toInt)
    (s2 : (W 15).toInt + (W 16).toInt + (a_t W t 8).toInt - 2000 * (W 11).toInt = (w 15).toInt + (w 16).toInt + (a_t w t 8).toInt - 2000 * (w 11).toInt) (hg : t_g (a_t W t)) : g_ok B W := by
  obtain ⟨g1, g2, g3, g4, g5⟩ := g
  have u1 := i_sum_upd (f := fun t => (a_t w t 3).toInt) (g := fun t => (a_t W t 3).toInt) 8 ht (fun j hj hne => by rw [e j hj hne 3 (by omega)])
  have u2 := i_sum_upd (f := fun t => (a_t w t 8).toInt) (g := fun t => (a_t W t 8).toInt) 8 ht (fun j hj hne => by rw [e j hj hne 8 (by omega)])
  refine ⟨h11, hn, by omega, by omega, fun t' ht' => ?_⟩
  by_cases q : t' = t
  · subst q; exact hg
  · have := g5 t' ht'
    unfold t_g at this ⊢
    rw [e t' ht' q 3 (by omega), e t' ht' q 4 (by omega), e t' ht' q 5 (by omega), e t' ht' q 8 (by omega)]
    exact this
theorem g_ok_ext {A B : Int} {w W : Nat → Int32} (g : g_ok A w) (hAB : A ≤ B) (e : ∀ i, (i = 11 ∨ i = 12 ∨ i = 13 ∨ i = 15 ∨ i = 16) → W i = w i) (et : ∀ t, t < 8 → ∀ k, (k = 3 ∨ k = 4 ∨ k = 5 ∨ k = 8) → a_t W t k = a_t w t k) : g_ok B W := by
  obtain ⟨g1, g2, g3, g4, g5⟩ := g
  have u1 := i_sum_ext (f := fun t => (a_t w t 3).toInt) (g := fun t => (a_t W t 3).toInt) 8 (fun j hj => by rw [et j hj 3 (by omega)])
  have u2 := i_sum_ext (f := fun t => (a_t w t 8).toInt) (g := fun t => (a_t W t 8).toInt) 8 (fun j hj => by rw [et j hj 8 (by omega)])
  unfold g_ok
  rw [u1, u2, e 11 (by omega), e 12 (by omega), e 13 (by omega), e 15 (by omega), e 16 (by omega)]
  refine ⟨⟨g1.1, by omega⟩, g2, g3, g4, fun t ht => ?_⟩
  have := g5 t ht
  unfold t_g at this ⊢
  rw [et t ht 3 (by omega), et t ht 4 (by omega), et t ht 5 (by omega), et t ht 8 (by omega)]
  exact this
theorem g_dm_ext {D B : Int} {w W : Nat → Int32} (g : g_dm D w) (hDB : D ≤ B) (et : ∀ t, t < 8 → a_t W t 7 = a_t w t 7) : g_dm B W := fun t ht => by
  rw [et t ht]
  have := g t ht
  omega
theorem g_dm_set {D B : Int} {w W : Nat → Int32} {t : Nat} (g : g_dm D w) (hDB : D ≤ B) (e : ∀ t', t' < 8 → t' ≠ t → a_t W t' 7 = a_t w t' 7) (h : 0 ≤ (a_t W t 7).toInt ∧ (a_t W t 7).toInt ≤ B) : g_dm B W := fun t' ht' => by
  by_cases q : t' = t
  · subst q; exact h
  · rw [e t' ht' q]
    have := g t' ht'
    omega
