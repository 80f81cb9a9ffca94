/-! the best hour for a reversal -/
def k_L (w v : Nat → Int32) (i : Nat) : Nat := (t_loss v (a_dry w (w 0 + nI i))).toNatClampNeg
theorem k_L_ok {w v : Nat → Int32} (h : a_ok w) (hv : t_ok v) (i : Nat) : k_L w v i ≤ 390 ∧ t_loss v (a_dry w (w 0 + nI i)) = nI (k_L w v i) := by
  obtain ⟨d0, d1⟩ := a_dry_ok h (w 0 + nI i)
  obtain ⟨l0, l1⟩ := t_loss_nn hv d0 d1
  unfold k_L
  generalize t_loss v (a_dry w (w 0 + nI i)) = x at *
  obtain ⟨n, hn, rfl⟩ := nI_of2 (x := x) (M := 390) (n := 390) (by decide) (by grind) l1
  rw [nI_clamp (by omega)]
  exact ⟨hn, rfl⟩
def k_S (g : Nat → Nat) : Nat → Nat
  | 0 => 0
  | n + 1 => k_S g n + g n
theorem k_S_le {g : Nat → Nat} {c : Nat} (h : ∀ i, g i ≤ c) : ∀ n, k_S g n ≤ c * n := by
  intro n
  induction n with
  | zero => exact Nat.le_refl _
  | succ n ih =>
    rw [k_S, Nat.mul_add, Nat.mul_one]
    exact Nat.add_le_add ih (h n)
theorem k_S_add (g : Nat → Nat) (a n : Nat) : k_S g (a + n) = k_S g a + k_S (fun i => g (a + i)) n := by
  induction n with
  | zero => rfl
  | succ n ih =>
    rw [← Nat.add_assoc, k_S, ih, k_S, Nat.add_assoc]
theorem k_sub2 (x : Int32) (a b : Nat) : x - nI a - nI b = x - nI (a + b) := by
  rw [← nI_add]
  generalize nI a = y
  generalize nI b = z
  grind
theorem nI_subN {a b : Nat} (h : b ≤ a) : nI a - nI b = nI (a - b) := by
  obtain ⟨c, rfl⟩ : ∃ c, a = b + c := ⟨a - b, by omega⟩
  rw [Nat.add_sub_cancel_left, ← nI_add]
  generalize nI b = x
  generalize nI c = y
  grind
theorem k_lo_nat {p a : Nat} (hp : p ≤ 900) (ha : a ≤ 1000000) : a_lo (nI p - nI a) = nI (if a + 300 ≤ p then p - a else 300) := by
  unfold a_lo
  by_cases h : a + 300 ≤ p
  · rw [if_pos h, nI_subN (by omega), if_pos (show (300 : Int32) ≤ nI (p - a) from (nI_leI (a := 300) (by omega) (by omega)).mpr (by omega))]
  · have h1 : nI p < nI a + 300 := by
      rw [show nI a + 300 = nI (a + 300) from nI_add a 300]
      exact nI_lt (by omega) (by omega)
    have h2 : 0 ≤ nI a := nI_pos' (by omega)
    have h3 : nI a ≤ 1000000 := (nI_leI (b := 1000000) (by omega) (by omega)).mpr ha
    have h4 : 0 ≤ nI p := nI_pos' (by omega)
    have h5 : nI p ≤ 900 := (nI_leI (b := 900) (by omega) (by omega)).mpr hp
    rw [if_neg h, if_neg]
    · rfl
    · generalize nI p = x at *
      generalize nI a = y at *
      grind
theorem k_900 {x : Int32} (h0 : 300 ≤ x) (h1 : x ≤ 900) : ∃ p, 300 ≤ p ∧ p ≤ 900 ∧ x = nI p := by
  obtain ⟨p, hp, rfl⟩ := nI_of2 (x := x) (M := 900) (n := 900) (by decide) (by grind) h1
  exact ⟨p, (nI_leI (a := 300) (by omega) (by omega)).mp h0, hp, rfl⟩
theorem k_lo2 {x : Int32} (h0 : 300 ≤ x) (h1 : x ≤ 900) {a b : Nat} (ha : a ≤ 100000) (hb : b ≤ 100000) : a_lo (a_lo (x - nI a) - nI b) = a_lo (x - nI (a + b)) := by
  obtain ⟨p, p0, p1, rfl⟩ := k_900 h0 h1
  rw [k_lo_nat p1 (by omega), k_lo_nat p1 (by omega)]
  by_cases h : a + 300 ≤ p
  · rw [if_pos h, k_lo_nat (by omega) (by omega)]
    congr 1
    by_cases h2 : a + b + 300 ≤ p
    · rw [if_pos (by omega), if_pos h2]
      omega
    · rw [if_neg (by omega), if_neg h2]
  · rw [if_neg h, k_lo_nat (by omega) (by omega)]
    congr 1
    rw [if_neg (show ¬ a + b + 300 ≤ p by omega)]
    by_cases h2 : b + 300 ≤ 300
    · rw [if_pos h2]
      omega
    · rw [if_neg h2]
theorem nI_half {a : Nat} (h : a < 2 ^ 31) : nI a / 2 = nI (a / 2) := nI_divN (b := 2) h (by omega) (by omega)
theorem t_loss_ext {v u : Nat → Int32} (h0 : u 0 = v 0) (h1 : u 1 = v 1) (h3 : u 3 = v 3) (d : Int32) : t_loss u d = t_loss v d := by
  unfold t_loss t_fill
  rw [h0, h1, h3]
theorem k_L_ext {w v u : Nat → Int32} (h0 : u 0 = v 0) (h1 : u 1 = v 1) (h3 : u 3 = v 3) : k_L w u = k_L w v := by
  funext i
  unfold k_L
  rw [t_loss_ext h0 h1 h3]
/-- the layer that the air enters, and the other, behind some hours -/
theorem t_go_lay {w v : Nat → Int32} (hw : a_ok w) (hv : t_ok v) (hl : ¬ v 3 = 0) (r : Nat) : ∀ n, n ≤ 200 → t_go w v r n 4 = a_lo (v 4 - nI (k_S (fun i => if v 2 = 1 then k_L w v (r + i) / 2 else k_L w v (r + i)) n)) ∧ t_go w v r n 5 = a_lo (v 5 - nI (k_S (fun i => if v 2 = 1 then k_L w v (r + i) else k_L w v (r + i) / 2) n)) := by
  obtain ⟨k2, c, s, bb, ke, kl⟩ := id hv
  obtain ⟨⟨x0, x1⟩, ⟨y0, y1⟩, -⟩ := kl (by have := bb.1; generalize v 3 = x at *; grind)
  intro n
  induction n with
  | zero =>
    intro hn
    have e : ∀ x : Int32, x - nI 0 = x := fun x => by rw [nI_0, Int32.sub_zero]
    rw [k_S, k_S, e, e, t_lo_self x0, t_lo_self y0]
    exact ⟨rfl, rfl⟩
  | succ n ih =>
    intro hn
    obtain ⟨i4, i5⟩ := ih (by omega)
    obtain ⟨e0, e1, e2, e3⟩ := t_go_same w v r n
    obtain ⟨f1, f2⟩ := k_L_ok hw hv (r + n)
    have b1 : k_S (fun i => if v 2 = 1 then k_L w v (r + i) / 2 else k_L w v (r + i)) n ≤ 390 * n := k_S_le (fun i => by
      have := (k_L_ok hw hv (r + i)).1
      by_cases z : v 2 = 1
      · rw [if_pos z]; omega
      · rw [if_neg z]; omega) n
    have b2 : k_S (fun i => if v 2 = 1 then k_L w v (r + i) else k_L w v (r + i) / 2) n ≤ 390 * n := k_S_le (fun i => by
      have := (k_L_ok hw hv (r + i)).1
      by_cases z : v 2 = 1
      · rw [if_pos z]; omega
      · rw [if_neg z]; omega) n
    have hls : t_loss (t_go w v r n) (a_dry w (w 0 + nI (r + n))) = nI (k_L w v (r + n)) := (t_loss_ext e0 e1 e3 _).trans f2
    have p4 : t_go w v r (n + 1) 4 = t_low (t_go w v r n) (a_dry w (w 0 + nI (r + n))) := by
      rw [t_go, t_pass, e3]
      simp [hl]
    have p5 : t_go w v r (n + 1) 5 = t_high (t_go w v r n) (a_dry w (w 0 + nI (r + n))) := by
      rw [t_go, t_pass, e3]
      simp [hl]
    rw [p4, p5, k_S, k_S]
    unfold t_low t_high
    rw [hls, e1, e2, i4, i5, nI_half (by omega)]
    by_cases hs : 0 < v 1
    · rw [if_pos hs, if_pos hs]
      by_cases z : v 2 = 1
      · simp only [z, if_true] at b1 b2 ⊢
        rw [k_lo2 x0 x1 (by omega) (by omega), k_lo2 y0 y1 (by omega) (by omega)]
        exact ⟨rfl, rfl⟩
      · simp only [z, if_false] at b1 b2 ⊢
        rw [k_lo2 x0 x1 (by omega) (by omega), k_lo2 y0 y1 (by omega) (by omega)]
        exact ⟨rfl, rfl⟩
    · have hz : k_L w v (r + n) = 0 := by
        have h1 : v 1 = 0 := by have := s.1; generalize v 1 = x at *; grind
        unfold k_L t_loss
        rw [if_neg hl, h1]
        simp
      rw [if_neg hs, if_neg hs, hz]
      simp
/-- what both layers lose in n hours, if the fan is reversed behind k of them -/
def k_E (w v : Nat → Int32) (n k : Nat) : Nat := k_S (k_L w v) k + (k_S (fun i => k_L w v i / 2) n - k_S (fun i => k_L w v i / 2) k)
def k_O (w v : Nat → Int32) (n k : Nat) : Nat := k_S (fun i => k_L w v i / 2) k + (k_S (k_L w v) n - k_S (k_L w v) k)
/-- the spread then -/
def k_G (w v : Nat → Int32) (n k : Nat) : Int32 := (fun z : Int32 => if 0 ≤ z then z else -z) (a_lo (v (if v 2 = 1 then 5 else 4) - nI (k_E w v n k)) - a_lo (v (if v 2 = 1 then 4 else 5) - nI (k_O w v n k)))
theorem k_S_split (g : Nat → Nat) {n k : Nat} (h : k ≤ n) : k_S (fun i => g (k + i)) (n - k) = k_S g n - k_S g k := by
  have := k_S_add g k (n - k)
  rw [show k + (n - k) = n by omega] at this
  omega
theorem t_flip_ok {v : Nat → Int32} (h : t_ok v) : t_ok (upd v 2 (1 - v 2)) := by
  obtain ⟨k2, c, s', b, ke, kl⟩ := h
  unfold t_ok
  simp only [upd_at]
  simp
  exact ⟨by rcases k2 with k | k <;> rw [k] <;> decide, c, s', b, ke, kl⟩
theorem k_abs_lt {x y : Int32} (x0 : 300 ≤ x) (x1 : x < y) (y1 : y ≤ 900) : ¬ 0 ≤ x - y ∧ 0 ≤ y - x := by
  constructor <;> grind
theorem k_abs_sym {x y : Int32} (x0 : 300 ≤ x) (x1 : x ≤ 900) (y0 : 300 ≤ y) (y1 : y ≤ 900) : (if 0 ≤ x - y then x - y else -(x - y)) = (if 0 ≤ y - x then y - x else -(y - x)) := by
  by_cases h : x < y
  · obtain ⟨a, b⟩ := k_abs_lt x0 h y1
    rw [if_neg a, if_pos b, Int32.neg_sub]
  · by_cases h2 : y < x
    · obtain ⟨a, b⟩ := k_abs_lt y0 h2 x1
      rw [if_pos b, if_neg a, Int32.neg_sub]
    · have e : x = y := by grind
      rw [e]
theorem k_lo_rng {x : Int32} (h0 : 300 ≤ x) (h1 : x ≤ 900) {a : Nat} (ha : a ≤ 1000000) : 300 ≤ a_lo (x - nI a) ∧ a_lo (x - nI a) ≤ 900 := by
  obtain ⟨p, p0, p1, rfl⟩ := k_900 h0 h1
  rw [k_lo_nat p1 ha]
  by_cases h : a + 300 ≤ p
  · rw [if_pos h]
    exact ⟨(nI_leI (a := 300) (by omega) (by omega)).mpr (by omega), (nI_leI (b := 900) (by omega) (by omega)).mpr (by omega)⟩
  · rw [if_neg h]
    decide
theorem k_gap_rev {w v : Nat → Int32} (hw : a_ok w) (hv : t_ok v) (hl : ¬ v 3 = 0) {n k : Nat} (hn : n ≤ 100) (hk : k ≤ n) : t_gap (t_go w (upd (t_go w v 0 k) 2 (1 - t_go w v 0 k 2)) k (n - k)) = k_G w v n k := by
  obtain ⟨k2, c, s, bb, ke, kl⟩ := id hv
  obtain ⟨⟨x0, x1⟩, ⟨y0, y1⟩, -⟩ := kl (by have := bb.1; generalize v 3 = x at *; grind)
  obtain ⟨e0, e1, e2, e3⟩ := t_go_same w v 0 k
  obtain ⟨a4, a5⟩ := t_go_lay hw hv hl 0 k (by omega)
  have hu := t_flip_ok (t_go_ok hw hv 0 k)
  have u0 : upd (t_go w v 0 k) 2 (1 - t_go w v 0 k 2) 0 = v 0 := by rw [upd_at, if_neg (by decide), e0]
  have u1 : upd (t_go w v 0 k) 2 (1 - t_go w v 0 k 2) 1 = v 1 := by rw [upd_at, if_neg (by decide), e1]
  have u3 : upd (t_go w v 0 k) 2 (1 - t_go w v 0 k 2) 3 = v 3 := by rw [upd_at, if_neg (by decide), e3]
  obtain ⟨b4, b5⟩ := t_go_lay hw hu (by rw [u3]; exact hl) k (n - k) (by omega)
  rw [k_L_ext u0 u1 u3] at b4 b5
  have f2 : upd (t_go w v 0 k) 2 (1 - t_go w v 0 k 2) 2 = 1 - v 2 := by rw [upd_at, if_pos rfl, e2]
  have f4 : upd (t_go w v 0 k) 2 (1 - t_go w v 0 k 2) 4 = t_go w v 0 k 4 := by rw [upd_at, if_neg (by decide)]
  have f5 : upd (t_go w v 0 k) 2 (1 - t_go w v 0 k 2) 5 = t_go w v 0 k 5 := by rw [upd_at, if_neg (by decide)]
  rw [f2, f4, a4] at b4
  rw [f2, f5, a5] at b5
  have m1 : ∀ m, k_S (k_L w v) m ≤ 390 * m := k_S_le (fun i => (k_L_ok hw hv i).1)
  have m2 : ∀ m, k_S (fun i => k_L w v i / 2) m ≤ 390 * m := k_S_le (fun i => by have := (k_L_ok hw hv i).1; omega)
  have s1 := k_S_split (k_L w v) hk
  have s2 := k_S_split (fun i => k_L w v i / 2) hk
  have n1 := m1 n
  have n2 := m2 n
  have n3 := m1 k
  have n4 := m2 k
  have z0 : ∀ i, 0 + i = i := Nat.zero_add
  simp only [z0] at b4 b5
  unfold t_gap k_G
  rw [b4, b5]
  rcases k2 with z | z
  · simp only [z, show ¬ ((0 : Int32) = 1) by decide, if_false, show (1 : Int32) - 0 = 1 by decide, if_true]
    rw [show (fun i => k_L w v i) = k_L w v from rfl, s1, s2, k_lo2 x0 x1 (by omega) (by omega), k_lo2 y0 y1 (by omega) (by omega)]
    rfl
  · simp only [z, show ¬ ((0 : Int32) = 1) by decide, if_false, show (1 : Int32) - 1 = 0 by decide, if_true]
    rw [show (fun i => k_L w v i) = k_L w v from rfl, s1, s2, k_lo2 x0 x1 (by omega) (by omega), k_lo2 y0 y1 (by omega) (by omega)]
    have r1 := k_lo_rng x0 x1 (a := k_O w v n k) (by unfold k_O; omega)
    have r2 := k_lo_rng y0 y1 (a := k_E w v n k) (by unfold k_E; omega)
    exact k_abs_sym r1.1 r1.2 r2.1 r2.2
/-- the first number with the smallest spread -/
def k_am (G : Nat → Int32) : Nat → Nat → Int32 → Int32 → Int32
  | 0, _, best, _ => best
  | d + 1, z, best, small => if small ≤ G z then k_am G d (z + 1) best small else k_am G d (z + 1) (nI z) (G z)
theorem k_E_step {w v : Nat → Int32} (hw : a_ok w) (hv : t_ok v) {n k : Nat} (hk : k < n) : k_E w v n (k + 1) = k_E w v n k + (k_L w v k - k_L w v k / 2) ∧ k_O w v n k = k_O w v n (k + 1) + (k_L w v k - k_L w v k / 2) := by
  have s1 := k_S_add (k_L w v) (k + 1) (n - (k + 1))
  have s2 := k_S_add (fun i => k_L w v i / 2) (k + 1) (n - (k + 1))
  rw [show k + 1 + (n - (k + 1)) = n by omega] at s1 s2
  unfold k_E k_O
  rw [k_S] at s1 s2
  rw [k_S, k_S]
  omega
section
variable {F t n : Nat} {S : hk_S} {w v : Nat → Int32} {x y : Int32}
theorem cX_best_42 {K : hk_S → Int32 → Int32 → Int32 → Option (Int32 × hk_S)} (hF : 10 ≤ F) (hw : a_ok w) (hv : t_ok v) (hn : n ≤ 100) (hA : hk_air S 1 w) (htr : hk_tr (S t) v) : ∀ (d z f : Nat), z + d = n → d < f → mX11_bestHourToReverse_42 hk_E0 F 0 t (nI n) K f S (x - nI (k_S (fun i => k_L w v i / 2) z)) (y - nI (k_S (k_L w v) z)) (nI z) = K S (x - nI (k_S (fun i => k_L w v i / 2) n)) (y - nI (k_S (k_L w v) n)) (nI n) := by
  intro d
  induction d with
  | zero =>
    intro z f h1 h2
    obtain ⟨f, rfl⟩ : ∃ g, f = g + 1 := ⟨f - 1, by omega⟩
    have hz : z = n := by omega
    subst hz
    rw [mX11_bestHourToReverse_42]
    dsimp only
    rw [if_pos (nI_le (by omega) (by omega))]
  | succ d ih =>
    intro z f h1 h2
    obtain ⟨f, rfl⟩ : ∃ g, f = g + 1 := ⟨f - 1, by omega⟩
    have hL := hk_L1 hE2
    have h0 := hw.1
    have hz1 : nI z ≤ 100 := (nI_leI (b := 100) (by omega) (by omega)).mpr (by omega)
    have hz0 : 0 ≤ nI z := nI_pos' (by omega)
    obtain ⟨f1, f2⟩ := k_L_ok hw hv z
    have hi := ih (z + 1) f (by omega) (by omega)
    rw [k_S, k_S, ← k_sub2, ← k_sub2] at hi
    rw [mX11_bestHourToReverse_42]
    dsimp only
    rw [if_neg (nI_ge (by omega) (by omega)), rE_0_0 hE2, Option.bind_some, if_pos hL.1, hL.2.2.2.2.2.2.2.1, Option.bind_some, if_pos hL.2.1, hA.1, pX1_drynessOf hL (by omega) (by generalize w 0 = a at *; generalize nI z = b at *; grind) (by generalize w 0 = a at *; generalize nI z = b at *; grind) (a_mok_of hw) hA, Option.bind_some]
    dsimp only
    rw [pX10_lossAt htr hv, Option.bind_some, f2]
    simp only [hk_let_eq, nI_1]
    rw [nI_half (by omega)]
    exact hi
theorem cX_best_118 (hF : 10 ≤ F) (hw : a_ok w) (hv : t_ok v) (hn : n ≤ 100) (hA : hk_air S 1 w) (htr : hk_tr (S t) v) (hx : x = v (if v 2 = 1 then 5 else 4)) (hy : y = v (if v 2 = 1 then 4 else 5)) : ∀ (d z f : Nat) (best small : Int32), z + d = n → d < f → mX11_bestHourToReverse_118 hk_E0 F 0 t (nI n) (fun S42 z43 z44 z45 z46 z47 => some (z45, S42)) f S (x - nI (k_E w v n z)) (y - nI (k_O w v n z)) best small (nI z) = some (k_am (k_G w v n) d (z + 1) best small, S) := by
  intro d
  induction d with
  | zero =>
    intro z f best small h1 h2
    obtain ⟨f, rfl⟩ : ∃ g, f = g + 1 := ⟨f - 1, by omega⟩
    have hz : z = n := by omega
    subst hz
    rw [mX11_bestHourToReverse_118]
    dsimp only
    rw [if_pos (nI_le (by omega) (by omega)), k_am]
  | succ d ih =>
    intro z f best small h1 h2
    obtain ⟨f, rfl⟩ : ∃ g, f = g + 1 := ⟨f - 1, by omega⟩
    have hL := hk_L1 hE2
    have h0 := hw.1
    have hz1 : nI z ≤ 100 := (nI_leI (b := 100) (by omega) (by omega)).mpr (by omega)
    have hz0 : 0 ≤ nI z := nI_pos' (by omega)
    obtain ⟨f1, f2⟩ := k_L_ok hw hv z
    obtain ⟨g1, g2⟩ := k_E_step hw hv (n := n) (k := z) (by omega)
    have ex : x - nI (k_E w v n z) - nI (k_L w v z - k_L w v z / 2) = x - nI (k_E w v n (z + 1)) := by rw [k_sub2, g1]
    have ey : y - nI (k_O w v n z) + nI (k_L w v z - k_L w v z / 2) = y - nI (k_O w v n (z + 1)) := by
      rw [g2, ← nI_add]
      generalize nI (k_O w v n (z + 1)) = a
      generalize nI (k_L w v z - k_L w v z / 2) = b
      grind
    rw [mX11_bestHourToReverse_118]
    dsimp only
    rw [if_neg (nI_ge (by omega) (by omega)), rE_0_0 hE2, Option.bind_some, if_pos hL.1, hL.2.2.2.2.2.2.2.1, Option.bind_some, if_pos hL.2.1, hA.1, pX1_drynessOf hL (by omega) (by generalize w 0 = a at *; generalize nI z = b at *; grind) (by generalize w 0 = a at *; generalize nI z = b at *; grind) (a_mok_of hw) hA, Option.bind_some]
    dsimp only
    rw [pX10_lossAt htr hv, Option.bind_some, f2]
    simp only [hk_let_eq]
    rw [nI_half (by omega), nI_subN (by omega), ex, ey, pX11_low, Option.bind_some]
    dsimp only
    rw [pX11_low, Option.bind_some]
    dsimp only
    rw [pJ9_abs, Option.bind_some, k_am]
    have eg : k_G w v n (z + 1) = (if 0 ≤ a_lo (x - nI (k_E w v n (z + 1))) - a_lo (y - nI (k_O w v n (z + 1))) then a_lo (x - nI (k_E w v n (z + 1))) - a_lo (y - nI (k_O w v n (z + 1))) else -(a_lo (x - nI (k_E w v n (z + 1))) - a_lo (y - nI (k_O w v n (z + 1))))) := by
      unfold k_G
      rw [← hx, ← hy]
    rw [← eg, nI_1]
    dsimp only
    by_cases c : small ≤ k_G w v n (z + 1)
    · rw [if_pos c, if_pos c]
      exact ih (z + 1) f best small (by omega) (by omega)
    · rw [if_neg c, if_neg c]
      exact ih (z + 1) f _ _ (by omega) (by omega)
theorem cX_best (hF : 200 ≤ F) (hw : a_ok w) (hv : t_ok v) (hn : n ≤ 100) (hA : hk_air S 1 w) (htr : hk_tr (S t) v) : mX11_bestHourToReverse hk_E0 F S 0 t (nI n) = some (k_am (k_G w v n) n 1 0 (k_G w v n 0), S) := by
  obtain ⟨u0, u1, u2, u3, u4, u5, u6, u7, u8, u9⟩ := id htr
  have e0 : ∀ x : Int32, x - nI 0 = x := fun x => by rw [nI_0, Int32.sub_zero]
  have eE : k_E w v n 0 = k_S (fun i => k_L w v i / 2) n := by unfold k_E; rw [k_S, k_S]; omega
  have eO : k_O w v n 0 = k_S (k_L w v) n := by unfold k_O; rw [k_S, k_S]; omega
  have key : ∀ x y : Int32, x = v (if v 2 = 1 then 5 else 4) → y = v (if v 2 = 1 then 4 else 5) → mX11_bestHourToReverse_42 hk_E0 F 0 t (nI n) (fun S16 z17 z18 z19 => (mX11_notBelowLowest hk_E0 F S16 z17).bind (fun r20 => (mX11_notBelowLowest hk_E0 F r20.2 z18).bind (fun r21 => (mJ9_abs_0f7a4 hk_E0 F r21.2 (r20.1 - r21.1)).bind (fun r22 => mX11_bestHourToReverse_118 hk_E0 F 0 t (nI n) (fun S42 z43 z44 z45 z46 z47 => some (z45, S42)) F r22.2 z17 z18 0 r22.1 0)))) F S x y 0 = some (k_am (k_G w v n) n 1 0 (k_G w v n 0), S) := fun x y hx hy => by
    have h := cX_best_42 (F := F) (t := t) (n := n) (S := S) (w := w) (v := v) (x := x) (y := y) (K := fun S16 z17 z18 z19 => (mX11_notBelowLowest hk_E0 F S16 z17).bind (fun r20 => (mX11_notBelowLowest hk_E0 F r20.2 z18).bind (fun r21 => (mJ9_abs_0f7a4 hk_E0 F r21.2 (r20.1 - r21.1)).bind (fun r22 => mX11_bestHourToReverse_118 hk_E0 F 0 t (nI n) (fun S42 z43 z44 z45 z46 z47 => some (z45, S42)) F r22.2 z17 z18 0 r22.1 0)))) (by omega) hw hv hn hA htr n 0 F (by omega) (by omega)
    rw [k_S, k_S, e0, e0] at h
    refine h.trans ?_
    rw [pX11_low, Option.bind_some]
    dsimp only
    rw [pX11_low, Option.bind_some]
    dsimp only
    rw [pJ9_abs, Option.bind_some]
    dsimp only
    have eg : k_G w v n 0 = (if 0 ≤ a_lo (x - nI (k_S (fun i => k_L w v i / 2) n)) - a_lo (y - nI (k_S (k_L w v) n)) then a_lo (x - nI (k_S (fun i => k_L w v i / 2) n)) - a_lo (y - nI (k_S (k_L w v) n)) else -(a_lo (x - nI (k_S (fun i => k_L w v i / 2) n)) - a_lo (y - nI (k_S (k_L w v) n)))) := by
      unfold k_G
      rw [← hx, ← hy, eE, eO]
    rw [← eg]
    have h2 := cX_best_118 (F := F) (t := t) (n := n) (S := S) (w := w) (v := v) (x := x) (y := y) (by omega) hw hv hn hA htr hx hy n 0 F 0 (k_G w v n 0) (by omega) (by omega)
    rw [eE, eO] at h2
    exact h2
  unfold mX11_bestHourToReverse
  simp only [hk_let_eq]
  rcases hv.1 with z | z
  · have z2 : S t 2 = 1 := by rw [u2, z]; rfl
    simp only [z2, k_10, if_false]
    rw [u6, u7]
    exact key _ _ (by rw [z, if_neg (by decide)]) (by rw [z, if_neg (by decide)])
  · have z2 : S t 2 = 0 := by rw [u2, z]; rfl
    simp only [z2, if_true]
    rw [u6, u7]
    exact key _ _ (by rw [z, if_pos rfl]) (by rw [z, if_pos rfl])
end
theorem pX12_spreadBy {F t n k : Nat} {M : hk_S} (hF : 2000 ≤ F) (ht : t < 8) (hn : n ≤ 100) (hk : k ≤ n) (hw : a_ok (M 222)) (hl : ¬ a_t (M 222) t 3 = 0) : mX12_spreadBy hk_E0 F M 221 (nI t) (nI k) (nI n) = some (k_G (M 222) (a_t (M 222) t) n k, va_up M 224 (a_cp (M 222) (M 224) 0)) := by
  have hok : t_ok (a_t (M 222) t) := hw.2.2.2.2.2.2.2.2.2.1 t ht
  have e224 : (va_up M 224 (a_cp (M 222) (M 224) 0)) 222 = M 222 := va_up_ne _ _ (by decide)
  obtain ⟨W, w1, w2⟩ := pX12_tries (F := F) (r := 0) (n := k) (w := M 222) (v := a_t (M 222) t) (M := va_up M 224 (a_cp (M 222) (M 224) 0)) hE1 (by omega) ht hw hok (by omega) (by rw [e224]; exact k_tw_self _ _)
  rw [show nI 0 = (0 : Int32) from rfl] at w1
  have eW2 : a_t W t 2 = t_go (M 222) (a_t (M 222) t) 0 k 2 := w2.2 2 (by omega)
  have htw : k_tw (upd W (17 + 9 * t + 2) (1 - a_t W t 2)) (M 222) t (upd (t_go (M 222) (a_t (M 222) t) 0 k) 2 (1 - t_go (M 222) (a_t (M 222) t) 0 k 2)) := ⟨fun i h1 h2 => by rw [upd_at, if_neg (by omega)]; exact w2.1 i h1 h2, fun j hj => by
    rw [upd_t, upd_at, eW2]
    by_cases z : j = 2
    · rw [if_pos z, if_pos z]
    · rw [if_neg z, if_neg z]
      exact w2.2 j hj⟩
  obtain ⟨W2, w3, w4⟩ := pX12_tries (F := F) (r := k) (n := n - k) (w := M 222) (v := upd (t_go (M 222) (a_t (M 222) t) 0 k) 2 (1 - t_go (M 222) (a_t (M 222) t) 0 k 2)) (M := va_up (va_up (va_up M 224 (a_cp (M 222) (M 224) 0)) 222 W) 222 (upd W (17 + 9 * t + 2) (1 - a_t W t 2))) hE1 (by omega) ht hw (t_flip_ok (t_go_ok hw hok 0 k)) (by omega) (by rw [va_up_self]; exact htw)
  rw [k_upup, k_upup] at w3
  have eg := k_gap_rev hw hok hl hn hk
  unfold mX12_spreadBy
  rw [pX12_setAside hE1 (by omega), Option.bind_some, w1, Option.bind_some, pX12_of_2 hE1 ht, Option.bind_some, va_up_self]
  dsimp only
  rw [pX12_to_2 hE1 ht, Option.bind_some, va_up_self, k_upup, nI_subN hk, w3, Option.bind_some, pX12_apart hE1 ht, Option.bind_some, va_up_self]
  dsimp only
  rw [k_bring hE1 (by omega) ht w4, Option.bind_some, ← eg]
  congr 2
  unfold t_gap
  rw [w4.2 4 (by omega), w4.2 5 (by omega)]
theorem pX12_best_45 {F t n : Nat} (hF : 2000 ≤ F) (ht : t < 8) (hn : n ≤ 100) : ∀ (d z f j : Nat) (small : Int32) (M : hk_S), z + d = n + 1 → d < f → j ≤ 100 → a_ok (M 222) → ¬ a_t (M 222) t 3 = 0 → ∃ N, mX12_bestReversal_45 hk_E0 F 221 (nI t) (nI n) (fun S19 z20 z21 z22 => some (z20, S19)) f M (nI j) small (nI z) = some (k_am (k_G (M 222) (a_t (M 222) t) n) d z (nI j) small, N) ∧ hk_same M N ∧ N 221 15 = M 221 15 ∧ N 231 = M 231 := by
  intro d
  induction d with
  | zero =>
    intro z f j small M h1 hf hj hw hl
    obtain ⟨f, rfl⟩ : ∃ g, f = g + 1 := ⟨f - 1, by omega⟩
    refine ⟨M, ?_, hk_same_refl _, rfl, rfl⟩
    rw [mX12_bestReversal_45]
    dsimp only
    rw [if_pos (nI_lt (by omega) (by omega)), k_am]
  | succ d ih =>
    intro z f j small M h1 hf hj hw hl
    obtain ⟨f, rfl⟩ : ∃ g, f = g + 1 := ⟨f - 1, by omega⟩
    have e224 : (va_up M 224 (a_cp (M 222) (M 224) 0)) 222 = M 222 := va_up_ne _ _ (by decide)
    have hj1 : ¬ nI j = -1 := fun q => by
      have : (0 : Int32) ≤ nI j := nI_pos' (by omega)
      rw [q] at this
      exact absurd this (by decide)
    rw [mX12_bestReversal_45]
    dsimp only
    rw [if_neg (nI_nlt (by omega) (by omega)), pX12_isEmpty hE1 ht, if_neg hl, Option.bind_some]
    dsimp only
    rw [if_neg (by decide), pX12_spreadBy hF ht hn (by omega) hw hl, Option.bind_some, if_neg hj1, k_am]
    dsimp only
    by_cases c : small ≤ k_G (M 222) (a_t (M 222) t) n z
    · obtain ⟨N, i1, i2, i3, i4⟩ := ih (z + 1) f j small (va_up M 224 (a_cp (M 222) (M 224) 0)) (by omega) (by omega) hj (by rw [e224]; exact hw) (by rw [e224]; exact hl)
      rw [e224] at i1
      rw [if_pos c, if_pos c, hk_let_eq, nI_1]
      exact ⟨N, i1, hk_same_trans (hk_same_aside _ _) i2, i3.trans (by rw [va_up_ne _ _ (by decide)]), i4.trans (by rw [va_up_ne _ _ (by decide)])⟩
    · obtain ⟨N, i1, i2, i3, i4⟩ := ih (z + 1) f z (k_G (M 222) (a_t (M 222) t) n z) (va_up M 224 (a_cp (M 222) (M 224) 0)) (by omega) (by omega) (by omega) (by rw [e224]; exact hw) (by rw [e224]; exact hl)
      rw [e224] at i1
      rw [if_neg c, if_neg c, hk_let_eq, nI_1]
      exact ⟨N, i1, hk_same_trans (hk_same_aside _ _) i2, i3.trans (by rw [va_up_ne _ _ (by decide)]), i4.trans (by rw [va_up_ne _ _ (by decide)])⟩
set_option maxHeartbeats 4000000 in
theorem mop_53_ok {F : Nat} {S : hk_S} {p1 p2 p3 p4 p5 : Int32} (hF : 2000000 ≤ F) (hI : hk_I S) : ∃ S', mop_53 F S p1 p2 p3 p4 p5 = some S' ∧ hk_I S' := by
  have hL := hk_L1 hE2
  have hA := hI.1.1
  have hN := hI.1.2.1
  rcases k_exT (F := F) hI p1 with ⟨t, ht, rfl, hn, he⟩ | ⟨hno, he⟩
  · have htr := hI.1.2.2.1 t ht
    have h0 := k_leaf0 hI.2.1 ht
    have hok := hI.2.1.2.2.2.2.2.2.2.2.2.1 t ht
    have hin := k_in (by omega) hn
    by_cases q : 1 ≤ p2 ∧ p2 ≤ 100
    · obtain ⟨n, hn2, rfl⟩ := nI_of2 (x := p2) (M := 100) (n := 100) (by decide) (by grind) q.2
      have hsame := hk_same_refl S
      by_cases ql : a_t (S 222) t 3 = 0
      · have hc : mX11_bestReversal hk_E0 F S 0 (nI t) (nI n) = some (.inr ((-1), S)) := by
          unfold mX11_bestReversal
          rw [he, hk_xb_inr]
          dsimp only
          rw [if_pos (hk_L_t hL ht), k_rq, if_pos q, hk_xb_inr, pX10_hasLeaf htr h0, if_pos ql, Option.bind_some]
          dsimp only
          rw [if_pos rfl]
        have hl : mL_bestReversal hk_E0 F S 0 (nI t) (nI n) 231 = some (0, hk_up S 231 0 ((-1))) := by
          unfold mL_bestReversal
          rw [hc]
          dsimp only
          rw [if_pos hk_ok231]
        have hs1 : hk_same S (hk_up S 231 0 ((-1))) := hk_same_trans hsame (hk_same_out _ _)
        have eM : (hk_up S 231 0 ((-1))) 222 = S 222 := hs1.2.2.1
        have hw : a_ok ((hk_up S 231 0 ((-1))) 222) := by rw [eM]; exact hI.2.1
        have hs2 : hk_same S (hk_up (hk_up S 231 0 ((-1))) 221 15 0) := hk_same_trans hs1 (hk_same_thr _ _)
        have eM2 : (hk_up (hk_up S 231 0 ((-1))) 221 15 0) 222 = S 222 := hs2.2.2.1
        generalize hMM : hk_up (hk_up S 231 0 ((-1))) 221 15 0 = MM at *
        have e15 : MM 221 15 = 0 := by rw [← hMM, hk_up_eq, if_pos rfl]
        have e231 : MM 231 0 = (-1) := by rw [← hMM, hk_upne _ _ _ (by decide), hk_up_eq, if_pos rfl]
        have hm : ∃ N, mX12_bestReversal hk_E0 F (hk_up S 231 0 ((-1))) 221 (nI t) (nI n) = some ((-1), N) ∧ hk_same MM N ∧ N 221 15 = MM 221 15 ∧ N 231 = MM 231 := by
          unfold mX12_bestReversal
          simp only [pX12_in, k_10, not_false_eq_true, not_true_eq_false, if_true, if_false, Option.bind_some, pX12_thr0, pX12_thr1, pX12_thr00, pX12_thr01, pX12_thr1_, pX12_thr000, pX12_thr001, pX12_thr01_, pX12_thr1__, pX12_isTrough hE1 hw, eM, if_pos hin, if_pos q, hMM]
          obtain ⟨f, hf⟩ : ∃ f, F = f + 1 := ⟨F - 1, by omega⟩
          refine ⟨MM, ?_, hk_same_refl _, rfl, rfl⟩
          conv => lhs; arg 7; rw [hf]
          rw [mX12_bestReversal_45]
          dsimp only
          rw [if_neg (show ¬ nI n < 0 from nI_pos (by omega)), show mX12_isEmpty hk_E0 F MM 221 (nI t) = some (1, MM) from (by rw [pX12_isEmpty hE1 ht, eM2, if_pos ql]), Option.bind_some]
          dsimp only
          rw [if_pos (by decide)]
        obtain ⟨N, hm, n1, n2, n3⟩ := hm
        exact ⟨N, k_mop (m := fun S => mX12_bestReversal hk_E0 F S 221 (nI t) (nI n)) hl hm (n2.trans e15) (fun _ => by rw [n3]; exact e231), hk_I_same hI (hk_same_trans hs2 n1)⟩
      · have hc : mX11_bestReversal hk_E0 F S 0 (nI t) (nI n) = some (.inr (k_am (k_G (S 222) (a_t (S 222) t) n) n 1 0 (k_G (S 222) (a_t (S 222) t) n 0), S)) := by
          unfold mX11_bestReversal
          rw [he, hk_xb_inr]
          dsimp only
          rw [if_pos (hk_L_t hL ht), k_rq, if_pos q, hk_xb_inr, pX10_hasLeaf htr h0, if_neg ql, Option.bind_some]
          dsimp only
          rw [if_neg (by decide), cX_best (by omega) hI.2.1 hok hn2 hA htr, Option.bind_some]
        have hl : mL_bestReversal hk_E0 F S 0 (nI t) (nI n) 231 = some (0, hk_up S 231 0 (k_am (k_G (S 222) (a_t (S 222) t) n) n 1 0 (k_G (S 222) (a_t (S 222) t) n 0))) := by
          unfold mL_bestReversal
          rw [hc]
          dsimp only
          rw [if_pos hk_ok231]
        have hs1 : hk_same S (hk_up S 231 0 (k_am (k_G (S 222) (a_t (S 222) t) n) n 1 0 (k_G (S 222) (a_t (S 222) t) n 0))) := hk_same_trans hsame (hk_same_out _ _)
        have eM : (hk_up S 231 0 (k_am (k_G (S 222) (a_t (S 222) t) n) n 1 0 (k_G (S 222) (a_t (S 222) t) n 0))) 222 = S 222 := hs1.2.2.1
        have hw : a_ok ((hk_up S 231 0 (k_am (k_G (S 222) (a_t (S 222) t) n) n 1 0 (k_G (S 222) (a_t (S 222) t) n 0))) 222) := by rw [eM]; exact hI.2.1
        have hs2 : hk_same S (hk_up (hk_up S 231 0 (k_am (k_G (S 222) (a_t (S 222) t) n) n 1 0 (k_G (S 222) (a_t (S 222) t) n 0))) 221 15 0) := hk_same_trans hs1 (hk_same_thr _ _)
        have eM2 : (hk_up (hk_up S 231 0 (k_am (k_G (S 222) (a_t (S 222) t) n) n 1 0 (k_G (S 222) (a_t (S 222) t) n 0))) 221 15 0) 222 = S 222 := hs2.2.2.1
        generalize hMM : hk_up (hk_up S 231 0 (k_am (k_G (S 222) (a_t (S 222) t) n) n 1 0 (k_G (S 222) (a_t (S 222) t) n 0))) 221 15 0 = MM at *
        have e15 : MM 221 15 = 0 := by rw [← hMM, hk_up_eq, if_pos rfl]
        have e231 : MM 231 0 = k_am (k_G (S 222) (a_t (S 222) t) n) n 1 0 (k_G (S 222) (a_t (S 222) t) n 0) := by rw [← hMM, hk_upne _ _ _ (by decide), hk_up_eq, if_pos rfl]
        have hm : ∃ N, mX12_bestReversal hk_E0 F (hk_up S 231 0 (k_am (k_G (S 222) (a_t (S 222) t) n) n 1 0 (k_G (S 222) (a_t (S 222) t) n 0))) 221 (nI t) (nI n) = some (k_am (k_G (S 222) (a_t (S 222) t) n) n 1 0 (k_G (S 222) (a_t (S 222) t) n 0), N) ∧ hk_same MM N ∧ N 221 15 = MM 221 15 ∧ N 231 = MM 231 := by
          unfold mX12_bestReversal
          simp only [pX12_in, k_10, not_false_eq_true, not_true_eq_false, if_true, if_false, Option.bind_some, pX12_thr0, pX12_thr1, pX12_thr00, pX12_thr01, pX12_thr1_, pX12_thr000, pX12_thr001, pX12_thr01_, pX12_thr1__, pX12_isTrough hE1 hw, eM, if_pos hin, if_pos q, hMM]
          obtain ⟨f, hf⟩ : ∃ f, F = f + 1 := ⟨F - 1, by omega⟩
          have e224 : (va_up MM 224 (a_cp (MM 222) (MM 224) 0)) 222 = MM 222 := va_up_ne _ _ (by decide)
          have hlM : ¬ a_t (MM 222) t 3 = 0 := by rw [eM2]; exact ql
          have hwM : a_ok (MM 222) := by rw [eM2]; exact hI.2.1
          obtain ⟨N, n1, n2, n3, n4⟩ := pX12_best_45 (F := F) (t := t) (n := n) (by omega) ht hn2 n 1 f 0 (k_G (MM 222) (a_t (MM 222) t) n 0) (va_up MM 224 (a_cp (MM 222) (MM 224) 0)) (by omega) (by omega) (by omega) (by rw [e224]; exact hwM) (by rw [e224]; exact hlM)
          refine ⟨N, ?_, hk_same_trans (hk_same_aside _ _) n2, n3.trans (by rw [va_up_ne _ _ (by decide)]), n4.trans (by rw [va_up_ne _ _ (by decide)])⟩
          conv => lhs; arg 7; rw [hf]
          rw [mX12_bestReversal_45]
          dsimp only
          rw [if_neg (show ¬ nI n < 0 from nI_pos (by omega)), show mX12_isEmpty hk_E0 F MM 221 (nI t) = some (0, MM) from (by rw [pX12_isEmpty hE1 ht, if_neg hlM]), Option.bind_some]
          dsimp only
          rw [if_neg (by decide), show mX12_spreadBy hk_E0 F MM 221 (nI t) 0 (nI n) = _ from pX12_spreadBy (k := 0) (by omega) ht hn2 (by omega) hwM hlM, Option.bind_some, if_pos rfl, hk_let_eq]
          dsimp only
          rw [e224, eM2] at n1
          rw [eM2]
          exact n1
        obtain ⟨N, hm, n1, n2, n3⟩ := hm
        exact ⟨N, k_mop (m := fun S => mX12_bestReversal hk_E0 F S 221 (nI t) (nI n)) hl hm (n2.trans e15) (fun _ => by rw [n3]; exact e231), hk_I_same hI (hk_same_trans hs2 n1)⟩
    · have hc : mX11_bestReversal hk_E0 F S 0 (nI t) p2 = some (.inl (1, S)) := by
        unfold mX11_bestReversal
        rw [he, hk_xb_inr]
        dsimp only
        rw [if_pos (hk_L_t hL ht), k_rq, if_neg q, hk_xb_inl]
      have hl : mL_bestReversal hk_E0 F S 0 (nI t) p2 231 = some (2, S) := by
        unfold mL_bestReversal
        rw [hc]
        rfl
      have hm : mX12_bestReversal hk_E0 F S 221 (nI t) p2 = some (0, hk_up S 221 15 2) := by
        unfold mX12_bestReversal
        simp only [pX12_in, k_10, not_false_eq_true, not_true_eq_false, if_true, if_false, Option.bind_some, pX12_thr0, pX12_thr1, pX12_thr00, pX12_thr01, pX12_thr1_, pX12_thr000, pX12_thr001, pX12_thr01_, pX12_thr1__, pX12_isTrough hE1 hI.2.1, if_pos hin, if_neg q]
      exact ⟨_, k_mop (m := fun S => mX12_bestReversal hk_E0 F S 221 (nI t) p2) hl hm (by rw [hk_up_eq, if_pos rfl]) (fun q => absurd q (by decide)), hk_I_same hI (hk_same_thr _ _)⟩
  · have hc : mX11_bestReversal hk_E0 F S 0 p1 p2 = some (.inl (0, S)) := by
      unfold mX11_bestReversal
      rw [he, hk_xb_inl]
    have hl : mL_bestReversal hk_E0 F S 0 p1 p2 231 = some (1, S) := by
      unfold mL_bestReversal
      rw [hc]
      rfl
    have hm : mX12_bestReversal hk_E0 F S 221 p1 p2 = some (0, hk_up S 221 15 1) := by
      unfold mX12_bestReversal
      by_cases q : 1 ≤ p2 ∧ p2 ≤ 100 <;> simp only [pX12_in, k_10, not_false_eq_true, not_true_eq_false, if_true, if_false, Option.bind_some, pX12_thr0, pX12_thr1, pX12_thr00, pX12_thr01, pX12_thr1_, pX12_thr000, pX12_thr001, pX12_thr01_, pX12_thr1__, pX12_isTrough hE1 hI.2.1, if_neg hno, q, and_self]
    exact ⟨_, k_mop (m := fun S => mX12_bestReversal hk_E0 F S 221 p1 p2) hl hm (by rw [hk_up_eq, if_pos rfl]) (fun q => absurd q (by decide)), hk_I_same hI (hk_same_thr _ _)⟩
