/-! the law's own sums -/
def l_sm (f : Nat → Int64) : Nat → Int64
  | 0 => 0
  | n + 1 => l_sm f n + f n
theorem k_nlt {n z : Nat} {x : Int32} (hx : x = nI n) (h : z < n) (hn : n ≤ 8) : ¬ x ≤ nI z := by
  rw [hx]
  exact nI_ge (by omega) (by omega)
theorem k_lt9 {n z : Nat} {x : Int32} (hx : x = nI n) (h : z < n) (hn : n ≤ 8) : nI z < x := by
  rw [hx]
  exact nI_lt h (by omega)
theorem k_le9 {n : Nat} {x : Int32} (hx : x = nI n) (hn : n ≤ 8) : x ≤ nI n := by
  rw [hx]
  exact nI_le (by omega) (by omega)
theorem k_n9 {w : Nat → Int32} (h : a_ok w) : ∃ n, n ≤ 8 ∧ w 9 = nI n := nI_of2 (x := w 9) (M := 8) (n := 8) (by decide) (by have := h.2.2.2.2.2.2.2.1.1; grind) h.2.2.2.2.2.2.2.1.2
theorem k_n10 {w : Nat → Int32} (h : a_ok w) : ∃ n, n ≤ 6 ∧ w 10 = nI n := nI_of2 (x := w 10) (M := 6) (n := 6) (by decide) (by have := h.2.2.2.2.2.2.2.2.1.1; grind) h.2.2.2.2.2.2.2.2.1.2
section
variable {F : Nat} {S : hk_S} {w : Nat → Int32}
theorem q_all_4 {K : hk_S → Int64 → Int32 → Option (Int64 × hk_S)} (h : hk_B S w) {n : Nat} (hn : w 9 = nI n) (hn8 : n ≤ 8) : ∀ (d z f : Nat), z + d = n → d < f → mL_all_4 hk_E0 F 0 K f S (l_sm (fun t => (a_t w t 8).toInt64) z) (nI z) = K S (l_sm (fun t => (a_t w t 8).toInt64) n) (nI n) := by
  intro d
  induction d with
  | zero =>
    intro z f h1 h2
    obtain ⟨f, rfl⟩ : ∃ g, f = g + 1 := ⟨f - 1, by omega⟩
    have hz : z = n := by omega
    subst hz
    rw [mL_all_4]
    dsimp only
    rw [q_troughCount h, Option.bind_some]
    dsimp only
    rw [if_pos (k_le9 hn hn8)]
  | succ d ih =>
    intro z f h1 h2
    obtain ⟨f, rfl⟩ : ∃ g, f = g + 1 := ⟨f - 1, by omega⟩
    rw [mL_all_4]
    dsimp only
    rw [q_troughCount h, Option.bind_some]
    dsimp only
    rw [if_neg (k_nlt hn (by omega) hn8), q_weight h (by omega) (k_lt9 hn (by omega) hn8), Option.bind_some]
    simp only [hk_let_eq, nI_1]
    exact ih (z + 1) f (by omega) (by omega)
theorem q_all (hF : 20 ≤ F) (h : hk_B S w) {n : Nat} (hn : w 9 = nI n) (hn8 : n ≤ 8) : mL_all hk_E0 F S 0 = some (l_sm (fun t => (a_t w t 8).toInt64) n, S) := by
  unfold mL_all
  rw [hk_let_eq]
  exact q_all_4 (F := F) h hn hn8 n 0 F (by omega) (by omega)
theorem q_leaf_12 {K : hk_S → Int32 → Int32 → Option (Int32 × hk_S)} {x : Int32} (h : hk_B S w) {n : Nat} (hn : w 9 = nI n) (hn8 : n ≤ 8) : ∀ (d z f : Nat), z + d = n → d < f → mL_leaf_12 hk_E0 F 0 K f S (x + k_sm (fun t => a_t w t 3) z) (nI z) = K S (x + k_sm (fun t => a_t w t 3) n) (nI n) := by
  intro d
  induction d with
  | zero =>
    intro z f h1 h2
    obtain ⟨f, rfl⟩ : ∃ g, f = g + 1 := ⟨f - 1, by omega⟩
    have hz : z = n := by omega
    subst hz
    rw [mL_leaf_12]
    dsimp only
    rw [q_troughCount h, Option.bind_some]
    dsimp only
    rw [if_pos (k_le9 hn hn8)]
  | succ d ih =>
    intro z f h1 h2
    obtain ⟨f, rfl⟩ : ∃ g, f = g + 1 := ⟨f - 1, by omega⟩
    have hi := ih (z + 1) f (by omega) (by omega)
    rw [k_sm, ← Int32.add_assoc] at hi
    rw [mL_leaf_12]
    dsimp only
    rw [q_troughCount h, Option.bind_some]
    dsimp only
    rw [if_neg (k_nlt hn (by omega) hn8), q_kilograms h (by omega) (k_lt9 hn (by omega) hn8), Option.bind_some]
    simp only [hk_let_eq, nI_1]
    exact hi
theorem q_leaf (hF : 20 ≤ F) (h : hk_B S w) {n : Nat} (hn : w 9 = nI n) (hn8 : n ≤ 8) : mL_leaf hk_E0 F S 0 = some (w 12 + w 13 + k_sm (fun t => a_t w t 3) n, S) := by
  unfold mL_leaf
  rw [q_dischargedKilograms h, Option.bind_some, q_discardedKilograms h, Option.bind_some]
  dsimp only
  rw [hk_let_eq]
  have := q_leaf_12 (F := F) (K := fun S11 z12 z13 => some (z12, S11)) (x := w 12 + w 13) h hn hn8 n 0 F (by omega) (by omega)
  rw [show k_sm (fun t => a_t w t 3) 0 = 0 from rfl, Int32.add_zero] at this
  exact this
/-- a number, or none of an empty trough -/
def s_nn (v : Nat → Int32) (x : Int32) : Int32 := if v 3 = 0 then -1 else x
def s_tr (w : Nat → Int32) (z : Int64) : Nat → Int64
  | 0 => z
  | n + 1 => ((((((31 : Int64) * (((((31 : Int64) * s_tr w z n) + (a_t w n 3).toInt64) + ((1000 : Int64) * (a_t w n 0).toInt64)) + ((10 : Int64) * (a_t w n 1).toInt64) + (if a_t w n 2 = 0 then (3 : Int64) else 0))) + (s_nn (a_t w n) (a_t w n 4)).toInt64) + ((1000 : Int64) * (s_nn (a_t w n) (a_t w n 5)).toInt64)) + ((100 : Int64) * (s_nn (a_t w n) (a_t w n 6)).toInt64)) + ((7 : Int64) * (s_nn (a_t w n) (a_t w n 7)).toInt64)) + (a_t w n 8).toInt64
theorem q_sum_68 {K : hk_S → Int64 → Int32 → Option (Int64 × hk_S)} {x : Int64} (h : hk_B S w) {n : Nat} (hn : w 9 = nI n) (hn8 : n ≤ 8) : ∀ (d z f : Nat), z + d = n → d < f → mL_sum_68 hk_E0 F 0 K f S (s_tr w x z) (nI z) = K S (s_tr w x n) (nI n) := by
  intro d
  induction d with
  | zero =>
    intro z f h1 h2
    obtain ⟨f, rfl⟩ : ∃ g, f = g + 1 := ⟨f - 1, by omega⟩
    have hz : z = n := by omega
    subst hz
    rw [mL_sum_68]
    dsimp only
    rw [q_troughCount h, Option.bind_some]
    dsimp only
    rw [if_pos (k_le9 hn hn8)]
  | succ d ih =>
    intro z f h1 h2
    obtain ⟨f, rfl⟩ : ∃ g, f = g + 1 := ⟨f - 1, by omega⟩
    have hi := ih (z + 1) f (by omega) (by omega)
    rw [s_tr] at hi
    have ht : z < 8 := by omega
    have hl := k_lt9 hn (show z < n by omega) hn8
    rw [mL_sum_68]
    dsimp only
    rw [q_troughCount h, Option.bind_some]
    dsimp only
    rw [if_neg (k_nlt hn (by omega) hn8)]
    simp only [q_kilograms h ht hl, q_capacity h ht hl, q_speed h ht hl, q_isUpwards h ht hl, q_moisture0 h ht hl, q_moisture1 h ht hl, q_warmth h ht hl, q_damage h ht hl, q_weight h ht hl, Option.bind_some, hk_let_eq, nI_1]
    unfold s_nn at hi
    by_cases q : a_t w z 2 = 0
    · simp only [q, if_true, k_10, if_false] at hi ⊢
      exact hi
    · simp only [q, if_false, if_true] at hi ⊢
      exact hi
def s_pr (w : Nat → Int32) (z : Int64) : Nat → Int64
  | 0 => z
  | n + 1 => (((((31 : Int64) * s_pr w z n) + (a_p w n 0).toInt64) + ((10 : Int64) * (a_p w n 1).toInt64)) + ((100 : Int64) * (a_rdg w n).toInt64))
theorem q_sum_190 {K : hk_S → Int64 → Int32 → Option (Int64 × hk_S)} {x : Int64} (h : hk_B S w) {n : Nat} (hn : w 10 = nI n) (hn6 : n ≤ 6) : ∀ (d z f : Nat), z + d = n → d < f → mL_sum_190 hk_E0 F 0 K f S (s_pr w x z) (nI z) = K S (s_pr w x n) (nI n) := by
  intro d
  induction d with
  | zero =>
    intro z f h1 h2
    obtain ⟨f, rfl⟩ : ∃ g, f = g + 1 := ⟨f - 1, by omega⟩
    have hz : z = n := by omega
    subst hz
    rw [mL_sum_190]
    dsimp only
    rw [q_probeCount h, Option.bind_some]
    dsimp only
    rw [if_pos (k_le9 hn (by omega))]
  | succ d ih =>
    intro z f h1 h2
    obtain ⟨f, rfl⟩ : ∃ g, f = g + 1 := ⟨f - 1, by omega⟩
    have hi := ih (z + 1) f (by omega) (by omega)
    rw [s_pr] at hi
    have ht : z < 6 := by omega
    have hl := k_lt9 hn (show z < n by omega) (by omega)
    rw [mL_sum_190]
    dsimp only
    rw [q_probeCount h, Option.bind_some]
    dsimp only
    rw [if_neg (k_nlt hn (by omega) (by omega))]
    simp only [q_probeTrough h ht hl, q_probeLayer h ht hl, q_reading h ht hl, Option.bind_some, hk_let_eq, nI_1]
    exact hi
def s_hd (w : Nat → Int32) : Int64 := ((((((((w 0).toInt64) + ((3000 : Int64) * (a_dry w (w 0)).toInt64)) + ((7 : Int64) * (w 15).toInt64)) + ((11 : Int64) * (w 14).toInt64)) + ((13 : Int64) * (w 12).toInt64)) + ((17 : Int64) * (w 13).toInt64)) + ((19 : Int64) * (a_nm w 3 0 (-1)).toInt64))
def s_all (w : Nat → Int32) : Int64 := (((31 : Int64) * s_pr w (s_tr w (s_hd w) (w 9).toNatClampNeg) (w 10).toNatClampNeg) + (k_rs (a_rd w) 8).toInt64)
abbrev s_K2 (F : Nat) : hk_S → Int64 → Int32 → Option (Int64 × hk_S) := fun S46 z47 z48 => (mX11_readyTroughs hk_E0 F S46 0).bind (fun r49 => some ((((31 : Int64) * z47) + ((r49.1 : Int32).toInt64)), r49.2))
abbrev s_K1 (F : Nat) : hk_S → Int64 → Int32 → Option (Int64 × hk_S) := fun S34 z35 z36 => mL_sum_190 hk_E0 F 0 (s_K2 F) F S34 z35 0
theorem q_sumA (hF : 20 ≤ F) (h : hk_B S w) : mL_sum hk_E0 F S 0 = mL_sum_68 hk_E0 F 0 (s_K1 F) F S (s_hd w) 0 := by
  unfold mL_sum s_hd
  rw [q_hour h, Option.bind_some, q_dryness h (show 10 ≤ F by omega), Option.bind_some, q_lostWater h, Option.bind_some, q_totalWorth h, Option.bind_some, q_dischargedKilograms h, Option.bind_some, q_discardedKilograms h, Option.bind_some, q_toMonsoon h (show 10 ≤ F by omega), Option.bind_some, hk_let_eq]
theorem q_sumB (hF : 20 ≤ F) (h : hk_B S w) {x : Int64} {m : Nat} (hm6 : m ≤ 6) (hm : w 10 = nI m) : s_K1 F S x (w 9) = some ((31 : Int64) * s_pr w x m + (k_rs (a_rd w) 8).toInt64, S) := by
  have h2 := q_sum_190 (F := F) (K := s_K2 F) (x := x) h hm hm6 m 0 F (by omega) (by omega)
  refine Eq.trans ?_ (h2.trans ?_)
  · rfl
  · show (mX11_readyTroughs hk_E0 F S 0).bind _ = _
    rw [q_ready h (by omega), Option.bind_some]
theorem q_sum (hF : 20 ≤ F) (h : hk_B S w) : mL_sum hk_E0 F S 0 = some (s_all w, S) := by
  obtain ⟨n, hn8, hn⟩ := k_n9 h.2
  obtain ⟨m, hm6, hm⟩ := k_n10 h.2
  have h1 := q_sum_68 (F := F) (K := s_K1 F) (x := s_hd w) h hn hn8 n 0 F (by omega) (by omega)
  have h2 := q_sumB (F := F) hF h (x := s_tr w (s_hd w) n) hm6 hm
  rw [hn] at h2
  have h3 : s_all w = (31 : Int64) * s_pr w (s_tr w (s_hd w) n) m + (k_rs (a_rd w) 8).toInt64 := by
    unfold s_all
    rw [hn, hm, nI_clamp (by omega), nI_clamp (by omega)]
  rw [q_sumA hF h, h3]
  exact h1.trans h2
/-- a bit of the set of the ready -/
theorem k_bit8 : ∀ b0 b1 b2 b3 b4 b5 b6 b7 : Bool, ∀ t, t < 8 → ((k_rs (fun t => [b0, b1, b2, b3, b4, b5, b6, b7].getD t false) 8) >>> (nI t &&& 31)) &&& 1 = (if [b0, b1, b2, b3, b4, b5, b6, b7].getD t false = true then 1 else 0) := by decide +kernel
theorem k_bit (b : Nat → Bool) {t : Nat} (ht : t < 8) : ((k_rs b 8) >>> (nI t &&& 31)) &&& 1 = if b t = true then 1 else 0 := by
  have h := k_bit8 (b 0) (b 1) (b 2) (b 3) (b 4) (b 5) (b 6) (b 7) t ht
  have e : [b 0, b 1, b 2, b 3, b 4, b 5, b 6, b 7].getD t false = b t := by
    have : t = 0 ∨ t = 1 ∨ t = 2 ∨ t = 3 ∨ t = 4 ∨ t = 5 ∨ t = 6 ∨ t = 7 := by omega
    rcases this with q | q | q | q | q | q | q | q <;> subst q <;> rfl
  rw [e] at h
  exact h
theorem k_why {w : Nat → Int32} {t : Nat} : (t_why w (a_t w t) = 0) ↔ a_rd w t = true := by
  unfold t_why a_rd
  simp only [decide_eq_true_eq]
  by_cases h0 : a_t w t 3 = 0
  · simp [h0]
  · rw [if_neg h0]
    generalize w 3 - w 4 = x
    generalize w 3 + w 4 = y
    by_cases h1 : a_t w t 4 < x ∨ a_t w t 5 < x
    · rw [if_pos h1]
      refine ⟨fun q => absurd q (by decide), fun q => ?_⟩
      generalize a_t w t 4 = p at *
      generalize a_t w t 5 = r at *
      grind
    · rw [if_neg h1]
      by_cases h2 : (x ≤ a_t w t 4 ∧ a_t w t 4 ≤ y) ∧ (x ≤ a_t w t 5 ∧ a_t w t 5 ≤ y)
      · rw [if_pos h2]
        exact ⟨fun _ => ⟨h0, h2⟩, fun _ => rfl⟩
      · rw [if_neg h2]
        exact ⟨fun q => absurd q (by decide), fun q => absurd q.2 h2⟩
theorem k_Ilt {x y : Int32} (h : y.toInt ≤ x.toInt) : ¬ x < y := fun q => by
  have := k_ltI q
  omega
theorem q_holds_49 {A D : Int} {K : hk_S → Int32 → Option (Int32 × hk_S)} (hF : 20 ≤ F) (h : hk_B S w) (g : g_ok A w) (gd : g_dm D w) {n : Nat} (hn : w 9 = nI n) (hn8 : n ≤ 8) : ∀ (d z f : Nat), z + d = n → d < f → mL_holds_49 hk_E0 F 0 K f S (nI z) = K S (nI n) := by
  intro d
  induction d with
  | zero =>
    intro z f h1 h2
    obtain ⟨f, rfl⟩ : ∃ g, f = g + 1 := ⟨f - 1, by omega⟩
    have hz : z = n := by omega
    subst hz
    rw [mL_holds_49]
    dsimp only
    rw [q_troughCount h, Option.bind_some]
    dsimp only
    rw [if_pos (k_le9 hn hn8)]
  | succ d ih =>
    intro z f h1 h2
    obtain ⟨f, rfl⟩ : ∃ g, f = g + 1 := ⟨f - 1, by omega⟩
    have hi := ih (z + 1) f (by omega) (by omega)
    have ht : z < 8 := by omega
    have hl := k_lt9 hn (show z < n by omega) hn8
    have hok := a_okT h.2 ht
    have hcap := k_cap h.2 ht hl
    have hne : ¬ a_t w z 0 = 0 := by generalize a_t w z 0 = x at *; grind
    have hkc : ¬ a_t w z 0 < a_t w z 3 := by have := hok.2.2.2.1.2; generalize a_t w z 0 = x at *; generalize a_t w z 3 = y at *; grind
    have hfill : (a_t w z 3 * 100) / a_t w z 0 = t_fill (a_t w z) := rfl
    rw [mL_holds_49]
    dsimp only
    rw [q_troughCount h, Option.bind_some]
    dsimp only
    rw [if_neg (k_nlt hn (by omega) hn8)]
    by_cases hv : a_t w z 3 = 0
    · have h8 : a_t w z 8 = 0 := (hok.2.2.2.2.1 hv).2.2.2.2
      have hw1 : t_why w (a_t w z) = 1 := by unfold t_why; rw [if_pos hv]
      have hf0 : ∀ x : Int32, (0 : Int32) * 100 / x = t_fill (a_t w z) ↔ True := fun x => by unfold t_fill; rw [hv]; simp
      simp only [q_kilograms h ht hl, q_capacity h ht hl, q_fill h ht hl, q_moisture0 h ht hl, q_moisture1 h ht hl, q_spread h ht hl, q_warmth h ht hl, q_damage h ht hl, q_marks h ht hl, q_weight h ht hl, q_why h ht hl, Option.bind_some, hk_let_eq, nI_1, hkc, hne, hfill, if_false, if_true, not_false_eq_true, not_true_eq_false, h8, hw1]
      rw [if_neg (fun q => q hv)]
      simp only [if_pos hv, if_true, if_false, not_true_eq_false]
      exact hi
    · obtain ⟨⟨x0, x1⟩, ⟨y0, y1⟩, ⟨u0, u1⟩⟩ := hok.2.2.2.2.2 (by have := hok.2.2.2.1.1; generalize a_t w z 3 = y at *; grind)
      have n1 : ¬ a_t w z 4 < 300 := by generalize a_t w z 4 = x at *; grind
      have n2 : ¬ 900 < a_t w z 4 := by generalize a_t w z 4 = x at *; grind
      have n3 : ¬ a_t w z 5 < 300 := by generalize a_t w z 5 = x at *; grind
      have n4 : ¬ 900 < a_t w z 5 := by generalize a_t w z 5 = x at *; grind
      have n5 : ¬ a_t w z 6 < 0 := by generalize a_t w z 6 = x at *; grind
      have n6 : ¬ 20 < a_t w z 6 := by generalize a_t w z 6 = x at *; grind
      have n7 : 0 ≤ a_t w z 7 := k_Ile (by rw [k_i0]; exact (gd z ht).1)
      have gt := g.2.2.2.2 z ht
      have b8 := t_g_b hok gt
      have b3 := (t_okI hok).1
      have n8 : ¬ a_t w z 8 < 0 := k_Ilt (by rw [k_i0]; exact b8.1)
      have n9 : ¬ 2000 * a_t w z 3 < a_t w z 8 := k_Ilt (by rw [k_toI_mul (by rw [k_i2000]; omega) (by rw [k_i2000]; omega), k_i2000]; exact gt.2)
      have hg : ∀ S9 : hk_S, mJ9_abs_0f7a4 hk_E0 F S9 (a_t w z 4 - a_t w z 5) = some (t_gap (a_t w z), S9) := fun S9 => pJ9_abs
      have hm : ∀ S9 : hk_S, mJ9_max_7cf53 hk_E0 F S9 0 ((100 - t_gap (a_t w z)) - (2 * a_t w z 7)) = some (t_mark (a_t w z), S9) := fun S9 => by
        rw [pJ9_max]
        unfold t_mark
        congr 2
        generalize 100 - t_gap (a_t w z) - 2 * a_t w z 7 = y
        grind
      simp only [q_kilograms h ht hl, q_capacity h ht hl, q_fill h ht hl, q_moisture0 h ht hl, q_moisture1 h ht hl, q_spread h ht hl, q_warmth h ht hl, q_damage h ht hl, q_marks h ht hl, q_weight h ht hl, q_why h ht hl, q_ready h (show 10 ≤ F by omega), Option.bind_some, hk_let_eq, nI_1, hv, hkc, hne, hfill, if_false, if_true, not_false_eq_true, not_true_eq_false, n1, n2, n3, n4, n5, n6, n7, n8, n9, hg, hm, k_bit (a_rd w) ht]
      by_cases q : t_why w (a_t w z) = 0
      · have q2 := k_why.mp q
        simp only [q, q2, if_true, if_false, not_true_eq_false]
        exact hi
      · have q2 : ¬ a_rd w z = true := fun r => q (k_why.mpr r)
        simp only [q, q2, if_false, not_false_eq_true, if_true, k_01]
        exact hi
theorem q_holds {A D : Int} (hF : 20 ≤ F) (h : hk_B S w) (g : g_ok A w) (hA : A ≤ 10000) (gd : g_dm D w) : mL_holds hk_E0 F S 0 = some (1, S) := by
  obtain ⟨n, hn8, hn⟩ := k_n9 h.2
  obtain ⟨v1, v2⟩ := g_viol h.2 g hA
  have h0 := h.2.1
  have n1 : ¬ w 0 < 0 := by generalize w 0 = x at *; grind
  have n2 : ¬ 2000 < w 0 := by generalize w 0 = x at *; grind
  have n3 : 0 ≤ w 15 := k_Ile (by rw [k_i0]; exact g.2.1.2.2.1)
  unfold mL_holds
  rw [q_viol h (by omega) v1 v2]
  simp only [q_hour h, q_day h, q_lostWater h, Option.bind_some, not_true_eq_false, if_false, if_true, n1, n2, n3]
  exact (q_holds_49 (F := F) hF h g gd hn hn8 n 0 F (by omega) (by omega))
end
