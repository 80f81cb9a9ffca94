/-! all troughs at once -/
def a_rd (w : Nat → Int32) (t : Nat) : Bool := decide (¬ a_t w t 3 = 0 ∧ (w 3 - w 4 ≤ a_t w t 4 ∧ a_t w t 4 ≤ w 3 + w 4) ∧ (w 3 - w 4 ≤ a_t w t 5 ∧ a_t w t 5 ≤ w 3 + w 4))
def a_lv (w : Nat → Int32) (t : Nat) : Bool := decide (¬ a_t w t 3 = 0)
def k_rs (b : Nat → Bool) : Nat → Int32
  | 0 => 0
  | n + 1 => if b n = true then k_rs b n ||| (1 <<< (nI n &&& 31)) else k_rs b n
def k_rn (b : Nat → Bool) : Nat → Int32
  | 0 => 0
  | n + 1 => if b n = true then k_rn b n + 1 else k_rn b n
def k_sm (f : Nat → Int32) : Nat → Int32
  | 0 => 0
  | n + 1 => k_sm f n + f n
theorem k_rs_stop {b : Nat → Bool} {n : Nat} : ∀ d, (∀ t, n ≤ t → t < n + d → b t = false) → k_rs b (n + d) = k_rs b n := by
  intro d
  induction d with
  | zero => intro h; rfl
  | succ d ih =>
    intro h
    show (if b (n + d) = true then _ else k_rs b (n + d)) = _
    rw [h (n + d) (by omega) (by omega), if_neg (by decide)]
    exact ih (fun t h1 h2 => h t h1 (by omega))
theorem k_rn_stop {b : Nat → Bool} {n : Nat} : ∀ d, (∀ t, n ≤ t → t < n + d → b t = false) → k_rn b (n + d) = k_rn b n := by
  intro d
  induction d with
  | zero => intro h; rfl
  | succ d ih =>
    intro h
    show (if b (n + d) = true then _ else k_rn b (n + d)) = _
    rw [h (n + d) (by omega) (by omega), if_neg (by decide)]
    exact ih (fun t h1 h2 => h t h1 (by omega))
theorem k_sm_stop {f : Nat → Int32} {n : Nat} : ∀ d, (∀ t, n ≤ t → t < n + d → f t = 0) → k_sm f (n + d) = k_sm f n := by
  intro d
  induction d with
  | zero => intro h; rfl
  | succ d ih =>
    intro h
    show k_sm f (n + d) + f (n + d) = _
    rw [h (n + d) (by omega) (by omega), Int32.add_zero]
    exact ih (fun t h1 h2 => h t h1 (by omega))
theorem k_rn_le (b : Nat → Bool) (n : Nat) : ∃ m, m ≤ n ∧ k_rn b n = nI m := by
  induction n with
  | zero => exact ⟨0, by omega, rfl⟩
  | succ n ih =>
    obtain ⟨m, hm, e⟩ := ih
    by_cases h : b n = true
    · exact ⟨m + 1, by omega, by rw [k_rn, if_pos h, e, nI_1]⟩
    · exact ⟨m, by omega, by rw [k_rn, if_neg h, e]⟩
/-- a trough that is not there has no leaf -/
theorem a_none {w : Nat → Int32} (h : a_ok w) {n t : Nat} (hn : w 9 = nI n) (hn8 : n ≤ 8) (h1 : n ≤ t) (ht : t < 8) : a_t w t 3 = 0 ∧ a_t w t 4 = 0 ∧ a_t w t 5 = 0 ∧ a_t w t 8 = 0 := by
  have h0 := (h.2.2.2.2.2.2.2.2.2.2.2.1 t ht (by rw [hn]; exact nI_le h1 (by omega))).1
  obtain ⟨-, -, -, b, ke, -⟩ := h.2.2.2.2.2.2.2.2.2.1 t ht
  have h3 : a_t w t 3 = 0 := by
    have := b.1
    have := b.2
    rw [h0] at this
    generalize a_t w t 3 = x at *
    grind
  exact ⟨h3, (ke h3).1, (ke h3).2.1, (ke h3).2.2.2.2⟩
theorem a_rd_none {w : Nat → Int32} (h : a_ok w) {n : Nat} (hn : w 9 = nI n) (hn8 : n ≤ 8) : k_rs (a_rd w) 8 = k_rs (a_rd w) n ∧ k_rn (a_rd w) 8 = k_rn (a_rd w) n ∧ k_rn (a_lv w) 8 = k_rn (a_lv w) n := by
  have e : n + (8 - n) = 8 := by omega
  have f : ∀ t, n ≤ t → t < n + (8 - n) → a_rd w t = false ∧ a_lv w t = false := fun t h1 h2 => by
    have := (a_none h hn hn8 h1 (by omega)).1
    unfold a_rd a_lv
    rw [this]
    simp
  refine ⟨?_, ?_, ?_⟩
  · have := k_rs_stop (b := a_rd w) (n := n) (8 - n) (fun t h1 h2 => (f t h1 h2).1)
    rw [e] at this
    exact this
  · have := k_rn_stop (b := a_rd w) (n := n) (8 - n) (fun t h1 h2 => (f t h1 h2).1)
    rw [e] at this
    exact this
  · have := k_rn_stop (b := a_lv w) (n := n) (8 - n) (fun t h1 h2 => (f t h1 h2).2)
    rw [e] at this
    exact this
def k_bc (x0 : Int32) : Int32 :=
  let y1 := x0 - ((((x0 : Int32).toUInt32 >>> ((1 : Int32).toUInt32 &&& Int32.toUInt32 31)).toInt32) &&& 1431655765)
  let y2 := (y1 &&& 858993459) + ((((y1 : Int32).toUInt32 >>> ((2 : Int32).toUInt32 &&& Int32.toUInt32 31)).toInt32) &&& 858993459)
  let y3 := (y2 + (((y2 : Int32).toUInt32 >>> ((4 : Int32).toUInt32 &&& Int32.toUInt32 31)).toInt32)) &&& 252645135
  let y4 := y3 + (((y3 : Int32).toUInt32 >>> ((8 : Int32).toUInt32 &&& Int32.toUInt32 31)).toInt32)
  let y5 := y4 + (((y4 : Int32).toUInt32 >>> ((16 : Int32).toUInt32 &&& Int32.toUInt32 31)).toInt32)
  y5 &&& 63
theorem pJ6 {E : hk_E} {F : Nat} {S : hk_S} {x : Int32} : mJ6_bitCount_0f7a4 E F S x = some (k_bc x, S) := rfl
theorem k_bits : ∀ b0 b1 b2 b3 b4 b5 b6 b7 : Bool, k_bc (k_rs (fun t => [b0, b1, b2, b3, b4, b5, b6, b7].getD t false) 8) = k_rn (fun t => [b0, b1, b2, b3, b4, b5, b6, b7].getD t false) 8 := by decide +kernel
theorem k_bcs (b : Nat → Bool) : k_bc (k_rs b 8) = k_rn b 8 := k_bits (b 0) (b 1) (b 2) (b 3) (b 4) (b 5) (b 6) (b 7)
section
variable {E : hk_E} {F b : Nat} {S : hk_S} {w : Nat → Int32}
theorem cX_set_4 {K : hk_S → Int32 → Int32 → Option (Int32 × hk_S)} (hL : hk_L E b) (hN : hk_num S b w) (hT : hk_trs S b w) (hw : a_ok w) : ∀ (d z f : Nat), z + d = 8 → d < f → mX5_setOfReady_4 E F b K f S (k_rs (a_rd w) z) (nI z) = K S (k_rs (a_rd w) 8) (nI 8) := by
  intro d
  induction d with
  | zero =>
    intro z f h1 h2
    obtain ⟨f, rfl⟩ : ∃ g, f = g + 1 := ⟨f - 1, by omega⟩
    have hz : z = 8 := by omega
    subst hz
    rw [mX5_setOfReady_4]
    dsimp only
    rw [if_pos (by decide)]
  | succ d ih =>
    intro z f h1 h2
    obtain ⟨f, rfl⟩ : ∃ g, f = g + 1 := ⟨f - 1, by omega⟩
    have hz : z < 8 := by omega
    obtain ⟨-, -, -, ⟨k3, l3⟩, -, k5, -, ⟨-, r1, -, -⟩⟩ := id hL
    have hi := ih (z + 1) f (by omega) (by omega)
    rw [mX5_setOfReady_4]
    dsimp only
    rw [if_neg (show ¬ (8 : Int32) ≤ nI z from nI_ge (a := z) (b := 8) (by omega) (by omega)), r1, Option.bind_some, if_pos k3, l3, if_pos (hk_okI hz (by omega)), nI_clamp (by omega), (k5 z hz).2, Option.bind_some, if_pos (k5 z hz).1, pX5_isReady hN (hT z hz) (k_leaf0 hw hz), Option.bind_some]
    simp only [hk_let_eq, nI_1]
    by_cases q : ¬ a_t w z 3 = 0 ∧ (w 3 - w 4 ≤ a_t w z 4 ∧ a_t w z 4 ≤ w 3 + w 4) ∧ (w 3 - w 4 ≤ a_t w z 5 ∧ a_t w z 5 ≤ w 3 + w 4)
    · have hb : a_rd w z = true := decide_eq_true q
      rw [k_rs, if_pos hb] at hi
      rw [if_pos q, if_neg (by decide)]
      exact hi
    · have hb : ¬ a_rd w z = true := fun z => q (of_decide_eq_true z)
      rw [k_rs, if_neg hb] at hi
      rw [if_neg q, if_pos rfl]
      exact hi
theorem cX_set (hF : 10 ≤ F) (hL : hk_L E b) (hN : hk_num S b w) (hT : hk_trs S b w) (hw : a_ok w) : mX5_setOfReady E F S b = some (k_rs (a_rd w) 8, S) := by
  unfold mX5_setOfReady
  exact cX_set_4 (F := F) hL hN hT hw 8 0 F (by omega) (by omega)
theorem cX_vi1 {a : Nat} {v : Nat → Int32} (ht : hk_tr (S a) v) (hk : t_ok v) : mX10_countViolations E F S a = some (0, S) := by
  obtain ⟨k2, c, s, bb, ke, kl⟩ := hk
  obtain ⟨u0, u1, u2, u3, u4, u5, u6, u7, u8, u9⟩ := id ht
  unfold mX10_countViolations
  rw [pX10_hasLeaf ht bb.1, Option.bind_some]
  by_cases hv : v 3 = 0
  · simp [hv]
  · obtain ⟨⟨x0, x1⟩, ⟨y0, y1⟩, ⟨w0, w1⟩⟩ := kl (by grind)
    have n1 : ¬ v 4 < 300 := by grind
    have n2 : ¬ v 5 < 300 := by grind
    have n3 : ¬ v 6 < 0 := by grind
    simp only [hv, if_false, u0, u3, u6, u7, u8, bb.2, n1, n2, n3, x1, y1, w1, if_true, not_false_eq_true, hk_let_eq, k_10]
    rfl
theorem cX_vi_25 {K : hk_S → Int32 → Int32 → Int32 → Int32 → Option (Int32 × hk_S)} {x y : Int32} (hL : hk_L E b) (hT : hk_trs S b w) (hw : a_ok w) : ∀ (d z f : Nat), z + d = 8 → d < f → mX5_countViolations_25 E F b K f S (x + k_sm (fun t => a_t w t 3) z) (y + k_sm (fun t => a_t w t 8) z) 0 (nI z) = K S (x + k_sm (fun t => a_t w t 3) 8) (y + k_sm (fun t => a_t w t 8) 8) 0 (nI 8) := by
  intro d
  induction d with
  | zero =>
    intro z f h1 h2
    obtain ⟨f, rfl⟩ : ∃ g, f = g + 1 := ⟨f - 1, by omega⟩
    have hz : z = 8 := by omega
    subst hz
    rw [mX5_countViolations_25]
    dsimp only
    rw [if_pos (by decide)]
  | succ d ih =>
    intro z f h1 h2
    obtain ⟨f, rfl⟩ : ∃ g, f = g + 1 := ⟨f - 1, by omega⟩
    have hz : z < 8 := by omega
    obtain ⟨-, -, -, ⟨k3, l3⟩, -, k5, -, ⟨-, r1, -, -⟩⟩ := id hL
    have hi := ih (z + 1) f (by omega) (by omega)
    rw [k_sm, k_sm, ← Int32.add_assoc, ← Int32.add_assoc] at hi
    rw [mX5_countViolations_25]
    dsimp only
    rw [if_neg (show ¬ (8 : Int32) ≤ nI z from nI_ge (a := z) (b := 8) (by omega) (by omega)), r1, Option.bind_some, if_pos k3, l3, if_pos (hk_okI hz (by omega)), show E.2.2.2 (b + 3) (nI z).toNatClampNeg = some (b + 5 + z) from (by rw [nI_clamp (by omega)]; exact (k5 z hz).2), Option.bind_some, if_pos (k5 z hz).1]
    simp only [hk_let_eq, if_pos (hk_okI (t := z) (n := 8) hz (by omega)), (hT z hz).2.2.2.1, (hT z hz).2.2.2.2.2.1]
    rw [cX_vi1 (hT z hz) (hw.2.2.2.2.2.2.2.2.2.1 z hz), Option.bind_some]
    simp only [Int32.add_zero, nI_1]
    exact hi
end
