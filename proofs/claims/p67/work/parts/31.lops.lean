/-! the class's loft: lookups, and what is asked of one trough -/
def k_tn (x : Int32) : Nat := if 0 ≤ x ∧ x < 8 then x.toNatClampNeg else 0
def k_pn (x : Int32) : Nat := if 0 ≤ x ∧ x < 6 then x.toNatClampNeg else 0
theorem k_tn_nI {t : Nat} (ht : t < 8) : k_tn (nI t) = t := by
  unfold k_tn
  rw [if_pos ⟨nI_pos' (by omega), (nI_ltI (b := 8) (by omega) (by omega)).mpr ht⟩, nI_clamp (by omega)]
theorem k_pn_nI {t : Nat} (ht : t < 6) : k_pn (nI t) = t := by
  unfold k_pn
  rw [if_pos ⟨nI_pos' (by omega), (nI_ltI (b := 6) (by omega) (by omega)).mpr ht⟩, nI_clamp (by omega)]
theorem k_tn_lt (x : Int32) : k_tn x < 8 := by
  unfold k_tn
  by_cases h : 0 ≤ x ∧ x < 8
  · rw [if_pos h]
    obtain ⟨n, hn, rfl⟩ := nI_of2 (x := x) (M := 7) (n := 7) (by decide) (by grind) (by grind)
    rw [nI_clamp (by omega)]
    omega
  · rw [if_neg h]; omega
theorem k_pn_lt (x : Int32) : k_pn x < 6 := by
  unfold k_pn
  by_cases h : 0 ≤ x ∧ x < 6
  · rw [if_pos h]
    obtain ⟨n, hn, rfl⟩ := nI_of2 (x := x) (M := 5) (n := 5) (by decide) (by grind) (by grind)
    rw [nI_clamp (by omega)]
    omega
  · rw [if_neg h]; omega
theorem pX5_troughAt {E : hk_E} {F b : Nat} {S : hk_S} {x : Int32} (hL : hk_L E b) : mX5_troughAt E F S b x = some (b + 5 + k_tn x, S) := by
  obtain ⟨k0, k1, k2, ⟨k3, l3⟩, k4, k5, k6, ⟨r0, r1, r3, r4⟩⟩ := hL
  have hz : (E.2.2.2 b 1).bind (fun r2 => if E.2.1 r2 = 16 then (if hk_ok 0 (E.2.2.1 r2) then ((E.2.2.2 r2 0).bind (fun r4 => if E.2.1 r4 = 8 then (some (r4, S)) else none)) else none) else none) = some (b + 5 + 0, S) := by
    rw [r1, Option.bind_some, if_pos k3, l3, if_pos (show hk_ok 0 8 by decide), (k5 0 (by omega)).2, Option.bind_some, if_pos (k5 0 (by omega)).1]
  unfold mX5_troughAt k_tn
  by_cases h1 : x < 0
  · rw [if_pos h1, if_neg (by grind)]
    exact hz
  · by_cases h2 : 8 ≤ x
    · rw [if_neg h1, if_pos h2, if_neg (by grind)]
      exact hz
    · rw [if_neg h1, if_neg h2, if_pos ⟨by grind, by grind⟩]
      obtain ⟨n, hn, rfl⟩ := nI_of2 (x := x) (M := 7) (n := 7) (by decide) (by grind) (by grind)
      rw [r1, Option.bind_some, if_pos k3, l3, if_pos (hk_okI (by omega) (by omega)), nI_clamp (by omega), (k5 n (by omega)).2, Option.bind_some, if_pos (k5 n (by omega)).1]
theorem pX5_probeAt {E : hk_E} {F b : Nat} {S : hk_S} {x : Int32} (hL : hk_L E b) : mX5_probeAt E F S b x = some (b + 13 + k_pn x, S) := by
  obtain ⟨k0, k1, k2, k3, ⟨k4, l4⟩, k5, k6, ⟨r0, r1, r3, r4⟩⟩ := hL
  have hz : (E.2.2.2 b 3).bind (fun r2 => if E.2.1 r2 = 15 then (if hk_ok 0 (E.2.2.1 r2) then ((E.2.2.2 r2 0).bind (fun r4 => if E.2.1 r4 = 5 then (some (r4, S)) else none)) else none) else none) = some (b + 13 + 0, S) := by
    rw [r3, Option.bind_some, if_pos k4, l4, if_pos (show hk_ok 0 6 by decide), (k6 0 (by omega)).2, Option.bind_some, if_pos (k6 0 (by omega)).1]
  unfold mX5_probeAt k_pn
  by_cases h1 : x < 0
  · rw [if_pos h1, if_neg (by grind)]
    exact hz
  · by_cases h2 : 6 ≤ x
    · rw [if_neg h1, if_pos h2, if_neg (by grind)]
      exact hz
    · rw [if_neg h1, if_neg h2, if_pos ⟨by grind, by grind⟩]
      obtain ⟨n, hn, rfl⟩ := nI_of2 (x := x) (M := 5) (n := 5) (by decide) (by grind) (by grind)
      rw [r3, Option.bind_some, if_pos k4, l4, if_pos (hk_okI (by omega) (by omega)), nI_clamp (by omega), (k6 n (by omega)).2, Option.bind_some, if_pos (k6 n (by omega)).1]
theorem hk_L_t {E : hk_E} {b : Nat} (hL : hk_L E b) {t : Nat} (ht : t < 8) : E.2.1 (b + 5 + t) = 8 := (hL.2.2.2.2.2.1 t ht).1
theorem hk_L_p {E : hk_E} {b : Nat} (hL : hk_L E b) {t : Nat} (ht : t < 6) : E.2.1 (b + 13 + t) = 5 := (hL.2.2.2.2.2.2.1 t ht).1
theorem k_two {x lo hi : Int32} {α : Type} (S : α) : (if x < lo then some ((0 : Int32), S) else (if hi ≤ x then some (0, S) else some (1, S))) = some (if lo ≤ x ∧ x < hi then 1 else 0, S) := by
  by_cases h1 : x < lo
  · rw [if_pos h1, if_neg (by grind)]
  · by_cases h2 : hi ≤ x
    · rw [if_neg h1, if_pos h2, if_neg (by grind)]
    · rw [if_neg h1, if_neg h2, if_pos ⟨by grind, by grind⟩]
theorem pX5_hasTrough {E : hk_E} {F b : Nat} {S : hk_S} {x : Int32} : mX5_hasTrough E F S b x = some (if 0 ≤ x ∧ x < S b 2 then 1 else 0, S) := by
  unfold mX5_hasTrough
  exact k_two S
theorem pX5_hasProbe {E : hk_E} {F b : Nat} {S : hk_S} {x : Int32} : mX5_hasProbe E F S b x = some (if 0 ≤ x ∧ x < S b 4 then 1 else 0, S) := by
  unfold mX5_hasProbe
  exact k_two S
/-- too dry, ready -/
def t_dryB (w v : Nat → Int32) : Prop := v 4 < w 3 - w 4 ∨ v 5 < w 3 - w 4
def t_rdy (w v : Nat → Int32) : Prop := ¬ v 3 = 0 ∧ (w 3 - w 4 ≤ v 4 ∧ v 4 ≤ w 3 + w 4) ∧ (w 3 - w 4 ≤ v 5 ∧ v 5 ≤ w 3 + w 4)
theorem pX5_isTooDry {E : hk_E} {F b a : Nat} {S : hk_S} {w v : Nat → Int32} (hn : hk_num S b w) (ht : hk_tr (S a) v) : mX5_isTooDry E F S b a = some (if v 4 < w 3 - w 4 ∨ v 5 < w 3 - w 4 then 1 else 0, S) := by
  unfold mX5_isTooDry
  rw [hn.2.2.1, hn.2.2.2.1, ht.2.2.2.2.2.2.1, ht.2.2.2.2.2.2.2.1]
  generalize w 3 - w 4 = x
  by_cases h1 : v 4 < x
  · rw [if_pos h1, if_pos (Or.inl h1)]
  · by_cases h2 : x ≤ v 5
    · rw [if_neg h1, if_pos h2, if_neg (by grind)]
    · rw [if_neg h1, if_neg h2, if_pos (Or.inr (by grind))]
theorem pX5_isReady {E : hk_E} {F b a : Nat} {S : hk_S} {w v : Nat → Int32} (hn : hk_num S b w) (ht : hk_tr (S a) v) (h0 : 0 ≤ v 3) : mX5_isReady E F S b a = some (if ¬ v 3 = 0 ∧ (w 3 - w 4 ≤ v 4 ∧ v 4 ≤ w 3 + w 4) ∧ (w 3 - w 4 ≤ v 5 ∧ v 5 ≤ w 3 + w 4) then 1 else 0, S) := by
  unfold mX5_isReady
  rw [pX10_hasLeaf ht h0, Option.bind_some]
  by_cases hv : v 3 = 0
  · simp [hv]
  · simp only [hv, if_false, not_false_eq_true, true_and, show ¬ ((1 : Int32) = 0) by decide]
    rw [pX5_isTooDry hn ht, Option.bind_some]
    simp only [hn.2.2.1, hn.2.2.2.1, ht.2.2.2.2.2.2.1, ht.2.2.2.2.2.2.2.1]
    generalize w 3 - w 4 = x
    generalize w 3 + w 4 = y
    by_cases h1 : v 4 < x ∨ v 5 < x
    · rw [if_pos h1, if_pos (by decide), if_neg (by grind)]
    · rw [if_neg h1, if_neg (by decide)]
      by_cases h2 : y < v 4
      · rw [if_pos h2, if_neg (by grind)]
      · by_cases h3 : y < v 5
        · rw [if_neg h2, if_pos h3, if_neg (by grind)]
        · rw [if_neg h2, if_neg h3, if_pos (by grind)]
def t_why (w v : Nat → Int32) : Int32 := if v 3 = 0 then 1 else if v 4 < w 3 - w 4 ∨ v 5 < w 3 - w 4 then 2 else if (w 3 - w 4 ≤ v 4 ∧ v 4 ≤ w 3 + w 4) ∧ (w 3 - w 4 ≤ v 5 ∧ v 5 ≤ w 3 + w 4) then 0 else 3
theorem pX5_refusalOf {E : hk_E} {F b a : Nat} {S : hk_S} {w v : Nat → Int32} (hn : hk_num S b w) (ht : hk_tr (S a) v) (h0 : 0 ≤ v 3) : mX5_refusalOf E F S b a = some (t_why w v, S) := by
  unfold mX5_refusalOf t_why
  rw [pX10_hasLeaf ht h0, Option.bind_some]
  by_cases hv : v 3 = 0
  · simp [hv]
  · simp only [hv, if_false, not_false_eq_true, if_true, show ¬ ((1 : Int32) = 0) by decide]
    rw [pX5_isTooDry hn ht, Option.bind_some]
    by_cases h1 : v 4 < w 3 - w 4 ∨ v 5 < w 3 - w 4
    · simp [h1]
    · simp only [h1, if_false, if_true]
      rw [pX5_isReady hn ht h0, Option.bind_some]
      simp only [hv, not_false_eq_true, true_and]
      by_cases h2 : (w 3 - w 4 ≤ v 4 ∧ v 4 ≤ w 3 + w 4) ∧ (w 3 - w 4 ≤ v 5 ∧ v 5 ≤ w 3 + w 4)
      · rw [if_pos h2, if_pos h2, if_neg (by decide)]
      · rw [if_neg h2, if_neg h2, if_pos rfl]
/-- the number of a trough of the row -/
theorem k_trough {w : Nat → Int32} {x : Int32} (h : a_ok w) (h0 : 0 ≤ x) (h1 : x < w 9) : ∃ t : Nat, t < 8 ∧ x = nI t ∧ nI t < w 9 := by
  have h8 := h.2.2.2.2.2.2.2.1.2
  obtain ⟨n, hn, rfl⟩ := nI_of2 (x := x) (M := 7) (n := 7) (by decide) (by grind) (by grind)
  exact ⟨n, by omega, rfl, h1⟩
theorem k_probe {w : Nat → Int32} {x : Int32} (h : a_ok w) (h0 : 0 ≤ x) (h1 : x < w 10) : ∃ t : Nat, t < 6 ∧ x = nI t ∧ nI t < w 10 := by
  have h8 := h.2.2.2.2.2.2.2.2.1.2
  obtain ⟨n, hn, rfl⟩ := nI_of2 (x := x) (M := 5) (n := 5) (by decide) (by grind) (by grind)
  exact ⟨n, by omega, rfl, h1⟩
theorem k_leaf0 {w : Nat → Int32} (h : a_ok w) {t : Nat} (ht : t < 8) : 0 ≤ a_t w t 3 := (h.2.2.2.2.2.2.2.2.2.1 t ht).2.2.2.1.1
theorem k_cap {w : Nat → Int32} (h : a_ok w) {t : Nat} (ht : t < 8) (hn : nI t < w 9) : 10 ≤ a_t w t 0 := h.2.2.2.2.2.2.2.2.2.2.1 t ht hn
