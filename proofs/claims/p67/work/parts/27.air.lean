/-! the class's air -/
theorem nI_divN {a b : Nat} (ha : a < 2 ^ 31) (h0 : 0 < b) (hb : b < 2 ^ 31) : nI a / nI b = nI (a / b) := by
  have hd : a / b < 2 ^ 31 := Nat.lt_of_le_of_lt (Nat.div_le_self _ _) ha
  apply Int32.toInt_inj.mp
  rw [k_div (nI_pos' ha) ((nI_ltI (a := 0) (by omega) hb).mpr h0), nI_toInt ha, nI_toInt hb, nI_toInt hd]
  simp
theorem k_div_b {h : Int32} (h0 : 0 ≤ h) (h1 : h ≤ 4000) : 0 ≤ h / 24 ∧ h / 24 ≤ 200 ∧ h / 24 * 24 ≤ h ∧ h < h / 24 * 24 + 24 := by
  obtain ⟨a, ha, rfl⟩ := nI_of2 (M := 4000) (n := 4000) (by decide) (by grind) h1
  have e : nI a / 24 = nI (a / 24) := nI_divN (b := 24) (by omega) (by omega) (by omega)
  have m : nI (a / 24) * 24 = nI (a / 24 * 24) := nI_mul _ 24
  have m2 : nI (a / 24 * 24) + 24 = nI (a / 24 * 24 + 24) := nI_add _ 24
  rw [e, m, m2]
  exact ⟨nI_pos' (by omega), (nI_leI (b := 200) (by omega) (by omega)).mpr (by omega), nI_le (by omega) (by omega), nI_lt (by omega) (by omega)⟩
theorem k_wet {h d : Int32} (h0 : 0 ≤ h) (h1 : h ≤ 4000) (d0 : 0 ≤ d) (d1 : d ≤ 83) : (0 ≤ h / 24 - d ∧ h / 24 - d ≤ 6) ↔ (¬ h - d * 24 < 0 ∧ ¬ 168 ≤ h - d * 24) := by
  obtain ⟨q0, q1, q2, q3⟩ := k_div_b h0 h1
  generalize h / 24 = q at *
  constructor
  · rintro ⟨a, b⟩
    constructor <;> grind
  · rintro ⟨a, b⟩
    constructor <;> grind
/-- the air of the loft at b keeps the row w -/
def hk_air (S : hk_S) (b : Nat) (w : Nat → Int32) : Prop := S (b + 1) 0 = w 0 ∧ S (b + 1) 1 = w 2 ∧ S (b + 1) 2 = w 1 ∧ S (b + 1) 3 = w 5 ∧ ∀ m, m < 3 → nI m < w 5 → S (b + 2) m = w (6 + m)
def a_mok (w : Nat → Int32) : Prop := (0 ≤ w 5 ∧ w 5 ≤ 3) ∧ ∀ m, m < 3 → nI m < w 5 → 0 ≤ w (6 + m) ∧ w (6 + m) ≤ 83
theorem a_mok_of {w : Nat → Int32} (h : a_ok w) : a_mok w := ⟨h.2.2.2.2.2.1, h.2.2.2.2.2.2.1⟩
theorem pX1_hasMonsoonAt_2 {E : hk_E} {F b : Nat} {h : Int32} {w : Nat → Int32} (hL : hk_L E b) (h0 : 0 ≤ h) (h1 : h ≤ 4000) (hm : a_mok w) : ∀ (d z f : Nat) (S : hk_S), z + d = 4 → d < f → z ≤ 3 → hk_air S b w → mX1_hasMonsoonAt_2 E F (b + 1) h (fun S9 _ => some (0, S9)) f S (nI z) = some (if a_wetf w h z = true then 1 else 0, S) := by
  intro d
  induction d with
  | zero => intro z f S q1 q2 q3; omega
  | succ d ih =>
    intro z f S q1 q2 q3 hA
    obtain ⟨f, rfl⟩ : ∃ g, f = g + 1 := ⟨f - 1, by omega⟩
    obtain ⟨k0, k1, ⟨k2, l2⟩, -, -, -, -, ⟨r0, r1, r3, r4⟩⟩ := hL
    obtain ⟨e0, e1, e2, e3, em⟩ := hA
    obtain ⟨⟨m0, m1⟩, md⟩ := hm
    rw [mX1_hasMonsoonAt_2]
    dsimp only
    rw [e3]
    by_cases hz : w 5 ≤ nI z
    · rw [if_pos hz, a_wetf_end hz m1 m0]
      simp
    · have hlt : nI z < w 5 := by grind
      have hz3 : z < 3 := by
        apply Classical.byContradiction
        intro q
        have : z = 3 := by omega
        subst this
        exact hz m1
      rw [if_neg hz, if_neg (show ¬ (3 : Int32) ≤ nI z from nI_ge (a := z) (b := 3) (by omega) (by omega)), r4, Option.bind_some, if_pos k2, l2, if_pos (hk_okI hz3 (by omega)), nI_clamp (by omega), hk_let_eq, em z hz3 hlt]
      have hk := k_wet h0 h1 (md z hz3 hlt).1 (md z hz3 hlt).2
      rw [a_wetf_step hz3 hlt]
      by_cases hq : 0 ≤ h / 24 - w (6 + z) ∧ h / 24 - w (6 + z) ≤ 6
      · rw [if_neg (hk.mp hq).1, if_neg (hk.mp hq).2]
        simp [hq.1, hq.2]
      · have hb : (decide (0 ≤ h / 24 - w (6 + z)) && decide (h / 24 - w (6 + z) ≤ 6)) = false := by
          rw [Bool.eq_false_iff]
          intro q
          simp at q
          exact hq q
        have hi := ih (z + 1) f S (by omega) (by omega) (by omega) ⟨e0, e1, e2, e3, em⟩
        rw [hb, Bool.false_or]
        by_cases hn : h - w (6 + z) * 24 < 0
        · rw [if_pos hn, hk_let_eq, nI_1]
          exact hi
        · have h168 : 168 ≤ h - w (6 + z) * 24 := by
            apply Classical.byContradiction
            intro q
            exact hq (hk.mpr ⟨hn, q⟩)
          rw [if_neg hn, if_pos h168, hk_let_eq, nI_1]
          exact hi
theorem pX1_hasMonsoonAt {E : hk_E} {F b : Nat} {S : hk_S} {h : Int32} {w : Nat → Int32} (hL : hk_L E b) (hF : 5 ≤ F) (h0 : 0 ≤ h) (h1 : h ≤ 4000) (hm : a_mok w) (hA : hk_air S b w) : mX1_hasMonsoonAt E F S (b + 1) h = some (if a_wetb w h = true then 1 else 0, S) := by
  unfold mX1_hasMonsoonAt
  have := pX1_hasMonsoonAt_2 (F := F) hL h0 h1 hm 4 0 F S (by omega) (by omega) (by omega) hA
  rw [a_wetf0] at this
  exact this
theorem pX1_humidityOf {E : hk_E} {F b : Nat} {S : hk_S} {h : Int32} {w : Nat → Int32} (hL : hk_L E b) (hF : 5 ≤ F) (h0 : 0 ≤ h) (h1 : h ≤ 4000) (hm : a_mok w) (hA : hk_air S b w) : mX1_humidityOf E F S (b + 1) h = some (a_hum w h, S) := by
  unfold mX1_humidityOf a_hum
  rw [pX1_hasMonsoonAt hL hF h0 h1 hm hA, Option.bind_some]
  by_cases hw : a_wetb w h = true
  · simp [hw]
  · have hw2 : a_wetb w h = false := by simpa using hw
    rw [hw2]
    simp [hA.2.1]
theorem pX1_drynessOf {E : hk_E} {F b : Nat} {S : hk_S} {h : Int32} {w : Nat → Int32} (hL : hk_L E b) (hF : 5 ≤ F) (h0 : 0 ≤ h) (h1 : h ≤ 4000) (hm : a_mok w) (hA : hk_air S b w) : mX1_drynessOf E F S (b + 1) h = some (a_dry w h, S) := by
  unfold mX1_drynessOf a_dry
  rw [pX1_humidityOf hL hF h0 h1 hm hA, Option.bind_some]
  dsimp only
  rw [hA.2.2.1]
/-- the next monsoon, from the z-th on -/
def a_nm (w : Nat → Int32) : Nat → Nat → Int32 → Int32
  | 0, _, acc => acc
  | d + 1, z, acc => if nI z < w 5 then a_nm w d (z + 1) (if w (6 + z) * 24 - w 0 ≤ 0 then acc else if acc = -1 then w (6 + z) * 24 - w 0 else if acc ≤ w (6 + z) * 24 - w 0 then acc else w (6 + z) * 24 - w 0) else acc
theorem pX1_next_4 {E : hk_E} {F b : Nat} {w : Nat → Int32} (hL : hk_L E b) (hm : a_mok w) : ∀ (d z f : Nat) (S : hk_S) (acc : Int32), z + d = 3 → d < f → hk_air S b w → mX1_hoursToNextMonsoon_4 E F (b + 1) (fun S15 z16 z17 => some (z16, S15)) f S acc (nI z) = some (a_nm w d z acc, S) := by
  intro d
  induction d with
  | zero =>
    intro z f S acc q1 q2 hA
    obtain ⟨f, rfl⟩ : ∃ g, f = g + 1 := ⟨f - 1, by omega⟩
    have hz : z = 3 := by omega
    subst hz
    rw [mX1_hoursToNextMonsoon_4]
    dsimp only
    rw [hA.2.2.2.1, if_pos (show w 5 ≤ nI 3 from hm.1.2)]
    rfl
  | succ d ih =>
    intro z f S acc q1 q2 hA
    obtain ⟨f, rfl⟩ : ∃ g, f = g + 1 := ⟨f - 1, by omega⟩
    obtain ⟨k0, k1, ⟨k2, l2⟩, -, -, -, -, ⟨r0, r1, r3, r4⟩⟩ := hL
    have hA' := hA
    obtain ⟨e0, e1, e2, e3, em⟩ := hA
    rw [mX1_hoursToNextMonsoon_4]
    dsimp only
    rw [e3]
    by_cases hz : w 5 ≤ nI z
    · rw [if_pos hz, a_nm, if_neg (by grind)]
    · have hlt : nI z < w 5 := by grind
      rw [if_neg hz, if_neg (show ¬ (3 : Int32) ≤ nI z from nI_ge (a := z) (b := 3) (by omega) (by omega)), r4, Option.bind_some, if_pos k2, l2, if_pos (hk_okI (by omega) (by omega)), nI_clamp (by omega), hk_let_eq, em z (by omega) hlt, e0, a_nm, if_pos hlt]
      simp only [hk_let_eq, nI_1]
      by_cases c1 : w (6 + z) * 24 - w 0 ≤ 0
      · rw [if_pos c1, if_pos c1]
        exact ih (z + 1) f S acc (by omega) (by omega) hA'
      · rw [if_neg c1, if_neg c1]
        by_cases c2 : acc = -1
        · rw [if_pos c2, if_pos c2]
          exact ih (z + 1) f S _ (by omega) (by omega) hA'
        · rw [if_neg c2, if_neg c2]
          by_cases c3 : acc ≤ w (6 + z) * 24 - w 0
          · rw [if_pos c3, if_pos c3]
            exact ih (z + 1) f S _ (by omega) (by omega) hA'
          · rw [if_neg c3, if_neg c3]
            exact ih (z + 1) f S _ (by omega) (by omega) hA'
theorem pX1_next {E : hk_E} {F b : Nat} {S : hk_S} {w : Nat → Int32} (hL : hk_L E b) (hF : 5 ≤ F) (hm : a_mok w) (hA : hk_air S b w) : mX1_hoursToNextMonsoon E F S (b + 1) = some (a_nm w 3 0 (-1), S) := by
  unfold mX1_hoursToNextMonsoon
  exact pX1_next_4 (F := F) hL hm 3 0 F S (-1) (by omega) (by omega) hA
