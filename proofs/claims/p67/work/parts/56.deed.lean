/-! one deed -/
theorem k_rem {a b : Nat} (ha : a < 2 ^ 31) (h0 : 0 < b) (hb : b < 2 ^ 31) : nI a - nI a / nI b * nI b = nI (a % b) := by
  rw [nI_divN ha h0 hb, nI_mul]
  have e : a % b + a / b * b = a := by
    rw [Nat.mul_comm (a / b) b]
    exact Nat.mod_add_div a b
  have h : nI a = nI (a % b) + nI (a / b * b) := by rw [nI_add, e]
  rw [h]
  generalize nI (a % b) = x
  generalize nI (a / b * b) = y
  grind
/-- nothing was done, or a change that is remembered -/
def w_go (S S' : hk_S) (w : Nat → Int32) (c nx : Nat) : Prop := (hk_B S' w ∧ hk_hs S' c nx) ∨ ∃ W, hk_B S' W ∧ w_st w W ∧ hk_re S S' w c nx
theorem w_no {S S' : hk_S} {w : Nat → Int32} {c nx : Nat} (h : hk_B S w) (hh : hk_hs S c nx) (e : ∀ a, a ≠ 220 → S' a = S a) : w_go S S' w c nx := Or.inl ⟨hk_B220 h e, hk_hs220 hh e⟩
theorem w_ye {S S' : hk_S} {w W : Nat → Int32} {c nx : Nat} (st : w_st w W) (e2 : hk_lf S' 1 W) (e3 : hk_re S S' w c nx) : w_go S S' w c nx := Or.inr ⟨W, ⟨e2, st.1⟩, st, e3⟩
theorem hk_re220 {S S1 S2 : hk_S} {w : Nat → Int32} {c nx : Nat} (h : hk_re S1 S2 w c nx) (e : ∀ a, a ≠ 220 → S1 a = S a) : hk_re S S2 w c nx := ⟨h.1, h.2.1, h.2.2.1, fun a ha => (h.2.2.2 a ha).trans (e a (by omega))⟩
theorem k_pos {k : Nat} (hk : k < 2 ^ 31) : 0 ≤ nI k := nI_pos' hk
theorem k_nle {k b : Nat} (hk : k ≤ b) (hb : b < 2 ^ 31) : nI k ≤ nI b := nI_le hk hb
theorem k_hr2 {x y : Int32} (h0 : 0 ≤ x) (h1 : x ≤ 2000) (h2 : 0 ≤ y) (h3 : y ≤ 200) (h4 : ¬ 2000 < x + y) : y ≤ 2000 - x ∧ x ≤ 2000 - y := by
  constructor <;> grind
set_option maxHeartbeats 4000000 in
theorem q_deed {F c nx : Nat} {S : hk_S} {w : Nat → Int32} (hF : 2000 ≤ F) (h : hk_B S w) (hh : hk_hs S c nx) (h9 : 1 ≤ w 9) (h10 : 1 ≤ w 10) (x : Int32) : ∃ S', mL_deed hk_E0 F S 0 x = some S' ∧ w_go S S' w c nx := by
  obtain ⟨n, hn8, hn⟩ := k_n9 h.2
  obtain ⟨m, hm6, hm⟩ := k_n10 h.2
  have hn1 : 1 ≤ n := (nI_leI (a := 1) (by omega) (by omega)).mp (by rw [← hn]; exact h9)
  have hm1 : 1 ≤ m := (nI_leI (a := 1) (by omega) (by omega)).mp (by rw [← hm]; exact h10)
  obtain ⟨a, ha, ea⟩ := pk_andE (((x : Int32).toUInt32 >>> ((4 : Int32).toUInt32 &&& Int32.toUInt32 31)).toInt32) (m := 15) 4 (by decide)
  obtain ⟨b, hb, eb⟩ := pk_andE (((x : Int32).toUInt32 >>> ((8 : Int32).toUInt32 &&& Int32.toUInt32 31)).toInt32) (m := 1023) 10 (by decide)
  obtain ⟨e, he, ee⟩ := pk_andE (((x : Int32).toUInt32 >>> ((18 : Int32).toUInt32 &&& Int32.toUInt32 31)).toInt32) (m := 63) 6 (by decide)
  have ha : a < 16 := ha
  have hb : b < 1024 := hb
  have he : e < 64 := he
  unfold mL_deed
  rw [q_troughCount h, Option.bind_some]
  dsimp only
  rw [hn, if_pos (nI_ne0 (by omega) (by omega)), ea, eb, ee, k_rem (by omega) (by omega) (by omega)]
  simp only [hk_let_eq]
  rw [q_probeCount h, Option.bind_some]
  dsimp only
  rw [hm, if_pos (nI_ne0 (by omega) (by omega)), k_rem (by omega) (by omega) (by omega)]
  have ht0 : a % n < n := Nat.mod_lt _ (by omega)
  have hq0 : b % m < m := Nat.mod_lt _ (by omega)
  generalize a % n = t at *
  generalize b % m = q at *
  have ht : t < 8 := by omega
  have hq : q < 6 := by omega
  have hl : nI t < w 9 := k_lt9 hn ht0 hn8
  have hql : nI q < w 10 := k_lt9 hm hq0 (by omega)
  have hF10 : 10 ≤ F := by omega
  have hok := a_okT h.2 ht
  have h30 := hok.2.2.2.1.1
  have r6 : nI b - nI b / 6 * 6 = nI (b % 6) := k_rem (b := 6) (by omega) (by omega) (by omega)
  have fan : ∃ r S', mX11_setFan hk_E0 F S 0 (nI t) (nI b - nI b / 6 * 6) = some (r, S') ∧ w_go S S' w c nx := by
    have hb6 : b % 6 < 6 := Nat.mod_lt _ (by omega)
    have f0 : 0 ≤ nI (b % 6) := k_pos (by omega)
    have f5 : nI (b % 6) ≤ 5 := k_nle (b := 5) (by omega) (by omega)
    obtain ⟨r, S', e1, e2, e3⟩ := c_setFan hF10 h hh ht hl f0 f5
    rw [r6]
    exact ⟨r, S', e1, w_ye (st_fan h.2 ht hl f0 f5) e2 e3⟩
  obtain ⟨fr, fS, fe, fg⟩ := fan
  have lod : a_t w t 3 = 0 → ∃ r S', mX11_load hk_E0 F S 0 (nI t) (1 + (nI b - nI b / a_t w t 0 * a_t w t 0)) (600 + nI e * 4) = some (r, S') ∧ w_go S S' w c nx := by
    intro hv
    have hc0 := k_cap h.2 ht hl
    have hc1 := hok.2.1.2
    obtain ⟨cp, hcp, ecp⟩ := nI_of2 (x := a_t w t 0) (M := 500) (n := 500) (by decide) (by generalize a_t w t 0 = y at *; grind) hc1
    have hcp1 : 10 ≤ cp := (nI_leI (a := 10) (by omega) (by omega)).mp (by rw [← ecp]; exact hc0)
    have hbm : b % cp < cp := Nat.mod_lt _ (by omega)
    have k1 : (1 : Int32) + (nI b - nI b / a_t w t 0 * a_t w t 0) = nI (1 + b % cp) := by
      rw [ecp, k_rem (by omega) (by omega) (by omega)]
      exact nI_add 1 _
    have k2 : (600 : Int32) + nI e * 4 = nI (600 + e * 4) := by
      rw [show nI e * 4 = nI (e * 4) from nI_mul e 4]
      exact nI_add 600 _
    have f0 : 1 ≤ nI (1 + b % cp) := k_nle (k := 1) (by omega) (by omega)
    have f1 : nI (1 + b % cp) ≤ a_t w t 0 := by rw [ecp]; exact k_nle (by omega) (by omega)
    have f2 : 600 ≤ nI (600 + e * 4) := k_nle (k := 600) (by omega) (by omega)
    have f3 : nI (600 + e * 4) ≤ 900 := k_nle (b := 900) (by omega) (by omega)
    obtain ⟨r, S', e1, e2, e3⟩ := c_load hF10 h hh ht hl f0 f1 f2 f3 hv
    rw [k1, k2]
    exact ⟨r, S', e1, w_ye (st_load h.2 ht hl f0 f1 f2 f3 hv) e2 e3⟩
  have hc0 : ¬ a_t w t 0 = 0 := by have := k_cap h.2 ht hl; generalize a_t w t 0 = y at *; grind
  have self : w_go S S w c nx := w_no h hh (fun _ _ => rfl)
  by_cases z0 : x &&& 15 = 0
  · rw [if_pos z0]
    rw [q_kilograms h ht hl, Option.bind_some]
    dsimp only
    by_cases hv : a_t w t 3 = 0
    · rw [if_neg (fun p => p hv), q_capacity h ht hl, Option.bind_some]
      dsimp only
      rw [if_pos hc0]
      obtain ⟨r, S', e1, e2⟩ := lod hv
      rw [e1, Option.bind_some]
      exact ⟨S', rfl, e2⟩
    · rw [if_pos hv, fe, Option.bind_some]
      exact ⟨fS, rfl, fg⟩
  rw [if_neg z0]
  by_cases z1 : x &&& 15 = 1
  · rw [if_pos z1]
    rw [q_kilograms h ht hl, Option.bind_some]
    dsimp only
    by_cases hv : a_t w t 3 = 0
    · rw [if_neg (fun p => p hv), q_capacity h ht hl, Option.bind_some]
      dsimp only
      rw [if_pos hc0]
      obtain ⟨r, S', e1, e2⟩ := lod hv
      rw [e1, Option.bind_some]
      exact ⟨S', rfl, e2⟩
    · rw [if_pos hv, fe, Option.bind_some]
      exact ⟨fS, rfl, fg⟩
  rw [if_neg z1]
  by_cases z2 : x &&& 15 = 2
  · rw [if_pos z2]
    rw [fe, Option.bind_some]
    exact ⟨fS, rfl, fg⟩
  rw [if_neg z2]
  by_cases z3 : x &&& 15 = 3
  · rw [if_pos z3]
    rw [fe, Option.bind_some]
    exact ⟨fS, rfl, fg⟩
  rw [if_neg z3]
  by_cases z4 : x &&& 15 = 4
  · rw [if_pos z4]
    obtain ⟨r, S', e1, e2, e3⟩ := c_reverse hF10 h hh ht hl
    rw [e1, Option.bind_some]
    exact ⟨S', rfl, w_ye (st_rev h.2 ht hl) e2 e3⟩
  rw [if_neg z4]
  by_cases z5 : x &&& 15 = 5
  · rw [if_pos z5]
    have hb6 : b % 6 < 6 := Nat.mod_lt _ (by omega)
    have f0 : 0 ≤ nI (b % 6) := k_pos (by omega)
    have f5 : nI (b % 6) ≤ 5 := k_nle (b := 5) (by omega) (by omega)
    rw [r6]
    obtain ⟨r, S', e1, e2, e3⟩ := c_setHeat hF10 h hh f0 f5
    rw [e1, Option.bind_some]
    exact ⟨S', rfl, w_ye (st_heat h.2 f0 f5) e2 e3⟩
  rw [if_neg z5]
  by_cases z6 : x &&& 15 = 6
  · rw [if_pos z6]
    have hb6 : b % 76 < 76 := Nat.mod_lt _ (by omega)
    have k1 : (20 : Int32) + (nI b - nI b / 76 * 76) = nI (20 + b % 76) := by
      rw [show nI b - nI b / 76 * 76 = nI (b % 76) from k_rem (b := 76) (by omega) (by omega) (by omega)]
      exact nI_add 20 _
    have f0 : 20 ≤ nI (20 + b % 76) := k_nle (k := 20) (by omega) (by omega)
    have f5 : nI (20 + b % 76) ≤ 95 := k_nle (b := 95) (by omega) (by omega)
    rw [k1]
    obtain ⟨r, S', e1, e2, e3⟩ := c_setHumidity hF10 h hh f0 f5
    rw [e1, Option.bind_some]
    exact ⟨S', rfl, w_ye (st_humid h.2 f0 f5) e2 e3⟩
  rw [if_neg z6]
  by_cases z7 : x &&& 15 = 7
  · rw [if_pos z7]
    rw [q_kilograms h ht hl, Option.bind_some]
    dsimp only
    by_cases hv : a_t w t 3 = 0
    · rw [if_pos (by rw [hv]; decide)]
      exact ⟨S, rfl, self⟩
    · have hv2 : ¬ a_t w t 3 ≤ 0 := by generalize a_t w t 3 = y at *; grind
      rw [if_neg hv2]
      rw [q_speed h ht hl, Option.bind_some]
      dsimp only
      by_cases hs : a_t w t 1 = 0
      · rw [if_neg (fun p => p hs)]
        obtain ⟨r, S', e1, e2, e3⟩ := c_turnLeaf hF10 h hh ht hl hv
        rw [e1, Option.bind_some]
        exact ⟨S', rfl, w_ye (st_turn h.2 ht hl hv) e2 e3⟩
      · rw [if_pos hs]
        exact ⟨S, rfl, self⟩
  rw [if_neg z7]
  by_cases z8 : x &&& 15 = 8
  · rw [if_pos z8]
    have hb6 : b % 201 < 201 := Nat.mod_lt _ (by omega)
    have he6 : e % 46 < 46 := Nat.mod_lt _ (by omega)
    have k1 : (500 : Int32) + (nI b - nI b / 201 * 201) = nI (500 + b % 201) := by
      rw [show nI b - nI b / 201 * 201 = nI (b % 201) from k_rem (b := 201) (by omega) (by omega) (by omega)]
      exact nI_add 500 _
    have k2 : (5 : Int32) + (nI e - nI e / 46 * 46) = nI (5 + e % 46) := by
      rw [show nI e - nI e / 46 * 46 = nI (e % 46) from k_rem (b := 46) (by omega) (by omega) (by omega)]
      exact nI_add 5 _
    have f0 : 500 ≤ nI (500 + b % 201) := k_nle (k := 500) (by omega) (by omega)
    have f1 : nI (500 + b % 201) ≤ 700 := k_nle (b := 700) (by omega) (by omega)
    have f2 : 5 ≤ nI (5 + e % 46) := k_nle (k := 5) (by omega) (by omega)
    have f3 : nI (5 + e % 46) ≤ 50 := k_nle (b := 50) (by omega) (by omega)
    rw [k1, k2]
    obtain ⟨r, S', e1, e2, e3⟩ := c_setTarget hF10 h hh f0 f1 f2 f3
    rw [e1, Option.bind_some]
    exact ⟨S', rfl, w_ye (st_aim h.2 f0 f1 f2 f3) e2 e3⟩
  rw [if_neg z8]
  by_cases z9 : x &&& 15 = 9
  · rw [if_pos z9]
    rw [q_kilograms h ht hl, Option.bind_some]
    dsimp only
    by_cases hv : a_t w t 3 = 0
    · rw [if_pos (by rw [hv]; decide)]
      exact ⟨S, rfl, self⟩
    · have hv2 : ¬ a_t w t 3 ≤ 0 := by generalize a_t w t 3 = y at *; grind
      rw [if_neg hv2]
      obtain ⟨r, S', e1, e2, e3⟩ := c_turnLeaf hF10 h hh ht hl hv
      rw [e1, Option.bind_some]
      exact ⟨S', rfl, w_ye (st_turn h.2 ht hl hv) e2 e3⟩
  rw [if_neg z9]
  by_cases z10 : x &&& 15 = 10
  · rw [if_pos z10]
    rw [q_why h ht hl, Option.bind_some]
    dsimp only
    by_cases hy : t_why w (a_t w t) = 0
    · rw [if_neg (fun p => p hy)]
      obtain ⟨r, S', e1, e2, e3⟩ := c_discharge hF10 h hh ht hl hy
      rw [e1, Option.bind_some]
      exact ⟨S', rfl, w_ye (st_send h.2 ht hl) e2 e3⟩
    · rw [if_pos hy]
      obtain ⟨S1, p1, p2⟩ := q_htr hF h ht hl
      rw [p1, Option.bind_some]
      dsimp only
      by_cases hz : a_htr w t ≤ 0
      · rw [if_pos hz]
        exact ⟨S1, rfl, w_no h hh p2⟩
      · rw [if_neg hz]
        have h1 := hk_B220 h p2
        have hh1 := hk_hs220 hh p2
        rw [q_hour h1, Option.bind_some]
        dsimp only
        obtain ⟨S2, s1, s2⟩ := q_htr hF h1 ht hl
        have s3 : ∀ a, a ≠ 220 → S2 a = S a := fun a ha => (s2 a ha).trans (p2 a ha)
        rw [s1, Option.bind_some]
        dsimp only
        by_cases hbig : 2000 < w 0 + a_htr w t
        · rw [if_pos hbig]
          exact ⟨S2, rfl, w_no h hh s3⟩
        · rw [if_neg hbig]
          have h2 := hk_B220 h s3
          obtain ⟨S3, u1, u2⟩ := q_htr hF h2 ht hl
          have u3 : ∀ a, a ≠ 220 → S3 a = S a := fun a ha => (u2 a ha).trans (s3 a ha)
          have h3 := hk_B220 h u3
          have hh3 := hk_hs220 hh u3
          rw [u1, Option.bind_some]
          dsimp only
          rcases a_htr_le w t with e | ⟨k, hk, e⟩
          · rw [e] at hz
            exact absurd (by decide) hz
          · rw [e] at hz hbig ⊢
            have hk1 : 1 ≤ k := by
              apply Classical.byContradiction
              intro p
              have : k = 0 := by omega
              subst this
              exact hz (by decide)
            have hw0 := h.2.1
            have hk0 : 0 ≤ nI k := k_pos (by omega)
            have hk2 : nI k ≤ 200 := k_nle (b := 200) (by omega) (by omega)
            have hle := k_hr2 hw0.1 hw0.2 hk0 hk2 hbig
            obtain ⟨S', e1, e2, e3⟩ := c_passHours hF h3 hh3 hk1 hk hle.1
            rw [e1, Option.bind_some]
            exact ⟨S', rfl, w_ye (st_pass h.2 hk hle.2) e2 (hk_re220 e3 u3)⟩
  rw [if_neg z10]
  by_cases z11 : x &&& 15 = 11
  · rw [if_pos z11]
    rw [q_kilograms h ht hl, Option.bind_some]
    dsimp only
    by_cases hv : a_t w t 3 = 0
    · rw [if_pos (by rw [hv]; decide)]
      exact ⟨S, rfl, self⟩
    · have hv2 : ¬ a_t w t 3 ≤ 0 := by generalize a_t w t 3 = y at *; grind
      rw [if_neg hv2]
      by_cases h3 : nI b &&& 3 = 0
      · rw [if_neg (fun p => p h3)]
        obtain ⟨r, S', e1, e2, e3⟩ := c_discard hF10 h hh ht hl hv
        rw [e1, Option.bind_some]
        exact ⟨S', rfl, w_ye (st_out2 h.2 ht hl (Or.inr rfl)) e2 e3⟩
      · rw [if_pos h3]
        exact ⟨S, rfl, self⟩
  rw [if_neg z11]
  by_cases z12 : x &&& 15 = 12
  · rw [if_pos z12]
    rw [q_troughCount h, Option.bind_some]
    dsimp only
    by_cases h8 : 8 ≤ w 9
    · rw [if_pos h8]
      exact ⟨S, rfl, self⟩
    · rw [if_neg h8]
      have hn7 : n < 8 := by
        apply Classical.byContradiction
        intro p
        exact h8 (by rw [hn]; exact k_nle (k := 8) (by omega) (by omega))
      have hb6 : b % 491 < 491 := Nat.mod_lt _ (by omega)
      have k1 : (10 : Int32) + (nI b - nI b / 491 * 491) = nI (10 + b % 491) := by
        rw [show nI b - nI b / 491 * 491 = nI (b % 491) from k_rem (b := 491) (by omega) (by omega) (by omega)]
        exact nI_add 10 _
      have f0 : 10 ≤ nI (10 + b % 491) := k_nle (k := 10) (by omega) (by omega)
      have f1 : nI (10 + b % 491) ≤ 500 := k_nle (b := 500) (by omega) (by omega)
      rw [k1]
      obtain ⟨r, S', e1, e2, e3⟩ := c_addTrough hF10 h hh hn hn7 f0 f1
      rw [e1, Option.bind_some]
      exact ⟨S', rfl, w_ye (st_build h.2 hn hn7 f0 f1) e2 e3⟩
  rw [if_neg z12]
  by_cases z13 : x &&& 15 = 13
  · rw [if_pos z13]
    have k1 : nI b &&& 1 = nI (b % 2) := pk_andN (by omega) (m := 1) 1 (by decide)
    have hb2 : b % 2 < 2 := Nat.mod_lt _ (by omega)
    have f0 : 0 ≤ nI (b % 2) := k_pos (by omega)
    have f1 : nI (b % 2) ≤ 1 := k_nle (b := 1) (by omega) (by omega)
    have f2 : nI (b % 2) = 0 ∨ nI (b % 2) = 1 := by
      have : b % 2 = 0 ∨ b % 2 = 1 := by omega
      rcases this with p | p <;> rw [p]
      · exact Or.inl rfl
      · exact Or.inr rfl
    have hin : 0 ≤ nI t ∧ nI t < w 9 := k_in (by omega) hl
    rw [q_probeCount h, Option.bind_some, k1]
    dsimp only
    by_cases h6 : 6 ≤ w 10
    · rw [if_pos h6]
      obtain ⟨r, S', e1, e2, e3⟩ := c_moveProbe hF10 h hh hq hql ht hl f0 f1
      rw [e1, Option.bind_some]
      exact ⟨S', rfl, w_ye (st_move h.2 hq hin f2) e2 e3⟩
    · rw [if_neg h6]
      have hm5 : m < 6 := by
        apply Classical.byContradiction
        intro p
        exact h6 (by rw [hm]; exact k_nle (k := 6) (by omega) (by omega))
      have g0 : 0 ≤ nI e := k_pos (by omega)
      have g1 : nI e ≤ 63 := k_nle (b := 63) (by omega) (by omega)
      have f3 : -50 ≤ nI e - 31 ∧ nI e - 31 ≤ 50 := by
        generalize nI e = y at *
        grind
      obtain ⟨r, S', e1, e2, e3⟩ := c_addProbe hF10 h hh ht hl hm hm5 f0 f1 f3.1 f3.2
      rw [e1, Option.bind_some]
      exact ⟨S', rfl, w_ye (st_put h.2 hm hm5 hin f2 f3) e2 e3⟩
  rw [if_neg z13]
  by_cases z14 : x &&& 15 = 14
  · rw [if_pos z14]
    obtain ⟨r, S', e1, e2, e3⟩ := c_calibrate hF10 h hh hq hql
    rw [e1, Option.bind_some]
    exact ⟨S', rfl, w_ye (st_cal h.2 hq) e2 e3⟩
  rw [if_neg z14]
  rw [q_hour h, Option.bind_some]
  dsimp only
  have hb6 : b % 30 < 30 := Nat.mod_lt _ (by omega)
  have r30 : nI b - nI b / 30 * 30 = nI (b % 30) := k_rem (b := 30) (by omega) (by omega) (by omega)
  have k1 : (1 : Int32) + nI (b % 30) = nI (1 + b % 30) := nI_add 1 _
  have k2 : w 0 + 1 + nI (b % 30) = w 0 + nI (1 + b % 30) := by rw [Int32.add_assoc, k1]
  rw [r30, k1, k2]
  by_cases hbig : 2000 < w 0 + nI (1 + b % 30)
  · rw [if_pos hbig]
    exact ⟨S, rfl, self⟩
  · rw [if_neg hbig]
    have hw0 := h.2.1
    have hk0 : 0 ≤ nI (1 + b % 30) := k_pos (by omega)
    have hk2 : nI (1 + b % 30) ≤ 200 := k_nle (b := 200) (by omega) (by omega)
    have hle := k_hr2 hw0.1 hw0.2 hk0 hk2 hbig
    obtain ⟨S', e1, e2, e3⟩ := c_passHours hF h hh (by omega) (by omega) hle.1
    rw [e1, Option.bind_some]
    exact ⟨S', rfl, w_ye (st_pass h.2 (by omega) hle.2) e2 e3⟩
