/-! all troughs at once: the model, and the questions -/
section
variable {E : hk_E} {F n : Nat} {S : hk_S}
theorem pX12_ready_9 {K : hk_S → Int32 → Int32 → Option (Int32 × hk_S)} (hE : hk_Sh 231 E) (hn : S 222 9 = nI n) (hn8 : n ≤ 8) : ∀ (d z f : Nat), z + d = n → d < f → mX12_readyTroughs_9 E F 221 K f S (k_rs (a_rd (S 222)) z) (nI z) = K S (k_rs (a_rd (S 222)) n) (nI n) := by
  intro d
  induction d with
  | zero =>
    intro z f h1 h2
    obtain ⟨f, rfl⟩ : ∃ g, f = g + 1 := ⟨f - 1, by omega⟩
    have hz : z = n := by omega
    subst hz
    rw [mX12_readyTroughs_9]
    dsimp only
    rw [rE_221_0 hE, Option.bind_some, if_pos (kE_222 hE), lE_222 hE, if_pos (show hk_ok 9 107 by decide), hn, if_pos (nI_le (by omega) (by omega))]
  | succ d ih =>
    intro z f h1 h2
    obtain ⟨f, rfl⟩ : ∃ g, f = g + 1 := ⟨f - 1, by omega⟩
    have hi := ih (z + 1) f (by omega) (by omega)
    rw [mX12_readyTroughs_9]
    dsimp only
    rw [rE_221_0 hE, Option.bind_some, if_pos (kE_222 hE), lE_222 hE, if_pos (show hk_ok 9 107 by decide), hn, if_neg (nI_ge (by omega) (by omega)), pX12_isReady hE (by omega), Option.bind_some]
    simp only [hk_let_eq, nI_1]
    by_cases q : ¬ a_t (S 222) z 3 = 0 ∧ (S 222 3 - S 222 4 ≤ a_t (S 222) z 4 ∧ a_t (S 222) z 4 ≤ S 222 3 + S 222 4) ∧ (S 222 3 - S 222 4 ≤ a_t (S 222) z 5 ∧ a_t (S 222) z 5 ≤ S 222 3 + S 222 4)
    · have hb : a_rd (S 222) z = true := decide_eq_true q
      rw [k_rs, if_pos hb] at hi
      rw [if_pos q, if_neg (by decide)]
      exact hi
    · have hb : ¬ a_rd (S 222) z = true := fun z => q (of_decide_eq_true z)
      rw [k_rs, if_neg hb] at hi
      rw [if_neg q, if_pos rfl, Int32.or_zero]
      exact hi
theorem pX12_many_4 {K : hk_S → Int32 → Int32 → Option (Int32 × hk_S)} (hE : hk_Sh 231 E) (hn : S 222 9 = nI n) (hn8 : n ≤ 8) : ∀ (d z f : Nat), z + d = n → d < f → mX12_readyMany_4 E F 221 K f S (k_rn (a_rd (S 222)) z) (nI z) = K S (k_rn (a_rd (S 222)) n) (nI n) := by
  intro d
  induction d with
  | zero =>
    intro z f h1 h2
    obtain ⟨f, rfl⟩ : ∃ g, f = g + 1 := ⟨f - 1, by omega⟩
    have hz : z = n := by omega
    subst hz
    rw [mX12_readyMany_4]
    dsimp only
    rw [rE_221_0 hE, Option.bind_some, if_pos (kE_222 hE), lE_222 hE, if_pos (show hk_ok 9 107 by decide), hn, if_pos (nI_le (by omega) (by omega))]
  | succ d ih =>
    intro z f h1 h2
    obtain ⟨f, rfl⟩ : ∃ g, f = g + 1 := ⟨f - 1, by omega⟩
    have hi := ih (z + 1) f (by omega) (by omega)
    rw [mX12_readyMany_4]
    dsimp only
    rw [rE_221_0 hE, Option.bind_some, if_pos (kE_222 hE), lE_222 hE, if_pos (show hk_ok 9 107 by decide), hn, if_neg (nI_ge (by omega) (by omega)), pX12_isReady hE (by omega), Option.bind_some]
    simp only [hk_let_eq, nI_1]
    by_cases q : ¬ a_t (S 222) z 3 = 0 ∧ (S 222 3 - S 222 4 ≤ a_t (S 222) z 4 ∧ a_t (S 222) z 4 ≤ S 222 3 + S 222 4) ∧ (S 222 3 - S 222 4 ≤ a_t (S 222) z 5 ∧ a_t (S 222) z 5 ≤ S 222 3 + S 222 4)
    · have hb : a_rd (S 222) z = true := decide_eq_true q
      rw [k_rn, if_pos hb] at hi
      rw [if_pos q, if_neg (by decide)]
      exact hi
    · have hb : ¬ a_rd (S 222) z = true := fun z => q (of_decide_eq_true z)
      rw [k_rn, if_neg hb] at hi
      rw [if_neg q, if_pos rfl, Int32.add_zero]
      exact hi
theorem pX12_many (hE : hk_Sh 231 E) (hF : 10 ≤ F) (hn : S 222 9 = nI n) (hn8 : n ≤ 8) : mX12_readyMany E F S 221 = some (k_rn (a_rd (S 222)) n, S) := by
  unfold mX12_readyMany
  exact pX12_many_4 (F := F) hE hn hn8 n 0 F (by omega) (by omega)
theorem pX12_leafMany_4 {K : hk_S → Int32 → Int32 → Option (Int32 × hk_S)} (hE : hk_Sh 231 E) (hn : S 222 9 = nI n) (hn8 : n ≤ 8) : ∀ (d z f : Nat), z + d = n → d < f → mX12_leafMany_4 E F 221 K f S (k_rn (a_lv (S 222)) z) (nI z) = K S (k_rn (a_lv (S 222)) n) (nI n) := by
  intro d
  induction d with
  | zero =>
    intro z f h1 h2
    obtain ⟨f, rfl⟩ : ∃ g, f = g + 1 := ⟨f - 1, by omega⟩
    have hz : z = n := by omega
    subst hz
    rw [mX12_leafMany_4]
    dsimp only
    rw [rE_221_0 hE, Option.bind_some, if_pos (kE_222 hE), lE_222 hE, if_pos (show hk_ok 9 107 by decide), hn, if_pos (nI_le (by omega) (by omega))]
  | succ d ih =>
    intro z f h1 h2
    obtain ⟨f, rfl⟩ : ∃ g, f = g + 1 := ⟨f - 1, by omega⟩
    have hi := ih (z + 1) f (by omega) (by omega)
    rw [mX12_leafMany_4]
    dsimp only
    rw [rE_221_0 hE, Option.bind_some, if_pos (kE_222 hE), lE_222 hE, if_pos (show hk_ok 9 107 by decide), hn, if_neg (nI_ge (by omega) (by omega)), pX12_isEmpty hE (by omega), Option.bind_some]
    simp only [hk_let_eq, nI_1]
    by_cases q : a_t (S 222) z 3 = 0
    · have hb : ¬ a_lv (S 222) z = true := fun z => (of_decide_eq_true z) q
      rw [k_rn, if_neg hb] at hi
      rw [if_pos q, if_neg (by decide), Int32.add_zero]
      exact hi
    · have hb : a_lv (S 222) z = true := decide_eq_true q
      rw [k_rn, if_pos hb] at hi
      rw [if_neg q, if_pos rfl]
      exact hi
theorem pX12_leafMany (hE : hk_Sh 231 E) (hF : 10 ≤ F) (hn : S 222 9 = nI n) (hn8 : n ≤ 8) : mX12_leafMany E F S 221 = some (k_rn (a_lv (S 222)) n, S) := by
  unfold mX12_leafMany
  exact pX12_leafMany_4 (F := F) hE hn hn8 n 0 F (by omega) (by omega)
theorem pX12_mean_9 {K : hk_S → Int32 → Int32 → Option (UInt64 × hk_S)} (hE : hk_Sh 231 E) (hn : S 222 9 = nI n) (hn8 : n ≤ 8) : ∀ (d z f : Nat), z + d = n → d < f → mX12_meanMoisture_9 E F 221 K f S (k_sm (fun t => a_t (S 222) t 4 + a_t (S 222) t 5) z) (nI z) = K S (k_sm (fun t => a_t (S 222) t 4 + a_t (S 222) t 5) n) (nI n) := by
  intro d
  induction d with
  | zero =>
    intro z f h1 h2
    obtain ⟨f, rfl⟩ : ∃ g, f = g + 1 := ⟨f - 1, by omega⟩
    have hz : z = n := by omega
    subst hz
    rw [mX12_meanMoisture_9]
    dsimp only
    rw [rE_221_0 hE, Option.bind_some, if_pos (kE_222 hE), lE_222 hE, if_pos (show hk_ok 9 107 by decide), hn, if_pos (nI_le (by omega) (by omega))]
  | succ d ih =>
    intro z f h1 h2
    obtain ⟨f, rfl⟩ : ∃ g, f = g + 1 := ⟨f - 1, by omega⟩
    have hi := ih (z + 1) f (by omega) (by omega)
    rw [mX12_meanMoisture_9]
    dsimp only
    rw [rE_221_0 hE, Option.bind_some, if_pos (kE_222 hE), lE_222 hE, if_pos (show hk_ok 9 107 by decide), hn, if_neg (nI_ge (by omega) (by omega)), pX12_of_4 hE (by omega), Option.bind_some, pX12_of_5 hE (by omega), Option.bind_some]
    simp only [hk_let_eq, nI_1]
    exact hi
theorem pX12_wrongOf {t : Nat} (hE : hk_Sh 231 E) (ht : t < 8) (hk : t_ok (a_t (S 222) t)) : mX12_wrongOf E F S 221 (nI t) = some (0, S) := by
  obtain ⟨k2, c, s, bb, ke, kl⟩ := hk
  unfold mX12_wrongOf
  by_cases hv : a_t (S 222) t 3 = 0
  · have e6 : a_t (S 222) t 6 = 0 := (ke hv).2.2.1
    simp only [pX12_of_3 hE ht, pX12_of_0 hE ht, Option.bind_some, bb.2, if_true, pX12_isEmpty hE ht, hv, c.1, k_10, not_false_eq_true, hk_let_eq, pX12_of_6 hE ht, e6, pX12_in, if_pos (show (0 : Int32) ≤ 0 ∧ (0 : Int32) ≤ 20 by decide), if_false]
    rfl
  · obtain ⟨h4, h5, h6⟩ := kl (by generalize a_t (S 222) t 3 = x at *; grind)
    simp only [pX12_of_3 hE ht, pX12_of_0 hE ht, Option.bind_some, bb.2, if_true, pX12_isEmpty hE ht, hv, not_true_eq_false, hk_let_eq, pX12_of_6 hE ht, pX12_of_4 hE ht, pX12_of_5 hE ht, pX12_in, if_pos h4, if_pos h5, if_pos h6, if_false, k_10]
    rfl
theorem pX12_vi_62 {K : hk_S → Int32 → Int32 → Int32 → Int32 → Option (Int32 × hk_S)} {x y : Int32} (hE : hk_Sh 231 E) (hw : a_ok (S 222)) (hn : S 222 9 = nI n) (hn8 : n ≤ 8) : ∀ (d z f : Nat), z + d = n → d < f → mX12_violations_62 E F 221 K f S (x - k_sm (fun t => a_t (S 222) t 3) z) (y - k_sm (fun t => a_t (S 222) t 8) z) 0 (nI z) = K S (x - k_sm (fun t => a_t (S 222) t 3) n) (y - k_sm (fun t => a_t (S 222) t 8) n) 0 (nI n) := by
  intro d
  induction d with
  | zero =>
    intro z f h1 h2
    obtain ⟨f, rfl⟩ : ∃ g, f = g + 1 := ⟨f - 1, by omega⟩
    have hz : z = n := by omega
    subst hz
    rw [mX12_violations_62]
    dsimp only
    rw [rE_221_0 hE, Option.bind_some, if_pos (kE_222 hE), lE_222 hE, if_pos (show hk_ok 9 107 by decide), hn, if_pos (nI_le (by omega) (by omega))]
  | succ d ih =>
    intro z f h1 h2
    obtain ⟨f, rfl⟩ : ∃ g, f = g + 1 := ⟨f - 1, by omega⟩
    have hi := ih (z + 1) f (by omega) (by omega)
    have e : ∀ a b c : Int32, a - (b + c) = a - b - c := fun a b c => by grind
    rw [k_sm, k_sm, e, e] at hi
    rw [mX12_violations_62]
    dsimp only
    rw [rE_221_0 hE, Option.bind_some, if_pos (kE_222 hE), lE_222 hE, if_pos (show hk_ok 9 107 by decide), hn, if_neg (nI_ge (by omega) (by omega)), pX12_of_3 hE (by omega), Option.bind_some]
    simp only [hk_let_eq, pX12_of_8 hE (show z < 8 by omega), Option.bind_some, pX12_wrongOf hE (show z < 8 by omega) (hw.2.2.2.2.2.2.2.2.2.1 z (by omega)), Int32.add_zero, nI_1]
    exact hi
end
set_option maxHeartbeats 4000000 in
theorem mop_44_ok {F : Nat} {S : hk_S} {p1 p2 p3 p4 p5 : Int32} (hF : 2000000 ≤ F) (hI : hk_I S) : ∃ S', mop_44 F S p1 p2 p3 p4 p5 = some S' ∧ hk_I S' := by
  have hL := hk_L1 hE2
  have hN := hI.1.2.1
  have hT := hI.1.2.2.1
  have h9 := hI.2.1.2.2.2.2.2.2.2.1
  obtain ⟨n, hn8, hn⟩ := nI_of2 (x := S 222 9) (M := 8) (n := 8) (by decide) (by have := h9.1; grind) h9.2
  obtain ⟨g1, g2, g3⟩ := a_rd_none hI.2.1 hn hn8
  have e : (hk_up S 221 15 0) 222 = S 222 := hk_upne _ _ _ (by decide)
  have hc : mX11_readyTroughs hk_E0 F S 0 = some (k_rs (a_rd (S 222)) 8, S) := by
    unfold mX11_readyTroughs
    rw [rE_0_0 hE2, Option.bind_some, if_pos hL.1, cX_set (by omega) hL hN hT hI.2.1, Option.bind_some]
  have hm : mX12_readyTroughs hk_E0 F S 221 = some (k_rs (a_rd (S 222)) 8, hk_up S 221 15 0) := by
    unfold mX12_readyTroughs
    rw [hk_let_eq, g1]
    refine (pX12_ready_9 (F := F) (S := hk_up S 221 15 0) (n := n) hE1 (by rw [e]; exact hn) hn8 n 0 F (by omega) (by omega)).trans ?_
    rw [e]
  exact ⟨_, k_mopP (m := fun S => mX12_readyTroughs hk_E0 F S 221) hc hm, hk_I_same hI (hk_same_thr _ _)⟩
set_option maxHeartbeats 4000000 in
theorem mop_59_ok {F : Nat} {S : hk_S} {p1 p2 p3 p4 p5 : Int32} (hF : 2000000 ≤ F) (hI : hk_I S) : ∃ S', mop_59 F S p1 p2 p3 p4 p5 = some S' ∧ hk_I S' := by
  have hL := hk_L1 hE2
  have hN := hI.1.2.1
  have hT := hI.1.2.2.1
  have h9 := hI.2.1.2.2.2.2.2.2.2.1
  obtain ⟨n, hn8, hn⟩ := nI_of2 (x := S 222 9) (M := 8) (n := 8) (by decide) (by have := h9.1; grind) h9.2
  obtain ⟨g1, g2, g3⟩ := a_rd_none hI.2.1 hn hn8
  have e : (hk_up S 221 15 0) 222 = S 222 := hk_upne _ _ _ (by decide)
  obtain ⟨m, hm8, hm⟩ := k_rn_le (a_lv (S 222)) n
  have hm8 : m ≤ 8 := by omega
  have e2 : (2 : Int32) * nI m = nI (2 * m) := nI_mul 2 m
  have gs : k_sm (fun t => a_t (S 222) t 4 + a_t (S 222) t 5) 8 = k_sm (fun t => a_t (S 222) t 4 + a_t (S 222) t 5) n := by
    have := k_sm_stop (f := fun t => a_t (S 222) t 4 + a_t (S 222) t 5) (n := n) (8 - n) (fun t h1 h2 => by
      obtain ⟨-, z4, z5, -⟩ := a_none hI.2.1 hn hn8 h1 (by omega)
      show a_t (S 222) t 4 + a_t (S 222) t 5 = 0
      rw [z4, z5]
      decide)
    rw [show n + (8 - n) = 8 by omega] at this
    exact this
  have hq : ∃ r, mX11_meanMoisture hk_E0 F S 0 = some (r, S) ∧ mX12_meanMoisture hk_E0 F S 221 = some (r, hk_up S 221 15 0) := by
    have hu : mX12_meanMoisture hk_E0 F S 221 = (if ¬ nI (2 * m) = 0 then (if (FP.ddiv (FP.i2d (k_sm (fun t => a_t (S 222) t 4 + a_t (S 222) t 5) n)) (FP.i2d (nI (2 * m)))) &&& 0x7fffffffffffffff ≤ 0x7ff0000000000000 then (some ((FP.ddiv (FP.i2d (k_sm (fun t => a_t (S 222) t 4 + a_t (S 222) t 5) n)) (FP.i2d (nI (2 * m)))), hk_up S 221 15 0)) else none) else (some (FP.dconst0, hk_up S 221 15 0))) := by
      unfold mX12_meanMoisture
      rw [hk_let_eq]
      refine (pX12_mean_9 (F := F) (S := hk_up S 221 15 0) (n := n) hE1 (by rw [e]; exact hn) hn8 n 0 F (by omega) (by omega)).trans ?_
      rw [pX12_leafMany hE1 (by omega) (by rw [e]; exact hn) hn8, Option.bind_some, e]
      simp only [hk_let_eq]
      rw [hm, e2]
    rw [hu]
    unfold mX11_meanMoisture
    rw [rE_0_0 hE2, Option.bind_some, if_pos hL.1, cX_lv (by omega) hL hT hI.2.1, Option.bind_some, g3, hm]
    simp only [hk_let_eq]
    rw [e2]
    by_cases h0 : m = 0
    · subst h0
      refine ⟨FP.dconst0, ?_, ?_⟩
      · rw [if_neg (by decide)]
      · rw [if_neg (by decide)]
    · have hne : ¬ nI (2 * m) = 0 := nI_ne0 (by omega) (by omega)
      refine ⟨FP.ddiv (FP.i2d (k_sm (fun t => a_t (S 222) t 4 + a_t (S 222) t 5) n)) (FP.i2d (nI (2 * m))), ?_, ?_⟩
      · rw [if_pos hne, cX_sm (by omega) hL hT, Option.bind_some, gs, if_pos (k_ddiv (by omega) hm8)]
      · rw [if_pos hne, if_pos (k_ddiv (by omega) hm8)]
  obtain ⟨r, q1, q2⟩ := hq
  refine ⟨hk_up S 221 15 0, ?_, hk_I_same hI (hk_same_thr _ _)⟩
  unfold mop_59
  rw [q1, Option.bind_some, q2, Option.bind_some]
  dsimp only
  by_cases hz : Op.cmpValue (FP.dcmp r r) .l = 0
  · rw [if_pos hz]
  · rw [if_neg hz, if_neg hz, if_pos hz]
set_option maxHeartbeats 4000000 in
theorem mop_60_ok {F : Nat} {S : hk_S} {p1 p2 p3 p4 p5 : Int32} (hF : 2000000 ≤ F) (hI : hk_I S) : ∃ S', mop_60 F S p1 p2 p3 p4 p5 = some S' ∧ hk_I S' := by
  have hL := hk_L1 hE2
  have hN := hI.1.2.1
  have hT := hI.1.2.2.1
  have h9 := hI.2.1.2.2.2.2.2.2.2.1
  obtain ⟨n, hn8, hn⟩ := nI_of2 (x := S 222 9) (M := 8) (n := 8) (by decide) (by have := h9.1; grind) h9.2
  obtain ⟨g1, g2, g3⟩ := a_rd_none hI.2.1 hn hn8
  have e : (hk_up S 221 15 0) 222 = S 222 := hk_upne _ _ _ (by decide)
  obtain ⟨m, hm8, hm⟩ := k_rn_le (a_lv (S 222)) n
  obtain ⟨k, hk8, hk⟩ := k_rn_le (a_rd (S 222)) n
  have hq : ∃ r, mX11_readyShare hk_E0 F S 0 = some (r, S) ∧ mX12_readyShare hk_E0 F S 221 = some (r, hk_up S 221 15 0) ∧ (FP.f2d r &&& 0x7fffffffffffffff ≤ 0x7ff0000000000000) := by
    unfold mX11_readyShare mX12_readyShare
    rw [rE_0_0 hE2, Option.bind_some, if_pos hL.1, cX_lv (by omega) hL hT hI.2.1, Option.bind_some, g3, hm, hk_let_eq, pX12_leafMany hE1 (by omega) (by rw [e]; exact hn) hn8, Option.bind_some, e, hm]
    dsimp only
    by_cases h0 : m = 0
    · subst h0
      refine ⟨FP.fconst0, ?_, ?_, k_share0⟩
      · rw [if_neg (by decide)]
      · rw [if_neg (by decide)]
    · have hne : ¬ nI m = 0 := nI_ne0 (by omega) (by omega)
      obtain ⟨s1, s2⟩ := k_share k (by omega) m (by omega) h0
      refine ⟨FP.fdiv (FP.i2f (nI k)) (FP.i2f (nI m)), ?_, ?_, s2⟩
      · rw [if_pos hne, cX_set (by omega) hL hN hT hI.2.1, Option.bind_some, pJ6, Option.bind_some, k_bcs, g2, hk]
        dsimp only
        rw [if_pos s1]
      · rw [if_pos hne, pX12_many hE1 (by omega) (by rw [e]; exact hn) hn8, Option.bind_some]
        dsimp only
        rw [pX12_leafMany hE1 (by omega) (by rw [e]; exact hn) hn8, Option.bind_some]
        dsimp only
        rw [e, hm, hk, if_pos s1]
  obtain ⟨r, q1, q2, q3⟩ := hq
  refine ⟨hk_up S 221 15 0, ?_, hk_I_same hI (hk_same_thr _ _)⟩
  unfold mop_60
  rw [q1, Option.bind_some]
  dsimp only
  rw [if_pos q3, q2, Option.bind_some]
  dsimp only
  rw [if_pos q3]
  by_cases hz : Op.cmpValue (FP.dcmp (FP.f2d r) (FP.f2d r)) .l = 0
  · rw [if_pos hz]
  · rw [if_neg hz, if_neg hz, if_pos hz]
set_option maxHeartbeats 4000000 in
theorem mop_61_ok {F : Nat} {S : hk_S} {p1 p2 p3 p4 p5 : Int32} (hF : 2000000 ≤ F) (hI : hk_I S) : ∃ S', mop_61 F S p1 p2 p3 p4 p5 = some S' ∧ hk_I S' := by
  have hL := hk_L1 hE2
  have hN := hI.1.2.1
  have hT := hI.1.2.2.1
  have h9 := hI.2.1.2.2.2.2.2.2.2.1
  obtain ⟨n, hn8, hn⟩ := nI_of2 (x := S 222 9) (M := 8) (n := 8) (by decide) (by have := h9.1; grind) h9.2
  obtain ⟨g1, g2, g3⟩ := a_rd_none hI.2.1 hn hn8
  have e : (hk_up S 221 15 0) 222 = S 222 := hk_upne _ _ _ (by decide)
  have gk : ∀ j, (j = 3 ∨ j = 8) → k_sm (fun t => a_t (S 222) t j) 8 = k_sm (fun t => a_t (S 222) t j) n := fun j hj => by
    have := k_sm_stop (f := fun t => a_t (S 222) t j) (n := n) (8 - n) (fun t h1 h2 => by
      obtain ⟨z3, -, -, z8⟩ := a_none hI.2.1 hn hn8 h1 (by omega)
      rcases hj with z | z <;> subst z
      · exact z3
      · exact z8)
    rw [show n + (8 - n) = 8 by omega] at this
    exact this
  have hc : mX11_violations hk_E0 F S 0 = some (0 + (if 0 ≤ S 222 11 - S 222 12 - S 222 13 - k_sm (fun t => a_t (S 222) t 3) n then S 222 11 - S 222 12 - S 222 13 - k_sm (fun t => a_t (S 222) t 3) n else -(S 222 11 - S 222 12 - S 222 13 - k_sm (fun t => a_t (S 222) t 3) n)) + (if 0 ≤ 2000 * S 222 11 - S 222 16 - S 222 15 - k_sm (fun t => a_t (S 222) t 8) n then 2000 * S 222 11 - S 222 16 - S 222 15 - k_sm (fun t => a_t (S 222) t 8) n else -(2000 * S 222 11 - S 222 16 - S 222 15 - k_sm (fun t => a_t (S 222) t 8) n)), S) := by
    unfold mX11_violations mX5_countViolations
    rw [rE_0_0 hE2, Option.bind_some, if_pos hL.1]
    simp only [hk_let_eq]
    have h := cX_vi_25 (E := hk_E0) (F := F) (b := 1) (S := S) (K := fun S18 z19 z20 z21 z22 => (mJ9_abs_0f7a4 hk_E0 F S18 ((S18 1 7) - z19)).bind (fun r23 => (mJ9_abs_0f7a4 hk_E0 F r23.2 (((r23.2 1 7) * 2000) - z20)).bind (fun r25 => some (z21 + r23.1 + r25.1, r25.2)))) (x := S 1 8 + S 1 9) (y := S 1 10 + S 1 12) hL hT hI.2.1 8 0 F (by omega) (by omega)
    rw [k_sm, k_sm, Int32.add_zero, Int32.add_zero] at h
    erw [h]
    rw [pJ9_abs, Option.bind_some]
    dsimp only
    rw [pJ9_abs, Option.bind_some]
    dsimp only
    rw [Option.bind_some, hN.2.2.2.2.1, hN.2.2.2.2.2.1, hN.2.2.2.2.2.2.1, hN.2.2.2.2.2.2.2.1, hN.2.2.2.2.2.2.2.2.2, gk 3 (Or.inl rfl), gk 8 (Or.inr rfl)]
    have ea : S 222 11 - (S 222 12 + S 222 13 + k_sm (fun t => a_t (S 222) t 3) n) = S 222 11 - S 222 12 - S 222 13 - k_sm (fun t => a_t (S 222) t 3) n := by grind
    have eb : S 222 11 * 2000 - (S 222 16 + S 222 15 + k_sm (fun t => a_t (S 222) t 8) n) = 2000 * S 222 11 - S 222 16 - S 222 15 - k_sm (fun t => a_t (S 222) t 8) n := by grind
    rw [ea, eb]
  have hm : mX12_violations hk_E0 F S 221 = some (0 + (if 0 ≤ S 222 11 - S 222 12 - S 222 13 - k_sm (fun t => a_t (S 222) t 3) n then S 222 11 - S 222 12 - S 222 13 - k_sm (fun t => a_t (S 222) t 3) n else -(S 222 11 - S 222 12 - S 222 13 - k_sm (fun t => a_t (S 222) t 3) n)) + (if 0 ≤ 2000 * S 222 11 - S 222 16 - S 222 15 - k_sm (fun t => a_t (S 222) t 8) n then 2000 * S 222 11 - S 222 16 - S 222 15 - k_sm (fun t => a_t (S 222) t 8) n else -(2000 * S 222 11 - S 222 16 - S 222 15 - k_sm (fun t => a_t (S 222) t 8) n)), hk_up S 221 15 0) := by
    unfold mX12_violations
    rw [hk_let_eq, rE_221_0 hE1, Option.bind_some, if_pos (kE_222 hE1), lE_222 hE1, if_pos (show hk_ok 11 107 by decide), if_pos (show hk_ok 12 107 by decide), if_pos (show hk_ok 13 107 by decide), hk_let_eq, if_pos (show hk_ok 11 107 by decide), if_pos (show hk_ok 16 107 by decide), if_pos (show hk_ok 15 107 by decide), hk_let_eq, e]
    have h := pX12_vi_62 (E := hk_E0) (F := F) (S := hk_up S 221 15 0) (n := n) (K := fun S25 z26 z27 z28 z29 => (mX12_abs hk_E0 F S25 z26).bind (fun r30 => (mX12_abs hk_E0 F r30.2 z27).bind (fun r31 => some (((z28 + r30.1) + r31.1), r31.2)))) (x := S 222 11 - S 222 12 - S 222 13) (y := 2000 * S 222 11 - S 222 16 - S 222 15) hE1 (by rw [e]; exact hI.2.1) (by rw [e]; exact hn) hn8 n 0 F (by omega) (by omega)
    rw [k_sm, k_sm, Int32.sub_zero, Int32.sub_zero, e] at h
    refine h.trans ?_
    rw [pX12_abs, Option.bind_some, pX12_abs, Option.bind_some]
  exact ⟨_, k_mopP (m := fun S => mX12_violations hk_E0 F S 221) hc hm, hk_I_same hI (hk_same_thr _ _)⟩
set_option maxHeartbeats 4000000 in
theorem mop_10_ok {F : Nat} {S : hk_S} {p1 p2 p3 p4 p5 : Int32} (hF : 2000000 ≤ F) (hI : hk_I S) : ∃ S', mop_10 F S p1 p2 p3 p4 p5 = some S' ∧ hk_I S' := by
  have hL := hk_L1 hE2
  have hA := hI.1.1
  have hN := hI.1.2.1
  have h9 := hI.2.1.2.2.2.2.2.2.2.1
  obtain ⟨n, hn8, hn⟩ := nI_of2 (x := S 222 9) (M := 8) (n := 8) (by decide) (by have := h9.1; grind) h9.2
  by_cases q : 500 ≤ p1 ∧ p1 ≤ 700
  · by_cases q3 : 5 ≤ p2 ∧ p2 ≤ 50
    · have hwa := a_ok_aim hI.2.1 q.1 q.2 q3.1 q3.2
      have hna : a_aim (S 222) p1 p2 9 = nI n := by
        unfold a_aim
        rw [upd_at, if_neg (by omega), upd_at, if_neg (by omega), hn]
      obtain ⟨g1, g2, g3⟩ := a_rd_none hwa hna hn8
      obtain ⟨c, nx, S1, hcc, h5, hrem, hlf1, hlo, hfin, hkeep⟩ := k_rem (F := F) hF hI
      obtain ⟨S2, o1, o2, o3⟩ := cX_aimAt (E := hk_E0) (F := F) (x := p1) (y := p2) hlf1
      obtain ⟨e222, e221⟩ := hkeep S2 o3
      have hc : mX11_setTarget hk_E0 F S 0 p1 p2 = some (.inr (k_rn (a_rd (a_aim (S 222) p1 p2)) n, S2)) := by
        unfold mX11_setTarget
        rw [k_rq, if_pos q, hk_xb_inr, k_rq, if_pos q3, hk_xb_inr, rE_0_3 hE2, Option.bind_some, if_pos (kE_39 hE2), rE_0_0 hE2, Option.bind_some, if_pos hL.1, hrem, Option.bind_some, o1, Option.bind_some, cX_set (by omega) hL o2.2.1 o2.2.2.1 hwa, Option.bind_some, pJ6, Option.bind_some, k_bcs, g2]
      have hl : mL_setTarget hk_E0 F S 0 p1 p2 231 = some (0, hk_up S2 231 0 (k_rn (a_rd (a_aim (S 222) p1 p2)) n)) := by
        unfold mL_setTarget
        rw [hc]
        dsimp only
        rw [if_pos hk_ok231]
      have eM : (hk_up S2 231 0 (k_rn (a_rd (a_aim (S 222) p1 p2)) n)) 222 = S 222 := by rw [hk_upne _ _ _ (by decide)]; exact e222
      have eM2 : (hk_up (hk_up S2 231 0 (k_rn (a_rd (a_aim (S 222) p1 p2)) n)) 221 15 0) 222 = S 222 := by rw [hk_upne _ _ _ (by decide)]; exact eM
      have eM5 : (hk_up (hk_up S2 231 0 (k_rn (a_rd (a_aim (S 222) p1 p2)) n)) 221 15 0) 221 5 = nI c := by rw [hk_up_eq, if_neg (by decide), hk_upne _ _ _ (by decide), e221]; exact h5
      have hw : a_ok ((hk_up S2 231 0 (k_rn (a_rd (a_aim (S 222) p1 p2)) n)) 222) := by rw [eM]; exact hI.2.1
      obtain ⟨t1, t2, t3⟩ := k_mid S2 (k_rn (a_rd (a_aim (S 222) p1 p2)) n) 0
      have e15 : (hk_up (hk_up S2 231 0 (k_rn (a_rd (a_aim (S 222) p1 p2)) n)) 221 15 0) 221 15 = 0 := by rw [hk_up_eq, if_pos rfl]
      have e231 : (hk_up (hk_up S2 231 0 (k_rn (a_rd (a_aim (S 222) p1 p2)) n)) 221 15 0) 231 0 = k_rn (a_rd (a_aim (S 222) p1 p2)) n := by rw [hk_upne _ _ _ (by decide), hk_up_eq, if_pos rfl]
      generalize hMM : hk_up (hk_up S2 231 0 (k_rn (a_rd (a_aim (S 222) p1 p2)) n)) 221 15 0 = MM at *
      have hmo : mX12_setTarget hk_E0 F (hk_up S2 231 0 (k_rn (a_rd (a_aim (S 222) p1 p2)) n)) 221 p1 p2 = some (k_rn (a_rd (a_aim (S 222) p1 p2)) n, k_fin MM c (a_aim (S 222) p1 p2)) := by
        unfold mX12_setTarget
        simp only [pX12_in, k_10, not_false_eq_true, not_true_eq_false, if_true, if_false, Option.bind_some, pX12_thr0, pX12_thr1, pX12_thr00, pX12_thr01, pX12_thr1_, pX12_thr000, pX12_thr001, pX12_thr01_, pX12_thr1__, if_pos q, if_pos q3, hMM]
        have hop : ∀ M2 : hk_S, M2 222 = MM 222 → mX12_aims hk_E0 F M2 221 p1 p2 = some (k_rn (a_rd (a_aim (S 222) p1 p2)) n, va_up M2 222 (a_aim (S 222) p1 p2)) := fun M2 h => by
          have e222 : M2 222 = S 222 := h.trans eM2
          unfold mX12_aims
          rw [rE_221_0 hE1, Option.bind_some, if_pos (kE_222 hE1), lE_222 hE1, if_pos (show hk_ok 3 107 by decide), hk_let_eq, if_pos (show hk_ok 4 107 by decide), hk_let_eq, k_hk_up, k_hk_up, va_up_self, k_upup]
          show (mX12_readyMany hk_E0 F (va_up M2 222 (a_aim (M2 222) p1 p2)) 221).bind _ = _
          rw [pX12_many (n := n) hE1 (by omega) (by rw [va_up_self, e222]; exact hna) hn8, Option.bind_some, va_up_self, e222]
        exact pX12_brr (op := fun M => mX12_aims hk_E0 F M 221 p1 p2) hF hcc eM5 hop
      exact ⟨_, k_mop (m := fun S => mX12_setTarget hk_E0 F S 221 p1 p2) hl hmo (by rw [k_fin_221, if_neg (by decide)]; exact e15) (fun _ => by rw [k_fin_ne _ _ _ (by decide) (by decide) (by decide) (by decide), e231]), hfin S2 _ _ o2 o3 (hwa) t1 t2 t3⟩
    · have hc : mX11_setTarget hk_E0 F S 0 p1 p2 = some (.inl (1, S)) := by
        unfold mX11_setTarget
        rw [k_rq, if_pos q, hk_xb_inr, k_rq, if_neg q3, hk_xb_inl]
      have hl : mL_setTarget hk_E0 F S 0 p1 p2 231 = some (1, S) := by
        unfold mL_setTarget
        rw [hc]
        rfl
      have hm : mX12_setTarget hk_E0 F S 221 p1 p2 = some (0, hk_up S 221 15 1) := by
        unfold mX12_setTarget
        simp only [pX12_in, k_10, not_false_eq_true, not_true_eq_false, if_true, if_false, Option.bind_some, pX12_thr0, pX12_thr1, pX12_thr00, pX12_thr01, pX12_thr1_, pX12_thr000, pX12_thr001, pX12_thr01_, pX12_thr1__, if_pos q, if_neg q3]
      exact ⟨_, k_mop (m := fun S => mX12_setTarget hk_E0 F S 221 p1 p2) hl hm (by rw [hk_up_eq, if_pos rfl]) (fun q => absurd q (by decide)), hk_I_same hI (hk_same_thr _ _)⟩
  · have hc : mX11_setTarget hk_E0 F S 0 p1 p2 = some (.inl (1, S)) := by
      unfold mX11_setTarget
      rw [k_rq, if_neg q, hk_xb_inl]
    have hl : mL_setTarget hk_E0 F S 0 p1 p2 231 = some (1, S) := by
      unfold mL_setTarget
      rw [hc]
      rfl
    have hm : mX12_setTarget hk_E0 F S 221 p1 p2 = some (0, hk_up S 221 15 1) := by
      unfold mX12_setTarget
      simp only [pX12_in, k_10, not_false_eq_true, not_true_eq_false, if_true, if_false, Option.bind_some, pX12_thr0, pX12_thr1, pX12_thr00, pX12_thr01, pX12_thr1_, pX12_thr000, pX12_thr001, pX12_thr01_, pX12_thr1__, if_neg q]
    exact ⟨_, k_mop (m := fun S => mX12_setTarget hk_E0 F S 221 p1 p2) hl hm (by rw [hk_up_eq, if_pos rfl]) (fun q => absurd q (by decide)), hk_I_same hI (hk_same_thr _ _)⟩
