/-! what is done to one trough -/
def t_new (c : Int32) : Nat → Int32 := fun k => if k = 0 then c else 0
def t_load (v : Nat → Int32) (kg m : Int32) : Nat → Int32 := fun k => if k = 3 then kg else if k = 4 then m else if k = 5 then m else if k = 6 then 0 else if k = 7 then 0 else if k = 8 then 2000 * kg else v k
def t_none (v : Nat → Int32) : Nat → Int32 := fun k => if k < 3 then v k else 0
def t_turn (v : Nat → Int32) : Nat → Int32 := fun k => if k = 4 then (v 4 + v 5) / 2 else if k = 5 then (v 4 + v 5) - (v 4 + v 5) / 2 else if k = 7 then v 7 + 2 else v k
def t_gap (v : Nat → Int32) : Int32 := if 0 ≤ v 4 - v 5 then v 4 - v 5 else -(v 4 - v 5)
def t_mark (v : Nat → Int32) : Int32 := if 0 ≤ 100 - t_gap v - 2 * v 7 then 100 - t_gap v - 2 * v 7 else 0
theorem k_zero_div (c : Int32) : (0 : Int32) * 100 / c = 0 := by simp
theorem hk_tr_of {S : hk_S} {a : Nat} {v : Nat → Int32} (h : hk_tr (S a) v) : S a 2 = 0 ∨ S a 2 = 1 := by
  rw [h.2.2.1]
  by_cases q : v 2 = 0
  · rw [if_pos q]; exact Or.inr rfl
  · rw [if_neg q]; exact Or.inl rfl
theorem pX10_hasLeaf {E : hk_E} {F : Nat} {S : hk_S} {a : Nat} {v : Nat → Int32} (ht : hk_tr (S a) v) (h0 : 0 ≤ v 3) : mX10_hasLeaf E F S a = some (if v 3 = 0 then 0 else 1, S) := by
  unfold mX10_hasLeaf
  rw [ht.2.2.2.1]
  by_cases h : v 3 = 0
  · rw [if_pos h, if_pos (by grind)]
  · rw [if_neg h, if_neg (by grind)]
theorem pX10_build {E : hk_E} {F : Nat} {S : hk_S} {a : Nat} {c : Int32} : ∃ S', mX10_build E F S a c = some S' ∧ hk_tr (S' a) (t_new c) ∧ ∀ b, b ≠ a → S' b = S b := by
  unfold mX10_build mX10_removeLeaf
  simp only [hk_let_eq, Option.bind_some]
  refine ⟨_, rfl, ?_, fun b hb => ?_⟩
  · unfold hk_tr t_new t_fill
    simp [hk_up_eq]
  · simp only [hk_upne _ _ _ hb]
theorem pX10_removeLeaf {E : hk_E} {F : Nat} {S : hk_S} {a : Nat} {v : Nat → Int32} (ht : hk_tr (S a) v) : ∃ S', mX10_removeLeaf E F S a = some S' ∧ hk_tr (S' a) (t_none v) ∧ ∀ b, b ≠ a → S' b = S b := by
  unfold mX10_removeLeaf
  simp only [hk_let_eq]
  refine ⟨_, rfl, ?_, fun b hb => ?_⟩
  · obtain ⟨u0, u1, u2, u3, u4, u5, u6, u7, u8, u9⟩ := ht
    unfold hk_tr t_none t_fill
    simp [hk_up_eq, u0, u1, u2]
  · simp only [hk_upne _ _ _ hb]
theorem pX10_takeLeaf {E : hk_E} {F : Nat} {S : hk_S} {a : Nat} {v : Nat → Int32} {kg m : Int32} (ht : hk_tr (S a) v) (h0 : 0 < v 0) : ∃ S', mX10_takeLeaf E F S a kg m = some S' ∧ hk_tr (S' a) (t_load v kg m) ∧ ∀ b, b ≠ a → S' b = S b := by
  obtain ⟨u0, u1, u2, u3, u4, u5, u6, u7, u8, u9⟩ := ht
  have hne : ¬ v 0 = 0 := by grind
  have e0 : hk_up S a 3 kg a 0 = v 0 := by rw [hk_up_eq, if_neg (by omega), u0]
  unfold mX10_takeLeaf
  simp only [hk_let_eq, e0, h0, hne, if_true, not_false_eq_true]
  refine ⟨_, rfl, ?_, fun b hb => ?_⟩
  · unfold hk_tr t_load t_fill
    simp [hk_up_eq, u0, u1, u2, Int32.mul_comm kg 2000]
  · simp only [hk_upne _ _ _ hb]
theorem pX10_mixLayers {E : hk_E} {F : Nat} {S : hk_S} {a : Nat} {v : Nat → Int32} (ht : hk_tr (S a) v) : ∃ S', mX10_mixLayers E F S a = some S' ∧ hk_tr (S' a) (t_turn v) ∧ ∀ b, b ≠ a → S' b = S b := by
  obtain ⟨u0, u1, u2, u3, u4, u5, u6, u7, u8, u9⟩ := ht
  unfold mX10_mixLayers
  simp only [hk_let_eq]
  refine ⟨_, rfl, ?_, fun b hb => ?_⟩
  · unfold hk_tr t_turn
    simp [hk_up_eq, u0, u1, u2, u3, u4, u5, u6, u7, u8, u9, t_fill]
  · simp only [hk_upne _ _ _ hb]
/-- one trough becomes another -/
theorem pX10_become {E : hk_E} {F : Nat} {S : hk_S} {a c : Nat} {v : Nat → Int32} (hac : c ≠ a) (ht : hk_tr (S c) v) : ∃ S', mX10_become E F S a c = some S' ∧ (∀ k, k < 10 → S' a k = S c k) ∧ ∀ b, b ≠ a → S' b = S b := by
  have h2 := hk_tr_of ht
  unfold mX10_become
  simp only [hk_let_eq, hk_upne _ _ _ hac, h2, if_true]
  refine ⟨_, rfl, fun k hk => ?_, fun b hb => ?_⟩
  · have : k = 0 ∨ k = 1 ∨ k = 2 ∨ k = 3 ∨ k = 4 ∨ k = 5 ∨ k = 6 ∨ k = 7 ∨ k = 8 ∨ k = 9 := by omega
    rcases this with q | q | q | q | q | q | q | q | q | q <;> subst q <;> simp [hk_up_eq]
  · simp only [hk_upne _ _ _ hb]
theorem hk_tr_cp {u u' v : Nat → Int32} (h : hk_tr u v) (e : ∀ k, k < 10 → u' k = u k) : hk_tr u' v := by
  unfold hk_tr at h ⊢
  rw [e 0 (by omega), e 1 (by omega), e 2 (by omega), e 3 (by omega), e 4 (by omega), e 5 (by omega), e 6 (by omega), e 7 (by omega), e 8 (by omega), e 9 (by omega)]
  exact h
theorem pJ9_abs {E : hk_E} {F : Nat} {S : hk_S} {x : Int32} : mJ9_abs_0f7a4 E F S x = some (if 0 ≤ x then x else -x, S) := by
  unfold mJ9_abs_0f7a4
  by_cases h : 0 ≤ x <;> simp [h]
theorem pX10_gap {E : hk_E} {F : Nat} {S : hk_S} {a : Nat} {v : Nat → Int32} (ht : hk_tr (S a) v) : mX10_gap E F S a = some (t_gap v, S) := by
  obtain ⟨u0, u1, u2, u3, u4, u5, u6, u7, u8, u9⟩ := ht
  unfold mX10_gap t_gap
  rw [u6, u7, pJ9_abs, Option.bind_some]
theorem pX10_quality {E : hk_E} {F : Nat} {S : hk_S} {a : Nat} {v : Nat → Int32} (ht : hk_tr (S a) v) : mX10_quality E F S a = some (t_mark v, S) := by
  unfold mX10_quality t_mark
  rw [pX10_gap ht, Option.bind_some]
  simp only [hk_let_eq, ht.2.2.2.2.2.2.2.2.2]
  by_cases h : 0 ≤ 100 - t_gap v - 2 * v 7 <;> simp [h]
/-- a trough of the row is v now -/
def a_setT (w : Nat → Int32) (t : Nat) (v : Nat → Int32) : Nat → Int32 := fun i => if 17 + 9 * t ≤ i ∧ i < 17 + 9 * t + 9 then v (i - (17 + 9 * t)) else w i
theorem a_setT_of {w W : Nat → Int32} {t : Nat} {v : Nat → Int32} (h1 : ∀ k, k < 9 → W (17 + 9 * t + k) = v k) (h2 : ∀ i, (i < 17 + 9 * t ∨ 17 + 9 * t + 9 ≤ i) → W i = w i) : W = a_setT w t v := by
  funext i
  unfold a_setT
  by_cases h : 17 + 9 * t ≤ i ∧ i < 17 + 9 * t + 9
  · rw [if_pos h, ← h1 (i - (17 + 9 * t)) (by omega)]
    congr 1
    omega
  · rw [if_neg h]
    exact h2 i (by omega)
theorem a_setT_lo (w : Nat → Int32) (t : Nat) (v : Nat → Int32) {i : Nat} (h : i < 17 + 9 * t ∨ 17 + 9 * t + 9 ≤ i) : a_setT w t v i = w i := by
  unfold a_setT
  rw [if_neg (by omega)]
theorem a_setT_t (w : Nat → Int32) (t : Nat) (v : Nat → Int32) (t' : Nat) {k : Nat} (hk : k < 9) : a_t (a_setT w t v) t' k = if t' = t then v k else a_t w t' k := by
  show a_setT w t v (17 + 9 * t' + k) = _
  by_cases h : t' = t
  · subst h
    unfold a_setT
    rw [if_pos (by omega), if_pos rfl, Nat.add_sub_cancel_left]
  · rw [a_setT_lo _ _ _ (by omega), if_neg h]
    rfl
theorem a_setT_p (w : Nat → Int32) {t : Nat} (ht : t < 8) (v : Nat → Int32) (q k : Nat) : a_p (a_setT w t v) q k = a_p w q k := a_setT_lo _ _ _ (by omega)
theorem a_ok_setT {w : Nat → Int32} {t : Nat} {v : Nat → Int32} (h : a_ok w) (ht : t < 8) (hn : nI t < w 9) (hv : t_ok v) (h0 : v 0 = a_t w t 0) : a_ok (a_setT w t v) := by
  obtain ⟨g0, g1, g2, g3, g4, g5, g6, g7, g8, g9, g10, g11, g12⟩ := h
  have e : ∀ i, i < 17 → a_setT w t v i = w i := fun i hi => a_setT_lo _ _ _ (by omega)
  unfold a_ok
  rw [e 0 (by omega), e 1 (by omega), e 2 (by omega), e 3 (by omega), e 4 (by omega), e 5 (by omega), e 9 (by omega), e 10 (by omega)]
  refine ⟨g0, g1, g2, g3, g4, g5, fun m hm hn => by rw [e (6 + m) (by omega)]; exact g6 m hm hn, g7, g8, fun t' ht' => ?_, fun t' ht' hn' => ?_, fun t' ht' hn' => ?_, fun q hq hn' => by simp only [a_setT_p w ht]; exact g12 q hq hn'⟩
  · by_cases hq : t' = t
    · subst hq
      exact t_ok_ext hv (fun k hk => by rw [a_setT_t _ _ _ _ hk, if_pos rfl])
    · exact t_ok_ext (g9 t' ht') (fun k hk => by rw [a_setT_t _ _ _ _ hk, if_neg hq])
  · rw [a_setT_t _ _ _ _ (by omega)]
    by_cases hq : t' = t
    · subst hq
      rw [if_pos rfl, h0]
      exact g10 t' ht' hn'
    · rw [if_neg hq]
      exact g10 t' ht' hn'
  · have hq : t' ≠ t := fun q => by
      subst q
      grind
    rw [a_setT_t _ _ _ _ (by omega), a_setT_t _ _ _ _ (by omega), a_setT_t _ _ _ _ (by omega), if_neg hq, if_neg hq, if_neg hq]
    exact g11 t' ht' hn'
theorem hk_lf_setT {S S' : hk_S} {b t : Nat} {w v : Nat → Int32} (h : hk_lf S b w) (ht : t < 8) (h1 : hk_tr (S' (b + 5 + t)) v) (h2 : ∀ a, a ≠ b + 5 + t → S' a = S a) : hk_lf S' b (a_setT w t v) := by
  have e : ∀ i, i < 17 → a_setT w t v i = w i := fun i hi => a_setT_lo _ _ _ (by omega)
  obtain ⟨⟨a0, a1, a2, a3, a4⟩, g2, g3, g4⟩ := h
  refine ⟨⟨?_, ?_, ?_, ?_, fun m hm hn => ?_⟩, ?_, fun t' ht' => ?_, fun q hq hn => ?_⟩
  · rw [h2 _ (by omega), e _ (by omega)]; exact a0
  · rw [h2 _ (by omega), e _ (by omega)]; exact a1
  · rw [h2 _ (by omega), e _ (by omega)]; exact a2
  · rw [h2 _ (by omega), e _ (by omega)]; exact a3
  · rw [h2 _ (by omega), e _ (by omega)]
    rw [e _ (by omega)] at hn
    exact a4 m hm hn
  · unfold hk_num at g2 ⊢
    rw [h2 _ (by omega), e 9 (by omega), e 10 (by omega), e 3 (by omega), e 4 (by omega), e 11 (by omega), e 12 (by omega), e 13 (by omega), e 14 (by omega), e 15 (by omega), e 16 (by omega)]
    exact g2
  · by_cases hq : t' = t
    · subst hq
      exact hk_tr_ext h1 (fun k hk => by rw [a_setT_t _ _ _ _ hk, if_pos rfl])
    · rw [h2 _ (by omega)]
      exact hk_tr_ext (g3 t' ht') (fun k hk => by rw [a_setT_t _ _ _ _ hk, if_neg hq])
  · rw [h2 _ (by omega)]
    rw [e _ (by omega)] at hn
    simp only [a_setT_p w ht]
    exact g4 q hq hn
/-- an account of the loft, a setting, the number of troughs -/
def hk_ac : List (Nat × Nat) := [(5, 3), (6, 4), (7, 11), (8, 12), (9, 13), (10, 16), (11, 14), (12, 15), (2, 9)]
theorem hk_ac_i {p : Nat × Nat} (h : p ∈ hk_ac) : (p.2 = 3 ∨ p.2 = 4 ∨ p.2 = 9 ∨ 11 ≤ p.2) ∧ p.2 < 17 := by
  revert p
  decide
theorem hk_lf_acc {S : hk_S} {b : Nat} {w : Nat → Int32} (h : hk_lf S b w) (p : Nat × Nat) (hp : p ∈ hk_ac) (x : Int32) : hk_lf (hk_up S b p.1 x) b (upd w p.2 x) := by
  obtain ⟨hi, hi17⟩ := hk_ac_i hp
  obtain ⟨⟨a0, a1, a2, a3, a4⟩, g2, g3, g4⟩ := h
  refine ⟨⟨?_, ?_, ?_, ?_, fun m hm hn => ?_⟩, ?_, fun t' ht' => ?_, fun q hq hn => ?_⟩
  · rw [hk_upne _ _ _ (by omega), upd_at, if_neg (by omega)]; exact a0
  · rw [hk_upne _ _ _ (by omega), upd_at, if_neg (by omega)]; exact a1
  · rw [hk_upne _ _ _ (by omega), upd_at, if_neg (by omega)]; exact a2
  · rw [hk_upne _ _ _ (by omega), upd_at, if_neg (by omega)]; exact a3
  · rw [hk_upne _ _ _ (by omega), upd_at]
    rw [upd_at, if_neg (by omega)] at hn
    rw [if_neg (by omega)]
    exact a4 m hm hn
  · unfold hk_num at g2 ⊢
    simp only [hk_up_eq, upd_at]
    unfold hk_ac at hp
    simp only [List.mem_cons, List.not_mem_nil, or_false] at hp
    rcases hp with q | q | q | q | q | q | q | q | q <;> subst q <;> simp [g2]
  · rw [hk_upne _ _ _ (by omega)]
    exact hk_tr_ext (g3 t' ht') (fun k hk => by show upd w _ x _ = _; rw [upd_at, if_neg (by omega)]; rfl)
  · rw [hk_upne _ _ _ (by omega)]
    rw [upd_at, if_neg (by omega)] at hn
    have e : ∀ k, a_p (upd w p.2 x) q k = a_p w q k := fun k => by show upd w _ x _ = _; rw [upd_at, if_neg (by omega)]; rfl
    rw [e, e, e]
    exact g4 q hq hn
