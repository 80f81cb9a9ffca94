/-! the class's loft keeps a row; hours pass in it -/
theorem hk_upne (S : hk_S) {a : Nat} (k : Nat) (v : Int32) {c : Nat} (h : c ≠ a) : hk_up S a k v c = S c := by
  unfold hk_up
  exact va_up_ne _ _ h
theorem hk_up_eq (S : hk_S) (a : Nat) (k : Nat) (v : Int32) (j : Nat) : hk_up S a k v a j = if j = k then v else S a j := by
  rw [hk_up_at]
  simp
def hk_num (S : hk_S) (b : Nat) (w : Nat → Int32) : Prop := S b 2 = w 9 ∧ S b 4 = w 10 ∧ S b 5 = w 3 ∧ S b 6 = w 4 ∧ S b 7 = w 11 ∧ S b 8 = w 12 ∧ S b 9 = w 13 ∧ S b 10 = w 16 ∧ S b 11 = w 14 ∧ S b 12 = w 15
def hk_trs (S : hk_S) (b : Nat) (w : Nat → Int32) : Prop := ∀ t, t < 8 → hk_tr (S (b + 5 + t)) (a_t w t)
def hk_prs (S : hk_S) (b : Nat) (w : Nat → Int32) : Prop := ∀ q, q < 6 → nI q < w 10 → S (b + 13 + q) 0 = a_p w q 0 ∧ S (b + 13 + q) 1 = a_p w q 1 ∧ S (b + 13 + q) 2 = a_p w q 2
/-- the loft at b keeps the row w -/
def hk_lf (S : hk_S) (b : Nat) (w : Nat → Int32) : Prop := hk_air S b w ∧ hk_num S b w ∧ hk_trs S b w ∧ hk_prs S b w
/-- nothing outside the loft at b has changed -/
def hk_fr (b : Nat) (S S' : hk_S) : Prop := ∀ a, (a < b ∨ b + 19 ≤ a) → S' a = S a
theorem hk_fr_refl (b : Nat) (S : hk_S) : hk_fr b S S := fun _ _ => rfl
theorem hk_fr_trans {b : Nat} {S S1 S2 : hk_S} (h : hk_fr b S S1) (h2 : hk_fr b S1 S2) : hk_fr b S S2 := fun a ha => (h2 a ha).trans (h a ha)
theorem hk_fr_up {b : Nat} {S S1 : hk_S} (h : hk_fr b S S1) {a : Nat} (h0 : b ≤ a) (h1 : a < b + 19) (k : Nat) (v : Int32) : hk_fr b S (hk_up S1 a k v) := fun c hc => by
  rw [hk_upne _ _ _ (by omega)]
  exact h c hc
theorem hk_lf_ext {S S' : hk_S} {b : Nat} {w : Nat → Int32} (h : hk_lf S b w) (e : ∀ a, b ≤ a → a < b + 19 → S' a = S a) : hk_lf S' b w := by
  obtain ⟨h1, h2, h3, h4⟩ := h
  refine ⟨?_, ?_, fun t ht => ?_, fun q hq hn => ?_⟩
  · unfold hk_air at h1 ⊢
    rw [e (b + 1) (by omega) (by omega), e (b + 2) (by omega) (by omega)]
    exact h1
  · unfold hk_num at h2 ⊢
    rw [e b (by omega) (by omega)]
    exact h2
  · rw [e (b + 5 + t) (by omega) (by omega)]
    exact h3 t ht
  · rw [e (b + 13 + q) (by omega) (by omega)]
    exact h4 q hq hn
theorem hk_tr_ext {u v v' : Nat → Int32} (h : hk_tr u v) (e : ∀ k, k < 9 → v' k = v k) : hk_tr u v' := by
  unfold hk_tr t_fill at h ⊢
  rw [e 0 (by omega), e 1 (by omega), e 2 (by omega), e 3 (by omega), e 4 (by omega), e 5 (by omega), e 6 (by omega), e 7 (by omega), e 8 (by omega)]
  exact h
/-- a row is read below 107 alone -/
theorem hk_lf_row {S : hk_S} {b : Nat} {w w' : Nat → Int32} (h : hk_lf S b w) (e : ∀ i, i < 107 → w' i = w i) : hk_lf S b w' := by
  obtain ⟨h1, h2, h3, h4⟩ := h
  refine ⟨?_, ?_, fun t ht => hk_tr_ext (h3 t ht) (fun k hk => e _ (by omega)), fun q hq hn => ?_⟩
  · unfold hk_air at h1 ⊢
    rw [e 0 (by omega), e 1 (by omega), e 2 (by omega), e 5 (by omega)]
    exact ⟨h1.1, h1.2.1, h1.2.2.1, h1.2.2.2.1, fun m hm hn => (h1.2.2.2.2 m hm hn).trans (e _ (by omega)).symm⟩
  · unfold hk_num at h2 ⊢
    rw [e 9 (by omega), e 10 (by omega), e 3 (by omega), e 4 (by omega), e 11 (by omega), e 12 (by omega), e 13 (by omega), e 14 (by omega), e 15 (by omega), e 16 (by omega)]
    exact h2
  · rw [e 10 (by omega)] at hn
    have := h4 q hq hn
    have k0 : a_p w' q 0 = a_p w q 0 := e _ (by omega)
    have k1 : a_p w' q 1 = a_p w q 1 := e _ (by omega)
    have k2 : a_p w' q 2 = a_p w q 2 := e _ (by omega)
    rw [k0, k1, k2]
    exact this
theorem a_ok_row {w w' : Nat → Int32} (h : a_ok w) (e : ∀ i, i < 107 → w' i = w i) : a_ok w' := by
  obtain ⟨g0, g1, g2, g3, g4, g5, g6, g7, g8, g9, g10, g11, g12⟩ := h
  have et : ∀ t k, t < 8 → k < 9 → a_t w' t k = a_t w t k := fun t k ht hk => e _ (by omega)
  have ep : ∀ q k, q < 6 → k < 3 → a_p w' q k = a_p w q k := fun q k hq hk => e _ (by omega)
  unfold a_ok
  rw [e 0 (by omega), e 1 (by omega), e 2 (by omega), e 3 (by omega), e 4 (by omega), e 5 (by omega), e 9 (by omega), e 10 (by omega)]
  refine ⟨g0, g1, g2, g3, g4, g5, fun m hm hn => by rw [e (6 + m) (by omega)]; exact g6 m hm hn, g7, g8, fun t ht => t_ok_ext (g9 t ht) (fun k hk => et t k ht hk), fun t ht hn => by rw [et t 0 ht (by omega)]; exact g10 t ht hn, fun t ht hn => by rw [et t 0 ht (by omega), et t 1 ht (by omega), et t 2 ht (by omega)]; exact g11 t ht hn, fun q hq hn => by rw [ep q 0 hq (by omega), ep q 1 hq (by omega), ep q 2 hq (by omega)]; exact g12 q hq hn⟩
/-- a change of numbers of the air and the accounts alone, as the row and the loft see it -/
theorem hk_lf_hour {S : hk_S} {b : Nat} {w : Nat → Int32} (h : hk_lf S b w) (x : Int32) : hk_lf (hk_up S (b + 1) 0 x) b (upd w 0 x) := by
  obtain ⟨⟨a0, a1, a2, a3, a4⟩, h2, h3, h4⟩ := h
  refine ⟨⟨?_, ?_, ?_, ?_, fun m hm hn => ?_⟩, ?_, fun t ht => ?_, fun q hq hn => ?_⟩
  · rw [hk_up_eq]; simp [upd_at]
  · rw [hk_up_eq]; simp [upd_at, a1]
  · rw [hk_up_eq]; simp [upd_at, a2]
  · rw [hk_up_eq]; simp [upd_at, a3]
  · rw [hk_upne _ _ _ (by omega), upd_at, if_neg (by omega)]
    rw [upd_at, if_neg (by omega)] at hn
    exact a4 m hm hn
  · unfold hk_num at h2 ⊢
    rw [hk_upne _ _ _ (by omega)]
    exact h2
  · rw [hk_upne _ _ _ (by omega)]
    exact hk_tr_ext (h3 t ht) (fun k hk => by show upd w 0 x _ = _; rw [upd_at, if_neg (by omega)]; rfl)
  · rw [hk_upne _ _ _ (by omega)]
    rw [upd_at, if_neg (by omega)] at hn
    have e : ∀ k, a_p (upd w 0 x) q k = a_p w q k := fun k => by show upd w 0 x _ = _; rw [upd_at, if_neg (by omega)]; rfl
    rw [e, e, e]
    exact h4 q hq hn
theorem a_airs_t (w : Nat → Int32) (t t' : Nat) (d : Int32) {k : Nat} (hk : k < 9) : a_t (a_airs w t d) t' k = if t' = t then t_pass (a_t w t) d k else a_t w t' k := by
  show a_airs w t d (17 + 9 * t' + k) = _
  by_cases h : t' = t
  · subst h
    rw [a_airs_in _ _ _ hk, if_pos rfl]
  · rw [a_airs_out _ _ _ (by omega) (by omega), if_neg h]
    rfl
theorem pX5_pass_25 {E : hk_E} {F b : Nat} {x1 c5 c6 : Int32} {K : hk_S → Int32 → Option hk_S} {w : Nat → Int32} {n : Nat} (hL : hk_L E b) (hw : a_ok w) (hn : w 9 = nI n) (hn8 : n ≤ 8) : ∀ (d z f : Nat) (S : hk_S), z + d = n → d < f → hk_lf S b (a_airsN c6 z w) → ∃ S', mX5_letHoursPass_25 E F b x1 c5 c6 K f S (nI z) = K S' (nI n) ∧ hk_lf S' b (a_airsN c6 n w) ∧ hk_fr b S S' := by
  intro d
  induction d with
  | zero =>
    intro z f S h1 h2 hS
    obtain ⟨f, rfl⟩ : ∃ g, f = g + 1 := ⟨f - 1, by omega⟩
    have hz : z = n := by omega
    subst hz
    refine ⟨S, ?_, hS, hk_fr_refl _ _⟩
    rw [mX5_letHoursPass_25]
    dsimp only
    rw [hS.2.1.1, a_airsN_row _ _ _ (by omega), hn, if_pos (nI_le (by omega) (by omega))]
  | succ d ih =>
    intro z f S h1 h2 hS
    obtain ⟨f, rfl⟩ : ∃ g, f = g + 1 := ⟨f - 1, by omega⟩
    have hz8 : z < 8 := by omega
    have e9 : S b 2 = nI n := by rw [hS.2.1.1, a_airsN_row _ _ _ (by omega), hn]
    have htr : hk_tr (S (b + 5 + z)) (a_t w z) := by
      refine hk_tr_ext (hS.2.2.1 z hz8) (fun k hk => ?_)
      rw [a_airsN_t]
      simp [hk]
    obtain ⟨S1, p1, p2, p3⟩ := pX10_passHour (E := E) (F := F) (d := c6) htr (hw.2.2.2.2.2.2.2.2.2.1 z hz8)
    obtain ⟨k0, k1, k2, ⟨k3, l3⟩, k4, k5, k6, ⟨r0, r1, r3, r4⟩⟩ := hL
    have hL : hk_L E b := ⟨k0, k1, k2, ⟨k3, l3⟩, k4, k5, k6, ⟨r0, r1, r3, r4⟩⟩
    have hlf : hk_lf (hk_up S1 b 12 (S b 12 + t_water (a_t w z) c6)) b (a_airsN c6 (z + 1) w) := by
      have hB : ∀ i, i ≠ 15 → (i < 17 + 9 * z ∨ 17 + 9 * z + 9 ≤ i) → a_airsN c6 (z + 1) w i = a_airsN c6 z w i := fun i h1 h2 => by rw [a_airsN, a_airs_out _ _ _ h1 h2]
      have e15 : a_airsN c6 (z + 1) w 15 = a_airsN c6 z w 15 + t_water (a_t w z) c6 := by
        rw [a_airsN, a_airs_15]
        congr 1
        have e : ∀ k, k < 9 → a_t (a_airsN c6 z w) z k = a_t w z k := fun k hk => by rw [a_airsN_t]; simp [hk]
        unfold t_water t_low t_high t_loss t_fill
        rw [e 0 (by omega), e 1 (by omega), e 2 (by omega), e 3 (by omega), e 4 (by omega), e 5 (by omega)]
      obtain ⟨⟨a0, a1, a2, a3, a4⟩, ⟨n1, n2, n3, n4, n5, n6, n7, n8, n9, n10⟩, h3, h4⟩ := hS
      refine ⟨⟨?_, ?_, ?_, ?_, fun m hm hn => ?_⟩, ⟨?_, ?_, ?_, ?_, ?_, ?_, ?_, ?_, ?_, ?_⟩, fun t ht => ?_, fun q hq hn => ?_⟩
      · rw [hk_upne _ _ _ (by omega), p3 _ (by omega), hB _ (by omega) (by omega)]; exact a0
      · rw [hk_upne _ _ _ (by omega), p3 _ (by omega), hB _ (by omega) (by omega)]; exact a1
      · rw [hk_upne _ _ _ (by omega), p3 _ (by omega), hB _ (by omega) (by omega)]; exact a2
      · rw [hk_upne _ _ _ (by omega), p3 _ (by omega), hB _ (by omega) (by omega)]; exact a3
      · rw [hk_upne _ _ _ (by omega), p3 _ (by omega), hB _ (by omega) (by omega)]
        rw [hB _ (by omega) (by omega)] at hn
        exact a4 m hm hn
      · rw [hk_up_eq, if_neg (by omega), p3 _ (by omega), hB _ (by omega) (by omega)]; exact n1
      · rw [hk_up_eq, if_neg (by omega), p3 _ (by omega), hB _ (by omega) (by omega)]; exact n2
      · rw [hk_up_eq, if_neg (by omega), p3 _ (by omega), hB _ (by omega) (by omega)]; exact n3
      · rw [hk_up_eq, if_neg (by omega), p3 _ (by omega), hB _ (by omega) (by omega)]; exact n4
      · rw [hk_up_eq, if_neg (by omega), p3 _ (by omega), hB _ (by omega) (by omega)]; exact n5
      · rw [hk_up_eq, if_neg (by omega), p3 _ (by omega), hB _ (by omega) (by omega)]; exact n6
      · rw [hk_up_eq, if_neg (by omega), p3 _ (by omega), hB _ (by omega) (by omega)]; exact n7
      · rw [hk_up_eq, if_neg (by omega), p3 _ (by omega), hB _ (by omega) (by omega)]; exact n8
      · rw [hk_up_eq, if_neg (by omega), p3 _ (by omega), hB _ (by omega) (by omega)]; exact n9
      · rw [hk_up_eq, if_pos rfl, e15, n10]
      · rw [hk_upne _ _ _ (by omega)]
        by_cases ht2 : t = z
        · subst ht2
          refine hk_tr_ext p2 (fun k hk => ?_)
          rw [a_airsN_t]
          simp [hk]
        · rw [p3 _ (by omega)]
          refine hk_tr_ext (h3 t ht) (fun k hk => ?_)
          rw [a_airsN, a_airs_t _ _ _ _ hk, if_neg ht2]
      · rw [hk_upne _ _ _ (by omega), p3 _ (by omega)]
        rw [hB _ (by omega) (by omega)] at hn
        have e : ∀ k, k < 3 → a_p (a_airsN c6 (z + 1) w) q k = a_p (a_airsN c6 z w) q k := fun k hk => hB _ (by omega) (by omega)
        rw [e 0 (by omega), e 1 (by omega), e 2 (by omega)]
        exact h4 q hq hn
    obtain ⟨S2, s1, s2, s3⟩ := ih (z + 1) f _ (by omega) (by omega) hlf
    refine ⟨S2, ?_, s2, hk_fr_trans (hk_fr_up (S1 := S1) (fun a ha => p3 a (by omega)) (by omega) (by omega) 12 _) s3⟩
    rw [mX5_letHoursPass_25]
    dsimp only
    rw [e9, if_neg (nI_ge (by omega) (by omega)), if_neg (show ¬ (8 : Int32) ≤ nI z from nI_ge (a := z) (b := 8) (by omega) (by omega)), r1, Option.bind_some, if_pos k3, l3, if_pos (hk_okI (by omega) (by omega)), nI_clamp (by omega), (k5 z hz8).2, Option.bind_some, if_pos (k5 z hz8).1, p1, Option.bind_some, hk_let_eq, hk_let_eq, nI_1]
    exact s1
