/-- n hours, from r hours ahead on -/
def t_go (w v : Nat → Int32) (r : Nat) : Nat → Nat → Int32
  | 0 => v
  | n + 1 => t_pass (t_go w v r n) (a_dry w (w 0 + nI (r + n)))
theorem t_go_ok {w v : Nat → Int32} (h : a_ok w) (hv : t_ok v) (r n : Nat) : t_ok (t_go w v r n) := by
  induction n with
  | zero => exact hv
  | succ n ih =>
    obtain ⟨d0, d1⟩ := a_dry_ok h (w 0 + nI (r + n))
    exact t_pass_ok ih d0 d1
theorem t_go_same (w v : Nat → Int32) (r n : Nat) : t_go w v r n 0 = v 0 ∧ t_go w v r n 1 = v 1 ∧ t_go w v r n 2 = v 2 ∧ t_go w v r n 3 = v 3 := by
  induction n with
  | zero => exact ⟨rfl, rfl, rfl, rfl⟩
  | succ n ih =>
    obtain ⟨a, b, c, d⟩ := t_pass_same (t_go w v r n) (a_dry w (w 0 + nI (r + n)))
    exact ⟨a.trans ih.1, b.trans ih.2.1, c.trans ih.2.2.1, d.trans ih.2.2.2⟩
theorem t_pass_none {v : Nat → Int32} (h : v 3 = 0) (d : Int32) : t_pass v d = v := by
  funext j
  simp [t_pass, h]
theorem t_go_none {w v : Nat → Int32} (h : v 3 = 0) (r n : Nat) : t_go w v r n = v := by
  induction n with
  | zero => rfl
  | succ n ih => rw [t_go, ih, t_pass_none h]
theorem t_pass_ext {v v' : Nat → Int32} (e : ∀ k, k < 9 → v' k = v k) (d : Int32) {k : Nat} (hk : k < 9) : t_pass v' d k = t_pass v d k := by
  unfold t_pass t_water t_low t_high t_warm t_loss t_fill
  rw [e 0 (by omega), e 1 (by omega), e 2 (by omega), e 3 (by omega), e 4 (by omega), e 5 (by omega), e 6 (by omega), e 7 (by omega), e 8 (by omega), e k hk]
theorem k_air_ext {S S' : hk_S} {w : Nat → Int32} (h : hk_air S 1 w) (e : ∀ a, a < 220 → S' a = S a) : hk_air S' 1 w := ⟨by rw [e _ (by omega)]; exact h.1, by rw [e _ (by omega)]; exact h.2.1, by rw [e _ (by omega)]; exact h.2.2.1, by rw [e _ (by omega)]; exact h.2.2.2.1, fun m hm hn => by rw [e _ (by omega)]; exact h.2.2.2.2 m hm hn⟩
theorem k_num_ext {S S' : hk_S} {w : Nat → Int32} (h : hk_num S 1 w) (e : ∀ a, a < 220 → S' a = S a) : hk_num S' 1 w := by
  unfold hk_num at h ⊢
  rw [e _ (by omega)]
  exact h
/-- the trial becomes the trough -/
theorem k_tri {F t : Nat} {S : hk_S} {v : Nat → Int32} (ht : t < 8) (h : hk_tr (S (1 + 5 + t)) v) : ∃ S', mX10_become hk_E0 F S 220 (1 + 5 + t) = some S' ∧ hk_tr (S' 220) v ∧ ∀ a, a ≠ 220 → S' a = S a := by
  obtain ⟨S', p1, p2, p3⟩ := pX10_become (E := hk_E0) (F := F) (S := S) (a := 220) (c := 1 + 5 + t) (by omega) h
  exact ⟨S', p1, hk_tr_cp h p2, p3⟩
/-- ready, of a trough's numbers -/
def t_rb (w v : Nat → Int32) : Bool := decide (¬ v 3 = 0 ∧ (w 3 - w 4 ≤ v 4 ∧ v 4 ≤ w 3 + w 4) ∧ (w 3 - w 4 ≤ v 5 ∧ v 5 ≤ w 3 + w 4))
theorem t_rb_none {w v : Nat → Int32} (h : v 3 = 0) : t_rb w v = false := by
  unfold t_rb
  rw [h]
  simp
theorem cX_rb {E : hk_E} {F b a : Nat} {S : hk_S} {w v : Nat → Int32} (hn : hk_num S b w) (ht : hk_tr (S a) v) (h0 : 0 ≤ v 3) : mX5_isReady E F S b a = some (if t_rb w v = true then 1 else 0, S) := by
  rw [pX5_isReady hn ht h0]
  unfold t_rb
  simp only [decide_eq_true_eq]
/-- the first of some numbers -/
def k_fr (P : Nat → Bool) : Nat → Nat → Int32
  | 0, z => if P z = true then nI z else -1
  | d + 1, z => if P z = true then nI z else k_fr P d (z + 1)
theorem k_fr_0 (P : Nat → Bool) (z : Nat) : k_fr P 0 z = if P z = true then nI z else -1 := rfl
theorem k_fr_none {P : Nat → Bool} (h : ∀ z, P z = false) : ∀ d z, k_fr P d z = -1 := by
  intro d
  induction d with
  | zero => intro z; rw [k_fr, h, if_neg (by decide)]
  | succ d ih => intro z; rw [k_fr, h, if_neg (by decide), ih]
theorem cX_htr_25 {F t : Nat} {w v : Nat → Int32} {x1 : Int32} (hF : 10 ≤ F) (hw : a_ok w) (hv : t_ok v) : ∀ (d z f : Nat) (S : hk_S), z + d = 200 → d + 1 < f → hk_air S 1 w → hk_num S 1 w → hk_tr (S 220) (t_go w v 0 z) → ∃ S', mX11_hoursToReady_25 hk_E0 F 0 x1 t (fun S20 z21 => some ((-1), S20)) f S (nI z) = some (k_fr (fun n => t_rb w (t_go w v 0 n)) d z, S') ∧ ∀ a, a ≠ 220 → S' a = S a := by
  intro d
  induction d with
  | zero =>
    intro z f S h1 hf hA hN h2
    obtain ⟨f, rfl⟩ : ∃ g, f = g + 2 := ⟨f - 2, by omega⟩
    have hL := hk_L1 hE2
    have hz : z = 200 := by omega
    subst hz
    have h3 := (t_go_ok hw hv 0 200).2.2.2.1.1
    have h0 := hw.1
    rw [mX11_hoursToReady_25]
    dsimp only
    rw [if_neg (by decide), rE_0_0 hE2, Option.bind_some, if_pos hL.1, rE_0_6 hE2, Option.bind_some, if_pos (kE_220 hE2), cX_rb hN h2 h3, Option.bind_some, k_fr]
    by_cases q : t_rb w (t_go w v 0 200) = true
    · rw [if_pos q, if_pos q]
      dsimp only
      rw [if_neg (by decide)]
      exact ⟨S, rfl, fun _ _ => rfl⟩
    · rw [if_neg q, if_neg q]
      dsimp only
      obtain ⟨S1, p1, p2, p3⟩ := pX10_passHour (E := hk_E0) (F := F) (d := a_dry w (w 0 + nI 200)) h2 (t_go_ok hw hv 0 200)
      rw [if_pos rfl, hL.2.2.2.2.2.2.2.1, Option.bind_some, if_pos hL.2.1, hA.1, pX1_drynessOf hL (by omega) (by have : nI 200 = 200 := rfl; rw [this]; generalize w 0 = x at *; grind) (by have : nI 200 = 200 := rfl; rw [this]; generalize w 0 = x at *; grind) (a_mok_of hw) hA, Option.bind_some]
      dsimp only
      rw [p1, Option.bind_some, hk_let_eq, mX11_hoursToReady_25]
      dsimp only
      rw [if_pos (by decide)]
      exact ⟨S1, rfl, p3⟩
  | succ d ih =>
    intro z f S h1 hf hA hN h2
    obtain ⟨f, rfl⟩ : ∃ g, f = g + 1 := ⟨f - 1, by omega⟩
    have hL := hk_L1 hE2
    have h3 := (t_go_ok hw hv 0 z).2.2.2.1.1
    have h0 := hw.1
    have hz1 : nI z ≤ 200 := (nI_leI (b := 200) (by omega) (by omega)).mpr (by omega)
    have hz0 : 0 ≤ nI z := nI_pos' (by omega)
    rw [mX11_hoursToReady_25]
    dsimp only
    rw [if_neg (show ¬ (200 : Int32) < nI z from nI_nlt (a := 200) (b := z) (by omega) (by omega)), rE_0_0 hE2, Option.bind_some, if_pos hL.1, rE_0_6 hE2, Option.bind_some, if_pos (kE_220 hE2), cX_rb hN h2 h3, Option.bind_some, k_fr]
    by_cases q : t_rb w (t_go w v 0 z) = true
    · rw [if_pos q, if_pos q]
      dsimp only
      rw [if_neg (by decide)]
      exact ⟨S, rfl, fun _ _ => rfl⟩
    · rw [if_neg q, if_neg q]
      dsimp only
      obtain ⟨S1, p1, p2, p3⟩ := pX10_passHour (E := hk_E0) (F := F) (d := a_dry w (w 0 + nI (0 + z))) h2 (t_go_ok hw hv 0 z)
      obtain ⟨S2, s1, s2⟩ := ih (z + 1) f S1 (by omega) (by omega) (k_air_ext hA (fun a ha => p3 a (by omega))) (k_num_ext hN (fun a ha => p3 a (by omega))) p2
      rw [Nat.zero_add] at p1
      rw [if_pos rfl, hL.2.2.2.2.2.2.2.1, Option.bind_some, if_pos hL.2.1, hA.1, pX1_drynessOf hL (by omega) (by generalize w 0 = x at *; generalize nI z = y at *; grind) (by generalize w 0 = x at *; generalize nI z = y at *; grind) (a_mok_of hw) hA, Option.bind_some]
      dsimp only
      rw [p1, Option.bind_some, hk_let_eq, nI_1]
      exact ⟨S2, s1, fun a ha => (s2 a ha).trans (p3 a ha)⟩
