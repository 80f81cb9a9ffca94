/-! the script's tokens -/
def b_bl (x : Int32) : Bool := decide (x = 32 ∨ x = 10)
def b_dg (x : Int32) : Bool := decide (48 ≤ x ∧ x ≤ 57)
def b_lt (x : Int32) : Bool := decide (97 ≤ x ∧ x ≤ 122)
def s_run (P : Int32 → Bool) (T : Nat → Int32) : Nat → Nat → Nat
  | 0, p => p
  | d + 1, p => if P (T p) = true then s_run P T d (p + 1) else p
def s_val (T : Nat → Int32) : Nat → Nat → Int32 → Int32
  | 0, _, x => x
  | d + 1, p, x => s_val T d (p + 1) (x * 10 + T p - 48)
def u_sort (x : Int32) : Int32 := if x = 59 then 1 else if b_lt x = true then 2 else if b_dg x = true then 3 else if x = 40 then 4 else if x = 41 then 5 else 6
def u_s (T : Nat → Int32) (n p : Nat) : Nat := s_run b_bl T (n - p) p
def u_e (T : Nat → Int32) (n p : Nat) : Nat := if u_s T n p < n then (if b_dg (T (u_s T n p)) = true then s_run b_dg T (n - u_s T n p) (u_s T n p) else if b_lt (T (u_s T n p)) = true then s_run b_lt T (n - u_s T n p) (u_s T n p) else u_s T n p + 1) else u_s T n p
def u_k (T : Nat → Int32) (n p : Nat) : Int32 := if u_s T n p < n then (if u_sort (T (u_s T n p)) = 3 ∧ ¬ u_e T n p - u_s T n p ≤ 4 then 6 else u_sort (T (u_s T n p))) else 0
def u_c (k : Int32) : Int32 := if k = 0 then 5 else if k = 1 then 4 else if k = 2 then 0 else if k = 3 then 1 else if k = 4 then 2 else if k = 5 then 3 else 6
def u_v (T : Nat → Int32) (n p : Nat) : Int32 := s_val T (u_e T n p - u_s T n p) (u_s T n p) 0
theorem b_bl_iff (x : Int32) : b_bl x = true ↔ (x = 32 ∨ x = 10) := ⟨fun h => of_decide_eq_true h, fun h => decide_eq_true h⟩
theorem b_dg_iff (x : Int32) : b_dg x = true ↔ (48 ≤ x ∧ x ≤ 57) := ⟨fun h => of_decide_eq_true h, fun h => decide_eq_true h⟩
theorem b_lt_iff (x : Int32) : b_lt x = true ↔ (97 ≤ x ∧ x ≤ 122) := ⟨fun h => of_decide_eq_true h, fun h => decide_eq_true h⟩
theorem s_run_ge (P : Int32 → Bool) (T : Nat → Int32) : ∀ d p, p ≤ s_run P T d p ∧ s_run P T d p ≤ p + d := by
  intro d
  induction d with
  | zero => intro p; exact ⟨Nat.le_refl _, Nat.le_refl _⟩
  | succ d ih =>
    intro p
    rw [s_run]
    have h := ih (p + 1)
    by_cases q : P (T p) = true
    · rw [if_pos q]; omega
    · rw [if_neg q]; omega
theorem s_run_end (P : Int32 → Bool) (T : Nat → Int32) : ∀ d p, s_run P T d p < p + d → ¬ P (T (s_run P T d p)) = true := by
  intro d
  induction d with
  | zero => intro p h; rw [s_run] at h; omega
  | succ d ih =>
    intro p h
    rw [s_run] at h ⊢
    by_cases q : P (T p) = true
    · rw [if_pos q] at h ⊢
      exact ih (p + 1) (by omega)
    · rw [if_neg q] at h ⊢
      exact q
theorem u_s_ge (T : Nat → Int32) {n p : Nat} (h : p ≤ n) : p ≤ u_s T n p ∧ u_s T n p ≤ n := by
  have := s_run_ge b_bl T (n - p) p
  unfold u_s
  omega
theorem u_e_ge (T : Nat → Int32) {n p : Nat} (h : p ≤ n) : u_s T n p ≤ u_e T n p ∧ u_e T n p ≤ n ∧ (u_s T n p < n → u_s T n p < u_e T n p) := by
  have hs := u_s_ge T h
  unfold u_e
  generalize u_s T n p = s at *
  by_cases q : s < n
  · rw [if_pos q]
    obtain ⟨d, hd⟩ : ∃ d, n - s = d + 1 := ⟨n - s - 1, by omega⟩
    by_cases q2 : b_dg (T s) = true
    · rw [if_pos q2, hd, s_run, if_pos q2]
      have := s_run_ge b_dg T d (s + 1)
      omega
    · rw [if_neg q2]
      by_cases q3 : b_lt (T s) = true
      · rw [if_pos q3, hd, s_run, if_pos q3]
        have := s_run_ge b_lt T d (s + 1)
        omega
      · rw [if_neg q3]
        omega
  · rw [if_neg q]
    omega
theorem u_sort_dg {x : Int32} (h : b_dg x = true) : u_sort x = 3 := by
  obtain ⟨h0, h1⟩ := (b_dg_iff x).mp h
  unfold u_sort
  rw [if_neg (show ¬ x = 59 from fun e => by subst e; exact absurd h1 (by decide)), if_neg (show ¬ b_lt x = true from fun e => by have := (b_lt_iff x).mp e; grind), if_pos h]
theorem u_sort_lt {x : Int32} (h : b_lt x = true) : u_sort x = 2 := by
  obtain ⟨h0, h1⟩ := (b_lt_iff x).mp h
  unfold u_sort
  rw [if_neg (show ¬ x = 59 from fun e => by subst e; exact absurd h0 (by decide)), if_pos h]
theorem u_sort_mk {x : Int32} (h : ¬ b_dg x = true) (h2 : ¬ b_lt x = true) : u_sort x = if x = 59 then 1 else if x = 40 then 4 else if x = 41 then 5 else 6 := by
  unfold u_sort
  rw [if_neg h2, if_neg h]
theorem b_dg_lt {x : Int32} (h : b_dg x = true) : ¬ b_lt x = true := fun e => by
  have h1 := (b_dg_iff x).mp h
  have h2 := (b_lt_iff x).mp e
  grind
theorem u_mk_ne (x : Int32) : ¬ (if x = 59 then (1 : Int32) else if x = 40 then 4 else if x = 41 then 5 else 6) = 3 := by
  by_cases z1 : x = 59
  · rw [if_pos z1]; decide
  · rw [if_neg z1]
    by_cases z2 : x = 40
    · rw [if_pos z2]; decide
    · rw [if_neg z2]
      by_cases z3 : x = 41
      · rw [if_pos z3]; decide
      · rw [if_neg z3]; decide
theorem u_mk_c (x : Int32) : (if x = 40 then (2 : Int32) else if x = 41 then 3 else if x = 59 then 4 else 6) = u_c (if x = 59 then (1 : Int32) else if x = 40 then 4 else if x = 41 then 5 else 6) := by
  by_cases z1 : x = 59
  · rw [z1]; decide
  · rw [if_neg z1, if_neg z1]
    by_cases z2 : x = 40
    · rw [if_pos z2, if_pos z2]; decide
    · rw [if_neg z2, if_neg z2]
      by_cases z3 : x = 41
      · rw [if_pos z3, if_pos z3]; decide
      · rw [if_neg z3, if_neg z3]; decide
/-- what a loop over tokens leaves -/
def s_fx (K : List Nat) (a : Nat) (S S' : hk_S) : Prop := (∀ b, b ≠ a → S' b = S b) ∧ ∀ k, k ∉ K → S' a k = S a k
theorem s_fx_refl (K : List Nat) (a : Nat) (S : hk_S) : s_fx K a S S := ⟨fun _ _ => rfl, fun _ _ => rfl⟩
theorem s_fx_trans {K : List Nat} {a : Nat} {S S1 S2 : hk_S} (h : s_fx K a S S1) (h2 : s_fx K a S1 S2) : s_fx K a S S2 := ⟨fun b hb => (h2.1 b hb).trans (h.1 b hb), fun k hk => (h2.2 k hk).trans (h.2 k hk)⟩
theorem s_fx_up {K : List Nat} {a : Nat} {S S1 : hk_S} (h : s_fx K a S S1) {k : Nat} (hk : k ∈ K) (x : Int32) : s_fx K a S (hk_up S1 a k x) := ⟨fun b hb => by rw [hk_upne _ _ _ hb]; exact h.1 b hb, fun j hj => by
  rw [hk_up_eq, if_neg (show ¬ j = k from fun e => hj (e ▸ hk))]
  exact h.2 j hj⟩
/-- the class's text -/
def k_cT (T : Nat → Int32) (n : Nat) (C : hk_S) : Prop := n ≤ 600 ∧ C 194 1 = nI n ∧ (∀ k, k < n → C 195 k &&& 255 = T k) ∧ ∀ k, k < n → ¬ T k = -1
theorem k_cT_ext {T : Nat → Int32} {n : Nat} {C C' : hk_S} (h : k_cT T n C) (e1 : C' 194 = C 194) (e2 : C' 195 = C 195) : k_cT T n C' := ⟨h.1, by rw [e1]; exact h.2.1, fun k hk => by rw [e2]; exact h.2.2.1 k hk, h.2.2.2⟩
theorem k_cT_fx {T : Nat → Int32} {n : Nat} {K : List Nat} {C C' : hk_S} (h : k_cT T n C) (e : s_fx K 193 C C') : k_cT T n C' := k_cT_ext h (e.1 194 (by decide)) (e.1 195 (by decide))
def u_b (T : Nat → Int32) (n p : Nat) : Int32 := if p < n then T p else -1
theorem pX4_byteAt {F : Nat} {C : hk_S} {T : Nat → Int32} {n p : Nat} (h : k_cT T n C) (hp : p < 2 ^ 31) : mX4_byteAt hk_E0 F C 194 (nI p) = some (u_b T n p, C) := by
  obtain ⟨h0, h1, h2, -⟩ := h
  unfold mX4_byteAt u_b
  rw [if_neg (nI_pos hp), h1]
  by_cases q : p < n
  · rw [if_neg (show ¬ nI n ≤ nI p from nI_ge q (by omega)), if_neg (show ¬ (600 : Int32) ≤ nI p from nI_ge (a := p) (b := 600) (by omega) (by omega)), rE_194_0 hE2, Option.bind_some, if_pos (kE_195 hE2), lE_195 hE2, if_pos (hk_okI (by omega) (by omega)), nI_clamp (by omega), if_pos q, h2 p q]
  · rw [if_pos (show nI n ≤ nI p from (nI_leI (by omega) hp).mpr (by omega)), if_neg q]
theorem pX8_skip {F : Nat} {T : Nat → Int32} {n : Nat} {K : hk_S → Int32 → Option hk_S} : ∀ (d p f : Nat) (C : hk_S), p + d = n → d < f → k_cT T n C → C 193 4 = nI p → ∃ C', mX8_skipBlanks_12 hk_E0 F 193 K f C (u_b T n p) = K C' (u_b T n (s_run b_bl T d p)) ∧ C' 193 4 = nI (s_run b_bl T d p) ∧ s_fx [4, 5, 6, 7] 193 C C' := by
  intro d
  induction d with
  | zero =>
    intro p f C h1 h2 h3 h4
    obtain ⟨f, rfl⟩ : ∃ g, f = g + 1 := ⟨f - 1, by omega⟩
    refine ⟨C, ?_, h4, s_fx_refl _ _ _⟩
    rw [mX8_skipBlanks_12]
    dsimp only
    rw [rE_193_0 hE2, Option.bind_some, if_pos (kE_194 hE2), h3.2.1, h4, if_pos (show nI n ≤ nI p from (nI_leI (by have := h3.1; omega) (by have := h3.1; omega)).mpr (by omega)), s_run]
  | succ d ih =>
    intro p f C h1 h2 h3 h4
    obtain ⟨f, rfl⟩ : ∃ g, f = g + 1 := ⟨f - 1, by omega⟩
    have h6 := h3.1
    have hp : p < n := by omega
    have ub : u_b T n p = T p := by unfold u_b; rw [if_pos hp]
    have e4 : hk_up C 193 4 (C 193 4 + 1) = hk_up C 193 4 (nI (p + 1)) := by rw [h4, nI_1]
    have hb : mX4_byteAt hk_E0 F (hk_up C 193 4 (nI (p + 1))) 194 (nI (p + 1)) = some (u_b T n (p + 1), hk_up C 193 4 (nI (p + 1))) := pX4_byteAt (k_cT_ext h3 (hk_upne _ _ _ (by decide)) (hk_upne _ _ _ (by decide))) (by omega)
    rw [mX8_skipBlanks_12]
    dsimp only
    rw [rE_193_0 hE2, Option.bind_some, if_pos (kE_194 hE2), h3.2.1, h4, if_neg (show ¬ nI n ≤ nI p from nI_ge hp (by omega)), ub, hk_let_eq, nI_1, hk_up_eq, if_pos rfl, hb, Option.bind_some, s_run]
    dsimp only
    by_cases q : b_bl (T p) = true
    · obtain ⟨C', c1, c2, c3⟩ := ih (p + 1) f (hk_up C 193 4 (nI (p + 1))) (by omega) (by omega) (k_cT_ext h3 (hk_upne _ _ _ (by decide)) (hk_upne _ _ _ (by decide))) (by rw [hk_up_eq, if_pos rfl])
      rw [if_pos q]
      refine ⟨C', ?_, c2, s_fx_trans (s_fx_up (s_fx_refl _ _ _) (by decide) _) c3⟩
      rcases (b_bl_iff _).mp q with z | z
      · rw [if_pos z]
        exact c1
      · rw [if_neg (show ¬ T p = 32 by rw [z]; decide), if_neg (fun e => e z)]
        exact c1
    · rw [if_neg q]
      have q2 : ¬ T p = 32 ∧ ¬ T p = 10 := ⟨fun e => q ((b_bl_iff _).mpr (Or.inl e)), fun e => q ((b_bl_iff _).mpr (Or.inr e))⟩
      refine ⟨C, ?_, h4, s_fx_refl _ _ _⟩
      rw [if_neg q2.1, if_pos q2.2, ub]
theorem pX8_isDigit {F : Nat} {S : hk_S} {x : Int32} : mX8_isDigit hk_E0 F S x = some (if b_dg x = true then 1 else 0, S) := by
  unfold mX8_isDigit
  by_cases h : b_dg x = true
  · obtain ⟨h0, h1⟩ := (b_dg_iff x).mp h
    rw [if_neg (show ¬ x < 48 by grind), if_neg (show ¬ 57 < x by grind), if_pos h]
  · rw [if_neg h]
    by_cases q : x < 48
    · rw [if_pos q]
    · rw [if_neg q]
      by_cases q2 : 57 < x
      · rw [if_pos q2]
      · exact absurd ((b_dg_iff x).mpr ⟨by grind, by grind⟩) h
theorem pX8_isLetter {F : Nat} {S : hk_S} {x : Int32} : mX8_isLetter hk_E0 F S x = some (if b_lt x = true then 1 else 0, S) := by
  unfold mX8_isLetter
  by_cases h : b_lt x = true
  · obtain ⟨h0, h1⟩ := (b_lt_iff x).mp h
    rw [if_neg (show ¬ x < 97 by grind), if_neg (show ¬ 122 < x by grind), if_pos h]
  · rw [if_neg h]
    by_cases q : x < 97
    · rw [if_pos q]
    · rw [if_neg q]
      by_cases q2 : 122 < x
      · rw [if_pos q2]
      · exact absurd ((b_lt_iff x).mpr ⟨by grind, by grind⟩) h
theorem pX8_digits {F : Nat} {T : Nat → Int32} {n : Nat} {K : hk_S → Int32 → Option hk_S} : ∀ (d p f : Nat) (C : hk_S), p + d = n → d < f → k_cT T n C → C 193 4 = nI p → ∃ C' z', mX8_readDigits_17 hk_E0 F 193 K f C (u_b T n p) = K C' z' ∧ C' 193 4 = nI (s_run b_dg T d p) ∧ C' 193 7 = s_val T (s_run b_dg T d p - p) p (C 193 7) ∧ C' 193 6 = C 193 6 ∧ s_fx [4, 5, 6, 7] 193 C C' := by
  intro d
  induction d with
  | zero =>
    intro p f C h1 h2 h3 h4
    obtain ⟨f, rfl⟩ : ∃ g, f = g + 1 := ⟨f - 1, by omega⟩
    refine ⟨C, u_b T n p, ?_, h4, ?_, rfl, s_fx_refl _ _ _⟩
    · rw [mX8_readDigits_17]
      dsimp only
      rw [rE_193_0 hE2, Option.bind_some, if_pos (kE_194 hE2), h3.2.1, h4, if_pos (show nI n ≤ nI p from (nI_leI (by have := h3.1; omega) (by have := h3.1; omega)).mpr (by omega))]
    · rw [s_run, Nat.sub_self, s_val]
  | succ d ih =>
    intro p f C h1 h2 h3 h4
    obtain ⟨f, rfl⟩ : ∃ g, f = g + 1 := ⟨f - 1, by omega⟩
    have h6 := h3.1
    have hp : p < n := by omega
    have ub : u_b T n p = T p := by unfold u_b; rw [if_pos hp]
    rw [mX8_readDigits_17]
    dsimp only
    rw [rE_193_0 hE2, Option.bind_some, if_pos (kE_194 hE2), h3.2.1, h4, if_neg (show ¬ nI n ≤ nI p from nI_ge hp (by omega)), pX8_isDigit, Option.bind_some, ub, s_run]
    dsimp only
    by_cases q : b_dg (T p) = true
    · rw [if_pos q, if_pos q]
      have e1 : hk_up (hk_up C 193 7 (C 193 7 * 10 + T p - 48)) 193 4 ((hk_up C 193 7 (C 193 7 * 10 + T p - 48)) 193 4 + 1) = hk_up (hk_up C 193 7 (C 193 7 * 10 + T p - 48)) 193 4 (nI (p + 1)) := by rw [hk_up_eq, if_neg (by decide), h4, nI_1]
      have hT : k_cT T n (hk_up (hk_up C 193 7 (C 193 7 * 10 + T p - 48)) 193 4 (nI (p + 1))) := k_cT_ext h3 (by rw [hk_upne _ _ _ (by decide), hk_upne _ _ _ (by decide)]) (by rw [hk_upne _ _ _ (by decide), hk_upne _ _ _ (by decide)])
      obtain ⟨C', z', c1, c2, c3, c4, c5⟩ := ih (p + 1) f _ (by omega) (by omega) hT (by rw [hk_up_eq, if_pos rfl])
      refine ⟨C', z', ?_, c2, ?_, ?_, s_fx_trans (s_fx_up (s_fx_up (s_fx_refl _ _ _) (by decide) _) (by decide) _) c5⟩
      · rw [if_neg (by decide), hk_let_eq, hk_let_eq, e1, hk_up_eq, if_pos rfl, pX4_byteAt hT (by omega), Option.bind_some]
        exact c1
      · have hr := s_run_ge b_dg T d (p + 1)
        rw [c3, hk_up_eq, if_neg (by decide), hk_up_eq, if_pos rfl, show s_run b_dg T d (p + 1) - p = (s_run b_dg T d (p + 1) - (p + 1)) + 1 by omega, s_val]
      · rw [c4, hk_up_eq, if_neg (by decide), hk_up_eq, if_neg (by decide)]
    · rw [if_neg q, if_neg q]
      refine ⟨C, T p, by rw [if_pos rfl], h4, ?_, rfl, s_fx_refl _ _ _⟩
      rw [Nat.sub_self, s_val]
theorem pX8_letters {F : Nat} {T : Nat → Int32} {n : Nat} {K : hk_S → Option hk_S} : ∀ (d p f : Nat) (C : hk_S), p + d = n → d < f → k_cT T n C → C 193 4 = nI p → ∃ C', mX8_readLetters_0 hk_E0 F 193 K f C = K C' ∧ C' 193 4 = nI (s_run b_lt T d p) ∧ C' 193 6 = C 193 6 ∧ s_fx [4, 5, 6, 7] 193 C C' := by
  intro d
  induction d with
  | zero =>
    intro p f C h1 h2 h3 h4
    obtain ⟨f, rfl⟩ : ∃ g, f = g + 1 := ⟨f - 1, by omega⟩
    refine ⟨C, ?_, h4, rfl, s_fx_refl _ _ _⟩
    rw [mX8_readLetters_0]
    dsimp only
    rw [rE_193_0 hE2, Option.bind_some, if_pos (kE_194 hE2), h3.2.1, h4, if_pos (show nI n ≤ nI p from (nI_leI (by have := h3.1; omega) (by have := h3.1; omega)).mpr (by omega))]
  | succ d ih =>
    intro p f C h1 h2 h3 h4
    obtain ⟨f, rfl⟩ : ∃ g, f = g + 1 := ⟨f - 1, by omega⟩
    have h6 := h3.1
    have hp : p < n := by omega
    have ub : u_b T n p = T p := by unfold u_b; rw [if_pos hp]
    rw [mX8_readLetters_0]
    dsimp only
    rw [rE_193_0 hE2, Option.bind_some, if_pos (kE_194 hE2), h3.2.1, h4, if_neg (show ¬ nI n ≤ nI p from nI_ge hp (by omega)), pX4_byteAt h3 (by omega), Option.bind_some]
    dsimp only
    rw [pX8_isLetter, Option.bind_some, ub, s_run]
    dsimp only
    by_cases q : b_lt (T p) = true
    · rw [if_pos q, if_pos q]
      obtain ⟨C', c1, c2, c4, c5⟩ := ih (p + 1) f (hk_up C 193 4 (nI (p + 1))) (by omega) (by omega) (k_cT_ext h3 (hk_upne _ _ _ (by decide)) (hk_upne _ _ _ (by decide))) (by rw [hk_up_eq, if_pos rfl])
      refine ⟨C', ?_, c2, ?_, s_fx_trans (s_fx_up (s_fx_refl _ _ _) (by decide) _) c5⟩
      · rw [if_neg (by decide), hk_let_eq, h4, nI_1]
        exact c1
      · rw [c4, hk_up_eq, if_neg (by decide)]
    · rw [if_neg q, if_neg q]
      exact ⟨C, by rw [if_pos rfl], h4, rfl, s_fx_refl _ _ _⟩
theorem pX8_markOf {F : Nat} {S : hk_S} {x : Int32} : mX8_markOf hk_E0 F S x = some (if x = 40 then 2 else if x = 41 then 3 else if x = 59 then 4 else 6, S) := by
  unfold mX8_markOf
  by_cases h : x = 40
  · rw [if_pos h, if_pos h]
  · rw [if_neg h, if_neg h]
    by_cases h1 : x = 41
    · rw [if_pos h1, if_pos h1]
    · rw [if_neg h1, if_neg h1]
      by_cases h2 : x = 59
      · rw [if_pos h2, if_pos h2]
      · rw [if_neg h2, if_neg h2]
/-- the class's token -/
theorem pX8_readToken {F : Nat} {C : hk_S} {T : Nat → Int32} {n p : Nat} (hF : 1000 ≤ F) (h : k_cT T n C) (hp : p ≤ n) (h4 : C 193 4 = nI p) : ∃ C', mX8_readToken hk_E0 F C 193 = some C' ∧ C' 193 4 = nI (u_e T n p) ∧ C' 193 5 = u_c (u_k T n p) ∧ C' 193 6 = nI (u_s T n p) ∧ (u_k T n p = 3 → C' 193 7 = u_v T n p) ∧ s_fx [4, 5, 6, 7] 193 C C' := by
  have h6 := h.1
  obtain ⟨C1, a1, a2, a3⟩ := pX8_skip (F := F) (T := T) (n := n) (K := fun S12 _ => some S12) (n - p) p F C (by omega) (by omega) h h4
  have a1' : mX8_skipBlanks hk_E0 F C 193 = some C1 := by
    unfold mX8_skipBlanks
    rw [rE_193_0 hE2, Option.bind_some, if_pos (kE_194 hE2), h4, pX4_byteAt h (by omega), Option.bind_some]
    exact a1
  have a2' : C1 193 4 = nI (u_s T n p) := a2
  have hs := u_s_ge T hp
  have he := u_e_ge T hp
  have hk' : u_k T n p = if u_s T n p < n then (if u_sort (T (u_s T n p)) = 3 ∧ ¬ u_e T n p - u_s T n p ≤ 4 then 6 else u_sort (T (u_s T n p))) else 0 := rfl
  have he' : u_e T n p = if u_s T n p < n then (if b_dg (T (u_s T n p)) = true then s_run b_dg T (n - u_s T n p) (u_s T n p) else if b_lt (T (u_s T n p)) = true then s_run b_lt T (n - u_s T n p) (u_s T n p) else u_s T n p + 1) else u_s T n p := rfl
  have hv' : u_v T n p = s_val T (u_e T n p - u_s T n p) (u_s T n p) 0 := rfl
  generalize u_s T n p = s at *
  generalize u_e T n p = e at *
  generalize u_k T n p = k at *
  generalize u_v T n p = vv at *
  have hT2 : k_cT T n (hk_up C1 193 6 (nI s)) := k_cT_ext (k_cT_fx h a3) (hk_upne _ _ _ (by decide)) (hk_upne _ _ _ (by decide))
  have e24 : (hk_up C1 193 6 (nI s)) 193 4 = nI s := by rw [hk_up_eq, if_neg (by decide), a2']
  have e26 : (hk_up C1 193 6 (nI s)) 193 6 = nI s := by rw [hk_up_eq, if_pos rfl]
  have f2 : s_fx [4, 5, 6, 7] 193 C (hk_up C1 193 6 (nI s)) := s_fx_up a3 (by decide) _
  have hu : mX8_readToken hk_E0 F C 193 = (if ¬ u_b T n s = (-1) then ((mX8_isDigit hk_E0 F (hk_up C1 193 6 (nI s)) (u_b T n s)).bind (fun r6 => if r6.1 = 0 then ((mX8_isLetter hk_E0 F r6.2 (u_b T n s)).bind (fun r8 => if r8.1 = 0 then ((mX8_markOf hk_E0 F r8.2 (u_b T n s)).bind (fun r10 => hk_let (hk_up r10.2 193 5 r10.1) (fun S11 => hk_let (hk_up S11 193 4 ((S11 193 4) + 1)) (fun S12 => some (S12))))) else ((mX8_readLetters hk_E0 F r8.2 193).bind (fun r13 => some (r13))))) else ((mX8_readDigits hk_E0 F r6.2 193).bind (fun r14 => some (r14))))) else (hk_let (hk_up (hk_up C1 193 6 (nI s)) 193 5 5) (fun S15 => some (S15)))) := by
    unfold mX8_readToken
    rw [a1', Option.bind_some, hk_let_eq, a2', rE_193_0 hE2, Option.bind_some, if_pos (kE_194 hE2), e24, pX4_byteAt hT2 (by omega), Option.bind_some]
  generalize hk_up C1 193 6 (nI s) = C2 at *
  rw [hu]
  by_cases q : s < n
  · have ub : u_b T n s = T s := by unfold u_b; rw [if_pos q]
    rw [if_pos q] at hk' he'
    rw [ub, if_pos (h.2.2.2 s q), pX8_isDigit, Option.bind_some]
    dsimp only
    by_cases qd : b_dg (T s) = true
    · rw [if_pos qd] at he'
      rw [u_sort_dg qd] at hk'
      have hT3 : k_cT T n (hk_up C2 193 7 0) := k_cT_ext hT2 (hk_upne _ _ _ (by decide)) (hk_upne _ _ _ (by decide))
      obtain ⟨C3, z3, c1, c2, c3, c4, c5⟩ := pX8_digits (F := F) (T := T) (n := n) (K := fun S12 z13 => if 4 < ((S12 193 4) - (S12 193 6)) then (hk_let (hk_up S12 193 5 6) (fun S15 => some (S15))) else (hk_let (hk_up S12 193 5 1) (fun S16 => some (S16)))) (n - s) s F (hk_up C2 193 7 0) (by omega) (by omega) hT3 (by rw [hk_up_eq, if_neg (by decide), e24])
      rw [← he'] at c2 c3
      have c6 : C3 193 6 = nI s := by rw [c4, hk_up_eq, if_neg (by decide), e26]
      rw [hk_up_eq, if_pos rfl, ← hv'] at c3
      have hd : mX8_readDigits hk_E0 F C2 193 = if 4 < nI (e - s) then some (hk_up C3 193 5 6) else some (hk_up C3 193 5 1) := by
        unfold mX8_readDigits
        rw [hk_let_eq, rE_193_0 hE2, Option.bind_some, if_pos (kE_194 hE2), show (hk_up C2 193 7 0) 193 4 = nI s by rw [hk_up_eq, if_neg (by decide), e24], pX4_byteAt hT3 (by omega), Option.bind_some]
        refine c1.trans ?_
        rw [c2, c6, nI_subN he.1, hk_let_eq, hk_let_eq]
      have f3 : s_fx [4, 5, 6, 7] 193 C C3 := s_fx_trans (s_fx_up f2 (by decide) _) c5
      rw [if_pos qd, if_neg (by decide), hd]
      by_cases q4 : e - s ≤ 4
      · rw [if_neg (show ¬ 4 < nI (e - s) from Int32.not_lt.mpr ((nI_leI (b := 4) (by omega) (by omega)).mpr q4))]
        rw [if_neg (fun z => z.2 q4)] at hk'
        refine ⟨hk_up C3 193 5 1, rfl, by rw [hk_up_eq, if_neg (by decide), c2], by rw [hk_up_eq, if_pos rfl, hk']; decide, by rw [hk_up_eq, if_neg (by decide), c6], fun _ => by rw [hk_up_eq, if_neg (by decide), c3], s_fx_up f3 (by decide) _⟩
      · rw [if_pos (show 4 < nI (e - s) from nI_lt (a := 4) (by omega) (by omega))]
        rw [if_pos ⟨rfl, q4⟩] at hk'
        refine ⟨hk_up C3 193 5 6, rfl, by rw [hk_up_eq, if_neg (by decide), c2], by rw [hk_up_eq, if_pos rfl, hk']; decide, by rw [hk_up_eq, if_neg (by decide), c6], fun z => by rw [hk'] at z; exact absurd z (by decide), s_fx_up f3 (by decide) _⟩
    · rw [if_neg qd] at he'
      rw [if_neg qd, if_pos rfl, pX8_isLetter, Option.bind_some]
      dsimp only
      by_cases ql : b_lt (T s) = true
      · rw [if_pos ql] at he'
        rw [u_sort_lt ql, if_neg (fun z => absurd z.1 (by decide))] at hk'
        obtain ⟨C3, c1, c2, c4, c5⟩ := pX8_letters (F := F) (T := T) (n := n) (K := fun S7 => hk_let (hk_up S7 193 5 0) (fun S8 => some (S8))) (n - s) s F C2 (by omega) (by omega) hT2 e24
        rw [← he'] at c2
        have hd : mX8_readLetters hk_E0 F C2 193 = some (hk_up C3 193 5 0) := by
          unfold mX8_readLetters
          exact c1
        rw [if_pos ql, if_neg (by decide), hd, Option.bind_some]
        exact ⟨hk_up C3 193 5 0, rfl, by rw [hk_up_eq, if_neg (by decide), c2], by rw [hk_up_eq, if_pos rfl, hk']; decide, by rw [hk_up_eq, if_neg (by decide), c4, e26], fun z => by rw [hk'] at z; exact absurd z (by decide), s_fx_up (s_fx_trans f2 c5) (by decide) _⟩
      · rw [if_neg ql] at he'
        rw [u_sort_mk qd ql, if_neg (fun z => absurd z.1 (u_mk_ne _))] at hk'
        rw [if_neg ql, if_pos rfl, pX8_markOf, Option.bind_some, hk_let_eq, hk_let_eq]
        dsimp only
        refine ⟨_, rfl, ?_, ?_, ?_, fun z => ?_, s_fx_up (s_fx_up f2 (by decide) _) (by decide) _⟩
        · rw [hk_up_eq, if_pos rfl, hk_up_eq, if_neg (by decide), e24, nI_1, he']
        · rw [hk_up_eq, if_neg (by decide), hk_up_eq, if_pos rfl, hk']
          exact u_mk_c _
        · rw [hk_up_eq, if_neg (by decide), hk_up_eq, if_neg (by decide), e26]
        · rw [hk'] at z
          exact absurd z (u_mk_ne _)
  · have ub : u_b T n s = -1 := by unfold u_b; rw [if_neg q]
    rw [if_neg q] at hk' he'
    rw [ub, if_neg (fun z => z rfl), hk_let_eq]
    exact ⟨hk_up C2 193 5 5, rfl, by rw [hk_up_eq, if_neg (by decide), e24, he'], by rw [hk_up_eq, if_pos rfl, hk']; decide, by rw [hk_up_eq, if_neg (by decide), e26], fun z => by rw [hk'] at z; exact absurd z (by decide), s_fx_up f2 (by decide) _⟩
