/-! the model's token -/
def k_mT (T : Nat → Int32) (n : Nat) (M : hk_S) : Prop := n ≤ 600 ∧ M 221 10 = nI n ∧ ∀ k, k < n → M 228 k = T k
theorem k_mT_fx {T : Nat → Int32} {n : Nat} {M M' : hk_S} (h : k_mT T n M) (e : s_fx [16, 17, 18, 19] 221 M M') : k_mT T n M' := ⟨h.1, by rw [e.2 10 (by decide)]; exact h.2.1, fun k hk => by rw [e.1 228 (by decide)]; exact h.2.2 k hk⟩
theorem k_mT_up {T : Nat → Int32} {n : Nat} {M : hk_S} (h : k_mT T n M) {k : Nat} (hk : k ∈ [16, 17, 18, 19]) (x : Int32) : k_mT T n (hk_up M 221 k x) := k_mT_fx h (s_fx_up (s_fx_refl _ _ _) hk x)
theorem pX12_sortOf {E : hk_E} {F : Nat} {S : hk_S} {x : Int32} : mX12_sortOf E F S x = some (u_sort x, S) := by
  unfold mX12_sortOf u_sort
  by_cases h59 : x = 59
  · rw [if_pos h59, if_neg (fun z => z h59)]
  · rw [if_neg h59, if_pos h59]
    by_cases h1 : x < 97
    · have l : ¬ b_lt x = true := fun e => by have := (b_lt_iff x).mp e; grind
      rw [if_pos h1, if_neg l]
      by_cases h2 : x < 48
      · have g : ¬ b_dg x = true := fun e => by have := (b_dg_iff x).mp e; grind
        rw [if_pos h2, if_neg g]
        by_cases h4 : x = 40
        · rw [if_neg (fun z => z h4), if_pos h4]
        · rw [if_pos h4, if_neg h4]
          by_cases h5 : x = 41
          · rw [if_neg (fun z => z h5), if_pos h5]
          · rw [if_pos h5, if_neg h5]
      · rw [if_neg h2]
        by_cases h3 : 57 < x
        · have g : ¬ b_dg x = true := fun e => by have := (b_dg_iff x).mp e; grind
          rw [if_pos h3, if_neg g]
          by_cases h4 : x = 40
          · rw [if_neg (fun z => z h4), if_pos h4]
          · rw [if_pos h4, if_neg h4]
            by_cases h5 : x = 41
            · rw [if_neg (fun z => z h5), if_pos h5]
            · rw [if_pos h5, if_neg h5]
        · have g : b_dg x = true := (b_dg_iff x).mpr ⟨by grind, by grind⟩
          rw [if_neg h3, if_pos g]
    · rw [if_neg h1]
      by_cases h0 : 122 < x
      · have l : ¬ b_lt x = true := fun e => by have := (b_lt_iff x).mp e; grind
        have g : ¬ b_dg x = true := fun e => by have := (b_dg_iff x).mp e; grind
        rw [if_pos h0, if_neg l, if_neg (show ¬ x < 48 by grind), if_pos (show 57 < x by grind), if_neg g]
        by_cases h4 : x = 40
        · rw [if_neg (fun z => z h4), if_pos h4]
        · rw [if_pos h4, if_neg h4]
          by_cases h5 : x = 41
          · rw [if_neg (fun z => z h5), if_pos h5]
          · rw [if_pos h5, if_neg h5]
      · have l : b_lt x = true := (b_lt_iff x).mpr ⟨by grind, by grind⟩
        rw [if_neg h0, if_pos l]
theorem pX12_next_8 {E : hk_E} {F : Nat} {T : Nat → Int32} {n : Nat} {K : hk_S → Option hk_S} (hE : hk_Sh 231 E) : ∀ (d p f : Nat) (M : hk_S), p + d = n → d < f → k_mT T n M → M 221 17 = nI p → ∃ M', mX12_next_8 E F 221 K f M = K M' ∧ M' 221 17 = nI (s_run b_bl T d p) ∧ s_fx [16, 17, 18, 19] 221 M M' := by
  intro d
  induction d with
  | zero =>
    intro p f M h1 h2 h3 h4
    obtain ⟨f, rfl⟩ : ∃ g, f = g + 1 := ⟨f - 1, by omega⟩
    have h6 := h3.1
    refine ⟨M, ?_, h4, s_fx_refl _ _ _⟩
    rw [mX12_next_8]
    dsimp only
    rw [h3.2.1, h4, if_pos (show nI n ≤ nI p from (nI_leI (by omega) (by omega)).mpr (by omega))]
  | succ d ih =>
    intro p f M h1 h2 h3 h4
    obtain ⟨f, rfl⟩ : ∃ g, f = g + 1 := ⟨f - 1, by omega⟩
    have h6 := h3.1
    have hp : p < n := by omega
    rw [mX12_next_8]
    dsimp only
    rw [h3.2.1, h4, if_neg (show ¬ nI n ≤ nI p from nI_ge hp (by omega)), rE_221_8 hE, Option.bind_some, if_pos (kE_228 hE), lE_228 hE, if_pos (hk_okI (show p < 600 by omega) (by omega)), if_pos (hk_okI (show p < 600 by omega) (by omega)), nI_clamp (by omega), h3.2.2 p hp, hk_let_eq, nI_1, s_run]
    by_cases q : b_bl (T p) = true
    · rw [if_pos q]
      obtain ⟨M', c1, c2, c3⟩ := ih (p + 1) f (hk_up M 221 17 (nI (p + 1))) (by omega) (by omega) (k_mT_up h3 (by decide) _) (by rw [hk_up_eq, if_pos rfl])
      refine ⟨M', ?_, c2, s_fx_trans (s_fx_up (s_fx_refl _ _ _) (by decide) _) c3⟩
      rcases (b_bl_iff _).mp q with z | z
      · rw [if_pos z]
        exact c1
      · rw [if_neg (show ¬ T p = 32 by rw [z]; decide), if_neg (fun e => e z)]
        exact c1
    · rw [if_neg q]
      have q2 : ¬ T p = 32 ∧ ¬ T p = 10 := ⟨fun e => q ((b_bl_iff _).mpr (Or.inl e)), fun e => q ((b_bl_iff _).mpr (Or.inr e))⟩
      exact ⟨M, by rw [if_neg q2.1, if_pos q2.2], h4, s_fx_refl _ _ _⟩
/-- letters or digits run on -/
theorem pX12_next_111 {E : hk_E} {F : Nat} {T : Nat → Int32} {n : Nat} {K : hk_S → Option hk_S} {P : Int32 → Bool} {kk : Int32} (hE : hk_Sh 231 E) (hk : kk = 2 ∨ kk = 3) (hP : ∀ x, u_sort x = kk ↔ P x = true) : ∀ (d p f : Nat) (M : hk_S), p + d = n → d < f → k_mT T n M → M 221 18 = nI p → M 221 16 = kk → ∃ M', mX12_next_111 E F 221 K f M = K M' ∧ M' 221 18 = nI (s_run P T d p) ∧ M' 221 16 = kk ∧ M' 221 17 = M 221 17 ∧ s_fx [16, 17, 18, 19] 221 M M' := by
  intro d
  induction d with
  | zero =>
    intro p f M h1 h2 h3 h4 h5
    obtain ⟨f, rfl⟩ : ∃ g, f = g + 1 := ⟨f - 1, by omega⟩
    have h6 := h3.1
    refine ⟨M, ?_, h4, h5, rfl, s_fx_refl _ _ _⟩
    rw [mX12_next_111]
    dsimp only
    rw [h3.2.1, h4, h5]
    rcases hk with q | q <;> subst q
    · rw [if_pos rfl, if_pos (show nI n ≤ nI p from (nI_leI (by omega) (by omega)).mpr (by omega))]
    · rw [if_neg (by decide), if_neg (by decide), if_pos (show nI n ≤ nI p from (nI_leI (by omega) (by omega)).mpr (by omega))]
  | succ d ih =>
    intro p f M h1 h2 h3 h4 h5
    obtain ⟨f, rfl⟩ : ∃ g, f = g + 1 := ⟨f - 1, by omega⟩
    have h6 := h3.1
    have hp : p < n := by omega
    have hu : mX12_next_111 E F 221 K (f + 1) M = if ¬ u_sort (T p) = kk then K M else mX12_next_111 E F 221 K f (hk_up M 221 18 (nI (p + 1))) := by
      rw [mX12_next_111]
      dsimp only
      rw [h3.2.1, h4, rE_221_8 hE, Option.bind_some, if_pos (kE_228 hE), lE_228 hE, if_pos (hk_okI (show p < 600 by omega) (by omega)), nI_clamp (by omega), h3.2.2 p hp, pX12_sortOf, Option.bind_some]
      dsimp only
      rw [h4, hk_let_eq, nI_1]
      rcases hk with q | q <;> subst q
      · rw [if_pos h5, if_neg (show ¬ nI n ≤ nI p from nI_ge hp (by omega))]
        simp only [h5]
      · rw [if_neg (show ¬ M 221 16 = 2 by rw [h5]; decide), if_neg (show ¬ ¬ M 221 16 = 3 from fun z => z h5), if_neg (show ¬ nI n ≤ nI p from nI_ge hp (by omega))]
        simp only [h5]
    rw [hu, s_run]
    by_cases q : P (T p) = true
    · rw [if_neg (fun z => z ((hP _).mpr q)), if_pos q]
      obtain ⟨M', c1, c2, c3, c4, c5⟩ := ih (p + 1) f (hk_up M 221 18 (nI (p + 1))) (by omega) (by omega) (k_mT_up h3 (by decide) _) (by rw [hk_up_eq, if_pos rfl]) (by rw [hk_up_eq, if_neg (by decide), h5])
      exact ⟨M', c1, c2, c3, by rw [c4, hk_up_eq, if_neg (by decide)], s_fx_trans (s_fx_up (s_fx_refl _ _ _) (by decide) _) c5⟩
    · rw [if_pos (fun z => q ((hP _).mp z)), if_neg q]
      exact ⟨M, rfl, h4, h5, rfl, s_fx_refl _ _ _⟩
theorem pX12_next_207 {E : hk_E} {F : Nat} {T : Nat → Int32} {n e : Nat} {K : hk_S → Int32 → Option hk_S} (hE : hk_Sh 231 E) (hen : e ≤ n) : ∀ (d p f : Nat) (M : hk_S), p + d = e → d < f → k_mT T n M → M 221 18 = nI e → M 221 16 = 3 → ∃ M', mX12_next_207 E F 221 K f M (nI p) = K M' (nI e) ∧ M' 221 19 = s_val T d p (M 221 19) ∧ M' 221 18 = nI e ∧ M' 221 16 = 3 ∧ M' 221 17 = M 221 17 ∧ s_fx [16, 17, 18, 19] 221 M M' := by
  intro d
  induction d with
  | zero =>
    intro p f M h1 h2 h3 h4 h5
    obtain ⟨f, rfl⟩ : ∃ g, f = g + 1 := ⟨f - 1, by omega⟩
    have h6 := h3.1
    have hpe : p = e := by omega
    subst hpe
    refine ⟨M, ?_, rfl, h4, h5, rfl, s_fx_refl _ _ _⟩
    rw [mX12_next_207]
    dsimp only
    rw [h4, if_pos (show nI p ≤ nI p from (nI_leI (by omega) (by omega)).mpr (by omega))]
  | succ d ih =>
    intro p f M h1 h2 h3 h4 h5
    obtain ⟨f, rfl⟩ : ∃ g, f = g + 1 := ⟨f - 1, by omega⟩
    have h6 := h3.1
    obtain ⟨M', c1, c2, c3, c4, c5, c6⟩ := ih (p + 1) f (hk_up M 221 19 (M 221 19 * 10 + T p - 48)) (by omega) (by omega) (k_mT_up h3 (by decide) _) (by rw [hk_up_eq, if_neg (by decide), h4]) (by rw [hk_up_eq, if_neg (by decide), h5])
    refine ⟨M', ?_, by rw [c2, hk_up_eq, if_pos rfl, s_val], c3, c4, by rw [c5, hk_up_eq, if_neg (by decide)], s_fx_trans (s_fx_up (s_fx_refl _ _ _) (by decide) _) c6⟩
    rw [mX12_next_207]
    dsimp only
    rw [h4, if_neg (show ¬ nI e ≤ nI p from nI_ge (by omega) (by omega)), h5, if_neg (fun z => z rfl), rE_221_8 hE, Option.bind_some, if_pos (kE_228 hE), lE_228 hE, if_pos (hk_okI (show p < 600 by omega) (by omega)), nI_clamp (by omega), h3.2.2 p (by omega), hk_let_eq, hk_let_eq, nI_1, Int32.mul_comm 10 (M 221 19)]
    exact c1
theorem pX12_next_207n {E : hk_E} {F : Nat} {K : hk_S → Int32 → Option hk_S} {f : Nat} {M : hk_S} {z : Int32} (h : ¬ M 221 16 = 3) : mX12_next_207 E F 221 K (f + 1) M z = K M z := by
  rw [mX12_next_207]
  dsimp only
  by_cases q : M 221 18 ≤ z
  · rw [if_pos q]
  · rw [if_neg q, if_pos h]
theorem u_sort_2 (x : Int32) : u_sort x = 2 ↔ b_lt x = true := by
  constructor
  · intro h
    apply Classical.byContradiction
    intro q
    unfold u_sort at h
    rw [if_neg q] at h
    by_cases z1 : x = 59
    · rw [if_pos z1] at h; exact absurd h (by decide)
    · rw [if_neg z1] at h
      by_cases z0 : b_dg x = true
      · rw [if_pos z0] at h; exact absurd h (by decide)
      · rw [if_neg z0] at h
        by_cases z2 : x = 40
        · rw [if_pos z2] at h; exact absurd h (by decide)
        · rw [if_neg z2] at h
          by_cases z3 : x = 41
          · rw [if_pos z3] at h; exact absurd h (by decide)
          · rw [if_neg z3] at h; exact absurd h (by decide)
  · exact u_sort_lt
theorem u_sort_3 (x : Int32) : u_sort x = 3 ↔ b_dg x = true := by
  constructor
  · intro h
    apply Classical.byContradiction
    intro q
    by_cases ql : b_lt x = true
    · rw [u_sort_lt ql] at h; exact absurd h (by decide)
    · rw [u_sort_mk q ql] at h; exact u_mk_ne _ h
  · exact u_sort_dg
/-- the model's next token -/
theorem pX12_next {E : hk_E} {F : Nat} {M : hk_S} {T : Nat → Int32} {n p : Nat} (hE : hk_Sh 231 E) (hF : 1000 ≤ F) (h : k_mT T n M) (hp : p ≤ n) (h4 : M 221 18 = nI p) : ∃ M', mX12_next E F M 221 = some M' ∧ M' 221 18 = nI (u_e T n p) ∧ M' 221 16 = u_k T n p ∧ M' 221 17 = nI (u_s T n p) ∧ (u_k T n p = 3 → M' 221 19 = u_v T n p) ∧ s_fx [16, 17, 18, 19] 221 M M' := by
  have h6 := h.1
  have hs := u_s_ge T hp
  have he := u_e_ge T hp
  have hss : u_s T n p = s_run b_bl T (n - p) p := rfl
  have hk' : u_k T n p = if u_s T n p < n then (if u_sort (T (u_s T n p)) = 3 ∧ ¬ u_e T n p - u_s T n p ≤ 4 then 6 else u_sort (T (u_s T n p))) else 0 := rfl
  have he' : u_e T n p = if u_s T n p < n then (if b_dg (T (u_s T n p)) = true then s_run b_dg T (n - u_s T n p) (u_s T n p) else if b_lt (T (u_s T n p)) = true then s_run b_lt T (n - u_s T n p) (u_s T n p) else u_s T n p + 1) else u_s T n p := rfl
  have hv' : u_v T n p = s_val T (u_e T n p - u_s T n p) (u_s T n p) 0 := rfl
  generalize u_s T n p = s at *
  generalize u_e T n p = e at *
  generalize u_k T n p = k at *
  generalize u_v T n p = vv at *
  obtain ⟨g, rfl⟩ : ∃ g, F = g + 1 := ⟨F - 1, by omega⟩
  unfold mX12_next
  rw [hk_let_eq, h4]
  obtain ⟨M1, a1, a2, a3⟩ := pX12_next_8 (E := E) (F := g + 1) (T := T) (n := n) (K := (fun S10  => hk_let (hk_up S10 221 18 (S10 221 17)) (fun S11 => if ¬ (S11 221 17) = (S11 221 10) then ((E.2.2.2 221 8).bind (fun r13 => if E.2.1 r13 = 13 then (if hk_ok (S11 221 17) (E.2.2.1 r13) then ((mX12_sortOf E (g + 1) S11 (S11 r13 (((S11 221 17)).toNatClampNeg))).bind (fun r15 => hk_let (hk_up r15.2 221 16 r15.1) (fun S16 => hk_let (hk_up S16 221 18 ((S16 221 18) + 1)) (fun S17 => mX12_next_111 E (g + 1) 221  (fun S32  => if ¬ (S32 221 16) = 3 then (hk_let (hk_up S32 221 19 0) (fun S34 => hk_let (S34 221 17) (fun y35 => mX12_next_207 E (g + 1) 221  (fun S43 z44 => some (S43)) (g + 1) S34 y35))) else (if ((S32 221 18) - (S32 221 17)) ≤ 4 then (hk_let (hk_up S32 221 19 0) (fun S46 => hk_let (S46 221 17) (fun y47 => mX12_next_207 E (g + 1) 221  (fun S48 z49 => some (S48)) (g + 1) S46 y47))) else (hk_let (hk_up S32 221 16 6) (fun S50 => hk_let (hk_up S50 221 19 0) (fun S51 => hk_let (S51 221 17) (fun y52 => mX12_next_207 E (g + 1) 221  (fun S53 z54 => some (S53)) (g + 1) S51 y52)))))) (g + 1) S17 )))) else none) else none)) else (hk_let (hk_up S11 221 16 0) (fun S55 => some (S55)))))) hE (n - p) p (g + 1) (hk_up M 221 17 (nI p)) (by omega) (by omega) (k_mT_up h (by decide) _) (by rw [hk_up_eq, if_pos rfl])
  rw [← hss] at a2
  have hT1 : k_mT T n M1 := k_mT_fx (k_mT_up h (by decide) _) a3
  have f1 : s_fx [16, 17, 18, 19] 221 M M1 := s_fx_trans (s_fx_up (s_fx_refl _ _ _) (by decide) _) a3
  suffices hx : ∃ M', (hk_let (hk_up M1 221 18 (M1 221 17)) (fun S11 => if ¬ (S11 221 17) = (S11 221 10) then ((E.2.2.2 221 8).bind (fun r13 => if E.2.1 r13 = 13 then (if hk_ok (S11 221 17) (E.2.2.1 r13) then ((mX12_sortOf E (g + 1) S11 (S11 r13 (((S11 221 17)).toNatClampNeg))).bind (fun r15 => hk_let (hk_up r15.2 221 16 r15.1) (fun S16 => hk_let (hk_up S16 221 18 ((S16 221 18) + 1)) (fun S17 => mX12_next_111 E (g + 1) 221  (fun S32  => if ¬ (S32 221 16) = 3 then (hk_let (hk_up S32 221 19 0) (fun S34 => hk_let (S34 221 17) (fun y35 => mX12_next_207 E (g + 1) 221  (fun S43 z44 => some (S43)) (g + 1) S34 y35))) else (if ((S32 221 18) - (S32 221 17)) ≤ 4 then (hk_let (hk_up S32 221 19 0) (fun S46 => hk_let (S46 221 17) (fun y47 => mX12_next_207 E (g + 1) 221  (fun S48 z49 => some (S48)) (g + 1) S46 y47))) else (hk_let (hk_up S32 221 16 6) (fun S50 => hk_let (hk_up S50 221 19 0) (fun S51 => hk_let (S51 221 17) (fun y52 => mX12_next_207 E (g + 1) 221  (fun S53 z54 => some (S53)) (g + 1) S51 y52)))))) (g + 1) S17 )))) else none) else none)) else (hk_let (hk_up S11 221 16 0) (fun S55 => some (S55))))) = some M' ∧ M' 221 18 = nI e ∧ M' 221 16 = k ∧ M' 221 17 = nI s ∧ (k = 3 → M' 221 19 = vv) ∧ s_fx [16, 17, 18, 19] 221 M M' by
    obtain ⟨M', x1, x2⟩ := hx
    exact ⟨M', a1.trans x1, x2⟩
  clear a1
  rw [hk_let_eq, a2]
  have hT2 : k_mT T n (hk_up M1 221 18 (nI s)) := k_mT_up hT1 (by decide) _
  have f2 : s_fx [16, 17, 18, 19] 221 M (hk_up M1 221 18 (nI s)) := s_fx_up f1 (by decide) _
  have e17 : (hk_up M1 221 18 (nI s)) 221 17 = nI s := by rw [hk_up_eq, if_neg (by decide), a2]
  have e18 : (hk_up M1 221 18 (nI s)) 221 18 = nI s := by rw [hk_up_eq, if_pos rfl]
  generalize hk_up M1 221 18 (nI s) = M2 at *
  rw [e17, hT2.2.1]
  by_cases q : s < n
  · rw [if_pos q] at hk' he'
    rw [if_pos (show ¬ nI s = nI n from fun z => absurd ((nI_eq (by omega) (by omega)).mp z) (by omega)), rE_221_8 hE, Option.bind_some, if_pos (kE_228 hE), lE_228 hE, if_pos (hk_okI (show s < 600 by omega) (by omega)), nI_clamp (by omega), hT2.2.2 s q, pX12_sortOf, Option.bind_some, hk_let_eq, hk_let_eq]
    dsimp only
    rw [show (hk_up M2 221 16 (u_sort (T s))) 221 18 + 1 = nI (s + 1) by rw [hk_up_eq, if_neg (by decide), e18, nI_1]]
    have hT3 : k_mT T n (hk_up (hk_up M2 221 16 (u_sort (T s))) 221 18 (nI (s + 1))) := k_mT_up (k_mT_up hT2 (by decide) _) (by decide) _
    have f3 : s_fx [16, 17, 18, 19] 221 M (hk_up (hk_up M2 221 16 (u_sort (T s))) 221 18 (nI (s + 1))) := s_fx_up (s_fx_up f2 (by decide) _) (by decide) _
    have e3a : (hk_up (hk_up M2 221 16 (u_sort (T s))) 221 18 (nI (s + 1))) 221 18 = nI (s + 1) := by rw [hk_up_eq, if_pos rfl]
    have e3b : (hk_up (hk_up M2 221 16 (u_sort (T s))) 221 18 (nI (s + 1))) 221 16 = u_sort (T s) := by rw [hk_up_eq, if_neg (by decide), hk_up_eq, if_pos rfl]
    have e3c : (hk_up (hk_up M2 221 16 (u_sort (T s))) 221 18 (nI (s + 1))) 221 17 = nI s := by rw [hk_up_eq, if_neg (by decide), hk_up_eq, if_neg (by decide), e17]
    generalize hk_up (hk_up M2 221 16 (u_sort (T s))) 221 18 (nI (s + 1)) = M3 at *
    by_cases qd : b_dg (T s) = true
    · rw [if_pos qd] at he'
      rw [u_sort_dg qd] at hk' e3b
      obtain ⟨M4, c1, c2, c3, c4, c5⟩ := pX12_next_111 (E := E) (F := g + 1) (T := T) (n := n) (K := (fun S32  => if ¬ (S32 221 16) = 3 then (hk_let (hk_up S32 221 19 0) (fun S34 => hk_let (S34 221 17) (fun y35 => mX12_next_207 E (g + 1) 221  (fun S43 z44 => some (S43)) (g + 1) S34 y35))) else (if ((S32 221 18) - (S32 221 17)) ≤ 4 then (hk_let (hk_up S32 221 19 0) (fun S46 => hk_let (S46 221 17) (fun y47 => mX12_next_207 E (g + 1) 221  (fun S48 z49 => some (S48)) (g + 1) S46 y47))) else (hk_let (hk_up S32 221 16 6) (fun S50 => hk_let (hk_up S50 221 19 0) (fun S51 => hk_let (S51 221 17) (fun y52 => mX12_next_207 E (g + 1) 221  (fun S53 z54 => some (S53)) (g + 1) S51 y52))))))) (P := b_dg) (kk := 3) hE (Or.inr rfl) u_sort_3 (n - (s + 1)) (s + 1) (g + 1) M3 (by omega) (by omega) hT3 e3a e3b
      have er : s_run b_dg T (n - (s + 1)) (s + 1) = e := by
        rw [he', show n - s = (n - (s + 1)) + 1 by omega, s_run, if_pos qd]
      rw [er] at c2
      rw [e3c] at c4
      have hT4 := k_mT_fx hT3 c5
      have f4 := s_fx_trans f3 c5
      rw [c1, c3, c2, c4, nI_subN he.1, if_neg (fun z => z rfl), hk_let_eq, hk_let_eq, hk_let_eq, hk_let_eq, hk_let_eq]
      by_cases q4 : e - s ≤ 4
      · rw [if_neg (fun z => z.2 q4)] at hk'
        obtain ⟨M5, d1, d2, d3, d4, d5, d6⟩ := pX12_next_207 (E := E) (F := g + 1) (T := T) (n := n) (e := e) (K := fun S48 z49 => some S48) hE he.2.1 (e - s) s (g + 1) (hk_up M4 221 19 0) (by omega) (by omega) (k_mT_up hT4 (by decide) _) (by rw [hk_up_eq, if_neg (by decide), c2]) (by rw [hk_up_eq, if_neg (by decide), c3])
        rw [if_pos (show nI (e - s) ≤ 4 from (nI_leI (b := 4) (by omega) (by omega)).mpr q4), show (hk_up M4 221 19 0) 221 17 = nI s by rw [hk_up_eq, if_neg (by decide), c4]]
        rw [hk_up_eq, if_pos rfl, ← hv'] at d2
        exact ⟨M5, d1, d3, by rw [d4, hk'], by rw [d5, hk_up_eq, if_neg (by decide), c4], fun _ => d2, s_fx_trans (s_fx_up f4 (by decide) _) d6⟩
      · rw [if_pos ⟨rfl, q4⟩] at hk'
        have e16 : (hk_up (hk_up M4 221 16 6) 221 19 0) 221 16 = 6 := by rw [hk_up_eq, if_neg (by decide), hk_up_eq, if_pos rfl]
        rw [if_neg (show ¬ nI (e - s) ≤ 4 from fun z => q4 ((nI_leI (b := 4) (by omega) (by omega)).mp z)), pX12_next_207n (by rw [e16]; decide)]
        exact ⟨_, rfl, by rw [hk_up_eq, if_neg (by decide), hk_up_eq, if_neg (by decide), c2], by rw [e16, hk'], by rw [hk_up_eq, if_neg (by decide), hk_up_eq, if_neg (by decide), c4], fun z => by rw [hk'] at z; exact absurd z (by decide), s_fx_up (s_fx_up f4 (by decide) _) (by decide) _⟩
    · rw [if_neg qd] at he'
      have u3 : ¬ u_sort (T s) = 3 := fun z => qd ((u_sort_3 _).mp z)
      rw [if_neg (fun z => u3 z.1)] at hk'
      -- behind the letters, or at once
      have fin : ∀ M4 : hk_S, M4 221 18 = nI e → M4 221 16 = u_sort (T s) → M4 221 17 = nI s → s_fx [16, 17, 18, 19] 221 M M4 → ∃ M', (if ¬ (M4 221 16) = 3 then (hk_let (hk_up M4 221 19 0) (fun S34 => hk_let (S34 221 17) (fun y35 => mX12_next_207 E (g + 1) 221  (fun S43 z44 => some (S43)) (g + 1) S34 y35))) else (if ((M4 221 18) - (M4 221 17)) ≤ 4 then (hk_let (hk_up M4 221 19 0) (fun S46 => hk_let (S46 221 17) (fun y47 => mX12_next_207 E (g + 1) 221  (fun S48 z49 => some (S48)) (g + 1) S46 y47))) else (hk_let (hk_up M4 221 16 6) (fun S50 => hk_let (hk_up S50 221 19 0) (fun S51 => hk_let (S51 221 17) (fun y52 => mX12_next_207 E (g + 1) 221  (fun S53 z54 => some (S53)) (g + 1) S51 y52)))))) = some M' ∧ M' 221 18 = nI e ∧ M' 221 16 = k ∧ M' 221 17 = nI s ∧ (k = 3 → M' 221 19 = vv) ∧ s_fx [16, 17, 18, 19] 221 M M' := by
        intro M4 c2 c3 c4 f4
        rw [if_pos (by rw [c3]; exact u3), hk_let_eq, hk_let_eq, pX12_next_207n (by rw [hk_up_eq, if_neg (by decide), c3]; exact u3)]
        exact ⟨_, rfl, by rw [hk_up_eq, if_neg (by decide), c2], by rw [hk_up_eq, if_neg (by decide), c3, hk'], by rw [hk_up_eq, if_neg (by decide), c4], fun z => absurd (hk'.symm.trans z) u3, s_fx_up f4 (by decide) _⟩
      by_cases ql : b_lt (T s) = true
      · rw [if_pos ql] at he'
        obtain ⟨M4, c1, c2, c3, c4, c5⟩ := pX12_next_111 (E := E) (F := g + 1) (T := T) (n := n) (K := (fun S32  => if ¬ (S32 221 16) = 3 then (hk_let (hk_up S32 221 19 0) (fun S34 => hk_let (S34 221 17) (fun y35 => mX12_next_207 E (g + 1) 221  (fun S43 z44 => some (S43)) (g + 1) S34 y35))) else (if ((S32 221 18) - (S32 221 17)) ≤ 4 then (hk_let (hk_up S32 221 19 0) (fun S46 => hk_let (S46 221 17) (fun y47 => mX12_next_207 E (g + 1) 221  (fun S48 z49 => some (S48)) (g + 1) S46 y47))) else (hk_let (hk_up S32 221 16 6) (fun S50 => hk_let (hk_up S50 221 19 0) (fun S51 => hk_let (S51 221 17) (fun y52 => mX12_next_207 E (g + 1) 221  (fun S53 z54 => some (S53)) (g + 1) S51 y52))))))) (P := b_lt) (kk := 2) hE (Or.inl rfl) u_sort_2 (n - (s + 1)) (s + 1) (g + 1) M3 (by omega) (by omega) hT3 e3a (by rw [e3b, u_sort_lt ql])
        have er : s_run b_lt T (n - (s + 1)) (s + 1) = e := by
          rw [he', show n - s = (n - (s + 1)) + 1 by omega, s_run, if_pos ql]
        rw [er] at c2
        rw [c1]
        exact fin M4 c2 (by rw [c3, u_sort_lt ql]) (by rw [c4, e3c]) (s_fx_trans f3 c5)
      · rw [if_neg ql] at he'
        have u2 : ¬ u_sort (T s) = 2 := fun z => ql ((u_sort_2 _).mp z)
        rw [mX12_next_111]
        dsimp only
        rw [e3b, if_neg u2, if_pos u3, ← e3b]
        exact fin M3 (by rw [e3a, he']) e3b e3c f3
  · rw [if_neg q] at hk' he'
    rw [if_neg (show ¬ ¬ nI s = nI n from fun z => z (congrArg nI (by omega))), hk_let_eq]
    exact ⟨_, rfl, by rw [hk_up_eq, if_neg (by decide), e18, he'], by rw [hk_up_eq, if_pos rfl, hk'], by rw [hk_up_eq, if_neg (by decide), e17], fun z => by rw [hk'] at z; exact absurd z (by decide), s_fx_up f2 (by decide) _⟩
