/-! the past of the class; what holds between calls -/
def hk_ring (j : Nat) : Nat := 41 + 19 * (j % 8)
theorem hk_ringB : ∀ j, j < 8 → 41 + 19 * j ∈ hk_LB ∧ hk_ref hk_RT 40 j = some (41 + 19 * j) := by decide +kernel
theorem hk_ringL {E : hk_E} (hE : hk_Sh 221 E) (j : Nat) : hk_L E (hk_ring j) := hk_L_of hE (hk_ringB (j % 8) (Nat.mod_lt _ (by omega))).1
theorem hk_ringR {E : hk_E} (hE : hk_Sh 221 E) {j : Nat} (hj : j < 8) : E.2.2.2 40 j = some (hk_ring j) := by
  rw [hE.2.2 40 j (by decide), (hk_ringB j hj).2]
  unfold hk_ring
  rw [Nat.mod_eq_of_lt hj]
theorem hk_ring_lt (j : Nat) : 41 ≤ hk_ring j ∧ hk_ring j + 19 ≤ 193 := by
  unfold hk_ring
  have := Nat.mod_lt j (show 8 > 0 by omega)
  omega
theorem hk_ring_eq {i j : Nat} (h : i % 8 = j % 8) : hk_ring i = hk_ring j := by
  unfold hk_ring
  rw [h]
theorem hk_ring_ne {i j : Nat} (h : i % 8 ≠ j % 8) : hk_ring i + 19 ≤ hk_ring j ∨ hk_ring j + 19 ≤ hk_ring i := by
  unfold hk_ring
  omega
theorem hk_L1 {E : hk_E} (hE : hk_Sh 221 E) : hk_L E 1 := hk_L_of hE (by decide)
theorem hk_L20 {E : hk_E} (hE : hk_Sh 221 E) : hk_L E 20 := hk_L_of hE (by decide)
theorem hk_L196 {E : hk_E} (hE : hk_Sh 221 E) : hk_L E 196 := hk_L_of hE (by decide)
theorem pJ9_fm {E : hk_E} {F : Nat} {S : hk_S} {n : Nat} (hn : n ≤ 8) : mJ9_floorMod_7cf53 E F S (nI n) 8 = some (nI (n % 8), S) := by
  have h : n = 0 ∨ n = 1 ∨ n = 2 ∨ n = 3 ∨ n = 4 ∨ n = 5 ∨ n = 6 ∨ n = 7 ∨ n = 8 := by omega
  unfold mJ9_floorMod_7cf53
  rw [if_pos (by decide), hk_let_eq]
  rcases h with q | q | q | q | q | q | q | q | q <;> subst q <;> rw [if_pos (by decide)] <;> congr 2 <;> decide
theorem pJ9_fm1 {E : hk_E} {F : Nat} {S : hk_S} {n : Nat} (hn : n < 8) : mJ9_floorMod_7cf53 E F S (nI n - 1) 8 = some (nI ((n + 7) % 8), S) := by
  have h : n = 0 ∨ n = 1 ∨ n = 2 ∨ n = 3 ∨ n = 4 ∨ n = 5 ∨ n = 6 ∨ n = 7 := by omega
  unfold mJ9_floorMod_7cf53
  rw [if_pos (by decide), hk_let_eq]
  rcases h with q | q | q | q | q | q | q | q <;> subst q
  · rw [if_neg (by decide), if_neg (by decide)]
    congr 2
  all_goals
    rw [if_pos (by decide)]
    congr 2
theorem cX_remember {E : hk_E} {F c nx : Nat} {S : hk_S} {w : Nat → Int32} (hE : hk_Sh 221 E) (hF : 10 ≤ F) (hS : hk_lf S 1 w) (hnx : nx < 8) (hc : c ≤ 8) (h1 : S 39 1 = nI nx) (h2 : S 39 2 = nI c) : ∃ S', mX3_remember E F S 39 1 = some S' ∧ hk_lf S' (hk_ring nx) w ∧ S' 39 1 = nI ((nx + 1) % 8) ∧ S' 39 2 = nI (min (c + 1) 8) ∧ ∀ a, a ≠ 39 → (a < hk_ring nx ∨ hk_ring nx + 19 ≤ a) → S' a = S a := by
  have hr := hk_ring_lt nx
  obtain ⟨S1, p1, p2, p3⟩ := cX_become (F := F) (hF := hF) (hk_L1 hE) (hk_ringL hE nx) (by omega) hS.2.2.1
  have e39 : S1 39 = S 39 := p3 39 (by omega)
  have h81 : nx % 8 = nx := Nat.mod_eq_of_lt hnx
  have hu : mX3_remember E F S 39 1 = (if 8 ≤ nI c then some (hk_up S1 39 1 (nI ((nx + 1) % 8))) else some (hk_up (hk_up S1 39 1 (nI ((nx + 1) % 8))) 39 2 (nI (c + 1)))) := by
    unfold mX3_remember
    rw [rE_39_0 hE, Option.bind_some, if_pos (kE_40 hE), h1, pJ9_fm (by omega), Option.bind_some]
    dsimp only
    rw [h81, lE_40 hE, if_pos (hk_okI hnx (by omega)), nI_clamp (by omega), hk_ringR hE hnx, Option.bind_some, if_pos (hk_ringL hE nx).1, p1, Option.bind_some, e39, h1, nI_1, pJ9_fm (by omega), Option.bind_some, hk_let_eq]
    dsimp only
    rw [hk_up_eq, if_neg (show ¬ (2 : Nat) = 1 by decide), e39, h2, hk_let_eq, nI_1]
  by_cases h8 : 8 ≤ nI c
  · have hc8 : 8 ≤ c := (nI_leI (a := 8) (by omega) (by omega)).mp h8
    refine ⟨_, by rw [hu, if_pos h8], hk_lf_ext (hk_lf_cp hS p2) (fun a ha hb => hk_upne _ _ _ (by omega)), by rw [hk_up_eq, if_pos rfl], ?_, fun a ha hb => by rw [hk_upne _ _ _ ha]; exact p3 a hb⟩
    rw [hk_up_eq, if_neg (by omega), e39, h2, Nat.min_eq_right (by omega)]
    congr 1
    omega
  · have hc8 : c < 8 := by
      apply Classical.byContradiction
      intro q
      exact h8 ((nI_leI (a := 8) (by omega) (by omega)).mpr (by omega))
    refine ⟨_, by rw [hu, if_neg h8], hk_lf_ext (hk_lf_cp hS p2) (fun a ha hb => by rw [hk_upne _ _ _ (by omega), hk_upne _ _ _ (by omega)]), by rw [hk_up_eq, if_neg (by omega), hk_up_eq, if_pos rfl], ?_, fun a ha hb => by rw [hk_upne _ _ _ ha, hk_upne _ _ _ ha]; exact p3 a hb⟩
    rw [hk_up_eq, if_pos rfl, Nat.min_eq_left (by omega)]
def hk_hist (S : hk_S) : Prop := ∃ c nx : Nat, c ≤ 8 ∧ nx < 8 ∧ S 39 2 = nI c ∧ S 221 5 = nI c ∧ S 39 1 = nI nx ∧ ∀ i, i < c → hk_lf S (hk_ring (nx + 8 - c + i)) (fun k => S 225 (107 * i + k)) ∧ a_ok (fun k => S 225 (107 * i + k))
def hk_snap (S : hk_S) : Prop := S 0 2 = S 221 6 ∧ (S 221 6 = 0 ∨ (S 221 6 = 1 ∧ hk_lf S 20 (S 226) ∧ a_ok (S 226)))
def hk_inp (S : hk_S) : Prop := ∃ n : Nat, n ≤ 600 ∧ S 194 1 = nI n ∧ S 221 9 = nI n ∧ ∀ k, k < n → S 195 k &&& 255 = S 227 k
def hk_err (S : hk_S) : Prop := S 193 2 = S 221 11 ∧ S 221 12 = if S 221 11 = 0 then -1 else S 193 3
def hk_rep (S : hk_S) : Prop := ∃ n : Nat, n ≤ 88 ∧ S 218 1 = nI n ∧ S 221 14 = nI n ∧ ∀ k, k < n → S 219 k = S 229 k
/-- what holds between calls -/
def hk_I (S : hk_S) : Prop := hk_lf S 1 (S 222) ∧ a_ok (S 222) ∧ hk_hist S ∧ hk_snap S ∧ hk_inp S ∧ hk_err S ∧ hk_rep S
theorem hk_hist_ext {S S' : hk_S} (h : hk_hist S) (e1 : ∀ a, 39 ≤ a → a < 193 → S' a = S a) (e2 : S' 221 5 = S 221 5) (e3 : S' 225 = S 225) : hk_hist S' := by
  obtain ⟨c, nx, h1, h2, h3, h4, h5, h6⟩ := h
  refine ⟨c, nx, h1, h2, by rw [e1 39 (by omega) (by omega)]; exact h3, by rw [e2]; exact h4, by rw [e1 39 (by omega) (by omega)]; exact h5, fun i hi => ?_⟩
  have hr := hk_ring_lt (nx + 8 - c + i)
  rw [e3]
  exact ⟨hk_lf_ext (h6 i hi).1 (fun a ha hb => e1 a (by omega) (by omega)), (h6 i hi).2⟩
theorem hk_snap_ext {S S' : hk_S} (h : hk_snap S) (e0 : S' 0 2 = S 0 2) (e1 : ∀ a, 20 ≤ a → a < 39 → S' a = S a) (e2 : S' 221 6 = S 221 6) (e3 : S' 226 = S 226) : hk_snap S' := by
  obtain ⟨h1, h2⟩ := h
  refine ⟨by rw [e0, e2]; exact h1, ?_⟩
  rw [e2, e3]
  rcases h2 with h2 | ⟨h2, h3, h4⟩
  · exact Or.inl h2
  · exact Or.inr ⟨h2, hk_lf_ext h3 (fun a ha hb => e1 a ha hb), h4⟩
theorem hk_inp_ext {S S' : hk_S} (h : hk_inp S) (e0 : S' 194 1 = S 194 1) (e1 : S' 195 = S 195) (e2 : S' 221 9 = S 221 9) (e3 : S' 227 = S 227) : hk_inp S' := by
  obtain ⟨n, h1, h2, h3, h4⟩ := h
  exact ⟨n, h1, e0.trans h2, e2.trans h3, fun k hk => by rw [e1, e3]; exact h4 k hk⟩
theorem hk_err_ext {S S' : hk_S} (h : hk_err S) (e0 : S' 193 2 = S 193 2) (e1 : S' 193 3 = S 193 3) (e2 : S' 221 11 = S 221 11) (e3 : S' 221 12 = S 221 12) : hk_err S' := by
  unfold hk_err at h ⊢
  rw [e0, e1, e2, e3]
  exact h
theorem hk_rep_ext {S S' : hk_S} (h : hk_rep S) (e0 : S' 218 1 = S 218 1) (e1 : S' 219 = S 219) (e2 : S' 221 14 = S 221 14) (e3 : S' 229 = S 229) : hk_rep S' := by
  obtain ⟨n, h1, h2, h3, h4⟩ := h
  exact ⟨n, h1, e0.trans h2, e2.trans h3, fun k hk => by rw [e1, e3]; exact h4 k hk⟩
/-- a question leaves all that -/
theorem hk_I_q {S S' : hk_S} (h : hk_I S) (e1 : ∀ a, a < 220 → S' a = S a) (e2 : ∀ k, k < 15 → S' 221 k = S 221 k) (e3 : S' 222 = S 222 ∧ S' 225 = S 225 ∧ S' 226 = S 226 ∧ S' 227 = S 227 ∧ S' 229 = S 229) : hk_I S' := by
  obtain ⟨h1, h2, h3, h4, h5, h6, h7⟩ := h
  obtain ⟨f1, f2, f3, f4, f5⟩ := e3
  refine ⟨by rw [f1]; exact hk_lf_ext h1 (fun a _ hb => e1 a (by omega)), by rw [f1]; exact h2, hk_hist_ext h3 (fun a _ hb => e1 a (by omega)) (e2 _ (by omega)) f2, hk_snap_ext h4 (by rw [e1 0 (by omega)]) (fun a _ hb => e1 a (by omega)) (e2 _ (by omega)) f3, hk_inp_ext h5 (by rw [e1 194 (by omega)]) (e1 195 (by omega)) (e2 _ (by omega)) f4, hk_err_ext h6 (by rw [e1 193 (by omega)]) (by rw [e1 193 (by omega)]) (e2 _ (by omega)) (e2 _ (by omega)), hk_rep_ext h7 (by rw [e1 218 (by omega)]) (e1 219 (by omega)) (e2 _ (by omega)) f5⟩
/-- a change that is remembered: S1 behind the class's remembering, S2 behind its change, W the row before, w' the row behind -/
theorem hk_I_ch {S S' : hk_S} {c nx : Nat} {W w' : Nat → Int32} (h : hk_I S) (hc : c ≤ 8) (hnx : nx < 8) (h1 : S 39 1 = nI nx) (h2 : S 39 2 = nI c)
    (hW : ∀ i, i < 107 → W i = S 222 i) (hw : a_ok w') (e1 : hk_lf S' 1 w') (e2 : S' 222 = w') (e3 : hk_lf S' (hk_ring nx) (S 222)) (e4 : S' 39 1 = nI ((nx + 1) % 8)) (e5 : S' 39 2 = nI (min (c + 1) 8)) (e6 : ∀ a, a ≠ 39 → (a < hk_ring nx ∨ hk_ring nx + 19 ≤ a) → 20 ≤ a → a < 220 → S' a = S a) (e0 : S' 0 = S 0) (e7 : ∀ k, k < 15 → k ≠ 5 → S' 221 k = S 221 k) (e8 : S' 221 5 = nI (min (c + 1) 8)) (e9 : S' 225 = a_past W (S 225) c) (e10 : S' 226 = S 226 ∧ S' 227 = S 227 ∧ S' 229 = S 229) : hk_I S' := by
  have hr := hk_ring_lt nx
  obtain ⟨g1, g2, g3, g4, g5, g6, g7⟩ := h
  refine ⟨by rw [e2]; exact e1, by rw [e2]; exact hw, ?_, hk_snap_ext g4 (by rw [e0]) (fun a h h' => e6 a (by omega) (by omega) (by omega) (by omega)) (e7 _ (by omega) (by omega)) e10.1, hk_inp_ext g5 (by rw [e6 194 (by omega) (by omega) (by omega) (by omega)]) (e6 195 (by omega) (by omega) (by omega) (by omega)) (e7 _ (by omega) (by omega)) e10.2.1, hk_err_ext g6 (by rw [e6 193 (by omega) (by omega) (by omega) (by omega)]) (by rw [e6 193 (by omega) (by omega) (by omega) (by omega)]) (e7 _ (by omega) (by omega)) (e7 _ (by omega) (by omega)), hk_rep_ext g7 (by rw [e6 218 (by omega) (by omega) (by omega) (by omega)]) (e6 219 (by omega) (by omega) (by omega) (by omega)) (e7 _ (by omega) (by omega)) e10.2.2⟩
  obtain ⟨c', nx', q1, q2, q3, q4, q5, q6⟩ := g3
  have hcc : c' = c := (nI_eq (by omega) (by omega)).mp (q3.symm.trans h2)
  have hxx : nx' = nx := (nI_eq (by omega) (by omega)).mp (q5.symm.trans h1)
  subst hcc
  subst hxx
  refine ⟨min (c' + 1) 8, (nx' + 1) % 8, by omega, Nat.mod_lt _ (by omega), e5, e8, e4, fun i hi => ?_⟩
  -- a row that stays, j its number before
  have old : ∀ j, j < c' → (nx' + 8 - c' + j) % 8 ≠ nx' % 8 → hk_lf S' (hk_ring (nx' + 8 - c' + j)) (fun k => S 225 (107 * j + k)) ∧ a_ok (fun k => S 225 (107 * j + k)) := fun j hj hne => by
    have hr2 := hk_ring_lt (nx' + 8 - c' + j)
    have hd := hk_ring_ne hne
    exact ⟨hk_lf_ext (q6 j hj).1 (fun a ha hb => e6 a (by omega) (by omega) (by omega) (by omega)), (q6 j hj).2⟩
  by_cases h8 : c' = 8
  · subst h8
    have em : min (8 + 1) 8 = 8 := by decide
    rw [em] at hi ⊢
    by_cases h7 : i = 7
    · subst h7
      have er : hk_ring ((nx' + 1) % 8 + 8 - 8 + 7) = hk_ring nx' := hk_ring_eq (by omega)
      have ew : ∀ k, k < 107 → S' 225 (107 * 7 + k) = S 222 k := fun k hk => by
        rw [e9]
        unfold a_past a_slot
        rw [if_pos rfl, if_pos (by omega), ← hW k hk]
        exact congrArg _ (by omega)
      rw [er]
      exact ⟨hk_lf_row e3 ew, a_ok_row g2 ew⟩
    · have er : hk_ring ((nx' + 1) % 8 + 8 - 8 + i) = hk_ring (nx' + 8 - 8 + (i + 1)) := hk_ring_eq (by omega)
      have ew : ∀ k, k < 107 → S' 225 (107 * i + k) = S 225 (107 * (i + 1) + k) := fun k hk => by
        rw [e9]
        unfold a_past a_slot
        rw [if_pos rfl, if_neg (by omega)]
        dsimp only
        rw [if_pos (by omega)]
        exact congrArg _ (by omega)
      obtain ⟨o1, o2⟩ := old (i + 1) (by omega) (by omega)
      rw [er]
      exact ⟨hk_lf_row o1 ew, a_ok_row o2 ew⟩
  · have em : min (c' + 1) 8 = c' + 1 := Nat.min_eq_left (by omega)
    rw [em] at hi ⊢
    by_cases hic : i = c'
    · subst hic
      have er : hk_ring ((nx' + 1) % 8 + 8 - (i + 1) + i) = hk_ring nx' := hk_ring_eq (by omega)
      have ew : ∀ k, k < 107 → S' 225 (107 * i + k) = S 222 k := fun k hk => by
        rw [e9]
        unfold a_past a_slot
        rw [if_neg h8, if_pos (by omega), ← hW k hk]
        exact congrArg _ (by omega)
      rw [er]
      exact ⟨hk_lf_row e3 ew, a_ok_row g2 ew⟩
    · have er : hk_ring ((nx' + 1) % 8 + 8 - (c' + 1) + i) = hk_ring (nx' + 8 - c' + i) := hk_ring_eq (by omega)
      have ew : ∀ k, k < 107 → S' 225 (107 * i + k) = S 225 (107 * i + k) := fun k hk => by
        rw [e9]
        unfold a_past a_slot
        rw [if_neg h8, if_neg (by omega)]
      obtain ⟨o1, o2⟩ := old i (by omega) (by omega)
      rw [er]
      exact ⟨hk_lf_row o1 ew, a_ok_row o2 ew⟩
