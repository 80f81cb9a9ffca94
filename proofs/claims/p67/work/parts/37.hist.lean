/-! the past of the class; what holds between calls -/
def hk_ring (j : Nat) : Nat := 41 + 19 * (j % 8)
theorem hk_ringB : ∀ j, j < 8 → 41 + 19 * j ∈ hk_LB ∧ hk_ref hk_RT 40 j = some (41 + 19 * j) := by decide +kernel
theorem hk_ringL {E : hk_E} (hE : hk_Sh 221 E) (j : Nat) : hk_L E (hk_ring j) := hk_L_of hE (hk_ringB (j % 8) (Nat.mod_lt _ (by omega))).1
theorem hk_ringR {E : hk_E} (hE : hk_Sh 221 E) {j : Nat} (hj : j < 8) : E.2.2.2 40 j = some (hk_ring j) := by
  rw [hE.2.2 40 j (by decide), (hk_ringB j hj).2]
  unfold hk_ring
  rw [Nat.mod_eq_of_lt hj]
theorem hk_ring_lt (j : Nat) : 41 ≤ hk_ring j ∧ hk_ring j + 19 ≤ 193 := by
  unfold hk_ring
  have := Nat.mod_lt j (show 8 > 0 by omega)
  omega
theorem hk_ring_eq {i j : Nat} (h : i % 8 = j % 8) : hk_ring i = hk_ring j := by
  unfold hk_ring
  rw [h]
theorem hk_ring_ne {i j : Nat} (h : i % 8 ≠ j % 8) : hk_ring i + 19 ≤ hk_ring j ∨ hk_ring j + 19 ≤ hk_ring i := by
  unfold hk_ring
  omega
theorem hk_L1 {E : hk_E} (hE : hk_Sh 221 E) : hk_L E 1 := hk_L_of hE (by decide)
theorem hk_L20 {E : hk_E} (hE : hk_Sh 221 E) : hk_L E 20 := hk_L_of hE (by decide)
theorem pJ9_fm {E : hk_E} {F : Nat} {S : hk_S} {n : Nat} (hn : n ≤ 8) : mJ9_floorMod_7cf53 E F S (nI n) 8 = some (nI (n % 8), S) := by
  have h : n = 0 ∨ n = 1 ∨ n = 2 ∨ n = 3 ∨ n = 4 ∨ n = 5 ∨ n = 6 ∨ n = 7 ∨ n = 8 := by omega
  unfold mJ9_floorMod_7cf53
  rw [if_pos (by decide), hk_let_eq]
  rcases h with q | q | q | q | q | q | q | q | q <;> subst q <;> rw [if_pos (by decide)] <;> congr 2 <;> decide
theorem pJ9_fm1 {E : hk_E} {F : Nat} {S : hk_S} {n : Nat} (hn : n < 8) : mJ9_floorMod_7cf53 E F S (nI n - 1) 8 = some (nI ((n + 7) % 8), S) := by
  have h : n = 0 ∨ n = 1 ∨ n = 2 ∨ n = 3 ∨ n = 4 ∨ n = 5 ∨ n = 6 ∨ n = 7 := by omega
  unfold mJ9_floorMod_7cf53
  rw [if_pos (by decide), hk_let_eq]
  rcases h with q | q | q | q | q | q | q | q <;> subst q
  · rw [if_neg (by decide), if_neg (by decide)]
    congr 2
  all_goals
    rw [if_pos (by decide)]
    congr 2
theorem cX_remember {E : hk_E} {F c nx : Nat} {S : hk_S} {w : Nat → Int32} (hE : hk_Sh 221 E) (hF : 10 ≤ F) (hS : hk_lf S 1 w) (hnx : nx < 8) (hc : c ≤ 8) (h1 : S 39 1 = nI nx) (h2 : S 39 2 = nI c) : ∃ S', mX3_remember E F S 39 1 = some S' ∧ hk_lf S' (hk_ring nx) w ∧ S' 39 1 = nI ((nx + 1) % 8) ∧ S' 39 2 = nI (min (c + 1) 8) ∧ ∀ a, a ≠ 39 → (a < hk_ring nx ∨ hk_ring nx + 19 ≤ a) → S' a = S a := by
  have hr := hk_ring_lt nx
  obtain ⟨S1, p1, p2, p3⟩ := cX_become (F := F) (hF := hF) (hk_L1 hE) (hk_ringL hE nx) (by omega) hS.2.2.1
  have e39 : S1 39 = S 39 := p3 39 (by omega)
  have h81 : nx % 8 = nx := Nat.mod_eq_of_lt hnx
  have hu : mX3_remember E F S 39 1 = (if 8 ≤ nI c then some (hk_up S1 39 1 (nI ((nx + 1) % 8))) else some (hk_up (hk_up S1 39 1 (nI ((nx + 1) % 8))) 39 2 (nI (c + 1)))) := by
    unfold mX3_remember
    rw [rE_39_0 hE, Option.bind_some, if_pos (kE_40 hE), h1, pJ9_fm (by omega), Option.bind_some]
    dsimp only
    rw [h81, lE_40 hE, if_pos (hk_okI hnx (by omega)), nI_clamp (by omega), hk_ringR hE hnx, Option.bind_some, if_pos (hk_ringL hE nx).1, p1, Option.bind_some, e39, h1, nI_1, pJ9_fm (by omega), Option.bind_some, hk_let_eq]
    dsimp only
    rw [hk_up_eq, if_neg (show ¬ (2 : Nat) = 1 by decide), e39, h2, hk_let_eq, nI_1]
  by_cases h8 : 8 ≤ nI c
  · have hc8 : 8 ≤ c := (nI_leI (a := 8) (by omega) (by omega)).mp h8
    refine ⟨_, by rw [hu, if_pos h8], hk_lf_ext (hk_lf_cp hS p2) (fun a ha hb => hk_upne _ _ _ (by omega)), by rw [hk_up_eq, if_pos rfl], ?_, fun a ha hb => by rw [hk_upne _ _ _ ha]; exact p3 a hb⟩
    rw [hk_up_eq, if_neg (by omega), e39, h2, Nat.min_eq_right (by omega)]
    congr 1
    omega
  · have hc8 : c < 8 := by
      apply Classical.byContradiction
      intro q
      exact h8 ((nI_leI (a := 8) (by omega) (by omega)).mpr (by omega))
    refine ⟨_, by rw [hu, if_neg h8], hk_lf_ext (hk_lf_cp hS p2) (fun a ha hb => by rw [hk_upne _ _ _ (by omega), hk_upne _ _ _ (by omega)]), by rw [hk_up_eq, if_neg (by omega), hk_up_eq, if_pos rfl], ?_, fun a ha hb => by rw [hk_upne _ _ _ ha, hk_upne _ _ _ ha]; exact p3 a hb⟩
    rw [hk_up_eq, if_pos rfl, Nat.min_eq_left (by omega)]
