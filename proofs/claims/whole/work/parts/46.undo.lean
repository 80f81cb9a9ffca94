/-! undo and the snapshot -/
theorem a_from_lt {P w : Nat → Int32} {c i : Nat} (h : i < 107) : a_from P w c 0 i = P (107 * c + i) := by
  unfold a_from
  rw [if_pos (by omega)]
set_option maxHeartbeats 4000000 in
theorem mop_18_ok {F : Nat} {S : hk_S} {p1 p2 p3 p4 p5 : Int32} (hF : 2000000 ≤ F) (hI : hk_I S) : ∃ S', mop_18 F S p1 p2 p3 p4 p5 = some S' ∧ hk_I S' := by
  have hL := hk_L1 hE2
  obtain ⟨g1, g2, g3, g4, g5, g6, g7⟩ := id hI
  obtain ⟨c, nx, h1, h2, h3, h4, h5, h6⟩ := g3
  have e15 : (hk_up S 221 15 0) 221 5 = nI c := by rw [hk_up_eq, if_neg (by decide), h4]
  by_cases q : c = 0
  · subst q
    have hc : mX11_undo hk_E0 F S 0 = some (-1, S) := by
      unfold mX11_undo
      rw [rE_0_3 hE2, Option.bind_some, if_pos (kE_39 hE2), h3, if_neg (by decide)]
    have hm : mX12_undo hk_E0 F S 221 = some (-1, hk_up S 221 15 0) := by
      unfold mX12_undo
      rw [hk_let_eq, e15, if_neg (by decide)]
    exact ⟨_, k_mopP (m := fun S => mX12_undo hk_E0 F S 221) hc hm, hk_I_same hI (hk_same_thr _ _)⟩
  · obtain ⟨c', rfl⟩ : ∃ c', c = c' + 1 := ⟨c - 1, by omega⟩
    have hne : ¬ nI (c' + 1) = 0 := nI_ne0 (by omega) (by omega)
    have h81 : (nx + 7) % 8 < 8 := Nat.mod_lt _ (by omega)
    have hr := hk_ring_lt (nx + 7)
    have hrr : hk_ring ((nx + 7) % 8) = hk_ring (nx + 7) := hk_ring_eq (by omega)
    have ho := h6 c' (by omega)
    have er : hk_ring (nx + 8 - (c' + 1) + c') = hk_ring (nx + 7) := hk_ring_eq (by omega)
    rw [er] at ho
    have hring : hk_lf (hk_up S 39 1 (nI ((nx + 7) % 8))) (hk_ring (nx + 7)) (fun k => S 225 (107 * c' + k)) := hk_lf_ext ho.1 (fun a ha hb => hk_upne _ _ _ (by omega))
    obtain ⟨S1, p1', p2', p3'⟩ := cX_become (F := F) (S := hk_up S 39 1 (nI ((nx + 7) % 8))) (by omega) (hk_ringL hE2 (nx + 7)) hL (by omega) hring.2.2.1
    have hlf1 : hk_lf S1 1 (fun k => S 225 (107 * c' + k)) := hk_lf_cp hring p2'
    have e39 : S1 39 = (hk_up S 39 1 (nI ((nx + 7) % 8))) 39 := p3' 39 (by omega)
    have e392 : S1 39 2 = nI (c' + 1) := by rw [e39, hk_up_eq, if_neg (by decide), h3]
    have hc : mX11_undo hk_E0 F S 0 = some (nI c', hk_up S1 39 2 (nI c')) := by
      unfold mX11_undo mX3_takeBack
      rw [rE_0_3 hE2, Option.bind_some, if_pos (kE_39 hE2), h3, if_pos hne, rE_0_0 hE2, Option.bind_some, if_pos hL.1, h5, pJ9_fm1 h2, Option.bind_some]
      simp only [hk_let_eq]
      rw [rE_39_0 hE2, Option.bind_some, if_pos (kE_40 hE2), lE_40 hE2, hk_up_eq, if_pos rfl, if_pos (hk_okI h81 (by omega)), nI_clamp (by omega), hk_ringR hE2 h81, Option.bind_some, hrr, if_pos (hk_ringL hE2 (nx + 7)).1, p1', Option.bind_some, Option.bind_some, e392, nI_pred, hk_up_eq, if_pos rfl]
    have eS : ∀ a, 20 ≤ a → a ≠ 39 → (hk_up S1 39 2 (nI c')) a = S a := fun a ha hb => by rw [hk_upne _ _ _ hb, p3' a (by omega), hk_upne _ _ _ hb]
    have e221 : (hk_up S1 39 2 (nI c')) 221 = S 221 := eS 221 (by decide) (by decide)
    have hm : mX12_undo hk_E0 F (hk_up S1 39 2 (nI c')) 221 = some (nI c', va_up (hk_up (hk_up (hk_up S1 39 2 (nI c')) 221 15 0) 221 5 (nI c')) 222 (a_from (S 225) (S 222) c' 0)) := by
      have e5 : (hk_up (hk_up S1 39 2 (nI c')) 221 15 0) 221 5 = nI (c' + 1) := by rw [hk_up_eq, if_neg (by decide), e221, h4]
      unfold mX12_undo
      rw [hk_let_eq, e5, if_pos hne, hk_let_eq, nI_pred]
      refine (pX12_undo_26 (F := F) (c := c') hE1 (by omega) 107 0 F _ (by omega) (by omega) (by rw [hk_up_eq, if_pos rfl])).trans ?_
      rw [va_up_ne _ _ (by decide), hk_up_eq, if_pos rfl, hk_upne _ _ _ (show 225 ≠ 221 by decide), hk_upne _ _ _ (show 225 ≠ 221 by decide), hk_upne _ _ _ (show 222 ≠ 221 by decide), hk_upne _ _ _ (show 222 ≠ 221 by decide), eS 225 (by decide) (by decide), eS 222 (by decide) (by decide)]
    refine ⟨_, k_mopP (m := fun S => mX12_undo hk_E0 F S 221) hc hm, ?_⟩
    have f222 : (va_up (hk_up (hk_up (hk_up S1 39 2 (nI c')) 221 15 0) 221 5 (nI c')) 222 (a_from (S 225) (S 222) c' 0)) 222 = a_from (S 225) (S 222) c' 0 := va_up_self _ _ _
    have f0 : ∀ a, a ≠ 221 → a ≠ 222 → (va_up (hk_up (hk_up (hk_up S1 39 2 (nI c')) 221 15 0) 221 5 (nI c')) 222 (a_from (S 225) (S 222) c' 0)) a = (hk_up S1 39 2 (nI c')) a := fun a z1 z2 => by rw [va_up_ne _ _ z2, hk_upne _ _ _ z1, hk_upne _ _ _ z1]
    have f221 : ∀ k, k < 15 → (va_up (hk_up (hk_up (hk_up S1 39 2 (nI c')) 221 15 0) 221 5 (nI c')) 222 (a_from (S 225) (S 222) c' 0)) 221 k = if k = 5 then nI c' else S 221 k := fun k hk => by
      rw [va_up_ne _ _ (by decide), hk_up_eq]
      by_cases z : k = 5
      · rw [if_pos z, if_pos z]
      · rw [if_neg z, if_neg z, hk_up_eq, if_neg (by omega), e221]
    generalize (va_up (hk_up (hk_up (hk_up S1 39 2 (nI c')) 221 15 0) 221 5 (nI c')) 222 (a_from (S 225) (S 222) c' 0)) = N at *
    have fN : ∀ a, 20 ≤ a → a ≠ 39 → a ≠ 221 → a ≠ 222 → N a = S a := fun a z1 z2 z3 z4 => (f0 a z3 z4).trans (eS a z1 z2)
    have N0 : N 0 = S 0 := by rw [f0 0 (by decide) (by decide), hk_upne _ _ _ (by decide), p3' 0 (by omega), hk_upne _ _ _ (by decide)]
    refine ⟨?_, ?_, ⟨c', (nx + 7) % 8, by omega, h81, ?_, ?_, ?_, fun i hi => ?_⟩, hk_snap_ext g4 (by rw [N0]) (fun a z1 z2 => fN a (by omega) (by omega) (by omega) (by omega)) (by rw [f221 6 (by omega), if_neg (by decide)]) (fN 226 (by decide) (by decide) (by decide) (by decide)), hk_inp_ext g5 (by rw [fN 194 (by decide) (by decide) (by decide) (by decide)]) (fN 195 (by decide) (by decide) (by decide) (by decide)) (by rw [f221 9 (by omega), if_neg (by decide)]) (fN 227 (by decide) (by decide) (by decide) (by decide)), hk_err_ext g6 (by rw [fN 193 (by decide) (by decide) (by decide) (by decide)]) (by rw [fN 193 (by decide) (by decide) (by decide) (by decide)]) (by rw [f221 11 (by omega), if_neg (by decide)]) (by rw [f221 12 (by omega), if_neg (by decide)]), hk_rep_ext g7 (by rw [fN 218 (by decide) (by decide) (by decide) (by decide)]) (fN 219 (by decide) (by decide) (by decide) (by decide)) (by rw [f221 14 (by omega), if_neg (by decide)]) (fN 229 (by decide) (by decide) (by decide) (by decide))⟩
    · rw [f222]
      exact hk_lf_row (hk_lf_ext hlf1 (fun a z1 z2 => by rw [f0 a (by omega) (by omega), hk_upne _ _ _ (by omega)])) (fun i hi => a_from_lt hi)
    · rw [f222]
      exact a_ok_row ho.2 (fun i hi => a_from_lt hi)
    · rw [f0 39 (by decide) (by decide), hk_up_eq, if_pos rfl]
    · rw [f221 5 (by omega), if_pos rfl]
    · rw [f0 39 (by decide) (by decide), hk_up_eq, if_neg (by decide), e39, hk_up_eq, if_pos rfl]
    · have hi2 := h6 i (by omega)
      have er2 : hk_ring ((nx + 7) % 8 + 8 - c' + i) = hk_ring (nx + 8 - (c' + 1) + i) := hk_ring_eq (by omega)
      have hr2 := hk_ring_lt (nx + 8 - (c' + 1) + i)
      rw [er2, fN 225 (by decide) (by decide) (by decide) (by decide)]
      exact ⟨hk_lf_ext hi2.1 (fun a z1 z2 => fN a (by omega) (by omega) (by omega) (by omega)), hi2.2⟩
set_option maxHeartbeats 4000000 in
theorem mop_20_ok {F : Nat} {S : hk_S} {p1 p2 p3 p4 p5 : Int32} (hF : 2000000 ≤ F) (hI : hk_I S) : ∃ S', mop_20 F S p1 p2 p3 p4 p5 = some S' ∧ hk_I S' := by
  have hL := hk_L1 hE2
  obtain ⟨g1, g2, g3, g4, g5, g6, g7⟩ := id hI
  obtain ⟨S1, p1', p2', p3'⟩ := cX_become (F := F) (S := S) (by omega) hL (hk_L20 hE2) (by omega) g1.2.2.1
  have hlf : hk_lf S1 20 (S 222) := hk_lf_cp g1 p2'
  have e2 : S1 2 = S 2 := p3' 2 (by omega)
  have hc : mX11_saveSnapshot hk_E0 F S 0 = some (S 222 0, hk_up S1 0 2 1) := by
    unfold mX11_saveSnapshot
    rw [rE_0_1 hE2, Option.bind_some, if_pos (hk_L20 hE2).1, rE_0_0 hE2, Option.bind_some, if_pos hL.1, p1', Option.bind_some, hk_let_eq, hL.2.2.2.2.2.2.2.1, Option.bind_some, if_pos hL.2.1, hk_upne _ _ _ (by decide), e2, g1.1.1]
  have eS : ∀ a, a ≠ 0 → (a < 20 ∨ 39 ≤ a) → (hk_up S1 0 2 1) a = S a := fun a ha hb => by rw [hk_upne _ _ _ ha, p3' a hb]
  have hm : mX12_saveSnapshot hk_E0 F (hk_up S1 0 2 1) 221 = some (S 222 0, va_up (hk_up (hk_up (hk_up S1 0 2 1) 221 15 0) 221 6 1) 226 (a_cp (S 222) (S 226) 0)) := by
    unfold mX12_saveSnapshot
    rw [hk_let_eq, hk_let_eq]
    refine (pX12_saveSnapshot_12 (F := F) hE1 107 0 F _ (by omega) (by omega)).trans ?_
    rw [rE_221_0 hE1, Option.bind_some, if_pos (kE_222 hE1), lE_222 hE1, if_pos (show hk_ok 0 107 by decide), va_up_ne _ _ (by decide), hk_upne _ _ _ (show 222 ≠ 221 by decide), hk_upne _ _ _ (show 222 ≠ 221 by decide), hk_upne _ _ _ (show 226 ≠ 221 by decide), hk_upne _ _ _ (show 226 ≠ 221 by decide), eS 222 (by decide) (by omega), eS 226 (by decide) (by omega)]
  refine ⟨_, k_mopP (m := fun S => mX12_saveSnapshot hk_E0 F S 221) hc hm, ?_⟩
  have f226 : (va_up (hk_up (hk_up (hk_up S1 0 2 1) 221 15 0) 221 6 1) 226 (a_cp (S 222) (S 226) 0)) 226 = a_cp (S 222) (S 226) 0 := va_up_self _ _ _
  have f0 : ∀ a, a ≠ 221 → a ≠ 226 → (va_up (hk_up (hk_up (hk_up S1 0 2 1) 221 15 0) 221 6 1) 226 (a_cp (S 222) (S 226) 0)) a = (hk_up S1 0 2 1) a := fun a z1 z2 => by rw [va_up_ne _ _ z2, hk_upne _ _ _ z1, hk_upne _ _ _ z1]
  have f221 : ∀ k, k < 15 → (va_up (hk_up (hk_up (hk_up S1 0 2 1) 221 15 0) 221 6 1) 226 (a_cp (S 222) (S 226) 0)) 221 k = if k = 6 then 1 else S 221 k := fun k hk => by
    rw [va_up_ne _ _ (by decide), hk_up_eq]
    by_cases z : k = 6
    · rw [if_pos z, if_pos z]
    · rw [if_neg z, if_neg z, hk_up_eq, if_neg (by omega), eS 221 (by decide) (by omega)]
  generalize (va_up (hk_up (hk_up (hk_up S1 0 2 1) 221 15 0) 221 6 1) 226 (a_cp (S 222) (S 226) 0)) = N at *
  have fN : ∀ a, a ≠ 0 → (a < 20 ∨ 39 ≤ a) → a ≠ 221 → a ≠ 226 → N a = S a := fun a z1 z2 z3 z4 => (f0 a z3 z4).trans (eS a z1 z2)
  refine ⟨?_, ?_, hk_hist_ext g3 (fun a z1 z2 => fN a (by omega) (by omega) (by omega) (by omega)) (by rw [f221 5 (by omega), if_neg (by decide)]) (fN 225 (by decide) (by omega) (by decide) (by decide)), ⟨?_, Or.inr ⟨?_, ?_, ?_⟩⟩, hk_inp_ext g5 (by rw [fN 194 (by decide) (by omega) (by decide) (by decide)]) (fN 195 (by decide) (by omega) (by decide) (by decide)) (by rw [f221 9 (by omega), if_neg (by decide)]) (fN 227 (by decide) (by omega) (by decide) (by decide)), hk_err_ext g6 (by rw [fN 193 (by decide) (by omega) (by decide) (by decide)]) (by rw [fN 193 (by decide) (by omega) (by decide) (by decide)]) (by rw [f221 11 (by omega), if_neg (by decide)]) (by rw [f221 12 (by omega), if_neg (by decide)]), hk_rep_ext g7 (by rw [fN 218 (by decide) (by omega) (by decide) (by decide)]) (fN 219 (by decide) (by omega) (by decide) (by decide)) (by rw [f221 14 (by omega), if_neg (by decide)]) (fN 229 (by decide) (by omega) (by decide) (by decide))⟩
  · rw [fN 222 (by decide) (by omega) (by decide) (by decide)]
    exact hk_lf_ext g1 (fun a z1 z2 => fN a (by omega) (by omega) (by omega) (by omega))
  · rw [fN 222 (by decide) (by omega) (by decide) (by decide)]
    exact g2
  · rw [f0 0 (by decide) (by decide), hk_up_eq, if_pos rfl, f221 6 (by omega), if_pos rfl]
  · rw [f221 6 (by omega), if_pos rfl]
  · rw [f226]
    exact hk_lf_row (hk_lf_ext hlf (fun a z1 z2 => by rw [f0 a (by omega) (by omega), hk_upne _ _ _ (by omega)])) (fun i hi => a_cp_lt hi)
  · rw [f226]
    exact a_ok_row g2 (fun i hi => a_cp_lt hi)
set_option maxHeartbeats 4000000 in
theorem mop_21_ok {F : Nat} {S : hk_S} {p1 p2 p3 p4 p5 : Int32} (hF : 2000000 ≤ F) (hI : hk_I S) : ∃ S', mop_21 F S p1 p2 p3 p4 p5 = some S' ∧ hk_I S' := by
  have hL := hk_L1 hE2
  obtain ⟨g1, g2, g3, g4, g5, g6, g7⟩ := id hI
  obtain ⟨s1, s2⟩ := g4
  rcases s2 with s2 | ⟨s2, s3, s4⟩
  · have hc : mX11_restoreSnapshot hk_E0 F S 0 = some (.inl (3, S)) := by
      unfold mX11_restoreSnapshot
      rw [s1, s2, if_neg (by decide)]
    have hl : mL_restoreSnapshot hk_E0 F S 0 231 = some (1, S) := by
      unfold mL_restoreSnapshot
      rw [hc]
      rfl
    have hm : mX12_restoreSnapshot hk_E0 F S 221 = some (0, hk_up S 221 15 1) := by
      unfold mX12_restoreSnapshot
      rw [s2, if_neg (by decide), pX12_thr1, Option.bind_some]
      dsimp only
      rw [if_neg (by decide)]
    exact ⟨_, k_mop (m := fun S => mX12_restoreSnapshot hk_E0 F S 221) hl hm (by rw [hk_up_eq, if_pos rfl]) (fun q => absurd q (by decide)), hk_I_same hI (hk_same_thr _ _)⟩
  · obtain ⟨S1, p1', p2', p3'⟩ := cX_become (F := F) (S := S) (by omega) (hk_L20 hE2) hL (by omega) s3.2.2.1
    have hlf : hk_lf S1 1 (S 226) := hk_lf_cp s3 p2'
    have hc : mX11_restoreSnapshot hk_E0 F S 0 = some (.inr (S 226 0, hk_up S1 39 2 0)) := by
      unfold mX11_restoreSnapshot
      rw [s1, s2, if_pos (by decide), rE_0_0 hE2, Option.bind_some, if_pos hL.1, rE_0_1 hE2, Option.bind_some, if_pos (hk_L20 hE2).1, p1', Option.bind_some, rE_0_3 hE2, Option.bind_some, if_pos (kE_39 hE2), hk_let_eq, hL.2.2.2.2.2.2.2.1, Option.bind_some, if_pos hL.2.1, hk_upne _ _ _ (by decide), hlf.1.1]
    have hl : mL_restoreSnapshot hk_E0 F S 0 231 = some (0, hk_up (hk_up S1 39 2 0) 231 0 (S 226 0)) := by
      unfold mL_restoreSnapshot
      rw [hc]
      dsimp only
      rw [if_pos hk_ok231]
    have eS : ∀ a, 20 ≤ a → a ≠ 39 → a ≠ 231 → (hk_up (hk_up S1 39 2 0) 231 0 (S 226 0)) a = S a := fun a ha hb hd => by rw [hk_upne _ _ _ hd, hk_upne _ _ _ hb, p3' a (by omega)]
    have hm : mX12_restoreSnapshot hk_E0 F (hk_up (hk_up S1 39 2 0) 231 0 (S 226 0)) 221 = some (S 226 0, hk_up (va_up (hk_up (hk_up (hk_up S1 39 2 0) 231 0 (S 226 0)) 221 15 0) 222 (a_cp (S 226) (S 222) 0)) 221 5 0) := by
      unfold mX12_restoreSnapshot
      rw [eS 221 (by decide) (by decide) (by decide), s2, if_pos (by decide), pX12_thr0, Option.bind_some]
      dsimp only
      rw [if_pos rfl]
      refine (pX12_restoreSnapshot_23 (F := F) hE1 107 0 F _ (by omega) (by omega)).trans ?_
      rw [hk_let_eq, rE_221_0 hE1, Option.bind_some, if_pos (kE_222 hE1), lE_222 hE1, if_pos (show hk_ok 0 107 by decide), hk_upne _ _ _ (show 222 ≠ 221 by decide), va_up_self, hk_upne _ _ _ (show 222 ≠ 221 by decide), hk_upne _ _ _ (show 226 ≠ 221 by decide), eS 222 (by decide) (by decide) (by decide), eS 226 (by decide) (by decide) (by decide), a_cp_lt (by omega)]
    refine ⟨_, k_mop (m := fun S => mX12_restoreSnapshot hk_E0 F S 221) hl hm (by rw [hk_up_eq, if_neg (by decide), va_up_ne _ _ (by decide), hk_up_eq, if_pos rfl]) (fun _ => by rw [hk_upne _ _ _ (by decide), va_up_ne _ _ (by decide), hk_upne _ _ _ (by decide), hk_up_eq, if_pos rfl]), ?_⟩
    have f222 : (hk_up (va_up (hk_up (hk_up (hk_up S1 39 2 0) 231 0 (S 226 0)) 221 15 0) 222 (a_cp (S 226) (S 222) 0)) 221 5 0) 222 = a_cp (S 226) (S 222) 0 := by rw [hk_upne _ _ _ (by decide), va_up_self]
    have f0 : ∀ a, a ≠ 221 → a ≠ 222 → (hk_up (va_up (hk_up (hk_up (hk_up S1 39 2 0) 231 0 (S 226 0)) 221 15 0) 222 (a_cp (S 226) (S 222) 0)) 221 5 0) a = (hk_up (hk_up S1 39 2 0) 231 0 (S 226 0)) a := fun a z1 z2 => by rw [hk_upne _ _ _ z1, va_up_ne _ _ z2, hk_upne _ _ _ z1]
    have f221 : ∀ k, k < 15 → (hk_up (va_up (hk_up (hk_up (hk_up S1 39 2 0) 231 0 (S 226 0)) 221 15 0) 222 (a_cp (S 226) (S 222) 0)) 221 5 0) 221 k = if k = 5 then 0 else S 221 k := fun k hk => by
      rw [hk_up_eq]
      by_cases z : k = 5
      · rw [if_pos z, if_pos z]
      · rw [if_neg z, if_neg z, va_up_ne _ _ (by decide), hk_up_eq, if_neg (by omega), eS 221 (by decide) (by decide) (by decide)]
    generalize (hk_up (va_up (hk_up (hk_up (hk_up S1 39 2 0) 231 0 (S 226 0)) 221 15 0) 222 (a_cp (S 226) (S 222) 0)) 221 5 0) = N at *
    have fN : ∀ a, 20 ≤ a → a ≠ 39 → a ≠ 221 → a ≠ 222 → a ≠ 231 → N a = S a := fun a z1 z2 z3 z4 z5 => (f0 a z3 z4).trans (eS a z1 z2 z5)
    have N0 : N 0 = S 0 := by rw [f0 0 (by decide) (by decide), hk_upne _ _ _ (by decide), hk_upne _ _ _ (by decide), p3' 0 (by omega)]
    obtain ⟨c, nx, q1, q2, q3, q4, q5, q6⟩ := g3
    have w0 : ∀ i, i < 107 → N 222 i = S 226 i := fun i hi => by rw [f222]; exact a_cp_lt hi
    refine ⟨hk_lf_row (hk_lf_ext hlf (fun a z1 z2 => by rw [f0 a (by omega) (by omega), hk_upne _ _ _ (by omega), hk_upne _ _ _ (by omega)])) w0, a_ok_row s4 w0, ⟨0, nx, by omega, q2, ?_, ?_, ?_, fun i hi => absurd hi (by omega)⟩, ⟨?_, Or.inr ⟨?_, ?_, ?_⟩⟩, hk_inp_ext g5 (by rw [fN 194 (by decide) (by decide) (by decide) (by decide) (by decide)]) (fN 195 (by decide) (by decide) (by decide) (by decide) (by decide)) (by rw [f221 9 (by omega), if_neg (by decide)]) (fN 227 (by decide) (by decide) (by decide) (by decide) (by decide)), hk_err_ext g6 (by rw [fN 193 (by decide) (by decide) (by decide) (by decide) (by decide)]) (by rw [fN 193 (by decide) (by decide) (by decide) (by decide) (by decide)]) (by rw [f221 11 (by omega), if_neg (by decide)]) (by rw [f221 12 (by omega), if_neg (by decide)]), hk_rep_ext g7 (by rw [fN 218 (by decide) (by decide) (by decide) (by decide) (by decide)]) (fN 219 (by decide) (by decide) (by decide) (by decide) (by decide)) (by rw [f221 14 (by omega), if_neg (by decide)]) (fN 229 (by decide) (by decide) (by decide) (by decide) (by decide))⟩
    · rw [f0 39 (by decide) (by decide), hk_upne _ _ _ (by decide), hk_up_eq, if_pos rfl]
      rfl
    · rw [f221 5 (by omega), if_pos rfl]
      rfl
    · rw [f0 39 (by decide) (by decide), hk_upne _ _ _ (by decide), hk_up_eq, if_neg (by decide), p3' 39 (by omega)]
      exact q5
    · rw [N0, s1, f221 6 (by omega), if_neg (by decide)]
    · rw [f221 6 (by omega), if_neg (by decide), s2]
    · rw [fN 226 (by decide) (by decide) (by decide) (by decide) (by decide)]
      exact hk_lf_ext s3 (fun a z1 z2 => fN a (by omega) (by omega) (by omega) (by omega) (by omega))
    · rw [fN 226 (by decide) (by decide) (by decide) (by decide) (by decide)]
      exact s4
