/-! probes and the slowest speed -/
def a_read (w : Nat → Int32) (q : Nat) : Int32 := if a_t w (k_tn (a_p w q 0)) 3 = 0 then -1 else (if a_p w q 1 = 0 then a_t w (k_tn (a_p w q 0)) 4 else a_t w (k_tn (a_p w q 0)) 5) + a_p w q 2
theorem cX_reading {E : hk_E} {F b q : Nat} {S : hk_S} {w : Nat → Int32} (hL : hk_L E b) (hS : hk_lf S b w) (hw : a_ok w) (hq : q < 6) (hn : nI q < w 10) : mX5_readingOf E F S b (b + 13 + q) = some (a_read w q, S) := by
  obtain ⟨e0, e1, e2⟩ := hS.2.2.2 q hq hn
  have ht := k_tn_lt (a_p w q 0)
  have htr := hS.2.2.1 _ ht
  unfold mX5_readingOf a_read
  rw [e0, pX5_troughAt hL, Option.bind_some]
  dsimp only
  rw [if_pos (hk_L_t hL ht), pX10_hasLeaf htr (k_leaf0 hw ht), Option.bind_some]
  by_cases c : a_t w (k_tn (a_p w q 0)) 3 = 0
  · simp [c]
  · simp only [c, if_false, k_10]
    unfold mX10_moistureOf
    simp only [e1]
    by_cases c1 : a_p w q 1 = 0
    · simp only [c1, not_true_eq_false, if_false, if_true, Option.bind_some, e2, htr.2.2.2.2.2.2.1]
    · simp only [c1, not_false_eq_true, if_false, if_true, Option.bind_some, e2, htr.2.2.2.2.2.2.2.1]
theorem pX12_probe {E : hk_E} {F q k : Nat} {S : hk_S} (hE : hk_Sh 231 E) (hq : q < 6) (hk : k < 3) : mX12_probe E F S 221 (nI q) (nI k) = some (a_p (S 222) q k, S) := by
  unfold mX12_probe
  rw [k_idp q k, rE_221_0 hE, Option.bind_some, if_pos (kE_222 hE), lE_222 hE, if_pos (hk_okI (by omega) (by omega)), nI_clamp (by omega)]
  rfl
theorem pX12_read {E : hk_E} {F q : Nat} {S : hk_S} (hE : hk_Sh 231 E) (hw : a_ok (S 222)) (hq : q < 6) (hn : nI q < S 222 10) : mX12_read E F S 221 (nI q) = some (a_read (S 222) q, S) := by
  obtain ⟨⟨g0, g1⟩, g2, g3⟩ := hw.2.2.2.2.2.2.2.2.2.2.2.2 q hq hn
  obtain ⟨t, ht, et, hnt⟩ := k_trough hw g0 g1
  have p0 := pX12_probe (F := F) (S := S) (k := 0) hE hq (by omega)
  have p1 := pX12_probe (F := F) (S := S) (k := 1) hE hq (by omega)
  have p2 := pX12_probe (F := F) (S := S) (k := 2) hE hq (by omega)
  rw [show nI 0 = (0 : Int32) from rfl] at p0
  rw [show nI 1 = (1 : Int32) from rfl] at p1
  rw [show nI 2 = (2 : Int32) from rfl] at p2
  unfold mX12_read a_read
  rw [p0, Option.bind_some]
  dsimp only
  rw [et, k_tn_nI ht, pX12_isEmpty hE ht, Option.bind_some]
  by_cases c : a_t (S 222) t 3 = 0
  · simp [c]
  · simp only [c, if_false, if_true]
    rw [p1, Option.bind_some]
    dsimp only
    rcases g2 with z | z
    · rw [z, show (4 : Int32) + 0 = 4 from rfl, pX12_of_4 hE ht, Option.bind_some]
      dsimp only
      rw [p2, Option.bind_some, if_pos rfl]
    · rw [z, show (4 : Int32) + 1 = 5 from rfl, pX12_of_5 hE ht, Option.bind_some]
      dsimp only
      rw [p2, Option.bind_some, if_neg (by decide)]
set_option maxHeartbeats 4000000 in
theorem mop_46_ok {F : Nat} {S : hk_S} {p1 p2 p3 p4 p5 : Int32} (hF : 2000000 ≤ F) (hI : hk_I S) : ∃ S', mop_46 F S p1 p2 p3 p4 p5 = some S' ∧ hk_I S' := by
  have hL := hk_L1 hE2
  have hA := hI.1.1
  have hN := hI.1.2.1
  rcases k_exP (F := F) hI p1 with ⟨m, hm, rfl, hmn, hp⟩ | ⟨hnp, hp⟩
  · have hinp := k_in (by omega) hmn
    have g := hI.1.2.2.2 m hm hmn
    have hsame := hk_same_refl S
    have hc : mX11_reading hk_E0 F S 0 (nI m) = some (.inr (a_read (S 222) m, S)) := by
      unfold mX11_reading
      rw [rE_0_0 hE2, Option.bind_some, if_pos hL.1, hp, hk_xb_inr]
      dsimp only
      rw [if_pos (hk_L_p hL hm), cX_reading hL hI.1 hI.2.1 hm hmn, Option.bind_some]
    have hl : mL_reading hk_E0 F S 0 (nI m) 231 = some (0, hk_up S 231 0 (a_read (S 222) m)) := by
      unfold mL_reading
      rw [hc]
      dsimp only
      rw [if_pos hk_ok231]
    have hs1 : hk_same S (hk_up S 231 0 (a_read (S 222) m)) := hk_same_trans hsame (hk_same_out _ _)
    have eM : (hk_up S 231 0 (a_read (S 222) m)) 222 = S 222 := hs1.2.2.1
    have hw : a_ok ((hk_up S 231 0 (a_read (S 222) m)) 222) := by rw [eM]; exact hI.2.1
    have hs2 : hk_same S (hk_up (hk_up S 231 0 (a_read (S 222) m)) 221 15 0) := hk_same_trans hs1 (hk_same_thr _ _)
    have eM2 : (hk_up (hk_up S 231 0 (a_read (S 222) m)) 221 15 0) 222 = S 222 := hs2.2.2.1
    generalize hMM : hk_up (hk_up S 231 0 (a_read (S 222) m)) 221 15 0 = MM at *
    have e15 : MM 221 15 = 0 := by rw [← hMM, hk_up_eq, if_pos rfl]
    have e231 : MM 231 0 = a_read (S 222) m := by rw [← hMM, hk_upne _ _ _ (by decide), hk_up_eq, if_pos rfl]
    have hm : ∃ N, mX12_reading hk_E0 F (hk_up S 231 0 (a_read (S 222) m)) 221 (nI m) = some (a_read (S 222) m, N) ∧ hk_same MM N ∧ N 221 15 = MM 221 15 ∧ N 231 = MM 231 := by
      unfold mX12_reading
      simp only [pX12_in, k_10, not_false_eq_true, not_true_eq_false, if_true, if_false, Option.bind_some, pX12_thr0, pX12_thr1, pX12_thr00, pX12_thr01, pX12_thr1_, pX12_thr000, pX12_thr001, pX12_thr01_, pX12_thr1__, pX12_isProbe hE1 hw, eM, if_pos hinp, hMM]
      refine ⟨MM, ?_, hk_same_refl _, rfl, rfl⟩
      rw [pX12_read hE1 (by rw [eM2]; exact hI.2.1) hm (by rw [eM2]; exact hmn), Option.bind_some, eM2]
    obtain ⟨N, hm, n1, n2, n3⟩ := hm
    exact ⟨N, k_mop (m := fun S => mX12_reading hk_E0 F S 221 (nI m)) hl hm (n2.trans e15) (fun _ => by rw [n3]; exact e231), hk_I_same hI (hk_same_trans hs2 n1)⟩
  · have hc : mX11_reading hk_E0 F S 0 p1 = some (.inl (0, S)) := by
      unfold mX11_reading
      rw [rE_0_0 hE2, Option.bind_some, if_pos hL.1]
      rw [hp, hk_xb_inl]
    have hl : mL_reading hk_E0 F S 0 p1 231 = some (1, S) := by
      unfold mL_reading
      rw [hc]
      rfl
    have hm : mX12_reading hk_E0 F S 221 p1 = some (0, hk_up S 221 15 1) := by
      unfold mX12_reading
      simp only [pX12_in, k_10, not_false_eq_true, not_true_eq_false, if_true, if_false, Option.bind_some, pX12_thr0, pX12_thr1, pX12_thr00, pX12_thr01, pX12_thr1_, pX12_thr000, pX12_thr001, pX12_thr01_, pX12_thr1__, pX12_isProbe hE1 hI.2.1, if_neg hnp]
    exact ⟨_, k_mop (m := fun S => mX12_reading hk_E0 F S 221 p1) hl hm (by rw [hk_up_eq, if_pos rfl]) (fun q => absurd q (by decide)), hk_I_same hI (hk_same_thr _ _)⟩
set_option maxHeartbeats 4000000 in
theorem mop_47_ok {F : Nat} {S : hk_S} {p1 p2 p3 p4 p5 : Int32} (hF : 2000000 ≤ F) (hI : hk_I S) : ∃ S', mop_47 F S p1 p2 p3 p4 p5 = some S' ∧ hk_I S' := by
  have hL := hk_L1 hE2
  have hA := hI.1.1
  have hN := hI.1.2.1
  rcases k_exP (F := F) hI p1 with ⟨m, hm, rfl, hmn, hp⟩ | ⟨hnp, hp⟩
  · have hinp := k_in (by omega) hmn
    have g := hI.1.2.2.2 m hm hmn
    have hsame := hk_same_refl S
    have hc : mX11_probeTrough hk_E0 F S 0 (nI m) = some (.inr (a_p (S 222) m 0, S)) := by
      unfold mX11_probeTrough
      rw [hp, hk_xb_inr]
      dsimp only
      rw [if_pos (hk_L_p hL hm), g.1]
    have hl : mL_probeTrough hk_E0 F S 0 (nI m) 231 = some (0, hk_up S 231 0 (a_p (S 222) m 0)) := by
      unfold mL_probeTrough
      rw [hc]
      dsimp only
      rw [if_pos hk_ok231]
    have hs1 : hk_same S (hk_up S 231 0 (a_p (S 222) m 0)) := hk_same_trans hsame (hk_same_out _ _)
    have eM : (hk_up S 231 0 (a_p (S 222) m 0)) 222 = S 222 := hs1.2.2.1
    have hw : a_ok ((hk_up S 231 0 (a_p (S 222) m 0)) 222) := by rw [eM]; exact hI.2.1
    have hs2 : hk_same S (hk_up (hk_up S 231 0 (a_p (S 222) m 0)) 221 15 0) := hk_same_trans hs1 (hk_same_thr _ _)
    have eM2 : (hk_up (hk_up S 231 0 (a_p (S 222) m 0)) 221 15 0) 222 = S 222 := hs2.2.2.1
    generalize hMM : hk_up (hk_up S 231 0 (a_p (S 222) m 0)) 221 15 0 = MM at *
    have e15 : MM 221 15 = 0 := by rw [← hMM, hk_up_eq, if_pos rfl]
    have e231 : MM 231 0 = a_p (S 222) m 0 := by rw [← hMM, hk_upne _ _ _ (by decide), hk_up_eq, if_pos rfl]
    have hm : ∃ N, mX12_probeTrough hk_E0 F (hk_up S 231 0 (a_p (S 222) m 0)) 221 (nI m) = some (a_p (S 222) m 0, N) ∧ hk_same MM N ∧ N 221 15 = MM 221 15 ∧ N 231 = MM 231 := by
      unfold mX12_probeTrough
      simp only [pX12_in, k_10, not_false_eq_true, not_true_eq_false, if_true, if_false, Option.bind_some, pX12_thr0, pX12_thr1, pX12_thr00, pX12_thr01, pX12_thr1_, pX12_thr000, pX12_thr001, pX12_thr01_, pX12_thr1__, pX12_isProbe hE1 hw, eM, if_pos hinp, hMM]
      refine ⟨MM, ?_, hk_same_refl _, rfl, rfl⟩
      rw [show mX12_probe hk_E0 F MM 221 (nI m) 0 = some (a_p (MM 222) m 0, MM) from pX12_probe (k := 0) hE1 hm (by omega), Option.bind_some, eM2]
    obtain ⟨N, hm, n1, n2, n3⟩ := hm
    exact ⟨N, k_mop (m := fun S => mX12_probeTrough hk_E0 F S 221 (nI m)) hl hm (n2.trans e15) (fun _ => by rw [n3]; exact e231), hk_I_same hI (hk_same_trans hs2 n1)⟩
  · have hc : mX11_probeTrough hk_E0 F S 0 p1 = some (.inl (0, S)) := by
      unfold mX11_probeTrough
      rw [hp, hk_xb_inl]
    have hl : mL_probeTrough hk_E0 F S 0 p1 231 = some (1, S) := by
      unfold mL_probeTrough
      rw [hc]
      rfl
    have hm : mX12_probeTrough hk_E0 F S 221 p1 = some (0, hk_up S 221 15 1) := by
      unfold mX12_probeTrough
      simp only [pX12_in, k_10, not_false_eq_true, not_true_eq_false, if_true, if_false, Option.bind_some, pX12_thr0, pX12_thr1, pX12_thr00, pX12_thr01, pX12_thr1_, pX12_thr000, pX12_thr001, pX12_thr01_, pX12_thr1__, pX12_isProbe hE1 hI.2.1, if_neg hnp]
    exact ⟨_, k_mop (m := fun S => mX12_probeTrough hk_E0 F S 221 p1) hl hm (by rw [hk_up_eq, if_pos rfl]) (fun q => absurd q (by decide)), hk_I_same hI (hk_same_thr _ _)⟩
set_option maxHeartbeats 4000000 in
theorem mop_48_ok {F : Nat} {S : hk_S} {p1 p2 p3 p4 p5 : Int32} (hF : 2000000 ≤ F) (hI : hk_I S) : ∃ S', mop_48 F S p1 p2 p3 p4 p5 = some S' ∧ hk_I S' := by
  have hL := hk_L1 hE2
  have hA := hI.1.1
  have hN := hI.1.2.1
  rcases k_exP (F := F) hI p1 with ⟨m, hm, rfl, hmn, hp⟩ | ⟨hnp, hp⟩
  · have hinp := k_in (by omega) hmn
    have g := hI.1.2.2.2 m hm hmn
    have hsame := hk_same_refl S
    have hc : mX11_probeLayer hk_E0 F S 0 (nI m) = some (.inr (a_p (S 222) m 1, S)) := by
      unfold mX11_probeLayer
      rw [hp, hk_xb_inr]
      dsimp only
      rw [if_pos (hk_L_p hL hm), g.2.1]
    have hl : mL_probeLayer hk_E0 F S 0 (nI m) 231 = some (0, hk_up S 231 0 (a_p (S 222) m 1)) := by
      unfold mL_probeLayer
      rw [hc]
      dsimp only
      rw [if_pos hk_ok231]
    have hs1 : hk_same S (hk_up S 231 0 (a_p (S 222) m 1)) := hk_same_trans hsame (hk_same_out _ _)
    have eM : (hk_up S 231 0 (a_p (S 222) m 1)) 222 = S 222 := hs1.2.2.1
    have hw : a_ok ((hk_up S 231 0 (a_p (S 222) m 1)) 222) := by rw [eM]; exact hI.2.1
    have hs2 : hk_same S (hk_up (hk_up S 231 0 (a_p (S 222) m 1)) 221 15 0) := hk_same_trans hs1 (hk_same_thr _ _)
    have eM2 : (hk_up (hk_up S 231 0 (a_p (S 222) m 1)) 221 15 0) 222 = S 222 := hs2.2.2.1
    generalize hMM : hk_up (hk_up S 231 0 (a_p (S 222) m 1)) 221 15 0 = MM at *
    have e15 : MM 221 15 = 0 := by rw [← hMM, hk_up_eq, if_pos rfl]
    have e231 : MM 231 0 = a_p (S 222) m 1 := by rw [← hMM, hk_upne _ _ _ (by decide), hk_up_eq, if_pos rfl]
    have hm : ∃ N, mX12_probeLayer hk_E0 F (hk_up S 231 0 (a_p (S 222) m 1)) 221 (nI m) = some (a_p (S 222) m 1, N) ∧ hk_same MM N ∧ N 221 15 = MM 221 15 ∧ N 231 = MM 231 := by
      unfold mX12_probeLayer
      simp only [pX12_in, k_10, not_false_eq_true, not_true_eq_false, if_true, if_false, Option.bind_some, pX12_thr0, pX12_thr1, pX12_thr00, pX12_thr01, pX12_thr1_, pX12_thr000, pX12_thr001, pX12_thr01_, pX12_thr1__, pX12_isProbe hE1 hw, eM, if_pos hinp, hMM]
      refine ⟨MM, ?_, hk_same_refl _, rfl, rfl⟩
      rw [show mX12_probe hk_E0 F MM 221 (nI m) 1 = some (a_p (MM 222) m 1, MM) from pX12_probe (k := 1) hE1 hm (by omega), Option.bind_some, eM2]
    obtain ⟨N, hm, n1, n2, n3⟩ := hm
    exact ⟨N, k_mop (m := fun S => mX12_probeLayer hk_E0 F S 221 (nI m)) hl hm (n2.trans e15) (fun _ => by rw [n3]; exact e231), hk_I_same hI (hk_same_trans hs2 n1)⟩
  · have hc : mX11_probeLayer hk_E0 F S 0 p1 = some (.inl (0, S)) := by
      unfold mX11_probeLayer
      rw [hp, hk_xb_inl]
    have hl : mL_probeLayer hk_E0 F S 0 p1 231 = some (1, S) := by
      unfold mL_probeLayer
      rw [hc]
      rfl
    have hm : mX12_probeLayer hk_E0 F S 221 p1 = some (0, hk_up S 221 15 1) := by
      unfold mX12_probeLayer
      simp only [pX12_in, k_10, not_false_eq_true, not_true_eq_false, if_true, if_false, Option.bind_some, pX12_thr0, pX12_thr1, pX12_thr00, pX12_thr01, pX12_thr1_, pX12_thr000, pX12_thr001, pX12_thr01_, pX12_thr1__, pX12_isProbe hE1 hI.2.1, if_neg hnp]
    exact ⟨_, k_mop (m := fun S => mX12_probeLayer hk_E0 F S 221 p1) hl hm (by rw [hk_up_eq, if_pos rfl]) (fun q => absurd q (by decide)), hk_I_same hI (hk_same_thr _ _)⟩
set_option maxHeartbeats 4000000 in
theorem mop_37_ok {F : Nat} {S : hk_S} {p1 p2 p3 p4 p5 : Int32} (hF : 2000000 ≤ F) (hI : hk_I S) : ∃ S', mop_37 F S p1 p2 p3 p4 p5 = some S' ∧ hk_I S' := by
  have hL := hk_L1 hE2
  have hA := hI.1.1
  have hN := hI.1.2.1
  rcases k_exT (F := F) hI p1 with ⟨t, ht, rfl, hn, he⟩ | ⟨hno, he⟩
  · have htr := hI.1.2.2.1 t ht
    have h0 := k_leaf0 hI.2.1 ht
    have hok := hI.2.1.2.2.2.2.2.2.2.2.2.1 t ht
    have hin := k_in (by omega) hn
    by_cases q : 0 ≤ p2 ∧ p2 ≤ 1
    · have hy : p2 = 0 ∨ p2 = 1 := by grind
      have hsame := hk_same_refl S
      have hc : mX11_moisture hk_E0 F S 0 (nI t) p2 = some (.inr (if a_t (S 222) t 3 = 0 then -1 else if p2 = 0 then a_t (S 222) t 4 else a_t (S 222) t 5, S)) := by
        unfold mX11_moisture
        rw [he, hk_xb_inr]
        dsimp only
        rw [if_pos (hk_L_t hL ht), k_rq, if_pos q, hk_xb_inr, pX10_hasLeaf htr h0, Option.bind_some]
        by_cases ql : a_t (S 222) t 3 = 0
        · simp only [ql, if_true]
        · simp only [ql, if_false, k_10]
          unfold mX10_moistureOf
          rcases hy with z | z <;> subst z <;> simp [htr.2.2.2.2.2.2.1, htr.2.2.2.2.2.2.2.1]
      have hl : mL_moisture hk_E0 F S 0 (nI t) p2 231 = some (0, hk_up S 231 0 (if a_t (S 222) t 3 = 0 then -1 else if p2 = 0 then a_t (S 222) t 4 else a_t (S 222) t 5)) := by
        unfold mL_moisture
        rw [hc]
        dsimp only
        rw [if_pos hk_ok231]
      have hs1 : hk_same S (hk_up S 231 0 (if a_t (S 222) t 3 = 0 then -1 else if p2 = 0 then a_t (S 222) t 4 else a_t (S 222) t 5)) := hk_same_trans hsame (hk_same_out _ _)
      have eM : (hk_up S 231 0 (if a_t (S 222) t 3 = 0 then -1 else if p2 = 0 then a_t (S 222) t 4 else a_t (S 222) t 5)) 222 = S 222 := hs1.2.2.1
      have hw : a_ok ((hk_up S 231 0 (if a_t (S 222) t 3 = 0 then -1 else if p2 = 0 then a_t (S 222) t 4 else a_t (S 222) t 5)) 222) := by rw [eM]; exact hI.2.1
      have hs2 : hk_same S (hk_up (hk_up S 231 0 (if a_t (S 222) t 3 = 0 then -1 else if p2 = 0 then a_t (S 222) t 4 else a_t (S 222) t 5)) 221 15 0) := hk_same_trans hs1 (hk_same_thr _ _)
      have eM2 : (hk_up (hk_up S 231 0 (if a_t (S 222) t 3 = 0 then -1 else if p2 = 0 then a_t (S 222) t 4 else a_t (S 222) t 5)) 221 15 0) 222 = S 222 := hs2.2.2.1
      generalize hMM : hk_up (hk_up S 231 0 (if a_t (S 222) t 3 = 0 then -1 else if p2 = 0 then a_t (S 222) t 4 else a_t (S 222) t 5)) 221 15 0 = MM at *
      have e15 : MM 221 15 = 0 := by rw [← hMM, hk_up_eq, if_pos rfl]
      have e231 : MM 231 0 = if a_t (S 222) t 3 = 0 then -1 else if p2 = 0 then a_t (S 222) t 4 else a_t (S 222) t 5 := by rw [← hMM, hk_upne _ _ _ (by decide), hk_up_eq, if_pos rfl]
      have hm : ∃ N, mX12_moisture hk_E0 F (hk_up S 231 0 (if a_t (S 222) t 3 = 0 then -1 else if p2 = 0 then a_t (S 222) t 4 else a_t (S 222) t 5)) 221 (nI t) p2 = some (if a_t (S 222) t 3 = 0 then -1 else if p2 = 0 then a_t (S 222) t 4 else a_t (S 222) t 5, N) ∧ hk_same MM N ∧ N 221 15 = MM 221 15 ∧ N 231 = MM 231 := by
        unfold mX12_moisture
        simp only [pX12_in, k_10, not_false_eq_true, not_true_eq_false, if_true, if_false, Option.bind_some, pX12_thr0, pX12_thr1, pX12_thr00, pX12_thr01, pX12_thr1_, pX12_thr000, pX12_thr001, pX12_thr01_, pX12_thr1__, pX12_isTrough hE1 hw, eM, if_pos hin, pX12_isLayer, if_pos q, hMM]
        refine ⟨MM, ?_, hk_same_refl _, rfl, rfl⟩
        rw [pX12_isEmpty hE1 ht, eM2, Option.bind_some]
        by_cases ql : a_t (S 222) t 3 = 0
        · simp only [ql, if_true, k_10, if_false]
        · simp only [ql, if_false, if_true]
          rcases hy with z | z <;> subst z
          · rw [show (4 : Int32) + 0 = 4 from rfl, pX12_of_4 hE1 ht, Option.bind_some, eM2, if_pos rfl]
          · rw [show (4 : Int32) + 1 = 5 from rfl, pX12_of_5 hE1 ht, Option.bind_some, eM2, if_neg (by decide)]
      obtain ⟨N, hm, n1, n2, n3⟩ := hm
      exact ⟨N, k_mop (m := fun S => mX12_moisture hk_E0 F S 221 (nI t) p2) hl hm (n2.trans e15) (fun _ => by rw [n3]; exact e231), hk_I_same hI (hk_same_trans hs2 n1)⟩
    · have hc : mX11_moisture hk_E0 F S 0 (nI t) p2 = some (.inl (1, S)) := by
        unfold mX11_moisture
        rw [he, hk_xb_inr]
        dsimp only
        rw [if_pos (hk_L_t hL ht), k_rq, if_neg q, hk_xb_inl]
      have hl : mL_moisture hk_E0 F S 0 (nI t) p2 231 = some (2, S) := by
        unfold mL_moisture
        rw [hc]
        rfl
      have hm : mX12_moisture hk_E0 F S 221 (nI t) p2 = some (0, hk_up S 221 15 2) := by
        unfold mX12_moisture
        simp only [pX12_in, k_10, not_false_eq_true, not_true_eq_false, if_true, if_false, Option.bind_some, pX12_thr0, pX12_thr1, pX12_thr00, pX12_thr01, pX12_thr1_, pX12_thr000, pX12_thr001, pX12_thr01_, pX12_thr1__, pX12_isTrough hE1 hI.2.1, if_pos hin, pX12_isLayer, if_neg q]
      exact ⟨_, k_mop (m := fun S => mX12_moisture hk_E0 F S 221 (nI t) p2) hl hm (by rw [hk_up_eq, if_pos rfl]) (fun q => absurd q (by decide)), hk_I_same hI (hk_same_thr _ _)⟩
  · have hc : mX11_moisture hk_E0 F S 0 p1 p2 = some (.inl (0, S)) := by
      unfold mX11_moisture
      rw [he, hk_xb_inl]
    have hl : mL_moisture hk_E0 F S 0 p1 p2 231 = some (1, S) := by
      unfold mL_moisture
      rw [hc]
      rfl
    have hm : mX12_moisture hk_E0 F S 221 p1 p2 = some (0, hk_up S 221 15 1) := by
      unfold mX12_moisture
      by_cases q : 0 ≤ p2 ∧ p2 ≤ 1 <;> simp only [pX12_in, k_10, not_false_eq_true, not_true_eq_false, if_true, if_false, Option.bind_some, pX12_thr0, pX12_thr1, pX12_thr00, pX12_thr01, pX12_thr1_, pX12_thr000, pX12_thr001, pX12_thr01_, pX12_thr1__, pX12_isTrough hE1 hI.2.1, if_neg hno, pX12_isLayer, q, and_self]
    exact ⟨_, k_mop (m := fun S => mX12_moisture hk_E0 F S 221 p1 p2) hl hm (by rw [hk_up_eq, if_pos rfl]) (fun q => absurd q (by decide)), hk_I_same hI (hk_same_thr _ _)⟩
theorem k_xor0 {x y : Int32} (hx : 0 ≤ x) (hy : 0 ≤ y) : 0 ≤ x ^^^ y := by
  rw [Int32.le_iff_toBitVec_sle] at hx hy ⊢
  have h1 := BitVec.zero_sle_iff_msb_eq_false.mp hx
  have h2 := BitVec.zero_sle_iff_msb_eq_false.mp hy
  refine BitVec.zero_sle_iff_msb_eq_false.mpr ?_
  show (x.toBitVec ^^^ y.toBitVec).msb = false
  rw [BitVec.msb_xor, h1, h2]
  rfl
/-- sum and number of the readings in a trough, of the probes below n -/
def k_ms (w : Nat → Int32) (t : Nat) : Nat → Int32 × Int32
  | 0 => (0, 0)
  | n + 1 => if a_p w n 0 = nI t then ((k_ms w t n).1 + a_read w n, (k_ms w t n).2 + 1) else k_ms w t n
theorem k_ms_ok {w : Nat → Int32} (h : a_ok w) {t m : Nat} (ht : t < 8) (hm6 : m ≤ 6) (hm : w 10 = nI m) (ql : ¬ a_t w t 3 = 0) : ∀ n, n ≤ m → ∃ a b : Nat, a ≤ 1000 * n ∧ b ≤ n ∧ k_ms w t n = (nI a, nI b) := by
  intro n
  induction n with
  | zero => intro hn; exact ⟨0, 0, by omega, by omega, rfl⟩
  | succ n ih =>
    intro hn
    obtain ⟨a, b, h1, h2, h3⟩ := ih (by omega)
    rw [k_ms]
    by_cases c : a_p w n 0 = nI t
    · rw [if_pos c, h3]
      obtain ⟨-, g2, g3, g4⟩ := h.2.2.2.2.2.2.2.2.2.2.2.2 n (by omega) (by rw [hm]; exact nI_lt (by omega) (by omega))
      obtain ⟨k2, cc, s, bb, ke, kl⟩ := h.2.2.2.2.2.2.2.2.2.1 t ht
      obtain ⟨⟨l0, l1⟩, ⟨u0, u1⟩, -⟩ := kl (by have := bb.1; generalize a_t w t 3 = x at *; grind)
      have hr : 0 ≤ a_read w n ∧ a_read w n ≤ 1000 := by
        unfold a_read
        rw [c, k_tn_nI ht, if_neg ql]
        by_cases c1 : a_p w n 1 = 0
        · rw [if_pos c1]
          generalize a_t w t 4 = x at *
          generalize a_p w n 2 = y at *
          constructor <;> grind
        · rw [if_neg c1]
          generalize a_t w t 5 = x at *
          generalize a_p w n 2 = y at *
          constructor <;> grind
      obtain ⟨r, hr1, er⟩ := nI_of2 (x := a_read w n) (M := 1000) (n := 1000) (by decide) (by have := hr.1; generalize a_read w n = x at *; grind) hr.2
      exact ⟨a + r, b + 1, by omega, by omega, by rw [er, nI_add, nI_1]⟩
    · rw [if_neg c]
      exact ⟨a, b, by omega, by omega, h3⟩
theorem cX_mean_7 {E : hk_E} {F b t m : Nat} {S : hk_S} {w : Nat → Int32} {K : hk_S → Int32 → Int32 → Int32 → Option (Int32 × hk_S)} (hL : hk_L E b) (hS : hk_lf S b w) (hw : a_ok w) (hm6 : m ≤ 6) (hm : w 10 = nI m) : ∀ (d z f : Nat), z + d = m → d < f → mX5_meanReadingOf_7 E F b (nI t) K f S (k_ms w t z).1 (k_ms w t z).2 (nI z) = K S (k_ms w t m).1 (k_ms w t m).2 (nI m) := by
  intro d
  induction d with
  | zero =>
    intro z f h1 h2
    obtain ⟨f, rfl⟩ : ∃ g, f = g + 1 := ⟨f - 1, by omega⟩
    have hz : z = m := by omega
    subst hz
    rw [mX5_meanReadingOf_7]
    dsimp only
    rw [hS.2.1.2.1, hm, if_pos (nI_le (by omega) (by omega))]
  | succ d ih =>
    intro z f h1 h2
    obtain ⟨f, rfl⟩ : ∃ g, f = g + 1 := ⟨f - 1, by omega⟩
    have hz : z < 6 := by omega
    have hzn : nI z < w 10 := by rw [hm]; exact nI_lt (by omega) (by omega)
    obtain ⟨-, -, -, -, ⟨k4, l4⟩, -, k6, ⟨-, -, r3, -⟩⟩ := id hL
    have hi := ih (z + 1) f (by omega) (by omega)
    rw [mX5_meanReadingOf_7]
    dsimp only
    rw [hS.2.1.2.1, hm, if_neg (nI_ge (by omega) (by omega)), if_neg (show ¬ (6 : Int32) ≤ nI z from nI_ge (a := z) (b := 6) (by omega) (by omega)), r3, Option.bind_some, if_pos k4, l4, if_pos (hk_okI hz (by omega)), show E.2.2.2 (b + 4) (nI z).toNatClampNeg = some (b + 13 + z) from (by rw [nI_clamp (by omega)]; exact (k6 z hz).2), Option.bind_some, if_pos (k6 z hz).1]
    simp only [(hS.2.2.2 z hz hzn).1, hk_let_eq, nI_1]
    by_cases c : a_p w z 0 = nI t
    · rw [k_ms, if_pos c] at hi
      rw [if_neg (fun q => q c), if_pos (hk_okI hz (by omega)), cX_reading hL hS hw hz hzn, Option.bind_some]
      exact hi
    · rw [k_ms, if_neg c] at hi
      rw [if_pos c]
      exact hi
theorem pX12_mean_29 {E : hk_E} {F t m : Nat} {S : hk_S} {K : hk_S → Int32 → Int32 → Int32 → Option (Int32 × hk_S)} (hE : hk_Sh 231 E) (hw : a_ok (S 222)) (hm6 : m ≤ 6) (hm : S 222 10 = nI m) : ∀ (d z f : Nat), z + d = m → d < f → mX12_meanReading_29 E F 221 (nI t) K f S (k_ms (S 222) t z).1 (k_ms (S 222) t z).2 (nI z) = K S (k_ms (S 222) t m).1 (k_ms (S 222) t m).2 (nI m) := by
  intro d
  induction d with
  | zero =>
    intro z f h1 h2
    obtain ⟨f, rfl⟩ : ∃ g, f = g + 1 := ⟨f - 1, by omega⟩
    have hz : z = m := by omega
    subst hz
    rw [mX12_meanReading_29]
    dsimp only
    rw [rE_221_0 hE, Option.bind_some, if_pos (kE_222 hE), lE_222 hE, if_pos (show hk_ok 10 107 by decide), hm, if_pos (nI_le (by omega) (by omega))]
  | succ d ih =>
    intro z f h1 h2
    obtain ⟨f, rfl⟩ : ∃ g, f = g + 1 := ⟨f - 1, by omega⟩
    have hz : z < 6 := by omega
    have hzn : nI z < S 222 10 := by rw [hm]; exact nI_lt (by omega) (by omega)
    have hi := ih (z + 1) f (by omega) (by omega)
    rw [mX12_meanReading_29]
    dsimp only
    rw [rE_221_0 hE, Option.bind_some, if_pos (kE_222 hE), lE_222 hE, if_pos (show hk_ok 10 107 by decide), hm, if_neg (nI_ge (by omega) (by omega)), show mX12_probe E F S 221 (nI z) 0 = some (a_p (S 222) z 0, S) from pX12_probe (k := 0) hE hz (by omega), Option.bind_some]
    simp only [hk_let_eq, nI_1]
    by_cases c : a_p (S 222) z 0 = nI t
    · rw [k_ms, if_pos c] at hi
      rw [if_neg (fun q => q c), pX12_read hE hw hz hzn, Option.bind_some]
      exact hi
    · rw [k_ms, if_neg c] at hi
      rw [if_pos c]
      exact hi
set_option maxHeartbeats 4000000 in
theorem mop_49_ok {F : Nat} {S : hk_S} {p1 p2 p3 p4 p5 : Int32} (hF : 2000000 ≤ F) (hI : hk_I S) : ∃ S', mop_49 F S p1 p2 p3 p4 p5 = some S' ∧ hk_I S' := by
  have hL := hk_L1 hE2
  have hA := hI.1.1
  have hN := hI.1.2.1
  rcases k_exT (F := F) hI p1 with ⟨t, ht, rfl, hn, he⟩ | ⟨hno, he⟩
  · have htr := hI.1.2.2.1 t ht
    have h0 := k_leaf0 hI.2.1 ht
    have hok := hI.2.1.2.2.2.2.2.2.2.2.2.1 t ht
    have hin := k_in (by omega) hn
    have h10 := hI.2.1.2.2.2.2.2.2.2.2.1
    obtain ⟨m, hm6, hm⟩ := nI_of2 (x := S 222 10) (M := 6) (n := 6) (by decide) (by have := h10.1; grind) h10.2
    have hsame := hk_same_refl S
    have hlp := fun K => cX_mean_7 (E := hk_E0) (F := F) (t := t) (K := K) hL hI.1 hI.2.1 hm6 hm m 0 F (by omega) (by omega)
    have hdv : ¬ a_t (S 222) t 3 = 0 → ¬ (k_ms (S 222) t m).2 = 0 → mJ9_floorDiv_7cf53 hk_E0 F S (k_ms (S 222) t m).1 (k_ms (S 222) t m).2 = some ((k_ms (S 222) t m).1 / (k_ms (S 222) t m).2, S) := fun ql hne => by
      obtain ⟨a, b, h1, h2, h3⟩ := k_ms_ok hI.2.1 ht hm6 hm ql m (by omega)
      unfold mJ9_floorDiv_7cf53
      rw [if_pos hne, hk_let_eq, if_pos]
      rw [h3]
      exact k_xor0 (nI_pos' (by omega)) (nI_pos' (by omega))
    have hc : mX11_meanReading hk_E0 F S 0 (nI t) = some (.inr (if a_t (S 222) t 3 = 0 then -1 else if (k_ms (S 222) t m).2 = 0 then -1 else (k_ms (S 222) t m).1 / (k_ms (S 222) t m).2, S)) := by
      unfold mX11_meanReading
      rw [he, hk_xb_inr]
      dsimp only
      rw [if_pos (hk_L_t hL ht), rE_0_0 hE2, Option.bind_some, if_pos hL.1]
      unfold mX5_meanReadingOf
      have hh := hlp (fun S16 z17 z18 z19 => if z18 = 0 then (some ((-1), S16)) else ((mX5_troughAt hk_E0 F S16 1 (nI t)).bind (fun r21 => if hk_E0.2.1 r21.1 = 8 then ((mX10_hasLeaf hk_E0 F r21.2 r21.1).bind (fun r23 => if ¬ r23.1 = 0 then ((mJ9_floorDiv_7cf53 hk_E0 F r23.2 z17 z18).bind (fun r25 => some (r25.1, r25.2))) else (some ((-1), r23.2)))) else none)))
      erw [hh]
      by_cases c2 : (k_ms (S 222) t m).2 = 0
      · rw [if_pos c2, Option.bind_some, if_pos c2]
        by_cases ql : a_t (S 222) t 3 = 0 <;> simp [ql]
      · rw [if_neg c2, if_neg c2, pX5_troughAt hL, Option.bind_some]
        dsimp only
        rw [k_tn_nI ht, if_pos (hk_L_t hL ht), pX10_hasLeaf htr h0, Option.bind_some]
        by_cases ql : a_t (S 222) t 3 = 0
        · rw [if_pos ql, if_pos ql]
          dsimp only
          rw [if_neg (by decide), Option.bind_some]
        · rw [if_neg ql, if_neg ql]
          dsimp only
          rw [if_pos (by decide), hdv ql c2, Option.bind_some, Option.bind_some]
    have hl : mL_meanReading hk_E0 F S 0 (nI t) 231 = some (0, hk_up S 231 0 (if a_t (S 222) t 3 = 0 then -1 else if (k_ms (S 222) t m).2 = 0 then -1 else (k_ms (S 222) t m).1 / (k_ms (S 222) t m).2)) := by
      unfold mL_meanReading
      rw [hc]
      dsimp only
      rw [if_pos hk_ok231]
    have hs1 : hk_same S (hk_up S 231 0 (if a_t (S 222) t 3 = 0 then -1 else if (k_ms (S 222) t m).2 = 0 then -1 else (k_ms (S 222) t m).1 / (k_ms (S 222) t m).2)) := hk_same_trans hsame (hk_same_out _ _)
    have eM : (hk_up S 231 0 (if a_t (S 222) t 3 = 0 then -1 else if (k_ms (S 222) t m).2 = 0 then -1 else (k_ms (S 222) t m).1 / (k_ms (S 222) t m).2)) 222 = S 222 := hs1.2.2.1
    have hw : a_ok ((hk_up S 231 0 (if a_t (S 222) t 3 = 0 then -1 else if (k_ms (S 222) t m).2 = 0 then -1 else (k_ms (S 222) t m).1 / (k_ms (S 222) t m).2)) 222) := by rw [eM]; exact hI.2.1
    have hs2 : hk_same S (hk_up (hk_up S 231 0 (if a_t (S 222) t 3 = 0 then -1 else if (k_ms (S 222) t m).2 = 0 then -1 else (k_ms (S 222) t m).1 / (k_ms (S 222) t m).2)) 221 15 0) := hk_same_trans hs1 (hk_same_thr _ _)
    have eM2 : (hk_up (hk_up S 231 0 (if a_t (S 222) t 3 = 0 then -1 else if (k_ms (S 222) t m).2 = 0 then -1 else (k_ms (S 222) t m).1 / (k_ms (S 222) t m).2)) 221 15 0) 222 = S 222 := hs2.2.2.1
    generalize hMM : hk_up (hk_up S 231 0 (if a_t (S 222) t 3 = 0 then -1 else if (k_ms (S 222) t m).2 = 0 then -1 else (k_ms (S 222) t m).1 / (k_ms (S 222) t m).2)) 221 15 0 = MM at *
    have e15 : MM 221 15 = 0 := by rw [← hMM, hk_up_eq, if_pos rfl]
    have e231 : MM 231 0 = if a_t (S 222) t 3 = 0 then -1 else if (k_ms (S 222) t m).2 = 0 then -1 else (k_ms (S 222) t m).1 / (k_ms (S 222) t m).2 := by rw [← hMM, hk_upne _ _ _ (by decide), hk_up_eq, if_pos rfl]
    have hm : ∃ N, mX12_meanReading hk_E0 F (hk_up S 231 0 (if a_t (S 222) t 3 = 0 then -1 else if (k_ms (S 222) t m).2 = 0 then -1 else (k_ms (S 222) t m).1 / (k_ms (S 222) t m).2)) 221 (nI t) = some (if a_t (S 222) t 3 = 0 then -1 else if (k_ms (S 222) t m).2 = 0 then -1 else (k_ms (S 222) t m).1 / (k_ms (S 222) t m).2, N) ∧ hk_same MM N ∧ N 221 15 = MM 221 15 ∧ N 231 = MM 231 := by
      unfold mX12_meanReading
      simp only [pX12_in, k_10, not_false_eq_true, not_true_eq_false, if_true, if_false, Option.bind_some, pX12_thr0, pX12_thr1, pX12_thr00, pX12_thr01, pX12_thr1_, pX12_thr000, pX12_thr001, pX12_thr01_, pX12_thr1__, pX12_isTrough hE1 hw, eM, if_pos hin, hMM]
      refine ⟨MM, ?_, hk_same_refl _, rfl, rfl⟩
      have hh := pX12_mean_29 (E := hk_E0) (F := F) (t := t) (S := MM) (K := fun S18 z19 z20 z21 => (mX12_isEmpty hk_E0 F S18 221 (nI t)).bind (fun r22 => if ¬ r22.1 = 0 then (some ((-1), r22.2)) else (if ¬ z20 = 0 then (if ¬ z20 = 0 then (some ((z19 / z20), r22.2)) else none) else (some ((-1), r22.2))))) hE1 (by rw [eM2]; exact hI.2.1) hm6 (by rw [eM2]; exact hm) m 0 F (by omega) (by omega)
      refine hh.trans ?_
      rw [pX12_isEmpty hE1 ht, eM2, Option.bind_some]
      by_cases ql : a_t (S 222) t 3 = 0
      · simp only [ql, if_true, k_10, not_false_eq_true]
      · simp only [ql, if_false, not_true_eq_false]
        by_cases c2 : (k_ms (S 222) t m).2 = 0
        · rw [if_neg (fun z => z c2), if_pos c2]
        · rw [if_pos c2, if_pos c2, if_neg c2]
    obtain ⟨N, hm, n1, n2, n3⟩ := hm
    exact ⟨N, k_mop (m := fun S => mX12_meanReading hk_E0 F S 221 (nI t)) hl hm (n2.trans e15) (fun _ => by rw [n3]; exact e231), hk_I_same hI (hk_same_trans hs2 n1)⟩
  · have hc : mX11_meanReading hk_E0 F S 0 p1 = some (.inl (0, S)) := by
      unfold mX11_meanReading
      rw [he, hk_xb_inl]
    have hl : mL_meanReading hk_E0 F S 0 p1 231 = some (1, S) := by
      unfold mL_meanReading
      rw [hc]
      rfl
    have hm : mX12_meanReading hk_E0 F S 221 p1 = some (0, hk_up S 221 15 1) := by
      unfold mX12_meanReading
      simp only [pX12_in, k_10, not_false_eq_true, not_true_eq_false, if_true, if_false, Option.bind_some, pX12_thr0, pX12_thr1, pX12_thr00, pX12_thr01, pX12_thr1_, pX12_thr000, pX12_thr001, pX12_thr01_, pX12_thr1__, pX12_isTrough hE1 hI.2.1, if_neg hno]
    exact ⟨_, k_mop (m := fun S => mX12_meanReading hk_E0 F S 221 p1) hl hm (by rw [hk_up_eq, if_pos rfl]) (fun q => absurd q (by decide)), hk_I_same hI (hk_same_thr _ _)⟩
/-- the first speed from z on -/
def k_sp (P : Nat → Bool) : Nat → Nat → Int32
  | 0, _ => -1
  | d + 1, z => if P z = true then nI z else k_sp P d (z + 1)
theorem k_sp_none {P : Nat → Bool} (h : ∀ z, P z = false) : ∀ d z, k_sp P d z = -1 := by
  intro d
  induction d with
  | zero => intro z; rfl
  | succ d ih => intro z; rw [k_sp, h, if_neg (by decide), ih]
theorem t_spd_ok {v : Nat → Int32} (h : t_ok v) {z : Nat} (hz : z ≤ 5) : t_ok (upd v 1 (nI z)) := by
  obtain ⟨k2, c, s', b, ke, kl⟩ := h
  unfold t_ok
  simp only [upd_at]
  simp
  exact ⟨k2, c, ⟨nI_pos' (by omega), (nI_leI (b := 5) (by omega) (by omega)).mpr hz⟩, b, ke, kl⟩
theorem cX_slow_26 {F t n : Nat} {w v : Nat → Int32} {x1 : Int32} (hF : 2000 ≤ F) (ht : t < 8) (hn : n ≤ 200) (hw : a_ok w) (hv : t_ok v) : ∀ (d z f : Nat) (S : hk_S), z + d = 6 → d < f → hk_air S 1 w → hk_num S 1 w → hk_tr (S (1 + 5 + t)) v → ∃ S', mX11_slowestSpeed_26 hk_E0 F 0 x1 (nI n) (1 + 5 + t) (fun S20 z21 => some (.inr ((-1), S20))) f S (nI z) = some (.inr (k_sp (fun s => t_rb w (t_go w (upd v 1 (nI s)) 0 n)) d z, S')) ∧ ∀ a, a ≠ 220 → S' a = S a := by
  intro d
  induction d with
  | zero =>
    intro z f S h1 hf hA hN h2
    obtain ⟨f, rfl⟩ : ∃ g, f = g + 1 := ⟨f - 1, by omega⟩
    refine ⟨S, ?_, fun _ _ => rfl⟩
    rw [mX11_slowestSpeed_26]
    dsimp only
    rw [if_pos (show (5 : Int32) < nI z from (nI_ltI (a := 5) (by omega) (by omega)).mpr (by omega)), k_sp]
  | succ d ih =>
    intro z f S h1 hf hA hN h2
    obtain ⟨f, rfl⟩ : ∃ g, f = g + 1 := ⟨f - 1, by omega⟩
    have hL := hk_L1 hE2
    obtain ⟨S1, r1, r2, r3⟩ := k_tri (F := F) ht h2
    have hsp : hk_tr ((hk_up S1 220 1 (nI z)) 220) (upd v 1 (nI z)) := by
      obtain ⟨u0, u1, u2, u3, u4, u5, u6, u7, u8, u9⟩ := r2
      unfold hk_tr t_fill
      simp [hk_up_eq, upd_at, u0, u2, u3, u4, u5, u6, u7, u8, u9, t_fill]
    have e1 : ∀ a, a ≠ 220 → (hk_up S1 220 1 (nI z)) a = S a := fun a ha => by rw [hk_upne _ _ _ ha]; exact r3 a ha
    obtain ⟨S2, s1, s2, s3⟩ := cX_trial (F := F) (n := n) (by omega) (by omega) hw (t_spd_ok hv (by omega)) (k_air_ext hA (fun a ha => e1 a (by omega))) hsp
    have e2 : ∀ a, a ≠ 220 → S2 a = S a := fun a ha => (s3 a ha).trans (e1 a ha)
    have h3 := (t_go_ok hw (t_spd_ok hv (z := z) (by omega)) 0 n).2.2.2.1.1
    obtain ⟨S3, q1, q2⟩ := ih (z + 1) f S2 (by omega) (by omega) (k_air_ext hA (fun a ha => e2 a (by omega))) (k_num_ext hN (fun a ha => e2 a (by omega))) (by rw [e2 _ (by omega)]; exact h2)
    rw [mX11_slowestSpeed_26]
    dsimp only
    rw [if_neg (show ¬ (5 : Int32) < nI z from nI_nlt (a := 5) (b := z) (by omega) (by omega)), rE_0_6 hE2, Option.bind_some, if_pos (kE_220 hE2), r1, Option.bind_some, hk_let_eq, s1, Option.bind_some, rE_0_0 hE2, Option.bind_some, if_pos hL.1, cX_rb (k_num_ext hN (fun a ha => e2 a (by omega))) s2 h3, Option.bind_some, k_sp]
    by_cases q : t_rb w (t_go w (upd v 1 (nI z)) 0 n) = true
    · rw [if_pos q, if_pos q]
      dsimp only
      rw [if_neg (by decide)]
      exact ⟨S2, rfl, e2⟩
    · rw [if_neg q, if_neg q]
      dsimp only
      rw [if_pos rfl, hk_let_eq, nI_1]
      exact ⟨S3, q1, fun a ha => (q2 a ha).trans (e2 a ha)⟩
theorem pX12_rby {F t z n : Nat} {M : hk_S} (hF : 2000 ≤ F) (ht : t < 8) (hz : z ≤ 5) (hn : n ≤ 200) (hw : a_ok (M 222)) : mX12_isReadyBy hk_E0 F M 221 (nI t) (nI z) (nI n) = some (if t_rb (M 222) (t_go (M 222) (upd (a_t (M 222) t) 1 (nI z)) 0 n) = true then 1 else 0, va_up M 224 (a_cp (M 222) (M 224) 0)) := by
  have hok : t_ok (a_t (M 222) t) := hw.2.2.2.2.2.2.2.2.2.1 t ht
  have e224 : (va_up M 224 (a_cp (M 222) (M 224) 0)) 222 = M 222 := va_up_ne _ _ (by decide)
  have htw : k_tw (upd (M 222) (17 + 9 * t + 1) (nI z)) (M 222) t (upd (a_t (M 222) t) 1 (nI z)) := ⟨fun i h1 h2 => by rw [upd_at, if_neg (by omega)], fun k hk => by rw [upd_t, upd_at]⟩
  obtain ⟨W, w1, w2⟩ := pX12_tries (F := F) (r := 0) (n := n) (w := M 222) (v := upd (a_t (M 222) t) 1 (nI z)) (M := va_up (va_up M 224 (a_cp (M 222) (M 224) 0)) 222 (upd (M 222) (17 + 9 * t + 1) (nI z))) hE1 (by omega) ht hw (t_spd_ok hok hz) (by omega) (by rw [va_up_self]; exact htw)
  rw [show nI 0 = (0 : Int32) from rfl, k_upup] at w1
  unfold mX12_isReadyBy
  rw [pX12_setAside hE1 (by omega), Option.bind_some, pX12_to_1 hE1 ht, e224, Option.bind_some, w1, Option.bind_some, mX_rb hE1 ht (by rw [va_up_self]; exact w2), Option.bind_some]
  dsimp only
  rw [k_bring hE1 (by omega) ht w2, Option.bind_some]
  by_cases q : t_rb (M 222) (t_go (M 222) (upd (a_t (M 222) t) 1 (nI z)) 0 n) = true
  · rw [if_pos q, if_pos (Or.inr rfl)]
  · rw [if_neg q, if_pos (Or.inl rfl)]
theorem pX12_slow_40 {F t n : Nat} (hF : 2000 ≤ F) (ht : t < 8) (hn : n ≤ 200) : ∀ (d z f : Nat) (M : hk_S), z + d = 6 → d < f → a_ok (M 222) → ∃ N, mX12_slowestSpeed_40 hk_E0 F 221 (nI t) (nI n) (fun S12 z13 => some ((-1), S12)) f M (nI z) = some (k_sp (fun s => t_rb (M 222) (t_go (M 222) (upd (a_t (M 222) t) 1 (nI s)) 0 n)) d z, N) ∧ hk_same M N ∧ N 221 15 = M 221 15 ∧ N 231 = M 231 := by
  intro d
  induction d with
  | zero =>
    intro z f M h1 hf hw
    obtain ⟨f, rfl⟩ : ∃ g, f = g + 1 := ⟨f - 1, by omega⟩
    refine ⟨M, ?_, hk_same_refl _, rfl, rfl⟩
    rw [mX12_slowestSpeed_40]
    dsimp only
    rw [if_pos (show (5 : Int32) < nI z from (nI_ltI (a := 5) (by omega) (by omega)).mpr (by omega)), k_sp]
  | succ d ih =>
    intro z f M h1 hf hw
    obtain ⟨f, rfl⟩ : ∃ g, f = g + 1 := ⟨f - 1, by omega⟩
    have e224 : (va_up M 224 (a_cp (M 222) (M 224) 0)) 222 = M 222 := va_up_ne _ _ (by decide)
    obtain ⟨N, i1, i2, i3, i4⟩ := ih (z + 1) f (va_up M 224 (a_cp (M 222) (M 224) 0)) (by omega) (by omega) (by rw [e224]; exact hw)
    rw [e224] at i1
    rw [mX12_slowestSpeed_40]
    dsimp only
    rw [if_neg (show ¬ (5 : Int32) < nI z from nI_nlt (a := 5) (b := z) (by omega) (by omega)), pX12_rby hF ht (by omega) hn hw, Option.bind_some, k_sp]
    by_cases q : t_rb (M 222) (t_go (M 222) (upd (a_t (M 222) t) 1 (nI z)) 0 n) = true
    · rw [if_pos q, if_pos q]
      dsimp only
      rw [if_neg (by decide)]
      exact ⟨_, rfl, hk_same_aside _ _, by rw [va_up_ne _ _ (by decide)], by rw [va_up_ne _ _ (by decide)]⟩
    · rw [if_neg q, if_neg q]
      dsimp only
      rw [if_pos rfl, hk_let_eq, nI_1]
      exact ⟨N, i1, hk_same_trans (hk_same_aside _ _) i2, i3.trans (by rw [va_up_ne _ _ (by decide)]), i4.trans (by rw [va_up_ne _ _ (by decide)])⟩
set_option maxHeartbeats 4000000 in
theorem mop_54_ok {F : Nat} {S : hk_S} {p1 p2 p3 p4 p5 : Int32} (hF : 2000000 ≤ F) (hI : hk_I S) : ∃ S', mop_54 F S p1 p2 p3 p4 p5 = some S' ∧ hk_I S' := by
  have hL := hk_L1 hE2
  have hA := hI.1.1
  have hN := hI.1.2.1
  rcases k_exT (F := F) hI p1 with ⟨t, ht, rfl, hn, he⟩ | ⟨hno, he⟩
  · have htr := hI.1.2.2.1 t ht
    have h0 := k_leaf0 hI.2.1 ht
    have hok := hI.2.1.2.2.2.2.2.2.2.2.2.1 t ht
    have hin := k_in (by omega) hn
    by_cases q : 0 ≤ p2 ∧ p2 ≤ 200
    · obtain ⟨n, hn2, rfl⟩ := nI_of2 (x := p2) (M := 200) (n := 200) (by decide) (by grind) q.2
      by_cases ql : a_t (S 222) t 3 = 0
      · have hsame := hk_same_refl S
        have hfr : k_sp (fun s => t_rb (S 222) (t_go (S 222) (upd (a_t (S 222) t) 1 (nI s)) 0 n)) 6 0 = -1 := k_sp_none (fun z => t_rb_none ((t_go_same _ _ _ _).2.2.2.trans (by rw [upd_at, if_neg (by decide)]; exact ql))) _ _
        have hc : mX11_slowestSpeed hk_E0 F S 0 (nI t) (nI n) = some (.inr ((-1), S)) := by
          unfold mX11_slowestSpeed
          rw [he, hk_xb_inr]
          dsimp only
          rw [if_pos (hk_L_t hL ht), k_rq, if_pos q, hk_xb_inr, pX10_hasLeaf htr h0, if_pos ql, Option.bind_some]
          dsimp only
          rw [if_neg (by decide)]
        have hl : mL_slowestSpeed hk_E0 F S 0 (nI t) (nI n) 231 = some (0, hk_up S 231 0 ((-1))) := by
          unfold mL_slowestSpeed
          rw [hc]
          dsimp only
          rw [if_pos hk_ok231]
        have hs1 : hk_same S (hk_up S 231 0 ((-1))) := hk_same_trans hsame (hk_same_out _ _)
        have eM : (hk_up S 231 0 ((-1))) 222 = S 222 := hs1.2.2.1
        have hw : a_ok ((hk_up S 231 0 ((-1))) 222) := by rw [eM]; exact hI.2.1
        have hs2 : hk_same S (hk_up (hk_up S 231 0 ((-1))) 221 15 0) := hk_same_trans hs1 (hk_same_thr _ _)
        have eM2 : (hk_up (hk_up S 231 0 ((-1))) 221 15 0) 222 = S 222 := hs2.2.2.1
        generalize hMM : hk_up (hk_up S 231 0 ((-1))) 221 15 0 = MM at *
        have e15 : MM 221 15 = 0 := by rw [← hMM, hk_up_eq, if_pos rfl]
        have e231 : MM 231 0 = (-1) := by rw [← hMM, hk_upne _ _ _ (by decide), hk_up_eq, if_pos rfl]
        have hm : ∃ N, mX12_slowestSpeed hk_E0 F (hk_up S 231 0 ((-1))) 221 (nI t) (nI n) = some ((-1), N) ∧ hk_same MM N ∧ N 221 15 = MM 221 15 ∧ N 231 = MM 231 := by
          unfold mX12_slowestSpeed
          simp only [pX12_in, k_10, not_false_eq_true, not_true_eq_false, if_true, if_false, Option.bind_some, pX12_thr0, pX12_thr1, pX12_thr00, pX12_thr01, pX12_thr1_, pX12_thr000, pX12_thr001, pX12_thr01_, pX12_thr1__, pX12_isTrough hE1 hw, eM, if_pos hin, if_pos q, hMM]
          obtain ⟨N, n1, n2, n3, n4⟩ := pX12_slow_40 (F := F) (n := n) (by omega) ht hn2 6 0 F MM (by omega) (by omega) (by rw [eM2]; exact hI.2.1)
          rw [eM2, hfr] at n1
          exact ⟨N, n1, n2, n3, n4⟩
        obtain ⟨N, hm, n1, n2, n3⟩ := hm
        exact ⟨N, k_mop (m := fun S => mX12_slowestSpeed hk_E0 F S 221 (nI t) (nI n)) hl hm (n2.trans e15) (fun _ => by rw [n3]; exact e231), hk_I_same hI (hk_same_trans hs2 n1)⟩
      · obtain ⟨S2, s1, s2⟩ := cX_slow_26 (F := F) (t := t) (n := n) (x1 := nI t) (by omega) ht hn2 hI.2.1 hok 6 0 F S (by omega) (by omega) hA hN htr
        have hsame : hk_same S S2 := hk_same_trial s2
        have hc : mX11_slowestSpeed hk_E0 F S 0 (nI t) (nI n) = some (.inr (k_sp (fun s => t_rb (S 222) (t_go (S 222) (upd (a_t (S 222) t) 1 (nI s)) 0 n)) 6 0, S2)) := by
          unfold mX11_slowestSpeed
          rw [he, hk_xb_inr]
          dsimp only
          rw [if_pos (hk_L_t hL ht), k_rq, if_pos q, hk_xb_inr, pX10_hasLeaf htr h0, if_neg ql, Option.bind_some]
          dsimp only
          rw [if_pos (by decide)]
          exact s1
        have hl : mL_slowestSpeed hk_E0 F S 0 (nI t) (nI n) 231 = some (0, hk_up S2 231 0 (k_sp (fun s => t_rb (S 222) (t_go (S 222) (upd (a_t (S 222) t) 1 (nI s)) 0 n)) 6 0)) := by
          unfold mL_slowestSpeed
          rw [hc]
          dsimp only
          rw [if_pos hk_ok231]
        have hs1 : hk_same S (hk_up S2 231 0 (k_sp (fun s => t_rb (S 222) (t_go (S 222) (upd (a_t (S 222) t) 1 (nI s)) 0 n)) 6 0)) := hk_same_trans hsame (hk_same_out _ _)
        have eM : (hk_up S2 231 0 (k_sp (fun s => t_rb (S 222) (t_go (S 222) (upd (a_t (S 222) t) 1 (nI s)) 0 n)) 6 0)) 222 = S 222 := hs1.2.2.1
        have hw : a_ok ((hk_up S2 231 0 (k_sp (fun s => t_rb (S 222) (t_go (S 222) (upd (a_t (S 222) t) 1 (nI s)) 0 n)) 6 0)) 222) := by rw [eM]; exact hI.2.1
        have hs2 : hk_same S (hk_up (hk_up S2 231 0 (k_sp (fun s => t_rb (S 222) (t_go (S 222) (upd (a_t (S 222) t) 1 (nI s)) 0 n)) 6 0)) 221 15 0) := hk_same_trans hs1 (hk_same_thr _ _)
        have eM2 : (hk_up (hk_up S2 231 0 (k_sp (fun s => t_rb (S 222) (t_go (S 222) (upd (a_t (S 222) t) 1 (nI s)) 0 n)) 6 0)) 221 15 0) 222 = S 222 := hs2.2.2.1
        generalize hMM : hk_up (hk_up S2 231 0 (k_sp (fun s => t_rb (S 222) (t_go (S 222) (upd (a_t (S 222) t) 1 (nI s)) 0 n)) 6 0)) 221 15 0 = MM at *
        have e15 : MM 221 15 = 0 := by rw [← hMM, hk_up_eq, if_pos rfl]
        have e231 : MM 231 0 = k_sp (fun s => t_rb (S 222) (t_go (S 222) (upd (a_t (S 222) t) 1 (nI s)) 0 n)) 6 0 := by rw [← hMM, hk_upne _ _ _ (by decide), hk_up_eq, if_pos rfl]
        have hm : ∃ N, mX12_slowestSpeed hk_E0 F (hk_up S2 231 0 (k_sp (fun s => t_rb (S 222) (t_go (S 222) (upd (a_t (S 222) t) 1 (nI s)) 0 n)) 6 0)) 221 (nI t) (nI n) = some (k_sp (fun s => t_rb (S 222) (t_go (S 222) (upd (a_t (S 222) t) 1 (nI s)) 0 n)) 6 0, N) ∧ hk_same MM N ∧ N 221 15 = MM 221 15 ∧ N 231 = MM 231 := by
          unfold mX12_slowestSpeed
          simp only [pX12_in, k_10, not_false_eq_true, not_true_eq_false, if_true, if_false, Option.bind_some, pX12_thr0, pX12_thr1, pX12_thr00, pX12_thr01, pX12_thr1_, pX12_thr000, pX12_thr001, pX12_thr01_, pX12_thr1__, pX12_isTrough hE1 hw, eM, if_pos hin, if_pos q, hMM]
          obtain ⟨N, n1, n2, n3, n4⟩ := pX12_slow_40 (F := F) (n := n) (by omega) ht hn2 6 0 F MM (by omega) (by omega) (by rw [eM2]; exact hI.2.1)
          rw [eM2] at n1
          exact ⟨N, n1, n2, n3, n4⟩
        obtain ⟨N, hm, n1, n2, n3⟩ := hm
        exact ⟨N, k_mop (m := fun S => mX12_slowestSpeed hk_E0 F S 221 (nI t) (nI n)) hl hm (n2.trans e15) (fun _ => by rw [n3]; exact e231), hk_I_same hI (hk_same_trans hs2 n1)⟩
    · have hc : mX11_slowestSpeed hk_E0 F S 0 (nI t) p2 = some (.inl (1, S)) := by
        unfold mX11_slowestSpeed
        rw [he, hk_xb_inr]
        dsimp only
        rw [if_pos (hk_L_t hL ht), k_rq, if_neg q, hk_xb_inl]
      have hl : mL_slowestSpeed hk_E0 F S 0 (nI t) p2 231 = some (2, S) := by
        unfold mL_slowestSpeed
        rw [hc]
        rfl
      have hm : mX12_slowestSpeed hk_E0 F S 221 (nI t) p2 = some (0, hk_up S 221 15 2) := by
        unfold mX12_slowestSpeed
        simp only [pX12_in, k_10, not_false_eq_true, not_true_eq_false, if_true, if_false, Option.bind_some, pX12_thr0, pX12_thr1, pX12_thr00, pX12_thr01, pX12_thr1_, pX12_thr000, pX12_thr001, pX12_thr01_, pX12_thr1__, pX12_isTrough hE1 hI.2.1, if_pos hin, if_neg q]
      exact ⟨_, k_mop (m := fun S => mX12_slowestSpeed hk_E0 F S 221 (nI t) p2) hl hm (by rw [hk_up_eq, if_pos rfl]) (fun q => absurd q (by decide)), hk_I_same hI (hk_same_thr _ _)⟩
  · have hc : mX11_slowestSpeed hk_E0 F S 0 p1 p2 = some (.inl (0, S)) := by
      unfold mX11_slowestSpeed
      rw [he, hk_xb_inl]
    have hl : mL_slowestSpeed hk_E0 F S 0 p1 p2 231 = some (1, S) := by
      unfold mL_slowestSpeed
      rw [hc]
      rfl
    have hm : mX12_slowestSpeed hk_E0 F S 221 p1 p2 = some (0, hk_up S 221 15 1) := by
      unfold mX12_slowestSpeed
      by_cases q : 0 ≤ p2 ∧ p2 ≤ 200 <;> simp only [pX12_in, k_10, not_false_eq_true, not_true_eq_false, if_true, if_false, Option.bind_some, pX12_thr0, pX12_thr1, pX12_thr00, pX12_thr01, pX12_thr1_, pX12_thr000, pX12_thr001, pX12_thr01_, pX12_thr1__, pX12_isTrough hE1 hI.2.1, if_neg hno, q, and_self]
    exact ⟨_, k_mop (m := fun S => mX12_slowestSpeed hk_E0 F S 221 p1 p2) hl hm (by rw [hk_up_eq, if_pos rfl]) (fun q => absurd q (by decide)), hk_I_same hI (hk_same_thr _ _)⟩
