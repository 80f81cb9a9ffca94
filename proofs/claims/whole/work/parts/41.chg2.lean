/-! changes, further -/
set_option maxHeartbeats 4000000 in
theorem mop_6_ok {F : Nat} {S : hk_S} {p1 p2 p3 p4 p5 : Int32} (hF : 2000000 ≤ F) (hI : hk_I S) : ∃ S', mop_6 F S p1 p2 p3 p4 p5 = some S' ∧ hk_I S' := by
  have hL := hk_L1 hE2
  have hA := hI.1.1
  have hN := hI.1.2.1
  rcases k_exT (F := F) hI p1 with ⟨t, ht, rfl, hn, he⟩ | ⟨hno, he⟩
  · have htr := hI.1.2.2.1 t ht
    have h0 := k_leaf0 hI.2.1 ht
    have hok := hI.2.1.2.2.2.2.2.2.2.2.2.1 t ht
    have hin := k_in (by omega) hn
    have eix : (17 : Int32) + 9 * nI t + 1 = nI (17 + 9 * t + 1) := k_idx t 1
    have h2 := hok.1
    obtain ⟨c, nx, S1, hcc, h5, hrem, hlf1, hlo, hfin, hkeep⟩ := k_rem (F := F) hF hI
    obtain ⟨S2, o1, o2, o3⟩ := show ∃ S2, S2 = hk_up S1 (1 + 5 + t) 2 (if S1 (1 + 5 + t) 2 = 0 then 1 else 0) ∧ hk_lf S2 1 (a_rev (S 222) t) ∧ hk_fr 1 S1 S2 from ⟨_, rfl, cX_rev hlf1 ht h2, hk_fr_up (hk_fr_refl _ _) (by omega) (by omega) _ _⟩
    obtain ⟨e222, e221⟩ := hkeep S2 o3
    have hc : mX11_reverse hk_E0 F S 0 (nI t) = some (.inr (if 1 - a_t (S 222) t 2 = 0 then 1 else 0, S2)) := by
      unfold mX11_reverse
      rw [he, hk_xb_inr]
      dsimp only
      rw [if_pos (hk_L_t hL ht), rE_0_3 hE2, Option.bind_some, if_pos (kE_39 hE2), rE_0_0 hE2, Option.bind_some, if_pos hL.1, hrem, Option.bind_some]
      have e2 : S1 (1 + 5 + t) 2 = if a_t (S 222) t 2 = 0 then 1 else 0 := (hlf1.2.2.1 t ht).2.2.1
      rw [o1, e2]
      rcases h2 with z | z <;> simp [z, hk_let_eq, hk_up_eq]
    have hl : mL_reverse hk_E0 F S 0 (nI t) 231 = some (0, hk_up S2 231 0 (if 1 - a_t (S 222) t 2 = 0 then 1 else 0)) := by
      unfold mL_reverse
      rw [hc]
      dsimp only
      rw [if_pos hk_ok231]
      rcases h2 with z | z <;> simp [z]
    have hvb : (if 1 - a_t (S 222) t 2 = 0 then (1 : Int32) else 0) = if (if 1 - a_t (S 222) t 2 = 0 then (1 : Int32) else 0) = 0 then 0 else 1 := by
      rcases h2 with z | z <;> simp [z]
    have eM : (hk_up S2 231 0 (if 1 - a_t (S 222) t 2 = 0 then 1 else 0)) 222 = S 222 := by rw [hk_upne _ _ _ (by decide)]; exact e222
    have eM2 : (hk_up (hk_up S2 231 0 (if 1 - a_t (S 222) t 2 = 0 then 1 else 0)) 221 15 0) 222 = S 222 := by rw [hk_upne _ _ _ (by decide)]; exact eM
    have eM5 : (hk_up (hk_up S2 231 0 (if 1 - a_t (S 222) t 2 = 0 then 1 else 0)) 221 15 0) 221 5 = nI c := by rw [hk_up_eq, if_neg (by decide), hk_upne _ _ _ (by decide), e221]; exact h5
    have hw : a_ok ((hk_up S2 231 0 (if 1 - a_t (S 222) t 2 = 0 then 1 else 0)) 222) := by rw [eM]; exact hI.2.1
    obtain ⟨t1, t2, t3⟩ := k_mid S2 (if 1 - a_t (S 222) t 2 = 0 then 1 else 0) 0
    have e15 : (hk_up (hk_up S2 231 0 (if 1 - a_t (S 222) t 2 = 0 then 1 else 0)) 221 15 0) 221 15 = 0 := by rw [hk_up_eq, if_pos rfl]
    have e231 : (hk_up (hk_up S2 231 0 (if 1 - a_t (S 222) t 2 = 0 then 1 else 0)) 221 15 0) 231 0 = if 1 - a_t (S 222) t 2 = 0 then 1 else 0 := by rw [hk_upne _ _ _ (by decide), hk_up_eq, if_pos rfl]
    generalize hMM : hk_up (hk_up S2 231 0 (if 1 - a_t (S 222) t 2 = 0 then 1 else 0)) 221 15 0 = MM at *
    have hmo : mX12_reverse hk_E0 F (hk_up S2 231 0 (if 1 - a_t (S 222) t 2 = 0 then 1 else 0)) 221 (nI t) = some (if 1 - a_t (S 222) t 2 = 0 then 1 else 0, k_fin MM c (a_rev (S 222) t)) := by
      unfold mX12_reverse
      simp only [pX12_in, k_10, not_false_eq_true, not_true_eq_false, if_true, if_false, Option.bind_some, pX12_thr0, pX12_thr1, pX12_thr00, pX12_thr01, pX12_thr1_, pX12_thr000, pX12_thr001, pX12_thr01_, pX12_thr1__, pX12_isTrough hE1 hw, eM, hMM, if_pos hin]
      have hR : ∀ x : Int32, (mX12_begins hk_E0 F MM 221).bind (fun r8 => (mX12_turnsRound hk_E0 F r8 221 (nI t)).bind (fun r9 => (mX12_remember hk_E0 F r9.2 221 x).bind (fun r10 => some (r10.1, r10.2)))) = some (x, k_fin MM c (a_rev (S 222) t)) := fun x => by
        have := pX12_brr (F := F) (op := fun M => (mX12_turnsRound hk_E0 F M 221 (nI t)).bind (fun r => some (x, r.2))) (v := x) (w' := a_rev (S 222) t) hF hcc eM5 (fun M2 h => by rw [pX12_turnsRound hE1 ht, Option.bind_some, h, eM2])
        rw [← this]
        congr 1
        funext r8
        cases mX12_turnsRound hk_E0 F r8 221 (nI t) <;> rfl
      have hR0 := hR 0
      have hR1 := hR 1
      rw [pX12_begins hE1 (by omega), Option.bind_some] at hR0 hR1 ⊢
      rw [pX12_turnsRound hE1 ht, Option.bind_some] at hR0 hR1 ⊢
      dsimp only at hR0 hR1 ⊢
      rw [va_up_ne _ _ (show 222 ≠ 223 by decide), eM2] at hR0 hR1 ⊢
      rcases h2 with z | z
      · rw [z, if_neg (show ¬ (1 : Int32) - 0 = 0 by decide), if_pos rfl]
        revert hR0
        generalize mX12_remember hk_E0 F (va_up (va_up MM 223 (a_cp (S 222) (MM 223) 0)) 222 (a_rev (S 222) t)) 221 0 = G
        intro h
        cases G with
        | none => exact absurd h (by simp)
        | some r =>
          simp only [Option.bind_some, Option.some.injEq, Prod.mk.injEq] at h ⊢
          rw [h.1, if_pos (show ¬ (0 : Int32) = 1 by decide), h.2]
      · rw [z, if_pos (show (1 : Int32) - 1 = 0 by decide), if_neg (show ¬ (1 : Int32) = 0 by decide)]
        revert hR1
        generalize mX12_remember hk_E0 F (va_up (va_up MM 223 (a_cp (S 222) (MM 223) 0)) 222 (a_rev (S 222) t)) 221 1 = G
        intro h
        cases G with
        | none => exact absurd h (by simp)
        | some r =>
          simp only [Option.bind_some, Option.some.injEq, Prod.mk.injEq] at h ⊢
          rw [h.1, if_neg (show ¬ ¬ (1 : Int32) = 1 by decide), h.2]
    exact ⟨_, k_mopB (m := fun S => mX12_reverse hk_E0 F S 221 (nI t)) hl hmo (by rw [k_fin_221, if_neg (by decide)]; exact e15) (fun _ => by rw [k_fin_ne _ _ _ (by decide) (by decide) (by decide) (by decide), e231]; exact hvb), hfin S2 _ _ o2 o3 (a_ok_rev hI.2.1 ht hn) t1 t2 t3⟩
  · have hc : mX11_reverse hk_E0 F S 0 p1 = some (.inl (0, S)) := by
      unfold mX11_reverse
      rw [he, hk_xb_inl]
    have hl : mL_reverse hk_E0 F S 0 p1 231 = some (1, S) := by
      unfold mL_reverse
      rw [hc]
      rfl
    have hm : mX12_reverse hk_E0 F S 221 p1 = some (0, hk_up S 221 15 1) := by
      unfold mX12_reverse
      simp only [pX12_in, k_10, not_false_eq_true, not_true_eq_false, if_true, if_false, Option.bind_some, pX12_thr0, pX12_thr1, pX12_thr00, pX12_thr01, pX12_thr1_, pX12_thr000, pX12_thr001, pX12_thr01_, pX12_thr1__, pX12_isTrough hE1 hI.2.1, if_neg hno]
    exact ⟨_, k_mopB (m := fun S => mX12_reverse hk_E0 F S 221 p1) hl hm (by rw [hk_up_eq, if_pos rfl]) (fun q => absurd q (by decide)), hk_I_same hI (hk_same_thr _ _)⟩
set_option maxHeartbeats 4000000 in
theorem mop_7_ok {F : Nat} {S : hk_S} {p1 p2 p3 p4 p5 : Int32} (hF : 2000000 ≤ F) (hI : hk_I S) : ∃ S', mop_7 F S p1 p2 p3 p4 p5 = some S' ∧ hk_I S' := by
  have hL := hk_L1 hE2
  have hA := hI.1.1
  have hN := hI.1.2.1
  by_cases q : 0 ≤ p1 ∧ p1 ≤ 5
  · obtain ⟨c, nx, S1, hcc, h5, hrem, hlf1, hlo, hfin, hkeep⟩ := k_rem (F := F) hF hI
    obtain ⟨S2, o1, o2, o3⟩ := show ∃ S2, S2 = hk_up S1 (1 + 1) 2 p1 ∧ hk_lf S2 1 (upd (S 222) 1 p1) ∧ hk_fr 1 S1 S2 from ⟨_, rfl, cX_heat hlf1, hk_fr_up (hk_fr_refl _ _) (by omega) (by omega) _ _⟩
    obtain ⟨e222, e221⟩ := hkeep S2 o3
    have hc : mX11_setHeat hk_E0 F S 0 p1 = some (.inr (S 222 1, S2)) := by
      unfold mX11_setHeat
      rw [k_rq, if_pos q, hk_xb_inr, rE_0_3 hE2, Option.bind_some, if_pos (kE_39 hE2), rE_0_0 hE2, Option.bind_some, if_pos hL.1, hrem, Option.bind_some, hL.2.2.2.2.2.2.2.1, Option.bind_some, if_pos hL.2.1]
      simp only [hk_let_eq]
      rw [hlf1.1.2.2.1, ← o1]
    have hl : mL_setHeat hk_E0 F S 0 p1 231 = some (0, hk_up S2 231 0 (S 222 1)) := by
      unfold mL_setHeat
      rw [hc]
      dsimp only
      rw [if_pos hk_ok231]
    have eM : (hk_up S2 231 0 (S 222 1)) 222 = S 222 := by rw [hk_upne _ _ _ (by decide)]; exact e222
    have eM2 : (hk_up (hk_up S2 231 0 (S 222 1)) 221 15 0) 222 = S 222 := by rw [hk_upne _ _ _ (by decide)]; exact eM
    have eM5 : (hk_up (hk_up S2 231 0 (S 222 1)) 221 15 0) 221 5 = nI c := by rw [hk_up_eq, if_neg (by decide), hk_upne _ _ _ (by decide), e221]; exact h5
    have hw : a_ok ((hk_up S2 231 0 (S 222 1)) 222) := by rw [eM]; exact hI.2.1
    obtain ⟨t1, t2, t3⟩ := k_mid S2 (S 222 1) 0
    have e15 : (hk_up (hk_up S2 231 0 (S 222 1)) 221 15 0) 221 15 = 0 := by rw [hk_up_eq, if_pos rfl]
    have e231 : (hk_up (hk_up S2 231 0 (S 222 1)) 221 15 0) 231 0 = S 222 1 := by rw [hk_upne _ _ _ (by decide), hk_up_eq, if_pos rfl]
    generalize hMM : hk_up (hk_up S2 231 0 (S 222 1)) 221 15 0 = MM at *
    have hmo : mX12_setHeat hk_E0 F (hk_up S2 231 0 (S 222 1)) 221 p1 = some (S 222 1, k_fin MM c (upd (S 222) 1 p1)) := by
      unfold mX12_setHeat
      simp only [pX12_in, k_10, not_false_eq_true, not_true_eq_false, if_true, if_false, Option.bind_some, pX12_thr0, pX12_thr1, pX12_thr00, pX12_thr01, pX12_thr1_, pX12_thr000, pX12_thr001, pX12_thr01_, pX12_thr1__, if_pos q, hMM]
      unfold mX12_setOne
      have := pX12_brr (F := F) (op := fun M => mX12_sets hk_E0 F M 221 1 p1) (v := S 222 1) (w' := upd (S 222) 1 p1) hF hcc eM5 (fun M2 h => by have e := h.trans eM2; rw [← e]; exact pX12_sets (i := 1) hE1 (by omega))
      rw [this, Option.bind_some]
    exact ⟨_, k_mop (m := fun S => mX12_setHeat hk_E0 F S 221 p1) hl hmo (by rw [k_fin_221, if_neg (by decide)]; exact e15) (fun _ => by rw [k_fin_ne _ _ _ (by decide) (by decide) (by decide) (by decide), e231]), hfin S2 _ _ o2 o3 (a_ok_heat hI.2.1 q.1 q.2) t1 t2 t3⟩
  · have hc : mX11_setHeat hk_E0 F S 0 p1 = some (.inl (1, S)) := by
      unfold mX11_setHeat
      rw [k_rq, if_neg q, hk_xb_inl]
    have hl : mL_setHeat hk_E0 F S 0 p1 231 = some (1, S) := by
      unfold mL_setHeat
      rw [hc]
      rfl
    have hm : mX12_setHeat hk_E0 F S 221 p1 = some (0, hk_up S 221 15 1) := by
      unfold mX12_setHeat
      simp only [pX12_in, k_10, not_false_eq_true, not_true_eq_false, if_true, if_false, Option.bind_some, pX12_thr0, pX12_thr1, pX12_thr00, pX12_thr01, pX12_thr1_, pX12_thr000, pX12_thr001, pX12_thr01_, pX12_thr1__, if_neg q]
    exact ⟨_, k_mop (m := fun S => mX12_setHeat hk_E0 F S 221 p1) hl hm (by rw [hk_up_eq, if_pos rfl]) (fun q => absurd q (by decide)), hk_I_same hI (hk_same_thr _ _)⟩
set_option maxHeartbeats 4000000 in
theorem mop_8_ok {F : Nat} {S : hk_S} {p1 p2 p3 p4 p5 : Int32} (hF : 2000000 ≤ F) (hI : hk_I S) : ∃ S', mop_8 F S p1 p2 p3 p4 p5 = some S' ∧ hk_I S' := by
  have hL := hk_L1 hE2
  have hA := hI.1.1
  have hN := hI.1.2.1
  by_cases q : 20 ≤ p1 ∧ p1 ≤ 95
  · obtain ⟨c, nx, S1, hcc, h5, hrem, hlf1, hlo, hfin, hkeep⟩ := k_rem (F := F) hF hI
    obtain ⟨S2, o1, o2, o3⟩ := show ∃ S2, S2 = hk_up S1 (1 + 1) 1 p1 ∧ hk_lf S2 1 (upd (S 222) 2 p1) ∧ hk_fr 1 S1 S2 from ⟨_, rfl, cX_humid hlf1, hk_fr_up (hk_fr_refl _ _) (by omega) (by omega) _ _⟩
    obtain ⟨e222, e221⟩ := hkeep S2 o3
    have hc : mX11_setHumidity hk_E0 F S 0 p1 = some (.inr (S 222 2, S2)) := by
      unfold mX11_setHumidity
      rw [k_rq, if_pos q, hk_xb_inr, rE_0_3 hE2, Option.bind_some, if_pos (kE_39 hE2), rE_0_0 hE2, Option.bind_some, if_pos hL.1, hrem, Option.bind_some, hL.2.2.2.2.2.2.2.1, Option.bind_some, if_pos hL.2.1]
      simp only [hk_let_eq]
      rw [hlf1.1.2.1, ← o1]
    have hl : mL_setHumidity hk_E0 F S 0 p1 231 = some (0, hk_up S2 231 0 (S 222 2)) := by
      unfold mL_setHumidity
      rw [hc]
      dsimp only
      rw [if_pos hk_ok231]
    have eM : (hk_up S2 231 0 (S 222 2)) 222 = S 222 := by rw [hk_upne _ _ _ (by decide)]; exact e222
    have eM2 : (hk_up (hk_up S2 231 0 (S 222 2)) 221 15 0) 222 = S 222 := by rw [hk_upne _ _ _ (by decide)]; exact eM
    have eM5 : (hk_up (hk_up S2 231 0 (S 222 2)) 221 15 0) 221 5 = nI c := by rw [hk_up_eq, if_neg (by decide), hk_upne _ _ _ (by decide), e221]; exact h5
    have hw : a_ok ((hk_up S2 231 0 (S 222 2)) 222) := by rw [eM]; exact hI.2.1
    obtain ⟨t1, t2, t3⟩ := k_mid S2 (S 222 2) 0
    have e15 : (hk_up (hk_up S2 231 0 (S 222 2)) 221 15 0) 221 15 = 0 := by rw [hk_up_eq, if_pos rfl]
    have e231 : (hk_up (hk_up S2 231 0 (S 222 2)) 221 15 0) 231 0 = S 222 2 := by rw [hk_upne _ _ _ (by decide), hk_up_eq, if_pos rfl]
    generalize hMM : hk_up (hk_up S2 231 0 (S 222 2)) 221 15 0 = MM at *
    have hmo : mX12_setHumidity hk_E0 F (hk_up S2 231 0 (S 222 2)) 221 p1 = some (S 222 2, k_fin MM c (upd (S 222) 2 p1)) := by
      unfold mX12_setHumidity
      simp only [pX12_in, k_10, not_false_eq_true, not_true_eq_false, if_true, if_false, Option.bind_some, pX12_thr0, pX12_thr1, pX12_thr00, pX12_thr01, pX12_thr1_, pX12_thr000, pX12_thr001, pX12_thr01_, pX12_thr1__, if_pos q, hMM]
      unfold mX12_setOne
      have := pX12_brr (F := F) (op := fun M => mX12_sets hk_E0 F M 221 2 p1) (v := S 222 2) (w' := upd (S 222) 2 p1) hF hcc eM5 (fun M2 h => by have e := h.trans eM2; rw [← e]; exact pX12_sets (i := 2) hE1 (by omega))
      rw [this, Option.bind_some]
    exact ⟨_, k_mop (m := fun S => mX12_setHumidity hk_E0 F S 221 p1) hl hmo (by rw [k_fin_221, if_neg (by decide)]; exact e15) (fun _ => by rw [k_fin_ne _ _ _ (by decide) (by decide) (by decide) (by decide), e231]), hfin S2 _ _ o2 o3 (a_ok_humid hI.2.1 q.1 q.2) t1 t2 t3⟩
  · have hc : mX11_setHumidity hk_E0 F S 0 p1 = some (.inl (1, S)) := by
      unfold mX11_setHumidity
      rw [k_rq, if_neg q, hk_xb_inl]
    have hl : mL_setHumidity hk_E0 F S 0 p1 231 = some (1, S) := by
      unfold mL_setHumidity
      rw [hc]
      rfl
    have hm : mX12_setHumidity hk_E0 F S 221 p1 = some (0, hk_up S 221 15 1) := by
      unfold mX12_setHumidity
      simp only [pX12_in, k_10, not_false_eq_true, not_true_eq_false, if_true, if_false, Option.bind_some, pX12_thr0, pX12_thr1, pX12_thr00, pX12_thr01, pX12_thr1_, pX12_thr000, pX12_thr001, pX12_thr01_, pX12_thr1__, if_neg q]
    exact ⟨_, k_mop (m := fun S => mX12_setHumidity hk_E0 F S 221 p1) hl hm (by rw [hk_up_eq, if_pos rfl]) (fun q => absurd q (by decide)), hk_I_same hI (hk_same_thr _ _)⟩
set_option maxHeartbeats 4000000 in
theorem mop_9_ok {F : Nat} {S : hk_S} {p1 p2 p3 p4 p5 : Int32} (hF : 2000000 ≤ F) (hI : hk_I S) : ∃ S', mop_9 F S p1 p2 p3 p4 p5 = some S' ∧ hk_I S' := by
  have hL := hk_L1 hE2
  have hA := hI.1.1
  have hN := hI.1.2.1
  have h0 := hI.2.1.1
  have hd := k_div_b (h := S 222 0) h0.1 (by have := h0.2; generalize S 222 0 = x at *; grind)
  by_cases q : S 222 0 / 24 ≤ p1 ∧ p1 ≤ 83
  · have h5m := hI.2.1.2.2.2.2.2.1
    obtain ⟨n, hn8, hn⟩ := nI_of2 (x := S 222 5) (M := 3) (n := 3) (by decide) (by have := h5m.1; grind) h5m.2
    by_cases q8 : n = 3
    · have h8 : S 222 5 = 3 := by rw [hn, q8]; rfl
      have hc : mX11_announceMonsoon hk_E0 F S 0 p1 = some (.inl (2, S)) := by
        unfold mX11_announceMonsoon
        rw [rE_0_0 hE2, Option.bind_some, if_pos hL.1, hL.2.2.2.2.2.2.2.1, Option.bind_some, if_pos hL.2.1]
        unfold mX1_presentDay mX1_hasRoomForMonsoon
        rw [hA.1, Option.bind_some]
        dsimp only
        rw [k_rq, if_pos q, hk_xb_inr, hA.2.2.2.1, h8, if_pos (by decide), Option.bind_some]
        dsimp only
        rw [if_neg (by decide), k_rf1, hk_xb_inl]
      have hl : mL_announceMonsoon hk_E0 F S 0 p1 231 = some (2, S) := by
        unfold mL_announceMonsoon
        rw [hc]
        rfl
      have hm : mX12_announceMonsoon hk_E0 F S 221 p1 = some (0, hk_up S 221 15 2) := by
        unfold mX12_announceMonsoon
        simp only [pX12_in, k_10, not_false_eq_true, not_true_eq_false, if_true, if_false, Option.bind_some, pX12_thr0, pX12_thr1, pX12_thr00, pX12_thr01, pX12_thr1_, pX12_thr000, pX12_thr001, pX12_thr01_, pX12_thr1__, rE_221_0 hE1, kE_222 hE1, lE_222 hE1, if_pos (show hk_ok 0 107 by decide), if_pos q, if_pos (show hk_ok 5 107 by decide), h8]
      exact ⟨_, k_mop (m := fun S => mX12_announceMonsoon hk_E0 F S 221 p1) hl hm (by rw [hk_up_eq, if_pos rfl]) (fun q => absurd q (by decide)), hk_I_same hI (hk_same_thr _ _)⟩
    · have hlt : n < 3 := by omega
      have h8 : ¬ S 222 5 = 3 := fun z => q8 ((nI_eq (b := 3) (by omega) (by omega)).mp (hn.symm.trans z))
      obtain ⟨c, nx, S1, hcc, h5, hrem, hlf1, hlo, hfin, hkeep⟩ := k_rem (F := F) hF hI
      obtain ⟨S2, o1, o2, o3, o4⟩ := cX_addMonsoon (E := hk_E0) (F := F) (x := p1) hL hlf1 hn hlt
      obtain ⟨e222, e221⟩ := hkeep S2 o3
      have hc : mX11_announceMonsoon hk_E0 F S 0 p1 = some (.inr (nI (n + 1), S2)) := by
        unfold mX11_announceMonsoon
        rw [rE_0_0 hE2, Option.bind_some, if_pos hL.1, hL.2.2.2.2.2.2.2.1, Option.bind_some, if_pos hL.2.1]
        unfold mX1_presentDay mX1_hasRoomForMonsoon
        rw [hA.1, Option.bind_some]
        dsimp only
        rw [k_rq, if_pos q, hk_xb_inr, hA.2.2.2.1, hn, if_neg (show ¬ (3 : Int32) ≤ nI n from nI_ge (a := n) (b := 3) hlt (by omega)), Option.bind_some]
        dsimp only
        rw [if_pos (by decide), k_rf0, hk_xb_inr, rE_0_3 hE2, Option.bind_some, if_pos (kE_39 hE2), hrem, Option.bind_some, o1, Option.bind_some, o4]
      have hl : mL_announceMonsoon hk_E0 F S 0 p1 231 = some (0, hk_up S2 231 0 (nI (n + 1))) := by
        unfold mL_announceMonsoon
        rw [hc]
        dsimp only
        rw [if_pos hk_ok231]
      have eM : (hk_up S2 231 0 (nI (n + 1))) 222 = S 222 := by rw [hk_upne _ _ _ (by decide)]; exact e222
      have eM2 : (hk_up (hk_up S2 231 0 (nI (n + 1))) 221 15 0) 222 = S 222 := by rw [hk_upne _ _ _ (by decide)]; exact eM
      have eM5 : (hk_up (hk_up S2 231 0 (nI (n + 1))) 221 15 0) 221 5 = nI c := by rw [hk_up_eq, if_neg (by decide), hk_upne _ _ _ (by decide), e221]; exact h5
      have hw : a_ok ((hk_up S2 231 0 (nI (n + 1))) 222) := by rw [eM]; exact hI.2.1
      obtain ⟨t1, t2, t3⟩ := k_mid S2 (nI (n + 1)) 0
      have e15 : (hk_up (hk_up S2 231 0 (nI (n + 1))) 221 15 0) 221 15 = 0 := by rw [hk_up_eq, if_pos rfl]
      have e231 : (hk_up (hk_up S2 231 0 (nI (n + 1))) 221 15 0) 231 0 = nI (n + 1) := by rw [hk_upne _ _ _ (by decide), hk_up_eq, if_pos rfl]
      generalize hMM : hk_up (hk_up S2 231 0 (nI (n + 1))) 221 15 0 = MM at *
      have hmo : mX12_announceMonsoon hk_E0 F (hk_up S2 231 0 (nI (n + 1))) 221 p1 = some (nI (n + 1), k_fin MM c (a_mon (S 222) n p1)) := by
        unfold mX12_announceMonsoon
        simp only [pX12_in, k_10, not_false_eq_true, not_true_eq_false, if_true, if_false, Option.bind_some, pX12_thr0, pX12_thr1, pX12_thr00, pX12_thr01, pX12_thr1_, pX12_thr000, pX12_thr001, pX12_thr01_, pX12_thr1__, rE_221_0 hE1, kE_222 hE1, lE_222 hE1, if_pos (show hk_ok 0 107 by decide), eM, hMM, if_pos q, if_pos (show hk_ok 5 107 by decide), h8]
        exact pX12_brr (op := fun M => mX12_announces hk_E0 F M 221 p1) hF hcc eM5 (fun M2 h => by have e := h.trans eM2; rw [← e]; exact pX12_announces hE1 (by rw [e]; exact hn) hlt)
      exact ⟨_, k_mop (m := fun S => mX12_announceMonsoon hk_E0 F S 221 p1) hl hmo (by rw [k_fin_221, if_neg (by decide)]; exact e15) (fun _ => by rw [k_fin_ne _ _ _ (by decide) (by decide) (by decide) (by decide), e231]), hfin S2 _ _ o2 o3 (a_ok_mon hI.2.1 hn hlt (by have := q.1; have := hd.1; generalize S 222 0 / 24 = x at *; grind) q.2) t1 t2 t3⟩
  · have hc : mX11_announceMonsoon hk_E0 F S 0 p1 = some (.inl (1, S)) := by
      unfold mX11_announceMonsoon
      rw [rE_0_0 hE2, Option.bind_some, if_pos hL.1, hL.2.2.2.2.2.2.2.1, Option.bind_some, if_pos hL.2.1]
      unfold mX1_presentDay
      rw [hA.1, Option.bind_some]
      dsimp only
      rw [k_rq, if_neg q, hk_xb_inl]
    have hl : mL_announceMonsoon hk_E0 F S 0 p1 231 = some (1, S) := by
      unfold mL_announceMonsoon
      rw [hc]
      rfl
    have hm : mX12_announceMonsoon hk_E0 F S 221 p1 = some (0, hk_up S 221 15 1) := by
      unfold mX12_announceMonsoon
      by_cases h8 : S 222 5 = 3 <;> simp only [pX12_in, k_10, not_false_eq_true, not_true_eq_false, if_true, if_false, Option.bind_some, pX12_thr0, pX12_thr1, pX12_thr00, pX12_thr01, pX12_thr1_, pX12_thr000, pX12_thr001, pX12_thr01_, pX12_thr1__, rE_221_0 hE1, kE_222 hE1, lE_222 hE1, if_pos (show hk_ok 0 107 by decide), if_neg q, if_pos (show hk_ok 5 107 by decide), h8]
    exact ⟨_, k_mop (m := fun S => mX12_announceMonsoon hk_E0 F S 221 p1) hl hm (by rw [hk_up_eq, if_pos rfl]) (fun q => absurd q (by decide)), hk_I_same hI (hk_same_thr _ _)⟩
set_option maxHeartbeats 4000000 in
theorem mop_11_ok {F : Nat} {S : hk_S} {p1 p2 p3 p4 p5 : Int32} (hF : 2000000 ≤ F) (hI : hk_I S) : ∃ S', mop_11 F S p1 p2 p3 p4 p5 = some S' ∧ hk_I S' := by
  have hL := hk_L1 hE2
  have hA := hI.1.1
  have hN := hI.1.2.1
  rcases k_exT (F := F) hI p1 with ⟨t, ht, rfl, hn, he⟩ | ⟨hno, he⟩
  · have htr := hI.1.2.2.1 t ht
    have h0 := k_leaf0 hI.2.1 ht
    have hok := hI.2.1.2.2.2.2.2.2.2.2.2.1 t ht
    have hin := k_in (by omega) hn
    have eix : (17 : Int32) + 9 * nI t + 1 = nI (17 + 9 * t + 1) := k_idx t 1
    by_cases ql : ¬ a_t (S 222) t 3 = 0
    · obtain ⟨c, nx, S1, hcc, h5, hrem, hlf1, hlo, hfin, hkeep⟩ := k_rem (F := F) hF hI
      obtain ⟨S2, o1, o2, o3⟩ := cX_turn (E := hk_E0) (F := F) hlf1 ht
      obtain ⟨e222, e221⟩ := hkeep S2 o3
      have hc : mX11_turnLeaf hk_E0 F S 0 (nI t) = some (.inr (t_turn (a_t (S 222) t) 5, S2)) := by
        unfold mX11_turnLeaf
        rw [he, hk_xb_inr]
        dsimp only
        rw [if_pos (hk_L_t hL ht), pX10_hasLeaf htr h0, if_neg ql, Option.bind_some]
        dsimp only
        rw [if_pos (by decide), k_rf0, hk_xb_inr, rE_0_3 hE2, Option.bind_some, if_pos (kE_39 hE2), rE_0_0 hE2, Option.bind_some, if_pos hL.1, hrem, Option.bind_some, o1, Option.bind_some]
        have e4 : S2 (1 + 5 + t) 7 = t_turn (a_t (S 222) t) 5 := by
          refine (o2.2.2.1 t ht).2.2.2.2.2.2.2.1.trans ?_
          unfold a_turn
          rw [a_setT_t _ _ _ _ (by omega), if_pos rfl]
        rw [e4]
      have hl : mL_turnLeaf hk_E0 F S 0 (nI t) 231 = some (0, hk_up S2 231 0 (t_turn (a_t (S 222) t) 5)) := by
        unfold mL_turnLeaf
        rw [hc]
        dsimp only
        rw [if_pos hk_ok231]
      have eM : (hk_up S2 231 0 (t_turn (a_t (S 222) t) 5)) 222 = S 222 := by rw [hk_upne _ _ _ (by decide)]; exact e222
      have eM2 : (hk_up (hk_up S2 231 0 (t_turn (a_t (S 222) t) 5)) 221 15 0) 222 = S 222 := by rw [hk_upne _ _ _ (by decide)]; exact eM
      have eM5 : (hk_up (hk_up S2 231 0 (t_turn (a_t (S 222) t) 5)) 221 15 0) 221 5 = nI c := by rw [hk_up_eq, if_neg (by decide), hk_upne _ _ _ (by decide), e221]; exact h5
      have hw : a_ok ((hk_up S2 231 0 (t_turn (a_t (S 222) t) 5)) 222) := by rw [eM]; exact hI.2.1
      obtain ⟨t1, t2, t3⟩ := k_mid S2 (t_turn (a_t (S 222) t) 5) 0
      have e15 : (hk_up (hk_up S2 231 0 (t_turn (a_t (S 222) t) 5)) 221 15 0) 221 15 = 0 := by rw [hk_up_eq, if_pos rfl]
      have e231 : (hk_up (hk_up S2 231 0 (t_turn (a_t (S 222) t) 5)) 221 15 0) 231 0 = t_turn (a_t (S 222) t) 5 := by rw [hk_upne _ _ _ (by decide), hk_up_eq, if_pos rfl]
      generalize hMM : hk_up (hk_up S2 231 0 (t_turn (a_t (S 222) t) 5)) 221 15 0 = MM at *
      have hmo : mX12_turnLeaf hk_E0 F (hk_up S2 231 0 (t_turn (a_t (S 222) t) 5)) 221 (nI t) = some (t_turn (a_t (S 222) t) 5, k_fin MM c (a_turn (S 222) t)) := by
        unfold mX12_turnLeaf
        simp only [pX12_in, k_10, not_false_eq_true, not_true_eq_false, if_true, if_false, Option.bind_some, pX12_thr0, pX12_thr1, pX12_thr00, pX12_thr01, pX12_thr1_, pX12_thr000, pX12_thr001, pX12_thr01_, pX12_thr1__, pX12_isTrough hE1 hw, eM, hMM, if_pos hin, pX12_isEmpty hE1 ht, ql]
        exact pX12_brr (op := fun M => mX12_turns hk_E0 F M 221 (nI t)) hF hcc eM5 (fun M2 h => by have e := h.trans eM2; rw [← e]; exact pX12_turns hE1 ht)
      exact ⟨_, k_mop (m := fun S => mX12_turnLeaf hk_E0 F S 221 (nI t)) hl hmo (by rw [k_fin_221, if_neg (by decide)]; exact e15) (fun _ => by rw [k_fin_ne _ _ _ (by decide) (by decide) (by decide) (by decide), e231]), hfin S2 _ _ o2 o3 (a_ok_turn hI.2.1 ht hn ql) t1 t2 t3⟩
    · have hc : mX11_turnLeaf hk_E0 F S 0 (nI t) = some (.inl (2, S)) := by
        unfold mX11_turnLeaf
        rw [he, hk_xb_inr]
        dsimp only
        rw [if_pos (hk_L_t hL ht), pX10_hasLeaf htr h0, if_pos (Classical.not_not.mp ql), Option.bind_some]
        dsimp only
        rw [if_neg (by decide), k_rf1, hk_xb_inl]
      have hl : mL_turnLeaf hk_E0 F S 0 (nI t) 231 = some (2, S) := by
        unfold mL_turnLeaf
        rw [hc]
        rfl
      have hm : mX12_turnLeaf hk_E0 F S 221 (nI t) = some (0, hk_up S 221 15 2) := by
        unfold mX12_turnLeaf
        simp only [pX12_in, k_10, not_false_eq_true, not_true_eq_false, if_true, if_false, Option.bind_some, pX12_thr0, pX12_thr1, pX12_thr00, pX12_thr01, pX12_thr1_, pX12_thr000, pX12_thr001, pX12_thr01_, pX12_thr1__, pX12_isTrough hE1 hI.2.1, if_pos hin, pX12_isEmpty hE1 ht, Classical.not_not.mp ql]
      exact ⟨_, k_mop (m := fun S => mX12_turnLeaf hk_E0 F S 221 (nI t)) hl hm (by rw [hk_up_eq, if_pos rfl]) (fun q => absurd q (by decide)), hk_I_same hI (hk_same_thr _ _)⟩
  · have hc : mX11_turnLeaf hk_E0 F S 0 p1 = some (.inl (0, S)) := by
      unfold mX11_turnLeaf
      rw [he, hk_xb_inl]
    have hl : mL_turnLeaf hk_E0 F S 0 p1 231 = some (1, S) := by
      unfold mL_turnLeaf
      rw [hc]
      rfl
    have hm : mX12_turnLeaf hk_E0 F S 221 p1 = some (0, hk_up S 221 15 1) := by
      unfold mX12_turnLeaf
      simp only [pX12_in, k_10, not_false_eq_true, not_true_eq_false, if_true, if_false, Option.bind_some, pX12_thr0, pX12_thr1, pX12_thr00, pX12_thr01, pX12_thr1_, pX12_thr000, pX12_thr001, pX12_thr01_, pX12_thr1__, pX12_isTrough hE1 hI.2.1, if_neg hno]
    exact ⟨_, k_mop (m := fun S => mX12_turnLeaf hk_E0 F S 221 p1) hl hm (by rw [hk_up_eq, if_pos rfl]) (fun q => absurd q (by decide)), hk_I_same hI (hk_same_thr _ _)⟩
set_option maxHeartbeats 4000000 in
theorem mop_13_ok {F : Nat} {S : hk_S} {p1 p2 p3 p4 p5 : Int32} (hF : 2000000 ≤ F) (hI : hk_I S) : ∃ S', mop_13 F S p1 p2 p3 p4 p5 = some S' ∧ hk_I S' := by
  have hL := hk_L1 hE2
  have hA := hI.1.1
  have hN := hI.1.2.1
  rcases k_exT (F := F) hI p1 with ⟨t, ht, rfl, hn, he⟩ | ⟨hno, he⟩
  · have htr := hI.1.2.2.1 t ht
    have h0 := k_leaf0 hI.2.1 ht
    have hok := hI.2.1.2.2.2.2.2.2.2.2.2.1 t ht
    have hin := k_in (by omega) hn
    have eix : (17 : Int32) + 9 * nI t + 1 = nI (17 + 9 * t + 1) := k_idx t 1
    by_cases ql : ¬ a_t (S 222) t 3 = 0
    · obtain ⟨c, nx, S1, hcc, h5, hrem, hlf1, hlo, hfin, hkeep⟩ := k_rem (F := F) hF hI
      obtain ⟨S2, o1, o2, o3⟩ := cX_discardLeaf (E := hk_E0) (F := F) hlf1 ht
      obtain ⟨e222, e221⟩ := hkeep S2 o3
      have hc : mX11_discard hk_E0 F S 0 (nI t) = some (.inr (a_t (S 222) t 3, S2)) := by
        unfold mX11_discard
        rw [he, hk_xb_inr]
        dsimp only
        rw [if_pos (hk_L_t hL ht), pX10_hasLeaf htr h0, if_neg ql, Option.bind_some]
        dsimp only
        rw [if_pos (by decide), k_rf0, hk_xb_inr, rE_0_3 hE2, Option.bind_some, if_pos (kE_39 hE2), rE_0_0 hE2, Option.bind_some, if_pos hL.1, hrem, Option.bind_some, o1, Option.bind_some]
      have hl : mL_discard hk_E0 F S 0 (nI t) 231 = some (0, hk_up S2 231 0 (a_t (S 222) t 3)) := by
        unfold mL_discard
        rw [hc]
        dsimp only
        rw [if_pos hk_ok231]
      have eM : (hk_up S2 231 0 (a_t (S 222) t 3)) 222 = S 222 := by rw [hk_upne _ _ _ (by decide)]; exact e222
      have eM2 : (hk_up (hk_up S2 231 0 (a_t (S 222) t 3)) 221 15 0) 222 = S 222 := by rw [hk_upne _ _ _ (by decide)]; exact eM
      have eM5 : (hk_up (hk_up S2 231 0 (a_t (S 222) t 3)) 221 15 0) 221 5 = nI c := by rw [hk_up_eq, if_neg (by decide), hk_upne _ _ _ (by decide), e221]; exact h5
      have hw : a_ok ((hk_up S2 231 0 (a_t (S 222) t 3)) 222) := by rw [eM]; exact hI.2.1
      obtain ⟨t1, t2, t3⟩ := k_mid S2 (a_t (S 222) t 3) 0
      have e15 : (hk_up (hk_up S2 231 0 (a_t (S 222) t 3)) 221 15 0) 221 15 = 0 := by rw [hk_up_eq, if_pos rfl]
      have e231 : (hk_up (hk_up S2 231 0 (a_t (S 222) t 3)) 221 15 0) 231 0 = a_t (S 222) t 3 := by rw [hk_upne _ _ _ (by decide), hk_up_eq, if_pos rfl]
      generalize hMM : hk_up (hk_up S2 231 0 (a_t (S 222) t 3)) 221 15 0 = MM at *
      have hmo : mX12_discard hk_E0 F (hk_up S2 231 0 (a_t (S 222) t 3)) 221 (nI t) = some (a_t (S 222) t 3, k_fin MM c (a_out (S 222) t 13)) := by
        unfold mX12_discard
        simp only [pX12_in, k_10, not_false_eq_true, not_true_eq_false, if_true, if_false, Option.bind_some, pX12_thr0, pX12_thr1, pX12_thr00, pX12_thr01, pX12_thr1_, pX12_thr000, pX12_thr001, pX12_thr01_, pX12_thr1__, pX12_isTrough hE1 hw, eM, hMM, if_pos hin, pX12_isEmpty hE1 ht, ql]
        exact pX12_brr (op := fun M => mX12_empties hk_E0 F M 221 (nI t) 13) hF hcc eM5 (fun M2 h => by have e := h.trans eM2; rw [← e]; exact pX12_empties (i := 13) hE1 (by omega) ht (by omega))
      exact ⟨_, k_mop (m := fun S => mX12_discard hk_E0 F S 221 (nI t)) hl hmo (by rw [k_fin_221, if_neg (by decide)]; exact e15) (fun _ => by rw [k_fin_ne _ _ _ (by decide) (by decide) (by decide) (by decide), e231]), hfin S2 _ _ o2 o3 (a_ok_out hI.2.1 ht hn (by omega)) t1 t2 t3⟩
    · have hc : mX11_discard hk_E0 F S 0 (nI t) = some (.inl (2, S)) := by
        unfold mX11_discard
        rw [he, hk_xb_inr]
        dsimp only
        rw [if_pos (hk_L_t hL ht), pX10_hasLeaf htr h0, if_pos (Classical.not_not.mp ql), Option.bind_some]
        dsimp only
        rw [if_neg (by decide), k_rf1, hk_xb_inl]
      have hl : mL_discard hk_E0 F S 0 (nI t) 231 = some (2, S) := by
        unfold mL_discard
        rw [hc]
        rfl
      have hm : mX12_discard hk_E0 F S 221 (nI t) = some (0, hk_up S 221 15 2) := by
        unfold mX12_discard
        simp only [pX12_in, k_10, not_false_eq_true, not_true_eq_false, if_true, if_false, Option.bind_some, pX12_thr0, pX12_thr1, pX12_thr00, pX12_thr01, pX12_thr1_, pX12_thr000, pX12_thr001, pX12_thr01_, pX12_thr1__, pX12_isTrough hE1 hI.2.1, if_pos hin, pX12_isEmpty hE1 ht, Classical.not_not.mp ql]
      exact ⟨_, k_mop (m := fun S => mX12_discard hk_E0 F S 221 (nI t)) hl hm (by rw [hk_up_eq, if_pos rfl]) (fun q => absurd q (by decide)), hk_I_same hI (hk_same_thr _ _)⟩
  · have hc : mX11_discard hk_E0 F S 0 p1 = some (.inl (0, S)) := by
      unfold mX11_discard
      rw [he, hk_xb_inl]
    have hl : mL_discard hk_E0 F S 0 p1 231 = some (1, S) := by
      unfold mL_discard
      rw [hc]
      rfl
    have hm : mX12_discard hk_E0 F S 221 p1 = some (0, hk_up S 221 15 1) := by
      unfold mX12_discard
      simp only [pX12_in, k_10, not_false_eq_true, not_true_eq_false, if_true, if_false, Option.bind_some, pX12_thr0, pX12_thr1, pX12_thr00, pX12_thr01, pX12_thr1_, pX12_thr000, pX12_thr001, pX12_thr01_, pX12_thr1__, pX12_isTrough hE1 hI.2.1, if_neg hno]
    exact ⟨_, k_mop (m := fun S => mX12_discard hk_E0 F S 221 p1) hl hm (by rw [hk_up_eq, if_pos rfl]) (fun q => absurd q (by decide)), hk_I_same hI (hk_same_thr _ _)⟩
set_option maxHeartbeats 4000000 in
theorem mop_12_ok {F : Nat} {S : hk_S} {p1 p2 p3 p4 p5 : Int32} (hF : 2000000 ≤ F) (hI : hk_I S) : ∃ S', mop_12 F S p1 p2 p3 p4 p5 = some S' ∧ hk_I S' := by
  have hL := hk_L1 hE2
  have hA := hI.1.1
  have hN := hI.1.2.1
  rcases k_exT (F := F) hI p1 with ⟨t, ht, rfl, hn, he⟩ | ⟨hno, he⟩
  · have htr := hI.1.2.2.1 t ht
    have h0 := k_leaf0 hI.2.1 ht
    have hok := hI.2.1.2.2.2.2.2.2.2.2.2.1 t ht
    have hin := k_in (by omega) hn
    have eix : (17 : Int32) + 9 * nI t + 1 = nI (17 + 9 * t + 1) := k_idx t 1
    by_cases ql : t_why (S 222) (a_t (S 222) t) = 0
    · obtain ⟨c, nx, S1, hcc, h5, hrem, hlf1, hlo, hfin, hkeep⟩ := k_rem (F := F) hF hI
      obtain ⟨S2, o1, o2, o3⟩ := cX_dischargeLeaf (E := hk_E0) (F := F) hlf1 ht
      obtain ⟨e222, e221⟩ := hkeep S2 o3
      have hc : mX11_discharge hk_E0 F S 0 (nI t) = some (.inr (t_worth (a_t (S 222) t), S2)) := by
        unfold mX11_discharge
        rw [he, hk_xb_inr]
        dsimp only
        rw [if_pos (hk_L_t hL ht), rE_0_0 hE2, Option.bind_some, if_pos hL.1, pX5_refusalOf hN htr h0, ql, Option.bind_some]
        dsimp only
        rw [if_pos rfl, k_rf0, hk_xb_inr, rE_0_3 hE2, Option.bind_some, if_pos (kE_39 hE2), hrem, Option.bind_some, o1, Option.bind_some]
      have hl : mL_discharge hk_E0 F S 0 (nI t) 231 = some (0, hk_up S2 231 0 (t_worth (a_t (S 222) t))) := by
        unfold mL_discharge
        rw [hc]
        dsimp only
        rw [if_pos hk_ok231]
      have eM : (hk_up S2 231 0 (t_worth (a_t (S 222) t))) 222 = S 222 := by rw [hk_upne _ _ _ (by decide)]; exact e222
      have eM2 : (hk_up (hk_up S2 231 0 (t_worth (a_t (S 222) t))) 221 15 0) 222 = S 222 := by rw [hk_upne _ _ _ (by decide)]; exact eM
      have eM5 : (hk_up (hk_up S2 231 0 (t_worth (a_t (S 222) t))) 221 15 0) 221 5 = nI c := by rw [hk_up_eq, if_neg (by decide), hk_upne _ _ _ (by decide), e221]; exact h5
      have hw : a_ok ((hk_up S2 231 0 (t_worth (a_t (S 222) t))) 222) := by rw [eM]; exact hI.2.1
      obtain ⟨t1, t2, t3⟩ := k_mid S2 (t_worth (a_t (S 222) t)) 0
      have e15 : (hk_up (hk_up S2 231 0 (t_worth (a_t (S 222) t))) 221 15 0) 221 15 = 0 := by rw [hk_up_eq, if_pos rfl]
      have e231 : (hk_up (hk_up S2 231 0 (t_worth (a_t (S 222) t))) 221 15 0) 231 0 = t_worth (a_t (S 222) t) := by rw [hk_upne _ _ _ (by decide), hk_up_eq, if_pos rfl]
      generalize hMM : hk_up (hk_up S2 231 0 (t_worth (a_t (S 222) t))) 221 15 0 = MM at *
      have hmo : mX12_discharge hk_E0 F (hk_up S2 231 0 (t_worth (a_t (S 222) t))) 221 (nI t) = some (t_worth (a_t (S 222) t), k_fin MM c (a_send (S 222) t)) := by
        unfold mX12_discharge
        simp only [pX12_in, k_10, not_false_eq_true, not_true_eq_false, if_true, if_false, Option.bind_some, pX12_thr0, pX12_thr1, pX12_thr00, pX12_thr01, pX12_thr1_, pX12_thr000, pX12_thr001, pX12_thr01_, pX12_thr1__, pX12_isTrough hE1 hw, eM, hMM, if_pos hin, pX12_whyStays hE1 ht, ql]
        exact pX12_brr (op := fun M => mX12_sends hk_E0 F M 221 (nI t)) hF hcc eM5 (fun M2 h => by have e := h.trans eM2; rw [← e]; exact pX12_sends hE1 (by omega) ht)
      exact ⟨_, k_mop (m := fun S => mX12_discharge hk_E0 F S 221 (nI t)) hl hmo (by rw [k_fin_221, if_neg (by decide)]; exact e15) (fun _ => by rw [k_fin_ne _ _ _ (by decide) (by decide) (by decide) (by decide), e231]), hfin S2 _ _ o2 o3 (a_ok_send hI.2.1 ht hn) t1 t2 t3⟩
    · have hc : mX11_discharge hk_E0 F S 0 (nI t) = some (.inl (2, S)) := by
        unfold mX11_discharge
        rw [he, hk_xb_inr]
        dsimp only
        rw [if_pos (hk_L_t hL ht), rE_0_0 hE2, Option.bind_some, if_pos hL.1, pX5_refusalOf hN htr h0, Option.bind_some]
        dsimp only
        rw [if_neg ql, k_rf1, hk_xb_inl]
      have hl : mL_discharge hk_E0 F S 0 (nI t) 231 = some (2, S) := by
        unfold mL_discharge
        rw [hc]
        rfl
      have hm : mX12_discharge hk_E0 F S 221 (nI t) = some (0, hk_up S 221 15 2) := by
        unfold mX12_discharge
        simp only [pX12_in, k_10, not_false_eq_true, not_true_eq_false, if_true, if_false, Option.bind_some, pX12_thr0, pX12_thr1, pX12_thr00, pX12_thr01, pX12_thr1_, pX12_thr000, pX12_thr001, pX12_thr01_, pX12_thr1__, pX12_isTrough hE1 hI.2.1, if_pos hin, pX12_whyStays hE1 ht, ql]
      exact ⟨_, k_mop (m := fun S => mX12_discharge hk_E0 F S 221 (nI t)) hl hm (by rw [hk_up_eq, if_pos rfl]) (fun q => absurd q (by decide)), hk_I_same hI (hk_same_thr _ _)⟩
  · have hc : mX11_discharge hk_E0 F S 0 p1 = some (.inl (0, S)) := by
      unfold mX11_discharge
      rw [he, hk_xb_inl]
    have hl : mL_discharge hk_E0 F S 0 p1 231 = some (1, S) := by
      unfold mL_discharge
      rw [hc]
      rfl
    have hm : mX12_discharge hk_E0 F S 221 p1 = some (0, hk_up S 221 15 1) := by
      unfold mX12_discharge
      simp only [pX12_in, k_10, not_false_eq_true, not_true_eq_false, if_true, if_false, Option.bind_some, pX12_thr0, pX12_thr1, pX12_thr00, pX12_thr01, pX12_thr1_, pX12_thr000, pX12_thr001, pX12_thr01_, pX12_thr1__, pX12_isTrough hE1 hI.2.1, if_neg hno]
    exact ⟨_, k_mop (m := fun S => mX12_discharge hk_E0 F S 221 p1) hl hm (by rw [hk_up_eq, if_pos rfl]) (fun q => absurd q (by decide)), hk_I_same hI (hk_same_thr _ _)⟩
set_option maxHeartbeats 4000000 in
theorem mop_14_ok {F : Nat} {S : hk_S} {p1 p2 p3 p4 p5 : Int32} (hF : 2000000 ≤ F) (hI : hk_I S) : ∃ S', mop_14 F S p1 p2 p3 p4 p5 = some S' ∧ hk_I S' := by
  have hL := hk_L1 hE2
  have hA := hI.1.1
  have hN := hI.1.2.1
  rcases k_exT (F := F) hI p1 with ⟨t, ht, rfl, hn, he⟩ | ⟨hno, he⟩
  · have hin := k_in (by omega) hn
    have h9 := hI.2.1.2.2.2.2.2.2.2.2.1
    obtain ⟨m, hm6, hm⟩ := nI_of2 (x := S 222 10) (M := 6) (n := 6) (by decide) (by have := h9.1; grind) h9.2
    by_cases q : 0 ≤ p2 ∧ p2 ≤ 1
    · by_cases q3 : -50 ≤ p3 ∧ p3 ≤ 50
      · by_cases q8 : m = 6
        · have h8 : S 222 10 = 6 := by rw [hm, q8]; rfl
          have hc : mX11_addProbe hk_E0 F S 0 (nI t) p2 p3 = some (.inl (2, S)) := by
            unfold mX11_addProbe
            rw [he, hk_xb_inr]
            dsimp only
            rw [if_pos (hk_L_t hL ht), k_rq, if_pos q, hk_xb_inr, k_rq, if_pos q3, hk_xb_inr, rE_0_0 hE2, Option.bind_some, if_pos hL.1]
            unfold mX5_hasRoomForProbe
            rw [hN.2.1, h8, if_pos (by decide), Option.bind_some]
            dsimp only
            rw [if_neg (by decide), k_rf1, hk_xb_inl]
          have hl : mL_addProbe hk_E0 F S 0 (nI t) p2 p3 231 = some (3, S) := by
            unfold mL_addProbe
            rw [hc]
            rfl
          have hm : mX12_addProbe hk_E0 F S 221 (nI t) p2 p3 = some (0, hk_up S 221 15 3) := by
            unfold mX12_addProbe
            simp only [pX12_in, k_10, not_false_eq_true, not_true_eq_false, if_true, if_false, Option.bind_some, pX12_thr0, pX12_thr1, pX12_thr00, pX12_thr01, pX12_thr1_, pX12_thr000, pX12_thr001, pX12_thr01_, pX12_thr1__, pX12_isTrough hE1 hI.2.1, if_pos hin, pX12_isLayer, if_pos q, if_pos q3, rE_221_0 hE1, kE_222 hE1, lE_222 hE1, if_pos (show hk_ok 10 107 by decide), h8]
          exact ⟨_, k_mop (m := fun S => mX12_addProbe hk_E0 F S 221 (nI t) p2 p3) hl hm (by rw [hk_up_eq, if_pos rfl]) (fun q => absurd q (by decide)), hk_I_same hI (hk_same_thr _ _)⟩
        · have hlt : m < 6 := by omega
          have h8 : ¬ S 222 10 = 6 := fun z => q8 ((nI_eq (b := 6) (by omega) (by omega)).mp (hm.symm.trans z))
          have hy : p2 = 0 ∨ p2 = 1 := by grind
          obtain ⟨c, nx, S1, hcc, h5, hrem, hlf1, hlo, hfin, hkeep⟩ := k_rem (F := F) hF hI
          obtain ⟨S2, o1, o2, o3⟩ := cX_placeProbe (E := hk_E0) (F := F) (x := nI t) (y := p2) (z := p3) hL hlf1 hm hlt
          obtain ⟨e222, e221⟩ := hkeep S2 o3
          have hc : mX11_addProbe hk_E0 F S 0 (nI t) p2 p3 = some (.inr (nI m, S2)) := by
            unfold mX11_addProbe
            rw [he, hk_xb_inr]
            dsimp only
            rw [if_pos (hk_L_t hL ht), k_rq, if_pos q, hk_xb_inr, k_rq, if_pos q3, hk_xb_inr, rE_0_0 hE2, Option.bind_some, if_pos hL.1]
            unfold mX5_hasRoomForProbe
            rw [hN.2.1, hm, if_neg (show ¬ (6 : Int32) ≤ nI m from nI_ge (a := m) (b := 6) hlt (by omega)), Option.bind_some]
            dsimp only
            rw [if_pos (by decide), k_rf0, hk_xb_inr, rE_0_3 hE2, Option.bind_some, if_pos (kE_39 hE2), hrem, Option.bind_some, o1, Option.bind_some]
          have hl : mL_addProbe hk_E0 F S 0 (nI t) p2 p3 231 = some (0, hk_up S2 231 0 (nI m)) := by
            unfold mL_addProbe
            rw [hc]
            dsimp only
            rw [if_pos hk_ok231]
          have eM : (hk_up S2 231 0 (nI m)) 222 = S 222 := by rw [hk_upne _ _ _ (by decide)]; exact e222
          have eM2 : (hk_up (hk_up S2 231 0 (nI m)) 221 15 0) 222 = S 222 := by rw [hk_upne _ _ _ (by decide)]; exact eM
          have eM5 : (hk_up (hk_up S2 231 0 (nI m)) 221 15 0) 221 5 = nI c := by rw [hk_up_eq, if_neg (by decide), hk_upne _ _ _ (by decide), e221]; exact h5
          have hw : a_ok ((hk_up S2 231 0 (nI m)) 222) := by rw [eM]; exact hI.2.1
          obtain ⟨t1, t2, t3⟩ := k_mid S2 (nI m) 0
          have e15 : (hk_up (hk_up S2 231 0 (nI m)) 221 15 0) 221 15 = 0 := by rw [hk_up_eq, if_pos rfl]
          have e231 : (hk_up (hk_up S2 231 0 (nI m)) 221 15 0) 231 0 = nI m := by rw [hk_upne _ _ _ (by decide), hk_up_eq, if_pos rfl]
          generalize hMM : hk_up (hk_up S2 231 0 (nI m)) 221 15 0 = MM at *
          have hmo : mX12_addProbe hk_E0 F (hk_up S2 231 0 (nI m)) 221 (nI t) p2 p3 = some (nI m, k_fin MM c (a_put (S 222) m (nI t) p2 p3)) := by
            unfold mX12_addProbe
            simp only [pX12_in, k_10, not_false_eq_true, not_true_eq_false, if_true, if_false, Option.bind_some, pX12_thr0, pX12_thr1, pX12_thr00, pX12_thr01, pX12_thr1_, pX12_thr000, pX12_thr001, pX12_thr01_, pX12_thr1__, pX12_isTrough hE1 hw, eM, hMM, if_pos hin, pX12_isLayer, if_pos q, if_pos q3, rE_221_0 hE1, kE_222 hE1, lE_222 hE1, if_pos (show hk_ok 10 107 by decide), h8]
            exact pX12_brr (op := fun M => mX12_puts hk_E0 F M 221 (nI t) p2 p3) hF hcc eM5 (fun M2 h => by have e := h.trans eM2; rw [← e]; exact pX12_puts hE1 (by rw [e]; exact hm) hlt)
          exact ⟨_, k_mop (m := fun S => mX12_addProbe hk_E0 F S 221 (nI t) p2 p3) hl hmo (by rw [k_fin_221, if_neg (by decide)]; exact e15) (fun _ => by rw [k_fin_ne _ _ _ (by decide) (by decide) (by decide) (by decide), e231]), hfin S2 _ _ o2 o3 (a_ok_put hI.2.1 hm hlt hin hy q3) t1 t2 t3⟩
      · have hc : mX11_addProbe hk_E0 F S 0 (nI t) p2 p3 = some (.inl (1, S)) := by
          unfold mX11_addProbe
          rw [he, hk_xb_inr]
          dsimp only
          rw [if_pos (hk_L_t hL ht), k_rq, if_pos q, hk_xb_inr, k_rq, if_neg q3, hk_xb_inl]
        have hl : mL_addProbe hk_E0 F S 0 (nI t) p2 p3 231 = some (2, S) := by
          unfold mL_addProbe
          rw [hc]
          rfl
        have hm : mX12_addProbe hk_E0 F S 221 (nI t) p2 p3 = some (0, hk_up S 221 15 2) := by
          unfold mX12_addProbe
          by_cases h8 : S 222 10 = 6 <;> simp only [pX12_in, k_10, not_false_eq_true, not_true_eq_false, if_true, if_false, Option.bind_some, pX12_thr0, pX12_thr1, pX12_thr00, pX12_thr01, pX12_thr1_, pX12_thr000, pX12_thr001, pX12_thr01_, pX12_thr1__, pX12_isTrough hE1 hI.2.1, if_pos hin, pX12_isLayer, rE_221_0 hE1, kE_222 hE1, lE_222 hE1, if_pos (show hk_ok 10 107 by decide), if_pos q, if_neg q3, h8]
        exact ⟨_, k_mop (m := fun S => mX12_addProbe hk_E0 F S 221 (nI t) p2 p3) hl hm (by rw [hk_up_eq, if_pos rfl]) (fun q => absurd q (by decide)), hk_I_same hI (hk_same_thr _ _)⟩
    · have hc : mX11_addProbe hk_E0 F S 0 (nI t) p2 p3 = some (.inl (1, S)) := by
        unfold mX11_addProbe
        rw [he, hk_xb_inr]
        dsimp only
        rw [if_pos (hk_L_t hL ht), k_rq, if_neg q, hk_xb_inl]
      have hl : mL_addProbe hk_E0 F S 0 (nI t) p2 p3 231 = some (2, S) := by
        unfold mL_addProbe
        rw [hc]
        rfl
      have hm : mX12_addProbe hk_E0 F S 221 (nI t) p2 p3 = some (0, hk_up S 221 15 2) := by
        unfold mX12_addProbe
        by_cases h8 : S 222 10 = 6 <;> simp only [pX12_in, k_10, not_false_eq_true, not_true_eq_false, if_true, if_false, Option.bind_some, pX12_thr0, pX12_thr1, pX12_thr00, pX12_thr01, pX12_thr1_, pX12_thr000, pX12_thr001, pX12_thr01_, pX12_thr1__, pX12_isTrough hE1 hI.2.1, if_pos hin, pX12_isLayer, rE_221_0 hE1, kE_222 hE1, lE_222 hE1, if_pos (show hk_ok 10 107 by decide), if_neg q, h8]
      exact ⟨_, k_mop (m := fun S => mX12_addProbe hk_E0 F S 221 (nI t) p2 p3) hl hm (by rw [hk_up_eq, if_pos rfl]) (fun q => absurd q (by decide)), hk_I_same hI (hk_same_thr _ _)⟩
  · have hc : mX11_addProbe hk_E0 F S 0 p1 p2 p3 = some (.inl (0, S)) := by
      unfold mX11_addProbe
      rw [he, hk_xb_inl]
    have hl : mL_addProbe hk_E0 F S 0 p1 p2 p3 231 = some (1, S) := by
      unfold mL_addProbe
      rw [hc]
      rfl
    have hm : mX12_addProbe hk_E0 F S 221 p1 p2 p3 = some (0, hk_up S 221 15 1) := by
      unfold mX12_addProbe
      by_cases h8 : S 222 10 = 6 <;> by_cases q : 0 ≤ p2 ∧ p2 ≤ 1 <;> by_cases q3 : -50 ≤ p3 ∧ p3 ≤ 50 <;> simp only [pX12_in, k_10, not_false_eq_true, not_true_eq_false, if_true, if_false, Option.bind_some, pX12_thr0, pX12_thr1, pX12_thr00, pX12_thr01, pX12_thr1_, pX12_thr000, pX12_thr001, pX12_thr01_, pX12_thr1__, pX12_isTrough hE1 hI.2.1, if_neg hno, pX12_isLayer, rE_221_0 hE1, kE_222 hE1, lE_222 hE1, if_pos (show hk_ok 10 107 by decide), q, q3, and_self, h8]
    exact ⟨_, k_mop (m := fun S => mX12_addProbe hk_E0 F S 221 p1 p2 p3) hl hm (by rw [hk_up_eq, if_pos rfl]) (fun q => absurd q (by decide)), hk_I_same hI (hk_same_thr _ _)⟩
set_option maxHeartbeats 4000000 in
theorem mop_15_ok {F : Nat} {S : hk_S} {p1 p2 p3 p4 p5 : Int32} (hF : 2000000 ≤ F) (hI : hk_I S) : ∃ S', mop_15 F S p1 p2 p3 p4 p5 = some S' ∧ hk_I S' := by
  have hL := hk_L1 hE2
  have hA := hI.1.1
  have hN := hI.1.2.1
  rcases k_exP (F := F) hI p1 with ⟨m, hm, rfl, hmn, hp⟩ | ⟨hnp, hp⟩
  · have hinp := k_in (by omega) hmn
    have ei1 : (89 : Int32) + 3 * nI m + 1 = nI (89 + 3 * m + 1) := k_idp m 1
    have ei0 : (89 : Int32) + 3 * nI m + 0 = nI (89 + 3 * m + 0) := k_idp m 0
    rcases k_exT (F := F) hI p2 with ⟨t, ht, rfl, hn, he⟩ | ⟨hno, he⟩
    · have hin := k_in (by omega) hn
      by_cases q : 0 ≤ p3 ∧ p3 ≤ 1
      · have hy : p3 = 0 ∨ p3 = 1 := by grind
        have g := hI.1.2.2.2 m hm hmn
        obtain ⟨c, nx, S1, hcc, h5, hrem, hlf1, hlo, hfin, hkeep⟩ := k_rem (F := F) hF hI
        obtain ⟨S2, o1, o2, o3⟩ := show ∃ S2, S2 = hk_up (hk_up S1 (1 + 13 + m) 0 (nI t)) (1 + 13 + m) 1 p3 ∧ hk_lf S2 1 (a_move (S 222) m (nI t) p3) ∧ hk_fr 1 S1 S2 from ⟨_, rfl, cX_move hlf1 hm, hk_fr_up (hk_fr_up (hk_fr_refl _ _) (by omega) (by omega) _ _) (by omega) (by omega) _ _⟩
        obtain ⟨e222, e221⟩ := hkeep S2 o3
        have hc : mX11_moveProbe hk_E0 F S 0 (nI m) (nI t) p3 = some (.inr (a_p (S 222) m 0, S2)) := by
          unfold mX11_moveProbe
          rw [hp, hk_xb_inr]
          dsimp only
          rw [if_pos (hk_L_p hL hm), he, hk_xb_inr]
          dsimp only
          rw [if_pos (hk_L_t hL ht), k_rq, if_pos q, hk_xb_inr, rE_0_3 hE2, Option.bind_some, if_pos (kE_39 hE2), rE_0_0 hE2, Option.bind_some, if_pos hL.1, hrem, Option.bind_some]
          simp only [hk_let_eq]
          rw [← o1, (hlf1.2.2.2 m hm hmn).1]
        have hl : mL_moveProbe hk_E0 F S 0 (nI m) (nI t) p3 231 = some (0, hk_up S2 231 0 (a_p (S 222) m 0)) := by
          unfold mL_moveProbe
          rw [hc]
          dsimp only
          rw [if_pos hk_ok231]
        have eM : (hk_up S2 231 0 (a_p (S 222) m 0)) 222 = S 222 := by rw [hk_upne _ _ _ (by decide)]; exact e222
        have eM2 : (hk_up (hk_up S2 231 0 (a_p (S 222) m 0)) 221 15 0) 222 = S 222 := by rw [hk_upne _ _ _ (by decide)]; exact eM
        have eM5 : (hk_up (hk_up S2 231 0 (a_p (S 222) m 0)) 221 15 0) 221 5 = nI c := by rw [hk_up_eq, if_neg (by decide), hk_upne _ _ _ (by decide), e221]; exact h5
        have hw : a_ok ((hk_up S2 231 0 (a_p (S 222) m 0)) 222) := by rw [eM]; exact hI.2.1
        obtain ⟨t1, t2, t3⟩ := k_mid S2 (a_p (S 222) m 0) 0
        have e15 : (hk_up (hk_up S2 231 0 (a_p (S 222) m 0)) 221 15 0) 221 15 = 0 := by rw [hk_up_eq, if_pos rfl]
        have e231 : (hk_up (hk_up S2 231 0 (a_p (S 222) m 0)) 221 15 0) 231 0 = a_p (S 222) m 0 := by rw [hk_upne _ _ _ (by decide), hk_up_eq, if_pos rfl]
        generalize hMM : hk_up (hk_up S2 231 0 (a_p (S 222) m 0)) 221 15 0 = MM at *
        have hmo : mX12_moveProbe hk_E0 F (hk_up S2 231 0 (a_p (S 222) m 0)) 221 (nI m) (nI t) p3 = some (a_p (S 222) m 0, k_fin MM c (a_move (S 222) m (nI t) p3)) := by
          unfold mX12_moveProbe
          simp only [pX12_in, k_10, not_false_eq_true, not_true_eq_false, if_true, if_false, Option.bind_some, pX12_thr0, pX12_thr1, pX12_thr00, pX12_thr01, pX12_thr1_, pX12_thr000, pX12_thr001, pX12_thr01_, pX12_thr1__, pX12_isProbe hE1 hw, pX12_isTrough hE1 hw, eM, hMM, if_pos hinp, if_pos hin, pX12_isLayer, if_pos q]
          have := pX12_brr (F := F) (op := fun M => (hk_E0.2.2.2 221 0).bind (fun r28 => if hk_E0.2.1 r28 = 13 then (if hk_ok ((89 + (3 * nI m)) + 1) (hk_E0.2.2.1 r28) then (hk_let (hk_up M r28 ((((89 + (3 * nI m)) + 1)).toNatClampNeg) p3) (fun S30 => mX12_sets hk_E0 F S30 221 ((89 + (3 * nI m)) + 0) (nI t))) else none) else none)) (v := a_p (S 222) m 0) (w' := a_move (S 222) m (nI t) p3) hF hcc eM5 (fun M2 h => by
            have e := h.trans eM2
            rw [← e, rE_221_0 hE1, Option.bind_some, if_pos (kE_222 hE1), lE_222 hE1, ei1, if_pos (hk_okI (by omega) (by omega)), hk_let_eq, ei0, pX12_sets hE1 (by omega), nI_clamp (by omega), k_hk_up, va_up_self, k_upup, upd_at, if_neg (by omega)]
            rfl)
          rw [← this]
          simp only [rE_221_0 hE1, kE_222 hE1, lE_222 hE1, Option.bind_some, if_true, ei1, if_pos (hk_okI (show 89 + 3 * m + 1 < 107 by omega) (by omega)), hk_let_eq]
        exact ⟨_, k_mop (m := fun S => mX12_moveProbe hk_E0 F S 221 (nI m) (nI t) p3) hl hmo (by rw [k_fin_221, if_neg (by decide)]; exact e15) (fun _ => by rw [k_fin_ne _ _ _ (by decide) (by decide) (by decide) (by decide), e231]), hfin S2 _ _ o2 o3 (a_ok_move hI.2.1 hm hin hy) t1 t2 t3⟩
      · have hc : mX11_moveProbe hk_E0 F S 0 (nI m) (nI t) p3 = some (.inl (1, S)) := by
          unfold mX11_moveProbe
          rw [hp, hk_xb_inr]
          dsimp only
          rw [if_pos (hk_L_p hL hm), he, hk_xb_inr]
          dsimp only
          rw [if_pos (hk_L_t hL ht), k_rq, if_neg q, hk_xb_inl]
        have hl : mL_moveProbe hk_E0 F S 0 (nI m) (nI t) p3 231 = some (2, S) := by
          unfold mL_moveProbe
          rw [hc]
          rfl
        have hm : mX12_moveProbe hk_E0 F S 221 (nI m) (nI t) p3 = some (0, hk_up S 221 15 2) := by
          unfold mX12_moveProbe
          simp only [pX12_in, k_10, not_false_eq_true, not_true_eq_false, if_true, if_false, Option.bind_some, pX12_thr0, pX12_thr1, pX12_thr00, pX12_thr01, pX12_thr1_, pX12_thr000, pX12_thr001, pX12_thr01_, pX12_thr1__, pX12_isProbe hE1 hI.2.1, pX12_isTrough hE1 hI.2.1, if_pos hinp, if_pos hin, pX12_isLayer, if_neg q]
        exact ⟨_, k_mop (m := fun S => mX12_moveProbe hk_E0 F S 221 (nI m) (nI t) p3) hl hm (by rw [hk_up_eq, if_pos rfl]) (fun q => absurd q (by decide)), hk_I_same hI (hk_same_thr _ _)⟩
    · have hc : mX11_moveProbe hk_E0 F S 0 (nI m) p2 p3 = some (.inl (0, S)) := by
        unfold mX11_moveProbe
        rw [hp, hk_xb_inr]
        dsimp only
        rw [if_pos (hk_L_p hL hm), he, hk_xb_inl]
      have hl : mL_moveProbe hk_E0 F S 0 (nI m) p2 p3 231 = some (1, S) := by
        unfold mL_moveProbe
        rw [hc]
        rfl
      have hm : mX12_moveProbe hk_E0 F S 221 (nI m) p2 p3 = some (0, hk_up S 221 15 1) := by
        unfold mX12_moveProbe
        by_cases q : 0 ≤ p3 ∧ p3 ≤ 1 <;> simp only [pX12_in, k_10, not_false_eq_true, not_true_eq_false, if_true, if_false, Option.bind_some, pX12_thr0, pX12_thr1, pX12_thr00, pX12_thr01, pX12_thr1_, pX12_thr000, pX12_thr001, pX12_thr01_, pX12_thr1__, pX12_isProbe hE1 hI.2.1, pX12_isTrough hE1 hI.2.1, if_pos hinp, if_neg hno, pX12_isLayer, q, and_self]
      exact ⟨_, k_mop (m := fun S => mX12_moveProbe hk_E0 F S 221 (nI m) p2 p3) hl hm (by rw [hk_up_eq, if_pos rfl]) (fun q => absurd q (by decide)), hk_I_same hI (hk_same_thr _ _)⟩
  · have hc : mX11_moveProbe hk_E0 F S 0 p1 p2 p3 = some (.inl (0, S)) := by
      unfold mX11_moveProbe
      rw [hp, hk_xb_inl]
    have hl : mL_moveProbe hk_E0 F S 0 p1 p2 p3 231 = some (1, S) := by
      unfold mL_moveProbe
      rw [hc]
      rfl
    have hm : mX12_moveProbe hk_E0 F S 221 p1 p2 p3 = some (0, hk_up S 221 15 1) := by
      unfold mX12_moveProbe
      by_cases q : 0 ≤ p3 ∧ p3 ≤ 1 <;> simp only [pX12_in, k_10, not_false_eq_true, not_true_eq_false, if_true, if_false, Option.bind_some, pX12_thr0, pX12_thr1, pX12_thr00, pX12_thr01, pX12_thr1_, pX12_thr000, pX12_thr001, pX12_thr01_, pX12_thr1__, pX12_isProbe hE1 hI.2.1, if_neg hnp, pX12_isLayer, q, and_self]
    exact ⟨_, k_mop (m := fun S => mX12_moveProbe hk_E0 F S 221 p1 p2 p3) hl hm (by rw [hk_up_eq, if_pos rfl]) (fun q => absurd q (by decide)), hk_I_same hI (hk_same_thr _ _)⟩
set_option maxHeartbeats 4000000 in
theorem mop_16_ok {F : Nat} {S : hk_S} {p1 p2 p3 p4 p5 : Int32} (hF : 2000000 ≤ F) (hI : hk_I S) : ∃ S', mop_16 F S p1 p2 p3 p4 p5 = some S' ∧ hk_I S' := by
  have hL := hk_L1 hE2
  have hA := hI.1.1
  have hN := hI.1.2.1
  rcases k_exP (F := F) hI p1 with ⟨m, hm, rfl, hmn, hp⟩ | ⟨hnp, hp⟩
  · have hinp := k_in (by omega) hmn
    have ei2 : (89 : Int32) + 3 * nI m + 2 = nI (89 + 3 * m + 2) := k_idp m 2
    obtain ⟨c, nx, S1, hcc, h5, hrem, hlf1, hlo, hfin, hkeep⟩ := k_rem (F := F) hF hI
    obtain ⟨S2, o1, o2, o3⟩ := show ∃ S2, S2 = hk_up S1 (1 + 13 + m) 2 0 ∧ hk_lf S2 1 (a_cal (S 222) m) ∧ hk_fr 1 S1 S2 from ⟨_, rfl, cX_cal hlf1 hm, hk_fr_up (hk_fr_refl _ _) (by omega) (by omega) _ _⟩
    obtain ⟨e222, e221⟩ := hkeep S2 o3
    have hc : mX11_calibrate hk_E0 F S 0 (nI m) = some (.inr (a_p (S 222) m 2, S2)) := by
      unfold mX11_calibrate
      rw [hp, hk_xb_inr]
      dsimp only
      rw [if_pos (hk_L_p hL hm), rE_0_3 hE2, Option.bind_some, if_pos (kE_39 hE2), rE_0_0 hE2, Option.bind_some, if_pos hL.1, hrem, Option.bind_some]
      simp only [hk_let_eq]
      rw [← o1, (hlf1.2.2.2 m hm hmn).2.2]
    have hl : mL_calibrate hk_E0 F S 0 (nI m) 231 = some (0, hk_up S2 231 0 (a_p (S 222) m 2)) := by
      unfold mL_calibrate
      rw [hc]
      dsimp only
      rw [if_pos hk_ok231]
    have eM : (hk_up S2 231 0 (a_p (S 222) m 2)) 222 = S 222 := by rw [hk_upne _ _ _ (by decide)]; exact e222
    have eM2 : (hk_up (hk_up S2 231 0 (a_p (S 222) m 2)) 221 15 0) 222 = S 222 := by rw [hk_upne _ _ _ (by decide)]; exact eM
    have eM5 : (hk_up (hk_up S2 231 0 (a_p (S 222) m 2)) 221 15 0) 221 5 = nI c := by rw [hk_up_eq, if_neg (by decide), hk_upne _ _ _ (by decide), e221]; exact h5
    have hw : a_ok ((hk_up S2 231 0 (a_p (S 222) m 2)) 222) := by rw [eM]; exact hI.2.1
    obtain ⟨t1, t2, t3⟩ := k_mid S2 (a_p (S 222) m 2) 0
    have e15 : (hk_up (hk_up S2 231 0 (a_p (S 222) m 2)) 221 15 0) 221 15 = 0 := by rw [hk_up_eq, if_pos rfl]
    have e231 : (hk_up (hk_up S2 231 0 (a_p (S 222) m 2)) 221 15 0) 231 0 = a_p (S 222) m 2 := by rw [hk_upne _ _ _ (by decide), hk_up_eq, if_pos rfl]
    generalize hMM : hk_up (hk_up S2 231 0 (a_p (S 222) m 2)) 221 15 0 = MM at *
    have hmo : mX12_calibrate hk_E0 F (hk_up S2 231 0 (a_p (S 222) m 2)) 221 (nI m) = some (a_p (S 222) m 2, k_fin MM c (a_cal (S 222) m)) := by
      unfold mX12_calibrate
      simp only [pX12_in, k_10, not_false_eq_true, not_true_eq_false, if_true, if_false, Option.bind_some, pX12_thr0, pX12_thr1, pX12_thr00, pX12_thr01, pX12_thr1_, pX12_thr000, pX12_thr001, pX12_thr01_, pX12_thr1__, pX12_isProbe hE1 hw, eM, hMM, if_pos hinp]
      unfold mX12_setOne
      rw [ei2]
      have := pX12_brr (F := F) (op := fun M => mX12_sets hk_E0 F M 221 (nI (89 + 3 * m + 2)) 0) (v := a_p (S 222) m 2) (w' := a_cal (S 222) m) hF hcc eM5 (fun M2 h => by have e := h.trans eM2; rw [← e]; exact pX12_sets hE1 (by omega))
      rw [this, Option.bind_some]
    exact ⟨_, k_mop (m := fun S => mX12_calibrate hk_E0 F S 221 (nI m)) hl hmo (by rw [k_fin_221, if_neg (by decide)]; exact e15) (fun _ => by rw [k_fin_ne _ _ _ (by decide) (by decide) (by decide) (by decide), e231]), hfin S2 _ _ o2 o3 (a_ok_cal hI.2.1 hm) t1 t2 t3⟩
  · have hc : mX11_calibrate hk_E0 F S 0 p1 = some (.inl (0, S)) := by
      unfold mX11_calibrate
      rw [hp, hk_xb_inl]
    have hl : mL_calibrate hk_E0 F S 0 p1 231 = some (1, S) := by
      unfold mL_calibrate
      rw [hc]
      rfl
    have hm : mX12_calibrate hk_E0 F S 221 p1 = some (0, hk_up S 221 15 1) := by
      unfold mX12_calibrate
      simp only [pX12_in, k_10, not_false_eq_true, not_true_eq_false, if_true, if_false, Option.bind_some, pX12_thr0, pX12_thr1, pX12_thr00, pX12_thr01, pX12_thr1_, pX12_thr000, pX12_thr001, pX12_thr01_, pX12_thr1__, pX12_isProbe hE1 hI.2.1, if_neg hnp]
    exact ⟨_, k_mop (m := fun S => mX12_calibrate hk_E0 F S 221 p1) hl hm (by rw [hk_up_eq, if_pos rfl]) (fun q => absurd q (by decide)), hk_I_same hI (hk_same_thr _ _)⟩
set_option maxHeartbeats 4000000 in
theorem mop_17_ok {F : Nat} {S : hk_S} {p1 p2 p3 p4 p5 : Int32} (hF : 2000000 ≤ F) (hI : hk_I S) : ∃ S', mop_17 F S p1 p2 p3 p4 p5 = some S' ∧ hk_I S' := by
  have hL := hk_L1 hE2
  have hA := hI.1.1
  have hN := hI.1.2.1
  have h0 := hI.2.1.1
  by_cases q : 1 ≤ p1 ∧ p1 ≤ 200
  · obtain ⟨d, hd, rfl⟩ := nI_of2 (x := p1) (M := 200) (n := 200) (by decide) (by grind) q.2
    by_cases q2 : S 222 0 + nI d ≤ 2000
    · have q3 : S 222 0 ≤ 2000 - nI d := by
        have := q.2
        have := q.1
        have := h0.1
        have := h0.2
        generalize S 222 0 = x at *
        generalize nI d = y at *
        grind
      have q4 : ¬ 2000 - S 222 0 < nI d := by
        have := q.2
        have := q.1
        have := h0.1
        have := h0.2
        generalize S 222 0 = x at *
        generalize nI d = y at *
        grind
      have hp := a_pass_ok d hI.2.1 (by omega) q3
      obtain ⟨c, nx, S1, hcc, h5, hrem, hlf1, hlo, hfin, hkeep⟩ := k_rem (F := F) hF hI
      obtain ⟨S2, o1, o2, o3⟩ := pX5_pass (E := hk_E0) (F := F) (d := d) hL (by omega) (by omega) hlf1 hI.2.1 q3
      obtain ⟨e222, e221⟩ := hkeep S2 o3
      have hc : mX11_passHours hk_E0 F S 0 (nI d) = some (.inr (S 222 0 + nI d, S2)) := by
        unfold mX11_passHours
        rw [k_rq, if_pos q, hk_xb_inr, rE_0_0 hE2, Option.bind_some, if_pos hL.1, hL.2.2.2.2.2.2.2.1, Option.bind_some, if_pos hL.2.1]
        unfold mX1_hasHoursLeft
        rw [hA.1, if_neg q4, Option.bind_some]
        dsimp only
        rw [if_pos (by decide), k_rf0, hk_xb_inr, rE_0_3 hE2, Option.bind_some, if_pos (kE_39 hE2), hrem, Option.bind_some, o1, Option.bind_some, o2.1.1, hp.2.1]
      have hl : mL_passHours hk_E0 F S 0 (nI d) 231 = some (0, hk_up S2 231 0 (S 222 0 + nI d)) := by
        unfold mL_passHours
        rw [hc]
        dsimp only
        rw [if_pos hk_ok231]
      have eM : (hk_up S2 231 0 (S 222 0 + nI d)) 222 = S 222 := by rw [hk_upne _ _ _ (by decide)]; exact e222
      have eM2 : (hk_up (hk_up S2 231 0 (S 222 0 + nI d)) 221 15 0) 222 = S 222 := by rw [hk_upne _ _ _ (by decide)]; exact eM
      have eM5 : (hk_up (hk_up S2 231 0 (S 222 0 + nI d)) 221 15 0) 221 5 = nI c := by rw [hk_up_eq, if_neg (by decide), hk_upne _ _ _ (by decide), e221]; exact h5
      have hw : a_ok ((hk_up S2 231 0 (S 222 0 + nI d)) 222) := by rw [eM]; exact hI.2.1
      obtain ⟨t1, t2, t3⟩ := k_mid S2 (S 222 0 + nI d) 0
      have e15 : (hk_up (hk_up S2 231 0 (S 222 0 + nI d)) 221 15 0) 221 15 = 0 := by rw [hk_up_eq, if_pos rfl]
      have e231 : (hk_up (hk_up S2 231 0 (S 222 0 + nI d)) 221 15 0) 231 0 = S 222 0 + nI d := by rw [hk_upne _ _ _ (by decide), hk_up_eq, if_pos rfl]
      generalize hMM : hk_up (hk_up S2 231 0 (S 222 0 + nI d)) 221 15 0 = MM at *
      have hmo : mX12_passHours hk_E0 F (hk_up S2 231 0 (S 222 0 + nI d)) 221 (nI d) = some (S 222 0 + nI d, k_fin MM c (a_pass d (S 222))) := by
        unfold mX12_passHours
        simp only [pX12_in, k_10, not_false_eq_true, not_true_eq_false, if_true, if_false, Option.bind_some, pX12_thr0, pX12_thr1, pX12_thr00, pX12_thr01, pX12_thr1_, pX12_thr000, pX12_thr001, pX12_thr01_, pX12_thr1__, if_pos q, rE_221_0 hE1, kE_222 hE1, lE_222 hE1, if_pos (show hk_ok 0 107 by decide), eM, hMM, if_pos q2]
        exact pX12_brr (op := fun M => mX12_passes hk_E0 F M 221 (nI d)) hF hcc eM5 (fun M2 h => by have e := h.trans eM2; rw [← e]; exact pX12_passes hE1 (by omega) (by omega) (by rw [e]; exact hI.2.1) (by rw [e]; exact q3))
      exact ⟨_, k_mop (m := fun S => mX12_passHours hk_E0 F S 221 (nI d)) hl hmo (by rw [k_fin_221, if_neg (by decide)]; exact e15) (fun _ => by rw [k_fin_ne _ _ _ (by decide) (by decide) (by decide) (by decide), e231]), hfin S2 _ _ o2 o3 (hp.1) t1 t2 t3⟩
    · have hc : mX11_passHours hk_E0 F S 0 (nI d) = some (.inl (2, S)) := by
        unfold mX11_passHours
        rw [k_rq, if_pos q, hk_xb_inr, rE_0_0 hE2, Option.bind_some, if_pos hL.1, hL.2.2.2.2.2.2.2.1, Option.bind_some, if_pos hL.2.1]
        unfold mX1_hasHoursLeft
        rw [hA.1, if_pos (by
          have := q.2
          have := q.1
          have := h0.1
          have := h0.2
          generalize S 222 0 = x at *
          generalize nI d = y at *
          grind), Option.bind_some]
        dsimp only
        rw [if_neg (by decide), k_rf1, hk_xb_inl]
      have hl : mL_passHours hk_E0 F S 0 (nI d) 231 = some (2, S) := by
        unfold mL_passHours
        rw [hc]
        rfl
      have hm : mX12_passHours hk_E0 F S 221 (nI d) = some (0, hk_up S 221 15 2) := by
        unfold mX12_passHours
        simp only [pX12_in, k_10, not_false_eq_true, not_true_eq_false, if_true, if_false, Option.bind_some, pX12_thr0, pX12_thr1, pX12_thr00, pX12_thr01, pX12_thr1_, pX12_thr000, pX12_thr001, pX12_thr01_, pX12_thr1__, if_pos q, rE_221_0 hE1, kE_222 hE1, lE_222 hE1, if_pos (show hk_ok 0 107 by decide), if_neg q2]
      exact ⟨_, k_mop (m := fun S => mX12_passHours hk_E0 F S 221 (nI d)) hl hm (by rw [hk_up_eq, if_pos rfl]) (fun q => absurd q (by decide)), hk_I_same hI (hk_same_thr _ _)⟩
  · have hc : mX11_passHours hk_E0 F S 0 p1 = some (.inl (1, S)) := by
      unfold mX11_passHours
      rw [k_rq, if_neg q, hk_xb_inl]
    have hl : mL_passHours hk_E0 F S 0 p1 231 = some (1, S) := by
      unfold mL_passHours
      rw [hc]
      rfl
    have hm : mX12_passHours hk_E0 F S 221 p1 = some (0, hk_up S 221 15 1) := by
      unfold mX12_passHours
      simp only [pX12_in, k_10, not_false_eq_true, not_true_eq_false, if_true, if_false, Option.bind_some, pX12_thr0, pX12_thr1, pX12_thr00, pX12_thr01, pX12_thr1_, pX12_thr000, pX12_thr001, pX12_thr01_, pX12_thr1__, if_neg q]
    exact ⟨_, k_mop (m := fun S => mX12_passHours hk_E0 F S 221 p1) hl hm (by rw [hk_up_eq, if_pos rfl]) (fun q => absurd q (by decide)), hk_I_same hI (hk_same_thr _ _)⟩
