/-! predictions -/
theorem k_rdv {w W : Nat → Int32} {t : Nat} {v : Nat → Int32} (h : k_tw W w t v) : (W 3 = w 3 ∧ W 4 = w 4) ∧ a_t W t 3 = v 3 ∧ a_t W t 4 = v 4 ∧ a_t W t 5 = v 5 := ⟨⟨h.1 3 (by omega) (by omega), h.1 4 (by omega) (by omega)⟩, h.2 3 (by omega), h.2 4 (by omega), h.2 5 (by omega)⟩
/-- ready, of a trough's numbers -/
def t_rb (w v : Nat → Int32) : Bool := decide (¬ v 3 = 0 ∧ (w 3 - w 4 ≤ v 4 ∧ v 4 ≤ w 3 + w 4) ∧ (w 3 - w 4 ≤ v 5 ∧ v 5 ≤ w 3 + w 4))
theorem t_rb_none {w v : Nat → Int32} (h : v 3 = 0) : t_rb w v = false := by
  unfold t_rb
  rw [h]
  simp
theorem cX_rb {E : hk_E} {F b a : Nat} {S : hk_S} {w v : Nat → Int32} (hn : hk_num S b w) (ht : hk_tr (S a) v) (h0 : 0 ≤ v 3) : mX5_isReady E F S b a = some (if t_rb w v = true then 1 else 0, S) := by
  rw [pX5_isReady hn ht h0]
  unfold t_rb
  simp only [decide_eq_true_eq]
theorem mX_rb {E : hk_E} {F t : Nat} {M : hk_S} {w v : Nat → Int32} (hE : hk_Sh 231 E) (ht : t < 8) (h : k_tw (M 222) w t v) : mX12_isReady E F M 221 (nI t) = some (if t_rb w v = true then 1 else 0, M) := by
  obtain ⟨⟨e3, e4⟩, f3, f4, f5⟩ := k_rdv h
  rw [pX12_isReady hE ht, e3, e4, f3, f4, f5]
  unfold t_rb
  simp only [decide_eq_true_eq]
/-- the first of some numbers -/
def k_fr (P : Nat → Bool) : Nat → Nat → Int32
  | 0, z => if P z = true then nI z else -1
  | d + 1, z => if P z = true then nI z else k_fr P d (z + 1)
theorem k_fr_0 (P : Nat → Bool) (z : Nat) : k_fr P 0 z = if P z = true then nI z else -1 := rfl
theorem k_fr_none {P : Nat → Bool} (h : ∀ z, P z = false) : ∀ d z, k_fr P d z = -1 := by
  intro d
  induction d with
  | zero => intro z; rw [k_fr, h, if_neg (by decide)]
  | succ d ih => intro z; rw [k_fr, h, if_neg (by decide), ih]
set_option maxHeartbeats 4000000 in
theorem mop_50_ok {F : Nat} {S : hk_S} {p1 p2 p3 p4 p5 : Int32} (hF : 2000000 ≤ F) (hI : hk_I S) : ∃ S', mop_50 F S p1 p2 p3 p4 p5 = some S' ∧ hk_I S' := by
  have hL := hk_L1 hE2
  have hA := hI.1.1
  have hN := hI.1.2.1
  rcases k_exT (F := F) hI p1 with ⟨t, ht, rfl, hn, he⟩ | ⟨hno, he⟩
  · have htr := hI.1.2.2.1 t ht
    have h0 := k_leaf0 hI.2.1 ht
    have hok := hI.2.1.2.2.2.2.2.2.2.2.2.1 t ht
    have hin := k_in (by omega) hn
    by_cases q : 0 ≤ p2 ∧ p2 ≤ 1
    · by_cases q3 : 0 ≤ p3 ∧ p3 ≤ 200
      · obtain ⟨n, hn2, rfl⟩ := nI_of2 (x := p3) (M := 200) (n := 200) (by decide) (by grind) q3.2
        have hy : p2 = nI 0 ∨ p2 = nI 1 := by
          have : p2 = 0 ∨ p2 = 1 := by grind
          exact this
        by_cases ql : a_t (S 222) t 3 = 0
        · have hsame := hk_same_refl S
          have hc : mX11_moistureAfter hk_E0 F S 0 (nI t) p2 (nI n) = some (.inr ((-1), S)) := by
            unfold mX11_moistureAfter
            rw [he, hk_xb_inr]
            dsimp only
            rw [if_pos (hk_L_t hL ht), k_rq, if_pos q, hk_xb_inr, k_rq, if_pos q3, hk_xb_inr, pX10_hasLeaf htr h0, Option.bind_some]
            dsimp only
            rw [if_pos ql, if_neg (by decide)]
          have hl : mL_moistureAfter hk_E0 F S 0 (nI t) p2 (nI n) 231 = some (0, hk_up S 231 0 ((-1))) := by
            unfold mL_moistureAfter
            rw [hc]
            dsimp only
            rw [if_pos hk_ok231]
          have hs1 : hk_same S (hk_up S 231 0 ((-1))) := hk_same_trans hsame (hk_same_out _ _)
          have eM : (hk_up S 231 0 ((-1))) 222 = S 222 := hs1.2.2.1
          have hw : a_ok ((hk_up S 231 0 ((-1))) 222) := by rw [eM]; exact hI.2.1
          have hs2 : hk_same S (hk_up (hk_up S 231 0 ((-1))) 221 15 0) := hk_same_trans hs1 (hk_same_thr _ _)
          have eM2 : (hk_up (hk_up S 231 0 ((-1))) 221 15 0) 222 = S 222 := hs2.2.2.1
          generalize hMM : hk_up (hk_up S 231 0 ((-1))) 221 15 0 = MM at *
          have e15 : MM 221 15 = 0 := by rw [← hMM, hk_up_eq, if_pos rfl]
          have e231 : MM 231 0 = (-1) := by rw [← hMM, hk_upne _ _ _ (by decide), hk_up_eq, if_pos rfl]
          have hm : ∃ N, mX12_moistureAfter hk_E0 F (hk_up S 231 0 ((-1))) 221 (nI t) p2 (nI n) = some ((-1), N) ∧ hk_same MM N ∧ N 221 15 = MM 221 15 ∧ N 231 = MM 231 := by
            unfold mX12_moistureAfter
            simp only [pX12_in, k_10, not_false_eq_true, not_true_eq_false, if_true, if_false, Option.bind_some, pX12_thr0, pX12_thr1, pX12_thr00, pX12_thr01, pX12_thr1_, pX12_thr000, pX12_thr001, pX12_thr01_, pX12_thr1__, pX12_isTrough hE1 hw, eM, if_pos hin, pX12_isLayer, if_pos q, if_pos q3, hMM]
            refine ⟨MM, ?_, hk_same_refl _, rfl, rfl⟩
            have hem : mX12_isEmpty hk_E0 F MM 221 (nI t) = some (1, MM) := by rw [pX12_isEmpty hE1 ht, eM2, if_pos ql]
            rw [hem, Option.bind_some]
            dsimp only
            rw [if_neg (by decide)]
          obtain ⟨N, hm, n1, n2, n3⟩ := hm
          exact ⟨N, k_mop (m := fun S => mX12_moistureAfter hk_E0 F S 221 (nI t) p2 (nI n)) hl hm (n2.trans e15) (fun _ => by rw [n3]; exact e231), hk_I_same hI (hk_same_trans hs2 n1)⟩
        · obtain ⟨S1, r1, r2, r3⟩ := k_tri (F := F) ht htr
          obtain ⟨S2, s1, s2, s3⟩ := cX_trial (F := F) (n := n) (S := S1) (by omega) (by omega) hI.2.1 hok (k_air_ext hA (fun a ha => r3 a (by omega))) r2
          have hsame : hk_same S S2 := hk_same_trial (fun a ha => (s3 a ha).trans (r3 a ha))
          have hc : mX11_moistureAfter hk_E0 F S 0 (nI t) p2 (nI n) = some (.inr (if p2 = 0 then t_go (S 222) (a_t (S 222) t) 0 n 4 else t_go (S 222) (a_t (S 222) t) 0 n 5, S2)) := by
            unfold mX11_moistureAfter
            rw [he, hk_xb_inr]
            dsimp only
            rw [if_pos (hk_L_t hL ht), k_rq, if_pos q, hk_xb_inr, k_rq, if_pos q3, hk_xb_inr, pX10_hasLeaf htr h0, Option.bind_some]
            dsimp only
            rw [if_neg ql, if_pos (by decide), rE_0_6 hE2, Option.bind_some, if_pos (kE_220 hE2), r1, Option.bind_some, s1, Option.bind_some]
            unfold mX10_moistureOf
            by_cases z : p2 = 0
            · rw [if_neg (fun y => y z), if_pos z, s2.2.2.2.2.2.2.1, Option.bind_some]
            · rw [if_pos z, if_neg z, s2.2.2.2.2.2.2.2.1, Option.bind_some]
          have hl : mL_moistureAfter hk_E0 F S 0 (nI t) p2 (nI n) 231 = some (0, hk_up S2 231 0 (if p2 = 0 then t_go (S 222) (a_t (S 222) t) 0 n 4 else t_go (S 222) (a_t (S 222) t) 0 n 5)) := by
            unfold mL_moistureAfter
            rw [hc]
            dsimp only
            rw [if_pos hk_ok231]
          have hs1 : hk_same S (hk_up S2 231 0 (if p2 = 0 then t_go (S 222) (a_t (S 222) t) 0 n 4 else t_go (S 222) (a_t (S 222) t) 0 n 5)) := hk_same_trans hsame (hk_same_out _ _)
          have eM : (hk_up S2 231 0 (if p2 = 0 then t_go (S 222) (a_t (S 222) t) 0 n 4 else t_go (S 222) (a_t (S 222) t) 0 n 5)) 222 = S 222 := hs1.2.2.1
          have hw : a_ok ((hk_up S2 231 0 (if p2 = 0 then t_go (S 222) (a_t (S 222) t) 0 n 4 else t_go (S 222) (a_t (S 222) t) 0 n 5)) 222) := by rw [eM]; exact hI.2.1
          have hs2 : hk_same S (hk_up (hk_up S2 231 0 (if p2 = 0 then t_go (S 222) (a_t (S 222) t) 0 n 4 else t_go (S 222) (a_t (S 222) t) 0 n 5)) 221 15 0) := hk_same_trans hs1 (hk_same_thr _ _)
          have eM2 : (hk_up (hk_up S2 231 0 (if p2 = 0 then t_go (S 222) (a_t (S 222) t) 0 n 4 else t_go (S 222) (a_t (S 222) t) 0 n 5)) 221 15 0) 222 = S 222 := hs2.2.2.1
          generalize hMM : hk_up (hk_up S2 231 0 (if p2 = 0 then t_go (S 222) (a_t (S 222) t) 0 n 4 else t_go (S 222) (a_t (S 222) t) 0 n 5)) 221 15 0 = MM at *
          have e15 : MM 221 15 = 0 := by rw [← hMM, hk_up_eq, if_pos rfl]
          have e231 : MM 231 0 = if p2 = 0 then t_go (S 222) (a_t (S 222) t) 0 n 4 else t_go (S 222) (a_t (S 222) t) 0 n 5 := by rw [← hMM, hk_upne _ _ _ (by decide), hk_up_eq, if_pos rfl]
          have hm : ∃ N, mX12_moistureAfter hk_E0 F (hk_up S2 231 0 (if p2 = 0 then t_go (S 222) (a_t (S 222) t) 0 n 4 else t_go (S 222) (a_t (S 222) t) 0 n 5)) 221 (nI t) p2 (nI n) = some (if p2 = 0 then t_go (S 222) (a_t (S 222) t) 0 n 4 else t_go (S 222) (a_t (S 222) t) 0 n 5, N) ∧ hk_same MM N ∧ N 221 15 = MM 221 15 ∧ N 231 = MM 231 := by
            unfold mX12_moistureAfter
            simp only [pX12_in, k_10, not_false_eq_true, not_true_eq_false, if_true, if_false, Option.bind_some, pX12_thr0, pX12_thr1, pX12_thr00, pX12_thr01, pX12_thr1_, pX12_thr000, pX12_thr001, pX12_thr01_, pX12_thr1__, pX12_isTrough hE1 hw, eM, if_pos hin, pX12_isLayer, if_pos q, if_pos q3, hMM]
            have e224 : (va_up MM 224 (a_cp (MM 222) (MM 224) 0)) 222 = MM 222 := va_up_ne _ _ (by decide)
            obtain ⟨W, w1, w2⟩ := pX12_tries (F := F) (r := 0) (n := n) (w := MM 222) (v := a_t (MM 222) t) (M := va_up MM 224 (a_cp (MM 222) (MM 224) 0)) hE1 (by omega) ht (by rw [eM2]; exact hI.2.1) (by rw [eM2]; exact hok) (by omega) (by rw [e224]; exact k_tw_self _ _)
            refine ⟨va_up MM 224 (a_cp (MM 222) (MM 224) 0), ?_, hk_same_aside _ _, by rw [va_up_ne _ _ (by decide)], by rw [va_up_ne _ _ (by decide)]⟩
            have hof : mX12_of hk_E0 F (va_up (va_up MM 224 (a_cp (MM 222) (MM 224) 0)) 222 W) 221 (nI t) (4 + p2) = some (if p2 = 0 then t_go (S 222) (a_t (S 222) t) 0 n 4 else t_go (S 222) (a_t (S 222) t) 0 n 5, va_up (va_up MM 224 (a_cp (MM 222) (MM 224) 0)) 222 W) := by
              rw [eM2] at w2
              rcases hy with z | z <;> subst z
              · rw [show (4 : Int32) + nI 0 = 4 from rfl, pX12_of_4 hE1 ht, va_up_self, w2.2 4 (by omega), if_pos (by decide)]
              · rw [show (4 : Int32) + nI 1 = 5 from rfl, pX12_of_5 hE1 ht, va_up_self, w2.2 5 (by omega), if_neg (by decide)]
            have hem : mX12_isEmpty hk_E0 F MM 221 (nI t) = some (0, MM) := by rw [pX12_isEmpty hE1 ht, eM2, if_neg ql]
            rw [hem, Option.bind_some]
            dsimp only
            rw [if_pos rfl, pX12_setAside hE1 (by omega), Option.bind_some]
            rw [show nI 0 = (0 : Int32) from rfl] at w1
            rw [w1, Option.bind_some, hof, Option.bind_some]
            dsimp only
            rw [k_bring hE1 (by omega) ht w2, Option.bind_some]
          obtain ⟨N, hm, n1, n2, n3⟩ := hm
          exact ⟨N, k_mop (m := fun S => mX12_moistureAfter hk_E0 F S 221 (nI t) p2 (nI n)) hl hm (n2.trans e15) (fun _ => by rw [n3]; exact e231), hk_I_same hI (hk_same_trans hs2 n1)⟩
      · have hc : mX11_moistureAfter hk_E0 F S 0 (nI t) p2 p3 = some (.inl (1, S)) := by
          unfold mX11_moistureAfter
          rw [he, hk_xb_inr]
          dsimp only
          rw [if_pos (hk_L_t hL ht), k_rq, if_pos q, hk_xb_inr, k_rq, if_neg q3, hk_xb_inl]
        have hl : mL_moistureAfter hk_E0 F S 0 (nI t) p2 p3 231 = some (2, S) := by
          unfold mL_moistureAfter
          rw [hc]
          rfl
        have hm : mX12_moistureAfter hk_E0 F S 221 (nI t) p2 p3 = some (0, hk_up S 221 15 2) := by
          unfold mX12_moistureAfter
          simp only [pX12_in, k_10, not_false_eq_true, not_true_eq_false, if_true, if_false, Option.bind_some, pX12_thr0, pX12_thr1, pX12_thr00, pX12_thr01, pX12_thr1_, pX12_thr000, pX12_thr001, pX12_thr01_, pX12_thr1__, pX12_isTrough hE1 hI.2.1, if_pos hin, pX12_isLayer, if_pos q, if_neg q3]
        exact ⟨_, k_mop (m := fun S => mX12_moistureAfter hk_E0 F S 221 (nI t) p2 p3) hl hm (by rw [hk_up_eq, if_pos rfl]) (fun q => absurd q (by decide)), hk_I_same hI (hk_same_thr _ _)⟩
    · have hc : mX11_moistureAfter hk_E0 F S 0 (nI t) p2 p3 = some (.inl (1, S)) := by
        unfold mX11_moistureAfter
        rw [he, hk_xb_inr]
        dsimp only
        rw [if_pos (hk_L_t hL ht), k_rq, if_neg q, hk_xb_inl]
      have hl : mL_moistureAfter hk_E0 F S 0 (nI t) p2 p3 231 = some (2, S) := by
        unfold mL_moistureAfter
        rw [hc]
        rfl
      have hm : mX12_moistureAfter hk_E0 F S 221 (nI t) p2 p3 = some (0, hk_up S 221 15 2) := by
        unfold mX12_moistureAfter
        simp only [pX12_in, k_10, not_false_eq_true, not_true_eq_false, if_true, if_false, Option.bind_some, pX12_thr0, pX12_thr1, pX12_thr00, pX12_thr01, pX12_thr1_, pX12_thr000, pX12_thr001, pX12_thr01_, pX12_thr1__, pX12_isTrough hE1 hI.2.1, if_pos hin, pX12_isLayer, if_neg q]
      exact ⟨_, k_mop (m := fun S => mX12_moistureAfter hk_E0 F S 221 (nI t) p2 p3) hl hm (by rw [hk_up_eq, if_pos rfl]) (fun q => absurd q (by decide)), hk_I_same hI (hk_same_thr _ _)⟩
  · have hc : mX11_moistureAfter hk_E0 F S 0 p1 p2 p3 = some (.inl (0, S)) := by
      unfold mX11_moistureAfter
      rw [he, hk_xb_inl]
    have hl : mL_moistureAfter hk_E0 F S 0 p1 p2 p3 231 = some (1, S) := by
      unfold mL_moistureAfter
      rw [hc]
      rfl
    have hm : mX12_moistureAfter hk_E0 F S 221 p1 p2 p3 = some (0, hk_up S 221 15 1) := by
      unfold mX12_moistureAfter
      by_cases q : 0 ≤ p2 ∧ p2 ≤ 1 <;> by_cases q3 : 0 ≤ p3 ∧ p3 ≤ 200 <;> simp only [pX12_in, k_10, not_false_eq_true, not_true_eq_false, if_true, if_false, Option.bind_some, pX12_thr0, pX12_thr1, pX12_thr00, pX12_thr01, pX12_thr1_, pX12_thr000, pX12_thr001, pX12_thr01_, pX12_thr1__, pX12_isTrough hE1 hI.2.1, if_neg hno, pX12_isLayer, q, q3, and_self]
    exact ⟨_, k_mop (m := fun S => mX12_moistureAfter hk_E0 F S 221 p1 p2 p3) hl hm (by rw [hk_up_eq, if_pos rfl]) (fun q => absurd q (by decide)), hk_I_same hI (hk_same_thr _ _)⟩
theorem cX_htr_25 {F t : Nat} {w v : Nat → Int32} {x1 : Int32} (hF : 10 ≤ F) (hw : a_ok w) (hv : t_ok v) : ∀ (d z f : Nat) (S : hk_S), z + d = 200 → d + 1 < f → hk_air S 1 w → hk_num S 1 w → hk_tr (S 220) (t_go w v 0 z) → ∃ S', mX11_hoursToReady_25 hk_E0 F 0 x1 t (fun S20 z21 => some (.inr ((-1), S20))) f S (nI z) = some (.inr (k_fr (fun n => t_rb w (t_go w v 0 n)) d z, S')) ∧ ∀ a, a ≠ 220 → S' a = S a := by
  intro d
  induction d with
  | zero =>
    intro z f S h1 hf hA hN h2
    obtain ⟨f, rfl⟩ : ∃ g, f = g + 2 := ⟨f - 2, by omega⟩
    have hL := hk_L1 hE2
    have hz : z = 200 := by omega
    subst hz
    have h3 := (t_go_ok hw hv 0 200).2.2.2.1.1
    have h0 := hw.1
    rw [mX11_hoursToReady_25]
    dsimp only
    rw [if_neg (by decide), rE_0_0 hE2, Option.bind_some, if_pos hL.1, rE_0_6 hE2, Option.bind_some, if_pos (kE_220 hE2), cX_rb hN h2 h3, Option.bind_some, k_fr]
    by_cases q : t_rb w (t_go w v 0 200) = true
    · rw [if_pos q, if_pos q]
      dsimp only
      rw [if_neg (by decide)]
      exact ⟨S, rfl, fun _ _ => rfl⟩
    · rw [if_neg q, if_neg q]
      dsimp only
      obtain ⟨S1, p1, p2, p3⟩ := pX10_passHour (E := hk_E0) (F := F) (d := a_dry w (w 0 + nI 200)) h2 (t_go_ok hw hv 0 200)
      rw [if_pos rfl, hL.2.2.2.2.2.2.2.1, Option.bind_some, if_pos hL.2.1, hA.1, pX1_drynessOf hL (by omega) (by have : nI 200 = 200 := rfl; rw [this]; generalize w 0 = x at *; grind) (by have : nI 200 = 200 := rfl; rw [this]; generalize w 0 = x at *; grind) (a_mok_of hw) hA, Option.bind_some]
      dsimp only
      rw [p1, Option.bind_some, hk_let_eq, mX11_hoursToReady_25]
      dsimp only
      rw [if_pos (by decide)]
      exact ⟨S1, rfl, p3⟩
  | succ d ih =>
    intro z f S h1 hf hA hN h2
    obtain ⟨f, rfl⟩ : ∃ g, f = g + 1 := ⟨f - 1, by omega⟩
    have hL := hk_L1 hE2
    have h3 := (t_go_ok hw hv 0 z).2.2.2.1.1
    have h0 := hw.1
    have hz1 : nI z ≤ 200 := (nI_leI (b := 200) (by omega) (by omega)).mpr (by omega)
    have hz0 : 0 ≤ nI z := nI_pos' (by omega)
    rw [mX11_hoursToReady_25]
    dsimp only
    rw [if_neg (show ¬ (200 : Int32) < nI z from nI_nlt (a := 200) (b := z) (by omega) (by omega)), rE_0_0 hE2, Option.bind_some, if_pos hL.1, rE_0_6 hE2, Option.bind_some, if_pos (kE_220 hE2), cX_rb hN h2 h3, Option.bind_some, k_fr]
    by_cases q : t_rb w (t_go w v 0 z) = true
    · rw [if_pos q, if_pos q]
      dsimp only
      rw [if_neg (by decide)]
      exact ⟨S, rfl, fun _ _ => rfl⟩
    · rw [if_neg q, if_neg q]
      dsimp only
      obtain ⟨S1, p1, p2, p3⟩ := pX10_passHour (E := hk_E0) (F := F) (d := a_dry w (w 0 + nI (0 + z))) h2 (t_go_ok hw hv 0 z)
      obtain ⟨S2, s1, s2⟩ := ih (z + 1) f S1 (by omega) (by omega) (k_air_ext hA (fun a ha => p3 a (by omega))) (k_num_ext hN (fun a ha => p3 a (by omega))) p2
      rw [Nat.zero_add] at p1
      rw [if_pos rfl, hL.2.2.2.2.2.2.2.1, Option.bind_some, if_pos hL.2.1, hA.1, pX1_drynessOf hL (by omega) (by generalize w 0 = x at *; generalize nI z = y at *; grind) (by generalize w 0 = x at *; generalize nI z = y at *; grind) (a_mok_of hw) hA, Option.bind_some]
      dsimp only
      rw [p1, Option.bind_some, hk_let_eq, nI_1]
      exact ⟨S2, s1, fun a ha => (s2 a ha).trans (p3 a ha)⟩
theorem pX12_htr_28 {F t : Nat} {M : hk_S} (hF : 2000 ≤ F) (ht : t < 8) (hw : a_ok (M 222)) : ∀ (d z f : Nat) (W : Nat → Int32), z + d = 200 → d < f → k_tw W (M 222) t (t_go (M 222) (a_t (M 222) t) 0 z) → mX12_hoursToReady_28 hk_E0 F 221 (nI t) (fun S12 z13 => (mX12_isReady hk_E0 F S12 221 (nI t)).bind (fun r14 => (mX12_bringBack hk_E0 F r14.2 221).bind (fun r15 => if r14.1 = 0 then (some ((-1), r15)) else (some (z13, r15))))) f (va_up (va_up M 224 (a_cp (M 222) (M 224) 0)) 222 W) (nI z) = some (k_fr (fun n => t_rb (M 222) (t_go (M 222) (a_t (M 222) t) 0 n)) d z, va_up M 224 (a_cp (M 222) (M 224) 0)) := by
  intro d
  induction d with
  | zero =>
    intro z f W h1 hf h2
    obtain ⟨f, rfl⟩ : ∃ g, f = g + 1 := ⟨f - 1, by omega⟩
    have hz : z = 200 := by omega
    clear h1
    rw [mX12_hoursToReady_28]
    dsimp only
    rw [if_pos (show (200 : Int32) ≤ nI z by rw [hz]; decide), mX_rb hE1 ht (by rw [va_up_self]; exact h2), Option.bind_some]
    dsimp only
    rw [k_bring hE1 (by omega) ht h2, Option.bind_some, k_fr]
    generalize t_go (M 222) (a_t (M 222) t) 0 z = vv at *
    by_cases q : t_rb (M 222) vv = true
    · rw [if_pos q, if_pos q, if_neg (by decide)]
    · rw [if_neg q, if_neg q, if_pos rfl]
  | succ d ih =>
    intro z f W h1 hf h2
    obtain ⟨f, rfl⟩ : ∃ g, f = g + 1 := ⟨f - 1, by omega⟩
    have hok : t_ok (a_t (M 222) t) := hw.2.2.2.2.2.2.2.2.2.1 t ht
    rw [mX12_hoursToReady_28]
    dsimp only
    rw [if_neg (show ¬ (200 : Int32) ≤ nI z from nI_ge (a := z) (b := 200) (by omega) (by omega)), mX_rb hE1 ht (by rw [va_up_self]; exact h2), Option.bind_some, k_fr]
    by_cases q : t_rb (M 222) (t_go (M 222) (a_t (M 222) t) 0 z) = true
    · rw [if_pos q, if_pos q]
      dsimp only
      rw [if_pos (by decide), mX_rb hE1 ht (by rw [va_up_self]; exact h2), Option.bind_some]
      dsimp only
      rw [k_bring hE1 (by omega) ht h2, Option.bind_some, if_pos q, if_neg (by decide)]
    · rw [if_neg q, if_neg q]
      dsimp only
      obtain ⟨W2, w1, w2⟩ := pX12_tries (F := F) (r := z) (n := 1) (M := va_up (va_up M 224 (a_cp (M 222) (M 224) 0)) 222 W) hE1 (by omega) ht hw (t_go_ok hw hok 0 z) (by omega) (by rw [va_up_self]; exact h2)
      have eg := t_go_add (M 222) (a_t (M 222) t) 0 z 1
      rw [Nat.zero_add] at eg
      rw [eg] at w2
      rw [if_neg (by decide), show (1 : Int32) = nI 1 from rfl, w1, Option.bind_some, k_upup, hk_let_eq, nI_add]
      exact ih (z + 1) f W2 (by omega) (by omega) w2
set_option maxHeartbeats 4000000 in
theorem mop_51_ok {F : Nat} {S : hk_S} {p1 p2 p3 p4 p5 : Int32} (hF : 2000000 ≤ F) (hI : hk_I S) : ∃ S', mop_51 F S p1 p2 p3 p4 p5 = some S' ∧ hk_I S' := by
  have hL := hk_L1 hE2
  have hA := hI.1.1
  have hN := hI.1.2.1
  rcases k_exT (F := F) hI p1 with ⟨t, ht, rfl, hn, he⟩ | ⟨hno, he⟩
  · have htr := hI.1.2.2.1 t ht
    have h0 := k_leaf0 hI.2.1 ht
    have hok := hI.2.1.2.2.2.2.2.2.2.2.2.1 t ht
    have hin := k_in (by omega) hn
    by_cases ql : a_t (S 222) t 3 = 0
    · have hsame := hk_same_refl S
      have hfr : k_fr (fun n => t_rb (S 222) (t_go (S 222) (a_t (S 222) t) 0 n)) 200 0 = -1 := k_fr_none (fun z => by rw [t_go_none ql]; exact t_rb_none ql) _ _
      have hc : mX11_hoursToReady hk_E0 F S 0 (nI t) = some (.inr ((-1), S)) := by
        unfold mX11_hoursToReady
        rw [he, hk_xb_inr]
        dsimp only
        rw [if_pos (hk_L_t hL ht), pX10_hasLeaf htr h0, if_pos ql, Option.bind_some]
        dsimp only
        rw [if_neg (by decide)]
      have hl : mL_hoursToReady hk_E0 F S 0 (nI t) 231 = some (0, hk_up S 231 0 ((-1))) := by
        unfold mL_hoursToReady
        rw [hc]
        dsimp only
        rw [if_pos hk_ok231]
      have hs1 : hk_same S (hk_up S 231 0 ((-1))) := hk_same_trans hsame (hk_same_out _ _)
      have eM : (hk_up S 231 0 ((-1))) 222 = S 222 := hs1.2.2.1
      have hw : a_ok ((hk_up S 231 0 ((-1))) 222) := by rw [eM]; exact hI.2.1
      have hs2 : hk_same S (hk_up (hk_up S 231 0 ((-1))) 221 15 0) := hk_same_trans hs1 (hk_same_thr _ _)
      have eM2 : (hk_up (hk_up S 231 0 ((-1))) 221 15 0) 222 = S 222 := hs2.2.2.1
      generalize hMM : hk_up (hk_up S 231 0 ((-1))) 221 15 0 = MM at *
      have e15 : MM 221 15 = 0 := by rw [← hMM, hk_up_eq, if_pos rfl]
      have e231 : MM 231 0 = (-1) := by rw [← hMM, hk_upne _ _ _ (by decide), hk_up_eq, if_pos rfl]
      have hm : ∃ N, mX12_hoursToReady hk_E0 F (hk_up S 231 0 ((-1))) 221 (nI t) = some ((-1), N) ∧ hk_same MM N ∧ N 221 15 = MM 221 15 ∧ N 231 = MM 231 := by
        unfold mX12_hoursToReady
        simp only [pX12_in, k_10, not_false_eq_true, not_true_eq_false, if_true, if_false, Option.bind_some, pX12_thr0, pX12_thr1, pX12_thr00, pX12_thr01, pX12_thr1_, pX12_thr000, pX12_thr001, pX12_thr01_, pX12_thr1__, pX12_isTrough hE1 hw, eM, if_pos hin, hMM]
        refine ⟨va_up MM 224 (a_cp (MM 222) (MM 224) 0), ?_, hk_same_aside _ _, by rw [va_up_ne _ _ (by decide)], by rw [va_up_ne _ _ (by decide)]⟩
        rw [pX12_setAside hE1 (by omega), Option.bind_some]
        have hgo := pX12_htr_28 (F := F) (t := t) (M := MM) (by omega) ht (by rw [eM2]; exact hI.2.1) 200 0 F (MM 222) (by omega) (by omega) (k_tw_self _ _)
        have e224 : (va_up MM 224 (a_cp (MM 222) (MM 224) 0)) 222 = MM 222 := va_up_ne _ _ (by decide)
        have e222 := k_up_same (va_up MM 224 (a_cp (MM 222) (MM 224) 0)) 222
        rw [e224] at e222
        rw [e222] at hgo
        refine hgo.trans ?_
        rw [eM2, hfr]
      obtain ⟨N, hm, n1, n2, n3⟩ := hm
      exact ⟨N, k_mop (m := fun S => mX12_hoursToReady hk_E0 F S 221 (nI t)) hl hm (n2.trans e15) (fun _ => by rw [n3]; exact e231), hk_I_same hI (hk_same_trans hs2 n1)⟩
    · obtain ⟨S1, r1, r2, r3⟩ := k_tri (F := F) ht htr
      obtain ⟨S2, s1, s2⟩ := cX_htr_25 (F := F) (t := 1 + 5 + t) (x1 := nI t) (by omega) hI.2.1 hok 200 0 F S1 (by omega) (by omega) (k_air_ext hA (fun a ha => r3 a (by omega))) (k_num_ext hN (fun a ha => r3 a (by omega))) r2
      have hsame : hk_same S S2 := hk_same_trial (fun a ha => (s2 a ha).trans (r3 a ha))
      have hc : mX11_hoursToReady hk_E0 F S 0 (nI t) = some (.inr (k_fr (fun n => t_rb (S 222) (t_go (S 222) (a_t (S 222) t) 0 n)) 200 0, S2)) := by
        unfold mX11_hoursToReady
        rw [he, hk_xb_inr]
        dsimp only
        rw [if_pos (hk_L_t hL ht), pX10_hasLeaf htr h0, if_neg ql, Option.bind_some]
        dsimp only
        rw [if_pos (by decide), rE_0_6 hE2, Option.bind_some, if_pos (kE_220 hE2), r1, Option.bind_some]
        exact s1
      have hl : mL_hoursToReady hk_E0 F S 0 (nI t) 231 = some (0, hk_up S2 231 0 (k_fr (fun n => t_rb (S 222) (t_go (S 222) (a_t (S 222) t) 0 n)) 200 0)) := by
        unfold mL_hoursToReady
        rw [hc]
        dsimp only
        rw [if_pos hk_ok231]
      have hs1 : hk_same S (hk_up S2 231 0 (k_fr (fun n => t_rb (S 222) (t_go (S 222) (a_t (S 222) t) 0 n)) 200 0)) := hk_same_trans hsame (hk_same_out _ _)
      have eM : (hk_up S2 231 0 (k_fr (fun n => t_rb (S 222) (t_go (S 222) (a_t (S 222) t) 0 n)) 200 0)) 222 = S 222 := hs1.2.2.1
      have hw : a_ok ((hk_up S2 231 0 (k_fr (fun n => t_rb (S 222) (t_go (S 222) (a_t (S 222) t) 0 n)) 200 0)) 222) := by rw [eM]; exact hI.2.1
      have hs2 : hk_same S (hk_up (hk_up S2 231 0 (k_fr (fun n => t_rb (S 222) (t_go (S 222) (a_t (S 222) t) 0 n)) 200 0)) 221 15 0) := hk_same_trans hs1 (hk_same_thr _ _)
      have eM2 : (hk_up (hk_up S2 231 0 (k_fr (fun n => t_rb (S 222) (t_go (S 222) (a_t (S 222) t) 0 n)) 200 0)) 221 15 0) 222 = S 222 := hs2.2.2.1
      generalize hMM : hk_up (hk_up S2 231 0 (k_fr (fun n => t_rb (S 222) (t_go (S 222) (a_t (S 222) t) 0 n)) 200 0)) 221 15 0 = MM at *
      have e15 : MM 221 15 = 0 := by rw [← hMM, hk_up_eq, if_pos rfl]
      have e231 : MM 231 0 = k_fr (fun n => t_rb (S 222) (t_go (S 222) (a_t (S 222) t) 0 n)) 200 0 := by rw [← hMM, hk_upne _ _ _ (by decide), hk_up_eq, if_pos rfl]
      have hm : ∃ N, mX12_hoursToReady hk_E0 F (hk_up S2 231 0 (k_fr (fun n => t_rb (S 222) (t_go (S 222) (a_t (S 222) t) 0 n)) 200 0)) 221 (nI t) = some (k_fr (fun n => t_rb (S 222) (t_go (S 222) (a_t (S 222) t) 0 n)) 200 0, N) ∧ hk_same MM N ∧ N 221 15 = MM 221 15 ∧ N 231 = MM 231 := by
        unfold mX12_hoursToReady
        simp only [pX12_in, k_10, not_false_eq_true, not_true_eq_false, if_true, if_false, Option.bind_some, pX12_thr0, pX12_thr1, pX12_thr00, pX12_thr01, pX12_thr1_, pX12_thr000, pX12_thr001, pX12_thr01_, pX12_thr1__, pX12_isTrough hE1 hw, eM, if_pos hin, hMM]
        refine ⟨va_up MM 224 (a_cp (MM 222) (MM 224) 0), ?_, hk_same_aside _ _, by rw [va_up_ne _ _ (by decide)], by rw [va_up_ne _ _ (by decide)]⟩
        rw [pX12_setAside hE1 (by omega), Option.bind_some]
        have hgo := pX12_htr_28 (F := F) (t := t) (M := MM) (by omega) ht (by rw [eM2]; exact hI.2.1) 200 0 F (MM 222) (by omega) (by omega) (k_tw_self _ _)
        have e224 : (va_up MM 224 (a_cp (MM 222) (MM 224) 0)) 222 = MM 222 := va_up_ne _ _ (by decide)
        have e222 := k_up_same (va_up MM 224 (a_cp (MM 222) (MM 224) 0)) 222
        rw [e224] at e222
        rw [e222] at hgo
        refine hgo.trans ?_
        rw [eM2]
      obtain ⟨N, hm, n1, n2, n3⟩ := hm
      exact ⟨N, k_mop (m := fun S => mX12_hoursToReady hk_E0 F S 221 (nI t)) hl hm (n2.trans e15) (fun _ => by rw [n3]; exact e231), hk_I_same hI (hk_same_trans hs2 n1)⟩
  · have hc : mX11_hoursToReady hk_E0 F S 0 p1 = some (.inl (0, S)) := by
      unfold mX11_hoursToReady
      rw [he, hk_xb_inl]
    have hl : mL_hoursToReady hk_E0 F S 0 p1 231 = some (1, S) := by
      unfold mL_hoursToReady
      rw [hc]
      rfl
    have hm : mX12_hoursToReady hk_E0 F S 221 p1 = some (0, hk_up S 221 15 1) := by
      unfold mX12_hoursToReady
      simp only [pX12_in, k_10, not_false_eq_true, not_true_eq_false, if_true, if_false, Option.bind_some, pX12_thr0, pX12_thr1, pX12_thr00, pX12_thr01, pX12_thr1_, pX12_thr000, pX12_thr001, pX12_thr01_, pX12_thr1__, pX12_isTrough hE1 hI.2.1, if_neg hno]
    exact ⟨_, k_mop (m := fun S => mX12_hoursToReady hk_E0 F S 221 p1) hl hm (by rw [hk_up_eq, if_pos rfl]) (fun q => absurd q (by decide)), hk_I_same hI (hk_same_thr _ _)⟩
/-- the first number of hours from z + 1 on with another damage -/
def k_hd (D : Nat → Int32) (was : Int32) : Nat → Nat → Int32
  | 0, _ => -1
  | d + 1, z => if D (z + 1) = was then k_hd D was d (z + 1) else if D (z + 1) ≤ was then -1 else nI (z + 1)
theorem k_hd_max {D : Nat → Int32} {was : Int32} (h : ∀ x : Int32, x ≤ was) : ∀ d z, k_hd D was d z = -1 := by
  intro d
  induction d with
  | zero => intro z; rfl
  | succ d ih =>
    intro z
    rw [k_hd]
    by_cases c : D (z + 1) = was
    · rw [if_pos c, ih]
    · rw [if_neg c, if_pos (h _)]
theorem cX_htd_25 {F t : Nat} {w v : Nat → Int32} {x1 : Int32} (hF : 10 ≤ F) (ht : t < 8) (hw : a_ok w) (hv : t_ok v) : ∀ (d z f : Nat) (S : hk_S), z + d = 20 → d < f → hk_air S 1 w → S (1 + 5 + t) 9 = v 7 → hk_tr (S 220) (t_go w v 0 z) → (t_go w v 0 z 7 = v 7 ∨ ∀ x : Int32, x ≤ v 7) → ∃ S', mX11_hoursToDamage_25 hk_E0 F 0 x1 (1 + 5 + t) (fun S20 z21 => some (.inr ((-1), S20))) f S (nI (z + 1)) = some (.inr (k_hd (fun n => t_go w v 0 n 7) (v 7) d z, S')) ∧ ∀ a, a ≠ 220 → S' a = S a := by
  intro d
  induction d with
  | zero =>
    intro z f S h1 hf hA hp h2 h3
    obtain ⟨f, rfl⟩ : ∃ g, f = g + 1 := ⟨f - 1, by omega⟩
    have hz : z = 20 := by omega
    subst hz
    refine ⟨S, ?_, fun _ _ => rfl⟩
    rw [mX11_hoursToDamage_25]
    dsimp only
    rw [if_pos (by decide), k_hd]
  | succ d ih =>
    intro z f S h1 hf hA hp h2 h3
    obtain ⟨f, rfl⟩ : ∃ g, f = g + 1 := ⟨f - 1, by omega⟩
    have hL := hk_L1 hE2
    have h0 := hw.1
    have hz1 : nI z ≤ 20 := (nI_leI (b := 20) (by omega) (by omega)).mpr (by omega)
    have hz0 : 0 ≤ nI z := nI_pos' (by omega)
    obtain ⟨S1, p1, p2, p3⟩ := pX10_passHour (E := hk_E0) (F := F) (d := a_dry w (w 0 + nI (0 + z))) h2 (t_go_ok hw hv 0 z)
    have e1 : w 0 + nI (z + 1) - 1 = w 0 + nI z := by
      rw [← nI_1]
      generalize w 0 = x
      generalize nI z = y
      grind
    rw [mX11_hoursToDamage_25]
    dsimp only
    rw [if_neg (show ¬ (20 : Int32) < nI (z + 1) from nI_nlt (a := 20) (b := z + 1) (by omega) (by omega)), rE_0_6 hE2, Option.bind_some, if_pos (kE_220 hE2), rE_0_0 hE2, Option.bind_some, if_pos hL.1, hL.2.2.2.2.2.2.2.1, Option.bind_some, if_pos hL.2.1, hA.1, e1, pX1_drynessOf hL (by omega) (by generalize w 0 = x at *; generalize nI z = y at *; grind) (by generalize w 0 = x at *; generalize nI z = y at *; grind) (a_mok_of hw) hA, Option.bind_some]
    dsimp only
    rw [Nat.zero_add] at p1
    rw [p1, Option.bind_some]
    dsimp only
    have ed : S1 220 9 = t_go w v 0 (z + 1) 7 := p2.2.2.2.2.2.2.2.2.2
    have ep : S1 (1 + 5 + t) 9 = v 7 := by rw [p3 _ (by omega)]; exact hp
    simp only [ed, ep]
    by_cases q : ∀ x : Int32, x ≤ v 7
    · obtain ⟨S2, s1, s2⟩ := ih (z + 1) f S1 (by omega) (by omega) (k_air_ext hA (fun a ha => p3 a (by omega))) ep p2 (Or.inr q)
      rw [if_pos (q _), hk_let_eq, nI_1]
      rw [k_hd_max q] at s1 ⊢
      exact ⟨S2, s1, fun a ha => (s2 a ha).trans (p3 a ha)⟩
    · have h3 : t_go w v 0 z 7 = v 7 := h3.resolve_right q
      rw [k_hd]
      by_cases c : t_go w v 0 (z + 1) 7 = v 7
      · obtain ⟨S2, s1, s2⟩ := ih (z + 1) f S1 (by omega) (by omega) (k_air_ext hA (fun a ha => p3 a (by omega))) ep p2 (Or.inl c)
        rw [if_pos (show t_go w v 0 (z + 1) 7 ≤ v 7 by rw [c]; exact Int32.le_refl _), if_pos c, hk_let_eq, nI_1]
        exact ⟨S2, s1, fun a ha => (s2 a ha).trans (p3 a ha)⟩
      · rw [if_neg c]
        -- the damage has grown by one, and has not wrapped
        have hg : t_go w v 0 (z + 1) 7 = v 7 ∨ t_go w v 0 (z + 1) 7 = v 7 + 1 := by
          rw [← h3, t_go, t_pass]
          by_cases c3 : t_go w v 0 z 3 = 0
          · rw [if_pos c3]; exact Or.inl rfl
          · simp only [c3, if_false, show ¬ ((7 : Nat) = 4) by decide, show ¬ ((7 : Nat) = 5) by decide, show ¬ ((7 : Nat) = 6) by decide, if_true]
            by_cases c4 : 10 ≤ t_warm (t_go w v 0 z)
            · rw [if_pos c4]; exact Or.inr rfl
            · rw [if_neg c4]; exact Or.inl (Int32.add_zero _)
        have hg := hg.resolve_left c
        have hlt : ¬ t_go w v 0 (z + 1) 7 ≤ v 7 := fun hle => q (fun x => by
          rw [hg] at hle
          generalize v 7 = y at *
          grind)
        rw [if_neg hlt, if_neg hlt]
        exact ⟨S1, rfl, p3⟩
theorem pX12_htd_36 {F t : Nat} {M : hk_S} (hF : 2000 ≤ F) (ht : t < 8) (hw : a_ok (M 222)) : ∀ (d z f : Nat) (W : Nat → Int32), z + d = 20 → d < f → k_tw W (M 222) t (t_go (M 222) (a_t (M 222) t) 0 z) → t_go (M 222) (a_t (M 222) t) 0 z 7 = a_t (M 222) t 7 → mX12_hoursToDamage_36 hk_E0 F 221 (nI t) (a_t (M 222) t 7) (fun S14 z15 => (mX12_of hk_E0 F S14 221 (nI t) 7).bind (fun r16 => if r16.1 ≤ (a_t (M 222) t 7) then ((mX12_bringBack hk_E0 F r16.2 221).bind (fun r18 => some ((-1), r18))) else ((mX12_bringBack hk_E0 F r16.2 221).bind (fun r20 => some (z15, r20))))) f (va_up (va_up M 224 (a_cp (M 222) (M 224) 0)) 222 W) (nI z) = some (k_hd (fun n => t_go (M 222) (a_t (M 222) t) 0 n 7) (a_t (M 222) t 7) d z, va_up M 224 (a_cp (M 222) (M 224) 0)) := by
  intro d
  induction d with
  | zero =>
    intro z f W h1 hf h2 h3
    obtain ⟨f, rfl⟩ : ∃ g, f = g + 1 := ⟨f - 1, by omega⟩
    have hz : z = 20 := by omega
    subst hz
    rw [mX12_hoursToDamage_36]
    dsimp only
    rw [if_pos (by decide), pX12_of_7 hE1 ht, Option.bind_some, va_up_self, h2.2 7 (by omega), h3]
    dsimp only
    rw [if_pos (Int32.le_refl _), k_bring hE1 (by omega) ht h2, Option.bind_some, k_hd]
  | succ d ih =>
    intro z f W h1 hf h2 h3
    obtain ⟨f, rfl⟩ : ∃ g, f = g + 1 := ⟨f - 1, by omega⟩
    have hok : t_ok (a_t (M 222) t) := hw.2.2.2.2.2.2.2.2.2.1 t ht
    obtain ⟨W2, w1, w2⟩ := pX12_tries (F := F) (r := z) (n := 1) (M := va_up (va_up M 224 (a_cp (M 222) (M 224) 0)) 222 W) hE1 (by omega) ht hw (t_go_ok hw hok 0 z) (by omega) (by rw [va_up_self]; exact h2)
    have eg := t_go_add (M 222) (a_t (M 222) t) 0 z 1
    rw [Nat.zero_add] at eg
    rw [eg] at w2
    rw [mX12_hoursToDamage_36]
    dsimp only
    rw [if_neg (show ¬ (20 : Int32) ≤ nI z from nI_ge (a := z) (b := 20) (by omega) (by omega)), pX12_of_7 hE1 ht, Option.bind_some, va_up_self, h2.2 7 (by omega), h3]
    dsimp only
    rw [if_neg (fun y => y rfl), show (1 : Int32) = nI 1 from rfl, w1, Option.bind_some, k_upup, hk_let_eq, nI_add, k_hd]
    by_cases c : t_go (M 222) (a_t (M 222) t) 0 (z + 1) 7 = a_t (M 222) t 7
    · rw [if_pos c]
      exact ih (z + 1) f W2 (by omega) (by omega) w2 c
    · rw [if_neg c]
      -- the loop ends at once
      have hend : ∀ g, (mX12_hoursToDamage_36 hk_E0 F 221 (nI t) (a_t (M 222) t 7) (fun S14 z15 => (mX12_of hk_E0 F S14 221 (nI t) 7).bind (fun r16 => if r16.1 ≤ (a_t (M 222) t 7) then ((mX12_bringBack hk_E0 F r16.2 221).bind (fun r18 => some ((-1), r18))) else ((mX12_bringBack hk_E0 F r16.2 221).bind (fun r20 => some (z15, r20))))) (g + 1) (va_up (va_up M 224 (a_cp (M 222) (M 224) 0)) 222 W2) (nI (z + 1))) = some (if t_go (M 222) (a_t (M 222) t) 0 (z + 1) 7 ≤ a_t (M 222) t 7 then -1 else nI (z + 1), va_up M 224 (a_cp (M 222) (M 224) 0)) := fun g => by
        have hk2 : (mX12_of hk_E0 F (va_up (va_up M 224 (a_cp (M 222) (M 224) 0)) 222 W2) 221 (nI t) 7).bind (fun r16 => if r16.1 ≤ (a_t (M 222) t 7) then ((mX12_bringBack hk_E0 F r16.2 221).bind (fun r18 => some ((-1 : Int32), r18))) else ((mX12_bringBack hk_E0 F r16.2 221).bind (fun r20 => some (nI (z + 1), r20)))) = some (if t_go (M 222) (a_t (M 222) t) 0 (z + 1) 7 ≤ a_t (M 222) t 7 then -1 else nI (z + 1), va_up M 224 (a_cp (M 222) (M 224) 0)) := by
          rw [pX12_of_7 hE1 ht, Option.bind_some, va_up_self, w2.2 7 (by omega)]
          dsimp only
          rw [k_bring hE1 (by omega) ht w2, Option.bind_some, Option.bind_some]
          by_cases cc : t_go (M 222) (a_t (M 222) t) 0 (z + 1) 7 ≤ a_t (M 222) t 7
          · rw [if_pos cc, if_pos cc]
          · rw [if_neg cc, if_neg cc]
        rw [mX12_hoursToDamage_36]
        dsimp only
        by_cases c20 : (20 : Int32) ≤ nI (z + 1)
        · rw [if_pos c20]
          exact hk2
        · rw [if_neg c20, pX12_of_7 hE1 ht, Option.bind_some, va_up_self, w2.2 7 (by omega)]
          dsimp only
          rw [if_pos c]
          exact hk2
      obtain ⟨g, rfl⟩ : ∃ g, f = g + 1 := ⟨f - 1, by omega⟩
      exact hend g
theorem k_hd_const {D : Nat → Int32} {was : Int32} (h : ∀ n, D n = was) : ∀ d z, k_hd D was d z = -1 := by
  intro d
  induction d with
  | zero => intro z; rfl
  | succ d ih => intro z; rw [k_hd, if_pos (h _), ih]
set_option maxHeartbeats 4000000 in
theorem mop_52_ok {F : Nat} {S : hk_S} {p1 p2 p3 p4 p5 : Int32} (hF : 2000000 ≤ F) (hI : hk_I S) : ∃ S', mop_52 F S p1 p2 p3 p4 p5 = some S' ∧ hk_I S' := by
  have hL := hk_L1 hE2
  have hA := hI.1.1
  have hN := hI.1.2.1
  rcases k_exT (F := F) hI p1 with ⟨t, ht, rfl, hn, he⟩ | ⟨hno, he⟩
  · have htr := hI.1.2.2.1 t ht
    have h0 := k_leaf0 hI.2.1 ht
    have hok := hI.2.1.2.2.2.2.2.2.2.2.2.1 t ht
    have hin := k_in (by omega) hn
    by_cases ql : a_t (S 222) t 3 = 0
    · have hsame := hk_same_refl S
      have hfr : k_hd (fun n => t_go (S 222) (a_t (S 222) t) 0 n 7) (a_t (S 222) t 7) 20 0 = -1 := k_hd_const (fun z => by rw [t_go_none ql]) _ _
      have hc : mX11_hoursToDamage hk_E0 F S 0 (nI t) = some (.inr ((-1), S)) := by
        unfold mX11_hoursToDamage
        rw [he, hk_xb_inr]
        dsimp only
        rw [if_pos (hk_L_t hL ht), pX10_hasLeaf htr h0, if_pos ql, Option.bind_some]
        dsimp only
        rw [if_neg (by decide)]
      have hl : mL_hoursToDamage hk_E0 F S 0 (nI t) 231 = some (0, hk_up S 231 0 ((-1))) := by
        unfold mL_hoursToDamage
        rw [hc]
        dsimp only
        rw [if_pos hk_ok231]
      have hs1 : hk_same S (hk_up S 231 0 ((-1))) := hk_same_trans hsame (hk_same_out _ _)
      have eM : (hk_up S 231 0 ((-1))) 222 = S 222 := hs1.2.2.1
      have hw : a_ok ((hk_up S 231 0 ((-1))) 222) := by rw [eM]; exact hI.2.1
      have hs2 : hk_same S (hk_up (hk_up S 231 0 ((-1))) 221 15 0) := hk_same_trans hs1 (hk_same_thr _ _)
      have eM2 : (hk_up (hk_up S 231 0 ((-1))) 221 15 0) 222 = S 222 := hs2.2.2.1
      generalize hMM : hk_up (hk_up S 231 0 ((-1))) 221 15 0 = MM at *
      have e15 : MM 221 15 = 0 := by rw [← hMM, hk_up_eq, if_pos rfl]
      have e231 : MM 231 0 = (-1) := by rw [← hMM, hk_upne _ _ _ (by decide), hk_up_eq, if_pos rfl]
      have hm : ∃ N, mX12_hoursToDamage hk_E0 F (hk_up S 231 0 ((-1))) 221 (nI t) = some ((-1), N) ∧ hk_same MM N ∧ N 221 15 = MM 221 15 ∧ N 231 = MM 231 := by
        unfold mX12_hoursToDamage
        simp only [pX12_in, k_10, not_false_eq_true, not_true_eq_false, if_true, if_false, Option.bind_some, pX12_thr0, pX12_thr1, pX12_thr00, pX12_thr01, pX12_thr1_, pX12_thr000, pX12_thr001, pX12_thr01_, pX12_thr1__, pX12_isTrough hE1 hw, eM, if_pos hin, hMM]
        refine ⟨va_up MM 224 (a_cp (MM 222) (MM 224) 0), ?_, hk_same_aside _ _, by rw [va_up_ne _ _ (by decide)], by rw [va_up_ne _ _ (by decide)]⟩
        rw [pX12_setAside hE1 (by omega), Option.bind_some]
        have hgo := pX12_htd_36 (F := F) (t := t) (M := MM) (by omega) ht (by rw [eM2]; exact hI.2.1) 20 0 F (MM 222) (by omega) (by omega) (k_tw_self _ _) rfl
        have e224 : (va_up MM 224 (a_cp (MM 222) (MM 224) 0)) 222 = MM 222 := va_up_ne _ _ (by decide)
        have e222 := k_up_same (va_up MM 224 (a_cp (MM 222) (MM 224) 0)) 222
        rw [e224] at e222
        rw [e222] at hgo
        rw [pX12_of_7 hE1 ht, Option.bind_some, e224]
        refine hgo.trans ?_
        rw [eM2, hfr]
      obtain ⟨N, hm, n1, n2, n3⟩ := hm
      exact ⟨N, k_mop (m := fun S => mX12_hoursToDamage hk_E0 F S 221 (nI t)) hl hm (n2.trans e15) (fun _ => by rw [n3]; exact e231), hk_I_same hI (hk_same_trans hs2 n1)⟩
    · obtain ⟨S1, r1, r2, r3⟩ := k_tri (F := F) ht htr
      obtain ⟨S2, s1, s2⟩ := cX_htd_25 (F := F) (t := t) (x1 := nI t) (by omega) ht hI.2.1 hok 20 0 F S1 (by omega) (by omega) (k_air_ext hA (fun a ha => r3 a (by omega))) (by rw [r3 _ (by omega)]; exact htr.2.2.2.2.2.2.2.2.2) r2 (Or.inl rfl)
      have hsame : hk_same S S2 := hk_same_trial (fun a ha => (s2 a ha).trans (r3 a ha))
      have hc : mX11_hoursToDamage hk_E0 F S 0 (nI t) = some (.inr (k_hd (fun n => t_go (S 222) (a_t (S 222) t) 0 n 7) (a_t (S 222) t 7) 20 0, S2)) := by
        unfold mX11_hoursToDamage
        rw [he, hk_xb_inr]
        dsimp only
        rw [if_pos (hk_L_t hL ht), pX10_hasLeaf htr h0, if_neg ql, Option.bind_some]
        dsimp only
        rw [if_pos (by decide), rE_0_6 hE2, Option.bind_some, if_pos (kE_220 hE2), r1, Option.bind_some]
        exact s1
      have hl : mL_hoursToDamage hk_E0 F S 0 (nI t) 231 = some (0, hk_up S2 231 0 (k_hd (fun n => t_go (S 222) (a_t (S 222) t) 0 n 7) (a_t (S 222) t 7) 20 0)) := by
        unfold mL_hoursToDamage
        rw [hc]
        dsimp only
        rw [if_pos hk_ok231]
      have hs1 : hk_same S (hk_up S2 231 0 (k_hd (fun n => t_go (S 222) (a_t (S 222) t) 0 n 7) (a_t (S 222) t 7) 20 0)) := hk_same_trans hsame (hk_same_out _ _)
      have eM : (hk_up S2 231 0 (k_hd (fun n => t_go (S 222) (a_t (S 222) t) 0 n 7) (a_t (S 222) t 7) 20 0)) 222 = S 222 := hs1.2.2.1
      have hw : a_ok ((hk_up S2 231 0 (k_hd (fun n => t_go (S 222) (a_t (S 222) t) 0 n 7) (a_t (S 222) t 7) 20 0)) 222) := by rw [eM]; exact hI.2.1
      have hs2 : hk_same S (hk_up (hk_up S2 231 0 (k_hd (fun n => t_go (S 222) (a_t (S 222) t) 0 n 7) (a_t (S 222) t 7) 20 0)) 221 15 0) := hk_same_trans hs1 (hk_same_thr _ _)
      have eM2 : (hk_up (hk_up S2 231 0 (k_hd (fun n => t_go (S 222) (a_t (S 222) t) 0 n 7) (a_t (S 222) t 7) 20 0)) 221 15 0) 222 = S 222 := hs2.2.2.1
      generalize hMM : hk_up (hk_up S2 231 0 (k_hd (fun n => t_go (S 222) (a_t (S 222) t) 0 n 7) (a_t (S 222) t 7) 20 0)) 221 15 0 = MM at *
      have e15 : MM 221 15 = 0 := by rw [← hMM, hk_up_eq, if_pos rfl]
      have e231 : MM 231 0 = k_hd (fun n => t_go (S 222) (a_t (S 222) t) 0 n 7) (a_t (S 222) t 7) 20 0 := by rw [← hMM, hk_upne _ _ _ (by decide), hk_up_eq, if_pos rfl]
      have hm : ∃ N, mX12_hoursToDamage hk_E0 F (hk_up S2 231 0 (k_hd (fun n => t_go (S 222) (a_t (S 222) t) 0 n 7) (a_t (S 222) t 7) 20 0)) 221 (nI t) = some (k_hd (fun n => t_go (S 222) (a_t (S 222) t) 0 n 7) (a_t (S 222) t 7) 20 0, N) ∧ hk_same MM N ∧ N 221 15 = MM 221 15 ∧ N 231 = MM 231 := by
        unfold mX12_hoursToDamage
        simp only [pX12_in, k_10, not_false_eq_true, not_true_eq_false, if_true, if_false, Option.bind_some, pX12_thr0, pX12_thr1, pX12_thr00, pX12_thr01, pX12_thr1_, pX12_thr000, pX12_thr001, pX12_thr01_, pX12_thr1__, pX12_isTrough hE1 hw, eM, if_pos hin, hMM]
        refine ⟨va_up MM 224 (a_cp (MM 222) (MM 224) 0), ?_, hk_same_aside _ _, by rw [va_up_ne _ _ (by decide)], by rw [va_up_ne _ _ (by decide)]⟩
        rw [pX12_setAside hE1 (by omega), Option.bind_some]
        have hgo := pX12_htd_36 (F := F) (t := t) (M := MM) (by omega) ht (by rw [eM2]; exact hI.2.1) 20 0 F (MM 222) (by omega) (by omega) (k_tw_self _ _) rfl
        have e224 : (va_up MM 224 (a_cp (MM 222) (MM 224) 0)) 222 = MM 222 := va_up_ne _ _ (by decide)
        have e222 := k_up_same (va_up MM 224 (a_cp (MM 222) (MM 224) 0)) 222
        rw [e224] at e222
        rw [e222] at hgo
        rw [pX12_of_7 hE1 ht, Option.bind_some, e224]
        refine hgo.trans ?_
        rw [eM2]
      obtain ⟨N, hm, n1, n2, n3⟩ := hm
      exact ⟨N, k_mop (m := fun S => mX12_hoursToDamage hk_E0 F S 221 (nI t)) hl hm (n2.trans e15) (fun _ => by rw [n3]; exact e231), hk_I_same hI (hk_same_trans hs2 n1)⟩
  · have hc : mX11_hoursToDamage hk_E0 F S 0 p1 = some (.inl (0, S)) := by
      unfold mX11_hoursToDamage
      rw [he, hk_xb_inl]
    have hl : mL_hoursToDamage hk_E0 F S 0 p1 231 = some (1, S) := by
      unfold mL_hoursToDamage
      rw [hc]
      rfl
    have hm : mX12_hoursToDamage hk_E0 F S 221 p1 = some (0, hk_up S 221 15 1) := by
      unfold mX12_hoursToDamage
      simp only [pX12_in, k_10, not_false_eq_true, not_true_eq_false, if_true, if_false, Option.bind_some, pX12_thr0, pX12_thr1, pX12_thr00, pX12_thr01, pX12_thr1_, pX12_thr000, pX12_thr001, pX12_thr01_, pX12_thr1__, pX12_isTrough hE1 hI.2.1, if_neg hno]
    exact ⟨_, k_mop (m := fun S => mX12_hoursToDamage hk_E0 F S 221 p1) hl hm (by rw [hk_up_eq, if_pos rfl]) (fun q => absurd q (by decide)), hk_I_same hI (hk_same_thr _ _)⟩
