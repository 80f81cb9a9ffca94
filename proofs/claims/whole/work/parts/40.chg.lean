/-! changes: what the class remembers, what the model remembers -/
/-- the model's state behind a change that it remembers -/
def k_fin (M : hk_S) (c : Nat) (w' : Nat → Int32) : hk_S := hk_up (va_up (va_up (va_up M 223 (a_cp (M 222) (M 223) 0)) 222 w') 225 (a_past (a_cp (M 222) (M 223) 0) (M 225) c)) 221 5 (nI (min (c + 1) 8))
theorem pX12_brr {F : Nat} {M : hk_S} {op : hk_S → Option (Int32 × hk_S)} {c : Nat} {v : Int32} {w' : Nat → Int32} (hF : 2000000 ≤ F) (hc : c ≤ 8) (h5 : M 221 5 = nI c) (hop : ∀ M2 : hk_S, M2 222 = M 222 → op M2 = some (v, va_up M2 222 w')) : (mX12_begins hk_E0 F M 221).bind (fun r8 => (op r8).bind (fun r9 => (mX12_remember hk_E0 F r9.2 221 r9.1).bind (fun r10 => some (r10.1, r10.2)))) = some (v, k_fin M c w') := by
  rw [pX12_begins hE1 (by omega), Option.bind_some, hop _ (va_up_ne _ _ (by decide)), Option.bind_some]
  dsimp only
  rw [pX12_remember hE1 (by omega) hc (by rw [va_up_ne _ _ (by decide), va_up_ne _ _ (by decide)]; exact h5), Option.bind_some]
  unfold k_fin
  rw [va_up_ne _ _ (show 223 ≠ 222 by decide), va_up_self, va_up_ne _ _ (show 225 ≠ 222 by decide), va_up_ne _ _ (show 225 ≠ 223 by decide)]
theorem k_fin_221 (M : hk_S) (c : Nat) (w' : Nat → Int32) (k : Nat) : k_fin M c w' 221 k = if k = 5 then nI (min (c + 1) 8) else M 221 k := by
  unfold k_fin
  rw [hk_up_eq, va_up_ne _ _ (by decide), va_up_ne _ _ (by decide), va_up_ne _ _ (by decide)]
theorem k_fin_ne (M : hk_S) (c : Nat) (w' : Nat → Int32) {a : Nat} (h1 : a ≠ 221) (h2 : a ≠ 222) (h3 : a ≠ 223) (h4 : a ≠ 225) : k_fin M c w' a = M a := by
  unfold k_fin
  rw [hk_upne _ _ _ h1, va_up_ne _ _ h4, va_up_ne _ _ h2, va_up_ne _ _ h3]
theorem k_fin_222 (M : hk_S) (c : Nat) (w' : Nat → Int32) : k_fin M c w' 222 = w' := by
  unfold k_fin
  rw [hk_upne _ _ _ (by decide), va_up_ne _ _ (by decide), va_up_self]
theorem k_fin_225 (M : hk_S) (c : Nat) (w' : Nat → Int32) : k_fin M c w' 225 = a_past (a_cp (M 222) (M 223) 0) (M 225) c := by
  unfold k_fin
  rw [hk_upne _ _ _ (by decide), va_up_self]
/-- the class remembers; what follows from there to the end of a change -/
theorem k_rem {F : Nat} {S : hk_S} (hF : 2000000 ≤ F) (hI : hk_I S) : ∃ (c nx : Nat) (S1 : hk_S), c ≤ 8 ∧ S 221 5 = nI c ∧ mX3_remember hk_E0 F S 39 1 = some S1 ∧ hk_lf S1 1 (S 222) ∧ (∀ a, a < 39 → S1 a = S a) ∧ (∀ (S2 M : hk_S) (w' : Nat → Int32), hk_lf S2 1 w' → hk_fr 1 S1 S2 → a_ok w' → (∀ a, a < 220 → M a = S2 a) → (∀ k, k < 15 → M 221 k = S2 221 k) → (∀ a, 221 < a → a < 231 → M a = S2 a) → hk_I (k_fin M c w')) ∧ (∀ S2, hk_fr 1 S1 S2 → S2 222 = S 222 ∧ S2 221 = S 221) := by
  obtain ⟨c, nx, q1, q2, q3, q4, q5, q6⟩ := id hI.2.2.1
  have hr := hk_ring_lt nx
  obtain ⟨S1, r1, r2, r3, r4, r5⟩ := cX_remember (F := F) hE2 (by omega) hI.1 q2 q1 q5 q3
  refine ⟨c, nx, S1, q1, q4, r1, hk_lf_ext hI.1 (fun a h1 h2 => r5 a (by omega) (by omega)), fun a ha => r5 a (by omega) (by omega), fun S2 M w' t1 t2 t3 t4 t5 t6 => ?_, fun S2 h => ⟨(h 222 (by omega)).trans (r5 222 (by omega) (by omega)), (h 221 (by omega)).trans (r5 221 (by omega) (by omega))⟩⟩
  have e : ∀ a, 20 ≤ a → a ≠ 39 → (a < hk_ring nx ∨ hk_ring nx + 19 ≤ a) → S2 a = S a := fun a h1 h2 h3 => (t2 a (by omega)).trans (r5 a h2 h3)
  have em : ∀ a, 221 < a → a < 231 → M a = S a := fun a h1 h2 => (t6 a h1 h2).trans (e a (by omega) (by omega) (by omega))
  refine hk_I_ch (W := a_cp (M 222) (M 223) 0) hI q1 q2 q5 q3 (fun i hi => ?_) t3 ?_ (k_fin_222 _ _ _) ?_ ?_ ?_ (fun a h1 h2 h3 h4 => ?_) ?_ (fun k hk h5 => ?_) ?_ ?_ ⟨?_, ?_, ?_⟩
  · rw [a_cp_lt hi, em 222 (by omega) (by omega)]
  · exact hk_lf_ext t1 (fun a h1 h2 => by rw [k_fin_ne _ _ _ (by omega) (by omega) (by omega) (by omega)]; exact t4 a (by omega))
  · exact hk_lf_ext r2 (fun a h1 h2 => by rw [k_fin_ne _ _ _ (by omega) (by omega) (by omega) (by omega), t4 a (by omega)]; exact t2 a (by omega))
  · rw [k_fin_ne _ _ _ (by omega) (by omega) (by omega) (by omega), t4 39 (by omega), t2 39 (by omega)]
    exact r3
  · rw [k_fin_ne _ _ _ (by omega) (by omega) (by omega) (by omega), t4 39 (by omega), t2 39 (by omega)]
    exact r4
  · rw [k_fin_ne _ _ _ (by omega) (by omega) (by omega) (by omega), t4 a (by omega)]
    exact e a (by omega) h1 h2
  · rw [k_fin_ne _ _ _ (by omega) (by omega) (by omega) (by omega), t4 0 (by omega), t2 0 (by omega)]
    exact r5 0 (by omega) (by omega)
  · rw [k_fin_221, if_neg h5, t5 k hk, e 221 (by omega) (by omega) (by omega)]
  · rw [k_fin_221, if_pos rfl]
  · rw [k_fin_225, em 225 (by omega) (by omega)]
  · rw [k_fin_ne _ _ _ (by omega) (by omega) (by omega) (by omega)]
    exact em 226 (by omega) (by omega)
  · rw [k_fin_ne _ _ _ (by omega) (by omega) (by omega) (by omega)]
    exact em 227 (by omega) (by omega)
  · rw [k_fin_ne _ _ _ (by omega) (by omega) (by omega) (by omega)]
    exact em 229 (by omega) (by omega)
/-- the state between the class's answer and the model's remembering -/
theorem k_mid (S2 : hk_S) (v x : Int32) : (∀ a, a < 220 → (hk_up (hk_up S2 231 0 v) 221 15 x) a = S2 a) ∧ (∀ k, k < 15 → (hk_up (hk_up S2 231 0 v) 221 15 x) 221 k = S2 221 k) ∧ (∀ a, 221 < a → a < 231 → (hk_up (hk_up S2 231 0 v) 221 15 x) a = S2 a) :=
  ⟨fun a ha => by rw [hk_upne _ _ _ (by omega), hk_upne _ _ _ (by omega)], fun k hk => by rw [hk_up_eq, if_neg (by omega), hk_upne _ _ _ (by decide)], fun a h1 h2 => by rw [hk_upne _ _ _ (by omega), hk_upne _ _ _ (by omega)]⟩
set_option maxHeartbeats 4000000 in
theorem mop_3_ok {F : Nat} {S : hk_S} {p1 p2 p3 p4 p5 : Int32} (hF : 2000000 ≤ F) (hI : hk_I S) : ∃ S', mop_3 F S p1 p2 p3 p4 p5 = some S' ∧ hk_I S' := by
  have hL := hk_L1 hE2
  have hA := hI.1.1
  have hN := hI.1.2.1
  by_cases q : 10 ≤ p1 ∧ p1 ≤ 500
  · have h9 := hI.2.1.2.2.2.2.2.2.2.1
    obtain ⟨n, hn8, hn⟩ := nI_of2 (x := S 222 9) (M := 8) (n := 8) (by decide) (by have := h9.1; grind) h9.2
    by_cases q8 : n = 8
    · have h8 : S 222 9 = 8 := by rw [hn, q8]; rfl
      have hc : mX11_addTrough hk_E0 F S 0 p1 = some (.inl (2, S)) := by
        unfold mX11_addTrough
        rw [k_rq, if_pos q, hk_xb_inr, rE_0_0 hE2, Option.bind_some, if_pos hL.1]
        unfold mX5_hasRoomForTrough
        rw [hN.1, h8, if_pos (by decide), Option.bind_some]
        dsimp only
        rw [if_neg (by decide), k_rf1, hk_xb_inl]
      have hl : mL_addTrough hk_E0 F S 0 p1 231 = some (2, S) := by
        unfold mL_addTrough
        rw [hc]
        rfl
      have hm : mX12_addTrough hk_E0 F S 221 p1 = some (0, hk_up S 221 15 2) := by
        unfold mX12_addTrough
        simp only [pX12_in, k_10, not_false_eq_true, not_true_eq_false, if_true, if_false, Option.bind_some, pX12_thr0, pX12_thr1, pX12_thr00, pX12_thr01, pX12_thr1_, pX12_thr000, pX12_thr001, pX12_thr01_, pX12_thr1__, if_pos q, rE_221_0 hE1, kE_222 hE1, lE_222 hE1, if_pos (show hk_ok 9 107 by decide), h8]
      exact ⟨_, k_mop (m := fun S => mX12_addTrough hk_E0 F S 221 p1) hl hm (by rw [hk_up_eq, if_pos rfl]) (fun q => absurd q (by decide)), hk_I_same hI (hk_same_thr _ _)⟩
    · have hlt : n < 8 := by omega
      have h8 : ¬ S 222 9 = 8 := fun z => q8 ((nI_eq (b := 8) (by omega) (by omega)).mp (hn.symm.trans z))
      obtain ⟨c, nx, S1, hcc, h5, hrem, hlf1, hlo, hfin, hkeep⟩ := k_rem (F := F) hF hI
      obtain ⟨S2, o1, o2, o3⟩ := cX_placeTrough (E := hk_E0) (F := F) (c := p1) hL hlf1 hn hlt
      obtain ⟨e222, e221⟩ := hkeep S2 o3
      have hc : mX11_addTrough hk_E0 F S 0 p1 = some (.inr (nI n, S2)) := by
        unfold mX11_addTrough
        rw [k_rq, if_pos q, hk_xb_inr, rE_0_0 hE2, Option.bind_some, if_pos hL.1]
        unfold mX5_hasRoomForTrough
        rw [hN.1, hn, if_neg (show ¬ (8 : Int32) ≤ nI n from nI_ge (a := n) (b := 8) hlt (by omega)), Option.bind_some]
        dsimp only
        rw [if_pos (by decide), k_rf0, hk_xb_inr, rE_0_3 hE2, Option.bind_some, if_pos (kE_39 hE2), hrem, Option.bind_some, o1, Option.bind_some]
      have hl : mL_addTrough hk_E0 F S 0 p1 231 = some (0, hk_up S2 231 0 (nI n)) := by
        unfold mL_addTrough
        rw [hc]
        dsimp only
        rw [if_pos hk_ok231]
      have eM : (hk_up S2 231 0 (nI n)) 222 = S 222 := by rw [hk_upne _ _ _ (by decide)]; exact e222
      have eM2 : (hk_up (hk_up S2 231 0 (nI n)) 221 15 0) 222 = S 222 := by rw [hk_upne _ _ _ (by decide)]; exact eM
      have eM5 : (hk_up (hk_up S2 231 0 (nI n)) 221 15 0) 221 5 = nI c := by rw [hk_up_eq, if_neg (by decide), hk_upne _ _ _ (by decide), e221]; exact h5
      have hw : a_ok ((hk_up S2 231 0 (nI n)) 222) := by rw [eM]; exact hI.2.1
      obtain ⟨t1, t2, t3⟩ := k_mid S2 (nI n) 0
      have e15 : (hk_up (hk_up S2 231 0 (nI n)) 221 15 0) 221 15 = 0 := by rw [hk_up_eq, if_pos rfl]
      have e231 : (hk_up (hk_up S2 231 0 (nI n)) 221 15 0) 231 0 = nI n := by rw [hk_upne _ _ _ (by decide), hk_up_eq, if_pos rfl]
      generalize hMM : hk_up (hk_up S2 231 0 (nI n)) 221 15 0 = MM at *
      have hmo : mX12_addTrough hk_E0 F (hk_up S2 231 0 (nI n)) 221 p1 = some (nI n, k_fin MM c (a_build (S 222) n p1)) := by
        unfold mX12_addTrough
        simp only [pX12_in, k_10, not_false_eq_true, not_true_eq_false, if_true, if_false, Option.bind_some, pX12_thr0, pX12_thr1, pX12_thr00, pX12_thr01, pX12_thr1_, pX12_thr000, pX12_thr001, pX12_thr01_, pX12_thr1__, if_pos q, rE_221_0 hE1, kE_222 hE1, lE_222 hE1, if_pos (show hk_ok 9 107 by decide), eM, hMM, h8]
        exact pX12_brr (op := fun M => mX12_builds hk_E0 F M 221 p1) hF hcc eM5 (fun M2 h => by have e := h.trans eM2; rw [← e]; exact pX12_builds hE1 (by omega) (by rw [e]; exact hn) hlt)
      exact ⟨_, k_mop (m := fun S => mX12_addTrough hk_E0 F S 221 p1) hl hmo (by rw [k_fin_221, if_neg (by decide)]; exact e15) (fun _ => by rw [k_fin_ne _ _ _ (by decide) (by decide) (by decide) (by decide), e231]), hfin S2 _ _ o2 o3 (a_ok_build hI.2.1 hn hlt q.1 q.2) t1 t2 t3⟩
  · have hc : mX11_addTrough hk_E0 F S 0 p1 = some (.inl (1, S)) := by
      unfold mX11_addTrough
      rw [k_rq, if_neg q, hk_xb_inl]
    have hl : mL_addTrough hk_E0 F S 0 p1 231 = some (1, S) := by
      unfold mL_addTrough
      rw [hc]
      rfl
    have hm : mX12_addTrough hk_E0 F S 221 p1 = some (0, hk_up S 221 15 1) := by
      unfold mX12_addTrough
      by_cases h8 : S 222 9 = 8 <;> simp only [pX12_in, k_10, not_false_eq_true, not_true_eq_false, if_true, if_false, Option.bind_some, pX12_thr0, pX12_thr1, pX12_thr00, pX12_thr01, pX12_thr1_, pX12_thr000, pX12_thr001, pX12_thr01_, pX12_thr1__, if_neg q, rE_221_0 hE1, kE_222 hE1, lE_222 hE1, if_pos (show hk_ok 9 107 by decide), h8]
    exact ⟨_, k_mop (m := fun S => mX12_addTrough hk_E0 F S 221 p1) hl hm (by rw [hk_up_eq, if_pos rfl]) (fun q => absurd q (by decide)), hk_I_same hI (hk_same_thr _ _)⟩
set_option maxHeartbeats 4000000 in
theorem mop_4_ok {F : Nat} {S : hk_S} {p1 p2 p3 p4 p5 : Int32} (hF : 2000000 ≤ F) (hI : hk_I S) : ∃ S', mop_4 F S p1 p2 p3 p4 p5 = some S' ∧ hk_I S' := by
  have hL := hk_L1 hE2
  have hA := hI.1.1
  have hN := hI.1.2.1
  rcases k_exT (F := F) hI p1 with ⟨t, ht, rfl, hn, he⟩ | ⟨hno, he⟩
  · have htr := hI.1.2.2.1 t ht
    have h0 := k_leaf0 hI.2.1 ht
    have hcap := k_cap hI.2.1 ht hn
    have hin := k_in (by omega) hn
    have hc0 : ¬ a_t (S 222) t 0 = 0 := by generalize a_t (S 222) t 0 = x at *; grind
    by_cases q : 1 ≤ p2 ∧ p2 ≤ a_t (S 222) t 0
    · by_cases q3 : 600 ≤ p3 ∧ p3 ≤ 900
      · by_cases ql : a_t (S 222) t 3 = 0
        · have hcp : 0 < a_t (S 222) t 0 := by generalize a_t (S 222) t 0 = x at *; grind
          obtain ⟨c, nx, S1, hcc, h5, hrem, hlf1, hlo, hfin, hkeep⟩ := k_rem (F := F) hF hI
          obtain ⟨S2, o1, o2, o3⟩ := cX_putLeaf (E := hk_E0) (F := F) (kg := p2) (m := p3) hlf1 ht hcp
          obtain ⟨e222, e221⟩ := hkeep S2 o3
          have hc : mX11_load hk_E0 F S 0 (nI t) p2 p3 = some (.inr (t_fill (t_load (a_t (S 222) t) p2 p3), S2)) := by
            unfold mX11_load
            rw [he, hk_xb_inr]
            dsimp only
            rw [if_pos (hk_L_t hL ht), k_rq, htr.1, if_pos q, hk_xb_inr, k_rq, if_pos q3, hk_xb_inr, pX10_hasLeaf htr h0, if_pos ql, Option.bind_some]
            dsimp only
            rw [k_rf0, hk_xb_inr, rE_0_3 hE2, Option.bind_some, if_pos (kE_39 hE2), rE_0_0 hE2, Option.bind_some, if_pos hL.1, hrem, Option.bind_some, o1, Option.bind_some]
            have e4 : S2 (1 + 5 + t) 4 = t_fill (t_load (a_t (S 222) t) p2 p3) := by
              refine (o2.2.2.1 t ht).2.2.2.2.1.trans ?_
              unfold a_load t_fill
              rw [a_setT_t _ _ _ _ (by omega), a_setT_t _ _ _ _ (by omega), if_pos rfl, if_pos rfl]
            rw [e4]
          have hl : mL_load hk_E0 F S 0 (nI t) p2 p3 231 = some (0, hk_up S2 231 0 (t_fill (t_load (a_t (S 222) t) p2 p3))) := by
            unfold mL_load
            rw [hc]
            dsimp only
            rw [if_pos hk_ok231]
          have eM : (hk_up S2 231 0 (t_fill (t_load (a_t (S 222) t) p2 p3))) 222 = S 222 := by rw [hk_upne _ _ _ (by decide)]; exact e222
          have eM2 : (hk_up (hk_up S2 231 0 (t_fill (t_load (a_t (S 222) t) p2 p3))) 221 15 0) 222 = S 222 := by rw [hk_upne _ _ _ (by decide)]; exact eM
          have eM5 : (hk_up (hk_up S2 231 0 (t_fill (t_load (a_t (S 222) t) p2 p3))) 221 15 0) 221 5 = nI c := by rw [hk_up_eq, if_neg (by decide), hk_upne _ _ _ (by decide), e221]; exact h5
          have hw : a_ok ((hk_up S2 231 0 (t_fill (t_load (a_t (S 222) t) p2 p3))) 222) := by rw [eM]; exact hI.2.1
          obtain ⟨t1, t2, t3⟩ := k_mid S2 (t_fill (t_load (a_t (S 222) t) p2 p3)) 0
          have e15 : (hk_up (hk_up S2 231 0 (t_fill (t_load (a_t (S 222) t) p2 p3))) 221 15 0) 221 15 = 0 := by rw [hk_up_eq, if_pos rfl]
          have e231 : (hk_up (hk_up S2 231 0 (t_fill (t_load (a_t (S 222) t) p2 p3))) 221 15 0) 231 0 = t_fill (t_load (a_t (S 222) t) p2 p3) := by rw [hk_upne _ _ _ (by decide), hk_up_eq, if_pos rfl]
          generalize hMM : hk_up (hk_up S2 231 0 (t_fill (t_load (a_t (S 222) t) p2 p3))) 221 15 0 = MM at *
          have hmo : mX12_load hk_E0 F (hk_up S2 231 0 (t_fill (t_load (a_t (S 222) t) p2 p3))) 221 (nI t) p2 p3 = some (t_fill (t_load (a_t (S 222) t) p2 p3), k_fin MM c (a_load (S 222) t p2 p3)) := by
            unfold mX12_load
            simp only [pX12_in, k_10, not_false_eq_true, not_true_eq_false, if_true, if_false, Option.bind_some, pX12_thr0, pX12_thr1, pX12_thr00, pX12_thr01, pX12_thr1_, pX12_thr000, pX12_thr001, pX12_thr01_, pX12_thr1__, pX12_isTrough hE1 hw, eM, hMM, if_pos hin, pX12_of_0 hE1 ht, if_pos q, if_pos q3, pX12_isEmpty hE1 ht, ql]
            exact pX12_brr (op := fun M => mX12_loads hk_E0 F M 221 (nI t) p2 p3) hF hcc eM5 (fun M2 h => by have e := h.trans eM2; rw [← e]; exact pX12_loads hE1 ht (by rw [e]; exact hc0))
          exact ⟨_, k_mop (m := fun S => mX12_load hk_E0 F S 221 (nI t) p2 p3) hl hmo (by rw [k_fin_221, if_neg (by decide)]; exact e15) (fun _ => by rw [k_fin_ne _ _ _ (by decide) (by decide) (by decide) (by decide), e231]), hfin S2 _ _ o2 o3 (a_ok_load hI.2.1 ht hn q.1 q.2 q3.1 q3.2) t1 t2 t3⟩
        · have hc : mX11_load hk_E0 F S 0 (nI t) p2 p3 = some (.inl (2, S)) := by
            unfold mX11_load
            rw [he, hk_xb_inr]
            dsimp only
            rw [if_pos (hk_L_t hL ht), k_rq, htr.1, if_pos q, hk_xb_inr, k_rq, if_pos q3, hk_xb_inr, pX10_hasLeaf htr h0, if_neg ql, Option.bind_some]
            dsimp only
            rw [k_rf1, hk_xb_inl]
          have hl : mL_load hk_E0 F S 0 (nI t) p2 p3 231 = some (3, S) := by
            unfold mL_load
            rw [hc]
            rfl
          have hm : mX12_load hk_E0 F S 221 (nI t) p2 p3 = some (0, hk_up S 221 15 3) := by
            unfold mX12_load
            simp only [pX12_in, k_10, not_false_eq_true, not_true_eq_false, if_true, if_false, Option.bind_some, pX12_thr0, pX12_thr1, pX12_thr00, pX12_thr01, pX12_thr1_, pX12_thr000, pX12_thr001, pX12_thr01_, pX12_thr1__, pX12_isTrough hE1 hI.2.1, if_pos hin, pX12_of_0 hE1 ht, if_pos q, if_pos q3, pX12_isEmpty hE1 ht, ql]
          exact ⟨_, k_mop (m := fun S => mX12_load hk_E0 F S 221 (nI t) p2 p3) hl hm (by rw [hk_up_eq, if_pos rfl]) (fun q => absurd q (by decide)), hk_I_same hI (hk_same_thr _ _)⟩
      · have hc : mX11_load hk_E0 F S 0 (nI t) p2 p3 = some (.inl (1, S)) := by
          unfold mX11_load
          rw [he, hk_xb_inr]
          dsimp only
          rw [if_pos (hk_L_t hL ht), k_rq, htr.1, if_pos q, hk_xb_inr, k_rq, if_neg q3, hk_xb_inl]
        have hl : mL_load hk_E0 F S 0 (nI t) p2 p3 231 = some (2, S) := by
          unfold mL_load
          rw [hc]
          rfl
        have hm : mX12_load hk_E0 F S 221 (nI t) p2 p3 = some (0, hk_up S 221 15 2) := by
          unfold mX12_load
          by_cases ql : a_t (S 222) t 3 = 0 <;> simp only [pX12_in, k_10, not_false_eq_true, not_true_eq_false, if_true, if_false, Option.bind_some, pX12_thr0, pX12_thr1, pX12_thr00, pX12_thr01, pX12_thr1_, pX12_thr000, pX12_thr001, pX12_thr01_, pX12_thr1__, pX12_isTrough hE1 hI.2.1, if_pos hin, pX12_of_0 hE1 ht, if_pos q, if_neg q3, pX12_isEmpty hE1 ht, ql]
        exact ⟨_, k_mop (m := fun S => mX12_load hk_E0 F S 221 (nI t) p2 p3) hl hm (by rw [hk_up_eq, if_pos rfl]) (fun q => absurd q (by decide)), hk_I_same hI (hk_same_thr _ _)⟩
    · have hc : mX11_load hk_E0 F S 0 (nI t) p2 p3 = some (.inl (1, S)) := by
        unfold mX11_load
        rw [he, hk_xb_inr]
        dsimp only
        rw [if_pos (hk_L_t hL ht), k_rq, htr.1, if_neg q, hk_xb_inl]
      have hl : mL_load hk_E0 F S 0 (nI t) p2 p3 231 = some (2, S) := by
        unfold mL_load
        rw [hc]
        rfl
      have hm : mX12_load hk_E0 F S 221 (nI t) p2 p3 = some (0, hk_up S 221 15 2) := by
        unfold mX12_load
        by_cases ql : a_t (S 222) t 3 = 0 <;> simp only [pX12_in, k_10, not_false_eq_true, not_true_eq_false, if_true, if_false, Option.bind_some, pX12_thr0, pX12_thr1, pX12_thr00, pX12_thr01, pX12_thr1_, pX12_thr000, pX12_thr001, pX12_thr01_, pX12_thr1__, pX12_isTrough hE1 hI.2.1, if_pos hin, pX12_of_0 hE1 ht, if_neg q, pX12_isEmpty hE1 ht, ql]
      exact ⟨_, k_mop (m := fun S => mX12_load hk_E0 F S 221 (nI t) p2 p3) hl hm (by rw [hk_up_eq, if_pos rfl]) (fun q => absurd q (by decide)), hk_I_same hI (hk_same_thr _ _)⟩
  · have hc : mX11_load hk_E0 F S 0 p1 p2 p3 = some (.inl (0, S)) := by
      unfold mX11_load
      rw [he, hk_xb_inl]
    have hl : mL_load hk_E0 F S 0 p1 p2 p3 231 = some (1, S) := by
      unfold mL_load
      rw [hc]
      rfl
    have hm : mX12_load hk_E0 F S 221 p1 p2 p3 = some (0, hk_up S 221 15 1) := by
      unfold mX12_load
      by_cases q3 : 600 ≤ p3 ∧ p3 ≤ 900 <;> simp only [pX12_in, k_10, not_false_eq_true, not_true_eq_false, if_true, if_false, Option.bind_some, pX12_thr0, pX12_thr1, pX12_thr00, pX12_thr01, pX12_thr1_, pX12_thr000, pX12_thr001, pX12_thr01_, pX12_thr1__, pX12_isTrough hE1 hI.2.1, if_neg hno, q3, and_self]
    exact ⟨_, k_mop (m := fun S => mX12_load hk_E0 F S 221 p1 p2 p3) hl hm (by rw [hk_up_eq, if_pos rfl]) (fun q => absurd q (by decide)), hk_I_same hI (hk_same_thr _ _)⟩
set_option maxHeartbeats 4000000 in
theorem mop_5_ok {F : Nat} {S : hk_S} {p1 p2 p3 p4 p5 : Int32} (hF : 2000000 ≤ F) (hI : hk_I S) : ∃ S', mop_5 F S p1 p2 p3 p4 p5 = some S' ∧ hk_I S' := by
  have hL := hk_L1 hE2
  have hA := hI.1.1
  have hN := hI.1.2.1
  rcases k_exT (F := F) hI p1 with ⟨t, ht, rfl, hn, he⟩ | ⟨hno, he⟩
  · have htr := hI.1.2.2.1 t ht
    have h0 := k_leaf0 hI.2.1 ht
    have hok := hI.2.1.2.2.2.2.2.2.2.2.2.1 t ht
    have hin := k_in (by omega) hn
    have eix : (17 : Int32) + 9 * nI t + 1 = nI (17 + 9 * t + 1) := k_idx t 1
    by_cases q : 0 ≤ p2 ∧ p2 ≤ 5
    · obtain ⟨c, nx, S1, hcc, h5, hrem, hlf1, hlo, hfin, hkeep⟩ := k_rem (F := F) hF hI
      obtain ⟨S2, o1, o2, o3⟩ := show ∃ S2, S2 = hk_up S1 (1 + 5 + t) 1 p2 ∧ hk_lf S2 1 (a_fan (S 222) t p2) ∧ hk_fr 1 S1 S2 from ⟨_, rfl, cX_fan hlf1 ht, hk_fr_up (hk_fr_refl _ _) (by omega) (by omega) _ _⟩
      obtain ⟨e222, e221⟩ := hkeep S2 o3
      have hc : mX11_setFan hk_E0 F S 0 (nI t) p2 = some (.inr (a_t (S 222) t 1, S2)) := by
        unfold mX11_setFan
        rw [he, hk_xb_inr]
        dsimp only
        rw [if_pos (hk_L_t hL ht), k_rq, if_pos q, hk_xb_inr, rE_0_3 hE2, Option.bind_some, if_pos (kE_39 hE2), rE_0_0 hE2, Option.bind_some, if_pos hL.1, hrem, Option.bind_some]
        simp only [hk_let_eq]
        rw [(hlf1.2.2.1 t ht).2.1, ← o1]
      have hl : mL_setFan hk_E0 F S 0 (nI t) p2 231 = some (0, hk_up S2 231 0 (a_t (S 222) t 1)) := by
        unfold mL_setFan
        rw [hc]
        dsimp only
        rw [if_pos hk_ok231]
      have eM : (hk_up S2 231 0 (a_t (S 222) t 1)) 222 = S 222 := by rw [hk_upne _ _ _ (by decide)]; exact e222
      have eM2 : (hk_up (hk_up S2 231 0 (a_t (S 222) t 1)) 221 15 0) 222 = S 222 := by rw [hk_upne _ _ _ (by decide)]; exact eM
      have eM5 : (hk_up (hk_up S2 231 0 (a_t (S 222) t 1)) 221 15 0) 221 5 = nI c := by rw [hk_up_eq, if_neg (by decide), hk_upne _ _ _ (by decide), e221]; exact h5
      have hw : a_ok ((hk_up S2 231 0 (a_t (S 222) t 1)) 222) := by rw [eM]; exact hI.2.1
      obtain ⟨t1, t2, t3⟩ := k_mid S2 (a_t (S 222) t 1) 0
      have e15 : (hk_up (hk_up S2 231 0 (a_t (S 222) t 1)) 221 15 0) 221 15 = 0 := by rw [hk_up_eq, if_pos rfl]
      have e231 : (hk_up (hk_up S2 231 0 (a_t (S 222) t 1)) 221 15 0) 231 0 = a_t (S 222) t 1 := by rw [hk_upne _ _ _ (by decide), hk_up_eq, if_pos rfl]
      generalize hMM : hk_up (hk_up S2 231 0 (a_t (S 222) t 1)) 221 15 0 = MM at *
      have hmo : mX12_setFan hk_E0 F (hk_up S2 231 0 (a_t (S 222) t 1)) 221 (nI t) p2 = some (a_t (S 222) t 1, k_fin MM c (a_fan (S 222) t p2)) := by
        unfold mX12_setFan
        simp only [pX12_in, k_10, not_false_eq_true, not_true_eq_false, if_true, if_false, Option.bind_some, pX12_thr0, pX12_thr1, pX12_thr00, pX12_thr01, pX12_thr1_, pX12_thr000, pX12_thr001, pX12_thr01_, pX12_thr1__, pX12_isTrough hE1 hw, eM, hMM, if_pos hin, if_pos q]
        unfold mX12_setOne
        rw [eix]
        have := pX12_brr (F := F) (op := fun M => mX12_sets hk_E0 F M 221 (nI (17 + 9 * t + 1)) p2) (v := a_t (S 222) t 1) (w' := a_fan (S 222) t p2) hF hcc eM5 (fun M2 h => by have e := h.trans eM2; rw [← e, ← a_fan_upd]; exact pX12_sets hE1 (by omega))
        rw [this, Option.bind_some]
      exact ⟨_, k_mop (m := fun S => mX12_setFan hk_E0 F S 221 (nI t) p2) hl hmo (by rw [k_fin_221, if_neg (by decide)]; exact e15) (fun _ => by rw [k_fin_ne _ _ _ (by decide) (by decide) (by decide) (by decide), e231]), hfin S2 _ _ o2 o3 (a_ok_fan hI.2.1 ht hn q.1 q.2) t1 t2 t3⟩
    · have hc : mX11_setFan hk_E0 F S 0 (nI t) p2 = some (.inl (1, S)) := by
        unfold mX11_setFan
        rw [he, hk_xb_inr]
        dsimp only
        rw [if_pos (hk_L_t hL ht), k_rq, if_neg q, hk_xb_inl]
      have hl : mL_setFan hk_E0 F S 0 (nI t) p2 231 = some (2, S) := by
        unfold mL_setFan
        rw [hc]
        rfl
      have hm : mX12_setFan hk_E0 F S 221 (nI t) p2 = some (0, hk_up S 221 15 2) := by
        unfold mX12_setFan
        simp only [pX12_in, k_10, not_false_eq_true, not_true_eq_false, if_true, if_false, Option.bind_some, pX12_thr0, pX12_thr1, pX12_thr00, pX12_thr01, pX12_thr1_, pX12_thr000, pX12_thr001, pX12_thr01_, pX12_thr1__, pX12_isTrough hE1 hI.2.1, if_pos hin, if_neg q]
      exact ⟨_, k_mop (m := fun S => mX12_setFan hk_E0 F S 221 (nI t) p2) hl hm (by rw [hk_up_eq, if_pos rfl]) (fun q => absurd q (by decide)), hk_I_same hI (hk_same_thr _ _)⟩
  · have hc : mX11_setFan hk_E0 F S 0 p1 p2 = some (.inl (0, S)) := by
      unfold mX11_setFan
      rw [he, hk_xb_inl]
    have hl : mL_setFan hk_E0 F S 0 p1 p2 231 = some (1, S) := by
      unfold mL_setFan
      rw [hc]
      rfl
    have hm : mX12_setFan hk_E0 F S 221 p1 p2 = some (0, hk_up S 221 15 1) := by
      unfold mX12_setFan
      by_cases q3 : 0 ≤ p2 ∧ p2 ≤ 5 <;> simp only [pX12_in, k_10, not_false_eq_true, not_true_eq_false, if_true, if_false, Option.bind_some, pX12_thr0, pX12_thr1, pX12_thr00, pX12_thr01, pX12_thr1_, pX12_thr000, pX12_thr001, pX12_thr01_, pX12_thr1__, pX12_isTrough hE1 hI.2.1, if_neg hno, q3, and_self]
    exact ⟨_, k_mop (m := fun S => mX12_setFan hk_E0 F S 221 p1 p2) hl hm (by rw [hk_up_eq, if_pos rfl]) (fun q => absurd q (by decide)), hk_I_same hI (hk_same_thr _ _)⟩
