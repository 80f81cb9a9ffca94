/-! the action that runs a script -/
theorem k_byte_ne (y : Int32) : ¬ y &&& 255 = -1 := fun h => by
  have e : (y &&& 255) &&& 256 = 0 := by rw [Int32.and_assoc, show (255 : Int32) &&& 256 = 0 by decide, Int32.and_zero]
  rw [h] at e
  exact absurd e (by decide)
theorem pX12_runScript_7 {F n : Nat} {K : hk_S → Int32 → Option (Int32 × hk_S)} (hn : n ≤ 600) : ∀ (d z f : Nat) (M : hk_S), z + d = n → d < f → M 221 9 = nI n → ∃ M', mX12_runScript_7 hk_E0 F 221 K f M (nI z) = K M' (nI n) ∧ (∀ k, z ≤ k → k < n → M' 228 k = M 227 k) ∧ (∀ k, k < z → M' 228 k = M 228 k) ∧ (∀ a, a ≠ 228 → M' a = M a) := by
  intro d
  induction d with
  | zero =>
    intro z f M h1 h2 h3
    obtain ⟨f, rfl⟩ : ∃ g, f = g + 1 := ⟨f - 1, by omega⟩
    have hz : z = n := by omega
    refine ⟨M, ?_, fun k h1 h2 => by omega, fun _ _ => rfl, fun _ _ => rfl⟩
    rw [mX12_runScript_7]
    dsimp only
    rw [h3, if_pos (show nI n ≤ nI z from (nI_leI (by omega) (by omega)).mpr (by omega)), hz]
  | succ d ih =>
    intro z f M h1 h2 h3
    obtain ⟨f, rfl⟩ : ∃ g, f = g + 1 := ⟨f - 1, by omega⟩
    obtain ⟨M', a1, a2, a3, a4⟩ := ih (z + 1) f (hk_up M 228 z (M 227 z)) (by omega) (by omega) (by rw [hk_upne _ _ _ (by decide)]; exact h3)
    refine ⟨M', ?_, fun k h4 h5 => ?_, fun k h4 => ?_, fun a ha => ?_⟩
    · rw [mX12_runScript_7]
      dsimp only
      rw [h3, if_neg (show ¬ nI n ≤ nI z from nI_ge (by omega) (by omega)), rE_221_8 hE1, Option.bind_some, if_pos (kE_228 hE1), rE_221_7 hE1, Option.bind_some, if_pos (kE_227 hE1), lE_227 hE1, lE_228 hE1, if_pos (hk_okI (show z < 600 by omega) (by omega)), if_pos (hk_okI (show z < 600 by omega) (by omega)), nI_clamp (by omega), hk_let_eq, hk_let_eq, nI_1]
      exact a1
    · by_cases q : k = z
      · subst q
        rw [a3 k (by omega), hk_up_eq, if_pos rfl]
      · rw [a2 k (by omega) h5, hk_upne _ _ _ (by decide)]
    · rw [a3 k (by omega), hk_up_eq, if_neg (by omega)]
    · rw [a4 a ha, hk_upne _ _ _ ha]
theorem m_pre {F n : Nat} {S5 : hk_S} (hF : 1000 ≤ F) (hn : n ≤ 600) (h9 : S5 221 9 = nI n) : ∃ Mb, mX12_runScript hk_E0 F S5 221 = ((mX12_parses hk_E0 F Mb 221).bind (fun r15 => if ¬ r15.1 = 0 then ((hk_E0.2.2.2 221 0).bind (fun r17 => if hk_E0.2.1 r17 = 13 then (if hk_ok 9 (hk_E0.2.2.1 r17) then ((mX12_remember hk_E0 F r15.2 221 (r15.2 r17 9)).bind (fun r19 => some (r19.1, r19.2))) else none) else none)) else (mX12_runScript_59 hk_E0 F 221 (fun S28 _ => some ((-1), S28)) F r15.2 0))) ∧ k_mT (S5 227) n Mb ∧ (∀ a, a ≠ 221 → a ≠ 223 → a ≠ 228 → Mb a = S5 a) ∧ Mb 223 = a_cp (S5 222) (S5 223) 0 ∧ Mb 221 9 = 0 ∧ (∀ k, k < 15 → k ≠ 9 → k ≠ 10 → Mb 221 k = S5 221 k) := by
  obtain ⟨M1, a1, a2, -, a4⟩ := pX12_runScript_7 (F := F) (K := fun S10 _ => hk_let (hk_up S10 221 10 (S10 221 9)) (fun S12 => hk_let (hk_up S12 221 9 0) (fun S13 => (mX12_begins hk_E0 F S13 221).bind (fun r14 => (mX12_parses hk_E0 F r14 221).bind (fun r15 => if ¬ r15.1 = 0 then ((hk_E0.2.2.2 221 0).bind (fun r17 => if hk_E0.2.1 r17 = 13 then (if hk_ok 9 (hk_E0.2.2.1 r17) then ((mX12_remember hk_E0 F r15.2 221 (r15.2 r17 9)).bind (fun r19 => some (r19.1, r19.2))) else none) else none)) else (mX12_runScript_59 hk_E0 F 221 (fun S28 _ => some ((-1), S28)) F r15.2 0)))))) hn n 0 F (hk_up S5 221 15 0) (by omega) (by omega) (by rw [hk_up_eq, if_neg (by decide)]; exact h9)
  have e221 : M1 221 = (hk_up S5 221 15 0) 221 := a4 221 (by decide)
  have ene : ∀ a, a ≠ 221 → a ≠ 228 → M1 a = S5 a := fun a h1 h2 => by rw [a4 a h2, hk_upne _ _ _ h1]
  let M3 := hk_up (hk_up M1 221 10 (M1 221 9)) 221 9 0
  have e3 : ∀ a, a ≠ 221 → M3 a = M1 a := fun a h1 => by
    show hk_up (hk_up M1 221 10 (M1 221 9)) 221 9 0 a = _
    rw [hk_upne _ _ _ h1, hk_upne _ _ _ h1]
  have k9 : M3 221 9 = 0 := by
    show hk_up (hk_up M1 221 10 (M1 221 9)) 221 9 0 221 9 = _
    rw [hk_up_eq, if_pos rfl]
  have k10 : M3 221 10 = nI n := by
    show hk_up (hk_up M1 221 10 (M1 221 9)) 221 9 0 221 10 = _
    rw [hk_up_eq, if_neg (by decide), hk_up_eq, if_pos rfl, e221, hk_up_eq, if_neg (by decide), h9]
  have kk : ∀ k, k < 15 → k ≠ 9 → k ≠ 10 → M3 221 k = S5 221 k := fun k h1 h2 h3 => by
    show hk_up (hk_up M1 221 10 (M1 221 9)) 221 9 0 221 k = _
    rw [hk_up_eq, if_neg h2, hk_up_eq, if_neg h3, e221, hk_up_eq, if_neg (by omega)]
  have hu : mX12_runScript hk_E0 F S5 221 = ((mX12_parses hk_E0 F (va_up M3 223 (a_cp (M3 222) (M3 223) 0)) 221).bind (fun r15 => if ¬ r15.1 = 0 then ((hk_E0.2.2.2 221 0).bind (fun r17 => if hk_E0.2.1 r17 = 13 then (if hk_ok 9 (hk_E0.2.2.1 r17) then ((mX12_remember hk_E0 F r15.2 221 (r15.2 r17 9)).bind (fun r19 => some (r19.1, r19.2))) else none) else none)) else (mX12_runScript_59 hk_E0 F 221 (fun S28 _ => some ((-1), S28)) F r15.2 0))) := by
    unfold mX12_runScript
    rw [hk_let_eq]
    refine a1.trans ?_
    rw [hk_let_eq, hk_let_eq, show mX12_begins hk_E0 F (hk_up (hk_up M1 221 10 (M1 221 9)) 221 9 0) 221 = some (va_up M3 223 (a_cp (M3 222) (M3 223) 0)) from pX12_begins hE1 (by omega), Option.bind_some]
  clear_value M3
  have eb : ∀ a, a ≠ 223 → (va_up M3 223 (a_cp (M3 222) (M3 223) 0)) a = M3 a := fun a ha => va_up_ne _ _ ha
  refine ⟨_, hu, ⟨hn, by rw [eb 221 (by decide)]; exact k10, fun k hk => ?_⟩, fun a h1 h2 h3 => by rw [eb a h2, e3 a h1, ene a h1 h3], ?_, by rw [eb 221 (by decide)]; exact k9, fun k h1 h2 h3 => by rw [eb 221 (by decide)]; exact kk k h1 h2 h3⟩
  · rw [eb 228 (by decide), e3 228 (by decide), a2 k (Nat.zero_le _) hk, hk_upne _ _ _ (by decide)]
  · rw [va_up_self, e3 222 (by decide), e3 223 (by decide), ene 222 (by decide) (by decide), ene 223 (by decide) (by decide)]
set_option maxHeartbeats 4000000 in
theorem mop_2_ok {F : Nat} {S : hk_S} {p1 p2 p3 p4 p5 : Int32} (hF : 2000000 ≤ F) (hI : hk_I S) : ∃ S', mop_2 F S p1 p2 p3 p4 p5 = some S' ∧ hk_I S' := by
  obtain ⟨g1, g2, g3, g4, g5, g6, g7⟩ := id hI
  obtain ⟨n, h1, h2, h3, h4⟩ := g5
  obtain ⟨c, nx, q1, q2, q3, q4, q5, q6⟩ := id g3
  have hr := hk_ring_lt nx
  have hC : k_cT (S 227) n S := ⟨h1, h2, h4, fun k hk => by rw [← h4 k hk]; exact k_byte_ne _⟩
  obtain ⟨Mb0, -, t0, -⟩ := m_pre (F := F) (S5 := S) (by omega) h1 h3
  have L1 := hk_L1 hE2
  have L196 := hk_L196 hE2
  rcases k_script hF hC t0 with ⟨C', -, w0, r1, -, c1, -, -, -, -, -, gC, -⟩ | ⟨C', -, -, -, r1, -, -, -, -, -, -, gC, -⟩
  · -- the class goes through
    have eC : ∀ a, a < 193 ∨ 218 ≤ a → (hk_up C' 194 1 0) a = S a := fun a ha => by rw [hk_upne _ _ _ (by omega)]; exact gC.1 a (by omega)
    obtain ⟨S6, s1, s2, s3, s4, s5⟩ := cX_remember (E := hk_E0) (F := F) (S := hk_up C' 194 1 0) (c := c) (nx := nx) (w := S 222) hE2 (by omega) (hk_lf_ext g1 (fun a _ hb => eC a (by omega))) q2 q1 (by rw [eC 39 (by omega)]; exact q5) (by rw [eC 39 (by omega)]; exact q3)
    have e6 : ∀ a, a ≠ 39 → (a < hk_ring nx ∨ hk_ring nx + 19 ≤ a) → a < 193 ∨ 218 ≤ a → S6 a = S a := fun a z1 z2 z3 => (s5 a z1 z2).trans (eC a z3)
    have l196 : ∀ w, hk_lf C' 196 w → hk_lf S6 196 w := fun w hw => hk_lf_ext hw (fun a ha hb => by rw [s5 a (by omega) (by omega), hk_upne _ _ _ (by omega)])
    obtain ⟨S7, b1, b2, b3⟩ := cX_become (E := hk_E0) (F := F) (S := S6) (b := 196) (c := 1) (w := w0) (by omega) L196 L1 (by omega) (l196 w0 c1).2.2.1
    have e7 : ∀ a, 20 ≤ a → a ≠ 39 → (a < hk_ring nx ∨ hk_ring nx + 19 ≤ a) → a < 193 ∨ 218 ≤ a → S7 a = S a := fun a z0 z1 z2 z3 => (b3 a (by omega)).trans (e6 a z1 z2 z3)
    have e70 : S7 0 = S 0 := (b3 0 (by omega)).trans (e6 0 (by omega) (by omega) (by omega))
    have hc : mX11_runScript hk_E0 F S 0 = some (S7 1 2, S7) := by
      unfold mX11_runScript
      rw [rE_0_4 hE2, Option.bind_some, if_pos (kE_193 hE2), r1, Option.bind_some, rE_193_0 hE2, Option.bind_some, if_pos (kE_194 hE2), hk_let_eq]
      dsimp only
      rw [if_pos (show ¬ (1 : Int32) = 0 by decide), rE_0_3 hE2, Option.bind_some, if_pos (kE_39 hE2), rE_0_0 hE2, Option.bind_some, if_pos L1.1, s1, Option.bind_some, rE_193_1 hE2, Option.bind_some, if_pos L196.1, b1, Option.bind_some]
    have e227 : S7 227 = S 227 := e7 227 (by omega) (by omega) (by omega) (by omega)
    have e221 : S7 221 = S 221 := e7 221 (by omega) (by omega) (by omega) (by omega)
    have e222 : S7 222 = S 222 := e7 222 (by omega) (by omega) (by omega) (by omega)
    have e225 : S7 225 = S 225 := e7 225 (by omega) (by omega) (by omega) (by omega)
    obtain ⟨Mb, u1, u2, u3, u4, u5, u6⟩ := m_pre (F := F) (S5 := S7) (by omega) h1 (by rw [e221]; exact h3)
    rw [e227] at u2
    rcases k_script hF hC u2 with ⟨D', M', w', d1, d2, d3, d4, d5, d6, d7, d8, -, gM⟩ | ⟨D', M', k, o, d1, -⟩
    · have eD : D' = C' := by
        have := d1.symm.trans r1
        injection this with this
        injection this
      subst eD
      have m221 : ∀ k, k < 15 → k ≠ 9 → k ≠ 10 → k ≠ 11 → k ≠ 12 → M' 221 k = S 221 k := fun k z1 z2 z3 z4 z5 => by
        rw [gM.2 k (by simp; omega), u6 k z1 z2 z3, e221]
      have m9 : M' 221 9 = 0 := (gM.2 9 (by decide)).trans u5
      have mo : ∀ a, a ≠ 221 → a ≠ 222 → a ≠ 223 → a ≠ 228 → a ≠ 230 → M' a = S7 a := fun a z1 z2 z3 z4 z5 => (gM.1 a z1 z2 z5).trans (u3 a z1 z3 z4)
      have m223 : M' 223 = a_cp (S 222) (S7 223) 0 := by rw [gM.1 223 (by decide) (by decide) (by decide), u4, e222]
      have m225 : M' 225 = S 225 := (mo 225 (by decide) (by decide) (by decide) (by decide) (by decide)).trans e225
      have m5 : M' 221 5 = nI c := (m221 5 (by omega) (by omega) (by omega) (by omega) (by omega)).trans q4
      have lf7 : hk_lf S7 1 w' := hk_lf_cp (l196 w' d3) b2
      have hm : mX12_runScript hk_E0 F S7 221 = some (S7 1 2, hk_up (va_up M' 225 (a_past (M' 223) (M' 225) c)) 221 5 (nI (min (c + 1) 8))) := by
        rw [u1, d2, Option.bind_some]
        dsimp only
        rw [if_pos (show ¬ (1 : Int32) = 0 by decide), rE_221_0 hE1, Option.bind_some, if_pos (kE_222 hE1), lE_222 hE1, if_pos (show hk_ok 9 107 by decide), pX12_remember hE1 (by omega) q1 m5, Option.bind_some, d5, lf7.2.1.1]
      refine ⟨_, k_mopP (m := fun S => mX12_runScript hk_E0 F S 221) hc hm, ?_⟩
      have f221 : ∀ k, k ≠ 5 → (hk_up (va_up M' 225 (a_past (M' 223) (M' 225) c)) 221 5 (nI (min (c + 1) 8))) 221 k = M' 221 k := fun k hk => by rw [hk_up_eq, if_neg hk, va_up_ne _ _ (by decide)]
      have f5 : (hk_up (va_up M' 225 (a_past (M' 223) (M' 225) c)) 221 5 (nI (min (c + 1) 8))) 221 5 = nI (min (c + 1) 8) := by rw [hk_up_eq, if_pos rfl]
      have fo : ∀ a, a ≠ 221 → a ≠ 225 → (hk_up (va_up M' 225 (a_past (M' 223) (M' 225) c)) 221 5 (nI (min (c + 1) 8))) a = M' a := fun a z1 z2 => by rw [hk_upne _ _ _ z1, va_up_ne _ _ z2]
      have f225 : (hk_up (va_up M' 225 (a_past (M' 223) (M' 225) c)) 221 5 (nI (min (c + 1) 8))) 225 = a_past (M' 223) (S 225) c := by rw [hk_upne _ _ _ (by decide), va_up_self, m225]
      generalize hk_up (va_up M' 225 (a_past (M' 223) (M' 225) c)) 221 5 (nI (min (c + 1) 8)) = Z at *
      have z7 : ∀ a, a < 221 ∨ a = 224 ∨ a = 226 ∨ a = 227 ∨ a = 229 → Z a = S7 a := fun a ha => (fo a (by omega) (by omega)).trans (mo a (by omega) (by omega) (by omega) (by omega) (by omega))
      have zS : ∀ a, 20 ≤ a → a ≠ 39 → (a < hk_ring nx ∨ hk_ring nx + 19 ≤ a) → (a < 193 ∨ (218 ≤ a ∧ a < 221)) ∨ a = 226 ∨ a = 227 ∨ a = 229 → Z a = S a := fun a y0 y1 y2 y3 => (z7 a (by omega)).trans (e7 a y0 y1 y2 (by omega))
      have z0 : Z 0 = S 0 := (z7 0 (by omega)).trans e70
      have z193 : Z 193 = D' 193 := by rw [z7 193 (by omega), b3 193 (by omega), s5 193 (by omega) (by omega), hk_upne _ _ _ (by decide)]
      have z194 : Z 194 1 = 0 := by rw [z7 194 (by omega), b3 194 (by omega), s5 194 (by omega) (by omega), hk_up_eq, if_pos rfl]
      have z39 : Z 39 = S6 39 := (z7 39 (by omega)).trans (b3 39 (by omega))
      have z222 : Z 222 = w' := (fo 222 (by decide) (by decide)).trans d5
      -- what stays, with the script's own places as they are now
      let Q : hk_S := fun a => if 193 ≤ a ∧ a < 218 then Z a else if a = 221 then M' 221 else S a
      have Qs : ∀ a, (a < 193 ∨ 218 ≤ a) → a ≠ 221 → Q a = S a := fun a y1 y2 => by
        show (if 193 ≤ a ∧ a < 218 then Z a else if a = 221 then M' 221 else S a) = _
        rw [if_neg (by omega), if_neg y2]
      have Qz : ∀ a, 193 ≤ a → a < 218 → Q a = Z a := fun a y1 y2 => by
        show (if 193 ≤ a ∧ a < 218 then Z a else if a = 221 then M' 221 else S a) = _
        rw [if_pos ⟨y1, y2⟩]
      have Q1 : Q 221 = M' 221 := by
        show (if 193 ≤ 221 ∧ 221 < 218 then Z 221 else if 221 = 221 then M' 221 else S 221) = _
        rw [if_neg (by omega), if_pos rfl]
      clear_value Q
      have hQ : hk_I Q := by
        refine ⟨by rw [Qs 222 (by omega) (by omega)]; exact hk_lf_ext g1 (fun a _ hb => Qs a (by omega) (by omega)), by rw [Qs 222 (by omega) (by omega)]; exact g2, hk_hist_ext g3 (fun a _ hb => Qs a (by omega) (by omega)) (by rw [Q1]; exact m221 5 (by omega) (by omega) (by omega) (by omega) (by omega)) (Qs 225 (by omega) (by omega)), hk_snap_ext g4 (by rw [Qs 0 (by omega) (by omega)]) (fun a _ hb => Qs a (by omega) (by omega)) (by rw [Q1]; exact m221 6 (by omega) (by omega) (by omega) (by omega) (by omega)) (Qs 226 (by omega) (by omega)), ⟨0, by omega, by rw [Qz 194 (by omega) (by omega), z194]; rfl, by rw [Q1, m9]; rfl, fun k hk => absurd hk (by omega)⟩, ?_, hk_rep_ext g7 (by rw [Qs 218 (by omega) (by omega)]) (Qs 219 (by omega) (by omega)) (by rw [Q1]; exact m221 14 (by omega) (by omega) (by omega) (by omega) (by omega)) (Qs 229 (by omega) (by omega))⟩
        unfold hk_err
        rw [Q1, Qz 193 (by omega) (by omega), z193, d6, d7, d8, if_pos rfl]
        exact ⟨rfl, rfl⟩
      refine hk_I_ch (S := Q) (c := c) (nx := nx) (W := M' 223) (w' := w') hQ q1 q2 (by rw [Qs 39 (by omega) (by omega)]; exact q5) (by rw [Qs 39 (by omega) (by omega)]; exact q3) (fun i hi => by rw [m223, a_cp_lt hi, Qs 222 (by omega) (by omega)]) d4 (hk_lf_ext lf7 (fun a ha hb => z7 a (by omega))) z222 ?_ (by rw [z39]; exact s3) (by rw [z39]; exact s4) (fun a y1 y2 y3 y4 => ?_) (by rw [Qs 0 (by omega) (by omega)]; exact z0) (fun k hk y => by rw [Q1]; exact f221 k y) f5 (by rw [Qs 225 (by omega) (by omega)]; exact f225) ⟨?_, ?_, ?_⟩
      · rw [Qs 222 (by omega) (by omega)]
        exact hk_lf_ext s2 (fun a ha hb => by rw [z7 a (by omega), b3 a (by omega)])
      · by_cases y5 : 193 ≤ a ∧ a < 218
        · rw [Qz a y5.1 y5.2]
        · rw [Qs a (by omega) (by omega)]
          exact zS a y3 y1 y2 (by omega)
      · rw [Qs 226 (by omega) (by omega)]
        exact zS 226 (by omega) (by omega) (by omega) (by omega)
      · rw [Qs 227 (by omega) (by omega)]
        exact zS 227 (by omega) (by omega) (by omega) (by omega)
      · rw [Qs 229 (by omega) (by omega)]
        exact zS 229 (by omega) (by omega) (by omega) (by omega)
    · have := d1.symm.trans r1
      injection this with this
      injection this with this
      exact absurd this (by decide)
  · -- the class fails
    have eC : ∀ a, a < 193 ∨ 218 ≤ a → (hk_up C' 194 1 0) a = S a := fun a ha => by rw [hk_upne _ _ _ (by omega)]; exact gC.1 a (by omega)
    have e193 : (hk_up C' 194 1 0) 193 = C' 193 := hk_upne _ _ _ (by decide)
    have e194 : (hk_up C' 194 1 0) 194 1 = 0 := by rw [hk_up_eq, if_pos rfl]
    have hc : mX11_runScript hk_E0 F S 0 = some (-1, hk_up C' 194 1 0) := by
      unfold mX11_runScript
      rw [rE_0_4 hE2, Option.bind_some, if_pos (kE_193 hE2), r1, Option.bind_some, rE_193_0 hE2, Option.bind_some, if_pos (kE_194 hE2), hk_let_eq]
      dsimp only
      rw [if_neg (fun z => z rfl)]
    generalize hk_up C' 194 1 0 = S7 at *
    obtain ⟨Mb, u1, u2, u3, u4, u5, u6⟩ := m_pre (F := F) (S5 := S7) (by omega) h1 (by rw [eC 221 (by omega)]; exact h3)
    rw [eC 227 (by omega)] at u2
    rcases k_script hF hC u2 with ⟨D', M', w', d1, -⟩ | ⟨D', M', k, o, d1, d2, d3, d4, d5, d6, d7, -, gM⟩
    · have := d1.symm.trans r1
      injection this with this
      injection this with this
      exact absurd this (by decide)
    · have eD : D' = C' := by
        have := d1.symm.trans r1
        injection this with this
        injection this
      subst eD
      have m221 : ∀ k, k < 15 → k ≠ 9 → k ≠ 10 → k ≠ 11 → k ≠ 12 → M' 221 k = S 221 k := fun k z1 z2 z3 z4 z5 => by
        rw [gM.2 k (by simp; omega), u6 k z1 z2 z3, eC 221 (by omega)]
      have m9 : M' 221 9 = 0 := (gM.2 9 (by decide)).trans u5
      have mo : ∀ a, a ≠ 221 → a ≠ 222 → a ≠ 223 → a ≠ 228 → a ≠ 230 → M' a = S7 a := fun a z1 z2 z3 z4 z5 => (gM.1 a z1 z2 z5).trans (u3 a z1 z3 z4)
      have m223 : M' 223 = a_cp (S 222) (S 223) 0 := by rw [gM.1 223 (by decide) (by decide) (by decide), u4, eC 222 (by omega), eC 223 (by omega)]
      have hm : mX12_runScript hk_E0 F S7 221 = some (-1, va_up M' 222 (a_cp (M' 223) (M' 222) 0)) := by
        rw [u1, d2, Option.bind_some]
        dsimp only
        rw [if_neg (fun z => z rfl)]
        exact pX12_runScript_59 (F := F) hE1 107 0 F M' (by omega) (by omega)
      refine ⟨_, k_mopP (m := fun S => mX12_runScript hk_E0 F S 221) hc hm, ?_⟩
      have fo : ∀ a, a ≠ 222 → (va_up M' 222 (a_cp (M' 223) (M' 222) 0)) a = M' a := fun a h => va_up_ne _ _ h
      have f222 : ∀ i, i < 107 → (va_up M' 222 (a_cp (M' 223) (M' 222) 0)) 222 i = S 222 i := fun i hi => by rw [va_up_self, a_cp_lt hi, m223, a_cp_lt hi]
      generalize va_up M' 222 (a_cp (M' 223) (M' 222) 0) = Z at *
      have zS : ∀ a, (a < 193 ∨ (218 ≤ a ∧ a < 221)) ∨ a = 225 ∨ a = 226 ∨ a = 229 → Z a = S a := fun a y => (fo a (by omega)).trans ((mo a (by omega) (by omega) (by omega) (by omega) (by omega)).trans (eC a (by omega)))
      have z193 : Z 193 = D' 193 := by rw [fo 193 (by decide), mo 193 (by decide) (by decide) (by decide) (by decide) (by decide), e193]
      have z194 : Z 194 1 = 0 := by rw [fo 194 (by decide), mo 194 (by decide) (by decide) (by decide) (by decide) (by decide), e194]
      have z221 : Z 221 = M' 221 := fo 221 (by decide)
      refine ⟨hk_lf_row (hk_lf_ext g1 (fun a _ hb => zS a (by omega))) f222, a_ok_row g2 f222, hk_hist_ext g3 (fun a _ hb => zS a (by omega)) (by rw [z221]; exact m221 5 (by omega) (by omega) (by omega) (by omega) (by omega)) (zS 225 (by omega)), hk_snap_ext g4 (by rw [zS 0 (by omega)]) (fun a _ hb => zS a (by omega)) (by rw [z221]; exact m221 6 (by omega) (by omega) (by omega) (by omega) (by omega)) (zS 226 (by omega)), ⟨0, by omega, by rw [z194]; rfl, by rw [z221, m9]; rfl, fun k hk => absurd hk (by omega)⟩, ?_, hk_rep_ext g7 (by rw [zS 218 (by omega)]) (zS 219 (by omega)) (by rw [z221]; exact m221 14 (by omega) (by omega) (by omega) (by omega) (by omega)) (zS 229 (by omega))⟩
      unfold hk_err
      rw [z221, z193, d4, d5, d6, d7, if_neg d3]
      exact ⟨rfl, rfl⟩
