/-! the input, undo, the snapshot -/
theorem k_255 : ∀ i : Nat, i < 32 → (255#32 : BitVec 32).getLsbD i = decide (i < 8) := by decide
theorem k_byte8 (y : Int32) : y.toInt8.toInt32 &&& 255 = y &&& 255 := by
  apply Int32.toBitVec_inj.mp
  apply BitVec.eq_of_getLsbD_eq
  intro i hi
  have e : ∀ x : Int32, (x &&& 255).toBitVec = x.toBitVec &&& 255#32 := fun x => rfl
  rw [e, e, BitVec.getLsbD_and, BitVec.getLsbD_and, k_255 i hi]
  by_cases h : i < 8
  · rw [decide_eq_true h, Bool.and_true, Bool.and_true]
    rw [Int8.toBitVec_toInt32, Int32.toBitVec_toInt8, BitVec.getLsbD_signExtend, if_pos h, BitVec.getLsbD_signExtend, if_pos hi]
    simp [hi, h]
  · rw [decide_eq_false h, Bool.and_false, Bool.and_false]
theorem k_byte (y : Int32) : ((y.toInt8.toInt32).toInt8.toInt32) &&& 255 = y &&& 255 := by
  rw [k_byte8, k_byte8]
def k_Pin (n : Nat) (C M : hk_S) : Prop := C 194 1 = nI n ∧ M 221 9 = nI n ∧ ∀ k, k < n → C 195 k &&& 255 = M 227 k
def k_frC (C C' : hk_S) : Prop := ∀ a, a ≠ 194 → a ≠ 195 → C' a = C a
def k_frM (M M' : hk_S) : Prop := (∀ a, a ≠ 221 → a ≠ 227 → M' a = M a) ∧ ∀ k, k ≠ 9 → M' 221 k = M 221 k
/-- a byte more on both sides -/
theorem k_in1 {n : Nat} {C M : hk_S} {x z : Int32} {f : Nat} {KC KM : hk_S → Int32 → Option hk_S} {F : Nat} (h : k_Pin n C M) (hn : n < 600) (hz : ¬ z < 0) : ∃ C' M', mX4_addBytesOf_3 hk_E0 F 194 x KC (f + 1) C z = mX4_addBytesOf_3 hk_E0 F 194 x KC f C' (z + (-8)) ∧ mX12_type_3 hk_E0 F 221 x KM (f + 1) M z = mX12_type_3 hk_E0 F 221 x KM f M' (z + (-8)) ∧ k_Pin (n + 1) C' M' ∧ k_frC C C' ∧ k_frM M M' := by
  obtain ⟨h1, h2, h3⟩ := h
  refine ⟨hk_up (hk_up C 195 n (((x >>> (z &&& 31)).toInt8.toInt32).toInt8.toInt32)) 194 1 (nI (n + 1)), hk_up (hk_up M 227 n ((x >>> (z &&& 31)) &&& 255)) 221 9 (nI (n + 1)), ?_, ?_, ⟨by rw [hk_up_eq, if_pos rfl], by rw [hk_up_eq, if_pos rfl], fun k hk => ?_⟩, fun a h1 h2 => by rw [hk_upne _ _ _ h1, hk_upne _ _ _ h2], fun a h1 h2 => by rw [hk_upne _ _ _ h1, hk_upne _ _ _ h2], fun k hk => by rw [hk_up_eq, if_neg hk, hk_upne _ _ _ (by decide)]⟩
  · rw [mX4_addBytesOf_3]
    dsimp only
    rw [if_neg hz, h1, if_neg (nI_pos (by omega)), if_neg (show ¬ (600 : Int32) ≤ nI n from nI_ge (a := n) (b := 600) hn (by omega)), rE_194_0 hE2, Option.bind_some, if_pos (kE_195 hE2), lE_195 hE2, if_pos (hk_okI hn (by omega)), nI_clamp (by omega), hk_let_eq, hk_let_eq, hk_let_eq, hk_upne _ _ _ (by decide), h1, nI_1]
  · rw [mX12_type_3]
    dsimp only
    rw [if_neg hz, rE_221_7 hE1, Option.bind_some, if_pos (kE_227 hE1), lE_227 hE1, h2, if_pos (hk_okI hn (by omega)), nI_clamp (by omega), hk_let_eq, hk_let_eq, hk_let_eq, hk_upne _ _ _ (by decide), h2, nI_1]
  · rw [hk_upne _ _ _ (show 195 ≠ 194 by decide), hk_upne _ _ _ (show 227 ≠ 221 by decide), hk_up_eq, hk_up_eq]
    by_cases q : k = n
    · rw [if_pos q, if_pos q]
      exact k_byte _
    · rw [if_neg q, if_neg q]
      exact h3 k (by omega)
theorem k_frC_trans {C C1 C2 : hk_S} (h : k_frC C C1) (h2 : k_frC C1 C2) : k_frC C C2 := fun a ha hb => (h2 a ha hb).trans (h a ha hb)
theorem k_frM_trans {C C1 C2 : hk_S} (h : k_frM C C1) (h2 : k_frM C1 C2) : k_frM C C2 := ⟨fun a ha hb => (h2.1 a ha hb).trans (h.1 a ha hb), fun k hk => (h2.2 k hk).trans (h.2 k hk)⟩
/-- a word more -/
theorem k_in4 {n : Nat} {C M : hk_S} {x : Int32} {F : Nat} (hF : 10 ≤ F) (h : k_Pin n C M) (hn : n + 4 ≤ 600) : ∃ C' M', mX4_addBytesOf hk_E0 F C 194 x = some C' ∧ mX12_type hk_E0 F M 221 x = some M' ∧ k_Pin (n + 4) C' M' ∧ k_frC C C' ∧ k_frM M M' := by
  obtain ⟨f, rfl⟩ : ∃ f, F = f + 5 := ⟨F - 5, by omega⟩
  unfold mX4_addBytesOf mX12_type
  obtain ⟨C1, M1, a1, b1, p1, c1, m1⟩ := k_in1 (x := x) (z := 24) (f := f + 4) (F := f + 5) (KC := fun S12 _ => some S12) (KM := fun S12 _ => some S12) h (by omega) (by decide)
  obtain ⟨C2, M2, a2, b2, p2, c2, m2⟩ := k_in1 (x := x) (z := 24 + (-8)) (f := f + 3) (F := f + 5) (KC := fun S12 _ => some S12) (KM := fun S12 _ => some S12) p1 (by omega) (by decide)
  obtain ⟨C3, M3, a3, b3, p3, c3, m3⟩ := k_in1 (x := x) (z := 24 + (-8) + (-8)) (f := f + 2) (F := f + 5) (KC := fun S12 _ => some S12) (KM := fun S12 _ => some S12) p2 (by omega) (by decide)
  obtain ⟨C4, M4, a4, b4, p4, c4, m4⟩ := k_in1 (x := x) (z := 24 + (-8) + (-8) + (-8)) (f := f + 1) (F := f + 5) (KC := fun S12 _ => some S12) (KM := fun S12 _ => some S12) p3 (by omega) (by decide)
  refine ⟨C4, M4, ?_, ?_, p4, k_frC_trans c1 (k_frC_trans c2 (k_frC_trans c3 c4)), k_frM_trans m1 (k_frM_trans m2 (k_frM_trans m3 m4))⟩
  · refine a1.trans (a2.trans (a3.trans (a4.trans ?_)))
    rw [mX4_addBytesOf_3]
    dsimp only
    rw [if_pos (by decide)]
  · refine b1.trans (b2.trans (b3.trans (b4.trans ?_)))
    rw [mX12_type_3]
    dsimp only
    rw [if_pos (by decide)]
theorem mop_0_ok {F : Nat} {S : hk_S} {p1 p2 p3 p4 p5 : Int32} (hF : 2000000 ≤ F) (hI : hk_I S) : ∃ S', mop_0 F S p1 p2 p3 p4 p5 = some S' ∧ hk_I S' := by
  obtain ⟨g1, g2, g3, g4, g5, g6, g7⟩ := id hI
  obtain ⟨n, h1, h2, h3, h4⟩ := g5
  have h3' : (hk_up S 221 15 0) 221 9 = nI n := by rw [hk_up_eq, if_neg (by decide), h3]
  by_cases q : n ≤ 580
  · have hP : k_Pin n S (hk_up S 221 15 0) := ⟨h2, h3', fun k hk => by rw [hk_upne _ _ _ (by decide)]; exact h4 k hk⟩
    -- the model works on what the class leaves; where it reads, that is the same
    obtain ⟨C1, M1, a1, b1, q1, c1, m1⟩ := k_in4 (F := F) (x := p1) (by omega) hP (by omega)
    obtain ⟨C2, M2, a2, b2, q2, c2, m2⟩ := k_in4 (F := F) (x := p2) (by omega) q1 (by omega)
    obtain ⟨C3, M3, a3, b3, q3, c3, m3⟩ := k_in4 (F := F) (x := p3) (by omega) q2 (by omega)
    obtain ⟨C4, M4, a4, b4, q4, c4, m4⟩ := k_in4 (F := F) (x := p4) (by omega) q3 (by omega)
    obtain ⟨C5, M5, a5, b5, q5, c5, m5⟩ := k_in4 (F := F) (x := p5) (by omega) q4 (by omega)
    have hC := k_frC_trans c1 (k_frC_trans c2 (k_frC_trans c3 (k_frC_trans c4 c5)))
    have hc : mX11_append hk_E0 F S 0 p1 p2 p3 p4 p5 = some (nI (n + 20), C5) := by
      unfold mX11_append
      rw [rE_0_4 hE2, Option.bind_some, if_pos (kE_193 hE2), rE_193_0 hE2, Option.bind_some, if_pos (kE_194 hE2), h2, if_pos (show nI n ≤ 580 from (nI_leI (b := 580) (by omega) (by omega)).mpr q), a1, Option.bind_some, a2, Option.bind_some, a3, Option.bind_some, a4, Option.bind_some, a5, Option.bind_some, q5.1]
    have hPm : k_Pin n C5 (hk_up C5 221 15 0) → True := fun _ => trivial
    have hP2 : k_Pin n S (hk_up C5 221 15 0) := ⟨h2, by rw [hk_up_eq, if_neg (by decide), hC 221 (by decide) (by decide), h3], fun k hk => by rw [hk_upne _ _ _ (by decide), hC 227 (by decide) (by decide)]; exact h4 k hk⟩
    obtain ⟨D1, N1, d1, t1, r1, -, n1⟩ := k_in4 (F := F) (x := p1) (by omega) hP2 (by omega)
    obtain ⟨D2, N2, d2, t2, r2, -, n2⟩ := k_in4 (F := F) (x := p2) (by omega) r1 (by omega)
    obtain ⟨D3, N3, d3, t3, r3, -, n3⟩ := k_in4 (F := F) (x := p3) (by omega) r2 (by omega)
    obtain ⟨D4, N4, d4, t4, r4, -, n4⟩ := k_in4 (F := F) (x := p4) (by omega) r3 (by omega)
    obtain ⟨D5, N5, d5, t5, r5, -, n5⟩ := k_in4 (F := F) (x := p5) (by omega) r4 (by omega)
    have e1 : D1 = C1 := Option.some.inj (d1.symm.trans a1)
    subst e1
    have e2 : D2 = C2 := Option.some.inj (d2.symm.trans a2)
    subst e2
    have e3 : D3 = C3 := Option.some.inj (d3.symm.trans a3)
    subst e3
    have e4 : D4 = C4 := Option.some.inj (d4.symm.trans a4)
    subst e4
    have e5 : D5 = C5 := Option.some.inj (d5.symm.trans a5)
    subst e5
    have hM := k_frM_trans n1 (k_frM_trans n2 (k_frM_trans n3 (k_frM_trans n4 n5)))
    have hm : mX12_append hk_E0 F D5 221 p1 p2 p3 p4 p5 = some (nI (n + 20), N5) := by
      unfold mX12_append
      rw [hk_let_eq, hP2.2.1, show nI n + 20 = nI (n + 20) from nI_add n 20, if_pos (show nI (n + 20) ≤ 600 from (nI_leI (b := 600) (by omega) (by omega)).mpr (by omega)), t1, Option.bind_some, t2, Option.bind_some, t3, Option.bind_some, t4, Option.bind_some, t5, Option.bind_some, r5.2.1]
    have eN : ∀ a, a ≠ 194 → a ≠ 195 → a ≠ 221 → a ≠ 227 → N5 a = S a := fun a z1 z2 z3 z4 => by rw [hM.1 a z3 z4, hk_upne _ _ _ z3, hC a z1 z2]
    have eK : ∀ k, k < 15 → k ≠ 9 → N5 221 k = S 221 k := fun k z1 z2 => by rw [hM.2 k z2, hk_up_eq, if_neg (by omega), hC 221 (by decide) (by decide)]
    refine ⟨N5, k_mopP (m := fun S => mX12_append hk_E0 F S 221 p1 p2 p3 p4 p5) hc hm, ?_⟩
    refine ⟨by rw [eN 222 (by decide) (by decide) (by decide) (by decide)]; exact hk_lf_ext g1 (fun a _ hb => eN a (by omega) (by omega) (by omega) (by omega)), by rw [eN 222 (by decide) (by decide) (by decide) (by decide)]; exact g2, hk_hist_ext g3 (fun a _ hb => eN a (by omega) (by omega) (by omega) (by omega)) (eK 5 (by omega) (by omega)) (eN 225 (by decide) (by decide) (by decide) (by decide)), hk_snap_ext g4 (by rw [eN 0 (by decide) (by decide) (by decide) (by decide)]) (fun a _ hb => eN a (by omega) (by omega) (by omega) (by omega)) (eK 6 (by omega) (by omega)) (eN 226 (by decide) (by decide) (by decide) (by decide)), ⟨n + 20, by omega, ?_, r5.2.1, fun k hk => ?_⟩, hk_err_ext g6 (by rw [eN 193 (by decide) (by decide) (by decide) (by decide)]) (by rw [eN 193 (by decide) (by decide) (by decide) (by decide)]) (eK 11 (by omega) (by omega)) (eK 12 (by omega) (by omega)), hk_rep_ext g7 (by rw [eN 218 (by decide) (by decide) (by decide) (by decide)]) (eN 219 (by decide) (by decide) (by decide) (by decide)) (eK 14 (by omega) (by omega)) (eN 229 (by decide) (by decide) (by decide) (by decide))⟩
    · rw [hM.1 194 (by decide) (by decide), hk_upne _ _ _ (by decide)]
      exact r5.1
    · rw [hM.1 195 (by decide) (by decide), hk_upne _ _ _ (by decide)]
      exact r5.2.2 k hk
  · have hc : mX11_append hk_E0 F S 0 p1 p2 p3 p4 p5 = some (-1, S) := by
      unfold mX11_append
      rw [rE_0_4 hE2, Option.bind_some, if_pos (kE_193 hE2), rE_193_0 hE2, Option.bind_some, if_pos (kE_194 hE2), h2, if_neg (show ¬ nI n ≤ 580 from fun z => q ((nI_leI (b := 580) (by omega) (by omega)).mp z))]
    have hm : mX12_append hk_E0 F S 221 p1 p2 p3 p4 p5 = some (-1, hk_up S 221 15 0) := by
      unfold mX12_append
      rw [hk_let_eq, h3', show nI n + 20 = nI (n + 20) from nI_add n 20, if_neg (show ¬ nI (n + 20) ≤ 600 from fun z => q (by have := (nI_leI (b := 600) (by omega) (by omega)).mp z; omega))]
    exact ⟨_, k_mopP (m := fun S => mX12_append hk_E0 F S 221 p1 p2 p3 p4 p5) hc hm, hk_I_same hI (hk_same_thr _ _)⟩
theorem mop_1_ok {F : Nat} {S : hk_S} {p1 p2 p3 p4 p5 : Int32} (hF : 2000000 ≤ F) (hI : hk_I S) : ∃ S', mop_1 F S p1 p2 p3 p4 p5 = some S' ∧ hk_I S' := by
  obtain ⟨g1, g2, g3, g4, g5, g6, g7⟩ := id hI
  obtain ⟨n, h1, h2, h3, h4⟩ := g5
  by_cases q : 0 ≤ p1 ∧ p1 ≤ nI n
  · obtain ⟨k, hk, rfl⟩ := nI_of2 (x := p1) (M := nI n) (n := n) (by rw [nI_toInt (by omega)]) (by have := q.1; grind) q.2
    have hc : mX11_truncateInput hk_E0 F S 0 (nI k) = some (.inr (nI k, hk_up S 194 1 (nI k))) := by
      unfold mX11_truncateInput
      rw [rE_0_4 hE2, Option.bind_some, if_pos (kE_193 hE2), rE_193_0 hE2, Option.bind_some, if_pos (kE_194 hE2), h2, k_rq, if_pos q, hk_xb_inr, hk_let_eq]
    have hl : mL_truncateInput hk_E0 F S 0 (nI k) 231 = some (0, hk_up (hk_up S 194 1 (nI k)) 231 0 (nI k)) := by
      unfold mL_truncateInput
      rw [hc]
      dsimp only
      rw [if_pos hk_ok231]
    have hm : mX12_truncateInput hk_E0 F (hk_up (hk_up S 194 1 (nI k)) 231 0 (nI k)) 221 (nI k) = some (nI k, hk_up (hk_up (hk_up (hk_up S 194 1 (nI k)) 231 0 (nI k)) 221 15 0) 221 9 (nI k)) := by
      have e9 : (hk_up (hk_up S 194 1 (nI k)) 231 0 (nI k)) 221 9 = nI n := by rw [hk_upne _ _ _ (by decide), hk_upne _ _ _ (by decide), h3]
      unfold mX12_truncateInput
      rw [e9, pX12_in, if_pos q, Option.bind_some]
      dsimp only
      rw [if_pos (by decide), pX12_thr0, Option.bind_some]
      dsimp only
      rw [if_pos rfl, hk_let_eq]
    refine ⟨_, k_mop (m := fun S => mX12_truncateInput hk_E0 F S 221 (nI k)) hl hm (by rw [hk_up_eq, if_neg (by decide), hk_up_eq, if_pos rfl]) (fun _ => by rw [hk_upne _ _ _ (by decide), hk_upne _ _ _ (by decide), hk_up_eq, if_pos rfl]), ?_⟩
    have eN : ∀ a, a ≠ 194 → a ≠ 221 → a ≠ 231 → (hk_up (hk_up (hk_up (hk_up S 194 1 (nI k)) 231 0 (nI k)) 221 15 0) 221 9 (nI k)) a = S a := fun a z1 z2 z3 => by rw [hk_upne _ _ _ z2, hk_upne _ _ _ z2, hk_upne _ _ _ z3, hk_upne _ _ _ z1]
    have eK : ∀ j, j < 15 → j ≠ 9 → (hk_up (hk_up (hk_up (hk_up S 194 1 (nI k)) 231 0 (nI k)) 221 15 0) 221 9 (nI k)) 221 j = S 221 j := fun j z1 z2 => by rw [hk_up_eq, if_neg z2, hk_up_eq, if_neg (by omega), hk_upne _ _ _ (by decide), hk_upne _ _ _ (by decide)]
    have e194 : (hk_up (hk_up (hk_up (hk_up S 194 1 (nI k)) 231 0 (nI k)) 221 15 0) 221 9 (nI k)) 194 1 = nI k := by rw [hk_upne _ _ _ (by decide), hk_upne _ _ _ (by decide), hk_upne _ _ _ (by decide), hk_up_eq, if_pos rfl]
    have e9 : (hk_up (hk_up (hk_up (hk_up S 194 1 (nI k)) 231 0 (nI k)) 221 15 0) 221 9 (nI k)) 221 9 = nI k := by rw [hk_up_eq, if_pos rfl]
    generalize (hk_up (hk_up (hk_up (hk_up S 194 1 (nI k)) 231 0 (nI k)) 221 15 0) 221 9 (nI k)) = N at *
    exact ⟨by rw [eN 222 (by decide) (by decide) (by decide)]; exact hk_lf_ext g1 (fun a _ hb => eN a (by omega) (by omega) (by omega)), by rw [eN 222 (by decide) (by decide) (by decide)]; exact g2, hk_hist_ext g3 (fun a _ hb => eN a (by omega) (by omega) (by omega)) (eK 5 (by omega) (by omega)) (eN 225 (by decide) (by decide) (by decide)), hk_snap_ext g4 (by rw [eN 0 (by decide) (by decide) (by decide)]) (fun a _ hb => eN a (by omega) (by omega) (by omega)) (eK 6 (by omega) (by omega)) (eN 226 (by decide) (by decide) (by decide)), ⟨k, by omega, e194, e9, fun j hj => by rw [eN 195 (by decide) (by decide) (by decide), eN 227 (by decide) (by decide) (by decide)]; exact h4 j (by omega)⟩, hk_err_ext g6 (by rw [eN 193 (by decide) (by decide) (by decide)]) (by rw [eN 193 (by decide) (by decide) (by decide)]) (eK 11 (by omega) (by omega)) (eK 12 (by omega) (by omega)), hk_rep_ext g7 (by rw [eN 218 (by decide) (by decide) (by decide)]) (eN 219 (by decide) (by decide) (by decide)) (eK 14 (by omega) (by omega)) (eN 229 (by decide) (by decide) (by decide))⟩
  · have hc : mX11_truncateInput hk_E0 F S 0 p1 = some (.inl (1, S)) := by
      unfold mX11_truncateInput
      rw [rE_0_4 hE2, Option.bind_some, if_pos (kE_193 hE2), rE_193_0 hE2, Option.bind_some, if_pos (kE_194 hE2), h2, k_rq, if_neg q, hk_xb_inl]
    have hl : mL_truncateInput hk_E0 F S 0 p1 231 = some (1, S) := by
      unfold mL_truncateInput
      rw [hc]
      rfl
    have hm : mX12_truncateInput hk_E0 F S 221 p1 = some (0, hk_up S 221 15 1) := by
      unfold mX12_truncateInput
      rw [h3, pX12_in, if_neg q, Option.bind_some]
      dsimp only
      rw [if_neg (by decide), pX12_thr1, Option.bind_some]
      dsimp only
      rw [if_neg (by decide)]
    exact ⟨_, k_mop (m := fun S => mX12_truncateInput hk_E0 F S 221 p1) hl hm (by rw [hk_up_eq, if_pos rfl]) (fun q => absurd q (by decide)), hk_I_same hI (hk_same_thr _ _)⟩
