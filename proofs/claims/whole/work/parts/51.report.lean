/-! the report -/
def k_R (r : Nat) (C M : hk_S) : Prop := C 218 1 = nI r ∧ M 221 14 = nI r ∧ ∀ k, k < r → C 219 k = M 229 k
def k_fC (C C' : hk_S) : Prop := ∀ a, a ≠ 218 → a ≠ 219 → C' a = C a
def k_fM (M M' : hk_S) : Prop := (∀ a, a ≠ 221 → a ≠ 229 → M' a = M a) ∧ ∀ k, k ≠ 14 → M' 221 k = M 221 k
theorem k_fC_trans {C C1 C2 : hk_S} (h : k_fC C C1) (h2 : k_fC C1 C2) : k_fC C C2 := fun a ha hb => (h2 a ha hb).trans (h a ha hb)
theorem k_fM_trans {C C1 C2 : hk_S} (h : k_fM C C1) (h2 : k_fM C1 C2) : k_fM C C2 := ⟨fun a ha hb => (h2.1 a ha hb).trans (h.1 a ha hb), fun k hk => (h2.2 k hk).trans (h.2 k hk)⟩
theorem k_chr : ∀ k, k < 128 → ((nI k).toInt8.toInt32).toInt8.toInt32 = nI k ∧ (((((nI k).toUInt32 % 65536).toInt32)).toUInt32 % 65536).toInt32 = nI k := by decide +kernel
theorem k_put1 {F G r k : Nat} {C M : hk_S} (h : k_R r C M) (hr : r < 88) (hk : k < 128) : ∃ C' M', mX7_put hk_E0 F C 218 (nI k) = some C' ∧ mX12_write hk_E0 G M 221 (nI k) = some M' ∧ k_R (r + 1) C' M' ∧ k_fC C C' ∧ k_fM M M' := by
  obtain ⟨h1, h2, h3⟩ := h
  obtain ⟨c1, c2⟩ := k_chr k hk
  refine ⟨hk_up (hk_up C 219 r (nI k)) 218 1 (nI (r + 1)), hk_up (hk_up M 229 r (nI k)) 221 14 (nI (r + 1)), ?_, ?_, ⟨by rw [hk_up_eq, if_pos rfl], by rw [hk_up_eq, if_pos rfl], fun j hj => ?_⟩, fun a z1 z2 => by rw [hk_upne _ _ _ z1, hk_upne _ _ _ z2], fun a z1 z2 => by rw [hk_upne _ _ _ z1, hk_upne _ _ _ z2], fun j hj => by rw [hk_up_eq, if_neg hj, hk_upne _ _ _ (by decide)]⟩
  · unfold mX7_put
    rw [h1, if_neg (nI_pos (by omega)), if_neg (show ¬ (88 : Int32) ≤ nI r from nI_ge (a := r) (b := 88) hr (by omega)), rE_218_0 hE2, Option.bind_some, if_pos (kE_219 hE2), lE_219 hE2, if_pos (hk_okI hr (by omega)), nI_clamp (by omega), c1, hk_let_eq, hk_let_eq, hk_upne _ _ _ (by decide), h1, nI_1]
  · unfold mX12_write
    rw [rE_221_13 hE1, Option.bind_some, if_pos (kE_229 hE1), lE_229 hE1, h2, if_pos (hk_okI (by omega) (by omega)), nI_clamp (by omega), c2, hk_let_eq, hk_let_eq, hk_upne _ _ _ (by decide), h2, nI_1]
  · rw [hk_upne _ _ _ (show 219 ≠ 218 by decide), hk_upne _ _ _ (show 229 ≠ 221 by decide), hk_up_eq, hk_up_eq]
    by_cases q : j = r
    · rw [if_pos q, if_pos q]
    · rw [if_neg q, if_neg q]
      exact h3 j (by omega)
theorem k_dig {v : Nat} (hv : v < 100000) : nI v - nI v / 10 * 10 = nI (v % 10) ∧ (48 : Int32) + nI (v % 10) = nI (48 + v % 10) := by
  refine ⟨?_, nI_add 48 _⟩
  rw [show nI v / 10 = nI (v / 10) from nI_divN (b := 10) (by omega) (by omega) (by omega), show nI (v / 10) * 10 = nI (v / 10 * 10) from nI_mul _ 10, nI_subN (by omega)]
  congr 1
  omega
theorem k_num1 {F G r v : Nat} {C M : hk_S} (h : k_R r C M) (hr : r < 88) (hv : v ≤ 9) : ∃ C' M', mX7_putNumber hk_E0 F C 218 (nI v) = some C' ∧ mX12_wN2 hk_E0 G M 221 (nI v) = some M' ∧ k_R (r + 1) C' M' ∧ k_fC C C' ∧ k_fM M M' := by
  obtain ⟨d1, d2⟩ := k_dig (v := v) (by omega)
  obtain ⟨C', M', a1, a2, a3, a4, a5⟩ := k_put1 (F := F) (G := G) (k := 48 + v % 10) h hr (by omega)
  refine ⟨C', M', ?_, ?_, a3, a4, a5⟩
  · unfold mX7_putNumber
    rw [if_pos (show nI v < 100 from (nI_ltI (b := 100) (by omega) (by omega)).mpr (by omega)), if_pos (show nI v < 10 from (nI_ltI (b := 10) (by omega) (by omega)).mpr (by omega)), d1, d2, a1, Option.bind_some]
  · unfold mX12_wN2 mX12_writeNumber
    rw [if_pos (show nI v ≤ 9 from (nI_leI (b := 9) (by omega) (by omega)).mpr hv), d1, d2, a2, Option.bind_some]
theorem k_num3 {F G r v : Nat} {C M : hk_S} (h : k_R r C M) (hr : r + 2 < 88) (hv : 100 ≤ v) (hv2 : v ≤ 999) : ∃ C' M', mX7_putNumber hk_E0 F C 218 (nI v) = some C' ∧ mX12_wN2 hk_E0 G M 221 (nI v) = some M' ∧ k_R (r + 3) C' M' ∧ k_fC C C' ∧ k_fM M M' := by
  have e100 : nI v / 100 = nI (v / 100) := nI_divN (b := 100) (by omega) (by omega) (by omega)
  have e10 : nI v / 10 = nI (v / 10) := nI_divN (b := 10) (by omega) (by omega) (by omega)
  have e11 : nI (v / 10) / 10 = nI (v / 100) := by
    rw [show nI (v / 10) / 10 = nI (v / 10 / 10) from nI_divN (b := 10) (by omega) (by omega) (by omega), Nat.div_div_eq_div_mul]
  obtain ⟨p1, p2⟩ := k_dig (v := v / 100) (by omega)
  obtain ⟨q1, q2⟩ := k_dig (v := v / 10) (by omega)
  obtain ⟨s1, s2⟩ := k_dig (v := v) (by omega)
  obtain ⟨C1, M1, a1, a2, a3, a4, a5⟩ := k_put1 (F := F) (G := G) (k := 48 + v / 100 % 10) h (by omega) (by omega)
  obtain ⟨C2, M2, b1, b2, b3, b4, b5⟩ := k_put1 (F := F) (G := G) (k := 48 + v / 10 % 10) a3 (by omega) (by omega)
  obtain ⟨C3, M3, c1, c2, c3, c4, c5⟩ := k_put1 (F := F) (G := G) (k := 48 + v % 10) b3 (by omega) (by omega)
  refine ⟨C3, M3, ?_, ?_, c3, k_fC_trans a4 (k_fC_trans b4 c4), k_fM_trans a5 (k_fM_trans b5 c5)⟩
  · unfold mX7_putNumber
    rw [if_neg (show ¬ nI v < 100 from nI_nlt (b := 100) (by omega) (by omega)), e100, p1, p2, a1, Option.bind_some, if_neg (show ¬ nI v < 10 from nI_nlt (b := 10) (by omega) (by omega)), s1, e10, q1, q2, b1, Option.bind_some, s2, c1, Option.bind_some]
  · have w0 : mX12_wN0 hk_E0 G M 221 (nI (v / 100)) = some M1 := by
      unfold mX12_wN0 mX12_writeNumber
      rw [if_pos (show nI (v / 100) ≤ 9 from (nI_leI (b := 9) (by omega) (by omega)).mpr (by omega)), p1, p2, a2, Option.bind_some]
    have w1 : mX12_wN1 hk_E0 G M 221 (nI (v / 10)) = some M2 := by
      unfold mX12_wN1 mX12_writeNumber
      rw [if_neg (show ¬ nI (v / 10) ≤ 9 from nI_ge (a := 9) (by omega) (by omega)), q1, q2, e11, w0, Option.bind_some, b2, Option.bind_some]
    unfold mX12_wN2 mX12_writeNumber
    rw [if_neg (show ¬ nI v ≤ 9 from nI_ge (a := 9) (by omega) (by omega)), s1, s2, e10, w1, Option.bind_some, c2, Option.bind_some]
/-- the mark of ready leaf -/
theorem k_bang {F G r : Nat} {C M : hk_S} (b : Bool) (h : k_R r C M) (hr : r < 88) : ∃ C' M' r', (if (if b = true then (1 : Int32) else 0) = 0 then some C else (mX7_put hk_E0 F C 218 33).bind (fun r7 => some r7)) = some C' ∧ (if (if b = true then (1 : Int32) else 0) = 0 then some M else (mX12_write hk_E0 G M 221 33).bind (fun r10 => some r10)) = some M' ∧ k_R r' C' M' ∧ r' ≤ r + 1 ∧ k_fC C C' ∧ k_fM M M' := by
  cases b with
  | false => exact ⟨C, M, r, by simp, by simp, h, by omega, fun _ _ _ => rfl, fun _ _ _ => rfl, fun _ _ => rfl⟩
  | true =>
    obtain ⟨C', M', a1, a2, a3, a4, a5⟩ := k_put1 (F := F) (G := G) (k := 33) h hr (by omega)
    rw [show nI 33 = (33 : Int32) from rfl] at a1 a2
    exact ⟨C', M', r + 1, by simp [a1], by simp [a2], a3, by omega, a4, a5⟩
set_option maxHeartbeats 4000000 in
theorem k_wtr {F G r t : Nat} {C M : hk_S} {w : Nat → Int32} (h : k_R r C M) (hr : r + 10 ≤ 88) (ht : t < 8) (hw : a_ok w) (hC : hk_lf C 1 w) (hM : M 222 = w) : ∃ C' M' r', mX7_writeTrough hk_E0 F C 218 (1 + 5 + t) (if t_rb w (a_t w t) = true then 1 else 0) = some C' ∧ mX12_writeTrough hk_E0 G M 221 (nI t) = some M' ∧ k_R r' C' M' ∧ r' ≤ r + 10 ∧ k_fC C C' ∧ k_fM M M' := by
  have hok := hw.2.2.2.2.2.2.2.2.2.1 t ht
  obtain ⟨k2, c, s, bb, ke, kl⟩ := id hok
  obtain ⟨sp, hsp, esp⟩ := nI_of2 (x := a_t w t 1) (M := 5) (n := 5) (by decide) (by have := s.1; generalize a_t w t 1 = x at *; grind) s.2
  -- the speed, the direction
  obtain ⟨C1, M1, a1, a2, a3, a4, a5⟩ := k_num1 (F := F) (G := G) h (by omega) (show sp ≤ 9 by omega)
  have tr : ∀ Cx, k_fC C Cx → hk_tr (Cx (1 + 5 + t)) (a_t w t) := fun Cx hx => by rw [hx _ (by omega) (by omega)]; exact hC.2.2.1 t ht
  have mr : ∀ Mx, k_fM M Mx → Mx 222 = w := fun Mx hx => (hx.1 222 (by decide) (by decide)).trans hM
  have trC := tr C (fun _ _ _ => rfl)
  -- behind the direction
  have tail : ∀ (C2 M2 : hk_S) (r2 : Nat), k_R r2 C2 M2 → r2 ≤ r + 2 → k_fC C C2 → k_fM M M2 → ∃ C' M' r', ((mX10_hasLeaf hk_E0 F C2 (1 + 5 + t)).bind (fun r4 => if r4.1 = 0 then (if (if t_rb w (a_t w t) = true then (1 : Int32) else 0) = 0 then (some (r4.2)) else ((mX7_put hk_E0 F r4.2 218 33).bind (fun r7 => some (r7)))) else ((mX7_putNumber hk_E0 F r4.2 218 (r4.2 (1 + 5 + t) 6)).bind (fun r8 => (mX7_put hk_E0 F r8 218 47).bind (fun r9 => (mX7_putNumber hk_E0 F r9 218 (r9 (1 + 5 + t) 7)).bind (fun r10 => if (if t_rb w (a_t w t) = true then (1 : Int32) else 0) = 0 then (some (r10)) else ((mX7_put hk_E0 F r10 218 33).bind (fun r12 => some (r12))))))))) = some C' ∧ ((mX12_isEmpty hk_E0 G M2 221 (nI t)).bind (fun r6 => if ¬ r6.1 = 0 then ((mX12_isReady hk_E0 G r6.2 221 (nI t)).bind (fun r8 => if r8.1 = 0 then (some (r8.2)) else ((mX12_write hk_E0 G r8.2 221 33).bind (fun r10 => some (r10))))) else ((mX12_of hk_E0 G r6.2 221 (nI t) 4).bind (fun r11 => (mX12_wN2 hk_E0 G r11.2 221 r11.1).bind (fun r12 => (mX12_write hk_E0 G r12 221 47).bind (fun r13 => (mX12_of hk_E0 G r13 221 (nI t) 5).bind (fun r14 => (mX12_wN2 hk_E0 G r14.2 221 r14.1).bind (fun r15 => (mX12_isReady hk_E0 G r15 221 (nI t)).bind (fun r16 => if r16.1 = 0 then (some (r16.2)) else ((mX12_write hk_E0 G r16.2 221 33).bind (fun r18 => some (r18)))))))))))) = some M' ∧ k_R r' C' M' ∧ r' ≤ r + 10 ∧ k_fC C C' ∧ k_fM M M' := by
    intro C2 M2 r2 hR2 hr2 hc2 hm2
    have e2 := mr M2 hm2
    rw [pX10_hasLeaf (tr C2 hc2) bb.1, Option.bind_some, pX12_isEmpty hE1 ht, e2, Option.bind_some]
    by_cases ql : a_t w t 3 = 0
    · rw [if_pos ql, if_pos ql]
      dsimp only
      obtain ⟨C3, M3, r3, b1, b2, b3, b4, b5, b6⟩ := k_bang (F := F) (G := G) (t_rb w (a_t w t)) hR2 (by omega)
      rw [if_pos rfl, if_pos (show ¬ (1 : Int32) = 0 by decide), mX_rb (w := w) hE1 ht (by rw [e2]; exact k_tw_self _ _), Option.bind_some]
      exact ⟨C3, M3, r3, b1, b2, b3, by omega, k_fC_trans hc2 b5, k_fM_trans hm2 b6⟩
    · rw [if_neg ql, if_neg ql]
      dsimp only
      obtain ⟨⟨l0, l1⟩, ⟨u0, u1⟩, -⟩ := kl (by have := bb.1; generalize a_t w t 3 = x at *; grind)
      obtain ⟨lo, lo0, lo1, elo⟩ := k_900 l0 l1
      obtain ⟨hi, hi0, hi1, ehi⟩ := k_900 u0 u1
      obtain ⟨C3, M3, b1, b2, b3, b4, b5⟩ := k_num3 (F := F) (G := G) (v := lo) hR2 (by omega) (by omega) (by omega)
      obtain ⟨C4, M4, c1, c2, c3, c4, c5⟩ := k_put1 (F := F) (G := G) (k := 47) b3 (by omega) (by omega)
      rw [show nI 47 = (47 : Int32) from rfl] at c1 c2
      obtain ⟨C5, M5, d1, d2, d3, d4, d5⟩ := k_num3 (F := F) (G := G) (v := hi) c3 (by omega) (by omega) (by omega)
      obtain ⟨C6, M6, r6, f1, f2, f3, f4, f5, f6⟩ := k_bang (F := F) (G := G) (t_rb w (a_t w t)) d3 (by omega)
      have hc4 := k_fC_trans hc2 (k_fC_trans b4 c4)
      have hm4 := k_fM_trans hm2 (k_fM_trans b5 c5)
      have hm5 := k_fM_trans hm4 d5
      refine ⟨C6, M6, r6, ?_, ?_, f3, by omega, k_fC_trans hc4 (k_fC_trans d4 f5), k_fM_trans hm5 f6⟩
      · rw [if_neg (by decide), (tr C2 hc2).2.2.2.2.2.2.1, elo, b1, Option.bind_some, c1, Option.bind_some, (tr C4 hc4).2.2.2.2.2.2.2.1, ehi, d1, Option.bind_some]
        exact f1
      · rw [if_neg (by decide), pX12_of_4 hE1 ht, e2, Option.bind_some, elo]
        dsimp only
        rw [b2, Option.bind_some, c2, Option.bind_some, pX12_of_5 hE1 ht, mr M4 hm4, Option.bind_some, ehi]
        dsimp only
        rw [d2, Option.bind_some, mX_rb (w := w) hE1 ht (by rw [mr M5 hm5]; exact k_tw_self _ _), Option.bind_some]
        exact f2
  unfold mX7_writeTrough mX12_writeTrough
  rw [trC.2.1, esp, a1, Option.bind_some, (tr C1 a4).2.2.1, pX12_of_1 hE1 ht, hM, Option.bind_some, esp]
  dsimp only
  rw [a2, Option.bind_some, pX12_of_2 hE1 ht, mr M1 a5, Option.bind_some]
  dsimp only
  rcases k2 with z | z
  · obtain ⟨C2, M2, b1, b2, b3, b4, b5⟩ := k_put1 (F := F) (G := G) (k := 117) a3 (by omega) (by omega)
    rw [show nI 117 = (117 : Int32) from rfl] at b1 b2
    obtain ⟨C', M', r', t1, t2, t3, t4, t5, t6⟩ := tail C2 M2 _ b3 (by omega) (k_fC_trans a4 b4) (k_fM_trans a5 b5)
    refine ⟨C', M', r', ?_, ?_, t3, t4, t5, t6⟩
    · rw [z, if_pos rfl, if_neg (by decide), b1, Option.bind_some]
      exact t1
    · rw [z, if_neg (by decide), b2, Option.bind_some]
      exact t2
  · obtain ⟨C2, M2, b1, b2, b3, b4, b5⟩ := k_put1 (F := F) (G := G) (k := 100) a3 (by omega) (by omega)
    rw [show nI 100 = (100 : Int32) from rfl] at b1 b2
    obtain ⟨C', M', r', t1, t2, t3, t4, t5, t6⟩ := tail C2 M2 _ b3 (by omega) (k_fC_trans a4 b4) (k_fM_trans a5 b5)
    refine ⟨C', M', r', ?_, ?_, t3, t4, t5, t6⟩
    · rw [z, if_pos (show (if (1 : Int32) = 0 then (1 : Int32) else 0) = 0 by decide), b1, Option.bind_some]
      exact t1
    · rw [z, if_pos (by decide), b2, Option.bind_some]
      exact t2
theorem k_wall {F G n : Nat} {w : Nat → Int32} (hw : a_ok w) (hn : w 9 = nI n) (hn8 : n ≤ 8) : ∀ (d z f g r : Nat) (C M : hk_S), z + d = n → d < f → d < g → r ≤ 11 * z → k_R r C M → hk_lf C 1 w → M 222 = w → ∃ C' M' r', mX7_writeAll_7 hk_E0 F 218 1 (fun S20 _ => some S20) f C (nI z) = some C' ∧ mX12_writeTroughs_12 hk_E0 G 221 (fun S13 _ => some ((S13 221 14), S13)) g M (nI z) = some (nI r', M') ∧ k_R r' C' M' ∧ r' ≤ 88 ∧ k_fC C C' ∧ k_fM M M' := by
  intro d
  induction d with
  | zero =>
    intro z f g r C M h1 hf hg hr hR hC hM
    obtain ⟨f, rfl⟩ : ∃ e, f = e + 1 := ⟨f - 1, by omega⟩
    obtain ⟨g, rfl⟩ : ∃ e, g = e + 1 := ⟨g - 1, by omega⟩
    have hz : z = n := by omega
    subst hz
    refine ⟨C, M, r, ?_, ?_, hR, by omega, fun _ _ _ => rfl, fun _ _ _ => rfl, fun _ _ => rfl⟩
    · rw [mX7_writeAll_7]
      dsimp only
      rw [hC.2.1.1, hn, if_pos (nI_le (by omega) (by omega))]
    · rw [mX12_writeTroughs_12]
      dsimp only
      rw [rE_221_0 hE1, Option.bind_some, if_pos (kE_222 hE1), lE_222 hE1, if_pos (show hk_ok 9 107 by decide), hM, hn, if_pos (nI_le (by omega) (by omega)), hR.2.1]
  | succ d ih =>
    intro z f g r C M h1 hf hg hr hR hC hM
    obtain ⟨f, rfl⟩ : ∃ e, f = e + 1 := ⟨f - 1, by omega⟩
    obtain ⟨g, rfl⟩ : ∃ e, g = e + 1 := ⟨g - 1, by omega⟩
    have hL := hk_L1 hE2
    have ht : z < 8 := by omega
    -- the space before
    have sp : ∃ C1 M1 r1, (if nI z ≤ 0 then some C else mX7_put hk_E0 F C 218 32) = some C1 ∧ (if nI z ≤ 0 then some M else mX12_write hk_E0 G M 221 32) = some M1 ∧ k_R r1 C1 M1 ∧ r1 ≤ 11 * z + 1 ∧ r1 + 10 ≤ 88 ∧ k_fC C C1 ∧ k_fM M M1 := by
      by_cases q : nI z ≤ 0
      · have hz0 : z = 0 := by
          have := (nI_leI (b := 0) (by omega) (by omega)).mp q
          omega
        rw [if_pos q, if_pos q]
        exact ⟨C, M, r, rfl, rfl, hR, by omega, by omega, fun _ _ _ => rfl, fun _ _ _ => rfl, fun _ _ => rfl⟩
      · obtain ⟨C1, M1, a1, a2, a3, a4, a5⟩ := k_put1 (F := F) (G := G) (k := 32) hR (by omega) (by omega)
        rw [if_neg q, if_neg q]
        exact ⟨C1, M1, r + 1, a1, a2, a3, by omega, by omega, a4, a5⟩
    obtain ⟨C1, M1, r1, s1, s2, s3, s4, s4', s5, s6⟩ := sp
    have hC1 : hk_lf C1 1 w := hk_lf_ext hC (fun a _ hb => s5 a (by omega) (by omega))
    have hM1 : M1 222 = w := (s6.1 222 (by decide) (by decide)).trans hM
    obtain ⟨C2, M2, r2, b1, b2, b3, b4, b5, b6⟩ := k_wtr (F := F) (G := G) s3 s4' ht hw hC1 hM1
    obtain ⟨C', M', r', i1, i2, i3, i4, i5, i6⟩ := ih (z + 1) f g r2 C2 M2 (by omega) (by omega) (by omega) (by omega) b3 (hk_lf_ext hC1 (fun a _ hb => b5 a (by omega) (by omega))) ((b6.1 222 (by decide) (by decide)).trans hM1)
    refine ⟨C', M', r', ?_, ?_, i3, i4, k_fC_trans s5 (k_fC_trans b5 i5), k_fM_trans s6 (k_fM_trans b6 i6)⟩
    · have hrd : mX5_isReady hk_E0 F C1 1 (1 + 5 + z) = some (if t_rb w (a_t w z) = true then 1 else 0, C1) := cX_rb hC1.2.1 (hC1.2.2.1 z ht) (k_leaf0 hw ht)
      rw [mX7_writeAll_7]
      dsimp only
      rw [hC.2.1.1, hn, if_neg (nI_ge (by omega) (by omega))]
      by_cases q : nI z ≤ 0
      · rw [if_pos q] at s1
        have e1 : C = C1 := Option.some.inj s1
        subst e1
        rw [if_pos q, pX5_troughAt hL, Option.bind_some]
        dsimp only
        rw [k_tn_nI ht, if_pos (hk_L_t hL ht), pX5_troughAt hL, Option.bind_some]
        dsimp only
        rw [k_tn_nI ht, if_pos (hk_L_t hL ht), hrd, Option.bind_some]
        dsimp only
        rw [b1, Option.bind_some, hk_let_eq, nI_1]
        exact i1
      · rw [if_neg q] at s1
        rw [if_neg q, s1, Option.bind_some, pX5_troughAt hL, Option.bind_some]
        dsimp only
        rw [k_tn_nI ht, if_pos (hk_L_t hL ht), pX5_troughAt hL, Option.bind_some]
        dsimp only
        rw [k_tn_nI ht, if_pos (hk_L_t hL ht), hrd, Option.bind_some]
        dsimp only
        rw [b1, Option.bind_some, hk_let_eq, nI_1]
        exact i1
    · rw [mX12_writeTroughs_12]
      dsimp only
      rw [rE_221_0 hE1, Option.bind_some, if_pos (kE_222 hE1), lE_222 hE1, if_pos (show hk_ok 9 107 by decide), hM, hn, if_neg (nI_ge (by omega) (by omega))]
      by_cases q : nI z ≤ 0
      · rw [if_pos q] at s2
        have e1 : M = M1 := Option.some.inj s2
        subst e1
        rw [if_pos q, b2, Option.bind_some, hk_let_eq, nI_1]
        exact i2
      · rw [if_neg q] at s2
        rw [if_neg q, s2, Option.bind_some, b2, Option.bind_some, hk_let_eq, nI_1]
        exact i2
theorem mop_62_ok {F : Nat} {S : hk_S} {p1 p2 p3 p4 p5 : Int32} (hF : 2000000 ≤ F) (hI : hk_I S) : ∃ S', mop_62 F S p1 p2 p3 p4 p5 = some S' ∧ hk_I S' := by
  obtain ⟨g1, g2, g3, g4, g5, g6, g7⟩ := id hI
  have hL := hk_L1 hE2
  obtain ⟨n, hn8, hn⟩ := nI_of2 (x := S 222 9) (M := 8) (n := 8) (by decide) (by have := g2.2.2.2.2.2.2.2.1.1; grind) g2.2.2.2.2.2.2.2.1.2
  have hC0 : hk_lf (hk_up S 218 1 0) 1 (S 222) := hk_lf_ext g1 (fun a _ hb => hk_upne _ _ _ (by omega))
  have hR0 : ∀ M : hk_S, M 221 14 = nI 0 → k_R 0 (hk_up S 218 1 0) M := fun M hM => ⟨by rw [hk_up_eq, if_pos rfl]; rfl, hM, fun k hk => absurd hk (by omega)⟩
  obtain ⟨C1, -, -, c1, -, -, -, c5, -⟩ := k_wall (F := F) (G := F) g2 hn hn8 n 0 F F 0 (hk_up S 218 1 0) (hk_up S 221 14 0) (by omega) (by omega) (by omega) (by omega) (hR0 _ (by rw [hk_up_eq, if_pos rfl]; rfl)) hC0 (hk_upne _ _ _ (by decide))
  have eS : ∀ a, a ≠ 218 → a ≠ 219 → C1 a = S a := fun a z1 z2 => (c5 a z1 z2).trans (hk_upne _ _ _ z1)
  obtain ⟨C2, N, r, d1, d2, d3, d4, d5, d6⟩ := k_wall (F := F) (G := F) g2 hn hn8 n 0 F F 0 (hk_up S 218 1 0) (hk_up (hk_up C1 221 15 0) 221 14 0) (by omega) (by omega) (by omega) (by omega) (hR0 _ (by rw [hk_up_eq, if_pos rfl]; rfl)) hC0 (by rw [hk_upne _ _ _ (by decide), hk_upne _ _ _ (by decide)]; exact eS 222 (by decide) (by decide))
  have e12 : C2 = C1 := Option.some.inj (d1.symm.trans c1)
  subst e12
  have hc : mX11_writeTroughs hk_E0 F S 0 = some (nI r, C2) := by
    unfold mX11_writeTroughs mX7_writeAll
    rw [rE_0_5 hE2, Option.bind_some, if_pos (kE_218 hE2), rE_0_0 hE2, Option.bind_some, if_pos hL.1, hk_let_eq]
    have h : mX7_writeAll_7 hk_E0 F 218 1 (fun S20 z21 => some S20) F (hk_up S 218 1 0) 0 = some C2 := d1
    rw [h, Option.bind_some, d3.1]
  have hm : mX12_writeTroughs hk_E0 F C2 221 = some (nI r, N) := by
    unfold mX12_writeTroughs
    rw [hk_let_eq, hk_let_eq]
    exact d2
  have eN : ∀ a, a ≠ 218 → a ≠ 219 → a ≠ 221 → a ≠ 229 → N a = S a := fun a z1 z2 z3 z4 => by rw [d6.1 a z3 z4, hk_upne _ _ _ z3, hk_upne _ _ _ z3]; exact eS a z1 z2
  have eK : ∀ k, k < 14 → N 221 k = S 221 k := fun k hk => by rw [d6.2 k (by omega), hk_up_eq, if_neg (by omega), hk_up_eq, if_neg (by omega), eS 221 (by decide) (by decide)]
  have eC : ∀ a, a ≠ 221 → a ≠ 229 → N a = C2 a := fun a z3 z4 => by rw [d6.1 a z3 z4, hk_upne _ _ _ z3, hk_upne _ _ _ z3]
  refine ⟨N, k_mopP (m := fun S => mX12_writeTroughs hk_E0 F S 221) hc hm, ?_⟩
  refine ⟨by rw [eN 222 (by decide) (by decide) (by decide) (by decide)]; exact hk_lf_ext g1 (fun a _ hb => eN a (by omega) (by omega) (by omega) (by omega)), by rw [eN 222 (by decide) (by decide) (by decide) (by decide)]; exact g2, hk_hist_ext g3 (fun a _ hb => eN a (by omega) (by omega) (by omega) (by omega)) (eK 5 (by omega)) (eN 225 (by decide) (by decide) (by decide) (by decide)), hk_snap_ext g4 (by rw [eN 0 (by decide) (by decide) (by decide) (by decide)]) (fun a _ hb => eN a (by omega) (by omega) (by omega) (by omega)) (eK 6 (by omega)) (eN 226 (by decide) (by decide) (by decide) (by decide)), hk_inp_ext g5 (by rw [eN 194 (by decide) (by decide) (by decide) (by decide)]) (eN 195 (by decide) (by decide) (by decide) (by decide)) (eK 9 (by omega)) (eN 227 (by decide) (by decide) (by decide) (by decide)), hk_err_ext g6 (by rw [eN 193 (by decide) (by decide) (by decide) (by decide)]) (by rw [eN 193 (by decide) (by decide) (by decide) (by decide)]) (eK 11 (by omega)) (eK 12 (by omega)), ⟨r, d4, ?_, d3.2.1, fun k hk => ?_⟩⟩
  · rw [eC 218 (by decide) (by decide)]
    exact d3.1
  · rw [eC 219 (by decide) (by decide)]
    exact d3.2.2 k hk
