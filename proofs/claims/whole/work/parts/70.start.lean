/-! the start of both; what the law asks of the m.. functions -/
theorem s_init_221 {F : Nat} {S : hk_S} (hF : 2000 ≤ F) (hS : S 221 = hk_i0 9) : ∃ S', mX12_init_221 F S = some S' ∧ S' 222 = u_w13 ∧ S' 221 11 = 0 ∧ S' 221 12 = -1 ∧ S' 221 5 = 0 ∧ S' 221 6 = 0 ∧ S' 221 9 = 0 ∧ S' 221 14 = 0 ∧ ∀ a, a < 221 → S' a = S a := by
  unfold mX12_init_221
  simp only [hk_let_eq]
  have hS10 : (va_up (va_up (hk_up (va_up (va_up (va_up (va_up (va_up (va_up (va_up S 222 (fun _ => 0)) 223 (fun _ => 0)) 224 (fun _ => 0)) 225 (fun _ => 0)) 226 (fun _ => 0)) 227 (fun _ => 0)) 228 (fun _ => 0)) 221 12 (-1)) 229 (fun _ => 0)) 230 (fun _ => 0)) 221 = upd (hk_i0 9) 12 (-1) := by
    rw [va_up_ne _ _ (by decide), va_up_ne _ _ (by decide), hk_up_self, va_up_ne _ _ (by decide), va_up_ne _ _ (by decide), va_up_ne _ _ (by decide), va_up_ne _ _ (by decide), va_up_ne _ _ (by decide), va_up_ne _ _ (by decide), va_up_ne _ _ (by decide), hS]
  have hS222 : (va_up (va_up (hk_up (va_up (va_up (va_up (va_up (va_up (va_up (va_up S 222 (fun _ => 0)) 223 (fun _ => 0)) 224 (fun _ => 0)) 225 (fun _ => 0)) 226 (fun _ => 0)) 227 (fun _ => 0)) 228 (fun _ => 0)) 221 12 (-1)) 229 (fun _ => 0)) 230 (fun _ => 0)) 222 = fun _ => 0 := by
    rw [va_up_ne _ _ (by decide), va_up_ne _ _ (by decide), hk_upne _ _ _ (by decide), va_up_ne _ _ (by decide), va_up_ne _ _ (by decide), va_up_ne _ _ (by decide), va_up_ne _ _ (by decide), va_up_ne _ _ (by decide), va_up_ne _ _ (by decide), va_up_self]
  have hSo : ∀ a, a < 221 → (va_up (va_up (hk_up (va_up (va_up (va_up (va_up (va_up (va_up (va_up S 222 (fun _ => 0)) 223 (fun _ => 0)) 224 (fun _ => 0)) 225 (fun _ => 0)) 226 (fun _ => 0)) 227 (fun _ => 0)) 228 (fun _ => 0)) 221 12 (-1)) 229 (fun _ => 0)) 230 (fun _ => 0)) a = S a := fun a ha => by
    rw [va_up_ne _ _ (by omega), va_up_ne _ _ (by omega), hk_upne _ _ _ (by omega), va_up_ne _ _ (by omega), va_up_ne _ _ (by omega), va_up_ne _ _ (by omega), va_up_ne _ _ (by omega), va_up_ne _ _ (by omega), va_up_ne _ _ (by omega), va_up_ne _ _ (by omega)]
  generalize va_up (va_up (hk_up (va_up (va_up (va_up (va_up (va_up (va_up (va_up S 222 (fun _ => 0)) 223 (fun _ => 0)) 224 (fun _ => 0)) 225 (fun _ => 0)) 226 (fun _ => 0)) 227 (fun _ => 0)) 228 (fun _ => 0)) 221 12 (-1)) 229 (fun _ => 0)) 230 (fun _ => 0) = P at *
  have hl : hk_ln 10 + hk_ln 11 = 174 := by decide +kernel
  obtain ⟨S1, a1, a2, a3, -, a5, a6⟩ := pX12_tell (E := hk_EE 231 229) (F := F) (i := 10) (m := 0) (S := P) hE3 (by omega) (by decide) (by omega) (by rw [hS10]; decide +kernel)
  obtain ⟨S2, b1, b2, b3, b4, b5, b6⟩ := pX12_tell (E := hk_EE 231 229) (F := F) (i := 11) (m := hk_ln 10) (S := S1) hE3 (by omega) (by decide) (by omega) (by rw [a2, Nat.zero_add])
  have hT : k_mT u_T0 174 S2 := by
    refine ⟨by omega, by rw [b2, hl], fun k hk => ?_⟩
    unfold u_T0
    by_cases q : k < hk_ln 10
    · rw [if_pos q, b4 k q]
      have := a3 k q
      rw [Nat.zero_add] at this
      exact this
    · rw [if_neg q]
      have := b3 (k - hk_ln 10) (by omega)
      rw [show hk_ln 10 + (k - hk_ln 10) = k by omega] at this
      exact this
  obtain ⟨M', c1, c2, c3, c4, c5⟩ := m_start hF hT (by rw [b5 222 (by decide) (by decide), a5 222 (by decide) (by decide), hS222])
  have ek : ∀ k, k ∉ [11, 12, 16, 17, 18, 19, 20] → k ≠ 10 → M' 221 k = hk_i0 9 k := fun k h1 h2 => by
    rw [c5.2 k h1, b6 k h2, a6 k h2, hS10, upd_at, if_neg (fun z => h1 (by rw [z]; decide))]
  refine ⟨hk_up M' 221 15 0, by rw [a1, Option.bind_some, b1, Option.bind_some, c1, Option.bind_some], by rw [hk_upne _ _ _ (by decide)]; exact c2, by rw [hk_up_eq, if_neg (by decide)]; exact c3, by rw [hk_up_eq, if_neg (by decide)]; exact c4, by rw [hk_up_eq, if_neg (by decide), ek 5 (by decide) (by decide)]; decide +kernel, by rw [hk_up_eq, if_neg (by decide), ek 6 (by decide) (by decide)]; decide +kernel, by rw [hk_up_eq, if_neg (by decide), ek 9 (by decide) (by decide)]; decide +kernel, by rw [hk_up_eq, if_neg (by decide), ek 14 (by decide) (by decide)]; decide +kernel, fun a ha => ?_⟩
  rw [hk_upne _ _ _ (by omega), c5.1 a (by omega) (by omega) (by omega), b5 a (by omega) (by omega), a5 a (by omega) (by omega), hSo a ha]
theorem k_start {F : Nat} (hF : 2000 ≤ F) : ∃ o1, mlaw_start F (fun _ _ => 0) = some o1 ∧ hk_I o1 := by
  unfold mlaw_start
  obtain ⟨S1, a1, a2, a3, a4, a5, a6, a7, -⟩ := s_init_0 (F := F) (va_up (fun _ _ => 0) 0 (hk_i0 8)) hF
  obtain ⟨S2, b1, b2, b3, b4, b5, b6, b7, b8, b9⟩ := s_init_221 (F := F) (S := va_up S1 221 (hk_i0 9)) hF (va_up_self _ _ _)
  have eo : ∀ a, a < 221 → (va_up S2 231 (fun _ => 0)) a = S1 a := fun a ha => by rw [va_up_ne _ _ (by omega), b9 a ha, va_up_ne _ _ (by omega)]
  have e1 : (va_up S2 231 (fun _ => 0)) 221 = S2 221 := va_up_ne _ _ (by decide)
  have e2 : (va_up S2 231 (fun _ => 0)) 222 = u_w13 := (va_up_ne _ _ (by decide)).trans b2
  refine ⟨va_up S2 231 (fun _ => 0), by rw [hk_let_eq, a1, Option.bind_some, hk_let_eq, b1, Option.bind_some, hk_let_eq], ?_, ?_, ⟨0, 0, by decide, by decide, ?_, ?_, ?_, fun i hi => absurd hi (by omega)⟩, ⟨?_, Or.inl ?_⟩, ⟨0, by decide, ?_, ?_, fun k hk => absurd hk (by omega)⟩, ⟨?_, ?_⟩, ⟨0, by decide, ?_, ?_, fun k hk => absurd hk (by omega)⟩⟩
  · rw [e2]
    exact hk_lf_ext a2 (fun a _ hb => eo a (by omega))
  · rw [e2]
    exact u_p13.1
  · rw [eo 39 (by decide), a4]
    decide +kernel
  · rw [e1, b5]
    rfl
  · rw [eo 39 (by decide), a4]
    decide +kernel
  · rw [eo 0 (by decide), a3, va_up_self, e1, b6]
    decide +kernel
  · rw [e1, b6]
  · rw [eo 194 (by decide), a5]
    decide +kernel
  · rw [e1, b7]
    rfl
  · rw [eo 193 (by decide), a6 2 (by decide), e1, b3]
    decide +kernel
  · rw [e1, b4, b3, if_pos rfl]
  · rw [eo 218 (by decide), a7]
    decide +kernel
  · rw [e1, b8]
    rfl
theorem hk_pure : hk_Pure := by
  obtain ⟨o1, h1, h2⟩ := k_start (F := hk_F) (by decide)
  exact hk_pure_of h1 h2
