/-! the three depths, and all commands -/
theorem u_e_le (T : Nat → Int32) (n p : Nat) : p ≤ u_e T n p := by
  have h1 : p ≤ u_s T n p := (s_run_ge b_bl T (n - p) p).1
  unfold u_e
  by_cases q : u_s T n p < n
  · rw [if_pos q]
    by_cases q2 : b_dg (T (u_s T n p)) = true
    · rw [if_pos q2]
      have := (s_run_ge b_dg T (n - u_s T n p) (u_s T n p)).1
      omega
    · rw [if_neg q2]
      by_cases q3 : b_lt (T (u_s T n p)) = true
      · rw [if_pos q3]
        have := (s_run_ge b_lt T (n - u_s T n p) (u_s T n p)).1
        omega
      · rw [if_neg q3]
        omega
  · rw [if_neg q]
    exact h1
theorem k_out_w {T : Nat → Int32} {n F d p e B : Nat} {C M : hk_S} {rm : Option (Int32 × hk_S)} (h : k_out T n F d p e 1 1 C M rm) (hB : 1 ≤ B) (hp : p ≤ n) : k_out T n F d p e (B * (e - p)) (B * (n + 1 - p)) C M rm := by
  rcases h with ⟨C', M', q', x', w', s', v1, v2, v3, v4, v5, v6⟩ | ⟨C', M', k, o, s', h1, h2, h3⟩
  · have : B * 1 ≤ B * (e - p) := Nat.mul_le_mul_left B (by omega)
    exact Or.inl ⟨C', M', q', x', w', s', v1, by omega, v3, v4, v5, v6⟩
  · have : B * 1 ≤ B * (n + 1 - p) := Nat.mul_le_mul_left B (by omega)
    exact Or.inr ⟨C', M', k, o, s', h1, by omega, h3⟩
theorem k_repcmd {T : Nat → Int32} {n F d B p x : Nat} {g : Nat → Nat} {w : Nat → Int32} {C M : hk_S} {rr rc : hk_S → Nat → Int32 → Option (Int32 × hk_S)} (hrr : ∀ S y, rr S 221 y = mX12_readsRepeat hk_E0 F rc S 221 y) (hF : 2000 ≤ F) (hd : d < 2) (hB : 1 ≤ B)
    (CMD : ∀ p x w C M, k_Q T n p x (d + 1) w C → k_P T n p x w M → x ≤ 200 → ¬ u_k T n p = 5 → k_out T n F (d + 1) p (g p) (B * (g p - p)) (B * (n + 1 - p)) C M (rc M 221 (nI d + 1)))
    (h : k_Q T n p x d w C) (hm : k_P T n p x w M) (hx : x ≤ 200) (n0 : ¬ (d = 0 ∧ u_k T n p = 0)) (n5 : ¬ (0 < d ∧ u_k T n p = 5)) (h14 : u_cmd T n p = 14) :
    k_out T n F d p (u_e T n (u_e T n (u_bod T n g (n + 1) (u_e T n (u_e T n (u_e T n p)))))) (20 * B * (u_e T n (u_e T n (u_bod T n g (n + 1) (u_e T n (u_e T n (u_e T n p))))) - p)) (20 * B * (n + 1 - p)) C M (mX12_readsCommand hk_E0 F rr M 221 (nI d)) := by
  have h600 := h.1.1
  obtain ⟨C1, a1, a2, a3, a4, a5, a6⟩ := pX8_readToken (F := F) (by omega) h.1 h.2.1 h.2.2.1
  have q1 := k_Q_tok h a6 a2
  have g1 : k_gC d C C1 := k_gC_fx (k_gC_refl d C) a6
  have tok : k_tok T n p C1 := ⟨a2, a3, a4, a5⟩
  have st := fun (K : hk_S → Int32 → Int32 → Option (Int32 × hk_S)) (f z : Nat) (hz : z + 1 ≤ 1000000) => k_step (K := K) (f := f) a1 a3 q1.2.2.2.2.1 (show d < 3 by omega) (show z < 1000000 by omega) n0 n5
  have ch := pX8_commandHere (F := F) (by omega) h.2.1 q1.1 tok
  have wa := pX12_wordAhead (F := F) hE1 (by omega) hm.2.1 hm.1 hm.2.2.1
  have k2 : u_k T n p = 2 := by
    rcases u_cmd_cases T n p with e | ⟨c, hc, e, k2⟩
    · rw [h14] at e; exact absurd e (by decide)
    · exact k2
  have he := u_e_ge T h.2.1
  have hs0 := u_s_ge T h.2.1
  have hlt := he.2.2 (u_k_lt (by rw [k2]; decide))
  obtain ⟨M2, b1, b2, b3⟩ := k_P_next (F := F) hE1 (by omega) hm
  have g2 : k_gM M M2 := k_gM_fx (k_gM_refl M) b3
  have hS3 : k_Q T n (u_e T n p) x d w (hk_up C1 193 9 0) := k_Q_9 q1 _
  have g3 : k_gC d C (hk_up C1 193 9 0) := k_gC_up g1 (Or.inl rfl) _ _
  have h93 : (hk_up C1 193 9 0) 193 9 = nI 0 := by rw [hk_up_eq, if_pos rfl]; rfl
  have hrc : mX8_runCommand hk_E0 F C1 193 = (mX8_openRepeat hk_E0 F (hk_up C1 193 9 0) 193).bind (fun r22 => if r22.1 = 0 ∨ r22.1 = 1 then (some (r22.1, r22.2)) else none) := by
    unfold mX8_runCommand
    rw [ch, Option.bind_some, h14]
    dsimp only
    rw [if_pos (show ¬ (14 : Int32) < 0 by decide), hk_let_eq, if_pos (show hk_ec 14 15 by decide), if_neg (fun z => z rfl), hS3.2.2.2.2.1, if_neg (show ¬ (2 : Int32) ≤ nI d from nI_ge (a := d) (b := 2) hd (by omega))]
  have hrm : mX12_readsCommand hk_E0 F rr M 221 (nI d) = (mX12_readsRepeat hk_E0 F rc M2 221 (nI d)).bind (fun r13 => if r13.1 = 0 ∨ r13.1 = 1 then (some (r13.1, r13.2)) else none) := by
    unfold mX12_readsCommand
    rw [wa, Option.bind_some, h14]
    dsimp only
    rw [if_pos (show ¬ (14 : Int32) = -1 by decide), if_neg (fun z => z rfl), if_pos (show ¬ nI d = 2 from fun z => by have := (nI_eq (b := 2) (by omega) (by omega)).mp z; omega), b1, Option.bind_some, hrr]
  have p1n := he.2.1
  have e2 := u_e_ge T p1n
  have e3 := u_e_ge T e2.2.1
  have l1 := u_e_le T n (u_e T n p)
  have l2 := u_e_le T n (u_e T n (u_e T n p))
  obtain ⟨o1, o2, o3⟩ := k_openC (F := F) (by omega) hd hS3 h93
  obtain ⟨m1, m2, m3⟩ := k_openM (F := F) (x1 := nI d) (rc := rc) (by omega) b2
  have hfail : 1 ≤ 20 * B * (n + 1 - p) := by
    have : 20 * B * 1 ≤ 20 * B * (n + 1 - p) := Nat.mul_le_mul_left _ (by omega)
    omega
  rw [hrm]
  by_cases z1 : u_nok T n (u_e T n p) 1 20
  · by_cases z2 : u_k T n (u_e T n (u_e T n p)) = 4
    · obtain ⟨C5, c1, c2, c3, c4, c5⟩ := o1 z1 z2
      obtain ⟨M5, d1, d2, d3⟩ := m1 z1 z2
      obtain ⟨vv, hvv, ev⟩ := nI_of2 (x := u_v T n (u_e T n p)) (M := 20) (n := 20) (by decide) (by have := z1.2.1; generalize u_v T n (u_e T n p) = y at *; grind) z1.2.2
      have hv1 : 1 ≤ vv := (nI_leI (a := 1) (by omega) (by omega)).mp (by rw [← ev]; exact z1.2.1)
      obtain ⟨r, rfl⟩ : ∃ r, vv = r + 1 := ⟨vv - 1, by omega⟩
      rw [ev] at c5 d1
      have rn : k_run F 1 C C5 1 := k_run_1 st (by rw [hrc, c1, Option.bind_some, if_pos (Or.inr rfl)])
      have gc : k_gC d C C5 := k_gC_trans g3 c3
      have gm : k_gM M M5 := k_gM_trans g2 d3
      have R := k_reps (F := F) (p0 := p) (v := r + 1) hF hd hB hvv (show p ≤ u_e T n (u_e T n (u_e T n p)) by omega) h600 CMD r 0 _ x w C5 M5 F (by omega) (by omega) c2 d2 hx c4 c5
      rw [show nI 0 = (0 : Int32) from rfl] at R
      rw [d1]
      generalize u_e T n (u_e T n (u_e T n p)) = q at *
      have x1 := u_e_le T n (u_bod T n g (n + 1) q)
      have x2 := u_e_le T n (u_e T n (u_bod T n g (n + 1) q))
      rcases R with ⟨C', M', q', x', w', s', v1, v2, v3, v4, v5, v6, v7, v8, v9, v10, v11⟩ | ⟨C', M', k, o, s', v1, v2, v3, v4, v5, v6, v7, v8, v9, v10⟩
      · refine Or.inl ⟨C', M', q', x', w', 1 + s', by rw [v1, Option.bind_some, if_pos (Or.inr rfl)], ?_, v3, v4, v5, v6, v7, v8, k_gC_trans gc v9, k_gM_trans gm v10, k_run_trans rn v11⟩
        have y1 : (r + 1) * (B * (u_e T n (u_bod T n g (n + 1) q) - q)) ≤ 20 * (B * (u_e T n (u_bod T n g (n + 1) q) - q)) := Nat.mul_le_mul_right _ hvv
        have y2 : B * (u_e T n (u_bod T n g (n + 1) q) - q + 1) ≤ B * (u_e T n (u_e T n (u_bod T n g (n + 1) q)) - p) := Nat.mul_le_mul_left B (by omega)
        rw [Nat.mul_add, Nat.mul_one] at y2
        rw [Nat.mul_assoc]
        omega
      · refine Or.inr ⟨C', M', k, o, 1 + s', by rw [v1, Option.bind_some, if_pos (Or.inl rfl)], ?_, v3, v4, v5, v6, v7, k_gC_trans (k_gC_le gc (Nat.zero_le _)) v8, k_gM_trans gm v9, k_run_trans rn v10⟩
        have y1 : (r + 1) * (B * (n + 1 - q)) ≤ 20 * (B * (n + 1 - q)) := Nat.mul_le_mul_right _ hvv
        have y2 : B * (n + 1 - q + 1) ≤ B * (n + 1 - p) := Nat.mul_le_mul_left B (by omega)
        rw [Nat.mul_add, Nat.mul_one] at y2
        rw [Nat.mul_assoc]
        omega
    · obtain ⟨C5, c1, c2, c3, c4⟩ := o2 z1 z2
      obtain ⟨M5, d1, d2, d3, d4⟩ := m2 z1 z2
      exact Or.inr ⟨C5, M5, 1, _, 1, by rw [d1, Option.bind_some, if_pos (Or.inl rfl)], hfail, by decide, c3, c4, d3, d4, k_gC_trans (k_gC_le g3 (Nat.zero_le _)) c2, k_gM_trans g2 d2, k_run_1 st (by rw [hrc, c1, Option.bind_some, if_pos (Or.inl rfl)])⟩
  · obtain ⟨C5, c1, c2, c3, c4⟩ := o3 z1
    obtain ⟨M5, d1, d2, d3, d4⟩ := m3 z1
    exact Or.inr ⟨C5, M5, _, _, 1, by rw [d1, Option.bind_some, if_pos (Or.inl rfl)], hfail, u_nk_ne _ _ _, c3, c4, d3, d4, k_gC_trans (k_gC_le g3 (Nat.zero_le _)) c2, k_gM_trans g2 d2, k_run_1 st (by rw [hrc, c1, Option.bind_some, if_pos (Or.inl rfl)])⟩
/-- too deep -/
theorem k_deep {T : Nat → Int32} {n F p x : Nat} {w : Nat → Int32} {C M : hk_S} {rr : hk_S → Nat → Int32 → Option (Int32 × hk_S)} (hF : 2000 ≤ F) (h : k_Q T n p x 2 w C) (hm : k_P T n p x w M) (n5 : ¬ u_k T n p = 5) (h14 : u_cmd T n p = 14) (e : Nat) : k_out T n F 2 p e 1 1 C M (mX12_readsCommand hk_E0 F rr M 221 (nI 2)) := by
  obtain ⟨C1, a1, a2, a3, a4, a5, a6⟩ := pX8_readToken (F := F) (by omega) h.1 h.2.1 h.2.2.1
  have q1 := k_Q_tok h a6 a2
  have g1 : k_gC 2 C C1 := k_gC_fx (k_gC_refl 2 C) a6
  have tok : k_tok T n p C1 := ⟨a2, a3, a4, a5⟩
  have st := fun (K : hk_S → Int32 → Int32 → Option (Int32 × hk_S)) (f z : Nat) (hz : z + 1 ≤ 1000000) => k_step (K := K) (f := f) a1 a3 q1.2.2.2.2.1 (show 2 < 3 by omega) (show z < 1000000 by omega) (fun z => absurd z.1 (by decide)) (fun z => n5 z.2)
  have ch := pX8_commandHere (F := F) (by omega) h.2.1 q1.1 tok
  have wa := pX12_wordAhead (F := F) hE1 (by omega) hm.2.1 hm.1 hm.2.2.1
  have hS3 : k_Q T n (u_e T n p) x 2 w (hk_up C1 193 9 0) := k_Q_9 q1 _
  have g3 : k_gC 2 C (hk_up C1 193 9 0) := k_gC_up g1 (Or.inl rfl) _ _
  have hrc : mX8_runCommand hk_E0 F C1 193 = some (0, hk_up (hk_up (hk_up C1 193 9 0) 193 2 4) 193 3 ((hk_up C1 193 9 0) 193 6)) := by
    unfold mX8_runCommand
    rw [ch, Option.bind_some, h14]
    dsimp only
    rw [if_pos (show ¬ (14 : Int32) < 0 by decide), hk_let_eq, if_pos (show hk_ec 14 15 by decide), if_neg (fun z => z rfl), hS3.2.2.2.2.1, if_pos (show (2 : Int32) ≤ nI 2 by decide), pX8_fail, Option.bind_some, if_pos (Or.inl rfl)]
  have hrm : mX12_readsCommand hk_E0 F rr M 221 (nI 2) = some (0, hk_up (hk_up M 221 11 4) 221 12 (nI (u_s T n p))) := by
    unfold mX12_readsCommand
    rw [wa, Option.bind_some, h14]
    dsimp only
    rw [if_pos (show ¬ (14 : Int32) = -1 by decide), if_neg (fun z => z rfl), if_neg (show ¬ ¬ nI 2 = 2 by decide), pX12_fail hm, Option.bind_some, if_pos (Or.inl rfl)]
  rw [hrm]
  exact k_join (x := x) (c_bad g3 (by decide) (by rw [hk_up_eq, if_neg (by decide)]; exact a4)) (m_bad (k_gM_refl M) (by decide)) (fun K f z hz => by rw [st K f z hz, hrc]) (fun w' q z => absurd z (by simp))
def u_g2 (T : Nat → Int32) (n p : Nat) : Nat := u_word T n p
def u_g1 (T : Nat → Int32) (n p : Nat) : Nat := if u_cmd T n p = 14 then u_e T n (u_e T n (u_bod T n (u_g2 T n) (n + 1) (u_e T n (u_e T n (u_e T n p))))) else u_word T n p
def u_g0 (T : Nat → Int32) (n p : Nat) : Nat := if u_cmd T n p = 14 then u_e T n (u_e T n (u_bod T n (u_g1 T n) (n + 1) (u_e T n (u_e T n (u_e T n p))))) else u_word T n p
theorem k_cmd2 {T : Nat → Int32} {n F : Nat} (hF : 2000 ≤ F) : ∀ p x w C M, k_Q T n p x (1 + 1) w C → k_P T n p x w M → x ≤ 200 → ¬ u_k T n p = 5 → k_out T n F (1 + 1) p (u_g2 T n p) (1 * (u_g2 T n p - p)) (1 * (n + 1 - p)) C M (mX12_rC2 hk_E0 F M 221 (nI 1 + 1)) := by
  intro p x w C M h hm hx n5
  refine k_out_w ?_ (Nat.le_refl _) h.2.1
  by_cases h14 : u_cmd T n p = 14
  · exact k_deep hF h hm n5 h14 _
  · exact k_word hF (by decide) h hm hx (fun z => absurd z.1 (by decide)) (fun z => n5 z.2) h14
theorem k_cmd1 {T : Nat → Int32} {n F : Nat} (hF : 2000 ≤ F) : ∀ p x w C M, k_Q T n p x (0 + 1) w C → k_P T n p x w M → x ≤ 200 → ¬ u_k T n p = 5 → k_out T n F (0 + 1) p (u_g1 T n p) (20 * (u_g1 T n p - p)) (20 * (n + 1 - p)) C M (mX12_rC1 hk_E0 F M 221 (nI 0 + 1)) := by
  intro p x w C M h hm hx n5
  unfold u_g1
  by_cases h14 : u_cmd T n p = 14
  · rw [if_pos h14]
    exact k_repcmd (B := 1) (rc := mX12_rC2 hk_E0 F) (fun _ _ => rfl) hF (by decide) (Nat.le_refl _) (k_cmd2 hF) h hm hx (fun z => absurd z.1 (by decide)) (fun z => n5 z.2) h14
  · rw [if_neg h14]
    exact k_out_w (k_word hF (by decide) h hm hx (fun z => absurd z.1 (by decide)) (fun z => n5 z.2) h14) (by decide) h.2.1
theorem k_cmd0 {T : Nat → Int32} {n F : Nat} (hF : 2000 ≤ F) : ∀ p x w C M, k_Q T n p x 0 w C → k_P T n p x w M → x ≤ 200 → ¬ u_k T n p = 0 → k_out T n F 0 p (u_g0 T n p) (400 * (u_g0 T n p - p)) (400 * (n + 1 - p)) C M (mX12_rC0 hk_E0 F M 221 0) := by
  intro p x w C M h hm hx n0
  unfold u_g0
  by_cases h14 : u_cmd T n p = 14
  · rw [if_pos h14]
    exact k_repcmd (B := 20) (d := 0) (rc := mX12_rC1 hk_E0 F) (fun _ _ => rfl) hF (by decide) (by decide) (k_cmd1 hF) h hm hx (fun z => n0 z.2) (fun z => absurd z.1 (by decide)) h14
  · rw [if_neg h14]
    exact k_out_w (k_word (d := 0) hF (by decide) h hm hx (fun z => n0 z.2) (fun z => absurd z.1 (by decide)) h14) (by decide) h.2.1
/-- all commands -/
theorem k_all {T : Nat → Int32} {n F : Nat} (hF : 2000 ≤ F) : ∀ u q x w C M fm, n + 1 - q ≤ u → u < fm → k_Q T n q x 0 w C → k_P T n q x w M → x ≤ 200 →
    (∃ (C' M' : hk_S) (w' : Nat → Int32) (s : Nat), mX12_readsAll_34 hk_E0 F 221 (fun S11 => some (1, S11)) fm M = some (1, M') ∧ s ≤ 400 * (n + 1 - q) ∧ k_run F s C C' 0 ∧ C' 193 2 = 0 ∧ hk_lf C' 196 w' ∧ a_ok w' ∧ M' 222 = w' ∧ M' 221 11 = 0 ∧ M' 221 12 = -1 ∧ k_gC 0 C C' ∧ k_gM M M')
    ∨ k_fl F (400 * (n + 1 - q)) C M (mX12_readsAll_34 hk_E0 F 221 (fun S11 => some (1, S11)) fm M) := by
  intro u
  induction u with
  | zero =>
    intro q x w C M fm h1 h2 h3 h4 h5
    have := h3.2.1
    omega
  | succ u ih =>
    intro q x w C M fm h1 h2 h3 h4 h5
    obtain ⟨fm, rfl⟩ : ∃ f, fm = f + 1 := ⟨fm - 1, by omega⟩
    have hq := h3.2.1
    rw [mX12_readsAll_34]
    dsimp only
    rw [h4.2.2.1.2.1]
    by_cases k0 : u_k T n q = 0
    · rw [if_pos k0]
      obtain ⟨C1, a1, a2, a3, a4, a5, a6⟩ := pX8_readToken (F := F) (by omega) h3.1 h3.2.1 h3.2.2.1
      have q1 := k_Q_tok h3 a6 a2
      exact Or.inl ⟨C1, M, w, 1, rfl, by omega, fun K f z hz => k_stop0 a1 a3 q1.2.2.2.2.1 (by omega) k0, q1.2.2.2.2.2.1, q1.2.2.2.2.2.2.1, q1.2.2.2.2.2.2.2, h4.2.2.2.2.2.2.1, h4.2.2.2.2.1, h4.2.2.2.2.2.1, k_gC_fx (k_gC_refl 0 C) a6, k_gM_refl M⟩
    · rw [if_neg k0]
      rcases k_cmd0 hF q x w C M h3 h4 h5 k0 with ⟨C1, M1, q1, x1, w1, s1, r1, r2, r3, r4, r5, r6, r7, r8, r9, r10, r11⟩ | ⟨C1, M1, k, o, s1, r1, r2, r3, r4, r5, r6, r7, r8, r9, r10⟩
      · obtain ⟨M2, b1, b2, b3⟩ := k_P_next (F := F) hE1 (by omega) r7
        rw [r3] at b2
        rw [r1, Option.bind_some]
        dsimp only
        rw [if_pos (show ¬ (1 : Int32) = 0 by decide), b1, Option.bind_some]
        have gm : k_gM M M2 := k_gM_fx r10 b3
        have hb := k_mb (B := 400) (show q ≤ u_g0 T n q by omega) (show u_g0 T n q ≤ n + 1 by omega)
        rcases ih (u_g0 T n q) x1 w1 C1 M2 fm (by omega) (by omega) r6 b2 r8 with ⟨C3, M3, w3, s3, t1, t2, t3, t4, t5, t6, t7, t8, t9, t10, t11⟩ | hfl
        · exact Or.inl ⟨C3, M3, w3, s1 + s3, t1, by omega, k_run_trans r11 t3, t4, t5, t6, t7, t8, t9, k_gC_trans r9 t10, k_gM_trans gm t11⟩
        · exact Or.inr (k_fl_pre hfl r11 (by omega) r9 gm)
      · right
        refine ⟨C1, M1, k, o, s1, ?_, r2, r3, r4, r5, r6, r7, r8, r9, r10⟩
        rw [r1, Option.bind_some]
        dsimp only
        rw [if_neg (fun z => z rfl)]
