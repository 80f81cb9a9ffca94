/-! marks, choices, the end of a command -/
def k_tail (F : Nat) (cc : Int32) (r7 : Int32 × hk_S) : Option (Int32 × hk_S) := if r7.1 = 0 then (some (0, r7.2)) else ((mX8_readMark hk_E0 F r7.2 193 4).bind (fun r9 => if ¬ r9.1 = 0 then ((mX8_isRefused hk_E0 F r9.2 193 cc).bind (fun r11 => if r11.1 = 0 then ((mX8_execute hk_E0 F r11.2 193 cc).bind (fun r13 => hk_let (hk_up r13 193 10 ((r13 193 10) + 1)) (fun S14 => some (1, S14)))) else ((mX8_fail hk_E0 F r11.2 193 3).bind (fun r15 => if r15.1 = 0 ∨ r15.1 = 1 then (some (r15.1, r15.2)) else none)))) else (some (0, r9.2))))
theorem pX8_keep {F j : Nat} {C : hk_S} {x : Int32} (h : C 193 9 = nI j) (hj4 : j < 4) : mX8_keep hk_E0 F C 193 x = some (1, hk_up (hk_up C 215 j x) 193 9 (nI (j + 1))) := by
  unfold mX8_keep
  rw [h, if_neg (nI_pos (by omega)), if_neg (show ¬ (4 : Int32) ≤ nI j from nI_ge (a := j) (b := 4) hj4 (by omega)), rE_193_8 hE2, Option.bind_some, if_pos (kE_215 hE2), lE_215 hE2, if_pos (hk_okI hj4 (by omega)), nI_clamp (by omega), hk_let_eq, hk_let_eq, hk_upne _ _ _ (by decide), h, nI_1]
theorem pX8_operand {F i : Nat} {C : hk_S} {A : Nat → Int32} (hA : C 215 = A) (hi : i < 4) : mX8_operand hk_E0 F C 193 (nI i) = some (A i, C) := by
  unfold mX8_operand
  rw [if_neg (nI_pos (by omega)), if_neg (show ¬ (4 : Int32) ≤ nI i from nI_ge (a := i) (b := 4) hi (by omega)), rE_193_8 hE2, Option.bind_some, if_pos (kE_215 hE2), lE_215 hE2, if_pos (hk_okI hi (by omega)), nI_clamp (by omega), hA]
theorem k_Q_done {T : Nat → Int32} {n p x d : Nat} {w w' : Nat → Int32} {C S' : hk_S} (h : k_Q T n p x d w C) (h1 : hk_lf S' 196 w') (h2 : a_ok w') (h3 : hk_fr 196 C S') : k_Q T n p (x + 1) d w' (hk_up S' 193 10 (S' 193 10 + 1)) := by
  obtain ⟨q1, q2, q3, q4, q5, q6, q7, q8⟩ := h
  have e : S' 193 = C 193 := h3 193 (by omega)
  refine ⟨k_cT_ext q1 (by rw [hk_upne _ _ _ (by decide)]; exact h3 194 (by omega)) (by rw [hk_upne _ _ _ (by decide)]; exact h3 195 (by omega)), q2, by rw [hk_up_eq, if_neg (by decide), e]; exact q3, by rw [hk_up_eq, if_pos rfl, e, q4, nI_1], by rw [hk_up_eq, if_neg (by decide), e]; exact q5, by rw [hk_up_eq, if_neg (by decide), e]; exact q6, hk_lf_ext h1 (fun a h1 h2 => hk_upne _ _ _ (by omega)), h2⟩
theorem c_mark {F n p x d : Nat} {T w : Nat → Int32} {C : hk_S} (hF : 1000 ≤ F) (h : k_Q T n p x d w C) (ck : Int32) (hck : hk_ec ck 7) : ∃ C1, k_Q T n (u_e T n p) x d w C1 ∧ s_fx [4, 5, 6, 7] 193 C C1 ∧ C1 193 6 = nI (u_s T n p) ∧ mX8_readMark hk_E0 F C 193 ck = (if u_c (u_k T n p) = ck then some (1, C1) else some (0, hk_up (hk_up C1 193 2 1) 193 3 (C1 193 6))) := by
  obtain ⟨C1, a1, a2, a3, a4, a5, a6⟩ := pX8_readToken hF h.1 h.2.1 h.2.2.1
  refine ⟨C1, k_Q_tok h a6 a2, a6, a4, ?_⟩
  unfold mX8_readMark
  rw [a1, Option.bind_some, a3, if_pos (u_c_ec _), if_pos hck]
  by_cases q : u_c (u_k T n p) = ck
  · rw [if_pos q, if_pos q]
  · rw [if_neg q, if_neg q, pX8_fail, Option.bind_some, if_pos rfl]
theorem c_stop {F n p x d : Nat} {T w w' A : Nat → Int32} {C0 C : hk_S} {cc : Int32} {c : Prop} [Decidable c] (hF : 1000 ≤ F) (h : k_Q T n p x d w C) (hg : k_gC d C0 C) (hA : C 215 = A)
    (href : ∀ C', k_Q T n (u_e T n p) x d w C' → C' 215 = A → mX8_isRefused hk_E0 F C' 193 cc = some (if c then 0 else 1, C'))
    (hex : ∀ C', c → k_Q T n (u_e T n p) x d w C' → C' 215 = A → ∃ S', mX8_execute hk_E0 F C' 193 cc = some S' ∧ hk_lf S' 196 w' ∧ a_ok w' ∧ hk_fr 196 C' S') :
    k_co T n d x C0 (k_tail F cc (1, C)) (u_stop T n c p w') := by
  obtain ⟨C1, q1, f1, t6, hm⟩ := c_mark hF h 4 (by decide)
  have g1 := k_gC_fx hg f1
  have e215 : C1 215 = A := (f1.1 215 (by decide)).trans hA
  unfold k_tail u_stop
  rw [if_neg (show ¬ (1 : Int32) = 0 by decide), hm]
  by_cases k1 : u_k T n p = 1
  · rw [if_pos ((u_c_iff _).2.2.2.2.1.mpr k1), if_pos k1, Option.bind_some]
    dsimp only
    rw [if_pos (show ¬ (1 : Int32) = 0 by decide), href C1 q1 e215, Option.bind_some]
    dsimp only
    by_cases hc : c
    · obtain ⟨S', s1, s2, s3, s4⟩ := hex C1 hc q1 e215
      rw [if_pos hc, if_pos rfl, if_pos hc, s1, Option.bind_some, hk_let_eq]
      exact ⟨_, rfl, k_gC_up (k_gC_fr g1 s4) (Or.inl rfl) _ _, k_Q_done q1 s2 s3 s4⟩
    · rw [if_neg hc, if_neg (by decide), if_neg hc, pX8_fail, Option.bind_some, if_pos (Or.inl rfl)]
      exact c_bad g1 (by decide) t6
  · rw [if_neg (fun z => k1 ((u_c_iff _).2.2.2.2.1.mp z)), if_neg k1, Option.bind_some, if_neg (fun z => z rfl)]
    exact c_bad g1 (by decide) t6
theorem m_stop {E : hk_E} {F n p x : Nat} {T w w' : Nat → Int32} {M0 M : hk_S} {y : Int32} {f : Int32 × hk_S → Option (Int32 × hk_S)} {c : Prop} [Decidable c] (h : k_P T n p x w M) (hg : k_gM M0 M) (hy : y = if c then 1 else 0)
    (bad : ∀ M', f (0, M') = some (0, M')) (good : c → k_mo T n x M0 (f (1, M)) (.inr (w', p))) :
    k_mo T n x M0 ((mX12_stops E F M 221 y).bind f) (u_stop T n c p w') := by
  have t := h.2.2.1
  unfold mX12_stops mX12_is u_stop
  rw [t.2.1]
  by_cases k1 : u_k T n p = 1
  · rw [if_pos k1, if_pos k1, Option.bind_some]
    dsimp only
    rw [if_neg (show ¬ (1 : Int32) = 0 by decide), hy]
    by_cases hc : c
    · rw [if_pos hc, if_pos (show ¬ (1 : Int32) = 0 by decide), if_pos hc, Option.bind_some]
      exact good hc
    · rw [if_neg hc, if_neg (fun z => z rfl), if_neg hc, pX12_fail h, Option.bind_some, if_pos rfl, Option.bind_some, bad]
      exact m_bad hg (by decide)
  · rw [if_neg k1, if_neg k1, pX12_fail h, Option.bind_some, if_pos rfl, Option.bind_some, if_pos rfl, Option.bind_some, bad]
    exact m_bad hg (by decide)
theorem m_done {n p x : Nat} {T w w' : Nat → Int32} {M0 M : hk_S} (h : k_P T n p x w M) (hg : k_gM M0 M) (hw : a_ok w') : k_mo T n x M0 (some (1, va_up M 222 w')) (.inr (w', p)) := ⟨_, rfl, k_gM_222 hg _, k_P_222 h hw⟩
theorem c_two {F n p x d j i1 i3 s1 s3 : Nat} {T w A : Nat → Int32} {C0 C : hk_S} {x2 x4 : Int32} {f : Int32 × hk_S → Option (Int32 × hk_S)} {K : Bool → Nat → u_R} (hF : 1000 ≤ F) (h : k_Q T n p x d w C) (hg : k_gC d C0 C) (hj : C 193 9 = nI j) (hj4 : j < 4) (hA : C 215 = A) (hi1 : i1 < 47) (hi3 : i3 < 47) (e1 : ((hk_str[i1]?).getD ("", 0, "", [])).2.2.2 = ((hk_str[s1]?).getD ("", 0, "", [])).2.2.2) (e3 : ((hk_str[i3]?).getD ("", 0, "", [])).2.2.2 = ((hk_str[s3]?).getD ("", 0, "", [])).2.2.2)
    (bad : ∀ C', f (0, C') = some (0, C'))
    (good : ∀ C' b, k_Q T n (u_e T n p) x d w C' → k_gC d C0 C' → C' 193 9 = nI (j + 1) → C' 215 = upd A j (if b = true then x4 else x2) → k_co T n d x C0 (f (1, C')) (K b (u_e T n p))) :
    k_co T n d x C0 ((mX8_readChoice hk_E0 F C 193 i1 x2 i3 x4).bind f) (u_two T n s1 s3 p K) := by
  obtain ⟨C1, a1, a2, a3, a4, a5, a6⟩ := pX8_readToken hF h.1 h.2.1 h.2.2.1
  have g1 := k_gC_fx hg a6
  have q1 := k_Q_tok h a6 a2
  have e9 : C1 193 9 = nI j := (a6.2 9 (by decide)).trans hj
  have tok : k_tok T n p C1 := ⟨a2, a3, a4, a5⟩
  unfold mX8_readChoice u_two
  rw [Option.bind_assoc, a1, Option.bind_some, pX8_isWord hF hi1 h.2.1 q1.1 tok, Option.bind_some, u_says_eq e1]
  dsimp only
  rw [pX8_isWord hF hi3 h.2.1 q1.1 tok, Option.bind_some, u_says_eq e3]
  dsimp only
  by_cases w1 : u_says T n p s1 = true
  · rw [if_pos w1, if_neg (by decide), if_pos w1, pX8_keep e9 hj4, Option.bind_some, if_pos (Or.inr rfl), Option.bind_some]
    refine good _ false (k_Q_9 (k_Q_215 q1 _ _) _) (k_gC_up (k_gC_up g1 (Or.inr rfl) _ _) (Or.inl rfl) _ _) (by dsimp only; rw [hk_up_eq, if_pos rfl]) ?_
    dsimp only
    rw [hk_upne _ _ _ (by decide), hk_up_self, a6.1 215 (by decide), hA]
    rfl
  · rw [if_neg w1, if_pos rfl, if_neg w1]
    by_cases w3 : u_says T n p s3 = true
    · rw [if_pos w3, if_neg (by decide), if_pos w3, pX8_keep e9 hj4, Option.bind_some, if_pos (Or.inr rfl), Option.bind_some]
      refine good _ true (k_Q_9 (k_Q_215 q1 _ _) _) (k_gC_up (k_gC_up g1 (Or.inr rfl) _ _) (Or.inl rfl) _ _) (by dsimp only; rw [hk_up_eq, if_pos rfl]) ?_
      dsimp only
      rw [hk_upne _ _ _ (by decide), hk_up_self, a6.1 215 (by decide), hA]
      rfl
    · rw [if_neg w3, if_pos rfl, if_neg w3, pX8_fail, Option.bind_some, if_pos (Or.inl rfl), Option.bind_some, bad]
      exact c_bad g1 (by decide) a4
theorem m_two {E : hk_E} {F n p x s1 s3 : Nat} {T w : Nat → Int32} {M0 M : hk_S} {f : Int32 × hk_S → Option (Int32 × hk_S)} {K : Bool → Nat → u_R} (hE : hk_Sh 231 E) (hF : 1000 ≤ F) (hs1 : s1 < 47) (hs3 : s3 < 47) (h : k_P T n p x w M) (hg : k_gM M0 M)
    (bad : ∀ M', f (-1, M') = some (0, M'))
    (good : ∀ M' b, k_P T n (u_e T n p) x w M' → k_gM M0 M' → M' 230 = M 230 → k_mo T n x M0 (f ((if b = true then 1 else 0), M')) (K b (u_e T n p))) :
    k_mo T n x M0 ((mX12_either E F M 221 s1 s3).bind f) (u_two T n s1 s3 p K) := by
  have t := h.2.2.1
  obtain ⟨M', b1, b2, b3⟩ := k_P_next (E := E) (F := F) hE hF h
  unfold mX12_either u_two
  rw [pX12_says hE hF hs1 h.2.1 h.1 t, Option.bind_some]
  dsimp only
  rw [pX12_says hE hF hs3 h.2.1 h.1 t, Option.bind_some]
  dsimp only
  by_cases w1 : u_says T n p s1 = true
  · rw [if_pos w1, if_neg (by decide), if_pos w1, b1, Option.bind_some, Option.bind_some]
    exact good M' false b2 (k_gM_fx hg b3) (b3.1 230 (by decide))
  · rw [if_neg w1, if_pos rfl, if_neg w1]
    by_cases w3 : u_says T n p s3 = true
    · rw [if_pos w3, if_neg (by decide), if_pos w3, b1, Option.bind_some, Option.bind_some]
      exact good M' true b2 (k_gM_fx hg b3) (b3.1 230 (by decide))
    · rw [if_neg w3, if_pos rfl, if_neg w3, pX12_fail h, Option.bind_some, Option.bind_some, bad]
      exact m_bad hg (by decide)
/-- the plan of each command -/
def u_D (T : Nat → Int32) (n : Nat) (w : Nat → Int32) (p : Nat) : Nat → u_R
  | 0 => u_num T n 10 500 p fun a q => u_stop T n (¬ 8 ≤ w 9) q (a_build w (w 9).toNatClampNeg a)
  | 1 => u_num T n 0 (w 9 - 1) p fun a q => u_num T n 1 (a_t w a.toNatClampNeg 0) q fun b q2 => u_num T n 600 900 q2 fun c q3 => u_stop T n (a_t w a.toNatClampNeg 3 = 0) q3 (a_load w a.toNatClampNeg b c)
  | 2 => u_num T n 0 (w 9 - 1) p fun a q => u_num T n 0 5 q fun b q2 => u_stop T n True q2 (a_fan w a.toNatClampNeg b)
  | 3 => u_num T n 0 (w 9 - 1) p fun a q => u_stop T n True q (a_rev w a.toNatClampNeg)
  | 4 => u_num T n 0 5 p fun a q => u_stop T n True q (upd w 1 a)
  | 5 => u_num T n 20 95 p fun a q => u_stop T n True q (upd w 2 a)
  | 6 => u_num T n (w 0 / 24) 83 p fun a q => u_stop T n (¬ 3 ≤ w 5) q (a_mon w (w 5).toNatClampNeg a)
  | 7 => u_num T n 500 700 p fun a q => u_num T n 5 50 q fun b q2 => u_stop T n True q2 (a_aim w a b)
  | 8 => u_num T n 0 (w 9 - 1) p fun a q => u_stop T n (¬ a_t w a.toNatClampNeg 3 = 0) q (a_turn w a.toNatClampNeg)
  | 9 => u_num T n 0 (w 9 - 1) p fun a q => u_stop T n (t_why w (a_t w a.toNatClampNeg) = 0) q (a_send w a.toNatClampNeg)
  | 10 => u_num T n 0 (w 9 - 1) p fun a q => u_stop T n (¬ a_t w a.toNatClampNeg 3 = 0) q (a_out w a.toNatClampNeg 13)
  | 11 => u_num T n 0 (w 9 - 1) p fun a q => u_two T n 28 29 q fun b q2 => u_two T n 30 31 q2 fun c q3 => u_num T n 0 50 q3 fun z q4 => u_stop T n (¬ 6 ≤ w 10) q4 (a_put w (w 10).toNatClampNeg a (if b = true then 1 else 0) (if c = true then -z else z))
  | 12 => u_num T n 0 (w 10 - 1) p fun a q => u_stop T n True q (a_cal w a.toNatClampNeg)
  | _ => u_num T n 1 200 p fun a q => u_stop T n (¬ 2000 < w 0 + a) q (a_pass a.toNatClampNeg w)
