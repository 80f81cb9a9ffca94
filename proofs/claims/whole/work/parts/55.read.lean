/-! reading a command: both sides follow one plan -/
abbrev u_R : Type := Sum (Int32 × Nat) ((Nat → Int32) × Nat)
def u_num (T : Nat → Int32) (n : Nat) (lo hi : Int32) (p : Nat) (K : Int32 → Nat → u_R) : u_R := if u_k T n p = 3 then (if lo ≤ u_v T n p ∧ u_v T n p ≤ hi then K (u_v T n p) (u_e T n p) else .inl (2, u_s T n p)) else .inl (1, u_s T n p)
def u_two (T : Nat → Int32) (n i j p : Nat) (K : Bool → Nat → u_R) : u_R := if u_says T n p i = true then K false (u_e T n p) else if u_says T n p j = true then K true (u_e T n p) else .inl (1, u_s T n p)
def u_stop (T : Nat → Int32) (n : Nat) (c : Prop) [Decidable c] (p : Nat) (w' : Nat → Int32) : u_R := if u_k T n p = 1 then (if c then .inr (w', p) else .inl (3, u_s T n p)) else .inl (1, u_s T n p)
def k_gC (d : Nat) (C C' : hk_S) : Prop := (∀ a, (a < 193 ∨ a = 194 ∨ a = 195 ∨ 218 ≤ a) → C' a = C a) ∧ ∀ i, i < d → C' 216 i = C 216 i ∧ C' 217 i = C 217 i
def k_gM (M M' : hk_S) : Prop := (∀ a, a ≠ 221 → a ≠ 222 → a ≠ 230 → M' a = M a) ∧ ∀ k, k ∉ [11, 12, 16, 17, 18, 19, 20] → M' 221 k = M 221 k
theorem k_gC_refl (d : Nat) (C : hk_S) : k_gC d C C := ⟨fun _ _ => rfl, fun _ _ => ⟨rfl, rfl⟩⟩
theorem k_gM_refl (M : hk_S) : k_gM M M := ⟨fun _ _ _ _ => rfl, fun _ _ => rfl⟩
theorem k_gC_trans {d : Nat} {C C1 C2 : hk_S} (h : k_gC d C C1) (h2 : k_gC d C1 C2) : k_gC d C C2 := ⟨fun a ha => (h2.1 a ha).trans (h.1 a ha), fun i hi => ⟨(h2.2 i hi).1.trans (h.2 i hi).1, (h2.2 i hi).2.trans (h.2 i hi).2⟩⟩
theorem k_gM_trans {M M1 M2 : hk_S} (h : k_gM M M1) (h2 : k_gM M1 M2) : k_gM M M2 := ⟨fun a h3 h4 h5 => (h2.1 a h3 h4 h5).trans (h.1 a h3 h4 h5), fun k hk => (h2.2 k hk).trans (h.2 k hk)⟩
theorem k_gC_le {d e : Nat} {C C1 : hk_S} (h : k_gC e C C1) (hd : d ≤ e) : k_gC d C C1 := ⟨h.1, fun i hi => h.2 i (by omega)⟩
theorem k_gC_fx {d : Nat} {K : List Nat} {C C1 C2 : hk_S} (h : k_gC d C C1) (e : s_fx K 193 C1 C2) : k_gC d C C2 := ⟨fun a ha => (e.1 a (by omega)).trans (h.1 a ha), fun i hi => ⟨by rw [e.1 216 (by decide)]; exact (h.2 i hi).1, by rw [e.1 217 (by decide)]; exact (h.2 i hi).2⟩⟩
theorem k_gC_up {d : Nat} {C C1 : hk_S} (h : k_gC d C C1) {a : Nat} (ha : a = 193 ∨ a = 215) (k : Nat) (x : Int32) : k_gC d C (hk_up C1 a k x) := ⟨fun c hc => by rw [hk_upne _ _ _ (by omega)]; exact h.1 c hc, fun i hi => by rw [hk_upne _ _ _ (by omega), hk_upne _ _ _ (by omega)]; exact h.2 i hi⟩
theorem k_gC_fr {d : Nat} {C C1 C2 : hk_S} (h : k_gC d C C1) (e : hk_fr 196 C1 C2) : k_gC d C C2 := ⟨fun c hc => (e c (by omega)).trans (h.1 c hc), fun i hi => ⟨by rw [e 216 (by omega)]; exact (h.2 i hi).1, by rw [e 217 (by omega)]; exact (h.2 i hi).2⟩⟩
theorem k_gM_fx {M M1 M2 : hk_S} (h : k_gM M M1) (e : s_fx [16, 17, 18, 19] 221 M1 M2) : k_gM M M2 := ⟨fun a h1 h2 h3 => (e.1 a h1).trans (h.1 a h1 h2 h3), fun k hk => (e.2 k (fun z => hk (by revert z; simp; omega))).trans (h.2 k hk)⟩
theorem k_gM_up {M M1 : hk_S} (h : k_gM M M1) {k : Nat} (hk : k ∈ [11, 12, 16, 17, 18, 19, 20]) (x : Int32) : k_gM M (hk_up M1 221 k x) := ⟨fun a h1 h2 h3 => by rw [hk_upne _ _ _ h1]; exact h.1 a h1 h2 h3, fun j hj => by
  rw [hk_up_eq, if_neg (show ¬ j = k from fun e => hj (e ▸ hk))]
  exact h.2 j hj⟩
theorem k_gM_230 {M M1 : hk_S} (h : k_gM M M1) (k : Nat) (x : Int32) : k_gM M (hk_up M1 230 k x) := ⟨fun a h1 h2 h3 => by rw [hk_upne _ _ _ h3]; exact h.1 a h1 h2 h3, fun j hj => by rw [hk_upne _ _ _ (by decide)]; exact h.2 j hj⟩
theorem k_gM_222 {M M1 : hk_S} (h : k_gM M M1) (w : Nat → Int32) : k_gM M (va_up M1 222 w) := ⟨fun a h1 h2 h3 => by rw [va_up_ne _ _ h2]; exact h.1 a h1 h2 h3, fun j hj => by rw [va_up_ne _ _ (by decide)]; exact h.2 j hj⟩
/-- the class before the token at p -/
def k_Q (T : Nat → Int32) (n p x d : Nat) (w : Nat → Int32) (C : hk_S) : Prop := k_cT T n C ∧ p ≤ n ∧ C 193 4 = nI p ∧ C 193 10 = nI x ∧ C 193 11 = nI d ∧ C 193 2 = 0 ∧ hk_lf C 196 w ∧ a_ok w
/-- the model at the token at p -/
def k_P (T : Nat → Int32) (n p x : Nat) (w : Nat → Int32) (M : hk_S) : Prop := k_mT T n M ∧ p ≤ n ∧ k_mok T n p M ∧ M 221 20 = nI x ∧ M 221 11 = 0 ∧ M 221 12 = -1 ∧ M 222 = w ∧ a_ok w
theorem k_Q_tok {T : Nat → Int32} {n p x d : Nat} {w : Nat → Int32} {C C1 : hk_S} (h : k_Q T n p x d w C) (e : s_fx [4, 5, 6, 7] 193 C C1) (h4 : C1 193 4 = nI (u_e T n p)) : k_Q T n (u_e T n p) x d w C1 := ⟨k_cT_fx h.1 e, (u_e_ge T h.2.1).2.1, h4, (e.2 10 (by decide)).trans h.2.2.2.1, (e.2 11 (by decide)).trans h.2.2.2.2.1, (e.2 2 (by decide)).trans h.2.2.2.2.2.1, hk_lf_ext h.2.2.2.2.2.2.1 (fun a h1 h2 => e.1 a (by omega)), h.2.2.2.2.2.2.2⟩
theorem k_Q_215 {T : Nat → Int32} {n p x d : Nat} {w : Nat → Int32} {C : hk_S} (h : k_Q T n p x d w C) (k : Nat) (y : Int32) : k_Q T n p x d w (hk_up C 215 k y) := ⟨k_cT_ext h.1 (hk_upne _ _ _ (by decide)) (hk_upne _ _ _ (by decide)), h.2.1, by rw [hk_upne _ _ _ (by decide)]; exact h.2.2.1, by rw [hk_upne _ _ _ (by decide)]; exact h.2.2.2.1, by rw [hk_upne _ _ _ (by decide)]; exact h.2.2.2.2.1, by rw [hk_upne _ _ _ (by decide)]; exact h.2.2.2.2.2.1, hk_lf_ext h.2.2.2.2.2.2.1 (fun a h1 h2 => hk_upne _ _ _ (by omega)), h.2.2.2.2.2.2.2⟩
theorem k_Q_9 {T : Nat → Int32} {n p x d : Nat} {w : Nat → Int32} {C : hk_S} (h : k_Q T n p x d w C) (y : Int32) : k_Q T n p x d w (hk_up C 193 9 y) := ⟨k_cT_ext h.1 (hk_upne _ _ _ (by decide)) (hk_upne _ _ _ (by decide)), h.2.1, by rw [hk_up_eq, if_neg (by decide)]; exact h.2.2.1, by rw [hk_up_eq, if_neg (by decide)]; exact h.2.2.2.1, by rw [hk_up_eq, if_neg (by decide)]; exact h.2.2.2.2.1, by rw [hk_up_eq, if_neg (by decide)]; exact h.2.2.2.2.2.1, hk_lf_ext h.2.2.2.2.2.2.1 (fun a h1 h2 => hk_upne _ _ _ (by omega)), h.2.2.2.2.2.2.2⟩
theorem k_P_next {E : hk_E} {F n p x : Nat} {T w : Nat → Int32} {M : hk_S} (hE : hk_Sh 231 E) (hF : 1000 ≤ F) (h : k_P T n p x w M) : ∃ M', mX12_next E F M 221 = some M' ∧ k_P T n (u_e T n p) x w M' ∧ s_fx [16, 17, 18, 19] 221 M M' := by
  obtain ⟨h1, h2, h3, h4, h5, h6, h7, h8⟩ := h
  obtain ⟨M', a1, a2, a3, a4, a5, a6⟩ := pX12_next hE hF h1 (u_e_ge T h2).2.1 h3.1
  exact ⟨M', a1, ⟨k_mT_fx h1 a6, (u_e_ge T h2).2.1, ⟨a2, a3, a4, a5⟩, (a6.2 20 (by decide)).trans h4, (a6.2 11 (by decide)).trans h5, (a6.2 12 (by decide)).trans h6, (a6.1 222 (by decide)).trans h7, h8⟩, a6⟩
theorem k_P_230 {T : Nat → Int32} {n p x : Nat} {w : Nat → Int32} {M : hk_S} (h : k_P T n p x w M) (k : Nat) (y : Int32) : k_P T n p x w (hk_up M 230 k y) := by
  obtain ⟨h1, h2, ⟨t1, t2, t3, t4⟩, h4, h5, h6, h7, h8⟩ := h
  have e : (hk_up M 230 k y) 221 = M 221 := hk_upne _ _ _ (by decide)
  exact ⟨⟨h1.1, by rw [e]; exact h1.2.1, fun j hj => by rw [hk_upne _ _ _ (by decide)]; exact h1.2.2 j hj⟩, h2, ⟨by rw [e]; exact t1, by rw [e]; exact t2, by rw [e]; exact t3, by rw [e]; exact t4⟩, by rw [e]; exact h4, by rw [e]; exact h5, by rw [e]; exact h6, by rw [hk_upne _ _ _ (by decide)]; exact h7, h8⟩
theorem k_P_222 {T : Nat → Int32} {n p x : Nat} {w w' : Nat → Int32} {M : hk_S} (h : k_P T n p x w M) (hw : a_ok w') : k_P T n p x w' (va_up M 222 w') := by
  obtain ⟨h1, h2, ⟨t1, t2, t3, t4⟩, h4, h5, h6, h7, h8⟩ := h
  have e : (va_up M 222 w') 221 = M 221 := va_up_ne _ _ (by decide)
  exact ⟨⟨h1.1, by rw [e]; exact h1.2.1, fun j hj => by rw [va_up_ne _ _ (by decide)]; exact h1.2.2 j hj⟩, h2, ⟨by rw [e]; exact t1, by rw [e]; exact t2, by rw [e]; exact t3, by rw [e]; exact t4⟩, by rw [e]; exact h4, by rw [e]; exact h5, by rw [e]; exact h6, va_up_self _ _ _, hw⟩
/-- what comes out -/
def k_co (T : Nat → Int32) (n d x : Nat) (C0 : hk_S) (r : Option (Int32 × hk_S)) : u_R → Prop
  | .inl (k, o) => ∃ C', r = some (0, C') ∧ k_gC d C0 C' ∧ ¬ k = 0 ∧ C' 193 2 = k ∧ C' 193 3 = nI o
  | .inr (w', q) => ∃ C', r = some (1, C') ∧ k_gC d C0 C' ∧ k_Q T n (u_e T n q) (x + 1) d w' C'
def k_mo (T : Nat → Int32) (n x : Nat) (M0 : hk_S) (r : Option (Int32 × hk_S)) : u_R → Prop
  | .inl (k, o) => ∃ M', r = some (0, M') ∧ k_gM M0 M' ∧ ¬ k = 0 ∧ M' 221 11 = k ∧ M' 221 12 = nI o
  | .inr (w', q) => ∃ M', r = some (1, M') ∧ k_gM M0 M' ∧ k_P T n q x w' M'
theorem pX8_fail {F : Nat} {C : hk_S} {x : Int32} : mX8_fail hk_E0 F C 193 x = some (0, hk_up (hk_up C 193 2 x) 193 3 (C 193 6)) := by
  unfold mX8_fail
  rw [hk_let_eq, hk_let_eq, hk_up_eq, if_neg (by decide)]
theorem c_bad {T : Nat → Int32} {n d x p : Nat} {C0 C : hk_S} {k : Int32} (hg : k_gC d C0 C) (hk : ¬ k = 0) (h6 : C 193 6 = nI (u_s T n p)) : k_co T n d x C0 (some (0, hk_up (hk_up C 193 2 k) 193 3 (C 193 6))) (.inl (k, u_s T n p)) :=
  ⟨_, rfl, k_gC_up (k_gC_up hg (Or.inl rfl) _ _) (Or.inl rfl) _ _, hk, by rw [hk_up_eq, if_neg (by decide), hk_up_eq, if_pos rfl], by rw [hk_up_eq, if_pos rfl, h6]⟩
theorem pX12_fail {E : hk_E} {F n p x : Nat} {T w : Nat → Int32} {M : hk_S} {k : Int32} (h : k_P T n p x w M) : mX12_fail E F M 221 k = some (0, hk_up (hk_up M 221 11 k) 221 12 (nI (u_s T n p))) := by
  unfold mX12_fail
  rw [h.2.2.2.2.1, if_neg (fun z => z rfl), hk_let_eq, hk_let_eq, hk_up_eq, if_neg (by decide), h.2.2.1.2.2.1]
theorem m_bad {T : Nat → Int32} {n x p : Nat} {M0 M : hk_S} {k : Int32} (hg : k_gM M0 M) (hk : ¬ k = 0) : k_mo T n x M0 (some (0, hk_up (hk_up M 221 11 k) 221 12 (nI (u_s T n p)))) (.inl (k, u_s T n p)) :=
  ⟨_, rfl, k_gM_up (k_gM_up hg (by decide) _) (by decide) _, hk, by rw [hk_up_eq, if_neg (by decide), hk_up_eq, if_pos rfl], by rw [hk_up_eq, if_pos rfl]⟩
theorem c_num {F n p x d j : Nat} {T w A : Nat → Int32} {C0 C : hk_S} {lo hi : Int32} {f : Int32 × hk_S → Option (Int32 × hk_S)} {K : Int32 → Nat → u_R} (hF : 1000 ≤ F) (h : k_Q T n p x d w C) (hg : k_gC d C0 C) (hj : C 193 9 = nI j) (hj4 : j < 4) (hA : C 215 = A)
    (bad : ∀ C', f (0, C') = some (0, C'))
    (good : ∀ C', lo ≤ u_v T n p → u_v T n p ≤ hi → k_Q T n (u_e T n p) x d w C' → k_gC d C0 C' → C' 193 9 = nI (j + 1) → C' 215 = upd A j (u_v T n p) → k_co T n d x C0 (f (1, C')) (K (u_v T n p) (u_e T n p))) :
    k_co T n d x C0 ((mX8_readNumber hk_E0 F C 193 lo hi).bind f) (u_num T n lo hi p K) := by
  obtain ⟨C1, a1, a2, a3, a4, a5, a6⟩ := pX8_readToken hF h.1 h.2.1 h.2.2.1
  have g1 := k_gC_fx hg a6
  have q1 := k_Q_tok h a6 a2
  unfold mX8_readNumber u_num
  rw [Option.bind_assoc, a1, Option.bind_some, a3, if_pos (u_c_ec _)]
  by_cases k3 : u_k T n p = 3
  · rw [if_pos ((u_c_iff _).2.1.mpr k3), if_pos k3, a5 k3]
    by_cases z1 : u_v T n p < lo
    · rw [if_pos z1, if_neg (fun z => absurd z.1 (Int32.not_le.mpr z1)), pX8_fail, Option.bind_some, if_pos (Or.inl rfl), Option.bind_some, bad]
      exact c_bad g1 (by decide) a4
    · by_cases z2 : u_v T n p ≤ hi
      · have e9 : C1 193 9 = nI j := (a6.2 9 (by decide)).trans hj
        have hk : mX8_keep hk_E0 F C1 193 (u_v T n p) = some (1, hk_up (hk_up C1 215 j (u_v T n p)) 193 9 (nI (j + 1))) := by
          unfold mX8_keep
          rw [e9, if_neg (nI_pos (by omega)), if_neg (show ¬ (4 : Int32) ≤ nI j from nI_ge (a := j) (b := 4) hj4 (by omega)), rE_193_8 hE2, Option.bind_some, if_pos (kE_215 hE2), lE_215 hE2, if_pos (hk_okI hj4 (by omega)), nI_clamp (by omega), hk_let_eq, hk_let_eq, hk_upne _ _ _ (by decide), e9, nI_1]
        rw [if_neg z1, if_pos z2, if_pos ⟨Int32.not_lt.mp z1, z2⟩, hk, Option.bind_some, if_pos (Or.inr rfl), Option.bind_some]
        dsimp only
        refine good _ (Int32.not_lt.mp z1) z2 (k_Q_9 (k_Q_215 q1 _ _) _) (k_gC_up (k_gC_up g1 (Or.inr rfl) _ _) (Or.inl rfl) _ _) (by rw [hk_up_eq, if_pos rfl]) ?_
        rw [hk_upne _ _ _ (by decide), hk_up_self, a6.1 215 (by decide), hA]
      · rw [if_neg z1, if_neg z2, if_neg (fun z => z2 z.2), pX8_fail, Option.bind_some, if_pos (Or.inl rfl), Option.bind_some, bad]
        exact c_bad g1 (by decide) a4
  · rw [if_neg (fun z => k3 ((u_c_iff _).2.1.mp z)), if_neg k3, pX8_fail, Option.bind_some, if_pos (Or.inl rfl), Option.bind_some, bad]
    exact c_bad g1 (by decide) a4
theorem m_num {E : hk_E} {F n p x i : Nat} {T w : Nat → Int32} {M0 M : hk_S} {lo hi : Int32} {f : Int32 × hk_S → Option (Int32 × hk_S)} {K : Int32 → Nat → u_R} (hE : hk_Sh 231 E) (hF : 1000 ≤ F) (hi3 : i < 3) (h : k_P T n p x w M) (hg : k_gM M0 M)
    (bad : ∀ M', f (0, M') = some (0, M'))
    (good : ∀ M', lo ≤ u_v T n p → u_v T n p ≤ hi → k_P T n (u_e T n p) x w M' → k_gM M0 M' → M' 230 = upd (M 230) i (u_v T n p) → k_mo T n x M0 (f (1, M')) (K (u_v T n p) (u_e T n p))) :
    k_mo T n x M0 ((mX12_number E F M 221 (nI i) lo hi).bind f) (u_num T n lo hi p K) := by
  have t := h.2.2.1
  unfold mX12_number mX12_is u_num
  rw [t.2.1]
  by_cases k3 : u_k T n p = 3
  · rw [if_pos k3, if_pos k3, Option.bind_some]
    dsimp only
    rw [if_pos (show ¬ (1 : Int32) = 0 by decide), t.2.2.2 k3, pX12_in, Option.bind_some]
    dsimp only
    by_cases z : lo ≤ u_v T n p ∧ u_v T n p ≤ hi
    · obtain ⟨M', b1, b2, b3⟩ := k_P_next (E := E) (F := F) hE hF (k_P_230 h i (u_v T n p))
      have b1' : mX12_next E F (hk_up M 230 i (u_v T n p)) 221 = some M' := b1
      rw [if_pos z, if_pos (show ¬ (1 : Int32) = 0 by decide), rE_221_21 hE, Option.bind_some, if_pos (kE_230 hE), lE_230 hE, if_pos (hk_okI hi3 (by omega)), nI_clamp (by omega), hk_let_eq, if_pos z, t.2.2.2 k3, b1', Option.bind_some, Option.bind_some]
      exact good M' z.1 z.2 b2 (k_gM_fx (k_gM_230 hg _ _) b3) (by rw [b3.1 230 (by decide), hk_up_self])
    · rw [if_neg z, if_neg (fun z => z rfl), if_neg z, pX12_fail h, Option.bind_some, if_pos (Or.inl rfl), Option.bind_some, bad]
      exact m_bad hg (by decide)
  · rw [if_neg k3, if_neg k3, pX12_fail h, Option.bind_some, if_pos rfl, Option.bind_some, if_neg (fun z => z rfl), Option.bind_some, bad]
    exact m_bad hg (by decide)
