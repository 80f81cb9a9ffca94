/-! a word on both sides; opening and closing a repeat -/
def k_out (T : Nat → Int32) (n F d p e B1 B2 : Nat) (C M : hk_S) (rm : Option (Int32 × hk_S)) : Prop :=
  (∃ (C' M' : hk_S) (q x' : Nat) (w' : Nat → Int32) (s : Nat), rm = some (1, M') ∧ s ≤ B1 ∧ u_e T n q = e ∧ p < e ∧ e ≤ n ∧ k_Q T n e x' d w' C' ∧ k_P T n q x' w' M' ∧ x' ≤ 200 ∧ k_gC d C C' ∧ k_gM M M' ∧ ∀ (K : hk_S → Int32 → Int32 → Option (Int32 × hk_S)) (f z : Nat), z + s ≤ 1000000 → mX8_run_52 hk_E0 F 193 K (f + s) C 1 (nI z) = mX8_run_52 hk_E0 F 193 K f C' 1 (nI (z + s)))
  ∨ (∃ (C' M' : hk_S) (k : Int32) (o s : Nat), rm = some (0, M') ∧ s ≤ B2 ∧ ¬ k = 0 ∧ C' 193 2 = k ∧ C' 193 3 = nI o ∧ M' 221 11 = k ∧ M' 221 12 = nI o ∧ k_gC 0 C C' ∧ k_gM M M' ∧ ∀ (K : hk_S → Int32 → Int32 → Option (Int32 × hk_S)) (f z : Nat), z + s ≤ 1000000 → mX8_run_52 hk_E0 F 193 K (f + s) C 1 (nI z) = mX8_run_52 hk_E0 F 193 K f C' 0 (nI (z + s)))
theorem k_join {T : Nat → Int32} {n F d p e x : Nat} {C M : hk_S} {rc rm : Option (Int32 × hk_S)} {D : u_R} (hc : k_co T n d x C rc D) (hm : k_mo T n (x + 1) M rm D) (st : ∀ (K : hk_S → Int32 → Int32 → Option (Int32 × hk_S)) (f z : Nat), z + 1 ≤ 1000000 → mX8_run_52 hk_E0 F 193 K (f + 1) C 1 (nI z) = rc.bind (fun r => mX8_run_52 hk_E0 F 193 K f r.2 r.1 (nI (z + 1)))) (he : ∀ w' q, D = .inr (w', q) → u_e T n q = e ∧ p < e ∧ e ≤ n ∧ x + 1 ≤ 200) : k_out T n F d p e 1 1 C M rm := by
  rcases D with ⟨k, o⟩ | ⟨w', q⟩
  · obtain ⟨C', c1, c2, c3, c4, c5⟩ := hc
    obtain ⟨M', m1, m2, m3, m4, m5⟩ := hm
    exact Or.inr ⟨C', M', k, o, 1, m1, Nat.le_refl _, c3, c4, c5, m4, m5, k_gC_le c2 (by omega), m2, fun K f z hz => by rw [st K f z hz, c1, Option.bind_some]⟩
  · obtain ⟨C', c1, c2, c3⟩ := hc
    obtain ⟨M', m1, m2, m3⟩ := hm
    obtain ⟨e1, e2, e3, e4⟩ := he w' q rfl
    rw [e1] at c3
    exact Or.inl ⟨C', M', q, x + 1, w', 1, m1, Nat.le_refl _, e1, e2, e3, c3, m3, e4, c2, m2, fun K f z hz => by rw [st K f z hz, c1, Option.bind_some]⟩
def u_word (T : Nat → Int32) (n p : Nat) : Nat := u_e T n (u_it T n (u_ops (u_cmd T n p).toNatClampNeg) (u_e T n p))
theorem k_mo_x {T : Nat → Int32} {n x y : Nat} {M0 : hk_S} {r : Option (Int32 × hk_S)} {k : Int32} {o : Nat} (h : k_mo T n x M0 r (.inl (k, o))) : k_mo T n y M0 r (.inl (k, o)) := h
theorem k_P_20 {T : Nat → Int32} {n p x : Nat} {w : Nat → Int32} {M : hk_S} (h : k_P T n p x w M) : k_P T n p (x + 1) w (hk_up M 221 20 (M 221 20 + 1)) := by
  obtain ⟨h1, h2, ⟨t1, t2, t3, t4⟩, h4, h5, h6, h7, h8⟩ := h
  exact ⟨⟨h1.1, by rw [hk_up_eq, if_neg (by decide)]; exact h1.2.1, fun j hj => by rw [hk_upne _ _ _ (by decide)]; exact h1.2.2 j hj⟩, h2, ⟨by rw [hk_up_eq, if_neg (by decide)]; exact t1, by rw [hk_up_eq, if_neg (by decide)]; exact t2, by rw [hk_up_eq, if_neg (by decide)]; exact t3, by rw [hk_up_eq, if_neg (by decide)]; exact t4⟩, by rw [hk_up_eq, if_pos rfl, h4, nI_1], by rw [hk_up_eq, if_neg (by decide)]; exact h5, by rw [hk_up_eq, if_neg (by decide)]; exact h6, by rw [hk_upne _ _ _ (by decide)]; exact h7, h8⟩
theorem k_word {F n p x d : Nat} {T w : Nat → Int32} {C M : hk_S} {rr : hk_S → Nat → Int32 → Option (Int32 × hk_S)} (hF : 2000 ≤ F) (hd : d < 3) (h : k_Q T n p x d w C) (hm : k_P T n p x w M) (hx : x ≤ 200) (n0 : ¬ (d = 0 ∧ u_k T n p = 0)) (n5 : ¬ (0 < d ∧ u_k T n p = 5)) (h14 : ¬ u_cmd T n p = 14) : k_out T n F d p (u_word T n p) 1 1 C M (mX12_readsCommand hk_E0 F rr M 221 (nI d)) := by
  obtain ⟨C1, a1, a2, a3, a4, a5, a6⟩ := pX8_readToken (F := F) (by omega) h.1 h.2.1 h.2.2.1
  have q1 := k_Q_tok h a6 a2
  have g1 : k_gC d C C1 := k_gC_fx (k_gC_refl d C) a6
  have tok : k_tok T n p C1 := ⟨a2, a3, a4, a5⟩
  have st := fun (K : hk_S → Int32 → Int32 → Option (Int32 × hk_S)) (f z : Nat) (hz : z + 1 ≤ 1000000) => k_step (K := K) (f := f) a1 a3 q1.2.2.2.2.1 hd (show z < 1000000 by omega) n0 n5
  have ch := pX8_commandHere (F := F) (by omega) h.2.1 q1.1 tok
  have wa := pX12_wordAhead (F := F) hE1 (by omega) hm.2.1 hm.1 hm.2.2.1
  have he := u_e_ge T h.2.1
  rcases u_cmd_cases T n p with e | ⟨c, hc, e, k2⟩
  · have hrc : mX8_runCommand hk_E0 F C1 193 = some (0, hk_up (hk_up C1 193 2 1) 193 3 (C1 193 6)) := by
      unfold mX8_runCommand
      rw [ch, Option.bind_some, e]
      dsimp only
      rw [if_neg (show ¬ ¬ (-1 : Int32) < 0 by decide), pX8_fail, Option.bind_some, if_pos (Or.inl rfl)]
    have hrm : mX12_readsCommand hk_E0 F rr M 221 (nI d) = some (0, hk_up (hk_up M 221 11 1) 221 12 (nI (u_s T n p))) := by
      unfold mX12_readsCommand
      rw [wa, Option.bind_some, e]
      dsimp only
      rw [if_neg (show ¬ ¬ (-1 : Int32) = -1 by decide), pX12_fail hm, Option.bind_some, if_pos (Or.inl rfl)]
    rw [hrm]
    exact k_join (x := x) (c_bad g1 (by decide) a4) (m_bad (k_gM_refl M) (by decide)) (fun K f z hz => by rw [st K f z hz, hrc]) (fun w' q z => absurd z (by simp))
  · have hc14 : ¬ nI c = 14 := by rw [← e]; exact h14
    have hcl : c < 14 := by
      apply Classical.byContradiction
      intro z
      exact hc14 (by rw [show c = 14 by omega]; decide)
    have hcm : ¬ nI c = -1 := fun z => absurd (show nI c < 0 by rw [z]; decide) (nI_pos (by omega))
    have hS3 : k_Q T n (u_e T n p) x d w (hk_up C1 193 9 0) := k_Q_9 q1 _
    have g3 : k_gC d C (hk_up C1 193 9 0) := k_gC_up g1 (Or.inl rfl) _ _
    by_cases hx2 : x = 200
    · have hrc : mX8_runCommand hk_E0 F C1 193 = some (0, hk_up (hk_up (hk_up C1 193 9 0) 193 2 5) 193 3 ((hk_up C1 193 9 0) 193 6)) := by
        unfold mX8_runCommand
        rw [ch, Option.bind_some, e]
        dsimp only
        rw [if_pos (nI_pos (by omega)), hk_let_eq, if_pos (show hk_ec (nI c) 15 from Or.inr (hk_okI hc (by omega))), if_pos hc14, hS3.2.2.2.1, if_neg (show ¬ nI x < 200 by subst hx2; decide), pX8_fail, Option.bind_some, if_pos (Or.inl rfl)]
      have hrm : mX12_readsCommand hk_E0 F rr M 221 (nI d) = some (0, hk_up (hk_up M 221 11 5) 221 12 (nI (u_s T n p))) := by
        unfold mX12_readsCommand
        rw [wa, Option.bind_some, e]
        dsimp only
        rw [if_pos hcm, if_pos hc14, if_neg (show ¬ ¬ M 221 20 = 200 by rw [hm.2.2.2.1]; subst hx2; decide), pX12_fail hm, Option.bind_some, if_pos (Or.inl rfl)]
      rw [hrm]
      exact k_join (x := x) (c_bad g3 (by decide) (by rw [hk_up_eq, if_neg (by decide)]; exact a4)) (m_bad (k_gM_refl M) (by decide)) (fun K f z hz => by rw [st K f z hz, hrc]) (fun w' q z => absurd z (by simp))
    · have hrc : mX8_runCommand hk_E0 F C1 193 = (mX8_readOperands hk_E0 F (hk_up C1 193 9 0) 193 (nI c)).bind (k_tail F (nI c)) := by
        unfold mX8_runCommand
        rw [ch, Option.bind_some, e]
        dsimp only
        rw [if_pos (nI_pos (by omega)), hk_let_eq, if_pos (show hk_ec (nI c) 15 from Or.inr (hk_okI hc (by omega))), if_pos hc14, hS3.2.2.2.1, if_pos (show nI x < 200 from nI_lt (b := 200) (by omega) (by omega))]
        rfl
      obtain ⟨M2, b1, b2, b3⟩ := k_P_next (F := F) hE1 (by omega) (k_P_20 hm)
      have g2 : k_gM M M2 := k_gM_fx (k_gM_up (k_gM_refl M) (by decide) _) b3
      have hrm : mX12_readsCommand hk_E0 F rr M 221 (nI d) = (mX12_readsWord hk_E0 F M2 221 (nI c)).bind (fun r7 => if r7.1 = 0 ∨ r7.1 = 1 then some (r7.1, r7.2) else none) := by
        unfold mX12_readsCommand
        rw [wa, Option.bind_some, e]
        dsimp only
        rw [if_pos hcm, if_pos hc14, if_pos (show ¬ M 221 20 = 200 by rw [hm.2.2.2.1]; exact fun z => hx2 ((nI_eq (b := 200) (by omega) (by omega)).mp z)), hk_let_eq, b1, Option.bind_some]
      rw [hrm]
      refine k_join (x := x) (c_cmd hcl hF hS3 g3 (by rw [hk_up_eq, if_pos rfl]; rfl)) (k_mo_wrap (m_cmd hcl hE1 hF b2 g2)) (fun K f z hz => by rw [st K f z hz, hrc]) (fun w' q z => ?_)
      have eq := u_D_end hcl z
      have ew : u_word T n p = u_e T n q := by
        unfold u_word
        rw [e, nI_clamp (by omega), eq]
      have h1 := u_it_ge T n (u_ops c) (u_e T n p) he.2.1
      rw [eq] at h1
      have h2 := u_e_ge T h1.2
      have h3 := u_s_ge T h1.2
      have h4 := u_s_ge T h.2.1
      have h5 := he.2.2 (u_k_lt (by rw [k2]; decide))
      exact ⟨ew.symm, by rw [ew]; omega, by rw [ew]; exact h2.2.1, by omega⟩
def u_nk (T : Nat → Int32) (n p : Nat) : Int32 := if u_k T n p = 3 then 2 else 1
theorem u_nk_ne (T : Nat → Int32) (n p : Nat) : ¬ u_nk T n p = 0 := by
  unfold u_nk
  by_cases h : u_k T n p = 3
  · rw [if_pos h]; decide
  · rw [if_neg h]; decide
def u_nok (T : Nat → Int32) (n p : Nat) (lo hi : Int32) : Prop := u_k T n p = 3 ∧ lo ≤ u_v T n p ∧ u_v T n p ≤ hi
theorem c_numX {F n p x d j : Nat} {T w : Nat → Int32} {C : hk_S} {lo hi : Int32} (hF : 1000 ≤ F) (h : k_Q T n p x d w C) (hj : C 193 9 = nI j) (hj4 : j < 4) :
    (u_nok T n p lo hi → ∃ C', mX8_readNumber hk_E0 F C 193 lo hi = some (1, C') ∧ k_Q T n (u_e T n p) x d w C' ∧ k_gC 3 C C' ∧ C' 215 = upd (C 215) j (u_v T n p)) ∧ (¬ u_nok T n p lo hi → ∃ C', mX8_readNumber hk_E0 F C 193 lo hi = some (0, C') ∧ k_gC 3 C C' ∧ C' 193 2 = u_nk T n p ∧ C' 193 3 = nI (u_s T n p)) := by
  obtain ⟨C1, a1, a2, a3, a4, a5, a6⟩ := pX8_readToken hF h.1 h.2.1 h.2.2.1
  have g1 := k_gC_fx (k_gC_refl 3 C) a6
  have q1 := k_Q_tok h a6 a2
  have e9 : C1 193 9 = nI j := (a6.2 9 (by decide)).trans hj
  have e2 : ∀ k : Int32, (hk_up (hk_up C1 193 2 k) 193 3 (C1 193 6)) 193 2 = k := fun k => by rw [hk_up_eq, if_neg (by decide), hk_up_eq, if_pos rfl]
  have e3 : ∀ k : Int32, (hk_up (hk_up C1 193 2 k) 193 3 (C1 193 6)) 193 3 = nI (u_s T n p) := fun k => by rw [hk_up_eq, if_pos rfl, a4]
  have ge : ∀ k : Int32, k_gC 3 C (hk_up (hk_up C1 193 2 k) 193 3 (C1 193 6)) := fun k => k_gC_up (k_gC_up g1 (Or.inl rfl) _ _) (Or.inl rfl) _ _
  unfold mX8_readNumber u_nok u_nk
  rw [a1, Option.bind_some, a3, if_pos (u_c_ec _)]
  by_cases k3 : u_k T n p = 3
  · rw [if_pos ((u_c_iff _).2.1.mpr k3), a5 k3, if_pos k3]
    by_cases z1 : u_v T n p < lo
    · rw [if_pos z1, pX8_fail, Option.bind_some, if_pos (Or.inl rfl)]
      exact ⟨fun z => absurd z.2.1 (Int32.not_le.mpr z1), fun _ => ⟨_, rfl, ge 2, e2 2, e3 2⟩⟩
    · rw [if_neg z1]
      by_cases z2 : u_v T n p ≤ hi
      · rw [if_pos z2, pX8_keep e9 hj4, Option.bind_some, if_pos (Or.inr rfl)]
        exact ⟨fun _ => ⟨_, rfl, k_Q_9 (k_Q_215 q1 _ _) _, k_gC_up (k_gC_up g1 (Or.inr rfl) _ _) (Or.inl rfl) _ _, by dsimp only; rw [hk_upne _ _ _ (by decide), hk_up_self, a6.1 215 (by decide)]⟩, fun z => absurd ⟨k3, Int32.not_lt.mp z1, z2⟩ z⟩
      · rw [if_neg z2, pX8_fail, Option.bind_some, if_pos (Or.inl rfl)]
        exact ⟨fun z => absurd z.2.2 z2, fun _ => ⟨_, rfl, ge 2, e2 2, e3 2⟩⟩
  · rw [if_neg (fun z => k3 ((u_c_iff _).2.1.mp z)), pX8_fail, Option.bind_some, if_pos (Or.inl rfl), if_neg k3]
    exact ⟨fun z => absurd z.1 k3, fun _ => ⟨_, rfl, ge 1, e2 1, e3 1⟩⟩
theorem m_numX {E : hk_E} {F n p x i : Nat} {T w : Nat → Int32} {M : hk_S} {lo hi : Int32} (hE : hk_Sh 231 E) (hF : 1000 ≤ F) (hi3 : i < 3) (h : k_P T n p x w M) :
    (u_nok T n p lo hi → ∃ M', mX12_number E F M 221 (nI i) lo hi = some (1, M') ∧ k_P T n (u_e T n p) x w M' ∧ k_gM M M' ∧ M' 230 = upd (M 230) i (u_v T n p)) ∧ (¬ u_nok T n p lo hi → ∃ M', mX12_number E F M 221 (nI i) lo hi = some (0, M') ∧ k_gM M M' ∧ M' 221 11 = u_nk T n p ∧ M' 221 12 = nI (u_s T n p)) := by
  have t := h.2.2.1
  have e2 : ∀ k : Int32, (hk_up (hk_up M 221 11 k) 221 12 (nI (u_s T n p))) 221 11 = k := fun k => by rw [hk_up_eq, if_neg (by decide), hk_up_eq, if_pos rfl]
  have e3 : ∀ k : Int32, (hk_up (hk_up M 221 11 k) 221 12 (nI (u_s T n p))) 221 12 = nI (u_s T n p) := fun k => by rw [hk_up_eq, if_pos rfl]
  have ge : ∀ k : Int32, k_gM M (hk_up (hk_up M 221 11 k) 221 12 (nI (u_s T n p))) := fun k => k_gM_up (k_gM_up (k_gM_refl M) (by decide) _) (by decide) _
  unfold mX12_number mX12_is u_nok u_nk
  rw [t.2.1]
  by_cases k3 : u_k T n p = 3
  · rw [if_pos k3, if_pos k3, Option.bind_some]
    dsimp only
    rw [if_pos (show ¬ (1 : Int32) = 0 by decide), t.2.2.2 k3, pX12_in, Option.bind_some]
    dsimp only
    by_cases z : lo ≤ u_v T n p ∧ u_v T n p ≤ hi
    · obtain ⟨M', b1, b2, b3⟩ := k_P_next (E := E) (F := F) hE hF (k_P_230 h i (u_v T n p))
      rw [if_pos z, if_pos (show ¬ (1 : Int32) = 0 by decide), rE_221_21 hE, Option.bind_some, if_pos (kE_230 hE), lE_230 hE, if_pos (hk_okI hi3 (by omega)), nI_clamp (by omega), hk_let_eq, t.2.2.2 k3, b1, Option.bind_some]
      exact ⟨fun _ => ⟨M', rfl, b2, k_gM_fx (k_gM_230 (k_gM_refl M) _ _) b3, by rw [b3.1 230 (by decide), hk_up_self]⟩, fun q => absurd ⟨k3, z⟩ q⟩
    · rw [if_neg z, if_neg (fun z => z rfl), pX12_fail h, Option.bind_some, if_pos (Or.inl rfl)]
      exact ⟨fun q => absurd q.2 z, fun _ => ⟨_, rfl, ge 2, e2 2, e3 2⟩⟩
  · rw [if_neg k3, if_neg k3, pX12_fail h, Option.bind_some, if_pos rfl, Option.bind_some, if_neg (fun z => z rfl)]
    exact ⟨fun q => absurd q.1 k3, fun _ => ⟨_, rfl, ge 1, e2 1, e3 1⟩⟩
