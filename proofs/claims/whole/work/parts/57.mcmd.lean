/-! the model reads each command -/
theorem k_n9 {w : Nat → Int32} (h : a_ok w) : ∃ n : Nat, n ≤ 8 ∧ w 9 = nI n := by
  have h9 := h.2.2.2.2.2.2.2.1
  exact nI_of2 (x := w 9) (M := 8) (n := 8) (by decide) (by have := h9.1; grind) h9.2
theorem k_n5 {w : Nat → Int32} (h : a_ok w) : ∃ n : Nat, n ≤ 3 ∧ w 5 = nI n := by
  have h9 := h.2.2.2.2.2.1
  exact nI_of2 (x := w 5) (M := 3) (n := 3) (by decide) (by have := h9.1; grind) h9.2
theorem k_n10 {w : Nat → Int32} (h : a_ok w) : ∃ n : Nat, n ≤ 6 ∧ w 10 = nI n := by
  have h9 := h.2.2.2.2.2.2.2.2.1
  exact nI_of2 (x := w 10) (M := 6) (n := 6) (by decide) (by have := h9.1; grind) h9.2
theorem k_m1 {x y : Int32} {n : Nat} (hy : y = nI n) (hn : n ≤ 100) (h : x ≤ y - 1) : x < y := by
  subst hy
  cases n with
  | zero => exact Int32.lt_of_le_of_lt h (by decide)
  | succ n =>
    have e : nI (n + 1) - 1 = nI n := nI_subN (a := n + 1) (b := 1) (by omega)
    rw [e] at h
    exact Int32.lt_of_le_of_lt h (nI_lt (by omega) (by omega))
theorem k_tr1 {w : Nat → Int32} {x : Int32} (h : a_ok w) (h0 : 0 ≤ x) (h1 : x ≤ w 9 - 1) : ∃ t : Nat, t < 8 ∧ x = nI t ∧ nI t < w 9 := by
  obtain ⟨n, hn, e⟩ := k_n9 h
  exact k_trough h h0 (k_m1 e (by omega) h1)
theorem k_pr1 {w : Nat → Int32} {x : Int32} (h : a_ok w) (h0 : 0 ≤ x) (h1 : x ≤ w 10 - 1) : ∃ t : Nat, t < 6 ∧ x = nI t ∧ nI t < w 10 := by
  obtain ⟨n, hn, e⟩ := k_n10 h
  exact k_probe h h0 (k_m1 e (by omega) h1)
section
variable {E : hk_E} {F n p x : Nat} {T w : Nat → Int32} {M0 M : hk_S}
theorem m_tr {f : Int32 × hk_S → Option (Int32 × hk_S)} {K : Int32 → Nat → u_R} (hE : hk_Sh 231 E) (hF : 1000 ≤ F) (h : k_P T n p x w M) (hg : k_gM M0 M)
    (bad : ∀ M', f (0, M') = some (0, M'))
    (good : ∀ M' t, t < 8 → u_v T n p = nI t → nI t < w 9 → k_P T n (u_e T n p) x w M' → k_gM M0 M' → M' 230 0 = nI t → k_mo T n x M0 (f (1, M')) (K (nI t) (u_e T n p))) :
    k_mo T n x M0 ((mX12_troughAt E F M 221 0).bind f) (u_num T n 0 (w 9 - 1) p K) := by
  have e222 := h.2.2.2.2.2.2.1
  have hw := h.2.2.2.2.2.2.2
  unfold mX12_troughAt
  rw [rE_221_0 hE, Option.bind_some, if_pos (kE_222 hE), lE_222 hE, if_pos (show hk_ok 9 107 by decide), e222, Option.bind_assoc]
  refine m_num (i := 0) hE hF (by decide) h hg (fun M' => by rw [if_pos (Or.inl rfl), Option.bind_some, bad]) (fun M' l1 l2 h1 g1 b1 => ?_)
  rw [if_pos (Or.inr rfl), Option.bind_some]
  obtain ⟨t, ht, et, hn9⟩ := k_tr1 hw l1 l2
  rw [et]
  exact good M' t ht et hn9 h1 g1 (by rw [b1, upd_at, if_pos rfl, et])
theorem m_cmd_0 (hE : hk_Sh 231 E) (hF : 1000 ≤ F) (h : k_P T n p x w M) (hg : k_gM M0 M) : k_mo T n x M0 (mX12_readsTrough E F M 221) (u_D T n w p 0) := by
  have hw := h.2.2.2.2.2.2.2
  obtain ⟨m, hm, e9⟩ := k_n9 hw
  unfold mX12_readsTrough
  simp only [u_D]
  refine m_num (i := 0) hE hF (by decide) h hg (fun _ => if_pos rfl) (fun M1 l1 l2 h1 g1 b1 => ?_)
  have e222 := h1.2.2.2.2.2.2.1
  dsimp only
  rw [if_neg (by decide), rE_221_0 hE, Option.bind_some, if_pos (kE_222 hE), lE_222 hE, if_pos (show hk_ok 9 107 by decide)] 
  simp only [e222]
  by_cases q : 8 ≤ w 9
  · rw [if_pos q]
    exact m_stop h1 g1 (by rw [if_neg (fun z => z q)]) (fun _ => if_neg (fun z => z rfl)) (fun z => absurd q z)
  · rw [if_neg q]
    refine m_stop h1 g1 (by rw [if_pos q]) (fun _ => if_neg (fun z => z rfl)) (fun _ => ?_)
    have hm8 : m < 8 := by
      apply Classical.byContradiction
      intro z
      exact q (by rw [e9]; exact (nI_leI (a := 8) (by omega) (by omega)).mpr (by omega))
    dsimp only
    rw [if_pos (show ¬ (1 : Int32) = 0 by decide), rE_221_21 hE, Option.bind_some, if_pos (kE_230 hE), lE_230 hE, if_pos (show hk_ok 0 3 by decide), b1, upd_at, if_pos rfl, pX12_builds hE (by omega) (by rw [e222]; exact e9) hm8, Option.bind_some, e222, show (w 9).toNatClampNeg = m by rw [e9]; exact nI_clamp (by omega)]
    exact m_done h1 g1 (a_ok_build hw e9 hm8 l1 l2)
theorem m_cmd_1 (hE : hk_Sh 231 E) (hF : 1000 ≤ F) (h : k_P T n p x w M) (hg : k_gM M0 M) : k_mo T n x M0 (mX12_readsLoad E F M 221) (u_D T n w p 1) := by
  have hw := h.2.2.2.2.2.2.2
  unfold mX12_readsLoad
  simp only [u_D]
  refine m_tr hE hF h hg (fun _ => if_pos rfl) (fun M1 t ht et hn9 h1 g1 b1 => ?_)
  have e222 := h1.2.2.2.2.2.2.1
  dsimp only
  rw [if_neg (by decide), rE_221_21 hE, Option.bind_some, if_pos (kE_230 hE), lE_230 hE, if_pos (show hk_ok 0 3 by decide), b1, pX12_of_0 hE ht, e222, Option.bind_some]
  have ec : (nI t).toNatClampNeg = t := nI_clamp (by omega)
  simp only [ec]
  refine m_num (i := 1) hE hF (by decide) h1 g1 (fun _ => if_pos rfl) (fun M2 l1 l2 h2 g2 b2 => ?_)
  dsimp only
  rw [if_neg (by decide)]
  refine m_num (i := 2) hE hF (by decide) h2 g2 (fun _ => if_pos rfl) (fun M3 l3 l4 h3 g3 b3 => ?_)
  have e3 := h3.2.2.2.2.2.2.1
  have v0 : M3 230 0 = nI t := by rw [b3, upd_at, if_neg (by decide), b2, upd_at, if_neg (by decide), b1]
  have v1 : M3 230 1 = u_v T n (u_e T n p) := by rw [b3, upd_at, if_neg (by decide), b2, upd_at, if_pos rfl]
  have v2 : M3 230 2 = u_v T n (u_e T n (u_e T n p)) := by rw [b3, upd_at, if_pos rfl]
  dsimp only
  rw [if_neg (by decide), if_pos (show hk_ok 0 3 by decide), v0, pX12_isEmpty hE ht, e3, Option.bind_some]
  refine m_stop h3 g3 rfl (fun _ => if_neg (fun z => z rfl)) (fun _ => ?_)
  have hc := k_cap hw ht hn9
  dsimp only
  rw [if_pos (show ¬ (1 : Int32) = 0 by decide), if_pos (show hk_ok 0 3 by decide), if_pos (show hk_ok 1 3 by decide), if_pos (show hk_ok 2 3 by decide), v0, v1, v2, pX12_loads hE ht (by rw [e3]; intro z; rw [z] at hc; exact absurd hc (by decide)), Option.bind_some, e3]
  exact m_done h3 g3 (a_ok_load hw ht hn9 l1 l2 l3 l4)
theorem m_cmd_2 (hE : hk_Sh 231 E) (hF : 1000 ≤ F) (h : k_P T n p x w M) (hg : k_gM M0 M) : k_mo T n x M0 (mX12_readsFan E F M 221) (u_D T n w p 2) := by
  have hw := h.2.2.2.2.2.2.2
  unfold mX12_readsFan
  simp only [u_D]
  refine m_tr hE hF h hg (fun _ => if_pos rfl) (fun M1 t ht et hn9 h1 g1 b1 => ?_)
  have ec : (nI t).toNatClampNeg = t := nI_clamp (by omega)
  dsimp only
  simp only [ec]
  rw [if_neg (by decide)]
  refine m_num (i := 1) hE hF (by decide) h1 g1 (fun _ => if_pos rfl) (fun M2 l1 l2 h2 g2 b2 => ?_)
  have e2 := h2.2.2.2.2.2.2.1
  have v0 : M2 230 0 = nI t := by rw [b2, upd_at, if_neg (by decide), b1]
  have v1 : M2 230 1 = u_v T n (u_e T n p) := by rw [b2, upd_at, if_pos rfl]
  dsimp only
  rw [if_neg (by decide)]
  refine m_stop h2 g2 (by rw [if_pos trivial]) (fun _ => if_neg (fun z => z rfl)) (fun _ => ?_)
  dsimp only
  rw [if_pos (show ¬ (1 : Int32) = 0 by decide), rE_221_21 hE, Option.bind_some, if_pos (kE_230 hE), lE_230 hE, if_pos (show hk_ok 0 3 by decide), if_pos (show hk_ok 1 3 by decide), v0, v1, pX12_to_1 hE ht, Option.bind_some, e2, a_fan_upd]
  exact m_done h2 g2 (a_ok_fan hw ht hn9 l1 l2)
theorem m_cmd_3 (hE : hk_Sh 231 E) (hF : 1000 ≤ F) (h : k_P T n p x w M) (hg : k_gM M0 M) : k_mo T n x M0 (mX12_readsReverse E F M 221) (u_D T n w p 3) := by
  have hw := h.2.2.2.2.2.2.2
  unfold mX12_readsReverse
  simp only [u_D]
  refine m_tr hE hF h hg (fun _ => if_pos rfl) (fun M1 t ht et hn9 h1 g1 b1 => ?_)
  have e1 := h1.2.2.2.2.2.2.1
  have ec : (nI t).toNatClampNeg = t := nI_clamp (by omega)
  dsimp only
  simp only [ec]
  rw [if_neg (by decide)]
  refine m_stop h1 g1 (by rw [if_pos trivial]) (fun _ => if_neg (fun z => z rfl)) (fun _ => ?_)
  dsimp only
  rw [if_pos (show ¬ (1 : Int32) = 0 by decide), rE_221_21 hE, Option.bind_some, if_pos (kE_230 hE), lE_230 hE, if_pos (show hk_ok 0 3 by decide), b1, pX12_turnsRound hE ht, Option.bind_some, e1]
  exact m_done h1 g1 (a_ok_rev hw ht hn9)
theorem m_set {i : Nat} {lo hi : Int32} (hi7 : i < 107) (hE : hk_Sh 231 E) (hF : 1000 ≤ F) (h : k_P T n p x w M) (hg : k_gM M0 M) (ok : ∀ y, lo ≤ y → y ≤ hi → a_ok (upd w i y)) : k_mo T n x M0 (mX12_readsSetting E F M 221 (nI i) lo hi) (u_num T n lo hi p fun a q => u_stop T n True q (upd w i a)) := by
  unfold mX12_readsSetting
  refine m_num (i := 0) hE hF (by decide) h hg (fun _ => if_pos rfl) (fun M1 l1 l2 h1 g1 b1 => ?_)
  have e1 := h1.2.2.2.2.2.2.1
  dsimp only
  rw [if_neg (by decide)]
  refine m_stop h1 g1 (by rw [if_pos trivial]) (fun _ => if_neg (fun z => z rfl)) (fun _ => ?_)
  dsimp only
  rw [if_pos (show ¬ (1 : Int32) = 0 by decide), rE_221_0 hE, Option.bind_some, if_pos (kE_222 hE), rE_221_21 hE, Option.bind_some, if_pos (kE_230 hE), lE_230 hE, if_pos (show hk_ok 0 3 by decide), lE_222 hE, if_pos (hk_okI hi7 (by omega)), nI_clamp (by omega), hk_let_eq, b1, upd_at, if_pos rfl, k_hk_up, e1]
  exact m_done h1 g1 (ok _ l1 l2)
theorem m_cmd_4 (hE : hk_Sh 231 E) (hF : 1000 ≤ F) (h : k_P T n p x w M) (hg : k_gM M0 M) : k_mo T n x M0 (mX12_readsSetting E F M 221 1 0 5) (u_D T n w p 4) :=
  m_set (i := 1) (by decide) hE hF h hg (fun _ h0 h1 => a_ok_heat h.2.2.2.2.2.2.2 h0 h1)
theorem m_cmd_5 (hE : hk_Sh 231 E) (hF : 1000 ≤ F) (h : k_P T n p x w M) (hg : k_gM M0 M) : k_mo T n x M0 (mX12_readsSetting E F M 221 2 20 95) (u_D T n w p 5) :=
  m_set (i := 2) (by decide) hE hF h hg (fun _ h0 h1 => a_ok_humid h.2.2.2.2.2.2.2 h0 h1)
theorem m_cmd_6 (hE : hk_Sh 231 E) (hF : 1000 ≤ F) (h : k_P T n p x w M) (hg : k_gM M0 M) : k_mo T n x M0 (mX12_readsMonsoon E F M 221) (u_D T n w p 6) := by
  have hw := h.2.2.2.2.2.2.2
  have e0 := h.2.2.2.2.2.2.1
  obtain ⟨m, hm, e5⟩ := k_n5 hw
  unfold mX12_readsMonsoon
  rw [rE_221_0 hE, Option.bind_some, if_pos (kE_222 hE), lE_222 hE, if_pos (show hk_ok 0 107 by decide), e0]
  simp only [u_D]
  refine m_num (i := 0) hE hF (by decide) h hg (fun _ => if_pos rfl) (fun M1 l1 l2 h1 g1 b1 => ?_)
  have e222 := h1.2.2.2.2.2.2.1
  dsimp only
  rw [if_neg (by decide), if_pos (show hk_ok 5 107 by decide)] 
  simp only [e222]
  by_cases q : 3 ≤ w 5
  · rw [if_pos q]
    exact m_stop h1 g1 (by rw [if_neg (fun z => z q)]) (fun _ => if_neg (fun z => z rfl)) (fun z => absurd q z)
  · rw [if_neg q]
    refine m_stop h1 g1 (by rw [if_pos q]) (fun _ => if_neg (fun z => z rfl)) (fun _ => ?_)
    have hm3 : m < 3 := by
      apply Classical.byContradiction
      intro z
      exact q (by rw [e5]; exact (nI_leI (a := 3) (by omega) (by omega)).mpr (by omega))
    have h0 : 0 ≤ w 0 / 24 := by
      have z := hw.1
      obtain ⟨k, hk, ek⟩ := nI_of2 (x := w 0) (M := 2000) (n := 2000) (by decide) (by have := z.1; grind) z.2
      rw [ek, show nI k / 24 = nI (k / 24) from nI_divN (b := 24) (by omega) (by omega) (by omega)]
      exact nI_pos' (by omega)
    dsimp only
    rw [if_pos (show ¬ (1 : Int32) = 0 by decide), rE_221_21 hE, Option.bind_some, if_pos (kE_230 hE), lE_230 hE, if_pos (show hk_ok 0 3 by decide), b1, upd_at, if_pos rfl, pX12_announces hE (by rw [e222]; exact e5) hm3, Option.bind_some, e222, show (w 5).toNatClampNeg = m by rw [e5]; exact nI_clamp (by omega)]
    exact m_done h1 g1 (a_ok_mon hw e5 hm3 (Int32.le_trans h0 l1) l2)
theorem m_cmd_7 (hE : hk_Sh 231 E) (hF : 1000 ≤ F) (h : k_P T n p x w M) (hg : k_gM M0 M) : k_mo T n x M0 (mX12_readsTarget E F M 221) (u_D T n w p 7) := by
  have hw := h.2.2.2.2.2.2.2
  obtain ⟨m, hm, e9⟩ := k_n9 hw
  unfold mX12_readsTarget
  simp only [u_D]
  refine m_num (i := 0) hE hF (by decide) h hg (fun _ => if_pos rfl) (fun M1 l1 l2 h1 g1 b1 => ?_)
  dsimp only
  rw [if_neg (by decide)]
  refine m_num (i := 1) hE hF (by decide) h1 g1 (fun _ => if_pos rfl) (fun M2 l3 l4 h2 g2 b2 => ?_)
  have e2 := h2.2.2.2.2.2.2.1
  have v0 : M2 230 0 = u_v T n p := by rw [b2, upd_at, if_neg (by decide), b1, upd_at, if_pos rfl]
  have v1 : M2 230 1 = u_v T n (u_e T n p) := by rw [b2, upd_at, if_pos rfl]
  dsimp only
  rw [if_neg (by decide)]
  refine m_stop h2 g2 (by rw [if_pos trivial]) (fun _ => if_neg (fun z => z rfl)) (fun _ => ?_)
  dsimp only
  rw [if_pos (show ¬ (1 : Int32) = 0 by decide), rE_221_21 hE, Option.bind_some, if_pos (kE_230 hE), lE_230 hE, if_pos (show hk_ok 0 3 by decide), if_pos (show hk_ok 1 3 by decide), v0, v1]
  have ha : mX12_aims E F M2 221 (u_v T n p) (u_v T n (u_e T n p)) = some (k_rn (a_rd (a_aim w (u_v T n p) (u_v T n (u_e T n p)))) m, va_up M2 222 (a_aim w (u_v T n p) (u_v T n (u_e T n p)))) := by
    unfold mX12_aims
    rw [rE_221_0 hE, Option.bind_some, if_pos (kE_222 hE), lE_222 hE, if_pos (show hk_ok 3 107 by decide), hk_let_eq, if_pos (show hk_ok 4 107 by decide), hk_let_eq, k_hk_up, k_hk_up, va_up_self, k_upup, e2]
    show (mX12_readyMany E F (va_up M2 222 (a_aim w (u_v T n p) (u_v T n (u_e T n p)))) 221).bind _ = _
    rw [pX12_many (n := m) hE (by omega) (by rw [va_up_self]; exact e9) hm, Option.bind_some, va_up_self]
  rw [ha, Option.bind_some]
  exact m_done h2 g2 (a_ok_aim hw l1 l2 l3 l4)
theorem m_cmd_8 (hE : hk_Sh 231 E) (hF : 1000 ≤ F) (h : k_P T n p x w M) (hg : k_gM M0 M) : k_mo T n x M0 (mX12_readsTurn E F M 221) (u_D T n w p 8) := by
  have hw := h.2.2.2.2.2.2.2
  unfold mX12_readsTurn
  simp only [u_D]
  refine m_tr hE hF h hg (fun _ => if_pos rfl) (fun M1 t ht et hn9 h1 g1 b1 => ?_)
  have e1 := h1.2.2.2.2.2.2.1
  have ec : (nI t).toNatClampNeg = t := nI_clamp (by omega)
  dsimp only
  simp only [ec]
  rw [if_neg (by decide), rE_221_21 hE, Option.bind_some, if_pos (kE_230 hE), lE_230 hE, if_pos (show hk_ok 0 3 by decide), b1, pX12_isEmpty hE ht, e1, Option.bind_some]
  dsimp only
  by_cases q : a_t w t 3 = 0
  · rw [if_pos q, if_pos (show ¬ (1 : Int32) = 0 by decide)]
    exact m_stop h1 g1 (by rw [if_neg (fun z => z q)]) (fun _ => if_neg (fun z => z rfl)) (fun z => absurd q z)
  · rw [if_neg q, if_neg (fun z => z rfl)]
    refine m_stop h1 g1 (by rw [if_pos q]) (fun _ => if_neg (fun z => z rfl)) (fun _ => ?_)
    dsimp only
    rw [if_pos (show ¬ (1 : Int32) = 0 by decide), if_pos (show hk_ok 0 3 by decide), b1, pX12_turns hE ht, Option.bind_some, e1]
    exact m_done h1 g1 (a_ok_turn hw ht hn9 q)
theorem m_cmd_9 (hE : hk_Sh 231 E) (hF : 1000 ≤ F) (h : k_P T n p x w M) (hg : k_gM M0 M) : k_mo T n x M0 (mX12_readsDischarge E F M 221) (u_D T n w p 9) := by
  have hw := h.2.2.2.2.2.2.2
  unfold mX12_readsDischarge
  simp only [u_D]
  refine m_tr hE hF h hg (fun _ => if_pos rfl) (fun M1 t ht et hn9 h1 g1 b1 => ?_)
  have e1 := h1.2.2.2.2.2.2.1
  have ec : (nI t).toNatClampNeg = t := nI_clamp (by omega)
  dsimp only
  simp only [ec]
  rw [if_neg (by decide), rE_221_21 hE, Option.bind_some, if_pos (kE_230 hE), lE_230 hE, if_pos (show hk_ok 0 3 by decide), b1, pX12_whyStays hE ht, e1, Option.bind_some]
  dsimp only
  by_cases q : t_why w (a_t w t) = 0
  · rw [if_neg (fun z => z q)]
    refine m_stop h1 g1 (by rw [if_pos q]) (fun _ => if_neg (fun z => z rfl)) (fun _ => ?_)
    dsimp only
    rw [if_pos (show ¬ (1 : Int32) = 0 by decide), if_pos (show hk_ok 0 3 by decide), b1, pX12_sends hE (by omega) ht, Option.bind_some, e1]
    exact m_done h1 g1 (a_ok_send hw ht hn9)
  · rw [if_pos q]
    exact m_stop h1 g1 (by rw [if_neg q]) (fun _ => if_neg (fun z => z rfl)) (fun z => absurd z q)
theorem m_cmd_10 (hE : hk_Sh 231 E) (hF : 1000 ≤ F) (h : k_P T n p x w M) (hg : k_gM M0 M) : k_mo T n x M0 (mX12_readsDiscard E F M 221) (u_D T n w p 10) := by
  have hw := h.2.2.2.2.2.2.2
  unfold mX12_readsDiscard
  simp only [u_D]
  refine m_tr hE hF h hg (fun _ => if_pos rfl) (fun M1 t ht et hn9 h1 g1 b1 => ?_)
  have e1 := h1.2.2.2.2.2.2.1
  have ec : (nI t).toNatClampNeg = t := nI_clamp (by omega)
  dsimp only
  simp only [ec]
  rw [if_neg (by decide), rE_221_21 hE, Option.bind_some, if_pos (kE_230 hE), lE_230 hE, if_pos (show hk_ok 0 3 by decide), b1, pX12_isEmpty hE ht, e1, Option.bind_some]
  dsimp only
  by_cases q : a_t w t 3 = 0
  · rw [if_pos q, if_pos (show ¬ (1 : Int32) = 0 by decide)]
    exact m_stop h1 g1 (by rw [if_neg (fun z => z q)]) (fun _ => if_neg (fun z => z rfl)) (fun z => absurd q z)
  · rw [if_neg q, if_neg (fun z => z rfl)]
    refine m_stop h1 g1 (by rw [if_pos q]) (fun _ => if_neg (fun z => z rfl)) (fun _ => ?_)
    dsimp only
    rw [if_pos (show ¬ (1 : Int32) = 0 by decide), if_pos (show hk_ok 0 3 by decide), b1, show mX12_empties E F M1 221 (nI t) 13 = _ from pX12_empties (i := 13) hE (by omega) ht (by decide), Option.bind_some, e1]
    exact m_done h1 g1 (a_ok_out hw ht hn9 (by decide))
theorem m_cmd_11 (hE : hk_Sh 231 E) (hF : 1000 ≤ F) (h : k_P T n p x w M) (hg : k_gM M0 M) : k_mo T n x M0 (mX12_readsProbe E F M 221) (u_D T n w p 11) := by
  have hw := h.2.2.2.2.2.2.2
  obtain ⟨m, hm, e10⟩ := k_n10 hw
  unfold mX12_readsProbe
  simp only [u_D]
  refine m_tr hE hF h hg (fun _ => if_neg (fun z => z rfl)) (fun M1 t ht et hn9 h1 g1 b1 => ?_)
  dsimp only
  rw [if_pos (show ¬ (1 : Int32) = 0 by decide)]
  refine m_two hE hF (by decide) (by decide) h1 g1 (fun _ => if_neg (fun z => z rfl)) (fun M2 b h2 g2 b2 => ?_)
  dsimp only
  rw [if_pos (show ¬ (if b = true then (1 : Int32) else 0) = -1 by cases b <;> decide)]
  refine m_two hE hF (by decide) (by decide) h2 g2 (fun _ => if_pos rfl) (fun M3 c h3 g3 b3 => ?_)
  dsimp only
  rw [if_neg (show ¬ (if c = true then (1 : Int32) else 0) = -1 by cases c <;> decide)]
  refine m_num (i := 1) hE hF (by decide) h3 g3 (fun _ => if_pos rfl) (fun M4 l1 l2 h4 g4 b4 => ?_)
  have e222 := h4.2.2.2.2.2.2.1
  have v0 : M4 230 0 = nI t := by rw [b4, upd_at, if_neg (by decide), b3, b2, b1]
  have v1 : M4 230 1 = u_v T n (u_e T n (u_e T n (u_e T n p))) := by rw [b4, upd_at, if_pos rfl]
  dsimp only
  rw [if_neg (by decide), rE_221_0 hE, Option.bind_some, if_pos (kE_222 hE), lE_222 hE, if_pos (show hk_ok 10 107 by decide)] 
  simp only [e222]
  by_cases q : 6 ≤ w 10
  · rw [if_pos q]
    exact m_stop h4 g4 (by rw [if_neg (fun z => z q)]) (fun _ => if_neg (fun z => z rfl)) (fun z => absurd q z)
  · rw [if_neg q]
    refine m_stop h4 g4 (by rw [if_pos q]) (fun _ => if_neg (fun z => z rfl)) (fun _ => ?_)
    have hm6 : m < 6 := by
      apply Classical.byContradiction
      intro z
      exact q (by rw [e10]; exact (nI_leI (a := 6) (by omega) (by omega)).mpr (by omega))
    have hb : (if b = true then (1 : Int32) else 0) = 0 ∨ (if b = true then (1 : Int32) else 0) = 1 := by cases b <;> decide
    dsimp only
    rw [if_pos (show ¬ (1 : Int32) = 0 by decide), rE_221_21 hE, Option.bind_some, if_pos (kE_230 hE), lE_230 hE, if_pos (show hk_ok 0 3 by decide), if_pos (show hk_ok 1 3 by decide), v0, v1, show (w 10).toNatClampNeg = m by rw [e10]; exact nI_clamp (by omega)]
    generalize u_v T n (u_e T n (u_e T n (u_e T n p))) = z at *
    have hz : -50 ≤ -z ∧ -z ≤ 50 := ⟨by grind, by grind⟩
    have hz2 : -50 ≤ z ∧ z ≤ 50 := ⟨by grind, by grind⟩
    cases c with
    | false =>
      rw [if_pos (show ¬ (if false = true then (1 : Int32) else 0) = 1 by decide), pX12_puts hE (by rw [e222]; exact e10) hm6, Option.bind_some, e222]
      exact m_done h4 g4 (a_ok_put hw e10 hm6 ⟨nI_pos' (by omega), hn9⟩ hb hz2)
    | true =>
      rw [if_neg (show ¬ ¬ (if true = true then (1 : Int32) else 0) = 1 by decide), pX12_puts hE (by rw [e222]; exact e10) hm6, Option.bind_some, e222]
      exact m_done h4 g4 (a_ok_put hw e10 hm6 ⟨nI_pos' (by omega), hn9⟩ hb hz)
theorem m_cmd_12 (hE : hk_Sh 231 E) (hF : 1000 ≤ F) (h : k_P T n p x w M) (hg : k_gM M0 M) : k_mo T n x M0 (mX12_readsCalibrate E F M 221) (u_D T n w p 12) := by
  have hw := h.2.2.2.2.2.2.2
  have e0 := h.2.2.2.2.2.2.1
  unfold mX12_readsCalibrate
  rw [rE_221_0 hE, Option.bind_some, if_pos (kE_222 hE), lE_222 hE, if_pos (show hk_ok 10 107 by decide), e0]
  simp only [u_D]
  refine m_num (i := 0) hE hF (by decide) h hg (fun _ => if_pos rfl) (fun M1 l1 l2 h1 g1 b1 => ?_)
  have e1 := h1.2.2.2.2.2.2.1
  obtain ⟨t, ht, et, hn⟩ := k_pr1 hw l1 l2
  have ec : (nI t).toNatClampNeg = t := nI_clamp (by omega)
  rw [et] at b1 ⊢
  simp only [ec]
  rw [if_neg (by decide)]
  refine m_stop h1 g1 (by rw [if_pos trivial]) (fun _ => if_neg (fun z => z rfl)) (fun _ => ?_)
  have v0 : M1 230 0 = nI t := by rw [b1, upd_at, if_pos rfl]
  have ei : (89 : Int32) + 3 * nI t + 2 = nI (89 + 3 * t + 2) := k_idp t 2
  dsimp only
  rw [if_pos (show ¬ (1 : Int32) = 0 by decide), rE_221_21 hE, Option.bind_some, if_pos (kE_230 hE), lE_230 hE, if_pos (show hk_ok 0 3 by decide)]
  simp only [v0, ei]
  rw [if_pos (hk_okI (show 89 + 3 * t + 2 < 107 by omega) (by omega)), nI_clamp (by omega), hk_let_eq, k_hk_up, e1]
  exact m_done h1 g1 (a_ok_cal hw ht)
theorem m_cmd_13 (hE : hk_Sh 231 E) (hF : 2000 ≤ F) (h : k_P T n p x w M) (hg : k_gM M0 M) : k_mo T n x M0 (mX12_readsHours E F M 221) (u_D T n w p 13) := by
  have hw := h.2.2.2.2.2.2.2
  unfold mX12_readsHours
  simp only [u_D]
  refine m_num (i := 0) hE (by omega) (by decide) h hg (fun _ => if_pos rfl) (fun M1 l1 l2 h1 g1 b1 => ?_)
  have e222 := h1.2.2.2.2.2.2.1
  have v0 : M1 230 0 = u_v T n p := by rw [b1, upd_at, if_pos rfl]
  dsimp only
  rw [if_neg (by decide), rE_221_0 hE, Option.bind_some, if_pos (kE_222 hE), lE_222 hE, if_pos (show hk_ok 0 107 by decide), rE_221_21 hE, Option.bind_some, if_pos (kE_230 hE), lE_230 hE, if_pos (show hk_ok 0 3 by decide)]
  simp only [v0, e222]
  obtain ⟨d, hd, ed⟩ := nI_of2 (x := u_v T n p) (M := 200) (n := 200) (by decide) (by generalize u_v T n p = z at *; grind) l2
  rw [ed] at v0 l1 l2 ⊢
  by_cases q : 2000 < w 0 + nI d
  · rw [if_pos q]
    exact m_stop h1 g1 (by rw [if_neg (fun z => z q)]) (fun _ => if_neg (fun z => z rfl)) (fun z => absurd q z)
  · rw [if_neg q]
    refine m_stop h1 g1 (by rw [if_pos q]) (fun _ => if_neg (fun z => z rfl)) (fun _ => ?_)
    have q3 : w 0 ≤ 2000 - nI d := by
      have z := hw.1
      generalize w 0 = y at *
      generalize nI d = u at *
      grind
    dsimp only
    rw [if_pos (show ¬ (1 : Int32) = 0 by decide), if_pos (show hk_ok 0 3 by decide), v0, pX12_passes hE (by omega) (by omega) (by rw [e222]; exact hw) (by rw [e222]; exact q3), Option.bind_some, e222, show (nI d).toNatClampNeg = d from nI_clamp (by omega)]
    exact m_done h1 g1 (a_pass_ok d hw (by omega) q3).1
end
