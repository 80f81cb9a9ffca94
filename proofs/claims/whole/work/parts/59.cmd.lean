/-! one command on both sides-/
theorem u_num_inr {T : Nat → Int32} {n p : Nat} {lo hi : Int32} {K : Int32 → Nat → u_R} {r : (Nat → Int32) × Nat} (h : u_num T n lo hi p K = .inr r) : K (u_v T n p) (u_e T n p) = .inr r := by
  unfold u_num at h
  by_cases k : u_k T n p = 3
  · rw [if_pos k] at h
    by_cases z : lo ≤ u_v T n p ∧ u_v T n p ≤ hi
    · rw [if_pos z] at h
      exact h
    · rw [if_neg z] at h
      exact absurd h (by simp)
  · rw [if_neg k] at h
    exact absurd h (by simp)
theorem u_two_inr {T : Nat → Int32} {n p i j : Nat} {K : Bool → Nat → u_R} {r : (Nat → Int32) × Nat} (h : u_two T n i j p K = .inr r) : ∃ b, K b (u_e T n p) = .inr r := by
  unfold u_two at h
  by_cases k : u_says T n p i = true
  · rw [if_pos k] at h
    exact ⟨_, h⟩
  · rw [if_neg k] at h
    by_cases k2 : u_says T n p j = true
    · rw [if_pos k2] at h
      exact ⟨_, h⟩
    · rw [if_neg k2] at h
      exact absurd h (by simp)
theorem u_stop_inr {T : Nat → Int32} {n p q : Nat} {c : Prop} [Decidable c] {w w' : Nat → Int32} (h : u_stop T n c p w = .inr (w', q)) : p = q := by
  unfold u_stop at h
  by_cases k : u_k T n p = 1
  · rw [if_pos k] at h
    by_cases k2 : c
    · rw [if_pos k2] at h
      injection h with h
      injection h
    · rw [if_neg k2] at h
      exact absurd h (by simp)
  · rw [if_neg k] at h
    exact absurd h (by simp)
def u_it (T : Nat → Int32) (n : Nat) : Nat → Nat → Nat
  | 0, p => p
  | k + 1, p => u_it T n k (u_e T n p)
def u_ops : Nat → Nat
  | 0 => 1
  | 1 => 3
  | 2 => 2
  | 7 => 2
  | 11 => 4
  | _ => 1
theorem u_it_ge (T : Nat → Int32) (n : Nat) : ∀ k p, p ≤ n → p ≤ u_it T n k p ∧ u_it T n k p ≤ n := by
  intro k
  induction k with
  | zero => intro p h; exact ⟨Nat.le_refl _, h⟩
  | succ k ih =>
    intro p h
    have h1 := u_s_ge T h
    have h2 := u_e_ge T h
    have h3 := ih (u_e T n p) h2.2.1
    rw [u_it]
    omega
theorem u_D_end {T : Nat → Int32} {n p q c : Nat} {w w' : Nat → Int32} (hc : c < 14) (h : u_D T n w p c = .inr (w', q)) : u_it T n (u_ops c) p = q := by
  match c, hc with
  | 0, _ =>
    simp only [u_D] at h
    exact u_stop_inr (u_num_inr h)
  | 1, _ =>
    simp only [u_D] at h
    exact u_stop_inr (u_num_inr (u_num_inr (u_num_inr h)))
  | 2, _ =>
    simp only [u_D] at h
    exact u_stop_inr (u_num_inr (u_num_inr h))
  | 3, _ =>
    simp only [u_D] at h
    exact u_stop_inr (u_num_inr h)
  | 4, _ =>
    simp only [u_D] at h
    exact u_stop_inr (u_num_inr h)
  | 5, _ =>
    simp only [u_D] at h
    exact u_stop_inr (u_num_inr h)
  | 6, _ =>
    simp only [u_D] at h
    exact u_stop_inr (u_num_inr h)
  | 7, _ =>
    simp only [u_D] at h
    exact u_stop_inr (u_num_inr (u_num_inr h))
  | 8, _ =>
    simp only [u_D] at h
    exact u_stop_inr (u_num_inr h)
  | 9, _ =>
    simp only [u_D] at h
    exact u_stop_inr (u_num_inr h)
  | 10, _ =>
    simp only [u_D] at h
    exact u_stop_inr (u_num_inr h)
  | 11, _ =>
    simp only [u_D] at h
    obtain ⟨b, h2⟩ := u_two_inr (u_num_inr h)
    obtain ⟨b2, h3⟩ := u_two_inr h2
    exact u_stop_inr (u_num_inr h3)
  | 12, _ =>
    simp only [u_D] at h
    exact u_stop_inr (u_num_inr h)
  | 13, _ =>
    simp only [u_D] at h
    exact u_stop_inr (u_num_inr h)
  | k + 14, hk => exact absurd hk (by omega)
theorem k_mo_wrap {T : Nat → Int32} {n x : Nat} {M0 : hk_S} {r : Option (Int32 × hk_S)} {D : u_R} (h : k_mo T n x M0 r D) : k_mo T n x M0 (r.bind (fun r2 => if r2.1 = 0 ∨ r2.1 = 1 then some (r2.1, r2.2) else none)) D := by
  rcases D with ⟨k, o⟩ | ⟨w', q⟩
  · obtain ⟨M', h1, h2⟩ := h
    exact ⟨M', by rw [h1, Option.bind_some, if_pos (Or.inl rfl)], h2⟩
  · obtain ⟨M', h1, h2⟩ := h
    exact ⟨M', by rw [h1, Option.bind_some, if_pos (Or.inr rfl)], h2⟩
theorem c_cmd {F n p x d c : Nat} {T w : Nat → Int32} {C0 C : hk_S} (hc : c < 14) (hF : 2000 ≤ F) (h : k_Q T n p x d w C) (hg : k_gC d C0 C) (h9 : C 193 9 = nI 0) : k_co T n d x C0 ((mX8_readOperands hk_E0 F C 193 (nI c)).bind (k_tail F (nI c))) (u_D T n w p c) := by
  match c, hc with
  | 0, _ => exact c_cmd_0 hF h hg h9
  | 1, _ => exact c_cmd_1 hF h hg h9
  | 2, _ => exact c_cmd_2 hF h hg h9
  | 3, _ => exact c_cmd_3 hF h hg h9
  | 4, _ => exact c_cmd_4 hF h hg h9
  | 5, _ => exact c_cmd_5 hF h hg h9
  | 6, _ => exact c_cmd_6 hF h hg h9
  | 7, _ => exact c_cmd_7 hF h hg h9
  | 8, _ => exact c_cmd_8 hF h hg h9
  | 9, _ => exact c_cmd_9 hF h hg h9
  | 10, _ => exact c_cmd_10 hF h hg h9
  | 11, _ => exact c_cmd_11 hF h hg h9
  | 12, _ => exact c_cmd_12 hF h hg h9
  | 13, _ => exact c_cmd_13 hF h hg h9
  | k + 14, hk => exact absurd hk (by omega)
theorem m_cmd {E : hk_E} {F n p x c : Nat} {T w : Nat → Int32} {M0 M : hk_S} (hc : c < 14) (hE : hk_Sh 231 E) (hF : 2000 ≤ F) (h : k_P T n p x w M) (hg : k_gM M0 M) : k_mo T n x M0 (mX12_readsWord E F M 221 (nI c)) (u_D T n w p c) := by
  unfold mX12_readsWord
  match c, hc with
  | 0, _ =>
    rw [if_pos (show nI 0 = 0 by decide)]
    exact k_mo_wrap (m_cmd_0 hE (by omega) h hg)
  | 1, _ =>
    rw [if_neg (show ¬ nI 1 = 0 by decide), if_pos (show nI 1 = 1 by decide)]
    exact k_mo_wrap (m_cmd_1 hE (by omega) h hg)
  | 2, _ =>
    rw [if_neg (show ¬ nI 2 = 0 by decide), if_neg (show ¬ nI 2 = 1 by decide), if_pos (show nI 2 = 2 by decide)]
    exact k_mo_wrap (m_cmd_2 hE (by omega) h hg)
  | 3, _ =>
    rw [if_neg (show ¬ nI 3 = 0 by decide), if_neg (show ¬ nI 3 = 1 by decide), if_neg (show ¬ nI 3 = 2 by decide), if_pos (show nI 3 = 3 by decide)]
    exact k_mo_wrap (m_cmd_3 hE (by omega) h hg)
  | 4, _ =>
    rw [if_neg (show ¬ nI 4 = 0 by decide), if_neg (show ¬ nI 4 = 1 by decide), if_neg (show ¬ nI 4 = 2 by decide), if_neg (show ¬ nI 4 = 3 by decide), if_pos (show nI 4 = 4 by decide)]
    exact k_mo_wrap (m_cmd_4 hE (by omega) h hg)
  | 5, _ =>
    rw [if_neg (show ¬ nI 5 = 0 by decide), if_neg (show ¬ nI 5 = 1 by decide), if_neg (show ¬ nI 5 = 2 by decide), if_neg (show ¬ nI 5 = 3 by decide), if_neg (show ¬ nI 5 = 4 by decide), if_pos (show nI 5 = 5 by decide)]
    exact k_mo_wrap (m_cmd_5 hE (by omega) h hg)
  | 6, _ =>
    rw [if_neg (show ¬ nI 6 = 0 by decide), if_neg (show ¬ nI 6 = 1 by decide), if_neg (show ¬ nI 6 = 2 by decide), if_neg (show ¬ nI 6 = 3 by decide), if_neg (show ¬ nI 6 = 4 by decide), if_neg (show ¬ nI 6 = 5 by decide), if_pos (show nI 6 = 6 by decide)]
    exact k_mo_wrap (m_cmd_6 hE (by omega) h hg)
  | 7, _ =>
    rw [if_neg (show ¬ nI 7 = 0 by decide), if_neg (show ¬ nI 7 = 1 by decide), if_neg (show ¬ nI 7 = 2 by decide), if_neg (show ¬ nI 7 = 3 by decide), if_neg (show ¬ nI 7 = 4 by decide), if_neg (show ¬ nI 7 = 5 by decide), if_neg (show ¬ nI 7 = 6 by decide), if_pos (show nI 7 = 7 by decide)]
    exact k_mo_wrap (m_cmd_7 hE (by omega) h hg)
  | 8, _ =>
    rw [if_neg (show ¬ nI 8 = 0 by decide), if_neg (show ¬ nI 8 = 1 by decide), if_neg (show ¬ nI 8 = 2 by decide), if_neg (show ¬ nI 8 = 3 by decide), if_neg (show ¬ nI 8 = 4 by decide), if_neg (show ¬ nI 8 = 5 by decide), if_neg (show ¬ nI 8 = 6 by decide), if_neg (show ¬ nI 8 = 7 by decide), if_pos (show nI 8 = 8 by decide)]
    exact k_mo_wrap (m_cmd_8 hE (by omega) h hg)
  | 9, _ =>
    rw [if_neg (show ¬ nI 9 = 0 by decide), if_neg (show ¬ nI 9 = 1 by decide), if_neg (show ¬ nI 9 = 2 by decide), if_neg (show ¬ nI 9 = 3 by decide), if_neg (show ¬ nI 9 = 4 by decide), if_neg (show ¬ nI 9 = 5 by decide), if_neg (show ¬ nI 9 = 6 by decide), if_neg (show ¬ nI 9 = 7 by decide), if_neg (show ¬ nI 9 = 8 by decide), if_pos (show nI 9 = 9 by decide)]
    exact k_mo_wrap (m_cmd_9 hE (by omega) h hg)
  | 10, _ =>
    rw [if_neg (show ¬ nI 10 = 0 by decide), if_neg (show ¬ nI 10 = 1 by decide), if_neg (show ¬ nI 10 = 2 by decide), if_neg (show ¬ nI 10 = 3 by decide), if_neg (show ¬ nI 10 = 4 by decide), if_neg (show ¬ nI 10 = 5 by decide), if_neg (show ¬ nI 10 = 6 by decide), if_neg (show ¬ nI 10 = 7 by decide), if_neg (show ¬ nI 10 = 8 by decide), if_neg (show ¬ nI 10 = 9 by decide), if_pos (show nI 10 = 10 by decide)]
    exact k_mo_wrap (m_cmd_10 hE (by omega) h hg)
  | 11, _ =>
    rw [if_neg (show ¬ nI 11 = 0 by decide), if_neg (show ¬ nI 11 = 1 by decide), if_neg (show ¬ nI 11 = 2 by decide), if_neg (show ¬ nI 11 = 3 by decide), if_neg (show ¬ nI 11 = 4 by decide), if_neg (show ¬ nI 11 = 5 by decide), if_neg (show ¬ nI 11 = 6 by decide), if_neg (show ¬ nI 11 = 7 by decide), if_neg (show ¬ nI 11 = 8 by decide), if_neg (show ¬ nI 11 = 9 by decide), if_neg (show ¬ nI 11 = 10 by decide), if_pos (show nI 11 = 11 by decide)]
    exact k_mo_wrap (m_cmd_11 hE (by omega) h hg)
  | 12, _ =>
    rw [if_neg (show ¬ nI 12 = 0 by decide), if_neg (show ¬ nI 12 = 1 by decide), if_neg (show ¬ nI 12 = 2 by decide), if_neg (show ¬ nI 12 = 3 by decide), if_neg (show ¬ nI 12 = 4 by decide), if_neg (show ¬ nI 12 = 5 by decide), if_neg (show ¬ nI 12 = 6 by decide), if_neg (show ¬ nI 12 = 7 by decide), if_neg (show ¬ nI 12 = 8 by decide), if_neg (show ¬ nI 12 = 9 by decide), if_neg (show ¬ nI 12 = 10 by decide), if_neg (show ¬ nI 12 = 11 by decide), if_pos (show nI 12 = 12 by decide)]
    exact k_mo_wrap (m_cmd_12 hE (by omega) h hg)
  | 13, _ =>
    rw [if_neg (show ¬ nI 13 = 0 by decide), if_neg (show ¬ nI 13 = 1 by decide), if_neg (show ¬ nI 13 = 2 by decide), if_neg (show ¬ nI 13 = 3 by decide), if_neg (show ¬ nI 13 = 4 by decide), if_neg (show ¬ nI 13 = 5 by decide), if_neg (show ¬ nI 13 = 6 by decide), if_neg (show ¬ nI 13 = 7 by decide), if_neg (show ¬ nI 13 = 8 by decide), if_neg (show ¬ nI 13 = 9 by decide), if_neg (show ¬ nI 13 = 10 by decide), if_neg (show ¬ nI 13 = 11 by decide), if_neg (show ¬ nI 13 = 12 by decide)]
    exact k_mo_wrap (m_cmd_13 hE (by omega) h hg)
  | k + 14, hk => exact absurd hk (by omega)
theorem u_cmdF_cases (T : Nat → Int32) (n p : Nat) : ∀ d z, u_cmdF T n p d z = -1 ∨ ∃ c, c < z + d ∧ u_cmdF T n p d z = nI c ∧ u_says T n p (13 + c) = true := by
  intro d
  induction d with
  | zero => intro z; exact Or.inl rfl
  | succ d ih =>
    intro z
    rw [u_cmdF]
    by_cases q : u_says T n p (13 + z) = true
    · rw [if_pos q]
      exact Or.inr ⟨z, by omega, rfl, q⟩
    · rw [if_neg q]
      rcases ih (z + 1) with h | ⟨c, h1, h2⟩
      · exact Or.inl h
      · exact Or.inr ⟨c, by omega, h2⟩
theorem u_cmd_cases (T : Nat → Int32) (n p : Nat) : u_cmd T n p = -1 ∨ ∃ c, c < 15 ∧ u_cmd T n p = nI c ∧ u_k T n p = 2 := by
  rcases u_cmdF_cases T n p 15 0 with h | ⟨c, h1, h2, h3⟩
  · exact Or.inl h
  · exact Or.inr ⟨c, by omega, h2, ((u_says_iff _ _ _ _).mp h3).1⟩
theorem u_k_lt {T : Nat → Int32} {n p : Nat} (h : ¬ u_k T n p = 0) : u_s T n p < n := by
  apply Classical.byContradiction
  intro z
  exact h (by unfold u_k; rw [if_neg z])
/-- a step of the class's loop -/
theorem k_loop {F n p d z f : Nat} {T : Nat → Int32} {C C1 : hk_S} {K : hk_S → Int32 → Int32 → Option (Int32 × hk_S)} (h1 : mX8_readToken hk_E0 F C 193 = some C1) (h2 : C1 193 5 = u_c (u_k T n p)) (h3 : C1 193 11 = nI d) (hd : d < 3) (hz : z < 1000000) :
    mX8_run_52 hk_E0 F 193 K (f + 1) C 1 (nI z) = (if ¬ u_c (u_k T n p) = 5 then (if ¬ u_c (u_k T n p) = 3 then (mX8_runCommand hk_E0 F C1 193).bind (fun r => mX8_run_52 hk_E0 F 193 K f r.2 r.1 (nI (z + 1))) else (if nI d ≤ 0 then (mX8_runCommand hk_E0 F C1 193).bind (fun r => mX8_run_52 hk_E0 F 193 K f r.2 r.1 (nI (z + 1))) else (mX8_closeRepeat hk_E0 F C1 193).bind (fun r => mX8_run_52 hk_E0 F 193 K f r.2 r.1 (nI (z + 1))))) else (if ¬ nI d = 0 then (if ¬ u_c (u_k T n p) = 3 then (mX8_runCommand hk_E0 F C1 193).bind (fun r => mX8_run_52 hk_E0 F 193 K f r.2 r.1 (nI (z + 1))) else (if nI d ≤ 0 then (mX8_runCommand hk_E0 F C1 193).bind (fun r => mX8_run_52 hk_E0 F 193 K f r.2 r.1 (nI (z + 1))) else (mX8_closeRepeat hk_E0 F C1 193).bind (fun r => mX8_run_52 hk_E0 F 193 K f r.2 r.1 (nI (z + 1))))) else mX8_run_52 hk_E0 F 193 K f C1 0 (nI (z + 1)))) := by
  rw [mX8_run_52]
  dsimp only
  rw [if_neg (show ¬ (1 : Int32) = 0 by decide), if_neg (show ¬ (1000000 : Int32) ≤ nI z from nI_ge (a := z) (b := 1000000) hz (by omega)), h1, Option.bind_some, if_pos (show hk_ec (C1 193 5) 7 by rw [h2]; exact u_c_ec _), if_pos (show hk_ec (C1 193 5) 7 by rw [h2]; exact u_c_ec _)]
  simp only [h2, h3, hk_let_eq, nI_1]
/-- a step of the class's loop that is a command -/
theorem k_step {F n p d z f : Nat} {T : Nat → Int32} {C C1 : hk_S} {K : hk_S → Int32 → Int32 → Option (Int32 × hk_S)} (h1 : mX8_readToken hk_E0 F C 193 = some C1) (h2 : C1 193 5 = u_c (u_k T n p)) (h3 : C1 193 11 = nI d) (hd : d < 3) (hz : z < 1000000) (n0 : ¬ (d = 0 ∧ u_k T n p = 0)) (n5 : ¬ (0 < d ∧ u_k T n p = 5)) :
    mX8_run_52 hk_E0 F 193 K (f + 1) C 1 (nI z) = (mX8_runCommand hk_E0 F C1 193).bind (fun r => mX8_run_52 hk_E0 F 193 K f r.2 r.1 (nI (z + 1))) := by
  have hu := k_loop (K := K) (f := f) h1 h2 h3 hd hz
  have hd0 : nI d = 0 ↔ d = 0 := nI_eq (b := 0) (by omega) (by omega)
  rw [hu]
  by_cases q5 : u_c (u_k T n p) = 5
  · rw [if_neg (fun z => z q5)]
    have k0 := (u_c_iff _).2.2.2.2.2.mp q5
    rw [if_pos (fun z => n0 ⟨hd0.mp z, k0⟩), if_pos (show ¬ u_c (u_k T n p) = 3 by rw [q5]; decide)]
  · rw [if_pos q5]
    by_cases q3 : u_c (u_k T n p) = 3
    · have k5 := (u_c_iff _).2.2.2.1.mp q3
      have d0 : d = 0 := by
        apply Classical.byContradiction
        intro z
        exact n5 ⟨by omega, k5⟩
      rw [if_neg (fun z => z q3), if_pos (show nI d ≤ 0 by subst d0; decide)]
    · rw [if_pos q3]
theorem k_close {F n p d z f : Nat} {T : Nat → Int32} {C C1 : hk_S} {K : hk_S → Int32 → Int32 → Option (Int32 × hk_S)} (h1 : mX8_readToken hk_E0 F C 193 = some C1) (h2 : C1 193 5 = u_c (u_k T n p)) (h3 : C1 193 11 = nI d) (hd : d < 3) (hz : z < 1000000) (d0 : 0 < d) (k5 : u_k T n p = 5) :
    mX8_run_52 hk_E0 F 193 K (f + 1) C 1 (nI z) = (mX8_closeRepeat hk_E0 F C1 193).bind (fun r => mX8_run_52 hk_E0 F 193 K f r.2 r.1 (nI (z + 1))) := by
  have q3 := (u_c_iff (u_k T n p)).2.2.2.1.mpr k5
  rw [k_loop (K := K) (f := f) h1 h2 h3 hd hz, if_pos (show ¬ u_c (u_k T n p) = 5 by rw [q3]; decide), if_neg (fun z => z q3), if_neg (show ¬ nI d ≤ 0 from fun z => by
    have := (nI_leI (a := d) (b := 0) (by omega) (by omega)).mp z
    omega)]
theorem k_stop0 {F n p z f : Nat} {T : Nat → Int32} {C C1 : hk_S} {K : hk_S → Int32 → Int32 → Option (Int32 × hk_S)} (h1 : mX8_readToken hk_E0 F C 193 = some C1) (h2 : C1 193 5 = u_c (u_k T n p)) (h3 : C1 193 11 = nI 0) (hz : z < 1000000) (k0 : u_k T n p = 0) :
    mX8_run_52 hk_E0 F 193 K (f + 1) C 1 (nI z) = mX8_run_52 hk_E0 F 193 K f C1 0 (nI (z + 1)) := by
  have q5 := (u_c_iff (u_k T n p)).2.2.2.2.2.mpr k0
  rw [k_loop (K := K) (f := f) h1 h2 h3 (by decide) hz, if_neg (fun z => z q5), if_neg (fun z => z (by decide))]

