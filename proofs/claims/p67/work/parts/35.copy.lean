/-! one loft becomes another -/
def hk_cp (S : hk_S) (b : Nat) (S' : hk_S) (c : Nat) : Prop := (∀ k, k < 4 → S' (c + 1) k = S (b + 1) k) ∧ (∀ m, m < 3 → S' (c + 2) m = S (b + 2) m) ∧ (∀ k, (k = 2 ∨ (4 ≤ k ∧ k ≤ 12)) → S' c k = S b k) ∧ (∀ t, t < 8 → ∀ k, k < 10 → S' (c + 5 + t) k = S (b + 5 + t) k) ∧ (∀ q, q < 6 → ∀ k, k < 3 → S' (c + 13 + q) k = S (b + 13 + q) k)
theorem hk_lf_cp {S S' : hk_S} {b c : Nat} {w : Nat → Int32} (h : hk_lf S b w) (e : hk_cp S b S' c) : hk_lf S' c w := by
  obtain ⟨⟨a0, a1, a2, a3, a4⟩, ⟨n1, n2, n3, n4, n5, n6, n7, n8, n9, n10⟩, g3, g4⟩ := h
  obtain ⟨e1, e2, e3, e4, e5⟩ := e
  refine ⟨⟨(e1 _ (by omega)).trans a0, (e1 _ (by omega)).trans a1, (e1 _ (by omega)).trans a2, (e1 _ (by omega)).trans a3, fun m hm hn => (e2 m hm).trans (a4 m hm hn)⟩, ⟨(e3 _ (by omega)).trans n1, (e3 _ (by omega)).trans n2, (e3 _ (by omega)).trans n3, (e3 _ (by omega)).trans n4, (e3 _ (by omega)).trans n5, (e3 _ (by omega)).trans n6, (e3 _ (by omega)).trans n7, (e3 _ (by omega)).trans n8, (e3 _ (by omega)).trans n9, (e3 _ (by omega)).trans n10⟩, fun t ht => hk_tr_cp (g3 t ht) (e4 t ht), fun q hq hn => ?_⟩
  have g := g4 q hq hn
  exact ⟨(e5 q hq _ (by omega)).trans g.1, (e5 q hq _ (by omega)).trans g.2.1, (e5 q hq _ (by omega)).trans g.2.2⟩
theorem cX_air_34 {E : hk_E} {F b c : Nat} {K : hk_S → Int32 → Option hk_S} (hL : hk_L E b) (hL' : hk_L E c) (hd : b + 19 ≤ c ∨ c + 19 ≤ b) : ∀ (d z f : Nat) (S : hk_S), z + d = 3 → d < f → ∃ S', mX1_become_34 E F (c + 1) (b + 1) K f S (nI z) = K S' (nI 3) ∧ (∀ m, z ≤ m → m < 3 → S' (c + 2) m = S (b + 2) m) ∧ (∀ m, m < z → S' (c + 2) m = S (c + 2) m) ∧ (∀ a, a ≠ c + 2 → S' a = S a) := by
  intro d
  induction d with
  | zero =>
    intro z f S h1 h2
    obtain ⟨f, rfl⟩ : ∃ g, f = g + 1 := ⟨f - 1, by omega⟩
    have hz : z = 3 := by omega
    subst hz
    refine ⟨S, ?_, fun m h1 h2 => by omega, fun _ _ => rfl, fun _ _ => rfl⟩
    rw [mX1_become_34]
    dsimp only
    rw [if_pos (by decide)]
  | succ d ih =>
    intro z f S h1 h2
    obtain ⟨f, rfl⟩ : ∃ g, f = g + 1 := ⟨f - 1, by omega⟩
    obtain ⟨-, -, ⟨k2, l2⟩, -, -, -, -, ⟨-, -, -, r4⟩⟩ := hL
    obtain ⟨-, -, ⟨k2', l2'⟩, -, -, -, -, ⟨-, -, -, r4'⟩⟩ := hL'
    obtain ⟨S', s1, s2, s2', s3⟩ := ih (z + 1) f (hk_up S (c + 2) z (S (b + 2) z)) (by omega) (by omega)
    refine ⟨S', ?_, fun m h1 h2 => ?_, fun m hm => ?_, fun a ha => ?_⟩
    · rw [mX1_become_34]
      dsimp only
      rw [if_neg (show ¬ (3 : Int32) ≤ nI z from nI_ge (a := z) (b := 3) (by omega) (by omega)), r4', Option.bind_some, if_pos k2', r4, Option.bind_some, if_pos k2, l2, l2', if_pos (hk_okI (by omega) (by omega)), if_pos (hk_okI (by omega) (by omega)), nI_clamp (by omega), hk_let_eq, hk_let_eq, nI_1]
      exact s1
    · by_cases q : m = z
      · subst q
        rw [s2' m (by omega), hk_up_eq, if_pos rfl]
      · rw [s2 m (by omega) h2, hk_upne _ _ _ (by omega)]
    · rw [s2' m (by omega), hk_up_eq, if_neg (by omega)]
    · rw [s3 a ha, hk_upne _ _ _ ha]
theorem cX_air {E : hk_E} {F b c : Nat} {S : hk_S} (hF : 5 ≤ F) (hL : hk_L E b) (hL' : hk_L E c) (hd : b + 19 ≤ c ∨ c + 19 ≤ b) : ∃ S', mX1_become E F S (c + 1) (b + 1) = some S' ∧ (∀ k, k < 4 → S' (c + 1) k = S (b + 1) k) ∧ (∀ m, m < 3 → S' (c + 2) m = S (b + 2) m) ∧ (∀ a, a ≠ c + 1 → a ≠ c + 2 → S' a = S a) := by
  obtain ⟨S', s1, s2, -, s3⟩ := cX_air_34 (E := E) (F := F) (K := fun S13 _ => some S13) hL hL' hd 3 0 F (hk_up (hk_up (hk_up (hk_up S (c + 1) 0 (S (b + 1) 0)) (c + 1) 1 (S (b + 1) 1)) (c + 1) 2 (S (b + 1) 2)) (c + 1) 3 (S (b + 1) 3)) (by omega) (by omega)
  refine ⟨S', ?_, fun k hk => ?_, fun m hm => ?_, fun a h1 h2 => ?_⟩
  · unfold mX1_become
    simp only [hk_let_eq, hk_upne _ _ _ (show b + 1 ≠ c + 1 by omega)]
    exact s1
  · rw [s3 _ (by omega)]
    have : k = 0 ∨ k = 1 ∨ k = 2 ∨ k = 3 := by omega
    rcases this with q | q | q | q <;> subst q <;> simp [hk_up_eq]
  · rw [s2 m (by omega) hm]
    simp only [hk_upne _ _ _ (show b + 2 ≠ c + 1 by omega)]
  · rw [s3 a h2]
    simp only [hk_upne _ _ _ h1]
theorem cX_trs_13 {E : hk_E} {F b c : Nat} {K : hk_S → Int32 → Option hk_S} {S : hk_S} {w : Nat → Int32} (hL : hk_L E b) (hL' : hk_L E c) (hd : b + 19 ≤ c ∨ c + 19 ≤ b) (hS : hk_trs S b w) : ∀ (d z f : Nat) (S1 : hk_S), z + d = 8 → d < f → (∀ t, t < 8 → S1 (b + 5 + t) = S (b + 5 + t)) → ∃ S', mX5_become_13 E F c b K f S1 (nI z) = K S' (nI 8) ∧ (∀ t, z ≤ t → t < 8 → ∀ k, k < 10 → S' (c + 5 + t) k = S (b + 5 + t) k) ∧ (∀ a, (∀ t, z ≤ t → t < 8 → a ≠ c + 5 + t) → S' a = S1 a) := by
  intro d
  induction d with
  | zero =>
    intro z f S1 h1 h2 h3
    obtain ⟨f, rfl⟩ : ∃ g, f = g + 1 := ⟨f - 1, by omega⟩
    have hz : z = 8 := by omega
    subst hz
    refine ⟨S1, ?_, fun m h1 h2 => by omega, fun _ _ => rfl⟩
    rw [mX5_become_13]
    dsimp only
    rw [if_pos (by decide)]
  | succ d ih =>
    intro z f S1 h1 h2 h3
    obtain ⟨f, rfl⟩ : ∃ g, f = g + 1 := ⟨f - 1, by omega⟩
    have hz : z < 8 := by omega
    obtain ⟨-, -, -, ⟨k3, l3⟩, -, k5, -, ⟨-, r1, -, -⟩⟩ := id hL
    obtain ⟨-, -, -, ⟨k3', l3'⟩, -, k5', -, ⟨-, r1', -, -⟩⟩ := id hL'
    obtain ⟨S2, p1, p2, p3⟩ := pX10_become (E := E) (F := F) (S := S1) (a := c + 5 + z) (c := b + 5 + z) (by omega) (by rw [h3 z hz]; exact hS z hz)
    obtain ⟨S', s1, s2, s3⟩ := ih (z + 1) f S2 (by omega) (by omega) (fun t ht => by rw [p3 _ (by omega)]; exact h3 t ht)
    refine ⟨S', ?_, fun t h1 h2 k hk => ?_, fun a ha => ?_⟩
    · rw [mX5_become_13]
      dsimp only
      rw [if_neg (show ¬ (8 : Int32) ≤ nI z from nI_ge (a := z) (b := 8) (by omega) (by omega)), r1', Option.bind_some, if_pos k3', l3', if_pos (hk_okI hz (by omega)), show E.2.2.2 (c + 3) (nI z).toNatClampNeg = some (c + 5 + z) from (by rw [nI_clamp (by omega)]; exact (k5' z hz).2), Option.bind_some, if_pos (k5' z hz).1, r1, Option.bind_some, if_pos k3, l3, if_pos (hk_okI hz (by omega)), show E.2.2.2 (b + 3) (nI z).toNatClampNeg = some (b + 5 + z) from (by rw [nI_clamp (by omega)]; exact (k5 z hz).2), Option.bind_some, if_pos (k5 z hz).1, p1, Option.bind_some, hk_let_eq, nI_1]
      exact s1
    · by_cases q : t = z
      · subst q
        rw [s3 _ (fun t' h1 h2 => by omega), p2 k hk, h3 t hz]
      · exact s2 t (by omega) h2 k hk
    · rw [s3 a (fun t h1 h2 => ha t (by omega) h2), p3 a (ha z (by omega) hz)]
theorem cX_prs_50 {E : hk_E} {F b c : Nat} {K : hk_S → Int32 → Option hk_S} {S : hk_S} (hL : hk_L E b) (hL' : hk_L E c) (hd : b + 19 ≤ c ∨ c + 19 ≤ b) : ∀ (d z f : Nat) (S1 : hk_S), z + d = 6 → d < f → (∀ t, t < 6 → S1 (b + 13 + t) = S (b + 13 + t)) → ∃ S', mX5_become_50 E F c b K f S1 (nI z) = K S' (nI 6) ∧ (∀ t, z ≤ t → t < 6 → ∀ k, k < 3 → S' (c + 13 + t) k = S (b + 13 + t) k) ∧ (∀ a, (∀ t, z ≤ t → t < 6 → a ≠ c + 13 + t) → S' a = S1 a) := by
  intro d
  induction d with
  | zero =>
    intro z f S1 h1 h2 h3
    obtain ⟨f, rfl⟩ : ∃ g, f = g + 1 := ⟨f - 1, by omega⟩
    have hz : z = 6 := by omega
    subst hz
    refine ⟨S1, ?_, fun m h1 h2 => by omega, fun _ _ => rfl⟩
    rw [mX5_become_50]
    dsimp only
    rw [if_pos (by decide)]
  | succ d ih =>
    intro z f S1 h1 h2 h3
    obtain ⟨f, rfl⟩ : ∃ g, f = g + 1 := ⟨f - 1, by omega⟩
    have hz : z < 6 := by omega
    obtain ⟨-, -, -, -, ⟨k3, l3⟩, -, k5, ⟨-, -, r1, -⟩⟩ := id hL
    obtain ⟨-, -, -, -, ⟨k3', l3'⟩, -, k5', ⟨-, -, r1', -⟩⟩ := id hL'
    obtain ⟨S2, p1, p2, p3⟩ : ∃ S2, mX6_become E F S1 (c + 13 + z) (b + 13 + z) = some S2 ∧ (∀ k, k < 3 → S2 (c + 13 + z) k = S1 (b + 13 + z) k) ∧ ∀ a, a ≠ c + 13 + z → S2 a = S1 a := by
      unfold mX6_become
      simp only [hk_let_eq, hk_upne _ _ _ (show b + 13 + z ≠ c + 13 + z by omega)]
      refine ⟨_, rfl, fun k hk => ?_, fun a ha => ?_⟩
      · have : k = 0 ∨ k = 1 ∨ k = 2 := by omega
        rcases this with q | q | q <;> subst q <;> simp [hk_up_eq]
      · simp only [hk_upne _ _ _ ha]
    obtain ⟨S', s1, s2, s3⟩ := ih (z + 1) f S2 (by omega) (by omega) (fun t ht => by rw [p3 _ (by omega)]; exact h3 t ht)
    refine ⟨S', ?_, fun t h1 h2 k hk => ?_, fun a ha => ?_⟩
    · rw [mX5_become_50]
      dsimp only
      rw [if_neg (show ¬ (6 : Int32) ≤ nI z from nI_ge (a := z) (b := 6) (by omega) (by omega)), r1', Option.bind_some, if_pos k3', l3', if_pos (hk_okI hz (by omega)), show E.2.2.2 (c + 4) (nI z).toNatClampNeg = some (c + 13 + z) from (by rw [nI_clamp (by omega)]; exact (k5' z hz).2), Option.bind_some, if_pos (k5' z hz).1, r1, Option.bind_some, if_pos k3, l3, if_pos (hk_okI hz (by omega)), show E.2.2.2 (b + 4) (nI z).toNatClampNeg = some (b + 13 + z) from (by rw [nI_clamp (by omega)]; exact (k5 z hz).2), Option.bind_some, if_pos (k5 z hz).1, p1, Option.bind_some, hk_let_eq, nI_1]
      exact s1
    · by_cases q : t = z
      · subst q
        rw [s3 _ (fun t' h1 h2 => by omega), p2 k hk, h3 t hz]
      · exact s2 t (by omega) h2 k hk
    · rw [s3 a (fun t h1 h2 => ha t (by omega) h2), p3 a (ha z (by omega) hz)]
theorem cX_become {E : hk_E} {F b c : Nat} {S : hk_S} {w : Nat → Int32} (hF : 10 ≤ F) (hL : hk_L E b) (hL' : hk_L E c) (hd : b + 19 ≤ c ∨ c + 19 ≤ b) (hS : hk_trs S b w) : ∃ S', mX5_become E F S c b = some S' ∧ hk_cp S b S' c ∧ hk_fr c S S' := by
  obtain ⟨S1, p1, p2, p3, p4⟩ := cX_air (E := E) (F := F) (S := S) (by omega) hL hL' hd
  have hS1 : ∀ a, b ≤ a → a < b + 19 → S1 a = S a := fun a h1 h2 => p4 a (by omega) (by omega)
  let K2 : hk_S → Int32 → Option hk_S := fun S27 z28 => hk_let (hk_up S27 c 4 (S27 b 4)) (fun S29 => hk_let (hk_up S29 c 5 (S29 b 5)) (fun S30 => hk_let (hk_up S30 c 6 (S30 b 6)) (fun S31 => hk_let (hk_up S31 c 7 (S31 b 7)) (fun S32 => hk_let (hk_up S32 c 8 (S32 b 8)) (fun S33 => hk_let (hk_up S33 c 9 (S33 b 9)) (fun S34 => hk_let (hk_up S34 c 10 (S34 b 10)) (fun S35 => hk_let (hk_up S35 c 11 (S35 b 11)) (fun S36 => hk_let (hk_up S36 c 12 (S36 b 12)) (fun S37 => some (S37))))))))))
  obtain ⟨S2, q1, q2, q3⟩ := cX_trs_13 (E := E) (F := F) (K := fun S14 z15 => hk_let (hk_up S14 c 2 (S14 b 2)) (fun S16 => mX5_become_50 E F c b K2 F S16 0)) hL hL' hd hS 8 0 F S1 (by omega) (by omega) (fun t ht => hS1 _ (by omega) (by omega))
  have hS2 : ∀ a, b ≤ a → a < b + 19 → S2 a = S a := fun a h1 h2 => (q3 a (fun t _ ht => by omega)).trans (hS1 a h1 h2)
  obtain ⟨S3, r1, r2, r3⟩ := cX_prs_50 (E := E) (F := F) (K := K2) (S := S) hL hL' hd 6 0 F (hk_up S2 c 2 (S b 2)) (by omega) (by omega) (fun t ht => by rw [hk_upne _ _ _ (by omega)]; exact hS2 _ (by omega) (by omega))
  have hb3 : S3 b = S b := by
    rw [r3 b (fun t _ ht => by omega), hk_upne _ _ _ (by omega)]
    exact hS2 b (by omega) (by omega)
  refine ⟨hk_up (hk_up (hk_up (hk_up (hk_up (hk_up (hk_up (hk_up (hk_up S3 c 4 (S b 4)) c 5 (S b 5)) c 6 (S b 6)) c 7 (S b 7)) c 8 (S b 8)) c 9 (S b 9)) c 10 (S b 10)) c 11 (S b 11)) c 12 (S b 12), ?_, ⟨fun k hk => ?_, fun m hm => ?_, fun k hk => ?_, fun t ht k hk => ?_, fun t ht k hk => ?_⟩, fun a ha => ?_⟩
  · obtain ⟨k0, k1, -, -, -, -, -, ⟨r0, -, -, -⟩⟩ := hL
    obtain ⟨k0', k1', -, -, -, -, -, ⟨r0', -, -, -⟩⟩ := hL'
    unfold mX5_become
    rw [r0', Option.bind_some, if_pos k1', r0, Option.bind_some, if_pos k1, p1, Option.bind_some]
    refine q1.trans ?_
    rw [hk_let_eq, hS2 b (by omega) (by omega)]
    refine r1.trans ?_
    show K2 S3 (nI 6) = _
    simp only [K2, hk_let_eq, hk_upne _ _ _ (show b ≠ c by omega), hb3]
  · simp only [hk_upne _ _ _ (show c + 1 ≠ c by omega)]
    rw [r3 _ (fun t _ ht => by omega), hk_upne _ _ _ (by omega), q3 _ (fun t _ ht => by omega)]
    exact p2 k hk
  · simp only [hk_upne _ _ _ (show c + 2 ≠ c by omega)]
    rw [r3 _ (fun t _ ht => by omega), hk_upne _ _ _ (by omega), q3 _ (fun t _ ht => by omega)]
    exact p3 m hm
  · have h2 : S3 c 2 = S b 2 := by rw [r3 _ (fun t _ ht => by omega), hk_up_eq, if_pos rfl]
    have : k = 2 ∨ k = 4 ∨ k = 5 ∨ k = 6 ∨ k = 7 ∨ k = 8 ∨ k = 9 ∨ k = 10 ∨ k = 11 ∨ k = 12 := by omega
    rcases this with q | q | q | q | q | q | q | q | q | q <;> subst q <;> simp [hk_up_eq, h2]
  · simp only [hk_upne _ _ _ (show c + 5 + t ≠ c by omega)]
    rw [r3 _ (fun t _ ht => by omega), hk_upne _ _ _ (by omega)]
    exact q2 t (by omega) ht k hk
  · simp only [hk_upne _ _ _ (show c + 13 + t ≠ c by omega)]
    exact r2 t (by omega) ht k hk
  · simp only [hk_upne _ _ _ (show a ≠ c by omega)]
    rw [r3 _ (fun t _ ht => by omega), hk_upne _ _ _ (by omega), q3 _ (fun t _ ht => by omega), p4 _ (by omega) (by omega)]
/-- a loft as at first -/
def a_first : Nat → Int32 := fun i => if i = 2 then 60 else if i = 3 then 580 else if i = 4 then 20 else 0
theorem a_first_ok : a_ok a_first := by
  have et : ∀ t k, k < 9 → a_t a_first t k = 0 := fun t k hk => by
    show a_first _ = _
    unfold a_first
    rw [if_neg (by omega), if_neg (by omega), if_neg (by omega)]
  refine ⟨by decide, by decide, by decide, by decide, by decide, by decide, fun m hm hn => ?_, by decide, by decide, fun t ht => ?_, fun t ht hn => ?_, fun t ht hn => ?_, fun q hq hn => ?_⟩
  · exact absurd hn (nI_pos (by omega))
  · unfold t_ok
    rw [et _ _ (by omega), et _ _ (by omega), et _ _ (by omega), et _ _ (by omega), et _ _ (by omega), et _ _ (by omega), et _ _ (by omega), et _ _ (by omega), et _ _ (by omega)]
    decide
  · exact absurd hn (nI_pos (by omega))
  · rw [et _ _ (by omega), et _ _ (by omega), et _ _ (by omega)]
    decide
  · exact absurd hn (nI_pos (by omega))
theorem cX_clear_9 {E : hk_E} {F c : Nat} {K : hk_S → Int32 → Option hk_S} (hL' : hk_L E c) : ∀ (d z f : Nat) (S1 : hk_S), z + d = 8 → d < f → ∃ S', mX5_clear_9 E F c K f S1 (nI z) = K S' (nI 8) ∧ (∀ t, z ≤ t → t < 8 → hk_tr (S' (c + 5 + t)) (t_new 0)) ∧ (∀ a, (∀ t, z ≤ t → t < 8 → a ≠ c + 5 + t) → S' a = S1 a) := by
  intro d
  induction d with
  | zero =>
    intro z f S1 h1 h2
    obtain ⟨f, rfl⟩ : ∃ g, f = g + 1 := ⟨f - 1, by omega⟩
    have hz : z = 8 := by omega
    subst hz
    refine ⟨S1, ?_, fun m h1 h2 => by omega, fun _ _ => rfl⟩
    rw [mX5_clear_9]
    dsimp only
    rw [if_pos (by decide)]
  | succ d ih =>
    intro z f S1 h1 h2
    obtain ⟨f, rfl⟩ : ∃ g, f = g + 1 := ⟨f - 1, by omega⟩
    have hz : z < 8 := by omega
    obtain ⟨-, -, -, ⟨k3', l3'⟩, -, k5', -, ⟨-, r1', -, -⟩⟩ := id hL'
    obtain ⟨S2, p1, p2, p3⟩ := pX10_build (E := E) (F := F) (S := S1) (a := c + 5 + z) (c := 0)
    obtain ⟨S', s1, s2, s3⟩ := ih (z + 1) f S2 (by omega) (by omega)
    refine ⟨S', ?_, fun t h1 h2 => ?_, fun a ha => ?_⟩
    · rw [mX5_clear_9]
      dsimp only
      rw [if_neg (show ¬ (8 : Int32) ≤ nI z from nI_ge (a := z) (b := 8) (by omega) (by omega)), r1', Option.bind_some, if_pos k3', l3', if_pos (hk_okI hz (by omega)), nI_clamp (by omega), (k5' z hz).2, Option.bind_some, if_pos (k5' z hz).1, p1, Option.bind_some, hk_let_eq, nI_1]
      exact s1
    · by_cases q : t = z
      · subst q
        rw [s3 _ (fun t' h1 h2 => by omega)]
        exact p2
      · exact s2 t (by omega) h2
    · rw [s3 a (fun t h1 h2 => ha t (by omega) h2), p3 a (ha z (by omega) hz)]
theorem cX_clear {E : hk_E} {F c : Nat} {S : hk_S} (hF : 10 ≤ F) (hL : hk_L E c) : ∃ S', mX5_clear E F S c = some S' ∧ hk_lf S' c a_first ∧ hk_fr c S S' := by
  obtain ⟨k0, k1, -, -, -, -, -, ⟨r0, -, -, -⟩⟩ := id hL
  obtain ⟨S2, q1, q2, q3⟩ := cX_clear_9 (E := E) (F := F) (K := fun S10 z11 => hk_let (hk_up S10 c 2 0) (fun S12 => hk_let (hk_up S12 c 4 0) (fun S13 => hk_let (hk_up S13 c 5 580) (fun S14 => hk_let (hk_up S14 c 6 20) (fun S15 => hk_let (hk_up S15 c 7 0) (fun S16 => hk_let (hk_up S16 c 8 0) (fun S17 => hk_let (hk_up S17 c 9 0) (fun S18 => hk_let (hk_up S18 c 10 0) (fun S19 => hk_let (hk_up S19 c 11 0) (fun S20 => hk_let (hk_up S20 c 12 0) (fun S21 => some (S21)))))))))))) hL 8 0 F (hk_up (hk_up (hk_up (hk_up S (c + 1) 0 0) (c + 1) 1 60) (c + 1) 2 0) (c + 1) 3 0) (by omega) (by omega)
  simp only [hk_let_eq] at q1
  refine ⟨hk_up (hk_up (hk_up (hk_up (hk_up (hk_up (hk_up (hk_up (hk_up (hk_up S2 c 2 0) c 4 0) c 5 580) c 6 20) c 7 0) c 8 0) c 9 0) c 10 0) c 11 0) c 12 0, ?_, ⟨⟨?_, ?_, ?_, ?_, fun m hm hn => ?_⟩, ?_, fun t ht => ?_, fun q hq hn => ?_⟩, fun a ha => ?_⟩
  · unfold mX5_clear mX1_clear
    rw [r0, Option.bind_some, if_pos k1]
    simp only [hk_let_eq, Option.bind_some]
    exact q1
  · simp only [hk_upne _ _ _ (show c + 1 ≠ c by omega)]
    rw [q3 _ (fun t _ ht => by omega)]
    simp [hk_up_eq, a_first]
  · simp only [hk_upne _ _ _ (show c + 1 ≠ c by omega)]
    rw [q3 _ (fun t _ ht => by omega)]
    simp [hk_up_eq, a_first]
  · simp only [hk_upne _ _ _ (show c + 1 ≠ c by omega)]
    rw [q3 _ (fun t _ ht => by omega)]
    simp [hk_up_eq, a_first]
  · simp only [hk_upne _ _ _ (show c + 1 ≠ c by omega)]
    rw [q3 _ (fun t _ ht => by omega)]
    simp [hk_up_eq, a_first]
  · exact absurd hn (nI_pos (by omega))
  · unfold hk_num
    simp [hk_up_eq, a_first]
  · simp only [hk_upne _ _ _ (show c + 5 + t ≠ c by omega)]
    refine hk_tr_ext (q2 t (by omega) ht) (fun k hk => ?_)
    show a_first _ = _
    unfold a_first t_new
    rw [if_neg (by omega), if_neg (by omega), if_neg (by omega)]
    simp
  · exact absurd hn (nI_pos (by omega))
  · simp only [hk_upne _ _ _ (show a ≠ c by omega)]
    rw [q3 _ (fun t _ ht => by omega)]
    simp only [hk_upne _ _ _ (show a ≠ c + 1 by omega)]
