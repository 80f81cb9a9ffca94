/-! words -/
theorem k_ln_le : ∀ i, i < 47 → hk_ln i ≤ 200 ∧ hk_len i >>> ((0 : Int32) &&& 31) = hk_len i := by decide +kernel
theorem k_ch_ok : ∀ i, i < 47 → ∀ k, k < hk_ln i → ((((hk_ch i (nI k)) &&& 255) : Int32).toUInt32 % 65536).toInt32 = hk_ch i (nI k) ∧ ((hk_ch i (nI k) : Int32).toUInt32 % 65536).toInt32 = hk_ch i (nI k) := by decide +kernel
theorem pJ0_len {E : hk_E} {F : Nat} {S : hk_S} {i : Nat} (hi : i < 47) : mJ0_length_8abf5 E F S i = some (nI (hk_ln i), S) := by
  unfold mJ0_length_8abf5 mJ0_coder_7d493
  rw [Option.bind_some]
  dsimp only
  rw [(k_ln_le i hi).2]
  rfl
theorem pJ0_chr {E : hk_E} {F : Nat} {S : hk_S} {i k : Nat} (hi : i < 47) (hk : k < hk_ln i) : mJ0_charAt_5068e E F S i (nI k) = some (hk_ch i (nI k), S) := by
  have h1 := (k_ln_le i hi).1
  have h2 := k_ch_ok i hi k hk
  have h3 : mJ1_charAt_3b067 E F S i (nI k) = some (hk_ch i (nI k), S) := by
    unfold mJ1_charAt_3b067 mJ0_checkIndex_df160 mJ3_checkIndex_8e157
    rw [if_neg (nI_pos (by omega)), if_pos (show nI k < hk_len i from nI_lt hk (by omega)), Option.bind_some, Option.bind_some, if_pos (hk_okI hk (by omega)), h2.1]
  unfold mJ0_charAt_5068e mJ0_isLatin1_aae02
  rw [Option.bind_some]
  dsimp only
  rw [if_neg (by decide), h3, Option.bind_some, if_pos h2.2]
def u_says (T : Nat → Int32) (n p i : Nat) : Bool := decide (u_k T n p = 2 ∧ u_e T n p - u_s T n p = hk_ln i ∧ ∀ k, k < hk_ln i → T (u_s T n p + k) = hk_ch i (nI k))
theorem u_says_iff (T : Nat → Int32) (n p i : Nat) : u_says T n p i = true ↔ (u_k T n p = 2 ∧ u_e T n p - u_s T n p = hk_ln i ∧ ∀ k, k < hk_ln i → T (u_s T n p + k) = hk_ch i (nI k)) := ⟨fun h => of_decide_eq_true h, fun h => decide_eq_true h⟩
theorem u_says_eq {T : Nat → Int32} {n p i j : Nat} (h : ((hk_str[i]?).getD ("", 0, "", [])).2.2.2 = ((hk_str[j]?).getD ("", 0, "", [])).2.2.2) : u_says T n p i = u_says T n p j := by
  have h1 : hk_ln i = hk_ln j := congrArg List.length h
  have h2 : ∀ k, hk_ch i k = hk_ch j k := fun k => by unfold hk_ch; rw [h]
  unfold u_says
  rw [h1]
  simp only [h2]
/-- the class stands behind the token at p; the model's token is that at p -/
def k_tok (T : Nat → Int32) (n p : Nat) (C : hk_S) : Prop := C 193 4 = nI (u_e T n p) ∧ C 193 5 = u_c (u_k T n p) ∧ C 193 6 = nI (u_s T n p) ∧ (u_k T n p = 3 → C 193 7 = u_v T n p)
def k_mok (T : Nat → Int32) (n p : Nat) (M : hk_S) : Prop := M 221 18 = nI (u_e T n p) ∧ M 221 16 = u_k T n p ∧ M 221 17 = nI (u_s T n p) ∧ (u_k T n p = 3 → M 221 19 = u_v T n p)
theorem u_c_ec (k : Int32) : hk_ec (u_c k) 7 := by
  unfold u_c
  by_cases h0 : k = 0
  · rw [if_pos h0]; decide
  · rw [if_neg h0]
    by_cases h1 : k = 1
    · rw [if_pos h1]; decide
    · rw [if_neg h1]
      by_cases h2 : k = 2
      · rw [if_pos h2]; decide
      · rw [if_neg h2]
        by_cases h3 : k = 3
        · rw [if_pos h3]; decide
        · rw [if_neg h3]
          by_cases h4 : k = 4
          · rw [if_pos h4]; decide
          · rw [if_neg h4]
            by_cases h5 : k = 5
            · rw [if_pos h5]; decide
            · rw [if_neg h5]; decide
theorem u_c_iff (k : Int32) : (u_c k = 0 ↔ k = 2) ∧ (u_c k = 1 ↔ k = 3) ∧ (u_c k = 2 ↔ k = 4) ∧ (u_c k = 3 ↔ k = 5) ∧ (u_c k = 4 ↔ k = 1) ∧ (u_c k = 5 ↔ k = 0) := by
  by_cases h0 : k = 0
  · subst h0; decide
  · by_cases h1 : k = 1
    · subst h1; decide
    · by_cases h2 : k = 2
      · subst h2; decide
      · by_cases h3 : k = 3
        · subst h3; decide
        · by_cases h4 : k = 4
          · subst h4; decide
          · by_cases h5 : k = 5
            · subst h5; decide
            · have e : u_c k = 6 := by
                unfold u_c
                rw [if_neg h0, if_neg h1, if_neg h2, if_neg h3, if_neg h4, if_neg h5]
              rw [e]
              exact ⟨⟨fun z => absurd z (by decide), fun z => absurd z h2⟩, ⟨fun z => absurd z (by decide), fun z => absurd z h3⟩, ⟨fun z => absurd z (by decide), fun z => absurd z h4⟩, ⟨fun z => absurd z (by decide), fun z => absurd z h5⟩, ⟨fun z => absurd z (by decide), fun z => absurd z h1⟩, ⟨fun z => absurd z (by decide), fun z => absurd z h0⟩⟩
theorem pX8_isWord_30 {F i s n : Nat} {T : Nat → Int32} {K : hk_S → Int32 → Option (Int32 × hk_S)} {C : hk_S} (hi : i < 47) (hT : k_cT T n C) (h6 : C 193 6 = nI s) (hs : s + hk_ln i ≤ n) : ∀ (d z f : Nat), z + d = hk_ln i → d < f → ((∀ k, z ≤ k → k < hk_ln i → T (s + k) = hk_ch i (nI k)) → mX8_isWord_30 hk_E0 F 193 i K f C (nI z) = K C (nI (hk_ln i))) ∧ ((¬ ∀ k, z ≤ k → k < hk_ln i → T (s + k) = hk_ch i (nI k)) → mX8_isWord_30 hk_E0 F 193 i K f C (nI z) = some (0, C)) := by
  have h600 := hT.1
  intro d
  induction d with
  | zero =>
    intro z f h1 h2
    obtain ⟨f, rfl⟩ : ∃ g, f = g + 1 := ⟨f - 1, by omega⟩
    have hz : z = hk_ln i := by omega
    refine ⟨fun _ => ?_, fun q => absurd (fun k h1 h2 => by omega) q⟩
    rw [mX8_isWord_30]
    dsimp only
    rw [pJ0_len hi, Option.bind_some, if_pos (show nI (hk_ln i) ≤ nI z from (nI_leI (by omega) (by omega)).mpr (by omega)), hz]
  | succ d ih =>
    intro z f h1 h2
    obtain ⟨f, rfl⟩ : ∃ g, f = g + 1 := ⟨f - 1, by omega⟩
    have ub : u_b T n (s + z) = T (s + z) := by unfold u_b; rw [if_pos (by omega)]
    have hu : mX8_isWord_30 hk_E0 F 193 i K (f + 1) C (nI z) = if T (s + z) = hk_ch i (nI z) then mX8_isWord_30 hk_E0 F 193 i K f C (nI (z + 1)) else some (0, C) := by
      rw [mX8_isWord_30]
      dsimp only
      rw [pJ0_len hi, Option.bind_some]
      dsimp only
      rw [if_neg (show ¬ nI (hk_ln i) ≤ nI z from nI_ge (by omega) (by omega)), rE_193_0 hE2, Option.bind_some, if_pos (kE_194 hE2), h6, show nI s + nI z = nI (s + z) from nI_add s z, pX4_byteAt hT (by omega), Option.bind_some]
      dsimp only
      rw [pJ0_chr hi (by omega), Option.bind_some, ub, hk_let_eq, nI_1]
    obtain ⟨i1, i2⟩ := ih (z + 1) f (by omega) (by omega)
    rw [hu]
    by_cases q : T (s + z) = hk_ch i (nI z)
    · rw [if_pos q]
      refine ⟨fun g => i1 (fun k h1 h2 => g k (by omega) h2), fun g => i2 (fun g2 => g (fun k h1 h2 => ?_))⟩
      by_cases e : k = z
      · subst e; exact q
      · exact g2 k (by omega) h2
    · rw [if_neg q]
      exact ⟨fun g => absurd (g z (Nat.le_refl _) (by omega)) q, fun _ => rfl⟩
theorem pX8_isWord {F i n p : Nat} {T : Nat → Int32} {C : hk_S} (hF : 1000 ≤ F) (hi : i < 47) (hp : p ≤ n) (hT : k_cT T n C) (h : k_tok T n p C) : mX8_isWord hk_E0 F C 193 i = some (if u_says T n p i = true then 1 else 0, C) := by
  obtain ⟨t1, t2, t3, -⟩ := h
  have h600 := hT.1
  have he := u_e_ge T hp
  have hl := (k_ln_le i hi).1
  unfold mX8_isWord
  rw [t2, if_pos (u_c_ec _)]
  by_cases q0 : u_k T n p = 2
  · rw [if_neg (fun z => z ((u_c_iff _).1.mpr q0)), pJ0_len hi, Option.bind_some]
    dsimp only
    rw [t1, t3, nI_subN he.1]
    by_cases q1 : u_e T n p - u_s T n p = hk_ln i
    · obtain ⟨i1, i2⟩ := pX8_isWord_30 (F := F) (K := fun S13 z14 => some (1, S13)) hi hT t3 (by omega) (hk_ln i) 0 F (by omega) (by omega)
      rw [if_pos (congrArg nI q1)]
      by_cases q2 : ∀ k, k < hk_ln i → T (u_s T n p + k) = hk_ch i (nI k)
      · rw [if_pos ((u_says_iff _ _ _ _).mpr ⟨q0, q1, q2⟩)]
        exact i1 (fun k _ hk => q2 k hk)
      · rw [if_neg (fun z => q2 ((u_says_iff _ _ _ _).mp z).2.2)]
        exact i2 (fun g => q2 (fun k hk => g k (by omega) hk))
    · rw [if_neg (fun z => q1 ((nI_eq (by omega) (by omega)).mp z)), if_neg (fun z => q1 ((u_says_iff _ _ _ _).mp z).2.1)]
  · rw [if_pos (fun z => q0 ((u_c_iff _).1.mp z)), if_neg (fun z => q0 ((u_says_iff _ _ _ _).mp z).1)]
theorem pX12_says_28 {E : hk_E} {F i s n : Nat} {T : Nat → Int32} {K : hk_S → Int32 → Option (Int32 × hk_S)} {M : hk_S} (hE : hk_Sh 231 E) (hi : i < 47) (hT : k_mT T n M) (h6 : M 221 17 = nI s) (hs : s + hk_ln i ≤ n) : ∀ (d z f : Nat), z + d = hk_ln i → d < f → ((∀ k, z ≤ k → k < hk_ln i → T (s + k) = hk_ch i (nI k)) → mX12_says_28 E F 221 i K f M (nI z) = K M (nI (hk_ln i))) ∧ ((¬ ∀ k, z ≤ k → k < hk_ln i → T (s + k) = hk_ch i (nI k)) → mX12_says_28 E F 221 i K f M (nI z) = some (0, M)) := by
  have h600 := hT.1
  intro d
  induction d with
  | zero =>
    intro z f h1 h2
    obtain ⟨f, rfl⟩ : ∃ g, f = g + 1 := ⟨f - 1, by omega⟩
    have hz : z = hk_ln i := by omega
    refine ⟨fun _ => ?_, fun q => absurd (fun k h1 h2 => by omega) q⟩
    rw [mX12_says_28]
    dsimp only
    rw [pJ0_len hi, Option.bind_some, if_pos (show nI (hk_ln i) ≤ nI z from (nI_leI (by omega) (by omega)).mpr (by omega)), hz]
  | succ d ih =>
    intro z f h1 h2
    obtain ⟨f, rfl⟩ : ∃ g, f = g + 1 := ⟨f - 1, by omega⟩
    have hu : mX12_says_28 E F 221 i K (f + 1) M (nI z) = if T (s + z) = hk_ch i (nI z) then mX12_says_28 E F 221 i K f M (nI (z + 1)) else some (0, M) := by
      rw [mX12_says_28]
      dsimp only
      rw [pJ0_len hi, Option.bind_some]
      dsimp only
      rw [if_neg (show ¬ nI (hk_ln i) ≤ nI z from nI_ge (by omega) (by omega)), rE_221_8 hE, Option.bind_some, if_pos (kE_228 hE), lE_228 hE, if_pos (show hk_ok (M 221 17 + nI z) 600 from by rw [h6, nI_add s z]; exact hk_okI (show s + z < 600 by omega) (by omega)), pJ0_chr hi (by omega), Option.bind_some, hk_let_eq, nI_1]
      have e1 : M 228 (M 221 17 + nI z).toNatClampNeg = T (s + z) := by rw [h6, nI_add s z, nI_clamp (by omega), hT.2.2 (s + z) (by omega)]
      simp only [e1]
    obtain ⟨i1, i2⟩ := ih (z + 1) f (by omega) (by omega)
    rw [hu]
    by_cases q : T (s + z) = hk_ch i (nI z)
    · rw [if_pos q]
      refine ⟨fun g => i1 (fun k h1 h2 => g k (by omega) h2), fun g => i2 (fun g2 => g (fun k h1 h2 => ?_))⟩
      by_cases e : k = z
      · subst e; exact q
      · exact g2 k (by omega) h2
    · rw [if_neg q]
      exact ⟨fun g => absurd (g z (Nat.le_refl _) (by omega)) q, fun _ => rfl⟩
theorem pX12_says {E : hk_E} {F i n p : Nat} {T : Nat → Int32} {M : hk_S} (hE : hk_Sh 231 E) (hF : 1000 ≤ F) (hi : i < 47) (hp : p ≤ n) (hT : k_mT T n M) (h : k_mok T n p M) : mX12_says E F M 221 i = some (if u_says T n p i = true then 1 else 0, M) := by
  obtain ⟨t1, t2, t3, -⟩ := h
  have h600 := hT.1
  have he := u_e_ge T hp
  have hl := (k_ln_le i hi).1
  unfold mX12_says
  rw [t2]
  by_cases q0 : u_k T n p = 2
  · rw [if_neg (fun z => z q0), pJ0_len hi, Option.bind_some]
    dsimp only
    rw [t1, t3, nI_subN he.1]
    by_cases q1 : u_e T n p - u_s T n p = hk_ln i
    · obtain ⟨i1, i2⟩ := pX12_says_28 (E := E) (F := F) (K := fun S13 z14 => some (1, S13)) hE hi hT t3 (by omega) (hk_ln i) 0 F (by omega) (by omega)
      rw [if_pos (congrArg nI q1)]
      by_cases q2 : ∀ k, k < hk_ln i → T (u_s T n p + k) = hk_ch i (nI k)
      · rw [if_pos ((u_says_iff _ _ _ _).mpr ⟨q0, q1, q2⟩)]
        exact i1 (fun k _ hk => q2 k hk)
      · rw [if_neg (fun z => q2 ((u_says_iff _ _ _ _).mp z).2.2)]
        exact i2 (fun g => q2 (fun k hk => g k (by omega) hk))
    · rw [if_neg (fun z => q1 ((nI_eq (by omega) (by omega)).mp z)), if_neg (fun z => q1 ((u_says_iff _ _ _ _).mp z).2.1)]
  · rw [if_pos q0, if_neg (fun z => q0 ((u_says_iff _ _ _ _).mp z).1)]
/-- the command that the word at p names -/
def u_cmdF (T : Nat → Int32) (n p : Nat) : Nat → Nat → Int32
  | 0, _ => -1
  | d + 1, z => if u_says T n p (13 + z) = true then nI z else u_cmdF T n p d (z + 1)
def u_cmd (T : Nat → Int32) (n p : Nat) : Int32 := u_cmdF T n p 15 0
theorem hk_wdB : ∀ z, z < 15 → hk_wd.getD z 0 < 47 ∧ ((hk_str[hk_wd.getD z 0]?).getD ("", 0, "", [])).2.2.2 = ((hk_str[13 + z]?).getD ("", 0, "", [])).2.2.2 := by decide +kernel
theorem pX8_commandHere_2 {F n p : Nat} {T : Nat → Int32} {C : hk_S} (hF : 1000 ≤ F) (hp : p ≤ n) (hT : k_cT T n C) (h : k_tok T n p C) : ∀ (d z f : Nat), z + d = 15 → d < f → mX8_commandHere_2 hk_E0 F 193 (fun S9 _ => some (-1, S9)) f C (nI z) = some (u_cmdF T n p d z, C) := by
  intro d
  induction d with
  | zero =>
    intro z f h1 h2
    obtain ⟨f, rfl⟩ : ∃ g, f = g + 1 := ⟨f - 1, by omega⟩
    have hz : z = 15 := by omega
    rw [mX8_commandHere_2, u_cmdF]
    dsimp only
    rw [if_pos (show (15 : Int32) ≤ nI z from (nI_leI (a := 15) (by omega) (by omega)).mpr (by omega))]
  | succ d ih =>
    intro z f h1 h2
    obtain ⟨f, rfl⟩ : ∃ g, f = g + 1 := ⟨f - 1, by omega⟩
    have hz : z < 15 := by omega
    rw [mX8_commandHere_2, u_cmdF]
    dsimp only
    rw [if_neg (show ¬ (15 : Int32) ≤ nI z from nI_ge (a := z) (b := 15) hz (by omega)), if_pos (hk_okI hz (by omega)), if_pos (hk_okI hz (by omega)), show mX8_isWord hk_E0 F C 193 (hk_wd.getD (nI z).toNatClampNeg 0) = some (if u_says T n p (hk_wd.getD z 0) = true then 1 else 0, C) from (by rw [nI_clamp (by omega)]; exact pX8_isWord hF (hk_wdB z hz).1 hp hT h), Option.bind_some, u_says_eq (hk_wdB z hz).2, hk_let_eq, nI_1]
    dsimp only
    by_cases q : u_says T n p (13 + z) = true
    · rw [if_pos q, if_neg (by decide), if_pos (hk_okI hz (by omega)), if_pos q]
    · rw [if_neg q, if_pos rfl, if_neg q]
      exact ih (z + 1) f (by omega) (by omega)
theorem pX8_commandHere {F n p : Nat} {T : Nat → Int32} {C : hk_S} (hF : 1000 ≤ F) (hp : p ≤ n) (hT : k_cT T n C) (h : k_tok T n p C) : mX8_commandHere hk_E0 F C 193 = some (u_cmd T n p, C) := by
  unfold mX8_commandHere
  exact pX8_commandHere_2 hF hp hT h 15 0 F (by omega) (by omega)
theorem k_bb (b : Bool) {α : Type} (X Y : α) : (if (if b = true then (1 : Int32) else 0) = 0 then X else Y) = if b = true then Y else X := by
  cases b <;> rfl
theorem k_pair {c : Prop} [Decidable c] {x y : Int32} {S : hk_S} : (if c then some (x, S) else some (y, S)) = some ((if c then x else y), S) := by
  by_cases h : c
  · rw [if_pos h, if_pos h]
  · rw [if_neg h, if_neg h]
theorem pX12_wordAhead {E : hk_E} {F n p : Nat} {T : Nat → Int32} {M : hk_S} (hE : hk_Sh 231 E) (hF : 1000 ≤ F) (hp : p ≤ n) (hT : k_mT T n M) (h : k_mok T n p M) : mX12_wordAhead E F M 221 = some (u_cmd T n p, M) := by
  have hs : ∀ i, i < 47 → mX12_says E F M 221 i = some (if u_says T n p i = true then 1 else 0, M) := fun i hi => pX12_says hE hF hi hp hT h
  have hl : mX12_laterWord E F M 221 = some (u_cmdF T n p 7 8, M) := by
    unfold mX12_laterWord
    rw [hs 21 (by decide), Option.bind_some, k_bb]
    dsimp only
    rw [hs 22 (by decide), Option.bind_some, k_bb]
    dsimp only
    rw [hs 23 (by decide), Option.bind_some, k_bb]
    dsimp only
    rw [hs 24 (by decide), Option.bind_some, k_bb]
    dsimp only
    rw [hs 25 (by decide), Option.bind_some, k_bb]
    dsimp only
    rw [hs 26 (by decide), Option.bind_some, k_bb]
    dsimp only
    rw [hs 27 (by decide), Option.bind_some, k_bb]
    dsimp only
    simp only [k_pair]
    rfl
  unfold mX12_wordAhead
  rw [hs 13 (by decide), Option.bind_some, k_bb]
  dsimp only
  rw [hs 14 (by decide), Option.bind_some, k_bb]
  dsimp only
  rw [hs 15 (by decide), Option.bind_some, k_bb]
  dsimp only
  rw [hs 16 (by decide), Option.bind_some, k_bb]
  dsimp only
  rw [hs 17 (by decide), Option.bind_some, k_bb]
  dsimp only
  rw [hs 18 (by decide), Option.bind_some, k_bb]
  dsimp only
  rw [hs 19 (by decide), Option.bind_some, k_bb]
  dsimp only
  rw [hs 20 (by decide), Option.bind_some, k_bb]
  dsimp only
  rw [hl, Option.bind_some]
  dsimp only
  simp only [k_pair]
  rfl
