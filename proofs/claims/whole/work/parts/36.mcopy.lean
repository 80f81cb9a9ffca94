/-! the model copies its row -/
/-- a row whose numbers from z on are another's -/
def a_cp (W w : Nat → Int32) (z : Nat) : Nat → Int32 := fun i => if z ≤ i ∧ i < 107 then W i else w i
theorem a_cp_end (W w : Nat → Int32) : a_cp W w 107 = w := by
  funext i
  unfold a_cp
  rw [if_neg (by omega)]
theorem a_cp_step (W w : Nat → Int32) {z : Nat} (hz : z < 107) : a_cp W (upd w z (W z)) (z + 1) = a_cp W w z := by
  funext i
  unfold a_cp
  rw [upd_at]
  by_cases h : i = z
  · rw [if_neg (by omega), if_pos h, if_pos (by omega), h]
  · by_cases h2 : z ≤ i ∧ i < 107
    · rw [if_pos (by omega), if_pos h2]
    · rw [if_neg (by omega), if_neg h, if_neg h2]
theorem a_cp_lt {W w : Nat → Int32} {i : Nat} (h : i < 107) : a_cp W w 0 i = W i := by
  unfold a_cp
  rw [if_pos (by omega)]
theorem pX12_setAside_2 {E : hk_E} {F : Nat} {K : hk_S → Int32 → Option (hk_S)} (hE : hk_Sh 231 E) : ∀ (d z f : Nat) (S : hk_S), z + d = 107 → d < f → mX12_setAside_2 E F 221 K f S (nI z) = K (va_up S 224 (a_cp (S 222) (S 224) z)) (nI 107) := by
  intro d
  induction d with
  | zero =>
    intro z f S h1 h2
    obtain ⟨f, rfl⟩ : ∃ g, f = g + 1 := ⟨f - 1, by omega⟩
    have hz : z = 107 := by omega
    subst hz
    rw [mX12_setAside_2]
    dsimp only
    rw [if_pos (by decide), a_cp_end, k_up_same]
  | succ d ih =>
    intro z f S h1 h2
    obtain ⟨f, rfl⟩ : ∃ g, f = g + 1 := ⟨f - 1, by omega⟩
    rw [mX12_setAside_2]
    dsimp only
    rw [if_neg (show ¬ (107 : Int32) ≤ nI z from nI_ge (a := z) (b := 107) (by omega) (by omega)), rE_221_2 hE, Option.bind_some, if_pos (kE_224 hE), rE_221_0 hE, Option.bind_some, if_pos (kE_222 hE), lE_222 hE, lE_224 hE, if_pos (hk_okI (by omega) (by omega)), if_pos (hk_okI (by omega) (by omega)), nI_clamp (by omega), hk_let_eq, hk_let_eq, nI_1, ih (z + 1) f _ (by omega) (by omega), k_hk_up, k_upup, va_up_self, va_up_ne _ _ (by decide), a_cp_step _ _ (by omega)]
theorem pX12_bringBack_2 {E : hk_E} {F : Nat} {K : hk_S → Int32 → Option (hk_S)} (hE : hk_Sh 231 E) : ∀ (d z f : Nat) (S : hk_S), z + d = 107 → d < f → mX12_bringBack_2 E F 221 K f S (nI z) = K (va_up S 222 (a_cp (S 224) (S 222) z)) (nI 107) := by
  intro d
  induction d with
  | zero =>
    intro z f S h1 h2
    obtain ⟨f, rfl⟩ : ∃ g, f = g + 1 := ⟨f - 1, by omega⟩
    have hz : z = 107 := by omega
    subst hz
    rw [mX12_bringBack_2]
    dsimp only
    rw [if_pos (by decide), a_cp_end, k_up_same]
  | succ d ih =>
    intro z f S h1 h2
    obtain ⟨f, rfl⟩ : ∃ g, f = g + 1 := ⟨f - 1, by omega⟩
    rw [mX12_bringBack_2]
    dsimp only
    rw [if_neg (show ¬ (107 : Int32) ≤ nI z from nI_ge (a := z) (b := 107) (by omega) (by omega)), rE_221_0 hE, Option.bind_some, if_pos (kE_222 hE), rE_221_2 hE, Option.bind_some, if_pos (kE_224 hE), lE_224 hE, lE_222 hE, if_pos (hk_okI (by omega) (by omega)), if_pos (hk_okI (by omega) (by omega)), nI_clamp (by omega), hk_let_eq, hk_let_eq, nI_1, ih (z + 1) f _ (by omega) (by omega), k_hk_up, k_upup, va_up_self, va_up_ne _ _ (by decide), a_cp_step _ _ (by omega)]
theorem pX12_begins_2 {E : hk_E} {F : Nat} {K : hk_S → Int32 → Option (hk_S)} (hE : hk_Sh 231 E) : ∀ (d z f : Nat) (S : hk_S), z + d = 107 → d < f → mX12_begins_2 E F 221 K f S (nI z) = K (va_up S 223 (a_cp (S 222) (S 223) z)) (nI 107) := by
  intro d
  induction d with
  | zero =>
    intro z f S h1 h2
    obtain ⟨f, rfl⟩ : ∃ g, f = g + 1 := ⟨f - 1, by omega⟩
    have hz : z = 107 := by omega
    subst hz
    rw [mX12_begins_2]
    dsimp only
    rw [if_pos (by decide), a_cp_end, k_up_same]
  | succ d ih =>
    intro z f S h1 h2
    obtain ⟨f, rfl⟩ : ∃ g, f = g + 1 := ⟨f - 1, by omega⟩
    rw [mX12_begins_2]
    dsimp only
    rw [if_neg (show ¬ (107 : Int32) ≤ nI z from nI_ge (a := z) (b := 107) (by omega) (by omega)), rE_221_1 hE, Option.bind_some, if_pos (kE_223 hE), rE_221_0 hE, Option.bind_some, if_pos (kE_222 hE), lE_222 hE, lE_223 hE, if_pos (hk_okI (by omega) (by omega)), if_pos (hk_okI (by omega) (by omega)), nI_clamp (by omega), hk_let_eq, hk_let_eq, nI_1, ih (z + 1) f _ (by omega) (by omega), k_hk_up, k_upup, va_up_self, va_up_ne _ _ (by decide), a_cp_step _ _ (by omega)]
theorem pX12_saveSnapshot_12 {E : hk_E} {F : Nat} {K : hk_S → Int32 → Option (Int32 × hk_S)} (hE : hk_Sh 231 E) : ∀ (d z f : Nat) (S : hk_S), z + d = 107 → d < f → mX12_saveSnapshot_12 E F 221 K f S (nI z) = K (va_up S 226 (a_cp (S 222) (S 226) z)) (nI 107) := by
  intro d
  induction d with
  | zero =>
    intro z f S h1 h2
    obtain ⟨f, rfl⟩ : ∃ g, f = g + 1 := ⟨f - 1, by omega⟩
    have hz : z = 107 := by omega
    subst hz
    rw [mX12_saveSnapshot_12]
    dsimp only
    rw [if_pos (by decide), a_cp_end, k_up_same]
  | succ d ih =>
    intro z f S h1 h2
    obtain ⟨f, rfl⟩ : ∃ g, f = g + 1 := ⟨f - 1, by omega⟩
    rw [mX12_saveSnapshot_12]
    dsimp only
    rw [if_neg (show ¬ (107 : Int32) ≤ nI z from nI_ge (a := z) (b := 107) (by omega) (by omega)), rE_221_4 hE, Option.bind_some, if_pos (kE_226 hE), rE_221_0 hE, Option.bind_some, if_pos (kE_222 hE), lE_222 hE, lE_226 hE, if_pos (hk_okI (by omega) (by omega)), if_pos (hk_okI (by omega) (by omega)), nI_clamp (by omega), hk_let_eq, hk_let_eq, nI_1, ih (z + 1) f _ (by omega) (by omega), k_hk_up, k_upup, va_up_self, va_up_ne _ _ (by decide), a_cp_step _ _ (by omega)]
theorem pX12_restoreSnapshot_23 {E : hk_E} {F : Nat} {K : hk_S → Int32 → Option (Int32 × hk_S)} (hE : hk_Sh 231 E) : ∀ (d z f : Nat) (S : hk_S), z + d = 107 → d < f → mX12_restoreSnapshot_23 E F 221 K f S (nI z) = K (va_up S 222 (a_cp (S 226) (S 222) z)) (nI 107) := by
  intro d
  induction d with
  | zero =>
    intro z f S h1 h2
    obtain ⟨f, rfl⟩ : ∃ g, f = g + 1 := ⟨f - 1, by omega⟩
    have hz : z = 107 := by omega
    subst hz
    rw [mX12_restoreSnapshot_23]
    dsimp only
    rw [if_pos (by decide), a_cp_end, k_up_same]
  | succ d ih =>
    intro z f S h1 h2
    obtain ⟨f, rfl⟩ : ∃ g, f = g + 1 := ⟨f - 1, by omega⟩
    rw [mX12_restoreSnapshot_23]
    dsimp only
    rw [if_neg (show ¬ (107 : Int32) ≤ nI z from nI_ge (a := z) (b := 107) (by omega) (by omega)), rE_221_0 hE, Option.bind_some, if_pos (kE_222 hE), rE_221_4 hE, Option.bind_some, if_pos (kE_226 hE), lE_226 hE, lE_222 hE, if_pos (hk_okI (by omega) (by omega)), if_pos (hk_okI (by omega) (by omega)), nI_clamp (by omega), hk_let_eq, hk_let_eq, nI_1, ih (z + 1) f _ (by omega) (by omega), k_hk_up, k_upup, va_up_self, va_up_ne _ _ (by decide), a_cp_step _ _ (by omega)]
theorem pX12_runScript_59 {E : hk_E} {F : Nat} {K : hk_S → Int32 → Option (Int32 × hk_S)} (hE : hk_Sh 231 E) : ∀ (d z f : Nat) (S : hk_S), z + d = 107 → d < f → mX12_runScript_59 E F 221 K f S (nI z) = K (va_up S 222 (a_cp (S 223) (S 222) z)) (nI 107) := by
  intro d
  induction d with
  | zero =>
    intro z f S h1 h2
    obtain ⟨f, rfl⟩ : ∃ g, f = g + 1 := ⟨f - 1, by omega⟩
    have hz : z = 107 := by omega
    subst hz
    rw [mX12_runScript_59]
    dsimp only
    rw [if_pos (by decide), a_cp_end, k_up_same]
  | succ d ih =>
    intro z f S h1 h2
    obtain ⟨f, rfl⟩ : ∃ g, f = g + 1 := ⟨f - 1, by omega⟩
    rw [mX12_runScript_59]
    dsimp only
    rw [if_neg (show ¬ (107 : Int32) ≤ nI z from nI_ge (a := z) (b := 107) (by omega) (by omega)), rE_221_0 hE, Option.bind_some, if_pos (kE_222 hE), rE_221_1 hE, Option.bind_some, if_pos (kE_223 hE), lE_223 hE, lE_222 hE, if_pos (hk_okI (by omega) (by omega)), if_pos (hk_okI (by omega) (by omega)), nI_clamp (by omega), hk_let_eq, hk_let_eq, nI_1, ih (z + 1) f _ (by omega) (by omega), k_hk_up, k_upup, va_up_self, va_up_ne _ _ (by decide), a_cp_step _ _ (by omega)]
theorem pX12_setAside {E : hk_E} {F : Nat} {S : hk_S} (hE : hk_Sh 231 E) (hF : 109 ≤ F) : mX12_setAside E F S 221 = some (va_up S 224 (a_cp (S 222) (S 224) 0)) := by
  unfold mX12_setAside
  exact pX12_setAside_2 (F := F) hE 107 0 F S (by omega) (by omega)
theorem pX12_bringBack {E : hk_E} {F : Nat} {S : hk_S} (hE : hk_Sh 231 E) (hF : 109 ≤ F) : mX12_bringBack E F S 221 = some (va_up S 222 (a_cp (S 224) (S 222) 0)) := by
  unfold mX12_bringBack
  exact pX12_bringBack_2 (F := F) hE 107 0 F S (by omega) (by omega)
theorem pX12_begins {E : hk_E} {F : Nat} {S : hk_S} (hE : hk_Sh 231 E) (hF : 109 ≤ F) : mX12_begins E F S 221 = some (va_up S 223 (a_cp (S 222) (S 223) 0)) := by
  unfold mX12_begins
  exact pX12_begins_2 (F := F) hE 107 0 F S (by omega) (by omega)
/-! the model's past: up to 8 rows, one behind the other -/
theorem k_i107 (c z : Nat) : (107 : Int32) * nI c + nI z = nI (107 * c + z) := by
  show nI 107 * nI c + nI z = _
  rw [nI_mul, nI_add]
def a_slot (W P : Nat → Int32) (c z : Nat) : Nat → Int32 := fun i => if 107 * c + z ≤ i ∧ i < 107 * c + 107 then W (i - 107 * c) else P i
theorem pX12_remember_52 {E : hk_E} {F : Nat} {x1 : Int32} {K : hk_S → Int32 → Option (Int32 × hk_S)} {c : Nat} (hE : hk_Sh 231 E) (hc : c < 8) : ∀ (d z f : Nat) (S : hk_S), z + d = 107 → d < f → S 221 5 = nI c → mX12_remember_52 E F 221 x1 K f S (nI z) = K (va_up S 225 (a_slot (S 223) (S 225) c z)) (nI 107) := by
  intro d
  induction d with
  | zero =>
    intro z f S h1 h2 h3
    obtain ⟨f, rfl⟩ : ∃ g, f = g + 1 := ⟨f - 1, by omega⟩
    have hz : z = 107 := by omega
    subst hz
    have e : a_slot (S 223) (S 225) c 107 = S 225 := by
      funext i
      unfold a_slot
      rw [if_neg (by omega)]
    rw [mX12_remember_52]
    dsimp only
    rw [if_pos (by decide), e, k_up_same]
  | succ d ih =>
    intro z f S h1 h2 h3
    obtain ⟨f, rfl⟩ : ∃ g, f = g + 1 := ⟨f - 1, by omega⟩
    have e : a_slot (S 223) (upd (S 225) (107 * c + z) (S 223 z)) c (z + 1) = a_slot (S 223) (S 225) c z := by
      funext i
      unfold a_slot
      rw [upd_at]
      by_cases h : i = 107 * c + z
      · rw [if_neg (by omega), if_pos h, if_pos (by omega)]
        congr 1
        omega
      · by_cases h2 : 107 * c + z ≤ i ∧ i < 107 * c + 107
        · rw [if_pos (by omega), if_pos h2]
        · rw [if_neg (by omega), if_neg h, if_neg h2]
    rw [mX12_remember_52]
    dsimp only
    rw [if_neg (show ¬ (107 : Int32) ≤ nI z from nI_ge (a := z) (b := 107) (by omega) (by omega)), rE_221_3 hE, Option.bind_some, if_pos (kE_225 hE), rE_221_1 hE, Option.bind_some, if_pos (kE_223 hE), lE_223 hE, lE_225 hE, h3, k_i107, if_pos (hk_okI (by omega) (by omega)), if_pos (hk_okI (by omega) (by omega)), nI_clamp (by omega), nI_clamp (by omega), hk_let_eq, hk_let_eq, nI_1, ih (z + 1) f _ (by omega) (by omega) (by rw [k_hk_up, va_up_ne _ _ (by decide)]; exact h3), k_hk_up, k_upup, va_up_self, va_up_ne _ _ (by decide), e]
def a_shift (P : Nat → Int32) (z : Nat) : Nat → Int32 := fun i => if z - 107 ≤ i ∧ i < 749 then P (i + 107) else P i
theorem pX12_remember_12 {E : hk_E} {F : Nat} {x1 : Int32} {K : hk_S → Int32 → Option (Int32 × hk_S)} {P : Nat → Int32} (hE : hk_Sh 231 E) : ∀ (d z f : Nat) (S : hk_S), z + d = 856 → 107 ≤ z → d < f → S 225 = (fun i => if i < z - 107 then P (i + 107) else P i) → mX12_remember_12 E F 221 x1 K f S (nI z) = K (va_up S 225 (fun i => if i < 749 then P (i + 107) else P i)) (nI 856) := by
  intro d
  induction d with
  | zero =>
    intro z f S h1 h107 h2 h3
    obtain ⟨f, rfl⟩ : ∃ g, f = g + 1 := ⟨f - 1, by omega⟩
    have hz : z = 856 := by omega
    subst hz
    rw [mX12_remember_12]
    dsimp only
    rw [if_pos (by decide), ← h3, k_up_same]
  | succ d ih =>
    intro z f S h1 h107 h2 h3
    obtain ⟨f, rfl⟩ : ∃ g, f = g + 1 := ⟨f - 1, by omega⟩
    have es : nI z - 107 = nI (z - 107) := by
      have h : nI z = nI (z - 107) + 107 := by
        rw [show (107 : Int32) = nI 107 from rfl, nI_add]
        congr 1
        omega
      rw [h]
      grind
    have e : upd (S 225) (z - 107) (S 225 z) = (fun i => if i < z + 1 - 107 then P (i + 107) else P i) := by
      funext i
      rw [upd_at, h3]
      dsimp only
      by_cases h : i = z - 107
      · rw [if_pos h, if_neg (by omega), if_pos (by omega)]
        congr 1
        omega
      · rw [if_neg h]
        by_cases h2 : i < z - 107
        · rw [if_pos h2, if_pos (by omega)]
        · rw [if_neg h2, if_neg (by omega)]
    rw [mX12_remember_12]
    dsimp only
    rw [if_neg (show ¬ (856 : Int32) ≤ nI z from nI_ge (a := z) (b := 856) (by omega) (by omega)), rE_221_3 hE, Option.bind_some, if_pos (kE_225 hE), lE_225 hE, if_pos (hk_okI (by omega) (by omega)), es, if_pos (hk_okI (by omega) (by omega)), nI_clamp (by omega), nI_clamp (by omega), hk_let_eq, hk_let_eq, nI_1, k_hk_up, ih (z + 1) f _ (by omega) (by omega) (by omega) (by rw [va_up_self]; exact e), k_upup]
/-- the past with a row more -/
def a_past (W P : Nat → Int32) (c : Nat) : Nat → Int32 := if c = 8 then a_slot W (fun i => if i < 749 then P (i + 107) else P i) 7 0 else a_slot W P c 0
theorem pX12_remember {E : hk_E} {F : Nat} {S : hk_S} {x : Int32} {c : Nat} (hE : hk_Sh 231 E) (hF : 1000 ≤ F) (hc : c ≤ 8) (h5 : S 221 5 = nI c) : mX12_remember E F S 221 x = some (x, hk_up (va_up S 225 (a_past (S 223) (S 225) c)) 221 5 (nI (min (c + 1) 8))) := by
  unfold mX12_remember a_past
  rw [h5]
  by_cases h8 : c = 8
  · subst h8
    rw [if_neg (by decide), show (107 : Int32) = nI 107 from rfl, pX12_remember_12 (F := F) (P := S 225) hE 749 107 F S (by omega) (by omega) (by omega) (by funext i; rw [if_neg (by omega)])]
    rw [hk_let_eq, va_up_ne _ _ (by decide), h5, show nI 8 - 1 = nI 7 from nI_pred 7, show (0 : Int32) = nI 0 from rfl, pX12_remember_52 (F := F) (c := 7) hE (by omega) 107 0 F _ (by omega) (by omega) (by rw [hk_up_eq, if_pos rfl])]
    rw [hk_let_eq, va_up_ne _ _ (by decide), hk_up_eq, if_pos rfl, nI_1, if_pos rfl, hk_upne _ _ _ (by decide), hk_upne _ _ _ (by decide), va_up_ne _ _ (by decide), va_up_self]
    congr 2
    funext a k
    simp only [hk_up_at, va_up, upd]
    by_cases ha : a = 221
    · subst ha
      by_cases hk : k = 5 <;> simp [hk, hk_up_at, va_up]
    · by_cases ha2 : a = 225 <;> simp [ha, ha2, hk_up_at, va_up]
  · have hne : ¬ nI c = 8 := fun q => h8 ((nI_eq (b := 8) (by omega) (by omega)).mp q)
    rw [if_pos hne, show (0 : Int32) = nI 0 from rfl, pX12_remember_52 (F := F) hE (by omega) 107 0 F S (by omega) (by omega) h5]
    rw [hk_let_eq, va_up_ne _ _ (by decide), h5, nI_1, if_neg h8, Nat.min_eq_left (by omega)]
def a_from (P w : Nat → Int32) (c z : Nat) : Nat → Int32 := fun i => if z ≤ i ∧ i < 107 then P (107 * c + i) else w i
theorem pX12_undo_26 {E : hk_E} {F : Nat} {K : hk_S → Int32 → Option (Int32 × hk_S)} {c : Nat} (hE : hk_Sh 231 E) (hc : c < 8) : ∀ (d z f : Nat) (S : hk_S), z + d = 107 → d < f → S 221 5 = nI c → mX12_undo_26 E F 221 K f S (nI z) = K (va_up S 222 (a_from (S 225) (S 222) c z)) (nI 107) := by
  intro d
  induction d with
  | zero =>
    intro z f S h1 h2 h3
    obtain ⟨f, rfl⟩ : ∃ g, f = g + 1 := ⟨f - 1, by omega⟩
    have hz : z = 107 := by omega
    subst hz
    have e : a_from (S 225) (S 222) c 107 = S 222 := by
      funext i
      unfold a_from
      rw [if_neg (by omega)]
    rw [mX12_undo_26]
    dsimp only
    rw [if_pos (by decide), e, k_up_same]
  | succ d ih =>
    intro z f S h1 h2 h3
    obtain ⟨f, rfl⟩ : ∃ g, f = g + 1 := ⟨f - 1, by omega⟩
    have e : a_from (S 225) (upd (S 222) z (S 225 (107 * c + z))) c (z + 1) = a_from (S 225) (S 222) c z := by
      funext i
      unfold a_from
      rw [upd_at]
      by_cases h : i = z
      · rw [if_neg (by omega), if_pos h, if_pos (by omega), h]
      · by_cases h2 : z ≤ i ∧ i < 107
        · rw [if_pos (by omega), if_pos h2]
        · rw [if_neg (by omega), if_neg h, if_neg h2]
    rw [mX12_undo_26]
    dsimp only
    rw [if_neg (show ¬ (107 : Int32) ≤ nI z from nI_ge (a := z) (b := 107) (by omega) (by omega)), rE_221_0 hE, Option.bind_some, if_pos (kE_222 hE), rE_221_3 hE, Option.bind_some, if_pos (kE_225 hE), lE_222 hE, lE_225 hE, h3, k_i107, if_pos (hk_okI (by omega) (by omega)), if_pos (hk_okI (by omega) (by omega)), nI_clamp (by omega), nI_clamp (by omega), hk_let_eq, hk_let_eq, nI_1, ih (z + 1) f _ (by omega) (by omega) (by rw [k_hk_up, va_up_ne _ _ (by decide)]; exact h3), k_hk_up, k_upup, va_up_self, va_up_ne _ _ (by decide), e]
