/-! pure rows: numbers, lookups, shapes -/
theorem kl_ge_1 {t : Nat} (ht : t < 2 ^ 31) : ((1 : Int32) ≤ nI t) = (1 ≤ t) := propext (nI_leI (a := 1) (by omega) ht)
theorem kl_ge_2 {t : Nat} (ht : t < 2 ^ 31) : ((2 : Int32) ≤ nI t) = (2 ≤ t) := propext (nI_leI (a := 2) (by omega) ht)
theorem kl_ge_3 {t : Nat} (ht : t < 2 ^ 31) : ((3 : Int32) ≤ nI t) = (3 ≤ t) := propext (nI_leI (a := 3) (by omega) ht)
theorem kl_ge_4 {t : Nat} (ht : t < 2 ^ 31) : ((4 : Int32) ≤ nI t) = (4 ≤ t) := propext (nI_leI (a := 4) (by omega) ht)
theorem kl_ge_5 {t : Nat} (ht : t < 2 ^ 31) : ((5 : Int32) ≤ nI t) = (5 ≤ t) := propext (nI_leI (a := 5) (by omega) ht)
theorem kl_ge_6 {t : Nat} (ht : t < 2 ^ 31) : ((6 : Int32) ≤ nI t) = (6 ≤ t) := propext (nI_leI (a := 6) (by omega) ht)
theorem kl_ge_7 {t : Nat} (ht : t < 2 ^ 31) : ((7 : Int32) ≤ nI t) = (7 ≤ t) := propext (nI_leI (a := 7) (by omega) ht)
theorem kl_ge_8 {t : Nat} (ht : t < 2 ^ 31) : ((8 : Int32) ≤ nI t) = (8 ≤ t) := propext (nI_leI (a := 8) (by omega) ht)
theorem kl_ge_9 {t : Nat} (ht : t < 2 ^ 31) : ((9 : Int32) ≤ nI t) = (9 ≤ t) := propext (nI_leI (a := 9) (by omega) ht)
theorem kl_ge_20 {t : Nat} (ht : t < 2 ^ 31) : ((20 : Int32) ≤ nI t) = (20 ≤ t) := propext (nI_leI (a := 20) (by omega) ht)
theorem kl_ge_24 {t : Nat} (ht : t < 2 ^ 31) : ((24 : Int32) ≤ nI t) = (24 ≤ t) := propext (nI_leI (a := 24) (by omega) ht)
theorem kl_ge_88 {t : Nat} (ht : t < 2 ^ 31) : ((88 : Int32) ≤ nI t) = (88 ≤ t) := propext (nI_leI (a := 88) (by omega) ht)
theorem kl_ge_107 {t : Nat} (ht : t < 2 ^ 31) : ((107 : Int32) ≤ nI t) = (107 ≤ t) := propext (nI_leI (a := 107) (by omega) ht)
theorem kl_ge_120 {t : Nat} (ht : t < 2 ^ 31) : ((120 : Int32) ≤ nI t) = (120 ≤ t) := propext (nI_leI (a := 120) (by omega) ht)
theorem kl_ge_200 {t : Nat} (ht : t < 2 ^ 31) : ((200 : Int32) ≤ nI t) = (200 ≤ t) := propext (nI_leI (a := 200) (by omega) ht)
theorem kl_ge_600 {t : Nat} (ht : t < 2 ^ 31) : ((600 : Int32) ≤ nI t) = (600 ≤ t) := propext (nI_leI (a := 600) (by omega) ht)
theorem kl_ge_856 {t : Nat} (ht : t < 2 ^ 31) : ((856 : Int32) ≤ nI t) = (856 ≤ t) := propext (nI_leI (a := 856) (by omega) ht)
theorem kl_neg {t : Nat} (ht : t < 2 ^ 31) : (nI t < 0) = False := eq_false (nI_pos ht)
theorem hk_up_at (S : hk_S) (a k : Nat) (v : Int32) (b j : Nat) : hk_up S a k v b j = if b = a ∧ j = k then v else S b j := by
  unfold hk_up va_up upd
  by_cases h : b = a
  · subst h
    by_cases hj : j = k
    · simp [hj]
    · simp [hj]
  · simp [h]
theorem hk_let_eq {α β : Type} (x : α) (f : α → Option β) : hk_let x f = f x := rfl
theorem hk_okI {t n : Nat} (h : t < n) (hn : n < 2 ^ 31) : hk_ok (nI t) n := nI_in h hn
/-- a heap's shape below n -/
def hk_Sh (n : Nat) (E : hk_E) : Prop := (∀ a, a < n → E.2.1 a = hk_KT.getD a 0) ∧ (∀ a, E.2.2.1 a = hk_LT.getD a 0) ∧ (∀ a k, a < n → E.2.2.2 a k = hk_ref hk_RT a k)
theorem kE_0 {E : hk_E} (h : hk_Sh 221 E) : E.2.1 0 = 9 := (h.1 0 (by decide)).trans (by decide +kernel)
theorem kE_39 {E : hk_E} (h : hk_Sh 221 E) : E.2.1 39 = 2 := (h.1 39 (by decide)).trans (by decide +kernel)
theorem kE_40 {E : hk_E} (h : hk_Sh 221 E) : E.2.1 40 = 14 := (h.1 40 (by decide)).trans (by decide +kernel)
theorem lE_40 {E : hk_E} (h : hk_Sh 221 E) : E.2.2.1 40 = 8 := (h.2.1 40).trans (by decide +kernel)
theorem kE_193 {E : hk_E} (h : hk_Sh 221 E) : E.2.1 193 = 7 := (h.1 193 (by decide)).trans (by decide +kernel)
theorem kE_194 {E : hk_E} (h : hk_Sh 221 E) : E.2.1 194 = 3 := (h.1 194 (by decide)).trans (by decide +kernel)
theorem kE_195 {E : hk_E} (h : hk_Sh 221 E) : E.2.1 195 = 11 := (h.1 195 (by decide)).trans (by decide +kernel)
theorem lE_195 {E : hk_E} (h : hk_Sh 221 E) : E.2.2.1 195 = 600 := (h.2.1 195).trans (by decide +kernel)
theorem kE_215 {E : hk_E} (h : hk_Sh 221 E) : E.2.1 215 = 13 := (h.1 215 (by decide)).trans (by decide +kernel)
theorem lE_215 {E : hk_E} (h : hk_Sh 221 E) : E.2.2.1 215 = 4 := (h.2.1 215).trans (by decide +kernel)
theorem kE_216 {E : hk_E} (h : hk_Sh 221 E) : E.2.1 216 = 13 := (h.1 216 (by decide)).trans (by decide +kernel)
theorem lE_216 {E : hk_E} (h : hk_Sh 221 E) : E.2.2.1 216 = 2 := (h.2.1 216).trans (by decide +kernel)
theorem kE_217 {E : hk_E} (h : hk_Sh 221 E) : E.2.1 217 = 13 := (h.1 217 (by decide)).trans (by decide +kernel)
theorem lE_217 {E : hk_E} (h : hk_Sh 221 E) : E.2.2.1 217 = 2 := (h.2.1 217).trans (by decide +kernel)
theorem kE_218 {E : hk_E} (h : hk_Sh 221 E) : E.2.1 218 = 6 := (h.1 218 (by decide)).trans (by decide +kernel)
theorem kE_219 {E : hk_E} (h : hk_Sh 221 E) : E.2.1 219 = 11 := (h.1 219 (by decide)).trans (by decide +kernel)
theorem lE_219 {E : hk_E} (h : hk_Sh 221 E) : E.2.2.1 219 = 88 := (h.2.1 219).trans (by decide +kernel)
theorem kE_220 {E : hk_E} (h : hk_Sh 221 E) : E.2.1 220 = 8 := (h.1 220 (by decide)).trans (by decide +kernel)
theorem rE_0_0 {E : hk_E} (h : hk_Sh 221 E) : E.2.2.2 0 0 = some 1 := (h.2.2 0 0 (by decide)).trans (by decide +kernel)
theorem rE_0_1 {E : hk_E} (h : hk_Sh 221 E) : E.2.2.2 0 1 = some 20 := (h.2.2 0 1 (by decide)).trans (by decide +kernel)
theorem rE_39_0 {E : hk_E} (h : hk_Sh 221 E) : E.2.2.2 39 0 = some 40 := (h.2.2 39 0 (by decide)).trans (by decide +kernel)
theorem rE_0_3 {E : hk_E} (h : hk_Sh 221 E) : E.2.2.2 0 3 = some 39 := (h.2.2 0 3 (by decide)).trans (by decide +kernel)
theorem rE_194_0 {E : hk_E} (h : hk_Sh 221 E) : E.2.2.2 194 0 = some 195 := (h.2.2 194 0 (by decide)).trans (by decide +kernel)
theorem rE_193_0 {E : hk_E} (h : hk_Sh 221 E) : E.2.2.2 193 0 = some 194 := (h.2.2 193 0 (by decide)).trans (by decide +kernel)
theorem rE_193_1 {E : hk_E} (h : hk_Sh 221 E) : E.2.2.2 193 1 = some 196 := (h.2.2 193 1 (by decide)).trans (by decide +kernel)
theorem rE_193_8 {E : hk_E} (h : hk_Sh 221 E) : E.2.2.2 193 8 = some 215 := (h.2.2 193 8 (by decide)).trans (by decide +kernel)
theorem rE_193_12 {E : hk_E} (h : hk_Sh 221 E) : E.2.2.2 193 12 = some 216 := (h.2.2 193 12 (by decide)).trans (by decide +kernel)
theorem rE_193_13 {E : hk_E} (h : hk_Sh 221 E) : E.2.2.2 193 13 = some 217 := (h.2.2 193 13 (by decide)).trans (by decide +kernel)
theorem rE_0_4 {E : hk_E} (h : hk_Sh 221 E) : E.2.2.2 0 4 = some 193 := (h.2.2 0 4 (by decide)).trans (by decide +kernel)
theorem rE_218_0 {E : hk_E} (h : hk_Sh 221 E) : E.2.2.2 218 0 = some 219 := (h.2.2 218 0 (by decide)).trans (by decide +kernel)
theorem rE_0_5 {E : hk_E} (h : hk_Sh 221 E) : E.2.2.2 0 5 = some 218 := (h.2.2 0 5 (by decide)).trans (by decide +kernel)
theorem rE_0_6 {E : hk_E} (h : hk_Sh 221 E) : E.2.2.2 0 6 = some 220 := (h.2.2 0 6 (by decide)).trans (by decide +kernel)
/-- a loft's shape -/
def hk_L (E : hk_E) (b : Nat) : Prop := E.2.1 b = 4 ∧ E.2.1 (b + 1) = 1 ∧ (E.2.1 (b + 2) = 13 ∧ E.2.2.1 (b + 2) = 3) ∧ (E.2.1 (b + 3) = 16 ∧ E.2.2.1 (b + 3) = 8) ∧ (E.2.1 (b + 4) = 15 ∧ E.2.2.1 (b + 4) = 6) ∧ (∀ t, t < 8 → E.2.1 (b + 5 + t) = 8 ∧ E.2.2.2 (b + 3) t = some (b + 5 + t)) ∧ (∀ t, t < 6 → E.2.1 (b + 13 + t) = 5 ∧ E.2.2.2 (b + 4) t = some (b + 13 + t)) ∧ (E.2.2.2 b 0 = some (b + 1) ∧ E.2.2.2 b 1 = some (b + 3) ∧ E.2.2.2 b 3 = some (b + 4) ∧ E.2.2.2 (b + 1) 4 = some (b + 2))
def hk_LB : List Nat := [1, 20, 41, 60, 79, 98, 117, 136, 155, 174, 196]
theorem hk_LBf : ∀ b ∈ hk_LB, b + 19 ≤ 221 ∧ hk_KT.getD b 0 = 4 ∧ hk_KT.getD (b + 1) 0 = 1 ∧ (hk_KT.getD (b + 2) 0 = 13 ∧ hk_LT.getD (b + 2) 0 = 3) ∧ (hk_KT.getD (b + 3) 0 = 16 ∧ hk_LT.getD (b + 3) 0 = 8) ∧ (hk_KT.getD (b + 4) 0 = 15 ∧ hk_LT.getD (b + 4) 0 = 6) ∧ (∀ t, t < 8 → hk_KT.getD (b + 5 + t) 0 = 8 ∧ hk_ref hk_RT (b + 3) t = some (b + 5 + t)) ∧ (∀ t, t < 6 → hk_KT.getD (b + 13 + t) 0 = 5 ∧ hk_ref hk_RT (b + 4) t = some (b + 13 + t)) ∧ (hk_ref hk_RT b 0 = some (b + 1) ∧ hk_ref hk_RT b 1 = some (b + 3) ∧ hk_ref hk_RT b 3 = some (b + 4) ∧ hk_ref hk_RT (b + 1) 4 = some (b + 2)) := by decide +kernel
theorem hk_L_of {E : hk_E} {b : Nat} (h : hk_Sh 221 E) (hb : b ∈ hk_LB) : hk_L E b := by
  obtain ⟨h1, h2, h3⟩ := h
  obtain ⟨g0, g1, g2, g3, g4, g5, g6, g7, g8⟩ := hk_LBf b hb
  refine ⟨by rw [h1 _ (by omega)]; exact g1, by rw [h1 _ (by omega)]; exact g2, ⟨by rw [h1 _ (by omega)]; exact g3.1, by rw [h2]; exact g3.2⟩, ⟨by rw [h1 _ (by omega)]; exact g4.1, by rw [h2]; exact g4.2⟩, ⟨by rw [h1 _ (by omega)]; exact g5.1, by rw [h2]; exact g5.2⟩, fun t ht => ⟨by rw [h1 _ (by omega)]; exact (g6 t ht).1, by rw [h3 _ _ (by omega)]; exact (g6 t ht).2⟩, fun t ht => ⟨by rw [h1 _ (by omega)]; exact (g7 t ht).1, by rw [h3 _ _ (by omega)]; exact (g7 t ht).2⟩, by rw [h3 _ _ (by omega)]; exact g8.1, by rw [h3 _ _ (by omega)]; exact g8.2.1, by rw [h3 _ _ (by omega)]; exact g8.2.2.1, by rw [h3 _ _ (by omega)]; exact g8.2.2.2⟩
theorem hk_Sh_all : hk_Sh 221 (hk_EE 221 220) := by
  refine ⟨fun a ha => ?_, fun a => rfl, fun a k ha => ?_⟩
  · show (if a < 221 then hk_KT.getD a 0 else 0) = _
    rw [if_pos ha]
  · show hk_ref (hk_RT.take 220) a k = _
    rw [List.take_of_length_le (by decide +kernel)]
theorem hk_Sh_le {n m : Nat} {E : hk_E} (h : hk_Sh n E) (hm : m ≤ n) : hk_Sh m E := ⟨fun a ha => h.1 a (Nat.lt_of_lt_of_le ha hm), h.2.1, fun a k ha => h.2.2 a k (Nat.lt_of_lt_of_le ha hm)⟩
