/-! questions about one trough -/
abbrev hk_E0 : hk_E := hk_EE 232 229
theorem hE1 : hk_Sh 231 hk_E0 := hk_Sh_le hk_Sh_all (by decide)
theorem hE2 : hk_Sh 221 hk_E0 := hk_Sh_le hk_Sh_all (by decide)
theorem hL231 : hk_E0.2.2.1 231 = 1 := by decide +kernel
theorem hk_ok231 : hk_ok 0 (hk_E0.2.2.1 231) := by
  rw [hL231]
  decide
theorem k_10 : ((1 : Int32) = 0) = False := by decide
theorem k_20 : ((2 : Int32) = 0) = False := by decide
theorem k_30 : ((3 : Int32) = 0) = False := by decide
theorem k_01 : ((0 : Int32) = 1) = False := by decide
theorem k_m0 : ((-1 : Int32) = 0) = False := by decide
theorem k_0m : ((0 : Int32) = -1) = False := by decide
theorem k_1m : ((1 : Int32) = -1) = False := by decide
def hk_same (S S' : hk_S) : Prop := (∀ a, a < 220 → S' a = S a) ∧ (∀ k, k < 15 → S' 221 k = S 221 k) ∧ (S' 222 = S 222 ∧ S' 225 = S 225 ∧ S' 226 = S 226 ∧ S' 227 = S 227 ∧ S' 229 = S 229)
theorem hk_same_refl (S : hk_S) : hk_same S S := ⟨fun _ _ => rfl, fun _ _ => rfl, rfl, rfl, rfl, rfl, rfl⟩
theorem hk_same_trans {S S1 S2 : hk_S} (h : hk_same S S1) (h2 : hk_same S1 S2) : hk_same S S2 := ⟨fun a ha => (h2.1 a ha).trans (h.1 a ha), fun k hk => (h2.2.1 k hk).trans (h.2.1 k hk), h2.2.2.1.trans h.2.2.1, h2.2.2.2.1.trans h.2.2.2.1, h2.2.2.2.2.1.trans h.2.2.2.2.1, h2.2.2.2.2.2.1.trans h.2.2.2.2.2.1, h2.2.2.2.2.2.2.trans h.2.2.2.2.2.2⟩
theorem hk_same_out (S : hk_S) (v : Int32) : hk_same S (hk_up S 231 0 v) := ⟨fun a ha => hk_upne _ _ _ (by omega), fun k hk => by rw [hk_upne _ _ _ (by decide)], hk_upne _ _ _ (by decide), hk_upne _ _ _ (by decide), hk_upne _ _ _ (by decide), hk_upne _ _ _ (by decide), hk_upne _ _ _ (by decide)⟩
theorem hk_same_thr (S : hk_S) (v : Int32) : hk_same S (hk_up S 221 15 v) := ⟨fun a ha => hk_upne _ _ _ (by omega), fun k hk => by rw [hk_up_eq, if_neg (by omega)], hk_upne _ _ _ (by decide), hk_upne _ _ _ (by decide), hk_upne _ _ _ (by decide), hk_upne _ _ _ (by decide), hk_upne _ _ _ (by decide)⟩
theorem hk_same_trial {S S' : hk_S} (h : ∀ a, a ≠ 220 → S' a = S a) : hk_same S S' := ⟨fun a ha => h a (by omega), fun k hk => by rw [h 221 (by decide)], h _ (by decide), h _ (by decide), h _ (by decide), h _ (by decide), h _ (by decide)⟩
theorem hk_same_aside (S : hk_S) (f : Nat → Int32) : hk_same S (va_up S 224 f) := ⟨fun a ha => va_up_ne _ _ (by omega), fun k hk => by rw [va_up_ne _ _ (by decide)], va_up_ne _ _ (by decide), va_up_ne _ _ (by decide), va_up_ne _ _ (by decide), va_up_ne _ _ (by decide), va_up_ne _ _ (by decide)⟩
theorem hk_I_same {S S' : hk_S} (h : hk_I S) (e : hk_same S S') : hk_I S' := hk_I_q h e.1 e.2.1 e.2.2
theorem lg_cmp_self (x : Int64) : lg_cmp x x = 0 := by
  unfold lg_cmp
  rw [if_neg (Int64.lt_irrefl), if_pos rfl]
theorem pX12_thrown {E : hk_E} {F : Nat} {S : hk_S} : mX12_thrown E F S 221 = some (S 221 15, S) := rfl
/-- a call with a code -/
theorem k_mop {F : Nat} {L : Option (Int32 × hk_S)} {m : hk_S → Option (Int32 × hk_S)} {code v : Int32} {S1 S2 : hk_S} (h1 : L = some (code, S1)) (h2 : m S1 = some (v, S2)) (h3 : S2 221 15 = code) (h4 : code = 0 → S2 231 0 = v) : L.bind (fun r1 => (m r1.2).bind (fun r2 => (mX12_thrown hk_E0 F r2.2 221).bind (fun r3 => if r3.1 = r1.1 then (if ¬ r1.1 = 0 then (some r3.2) else (if hk_ok 0 (hk_E0.2.2.1 231) then (if (lg_cmp ((r3.2 231 0).toInt64) ((r2.1 : Int32).toInt64)) = 0 then (some r3.2) else (none)) else none)) else (none)))) = some S2 := by
  rw [h1, Option.bind_some]
  dsimp only
  rw [h2, Option.bind_some, pX12_thrown, Option.bind_some]
  dsimp only
  rw [if_pos h3]
  by_cases hc : code = 0
  · rw [if_neg (fun q => q hc), if_pos hk_ok231, if_pos (show lg_cmp (S2 231 0).toInt64 v.toInt64 = 0 from (by rw [h4 hc]; exact lg_cmp_self _))]
  · rw [if_pos hc]
/-- a call of two answers -/
theorem k_mopB {F : Nat} {L : Option (Int32 × hk_S)} {m : hk_S → Option (Int32 × hk_S)} {code v : Int32} {S1 S2 : hk_S} (h1 : L = some (code, S1)) (h2 : m S1 = some (v, S2)) (h3 : S2 221 15 = code) (h4 : code = 0 → S2 231 0 = if v = 0 then 0 else 1) : L.bind (fun r1 => (m r1.2).bind (fun r2 => (mX12_thrown hk_E0 F r2.2 221).bind (fun r3 => if r3.1 = r1.1 then (if ¬ r1.1 = 0 then (some r3.2) else (if hk_ok 0 (hk_E0.2.2.1 231) then (if r2.1 = 0 then (if (lg_cmp ((r3.2 231 0).toInt64) 0) = 0 then (some r3.2) else (none)) else (if (lg_cmp ((r3.2 231 0).toInt64) 1) = 0 then (some r3.2) else (none))) else none)) else (none)))) = some S2 := by
  rw [h1, Option.bind_some]
  dsimp only
  rw [h2, Option.bind_some, pX12_thrown, Option.bind_some]
  dsimp only
  rw [if_pos h3]
  by_cases hc : code = 0
  · rw [if_neg (fun q => q hc), if_pos hk_ok231]
    by_cases hv : v = 0
    · rw [if_pos hv, if_pos (show lg_cmp (S2 231 0).toInt64 0 = 0 from (by rw [h4 hc, if_pos hv]; decide))]
    · rw [if_neg hv, if_pos (show lg_cmp (S2 231 0).toInt64 1 = 0 from (by rw [h4 hc, if_neg hv]; decide))]
  · rw [if_pos hc]
/-- a call without a code -/
theorem k_mopP {L : Option (Int32 × hk_S)} {m : hk_S → Option (Int32 × hk_S)} {v : Int32} {S1 S2 : hk_S} (h1 : L = some (v, S1)) (h2 : m S1 = some (v, S2)) : L.bind (fun r1 => (m r1.2).bind (fun r2 => if r1.1 = r2.1 then (some r2.2) else (none))) = some S2 := by
  rw [h1, Option.bind_some]
  dsimp only
  rw [h2, Option.bind_some]
  dsimp only
  rw [if_pos rfl]
theorem pX12_thr0 {E : hk_E} {F a : Nat} {S : hk_S} : mX12_throwsOne E F S a 0 = some (0, hk_up S a 15 0) := by
  unfold mX12_throwsOne
  simp [hk_let_eq]
theorem pX12_thr1 {E : hk_E} {F a : Nat} {S : hk_S} : mX12_throwsOne E F S a 1 = some (1, hk_up S a 15 1) := by
  unfold mX12_throwsOne
  simp [hk_let_eq]
theorem pX12_thr00 {E : hk_E} {F a : Nat} {S : hk_S} : mX12_throwsOne_ E F S a 0 0 = some (0, hk_up S a 15 0) := by
  unfold mX12_throwsOne_
  simp [hk_let_eq]
theorem pX12_thr01 {E : hk_E} {F a : Nat} {S : hk_S} : mX12_throwsOne_ E F S a 0 1 = some (1, hk_up S a 15 2) := by
  unfold mX12_throwsOne_
  simp [hk_let_eq]
theorem pX12_thr1_ {E : hk_E} {F a : Nat} {S : hk_S} {x : Int32} : mX12_throwsOne_ E F S a 1 x = some (1, hk_up S a 15 1) := by
  unfold mX12_throwsOne_
  simp [hk_let_eq]
theorem pX12_thr000 {E : hk_E} {F a : Nat} {S : hk_S} : mX12_throwsOne__ E F S a 0 0 0 = some (0, hk_up S a 15 0) := by
  unfold mX12_throwsOne__
  simp [hk_let_eq]
theorem pX12_thr001 {E : hk_E} {F a : Nat} {S : hk_S} : mX12_throwsOne__ E F S a 0 0 1 = some (1, hk_up S a 15 3) := by
  unfold mX12_throwsOne__
  simp [hk_let_eq]
theorem pX12_thr01_ {E : hk_E} {F a : Nat} {S : hk_S} {x : Int32} : mX12_throwsOne__ E F S a 0 1 x = some (1, hk_up S a 15 2) := by
  unfold mX12_throwsOne__
  simp [hk_let_eq]
theorem pX12_thr1__ {E : hk_E} {F a : Nat} {S : hk_S} {x y : Int32} : mX12_throwsOne__ E F S a 1 x y = some (1, hk_up S a 15 1) := by
  unfold mX12_throwsOne__
  simp [hk_let_eq]
theorem pX12_isTrough {E : hk_E} {F : Nat} {S : hk_S} {x : Int32} (hE : hk_Sh 231 E) (h : a_ok (S 222)) : mX12_isTrough E F S 221 x = some (if 0 ≤ x ∧ x < S 222 9 then 1 else 0, S) := by
  have h0 := h.2.2.2.2.2.2.2.1.1
  have h8 := h.2.2.2.2.2.2.2.1.2
  have e : (0 ≤ x ∧ x ≤ S 222 9 - 1) ↔ (0 ≤ x ∧ x < S 222 9) := by
    generalize S 222 9 = y at *
    constructor <;> rintro ⟨a, b⟩ <;> exact ⟨a, by grind⟩
  unfold mX12_isTrough
  rw [rE_221_0 hE, Option.bind_some, if_pos (kE_222 hE), lE_222 hE, if_pos (show hk_ok 9 107 by decide), pX12_in, Option.bind_some]
  simp only [e]
  by_cases q : 0 ≤ x ∧ x < S 222 9
  · rw [if_pos q, if_pos (Or.inr rfl)]
  · rw [if_neg q, if_pos (Or.inl rfl)]
theorem pX12_isProbe {E : hk_E} {F : Nat} {S : hk_S} {x : Int32} (hE : hk_Sh 231 E) (h : a_ok (S 222)) : mX12_isProbe E F S 221 x = some (if 0 ≤ x ∧ x < S 222 10 then 1 else 0, S) := by
  have h0 := h.2.2.2.2.2.2.2.2.1.1
  have h8 := h.2.2.2.2.2.2.2.2.1.2
  have e : (0 ≤ x ∧ x ≤ S 222 10 - 1) ↔ (0 ≤ x ∧ x < S 222 10) := by
    generalize S 222 10 = y at *
    constructor <;> rintro ⟨a, b⟩ <;> exact ⟨a, by grind⟩
  unfold mX12_isProbe
  rw [rE_221_0 hE, Option.bind_some, if_pos (kE_222 hE), lE_222 hE, if_pos (show hk_ok 10 107 by decide), pX12_in, Option.bind_some]
  simp only [e]
  by_cases q : 0 ≤ x ∧ x < S 222 10
  · rw [if_pos q, if_pos (Or.inr rfl)]
  · rw [if_neg q, if_pos (Or.inl rfl)]
theorem pX12_isLayer {E : hk_E} {F : Nat} {S : hk_S} {x : Int32} : mX12_isLayer E F S x = some (if 0 ≤ x ∧ x ≤ 1 then 1 else 0, S) := by
  unfold mX12_isLayer
  rw [pX12_in, Option.bind_some]
  by_cases q : 0 ≤ x ∧ x ≤ 1
  · rw [if_pos q, if_pos (Or.inr rfl)]
  · rw [if_neg q, if_pos (Or.inl rfl)]
/-- the class finds a trough, or throws -/
theorem k_exT {F : Nat} {S : hk_S} (hI : hk_I S) (x : Int32) : (∃ t : Nat, t < 8 ∧ x = nI t ∧ nI t < S 222 9 ∧ mX11_existingTrough hk_E0 F S 0 (nI t) = some (.inr (1 + 5 + t, S))) ∨ (¬ (0 ≤ x ∧ x < S 222 9) ∧ mX11_existingTrough hk_E0 F S 0 x = some (.inl (0, S))) := by
  have h9 : S 1 2 = S 222 9 := hI.1.2.1.1
  have hL := hk_L1 hE2
  by_cases q : 0 ≤ x ∧ x < S 222 9
  · obtain ⟨t, ht, rfl, hn⟩ := k_trough hI.2.1 q.1 q.2
    refine Or.inl ⟨t, ht, rfl, hn, ?_⟩
    unfold mX11_existingTrough
    rw [rE_0_0 hE2, Option.bind_some, if_pos hL.1, pX5_hasTrough, Option.bind_some, h9, if_pos q]
    dsimp only
    rw [if_pos (by decide), pX5_troughAt hL, Option.bind_some]
    dsimp only
    rw [k_tn_nI ht, if_pos (hk_L_t hL ht)]
  · refine Or.inr ⟨q, ?_⟩
    unfold mX11_existingTrough
    rw [rE_0_0 hE2, Option.bind_some, if_pos hL.1, pX5_hasTrough, Option.bind_some, h9, if_neg q]
    dsimp only
    rw [if_neg (by decide)]
theorem k_exP {F : Nat} {S : hk_S} (hI : hk_I S) (x : Int32) : (∃ t : Nat, t < 6 ∧ x = nI t ∧ nI t < S 222 10 ∧ mX11_existingProbe hk_E0 F S 0 (nI t) = some (.inr (1 + 13 + t, S))) ∨ (¬ (0 ≤ x ∧ x < S 222 10) ∧ mX11_existingProbe hk_E0 F S 0 x = some (.inl (0, S))) := by
  have h9 : S 1 4 = S 222 10 := hI.1.2.1.2.1
  have hL := hk_L1 hE2
  by_cases q : 0 ≤ x ∧ x < S 222 10
  · obtain ⟨t, ht, rfl, hn⟩ := k_probe hI.2.1 q.1 q.2
    refine Or.inl ⟨t, ht, rfl, hn, ?_⟩
    unfold mX11_existingProbe
    rw [rE_0_0 hE2, Option.bind_some, if_pos hL.1, pX5_hasProbe, Option.bind_some, h9, if_pos q]
    dsimp only
    rw [if_pos (by decide), pX5_probeAt hL, Option.bind_some]
    dsimp only
    rw [k_pn_nI ht, if_pos (hk_L_p hL ht)]
  · refine Or.inr ⟨q, ?_⟩
    unfold mX11_existingProbe
    rw [rE_0_0 hE2, Option.bind_some, if_pos hL.1, pX5_hasProbe, Option.bind_some, h9, if_neg q]
    dsimp only
    rw [if_neg (by decide)]
theorem k_in {t : Nat} {y : Int32} (ht : t < 2 ^ 31) (hn : nI t < y) : 0 ≤ nI t ∧ nI t < y := ⟨nI_pos' ht, hn⟩
theorem k_rq {E : hk_E} {F : Nat} {S : hk_S} {x lo hi : Int32} : mX11_requireRange E F S x lo hi = if lo ≤ x ∧ x ≤ hi then some (.inr S) else some (.inl (1, S)) := by
  unfold mX11_requireRange
  by_cases h1 : x < lo
  · rw [if_pos h1, if_neg (by grind)]
  · by_cases h2 : x ≤ hi
    · rw [if_neg h1, if_pos h2, if_pos ⟨by grind, h2⟩]
    · rw [if_neg h1, if_neg h2, if_neg (by grind)]
theorem k_rf0 {E : hk_E} {F : Nat} {S : hk_S} : mX11_refuseIf E F S 0 = some (.inr S) := rfl
theorem k_rf1 {E : hk_E} {F : Nat} {S : hk_S} : mX11_refuseIf E F S 1 = some (.inl (2, S)) := rfl
theorem hk_xb_inr {α β : Type} (a : α) (f : α → Option (Sum (Nat × hk_S) β)) : hk_xb (some (.inr a)) f = f a := rfl
theorem hk_xb_inl {α β : Type} (e : Nat × hk_S) (f : α → Option (Sum (Nat × hk_S) β)) : hk_xb (some (.inl e)) f = some (.inl e) := rfl
theorem mop_32_ok {F : Nat} {S : hk_S} {p1 p2 p3 p4 p5 : Int32} (hF : 2000000 ≤ F) (hI : hk_I S) : ∃ S', mop_32 F S p1 p2 p3 p4 p5 = some S' ∧ hk_I S' := by
  rcases k_exT (F := F) hI p1 with ⟨t, ht, rfl, hn, he⟩ | ⟨hno, he⟩
  · have htr := hI.1.2.2.1 t ht
    have h0 := k_leaf0 hI.2.1 ht
    have hcap := k_cap hI.2.1 ht hn
    have hok := hI.2.1.2.2.2.2.2.2.2.2.2.1 t ht
    have hin := k_in (by omega) hn
    have hL := hk_L1 hE2
    have hc : mX11_capacity hk_E0 F S 0 (nI t) = some (.inr (a_t (S 222) t 0, S)) := by
      unfold mX11_capacity
      rw [he, hk_xb_inr]
      dsimp only
      rw [if_pos (hk_L_t hL ht), htr.1]
    have hl : mL_capacity hk_E0 F S 0 (nI t) 231 = some (0, hk_up S 231 0 (a_t (S 222) t 0)) := by
      unfold mL_capacity
      rw [hc]
      dsimp only
      rw [if_pos hk_ok231]
    generalize hv : (a_t (S 222) t 0) = v at hl hc
    have hw : a_ok ((hk_up S 231 0 v) 222) := by rw [hk_upne _ _ _ (by decide)]; exact hI.2.1
    have ew : (hk_up S 231 0 v) 222 = S 222 := hk_upne _ _ _ (by decide)
    have hin : 0 ≤ nI t ∧ nI t < (hk_up S 231 0 v) 222 9 := by rw [ew]; exact hin
    have ht2 : (hk_up (hk_up S 231 0 v) 221 15 0) 222 = S 222 := by rw [hk_upne _ _ _ (by decide), ew]
    have hm : mX12_capacity hk_E0 F (hk_up S 231 0 v) 221 (nI t) = some (v, hk_up (hk_up S 231 0 v) 221 15 0) := by
      unfold mX12_capacity mX12_troughTold
      simp only [pX12_isTrough hE1 hw, if_pos hin, k_10, not_false_eq_true, if_true, Option.bind_some, pX12_thr0, pX12_of_0 hE1 ht, ht2, hv]
    exact ⟨_, k_mop (m := fun S => mX12_capacity hk_E0 F S 221 (nI t)) hl hm (by rw [hk_up_eq, if_pos rfl]) (fun _ => by rw [hk_upne _ _ _ (by decide), hk_up_eq, if_pos rfl]), hk_I_same hI (hk_same_trans (hk_same_out _ _) (hk_same_thr _ _))⟩
  · have hc : mX11_capacity hk_E0 F S 0 p1 = some (.inl (0, S)) := by
      unfold mX11_capacity
      rw [he, hk_xb_inl]
    have hl : mL_capacity hk_E0 F S 0 p1 231 = some (1, S) := by
      unfold mL_capacity
      rw [hc]
      rfl
    have hm : mX12_capacity hk_E0 F S 221 p1 = some (0, hk_up S 221 15 1) := by
      unfold mX12_capacity mX12_troughTold
      simp only [pX12_isTrough hE1 hI.2.1, if_neg hno, not_true_eq_false, if_false, Option.bind_some, pX12_thr1, k_10]
    exact ⟨_, k_mop (m := fun S => mX12_capacity hk_E0 F S 221 p1) hl hm (by rw [hk_up_eq, if_pos rfl]) (fun q => absurd q (by decide)), hk_I_same hI (hk_same_thr _ _)⟩
theorem mop_33_ok {F : Nat} {S : hk_S} {p1 p2 p3 p4 p5 : Int32} (hF : 2000000 ≤ F) (hI : hk_I S) : ∃ S', mop_33 F S p1 p2 p3 p4 p5 = some S' ∧ hk_I S' := by
  rcases k_exT (F := F) hI p1 with ⟨t, ht, rfl, hn, he⟩ | ⟨hno, he⟩
  · have htr := hI.1.2.2.1 t ht
    have h0 := k_leaf0 hI.2.1 ht
    have hcap := k_cap hI.2.1 ht hn
    have hok := hI.2.1.2.2.2.2.2.2.2.2.2.1 t ht
    have hin := k_in (by omega) hn
    have hL := hk_L1 hE2
    have hc : mX11_kilograms hk_E0 F S 0 (nI t) = some (.inr (a_t (S 222) t 3, S)) := by
      unfold mX11_kilograms
      rw [he, hk_xb_inr]
      dsimp only
      rw [if_pos (hk_L_t hL ht), htr.2.2.2.1]
    have hl : mL_kilograms hk_E0 F S 0 (nI t) 231 = some (0, hk_up S 231 0 (a_t (S 222) t 3)) := by
      unfold mL_kilograms
      rw [hc]
      dsimp only
      rw [if_pos hk_ok231]
    generalize hv : (a_t (S 222) t 3) = v at hl hc
    have hw : a_ok ((hk_up S 231 0 v) 222) := by rw [hk_upne _ _ _ (by decide)]; exact hI.2.1
    have ew : (hk_up S 231 0 v) 222 = S 222 := hk_upne _ _ _ (by decide)
    have hin : 0 ≤ nI t ∧ nI t < (hk_up S 231 0 v) 222 9 := by rw [ew]; exact hin
    have ht2 : (hk_up (hk_up S 231 0 v) 221 15 0) 222 = S 222 := by rw [hk_upne _ _ _ (by decide), ew]
    have hm : mX12_kilograms hk_E0 F (hk_up S 231 0 v) 221 (nI t) = some (v, hk_up (hk_up S 231 0 v) 221 15 0) := by
      unfold mX12_kilograms mX12_troughTold
      simp only [pX12_isTrough hE1 hw, if_pos hin, k_10, not_false_eq_true, if_true, Option.bind_some, pX12_thr0, pX12_of_3 hE1 ht, ht2, hv]
    exact ⟨_, k_mop (m := fun S => mX12_kilograms hk_E0 F S 221 (nI t)) hl hm (by rw [hk_up_eq, if_pos rfl]) (fun _ => by rw [hk_upne _ _ _ (by decide), hk_up_eq, if_pos rfl]), hk_I_same hI (hk_same_trans (hk_same_out _ _) (hk_same_thr _ _))⟩
  · have hc : mX11_kilograms hk_E0 F S 0 p1 = some (.inl (0, S)) := by
      unfold mX11_kilograms
      rw [he, hk_xb_inl]
    have hl : mL_kilograms hk_E0 F S 0 p1 231 = some (1, S) := by
      unfold mL_kilograms
      rw [hc]
      rfl
    have hm : mX12_kilograms hk_E0 F S 221 p1 = some (0, hk_up S 221 15 1) := by
      unfold mX12_kilograms mX12_troughTold
      simp only [pX12_isTrough hE1 hI.2.1, if_neg hno, not_true_eq_false, if_false, Option.bind_some, pX12_thr1, k_10]
    exact ⟨_, k_mop (m := fun S => mX12_kilograms hk_E0 F S 221 p1) hl hm (by rw [hk_up_eq, if_pos rfl]) (fun q => absurd q (by decide)), hk_I_same hI (hk_same_thr _ _)⟩
theorem mop_35_ok {F : Nat} {S : hk_S} {p1 p2 p3 p4 p5 : Int32} (hF : 2000000 ≤ F) (hI : hk_I S) : ∃ S', mop_35 F S p1 p2 p3 p4 p5 = some S' ∧ hk_I S' := by
  rcases k_exT (F := F) hI p1 with ⟨t, ht, rfl, hn, he⟩ | ⟨hno, he⟩
  · have htr := hI.1.2.2.1 t ht
    have h0 := k_leaf0 hI.2.1 ht
    have hcap := k_cap hI.2.1 ht hn
    have hok := hI.2.1.2.2.2.2.2.2.2.2.2.1 t ht
    have hin := k_in (by omega) hn
    have hL := hk_L1 hE2
    have hc : mX11_speed hk_E0 F S 0 (nI t) = some (.inr (a_t (S 222) t 1, S)) := by
      unfold mX11_speed
      rw [he, hk_xb_inr]
      dsimp only
      rw [if_pos (hk_L_t hL ht), htr.2.1]
    have hl : mL_speed hk_E0 F S 0 (nI t) 231 = some (0, hk_up S 231 0 (a_t (S 222) t 1)) := by
      unfold mL_speed
      rw [hc]
      dsimp only
      rw [if_pos hk_ok231]
    generalize hv : (a_t (S 222) t 1) = v at hl hc
    have hw : a_ok ((hk_up S 231 0 v) 222) := by rw [hk_upne _ _ _ (by decide)]; exact hI.2.1
    have ew : (hk_up S 231 0 v) 222 = S 222 := hk_upne _ _ _ (by decide)
    have hin : 0 ≤ nI t ∧ nI t < (hk_up S 231 0 v) 222 9 := by rw [ew]; exact hin
    have ht2 : (hk_up (hk_up S 231 0 v) 221 15 0) 222 = S 222 := by rw [hk_upne _ _ _ (by decide), ew]
    have hm : mX12_speed hk_E0 F (hk_up S 231 0 v) 221 (nI t) = some (v, hk_up (hk_up S 231 0 v) 221 15 0) := by
      unfold mX12_speed mX12_troughTold
      simp only [pX12_isTrough hE1 hw, if_pos hin, k_10, not_false_eq_true, if_true, Option.bind_some, pX12_thr0, pX12_of_1 hE1 ht, ht2, hv]
    exact ⟨_, k_mop (m := fun S => mX12_speed hk_E0 F S 221 (nI t)) hl hm (by rw [hk_up_eq, if_pos rfl]) (fun _ => by rw [hk_upne _ _ _ (by decide), hk_up_eq, if_pos rfl]), hk_I_same hI (hk_same_trans (hk_same_out _ _) (hk_same_thr _ _))⟩
  · have hc : mX11_speed hk_E0 F S 0 p1 = some (.inl (0, S)) := by
      unfold mX11_speed
      rw [he, hk_xb_inl]
    have hl : mL_speed hk_E0 F S 0 p1 231 = some (1, S) := by
      unfold mL_speed
      rw [hc]
      rfl
    have hm : mX12_speed hk_E0 F S 221 p1 = some (0, hk_up S 221 15 1) := by
      unfold mX12_speed mX12_troughTold
      simp only [pX12_isTrough hE1 hI.2.1, if_neg hno, not_true_eq_false, if_false, Option.bind_some, pX12_thr1, k_10]
    exact ⟨_, k_mop (m := fun S => mX12_speed hk_E0 F S 221 p1) hl hm (by rw [hk_up_eq, if_pos rfl]) (fun q => absurd q (by decide)), hk_I_same hI (hk_same_thr _ _)⟩
theorem mop_45_ok {F : Nat} {S : hk_S} {p1 p2 p3 p4 p5 : Int32} (hF : 2000000 ≤ F) (hI : hk_I S) : ∃ S', mop_45 F S p1 p2 p3 p4 p5 = some S' ∧ hk_I S' := by
  rcases k_exT (F := F) hI p1 with ⟨t, ht, rfl, hn, he⟩ | ⟨hno, he⟩
  · have htr := hI.1.2.2.1 t ht
    have h0 := k_leaf0 hI.2.1 ht
    have hcap := k_cap hI.2.1 ht hn
    have hok := hI.2.1.2.2.2.2.2.2.2.2.2.1 t ht
    have hin := k_in (by omega) hn
    have hL := hk_L1 hE2
    have hc : mX11_weight hk_E0 F S 0 (nI t) = some (.inr (a_t (S 222) t 8, S)) := by
      unfold mX11_weight
      rw [he, hk_xb_inr]
      dsimp only
      rw [if_pos (hk_L_t hL ht), htr.2.2.2.2.2.1]
    have hl : mL_weight hk_E0 F S 0 (nI t) 231 = some (0, hk_up S 231 0 (a_t (S 222) t 8)) := by
      unfold mL_weight
      rw [hc]
      dsimp only
      rw [if_pos hk_ok231]
    generalize hv : (a_t (S 222) t 8) = v at hl hc
    have hw : a_ok ((hk_up S 231 0 v) 222) := by rw [hk_upne _ _ _ (by decide)]; exact hI.2.1
    have ew : (hk_up S 231 0 v) 222 = S 222 := hk_upne _ _ _ (by decide)
    have hin : 0 ≤ nI t ∧ nI t < (hk_up S 231 0 v) 222 9 := by rw [ew]; exact hin
    have ht2 : (hk_up (hk_up S 231 0 v) 221 15 0) 222 = S 222 := by rw [hk_upne _ _ _ (by decide), ew]
    have hm : mX12_weight hk_E0 F (hk_up S 231 0 v) 221 (nI t) = some (v, hk_up (hk_up S 231 0 v) 221 15 0) := by
      unfold mX12_weight mX12_troughTold
      simp only [pX12_isTrough hE1 hw, if_pos hin, k_10, not_false_eq_true, if_true, Option.bind_some, pX12_thr0, pX12_of_8 hE1 ht, ht2, hv]
    exact ⟨_, k_mop (m := fun S => mX12_weight hk_E0 F S 221 (nI t)) hl hm (by rw [hk_up_eq, if_pos rfl]) (fun _ => by rw [hk_upne _ _ _ (by decide), hk_up_eq, if_pos rfl]), hk_I_same hI (hk_same_trans (hk_same_out _ _) (hk_same_thr _ _))⟩
  · have hc : mX11_weight hk_E0 F S 0 p1 = some (.inl (0, S)) := by
      unfold mX11_weight
      rw [he, hk_xb_inl]
    have hl : mL_weight hk_E0 F S 0 p1 231 = some (1, S) := by
      unfold mL_weight
      rw [hc]
      rfl
    have hm : mX12_weight hk_E0 F S 221 p1 = some (0, hk_up S 221 15 1) := by
      unfold mX12_weight mX12_troughTold
      simp only [pX12_isTrough hE1 hI.2.1, if_neg hno, not_true_eq_false, if_false, Option.bind_some, pX12_thr1, k_10]
    exact ⟨_, k_mop (m := fun S => mX12_weight hk_E0 F S 221 p1) hl hm (by rw [hk_up_eq, if_pos rfl]) (fun q => absurd q (by decide)), hk_I_same hI (hk_same_thr _ _)⟩
theorem mop_34_ok {F : Nat} {S : hk_S} {p1 p2 p3 p4 p5 : Int32} (hF : 2000000 ≤ F) (hI : hk_I S) : ∃ S', mop_34 F S p1 p2 p3 p4 p5 = some S' ∧ hk_I S' := by
  rcases k_exT (F := F) hI p1 with ⟨t, ht, rfl, hn, he⟩ | ⟨hno, he⟩
  · have htr := hI.1.2.2.1 t ht
    have h0 := k_leaf0 hI.2.1 ht
    have hcap := k_cap hI.2.1 ht hn
    have hok := hI.2.1.2.2.2.2.2.2.2.2.2.1 t ht
    have hin := k_in (by omega) hn
    have hL := hk_L1 hE2
    have hc : mX11_fill hk_E0 F S 0 (nI t) = some (.inr (t_fill (a_t (S 222) t), S)) := by
      unfold mX11_fill
      rw [he, hk_xb_inr]
      dsimp only
      rw [if_pos (hk_L_t hL ht), htr.2.2.2.2.1]
    have hl : mL_fill hk_E0 F S 0 (nI t) 231 = some (0, hk_up S 231 0 (t_fill (a_t (S 222) t))) := by
      unfold mL_fill
      rw [hc]
      dsimp only
      rw [if_pos hk_ok231]
    generalize hv : (t_fill (a_t (S 222) t)) = v at hl hc
    have hw : a_ok ((hk_up S 231 0 v) 222) := by rw [hk_upne _ _ _ (by decide)]; exact hI.2.1
    have ew : (hk_up S 231 0 v) 222 = S 222 := hk_upne _ _ _ (by decide)
    have hin : 0 ≤ nI t ∧ nI t < (hk_up S 231 0 v) 222 9 := by rw [ew]; exact hin
    have ht2 : (hk_up (hk_up S 231 0 v) 221 15 0) 222 = S 222 := by rw [hk_upne _ _ _ (by decide), ew]
    have hm : mX12_fill hk_E0 F (hk_up S 231 0 v) 221 (nI t) = some (v, hk_up (hk_up S 231 0 v) 221 15 0) := by
      have hc0 : ¬ a_t ((hk_up (hk_up S 231 0 v) 221 15 0) 222) t 0 = 0 := by
        rw [ht2]
        generalize a_t (S 222) t 0 = c at *
        grind
      unfold mX12_fill
      simp only [pX12_isTrough hE1 hw, if_pos hin, k_10, not_false_eq_true, if_true, Option.bind_some, pX12_thr0, pX12_filled hE1 ht hc0, ht2, hv]
    exact ⟨_, k_mop (m := fun S => mX12_fill hk_E0 F S 221 (nI t)) hl hm (by rw [hk_up_eq, if_pos rfl]) (fun _ => by rw [hk_upne _ _ _ (by decide), hk_up_eq, if_pos rfl]), hk_I_same hI (hk_same_trans (hk_same_out _ _) (hk_same_thr _ _))⟩
  · have hc : mX11_fill hk_E0 F S 0 p1 = some (.inl (0, S)) := by
      unfold mX11_fill
      rw [he, hk_xb_inl]
    have hl : mL_fill hk_E0 F S 0 p1 231 = some (1, S) := by
      unfold mL_fill
      rw [hc]
      rfl
    have hm : mX12_fill hk_E0 F S 221 p1 = some (0, hk_up S 221 15 1) := by
      unfold mX12_fill
      simp only [pX12_isTrough hE1 hI.2.1, if_neg hno, not_true_eq_false, if_false, Option.bind_some, pX12_thr1, k_10]
    exact ⟨_, k_mop (m := fun S => mX12_fill hk_E0 F S 221 p1) hl hm (by rw [hk_up_eq, if_pos rfl]) (fun q => absurd q (by decide)), hk_I_same hI (hk_same_thr _ _)⟩
theorem mop_38_ok {F : Nat} {S : hk_S} {p1 p2 p3 p4 p5 : Int32} (hF : 2000000 ≤ F) (hI : hk_I S) : ∃ S', mop_38 F S p1 p2 p3 p4 p5 = some S' ∧ hk_I S' := by
  rcases k_exT (F := F) hI p1 with ⟨t, ht, rfl, hn, he⟩ | ⟨hno, he⟩
  · have htr := hI.1.2.2.1 t ht
    have h0 := k_leaf0 hI.2.1 ht
    have hcap := k_cap hI.2.1 ht hn
    have hok := hI.2.1.2.2.2.2.2.2.2.2.2.1 t ht
    have hin := k_in (by omega) hn
    have hL := hk_L1 hE2
    have hc : mX11_spread hk_E0 F S 0 (nI t) = some (.inr (if a_t (S 222) t 3 = 0 then -1 else t_gap (a_t (S 222) t), S)) := by
      unfold mX11_spread
      rw [he, hk_xb_inr]
      dsimp only
      rw [if_pos (hk_L_t hL ht), pX10_hasLeaf htr h0, Option.bind_some]
      dsimp only
      by_cases hq : a_t (S 222) t 3 = 0
      · simp only [hq, if_true]
      · simp only [hq, if_false, k_10]
        rw [pX10_gap htr, Option.bind_some]
    have hl : mL_spread hk_E0 F S 0 (nI t) 231 = some (0, hk_up S 231 0 (if a_t (S 222) t 3 = 0 then -1 else t_gap (a_t (S 222) t))) := by
      unfold mL_spread
      rw [hc]
      dsimp only
      rw [if_pos hk_ok231]
    generalize hv : (if a_t (S 222) t 3 = 0 then -1 else t_gap (a_t (S 222) t)) = v at hl hc
    have hw : a_ok ((hk_up S 231 0 v) 222) := by rw [hk_upne _ _ _ (by decide)]; exact hI.2.1
    have ew : (hk_up S 231 0 v) 222 = S 222 := hk_upne _ _ _ (by decide)
    have hin : 0 ≤ nI t ∧ nI t < (hk_up S 231 0 v) 222 9 := by rw [ew]; exact hin
    have ht2 : (hk_up (hk_up S 231 0 v) 221 15 0) 222 = S 222 := by rw [hk_upne _ _ _ (by decide), ew]
    have hm : mX12_spread hk_E0 F (hk_up S 231 0 v) 221 (nI t) = some (v, hk_up (hk_up S 231 0 v) 221 15 0) := by
      unfold mX12_spread
      simp only [pX12_isTrough hE1 hw, if_pos hin, k_10, not_false_eq_true, if_true, Option.bind_some, pX12_thr0, pX12_isEmpty hE1 ht, ht2]
      by_cases hq : a_t (S 222) t 3 = 0
      · have hv2 : v = -1 := by rw [← hv, if_pos hq]
        simp only [hq, if_true, k_10, if_false, Option.bind_some, hv2]
      · have hv2 : v = t_gap (a_t (S 222) t) := by rw [← hv, if_neg hq]
        simp only [hq, if_false, if_true, pX12_apart hE1 ht, Option.bind_some, ht2]
        rw [hv2]
    exact ⟨_, k_mop (m := fun S => mX12_spread hk_E0 F S 221 (nI t)) hl hm (by rw [hk_up_eq, if_pos rfl]) (fun _ => by rw [hk_upne _ _ _ (by decide), hk_up_eq, if_pos rfl]), hk_I_same hI (hk_same_trans (hk_same_out _ _) (hk_same_thr _ _))⟩
  · have hc : mX11_spread hk_E0 F S 0 p1 = some (.inl (0, S)) := by
      unfold mX11_spread
      rw [he, hk_xb_inl]
    have hl : mL_spread hk_E0 F S 0 p1 231 = some (1, S) := by
      unfold mL_spread
      rw [hc]
      rfl
    have hm : mX12_spread hk_E0 F S 221 p1 = some (0, hk_up S 221 15 1) := by
      unfold mX12_spread
      simp only [pX12_isTrough hE1 hI.2.1, if_neg hno, not_true_eq_false, if_false, Option.bind_some, pX12_thr1, k_10]
    exact ⟨_, k_mop (m := fun S => mX12_spread hk_E0 F S 221 p1) hl hm (by rw [hk_up_eq, if_pos rfl]) (fun q => absurd q (by decide)), hk_I_same hI (hk_same_thr _ _)⟩
theorem mop_39_ok {F : Nat} {S : hk_S} {p1 p2 p3 p4 p5 : Int32} (hF : 2000000 ≤ F) (hI : hk_I S) : ∃ S', mop_39 F S p1 p2 p3 p4 p5 = some S' ∧ hk_I S' := by
  rcases k_exT (F := F) hI p1 with ⟨t, ht, rfl, hn, he⟩ | ⟨hno, he⟩
  · have htr := hI.1.2.2.1 t ht
    have h0 := k_leaf0 hI.2.1 ht
    have hcap := k_cap hI.2.1 ht hn
    have hok := hI.2.1.2.2.2.2.2.2.2.2.2.1 t ht
    have hin := k_in (by omega) hn
    have hL := hk_L1 hE2
    have hc : mX11_warmth hk_E0 F S 0 (nI t) = some (.inr (if a_t (S 222) t 3 = 0 then -1 else a_t (S 222) t 6, S)) := by
      unfold mX11_warmth
      rw [he, hk_xb_inr]
      dsimp only
      rw [if_pos (hk_L_t hL ht), pX10_hasLeaf htr h0, Option.bind_some]
      dsimp only
      by_cases hq : a_t (S 222) t 3 = 0
      · simp only [hq, if_true]
      · simp only [hq, if_false, k_10]
        rw [htr.2.2.2.2.2.2.2.2.1]
    have hl : mL_warmth hk_E0 F S 0 (nI t) 231 = some (0, hk_up S 231 0 (if a_t (S 222) t 3 = 0 then -1 else a_t (S 222) t 6)) := by
      unfold mL_warmth
      rw [hc]
      dsimp only
      rw [if_pos hk_ok231]
    generalize hv : (if a_t (S 222) t 3 = 0 then -1 else a_t (S 222) t 6) = v at hl hc
    have hw : a_ok ((hk_up S 231 0 v) 222) := by rw [hk_upne _ _ _ (by decide)]; exact hI.2.1
    have ew : (hk_up S 231 0 v) 222 = S 222 := hk_upne _ _ _ (by decide)
    have hin : 0 ≤ nI t ∧ nI t < (hk_up S 231 0 v) 222 9 := by rw [ew]; exact hin
    have ht2 : (hk_up (hk_up S 231 0 v) 221 15 0) 222 = S 222 := by rw [hk_upne _ _ _ (by decide), ew]
    have hm : mX12_warmth hk_E0 F (hk_up S 231 0 v) 221 (nI t) = some (v, hk_up (hk_up S 231 0 v) 221 15 0) := by
      unfold mX12_warmth mX12_leafTold
      simp only [pX12_isTrough hE1 hw, if_pos hin, k_10, not_false_eq_true, if_true, Option.bind_some, pX12_thr0, pX12_isEmpty hE1 ht, ht2]
      by_cases hq : a_t (S 222) t 3 = 0
      · have hv2 : v = -1 := by rw [← hv, if_pos hq]
        simp only [hq, if_true, k_10, if_false, Option.bind_some, hv2]
      · have hv2 : v = a_t (S 222) t 6 := by rw [← hv, if_neg hq]
        simp only [hq, if_false, if_true, pX12_of_6 hE1 ht, Option.bind_some, ht2]
        rw [hv2]
    exact ⟨_, k_mop (m := fun S => mX12_warmth hk_E0 F S 221 (nI t)) hl hm (by rw [hk_up_eq, if_pos rfl]) (fun _ => by rw [hk_upne _ _ _ (by decide), hk_up_eq, if_pos rfl]), hk_I_same hI (hk_same_trans (hk_same_out _ _) (hk_same_thr _ _))⟩
  · have hc : mX11_warmth hk_E0 F S 0 p1 = some (.inl (0, S)) := by
      unfold mX11_warmth
      rw [he, hk_xb_inl]
    have hl : mL_warmth hk_E0 F S 0 p1 231 = some (1, S) := by
      unfold mL_warmth
      rw [hc]
      rfl
    have hm : mX12_warmth hk_E0 F S 221 p1 = some (0, hk_up S 221 15 1) := by
      unfold mX12_warmth mX12_leafTold
      simp only [pX12_isTrough hE1 hI.2.1, if_neg hno, not_true_eq_false, if_false, Option.bind_some, pX12_thr1, k_10]
    exact ⟨_, k_mop (m := fun S => mX12_warmth hk_E0 F S 221 p1) hl hm (by rw [hk_up_eq, if_pos rfl]) (fun q => absurd q (by decide)), hk_I_same hI (hk_same_thr _ _)⟩
theorem mop_40_ok {F : Nat} {S : hk_S} {p1 p2 p3 p4 p5 : Int32} (hF : 2000000 ≤ F) (hI : hk_I S) : ∃ S', mop_40 F S p1 p2 p3 p4 p5 = some S' ∧ hk_I S' := by
  rcases k_exT (F := F) hI p1 with ⟨t, ht, rfl, hn, he⟩ | ⟨hno, he⟩
  · have htr := hI.1.2.2.1 t ht
    have h0 := k_leaf0 hI.2.1 ht
    have hcap := k_cap hI.2.1 ht hn
    have hok := hI.2.1.2.2.2.2.2.2.2.2.2.1 t ht
    have hin := k_in (by omega) hn
    have hL := hk_L1 hE2
    have hc : mX11_damage hk_E0 F S 0 (nI t) = some (.inr (if a_t (S 222) t 3 = 0 then -1 else a_t (S 222) t 7, S)) := by
      unfold mX11_damage
      rw [he, hk_xb_inr]
      dsimp only
      rw [if_pos (hk_L_t hL ht), pX10_hasLeaf htr h0, Option.bind_some]
      dsimp only
      by_cases hq : a_t (S 222) t 3 = 0
      · simp only [hq, if_true]
      · simp only [hq, if_false, k_10]
        rw [htr.2.2.2.2.2.2.2.2.2]
    have hl : mL_damage hk_E0 F S 0 (nI t) 231 = some (0, hk_up S 231 0 (if a_t (S 222) t 3 = 0 then -1 else a_t (S 222) t 7)) := by
      unfold mL_damage
      rw [hc]
      dsimp only
      rw [if_pos hk_ok231]
    generalize hv : (if a_t (S 222) t 3 = 0 then -1 else a_t (S 222) t 7) = v at hl hc
    have hw : a_ok ((hk_up S 231 0 v) 222) := by rw [hk_upne _ _ _ (by decide)]; exact hI.2.1
    have ew : (hk_up S 231 0 v) 222 = S 222 := hk_upne _ _ _ (by decide)
    have hin : 0 ≤ nI t ∧ nI t < (hk_up S 231 0 v) 222 9 := by rw [ew]; exact hin
    have ht2 : (hk_up (hk_up S 231 0 v) 221 15 0) 222 = S 222 := by rw [hk_upne _ _ _ (by decide), ew]
    have hm : mX12_damage hk_E0 F (hk_up S 231 0 v) 221 (nI t) = some (v, hk_up (hk_up S 231 0 v) 221 15 0) := by
      unfold mX12_damage mX12_leafTold
      simp only [pX12_isTrough hE1 hw, if_pos hin, k_10, not_false_eq_true, if_true, Option.bind_some, pX12_thr0, pX12_isEmpty hE1 ht, ht2]
      by_cases hq : a_t (S 222) t 3 = 0
      · have hv2 : v = -1 := by rw [← hv, if_pos hq]
        simp only [hq, if_true, k_10, if_false, Option.bind_some, hv2]
      · have hv2 : v = a_t (S 222) t 7 := by rw [← hv, if_neg hq]
        simp only [hq, if_false, if_true, pX12_of_7 hE1 ht, Option.bind_some, ht2]
        rw [hv2]
    exact ⟨_, k_mop (m := fun S => mX12_damage hk_E0 F S 221 (nI t)) hl hm (by rw [hk_up_eq, if_pos rfl]) (fun _ => by rw [hk_upne _ _ _ (by decide), hk_up_eq, if_pos rfl]), hk_I_same hI (hk_same_trans (hk_same_out _ _) (hk_same_thr _ _))⟩
  · have hc : mX11_damage hk_E0 F S 0 p1 = some (.inl (0, S)) := by
      unfold mX11_damage
      rw [he, hk_xb_inl]
    have hl : mL_damage hk_E0 F S 0 p1 231 = some (1, S) := by
      unfold mL_damage
      rw [hc]
      rfl
    have hm : mX12_damage hk_E0 F S 221 p1 = some (0, hk_up S 221 15 1) := by
      unfold mX12_damage mX12_leafTold
      simp only [pX12_isTrough hE1 hI.2.1, if_neg hno, not_true_eq_false, if_false, Option.bind_some, pX12_thr1, k_10]
    exact ⟨_, k_mop (m := fun S => mX12_damage hk_E0 F S 221 p1) hl hm (by rw [hk_up_eq, if_pos rfl]) (fun q => absurd q (by decide)), hk_I_same hI (hk_same_thr _ _)⟩
theorem mop_41_ok {F : Nat} {S : hk_S} {p1 p2 p3 p4 p5 : Int32} (hF : 2000000 ≤ F) (hI : hk_I S) : ∃ S', mop_41 F S p1 p2 p3 p4 p5 = some S' ∧ hk_I S' := by
  rcases k_exT (F := F) hI p1 with ⟨t, ht, rfl, hn, he⟩ | ⟨hno, he⟩
  · have htr := hI.1.2.2.1 t ht
    have h0 := k_leaf0 hI.2.1 ht
    have hcap := k_cap hI.2.1 ht hn
    have hok := hI.2.1.2.2.2.2.2.2.2.2.2.1 t ht
    have hin := k_in (by omega) hn
    have hL := hk_L1 hE2
    have hc : mX11_marks hk_E0 F S 0 (nI t) = some (.inr (if a_t (S 222) t 3 = 0 then -1 else t_mark (a_t (S 222) t), S)) := by
      unfold mX11_marks
      rw [he, hk_xb_inr]
      dsimp only
      rw [if_pos (hk_L_t hL ht), pX10_hasLeaf htr h0, Option.bind_some]
      dsimp only
      by_cases hq : a_t (S 222) t 3 = 0
      · simp only [hq, if_true]
      · simp only [hq, if_false, k_10]
        rw [pX10_quality htr, Option.bind_some]
    have hl : mL_marks hk_E0 F S 0 (nI t) 231 = some (0, hk_up S 231 0 (if a_t (S 222) t 3 = 0 then -1 else t_mark (a_t (S 222) t))) := by
      unfold mL_marks
      rw [hc]
      dsimp only
      rw [if_pos hk_ok231]
    generalize hv : (if a_t (S 222) t 3 = 0 then -1 else t_mark (a_t (S 222) t)) = v at hl hc
    have hw : a_ok ((hk_up S 231 0 v) 222) := by rw [hk_upne _ _ _ (by decide)]; exact hI.2.1
    have ew : (hk_up S 231 0 v) 222 = S 222 := hk_upne _ _ _ (by decide)
    have hin : 0 ≤ nI t ∧ nI t < (hk_up S 231 0 v) 222 9 := by rw [ew]; exact hin
    have ht2 : (hk_up (hk_up S 231 0 v) 221 15 0) 222 = S 222 := by rw [hk_upne _ _ _ (by decide), ew]
    have hm : mX12_marks hk_E0 F (hk_up S 231 0 v) 221 (nI t) = some (v, hk_up (hk_up S 231 0 v) 221 15 0) := by
      unfold mX12_marks
      simp only [pX12_isTrough hE1 hw, if_pos hin, k_10, not_false_eq_true, if_true, Option.bind_some, pX12_thr0, pX12_isEmpty hE1 ht, ht2]
      by_cases hq : a_t (S 222) t 3 = 0
      · have hv2 : v = -1 := by rw [← hv, if_pos hq]
        simp only [hq, if_true, k_10, if_false, Option.bind_some, hv2]
      · have hv2 : v = t_mark (a_t (S 222) t) := by rw [← hv, if_neg hq]
        simp only [hq, if_false, if_true, pX12_markOf hE1 ht, Option.bind_some, ht2]
        rw [hv2]
    exact ⟨_, k_mop (m := fun S => mX12_marks hk_E0 F S 221 (nI t)) hl hm (by rw [hk_up_eq, if_pos rfl]) (fun _ => by rw [hk_upne _ _ _ (by decide), hk_up_eq, if_pos rfl]), hk_I_same hI (hk_same_trans (hk_same_out _ _) (hk_same_thr _ _))⟩
  · have hc : mX11_marks hk_E0 F S 0 p1 = some (.inl (0, S)) := by
      unfold mX11_marks
      rw [he, hk_xb_inl]
    have hl : mL_marks hk_E0 F S 0 p1 231 = some (1, S) := by
      unfold mL_marks
      rw [hc]
      rfl
    have hm : mX12_marks hk_E0 F S 221 p1 = some (0, hk_up S 221 15 1) := by
      unfold mX12_marks
      simp only [pX12_isTrough hE1 hI.2.1, if_neg hno, not_true_eq_false, if_false, Option.bind_some, pX12_thr1, k_10]
    exact ⟨_, k_mop (m := fun S => mX12_marks hk_E0 F S 221 p1) hl hm (by rw [hk_up_eq, if_pos rfl]) (fun q => absurd q (by decide)), hk_I_same hI (hk_same_thr _ _)⟩
theorem mop_42_ok {F : Nat} {S : hk_S} {p1 p2 p3 p4 p5 : Int32} (hF : 2000000 ≤ F) (hI : hk_I S) : ∃ S', mop_42 F S p1 p2 p3 p4 p5 = some S' ∧ hk_I S' := by
  rcases k_exT (F := F) hI p1 with ⟨t, ht, rfl, hn, he⟩ | ⟨hno, he⟩
  · have htr := hI.1.2.2.1 t ht
    have h0 := k_leaf0 hI.2.1 ht
    have hcap := k_cap hI.2.1 ht hn
    have hok := hI.2.1.2.2.2.2.2.2.2.2.2.1 t ht
    have hin := k_in (by omega) hn
    have hL := hk_L1 hE2
    have hc : mX11_loss hk_E0 F S 0 (nI t) = some (.inr (t_loss (a_t (S 222) t) (a_dry (S 222) ((S 222) 0)), S)) := by
      unfold mX11_loss
      rw [he, hk_xb_inr]
      dsimp only
      have hA := hI.1.1
      have h20 := hI.2.1.1
      rw [if_pos (hk_L_t hL ht), rE_0_0 hE2, Option.bind_some, if_pos hL.1, hL.2.2.2.2.2.2.2.1, Option.bind_some, if_pos hL.2.1, hA.1, pX1_drynessOf hL (by omega) h20.1 (by have := h20.2; generalize S 222 0 = x at *; grind) (a_mok_of hI.2.1) hA, Option.bind_some]
      dsimp only
      rw [pX10_lossAt htr hok, Option.bind_some]
    have hl : mL_loss hk_E0 F S 0 (nI t) 231 = some (0, hk_up S 231 0 (t_loss (a_t (S 222) t) (a_dry (S 222) ((S 222) 0)))) := by
      unfold mL_loss
      rw [hc]
      dsimp only
      rw [if_pos hk_ok231]
    generalize hv : (t_loss (a_t (S 222) t) (a_dry (S 222) ((S 222) 0))) = v at hl hc
    have hw : a_ok ((hk_up S 231 0 v) 222) := by rw [hk_upne _ _ _ (by decide)]; exact hI.2.1
    have ew : (hk_up S 231 0 v) 222 = S 222 := hk_upne _ _ _ (by decide)
    have hin : 0 ≤ nI t ∧ nI t < (hk_up S 231 0 v) 222 9 := by rw [ew]; exact hin
    have ht2 : (hk_up (hk_up S 231 0 v) 221 15 0) 222 = S 222 := by rw [hk_upne _ _ _ (by decide), ew]
    have hm : mX12_loss hk_E0 F (hk_up S 231 0 v) 221 (nI t) = some (v, hk_up (hk_up S 231 0 v) 221 15 0) := by
      have hc0 : ¬ a_t ((hk_up (hk_up S 231 0 v) 221 15 0) 222) t 0 = 0 := by
        rw [ht2]
        generalize a_t (S 222) t 0 = c at *
        grind
      have h5 := hI.2.1.2.2.2.2.2.1
      unfold mX12_loss
      simp only [pX12_isTrough hE1 hw, if_pos hin, k_10, not_false_eq_true, if_true, Option.bind_some, pX12_thr0, rE_221_0 hE1, kE_222 hE1, lE_222 hE1, if_pos (show hk_ok 0 107 by decide)]
      rw [pX12_lossIn hE1 (by omega) (by rw [ht2]; exact h5.1) (by rw [ht2]; exact h5.2) ht hc0 (by rw [ht2]; exact hok), Option.bind_some]
      simp only [ht2, hv]
    exact ⟨_, k_mop (m := fun S => mX12_loss hk_E0 F S 221 (nI t)) hl hm (by rw [hk_up_eq, if_pos rfl]) (fun _ => by rw [hk_upne _ _ _ (by decide), hk_up_eq, if_pos rfl]), hk_I_same hI (hk_same_trans (hk_same_out _ _) (hk_same_thr _ _))⟩
  · have hc : mX11_loss hk_E0 F S 0 p1 = some (.inl (0, S)) := by
      unfold mX11_loss
      rw [he, hk_xb_inl]
    have hl : mL_loss hk_E0 F S 0 p1 231 = some (1, S) := by
      unfold mL_loss
      rw [hc]
      rfl
    have hm : mX12_loss hk_E0 F S 221 p1 = some (0, hk_up S 221 15 1) := by
      unfold mX12_loss
      simp only [pX12_isTrough hE1 hI.2.1, if_neg hno, not_true_eq_false, if_false, Option.bind_some, pX12_thr1, k_10]
    exact ⟨_, k_mop (m := fun S => mX12_loss hk_E0 F S 221 p1) hl hm (by rw [hk_up_eq, if_pos rfl]) (fun q => absurd q (by decide)), hk_I_same hI (hk_same_thr _ _)⟩
theorem mop_43_ok {F : Nat} {S : hk_S} {p1 p2 p3 p4 p5 : Int32} (hF : 2000000 ≤ F) (hI : hk_I S) : ∃ S', mop_43 F S p1 p2 p3 p4 p5 = some S' ∧ hk_I S' := by
  rcases k_exT (F := F) hI p1 with ⟨t, ht, rfl, hn, he⟩ | ⟨hno, he⟩
  · have htr := hI.1.2.2.1 t ht
    have h0 := k_leaf0 hI.2.1 ht
    have hcap := k_cap hI.2.1 ht hn
    have hok := hI.2.1.2.2.2.2.2.2.2.2.2.1 t ht
    have hin := k_in (by omega) hn
    have hL := hk_L1 hE2
    have hc : mX11_whyNoDischarge hk_E0 F S 0 (nI t) = some (.inr (t_why (S 222) (a_t (S 222) t), S)) := by
      unfold mX11_whyNoDischarge
      rw [rE_0_0 hE2, Option.bind_some, if_pos hL.1, he, hk_xb_inr]
      dsimp only
      rw [if_pos (hk_L_t hL ht), pX5_refusalOf hI.1.2.1 htr h0, Option.bind_some]
    have hl : mL_whyNoDischarge hk_E0 F S 0 (nI t) 231 = some (0, hk_up S 231 0 (t_why (S 222) (a_t (S 222) t))) := by
      unfold mL_whyNoDischarge
      rw [hc]
      dsimp only
      rw [if_pos hk_ok231]
    generalize hv : (t_why (S 222) (a_t (S 222) t)) = v at hl hc
    have hw : a_ok ((hk_up S 231 0 v) 222) := by rw [hk_upne _ _ _ (by decide)]; exact hI.2.1
    have ew : (hk_up S 231 0 v) 222 = S 222 := hk_upne _ _ _ (by decide)
    have hin : 0 ≤ nI t ∧ nI t < (hk_up S 231 0 v) 222 9 := by rw [ew]; exact hin
    have ht2 : (hk_up (hk_up S 231 0 v) 221 15 0) 222 = S 222 := by rw [hk_upne _ _ _ (by decide), ew]
    have hm : mX12_whyNoDischarge hk_E0 F (hk_up S 231 0 v) 221 (nI t) = some (v, hk_up (hk_up S 231 0 v) 221 15 0) := by
      unfold mX12_whyNoDischarge
      simp only [pX12_isTrough hE1 hw, if_pos hin, k_10, not_false_eq_true, if_true, Option.bind_some, pX12_thr0, pX12_whyStays hE1 ht, ht2, hv]
    exact ⟨_, k_mop (m := fun S => mX12_whyNoDischarge hk_E0 F S 221 (nI t)) hl hm (by rw [hk_up_eq, if_pos rfl]) (fun _ => by rw [hk_upne _ _ _ (by decide), hk_up_eq, if_pos rfl]), hk_I_same hI (hk_same_trans (hk_same_out _ _) (hk_same_thr _ _))⟩
  · have hc : mX11_whyNoDischarge hk_E0 F S 0 p1 = some (.inl (0, S)) := by
      unfold mX11_whyNoDischarge
      rw [rE_0_0 hE2, Option.bind_some, if_pos (hk_L1 hE2).1]
      rw [he, hk_xb_inl]
    have hl : mL_whyNoDischarge hk_E0 F S 0 p1 231 = some (1, S) := by
      unfold mL_whyNoDischarge
      rw [hc]
      rfl
    have hm : mX12_whyNoDischarge hk_E0 F S 221 p1 = some (0, hk_up S 221 15 1) := by
      unfold mX12_whyNoDischarge
      simp only [pX12_isTrough hE1 hI.2.1, if_neg hno, not_true_eq_false, if_false, Option.bind_some, pX12_thr1, k_10]
    exact ⟨_, k_mop (m := fun S => mX12_whyNoDischarge hk_E0 F S 221 p1) hl hm (by rw [hk_up_eq, if_pos rfl]) (fun q => absurd q (by decide)), hk_I_same hI (hk_same_thr _ _)⟩
