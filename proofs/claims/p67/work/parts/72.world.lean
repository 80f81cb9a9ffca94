/-! what the statement gives of the start, as the world of the rows -/
def hk_fl : Cond → List Cond → List Cond
  | .and a b, acc => hk_fl a (hk_fl b acc)
  | c, acc => c :: acc
theorem hk_fl_ok {args : Array Value} {s : State} (T : Cond) : ∀ acc : List Cond, T.before args s = true → (∀ w ∈ acc, w.before args s = true) → ∀ w ∈ hk_fl T acc, w.before args s = true := by
  induction T with
  | and a b iha ihb =>
    intro acc h ha
    rw [Cond.before_and, Bool.and_eq_true] at h
    simp only [hk_fl]
    exact iha _ h.1 (ihb _ h.2 ha)
  | _ =>
    intro acc h ha w hw
    simp only [hk_fl, List.mem_cons] at hw
    rcases hw with e | e
    · rw [e]; exact h
    · exact ha w e
def hk_flat : List Cond := hk_fl (Jvm.Cond.and given_1 narrow_1) []
theorem hk_endX : Cond.exactly (.static "WitheringLoft$Token" "END" "LWitheringLoft$Token;") "WitheringLoft$Token" ∈ hk_flat := by decide +kernel
theorem hk_endL : Cond.laysStatic "WitheringLoft$Token" "END" "LWitheringLoft$Token;" ∈ lw_tbl ∧ Cond.initialized "WitheringLoft$Token" ∈ lw_tbl := ⟨by decide +kernel, by decide +kernel⟩
theorem hk_nestT : ∀ q ∈ hk_nest, Cond.methodLinkNest q.1 q.2.1 q.2.2.1 q.2.2.2 ∈ lw_tbl := by decide +kernel
theorem hk_aoT : ∀ C ∈ ["WitheringLoft$Loft", "WitheringLoft$Probe", "WitheringLoft$Trough"], Cond.arrayOver (.object C) ∈ lw_tbl := by decide +kernel
theorem hk_acT : ∀ t ∈ [FieldType.byte, FieldType.int], Cond.arrayClass t ∈ lw_tbl := by decide +kernel
theorem hk_arrs {args : Array Value} {s : State} (hts : ∀ w ∈ lw_tbl, w.before args s = true) : ∃ cA : Nat → ClassId, ∀ (g : hk_G), g.2.2.1 = cA → ∀ (k : Nat) (q : ClassId × FieldType), (hk_tys g)[k]? = some q → ArrOfT s q.1 q.2 ∧ va_RA s q.1 q.2 := by
  have hp : ∀ t ∈ [FieldType.byte, FieldType.int], ∃ c : ClassId, ArrOfT s c t ∧ s.vm.findClass ("[" ++ t.toString) = some c := by
    intro t ht
    obtain ⟨c, k, comp, h1, h2, h3⟩ := Cond.arrayClass_spec (hts _ (hk_acT t ht))
    exact ⟨c, fun n z => ⟨(fun k h => by cases h), k, h2, comp, h3⟩, h1⟩
  have hq : ∀ C ∈ ["WitheringLoft$Loft", "WitheringLoft$Probe", "WitheringLoft$Trough"], ∃ c : ClassId, ArrOfT s c (.object C) ∧ va_RA s c (.object C) := by
    intro C hC
    obtain ⟨comp, c, k, h1, h2, h3, h4, h5⟩ := Cond.arrayOver_spec (hts _ (hk_aoT C hC))
    exact ⟨c, fun n z => ⟨(fun k h => by cases h), k, h3, comp, h4⟩, k, comp, h3, h4, h1, h5⟩
  obtain ⟨c0, a0, b0⟩ := hp .byte (by simp)
  obtain ⟨c2, a2, b2⟩ := hp .int (by simp)
  obtain ⟨c3, a3⟩ := hq "WitheringLoft$Loft" (by simp)
  obtain ⟨c4, a4⟩ := hq "WitheringLoft$Probe" (by simp)
  obtain ⟨c5, a5⟩ := hq "WitheringLoft$Trough" (by simp)
  refine ⟨fun k => match k with | 0 => c0 | 1 => c0 | 2 => c2 | 3 => c3 | 4 => c4 | _ => c5, fun g hg k q h => ?_⟩
  unfold hk_tys at h
  rw [hg] at h
  match k, h with
  | 0, h => cases h; exact ⟨a0, b0⟩
  | 1, h => cases h; exact ⟨a0, b0⟩
  | 2, h => cases h; exact ⟨a2, b2⟩
  | 3, h => cases h; exact a3
  | 4, h => cases h; exact a4
  | 5, h => cases h; exact a5
  | k + 6, h => exact nomatch h
theorem hk_insts : ∀ ci, ci < 9 → ∀ C T N, vwCl[ci]? = some (C, T, N) → Cond.instantiable C N ∈ lw_tbl ∧ ∀ w ∈ u_ws C T N, w ∈ lw_tbl := by
  have hW : ∀ w ∈ hk_W, w ∈ lw_tbl := fun w hw => (List.mem_filter.mp hw).1
  intro ci hci C T N h
  match ci, hci, h with
  | 0, _, h => cases h; exact ⟨by decide +kernel, fun w hw => hW w (hkc_0.2.2.2.1 w hw)⟩
  | 1, _, h => cases h; exact ⟨by decide +kernel, fun w hw => hW w (hkc_1.2.2.2.1 w hw)⟩
  | 2, _, h => cases h; exact ⟨by decide +kernel, fun w hw => hW w (hkc_2.2.2.2.1 w hw)⟩
  | 3, _, h => cases h; exact ⟨by decide +kernel, fun w hw => hW w (hkc_3.2.2.2.1 w hw)⟩
  | 4, _, h => cases h; exact ⟨by decide +kernel, fun w hw => hW w (hkc_4.2.2.2.1 w hw)⟩
  | 5, _, h => cases h; exact ⟨by decide +kernel, fun w hw => hW w (hkc_5.2.2.2.1 w hw)⟩
  | 6, _, h => cases h; exact ⟨by decide +kernel, fun w hw => hW w (hkc_6.2.2.2.1 w hw)⟩
  | 7, _, h => cases h; exact ⟨by decide +kernel, fun w hw => hW w (hkc_7.2.2.2.1 w hw)⟩
  | 8, _, h => cases h; exact ⟨by decide +kernel, fun w hw => hW w (hkc_8.2.2.2.1 w hw)⟩
theorem hk_classes {args : Array Value} {s : State} (hts : ∀ w ∈ lw_tbl, w.before args s = true) : ∃ D : va_G, ∀ (ci : Nat) (q : vw_C), vwCl[ci]? = some q → u_Kn s q.1 q.2.1 q.2.2 (D.1 ci) (D.2 ci) := by
  have h0 : ∀ ci : Nat, ∃ d : ClassId × (Nat → Nat), ∀ q : vw_C, vwCl[ci]? = some q → u_Kn s q.1 q.2.1 q.2.2 d.1 d.2 := by
    intro ci
    cases h : vwCl[ci]? with
    | none => exact ⟨(0, fun _ => 0), fun q hq => nomatch hq⟩
    | some q =>
      have hci : ci < 9 := (List.getElem?_eq_some_iff.mp h).1
      obtain ⟨h1, h2⟩ := hk_insts ci hci q.1 q.2.1 q.2.2 h
      obtain ⟨cC, iS, hK⟩ := u_known hts h2 (hts _ h1)
      exact ⟨(cC, iS), fun q' hq' => by cases hq'; exact hK⟩
  obtain ⟨d, hd⟩ := Classical.axiomOfChoice h0
  exact ⟨(fun ci => (d ci).1, fun ci => (d ci).2), fun ci q hq => hd ci q hq⟩
set_option maxHeartbeats 4000000 in
theorem hk_world {args : Array Value} {s : State} (hts : ∀ w ∈ lw_tbl, w.before args s = true) (hgv : (Jvm.Cond.and given_1 narrow_1).before args s = true) : ∃ g : hk_G, g.1 = s.heap.size ∧ hk_GG g (hk_EE 0 0) (fun _ _ => 0) (g.1 + 0) s s.heap [] := by
  have hs : ∀ w ∈ hk_flat, w.before args s = true := hk_fl_ok _ [] hgv (fun w hw => nomatch hw)
  have hA : ∀ a : Nat, a < s.heap.size → ¬ (fun q : Nat => s.heap.size ≤ q) a := fun a h1 h2 => absurd h1 (Nat.not_lt.mpr h2)
  obtain ⟨a, c, cell, k, q1, -⟩ := Cond.exactly_spec (hs _ hk_endX)
  have hZ : va_Z "WitheringLoft$Token" "END" "LWitheringLoft$Token;" (.ref a) (fun q : Nat => s.heap.size ≤ q) s s.heap := va_Zref (hts _ hk_endL.1) (hts _ hk_endL.2) q1 hA
  obtain ⟨cA, hcA⟩ := hk_arrs hts
  obtain ⟨D, hD⟩ := hk_classes hts
  refine ⟨(s.heap.size, D, cA, fun _ _ => a), rfl, ⟨⟨?_, rfl, hD, hcA _ rfl⟩, ⟨Nat.le_refl _, fun q _ _ => rfl, fun l hl => nomatch hl⟩, ?_, Nat.le_refl _⟩⟩
  · exact ⟨Nat.le_refl _, fun a ha => absurd (show (if a < 0 then hk_KT.getD a 0 else 0) = 0 by rw [if_neg (Nat.not_lt_zero a)]) ha⟩
  · exact ⟨hZ, fun q hq => va_Nw.of rfl (hts _ (hk_nestT q hq)), va_AO.of (hts _ (hk_aoT _ (by simp))), va_AO.of (hts _ (hk_aoT _ (by simp))), va_AO.of (hts _ (hk_aoT _ (by simp)))⟩
