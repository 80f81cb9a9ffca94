theorem hk_arrs {args : Array Value} {s : State} (hts : ∀ w ∈ lw_tbl, w.before args s = true) : ∃ cA : Nat → ClassId, ∀ (g : hk_G), g.2.2.1 = cA → ∀ (k : Nat) (q : ClassId × FieldType), (hk_tys g)[k]? = some q → ArrOfT s q.1 q.2 ∧ va_RA s q.1 q.2 := by
  have hp : ∀ t ∈ [FieldType.byte, FieldType.char, FieldType.int, FieldType.long], ∃ c : ClassId, ArrOfT s c t ∧ s.vm.findClass ("[" ++ t.toString) = some c := by
    intro t ht
    obtain ⟨c, k, comp, h1, h2, h3⟩ := Cond.arrayClass_spec (hts _ (hk_acT t ht))
    exact ⟨c, fun n z => ⟨(fun k h => by cases h), k, h2, comp, h3⟩, h1⟩
  have hq : ∀ C ∈ ["WitheringLoft$Loft", "WitheringLoft$Probe", "WitheringLoft$Trough"], ∃ c : ClassId, ArrOfT s c (.object C) ∧ va_RA s c (.object C) := by
    intro C hC
    obtain ⟨comp, c, k, h1, h2, h3, h4, h5⟩ := Cond.arrayOver_spec (hts _ (hk_aoT C hC))
    exact ⟨c, fun n z => ⟨(fun k h => by cases h), k, h3, comp, h4⟩, k, comp, h3, h4, h1, h5⟩
  obtain ⟨c0, a0, b0⟩ := hp .byte (by simp)
  obtain ⟨c1, a1, b1⟩ := hp .char (by simp)
  obtain ⟨c2, a2, b2⟩ := hp .int (by simp)
  obtain ⟨c6, a6, b6⟩ := hp .long (by simp)
  obtain ⟨c3, a3⟩ := hq "WitheringLoft$Loft" (by simp)
  obtain ⟨c4, a4⟩ := hq "WitheringLoft$Probe" (by simp)
  obtain ⟨c5, a5⟩ := hq "WitheringLoft$Trough" (by simp)
  refine ⟨fun k => match k with | 0 => c0 | 1 => c1 | 2 => c2 | 3 => c3 | 4 => c4 | 5 => c5 | _ => c6, fun g hg k q h => ?_⟩
  unfold hk_tys at h
  rw [hg] at h
  match k, h with
  | 0, h => cases h; exact ⟨a0, b0⟩
  | 1, h => cases h; exact ⟨a1, b1⟩
  | 2, h => cases h; exact ⟨a2, b2⟩
  | 3, h => cases h; exact a3
  | 4, h => cases h; exact a4
  | 5, h => cases h; exact a5
  | 6, h => cases h; exact ⟨a6, b6⟩
  | k + 7, h => exact nomatch h
theorem hk_insts : ∀ ci, ci < 10 → ∀ C T N, vwCl[ci]? = some (C, T, N) → Cond.instantiable C N ∈ lw_tbl ∧ ∀ w ∈ u_ws C T N, w ∈ lw_tbl := by
  have hW : ∀ w ∈ hk_W, w ∈ lw_tbl := fun w hw => (List.mem_filter.mp hw).1
  intro ci hci C T N h
  match ci, hci, h with
  | 0, _, h => cases h; exact ⟨by decide +kernel, fun w hw => hW w (hkc_0.2.2.2.1 w hw)⟩
  | 1, _, h => cases h; exact ⟨by decide +kernel, fun w hw => hW w (hkc_1.2.2.2.1 w hw)⟩
  | 2, _, h => cases h; exact ⟨by decide +kernel, fun w hw => hW w (hkc_2.2.2.2.1 w hw)⟩
  | 3, _, h => cases h; exact ⟨by decide +kernel, fun w hw => hW w (hkc_3.2.2.2.1 w hw)⟩
  | 4, _, h => cases h; exact ⟨by decide +kernel, fun w hw => hW w (hkc_4.2.2.2.1 w hw)⟩
  | 5, _, h => cases h; exact ⟨by decide +kernel, fun w hw => hW w (hkc_5.2.2.2.1 w hw)⟩
  | 6, _, h => cases h; exact ⟨by decide +kernel, fun w hw => hW w (hkc_6.2.2.2.1 w hw)⟩
  | 7, _, h => cases h; exact ⟨by decide +kernel, fun w hw => hW w (hkc_7.2.2.2.1 w hw)⟩
  | 8, _, h => cases h; exact ⟨by decide +kernel, fun w hw => hW w (hkc_8.2.2.2.1 w hw)⟩
  | 9, _, h => cases h; exact ⟨by decide +kernel, fun w hw => hW w (hkc_9.2.2.2.1 w hw)⟩
theorem hk_classes {args : Array Value} {s : State} (hts : ∀ w ∈ lw_tbl, w.before args s = true) : ∃ D : va_G, ∀ (ci : Nat) (q : vw_C), vwCl[ci]? = some q → u_Kn s q.1 q.2.1 q.2.2 (D.1 ci) (D.2 ci) := by
  have h0 : ∀ ci : Nat, ∃ d : ClassId × (Nat → Nat), ∀ q : vw_C, vwCl[ci]? = some q → u_Kn s q.1 q.2.1 q.2.2 d.1 d.2 := by
    intro ci
    cases h : vwCl[ci]? with
    | none => exact ⟨(0, fun _ => 0), fun q hq => nomatch hq⟩
    | some q =>
      have hci : ci < 10 := (List.getElem?_eq_some_iff.mp h).1
      obtain ⟨h1, h2⟩ := hk_insts ci hci q.1 q.2.1 q.2.2 h
      obtain ⟨cC, iS, hK⟩ := u_known hts h2 (hts _ h1)
      exact ⟨(cC, iS), fun q' hq' => by cases hq'; exact hK⟩
  obtain ⟨d, hd⟩ := Classical.axiomOfChoice h0
  exact ⟨(fun ci => (d ci).1, fun ci => (d ci).2), fun ci q hq => hd ci q hq⟩
set_option maxHeartbeats 4000000 in
theorem hk_world {args : Array Value} {s : State} (hts : ∀ w ∈ lw_tbl, w.before args s = true) (hgv : (Jvm.Cond.and given_1 narrow_1).before args s = true) : ∃ g : hk_G, g.1 = s.heap.size ∧ hk_GG g (hk_EE 0 0) (fun _ _ => 0) (g.1 + 0) s s.heap [] := by
  have hs : ∀ w ∈ hk_flat, w.before args s = true := hk_fl_ok _ [] hgv (fun w hw => nomatch hw)
  have hA : ∀ a : Nat, a < s.heap.size → ¬ (fun q : Nat => s.heap.size ≤ q) a := fun a h1 h2 => absurd h1 (Nat.not_lt.mpr h2)
  have hini : ∀ C ∈ ["java/lang/String", "jdk/internal/util/Preconditions", Bundle.tN, "WitheringLoft$Script", "WitheringLoft$1", "WitheringLoft$Token", "WitheringLoft$Command"], (Cond.initialized C).before args s = true := fun C hC => hts _ (hk_iniT C hC)
  obtain ⟨z, hz⟩ := hk_strAll (A := fun q : Nat => s.heap.size ≤ q) hs hts hA
  obtain ⟨at1, ht1, ht2⟩ := va_Enof2 (A := fun q : Nat => s.heap.size ≤ q) (E := "WitheringLoft$Token") (d := "LWitheringLoft$Token;") (nm := hk_tok) (F := [("java/lang/Enum", "ordinal", "I", [0, 1, 2, 3, 4, 5, 6])]) (fun i hi => hts _ (hk_tokW.1 i hi)) (hini _ (by simp)) (fun i hi => hs _ (hk_tokX.1 i hi)) (fun q hq i hi => by
    rcases List.mem_singleton.mp hq with rfl
    exact hs _ (hk_tokO.1 i hi)) (fun i j hi hj h => (hk_tokN i hi j hj h).imp (fun q => hs _ q) (fun q => hs _ q)) hA
  obtain ⟨ac1, hc1, hc2⟩ := va_Enof2 (A := fun q : Nat => s.heap.size ≤ q) (E := "WitheringLoft$Command") (d := "LWitheringLoft$Command;") (nm := hk_com) (F := [("java/lang/Enum", "ordinal", "I", [0, 1, 2, 3, 4, 5, 6, 7, 8, 9, 10, 11, 12, 13, 14])]) (fun i hi => hts _ (hk_tokW.2 i hi)) (hini _ (by simp)) (fun i hi => hs _ (hk_tokX.2 i hi)) (fun q hq i hi => by
    rcases List.mem_singleton.mp hq with rfl
    exact hs _ (hk_tokO.2 i hi)) (fun i j hi hj h => (hk_comN i hi j hj h).imp (fun q => hs _ q) (fun q => hs _ q)) hA
  obtain ⟨aC, hC1, hC2⟩ := va_Tof (A := fun q : Nat => s.heap.size ≤ q) (N := 15) (f := fun j => .ref (ac1 j)) (by decide) (hs _ hk_comT.1) (va_eqt (hs _ hk_comT.2.1)) (fun j hj => va_eqv (hs _ (hk_comT.2.2 j hj)) (hc2 j hj)) hA
  obtain ⟨aS, hS1, hS2⟩ := va_Tof (A := fun q : Nat => s.heap.size ≤ q) (N := 15) (f := fun j => .int (hk_sm.getD j 0)) (by decide) (hs _ hk_smT.1) (va_eqt (hs _ hk_smT.2.1)) (fun j hj => va_eqt (hs _ (hk_smT.2.2 j hj))) hA
  obtain ⟨cA, hcA⟩ := hk_arrs hts
  obtain ⟨D, hD⟩ := hk_classes hts
  refine ⟨(s.heap.size, D, cA, fun a i => match a with | 0 => (z i).1 | 1 => (z i).2 | 2 => at1 i | 3 => ac1 i | _ => if i = 0 then aC else aS), rfl, ⟨⟨?_, rfl, hD, hcA _ rfl⟩, ⟨Nat.le_refl _, fun q _ _ => rfl, fun l hl => nomatch hl⟩, ?_, Nat.le_refl _⟩⟩
  · exact ⟨Nat.le_refl _, fun a ha => absurd (show (if a < 0 then hk_KT.getD a 0 else 0) = 0 by rw [if_neg (Nat.not_lt_zero a)]) ha⟩
  · refine ⟨fun i q hi => (hz i q hi).1, ht1, hc1, fun i hi => ?_, ⟨va_Zref (hts _ hk_laysT.2.2.2.2.1) (hini _ (by simp)) hC1 hA, hC2⟩, ⟨va_Zref (hts _ hk_laysT.2.2.2.2.2) (hini _ (by simp)) hS1 hA, hS2⟩, ⟨va_Zof (hts _ hk_laysT.1) (hini _ (by simp)) (va_eqi (hs _ hk_statT.1)) hA, vx_Zqof (hts _ hk_laysT.2.1) (hini _ (by simp)) (hs _ hk_statT.2.1) hA, vx_Zqof (hts _ hk_laysT.2.2.1) (hini _ (by simp)) (hs _ hk_statT.2.2.1) hA, vx_Zqof (hts _ hk_laysT.2.2.2.1) (hini _ (by simp)) (hs _ hk_statT.2.2.2) hA⟩, fun q hq => va_Nw.of rfl (hts _ (hk_nestT q hq)), fun q hq => va_Nw.of rfl (hts _ (hk_declT q hq)), fun q hq => va_Nw.of rfl (hts _ (hk_casT q hq)), fun q hq => va_Nc.of (hs _ (hk_ncasT q hq)), va_AO.of (hts _ (hk_aoT _ (by simp))), va_AO.of (hts _ (hk_aoT _ (by simp))), va_AO.of (hts _ (hk_aoT _ (by simp)))⟩
    have hlt : hk_wd.getD i 0 < 47 := hk_wd_lt i
    obtain ⟨q, hq, -⟩ := hk_strq hlt
    have hw := hk_wordT i hi
    rw [show hk_str.getD (hk_wd.getD i 0) ("", 0, "", []) = q by rw [List.getD_eq_getElem?_getD, hq]; rfl] at hw
    exact vk_OFof (hc2 i hi) (va_eqv (hs _ hw) (hz _ q hq).2) hA
