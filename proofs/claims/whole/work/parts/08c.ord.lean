set_option maxHeartbeats 4000000 in
set_option maxRecDepth 100000 in
theorem kJx29ce0_ordinal_8abf5 (l : Launch) (g : hk_G) (E : hk_E) (n : Nat) (S : hk_S) (i : Nat) (hi : i < 15) : Met l yJx29ce0_ordinal_8abf5 (hk_ws yJx29ce0_ordinal_8abf5 cJx29ce0_ordinal_8abf5 1 (some .int)) ({ frames := 0, cells := 0, slots := 0, locals := 0 }) (hk_Pc g E S n [.ref (g.2.2.2 3 i)]) (hk_Q g E S n (some (.int (nI i)))) 0 0 (hk_A g) := by
  refine Met.ofW (cc := cJx29ce0_ordinal_8abf5) (maxL := 1) (ret := (some .int)) (by decide) rfl ?_
  intro p e s m args below meth c s₁ B hml hv
  obtain ⟨rfl, G⟩ := hk_begin hv
  have F9 : CallFix p m c cJx29ce0_ordinal_8abf5 1 s [.ref (g.2.2.2 3 i)].toArray hk_W RJx29ce0 := ⟨B.exec, B.bytes, hml, findClass_of_methodNamed B.named, fun w h => atoms_spec (ws := hk_ws yJx29ce0_ordinal_8abf5 cJx29ce0_ordinal_8abf5 1 (some .int)) B.pre w (hk_in h)⟩
  have hx := B.exec
  have hb := B.bytes
  have hr := B.returns
  have hlocks := B.notSynchronized
  have hl := lv_entry ([.ref (g.2.2.2 3 i)]) (n := 1) (Nat.le_of_ble_eq_true rfl)
  rw [lg_entry_eq]
  generalize (lg_sl ([.ref (g.2.2.2 3 i)]) ++ List.replicate (1 - (lg_sl ([.ref (g.2.2.2 3 i)])).length) Slot.unset).toArray = ls at hl ⊢
  have hl : lv_has ls 1 [(0, .ref (g.2.2.2 3 i))] := hl
  refine lv_aload_n hx hb dJx29ce0_ordinal_8abf5_0 rfl (lv_at hl 0 rfl) ?_
  refine va_getE hx hb G.2.2.1.2.2.1 hi G.2.1 F9.2.2.2.1 (q := ("java/lang/Enum", "ordinal", "I", [0, 1, 2, 3, 4, 5, 6, 7, 8, 9, 10, 11, 12, 13, 14])) List.mem_cons_self (F9.2.2.2.2 _ (hk_m 2148 (by decide +kernel) (by decide +kernel))) (fun _ h => h) dJx29ce0_ordinal_8abf5_1 ?_
  rw [(show ∀ i, i < 15 → ([0, 1, 2, 3, 4, 5, 6, 7, 8, 9, 10, 11, 12, 13, 14] : List Int32).getD i 0 = nI i by decide +kernel) i hi]
  exact W.iret (v := nI i) hx hb hr (fun t ht hW => hk_end G ht hW) G.2.1.2.2 dJx29ce0_ordinal_8abf5_4
section HKO
variable {p : Program} {l : Launch} {e : Env} {R : Room} {s : State} {m : MethodId} {args : Array Value} {below : List Frame} {meth : Method} {c : Code} {H : Heap} {locs : List Loc} {cells slots : Nat} {Q : State → Prop}
variable {cc : ByteArray} {nL pc : Nat} {ls : Array Slot} {rest : List Value} {g : hk_G} {E : hk_E} {S : hk_S} {n : Nat}
theorem hk_crecv (G : hk_GG g E S n s H locs) {i : Nat} (hi : i < 15) : ∃ cell : Cell, H[g.2.2.2 3 i]? = some cell ∧ cell.vm.isStatics = false ∧ s.vm.findClass "WitheringLoft$Command" = some cell.cls := by
  obtain ⟨cell, h1, h2, h3, -⟩ := ((G.2.2.1.2.2.1.1 i hi).2.1).kept G.2.1.2.1
  exact ⟨cell, h1, h2, h3⟩
theorem hk_ordinal (F : CallFix p m c cc nL s args hk_W RX8) (G : hk_GG g E S n s H locs) {x : Int32} (hin : hk_ok x 15) (hR : 1 ≤ R.frames ∧ 20 ≤ R.locals) (hL : ls.size = nL) (hrest : (rest.map fun v => v.category).sum ≤ 8) (hf : cells ≤ R.cells ∧ slots ≤ R.slots) (hdg : decode cc pc = .ok (.invokevirtual 143, 3))
    (kk : ∀ (H1 : Heap) (locs1 : List Loc), hk_GG g E S n s H1 locs1 → W p l e R s m args below meth c H1 locs1 cells slots Q (F0 m (pc + 3) ls (.int x :: rest))) : W p l e R s m args below meth c H locs cells slots Q (F0 m pc ls (hk_en (g.2.2.2 3) x :: rest)) := by
  have h0 : ¬ x < 0 := fun q => hin (Or.inl q)
  have hlt : x.toNatClampNeg < 15 := Nat.not_le.mp fun q => hin (Or.inr q)
  have hxn : nI x.toNatClampNeg = x := by
    obtain ⟨j, hj, rfl⟩ := nI_of h0
    rw [nI_clamp hj]
  rw [hk_en_ref h0]
  refine hk_call (va_runU (x := ⟨"WitheringLoft$Command", "ordinal", "()I"⟩) (owner := "java/lang/Enum") (C := "WitheringLoft$Command") (As := []) (rest := rest) F (kJx29ce0_ordinal_8abf5 l g E n S x.toNatClampNeg hlt) (va_cwU 0 F.2.2.2.2 ?_ rfl rfl rfl rfl (by decide +kernel) hR) ⟨hk_blind, hk_crecv G hlt, hk_pre G _⟩ rfl rfl hL rfl (lv_room hrest) hdg hf) G (fun H1 locs1 G1 => by rw [hxn]; exact kk H1 locs1 G1)
  intro w hw
  have hw2 : w ∈ hk_W := by
    rcases List.mem_append.mp (show w ∈ _ ++ hk_ws yJx29ce0_ordinal_8abf5 cJx29ce0_ordinal_8abf5 1 (some .int) from hw) with h | h
    · simp only [List.mem_cons, List.not_mem_nil, or_false] at h
      rcases h with h | h | h | h | h <;> rw [h]
      · exact hk_m 693 (by decide +kernel) (by decide +kernel)
      · exact hk_m 694 (by decide +kernel) (by decide +kernel)
      · exact hk_m 696 (by decide +kernel) (by decide +kernel)
      · exact hk_m 697 (by decide +kernel) (by decide +kernel)
      · exact hk_m 119 (by decide +kernel) (by decide +kernel)
    · rcases List.mem_cons.mp h with h | h
      · rw [h]
        exact hk_m 698 (by decide +kernel) (by decide +kernel)
      · exact h
  exact ⟨hw2, hk_good w hw2⟩
end HKO
