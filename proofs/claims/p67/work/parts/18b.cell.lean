/-- what stands while the law runs: the frame's words, the script -/
def hk_LC (p : Program) (s : State) (m : MethodId) (meth : Method) (c : Code) (b L : Nat) (xs : Nat → Int32) (g : hk_G) : Prop := CallFix p m c cL_law 8 s #[Value.ref b] hk_W RL ∧ meth.locks = false ∧ va_X b L xs s s.heap ∧ b < s.heap.size ∧ ¬ hk_A g b ∧ L < 2 ^ 31
/-- the script's cell, 0 behind its end -/
def lw_cell (L : Nat) (xs : Nat → Int32) (k : Int32) : Int32 := if Int32.ofNat L ≤ k then 0 else xs k.toNatClampNeg
def hk_PcX (g : hk_G) (E : hk_E) (S : hk_S) (n b L : Nat) (xs : Nat → Int32) (av : List Value) : Array Value → State → Prop := va_Pc av (fun U => (hk_C g E S n U U.heap ∧ hk_Z g U U.heap ∧ g.1 ≤ U.heap.size) ∧ va_X b L xs U U.heap ∧ b < U.heap.size ∧ ¬ hk_A g b)
theorem hk_blindX {g : hk_G} {E : hk_E} {S : hk_S} {n b L : Nat} {xs : Nat → Int32} {av : List Value} : FrameBlind (hk_PcX g E S n b L xs av) := by
  intro a U f mk h
  obtain ⟨h0, ⟨⟨h1, h2, h3⟩, h4, h5⟩, h6, h7⟩ := h
  exact ⟨h0, ⟨⟨h1, h2, va_K.moved (u := U) (U := U.calling f mk a) (Vm.Alike.refl U.vm) h3⟩, hk_Z.same (u := U) (U := U.calling f mk a) rfl h4, h5⟩, va_X.moved (u := U) (U := U.calling f mk a) (Vm.Alike.refl U.vm) h6, h7⟩
set_option maxHeartbeats 4000000 in
set_option maxRecDepth 100000 in
theorem kL_cell (l : Launch) (g : hk_G) (E : hk_E) (n : Nat) (S : hk_S) (b L : Nat) (xs : Nat → Int32) (k : Int32) (hk0 : 0 ≤ k ∧ k ≤ 12) (hL : L < 2 ^ 31) : Met l yL_cell (hk_ws yL_cell cL_cell 2 (Option.some Jvm.ClassFile.FieldType.int)) ({ frames := 0, cells := 0, slots := 0, locals := 0 }) (hk_PcX g E S n b L xs [.ref b, .int k]) (hk_Q g E S n (some (.int (lw_cell L xs k)))) 0 0 (hk_A g) := by
  refine Met.ofW (cc := cL_cell) (maxL := 2) (ret := (Option.some Jvm.ClassFile.FieldType.int)) (by decide) rfl ?_
  intro p e s m args below meth c s₁ B hml hv
  obtain ⟨rfl, G0, hX, hbl, hbA⟩ := hv
  have F9 : CallFix p m c cL_cell 2 s [.ref b, .int k].toArray hk_W RL := ⟨B.exec, B.bytes, hml, findClass_of_methodNamed B.named, fun w h => atoms_spec (ws := hk_ws yL_cell cL_cell 2 (Option.some Jvm.ClassFile.FieldType.int)) B.pre w (hk_in h)⟩
  have hx := B.exec
  have hb := B.bytes
  have hr := B.returns
  have hlocks := B.notSynchronized
  have hl := lv_entry ([.ref b, .int k]) (n := 2) (Nat.le_of_ble_eq_true rfl)
  rw [lg_entry_eq]
  generalize (lg_sl ([.ref b, .int k]) ++ List.replicate (2 - (lg_sl ([.ref b, .int k])).length) Slot.unset).toArray = ls at hl ⊢
  have hl : lv_has ls 2 [(0, .ref b), (1, .int k)] := hl
  have G : hk_GG g E S n s s.heap [] := ⟨G0.1, va_S.rf, G0.2⟩
  refine lv_iload_n hx hb dL_cell_0 rfl (lv_at hl 1 rfl) ?_
  refine lv_aload_n hx hb dL_cell_1 rfl (lv_at hl 0 rfl) ?_
  refine va_slen hx hb hX hbl hbA G.2.1 dL_cell_2 ?_
  refine lv_icmp_ge (tgt := 12) hx hb dL_cell_3 (by decide) (fun h => ?_) (fun h => ?_)
  · refine lv_iconst (v := 0) hx hb dL_cell_12 (by decide) ?_
    have e : lw_cell L xs k = 0 := if_pos h
    rw [e]
    exact W.iret (v := 0) hx hb hr (fun t ht hW => hk_end G ht hW) G.2.1.2.2 dL_cell_13
  · have hin : vp_in k L := by
      obtain ⟨j, hj, rfl⟩ := nI_of2 (x := k) (M := 12) (n := 12) (by decide) (by have := hk0.1; grind) hk0.2
      exact nI_in (Nat.not_le.mp fun q => h (nI_le q (by omega))) hL
    refine lv_aload_n hx hb dL_cell_6 rfl (lv_at hl 0 rfl) ?_
    refine lv_iload_n hx hb dL_cell_7 rfl (lv_at hl 1 rfl) ?_
    refine va_sld hx hb hX hbl hbA G.2.1 hin dL_cell_8 ?_
    refine lv_goto (tgt := 13) hx hb dL_cell_9 (by decide) ?_
    have e : lw_cell L xs k = xs k.toNatClampNeg := if_neg h
    rw [e]
    exact W.iret (v := xs k.toNatClampNeg) hx hb hr (fun t ht hW => hk_end G ht hW) G.2.1.2.2 dL_cell_13
section HKLAW
variable {p : Program} {l : Launch} {e : Env} {s : State} {m : MethodId} {below : List Frame} {meth : Method} {c : Code} {Q : State → Prop} {b L : Nat} {xs : Nat → Int32} {g : hk_G}
theorem hk_cellr {E : hk_E} {S : hk_S} {n : Nat} {H : Heap} {locs : List Loc} {ls : Array Slot} {rest : List Value} {pc : Nat} {cells slots : Nat} {k : Int32} (hC : hk_LC p s m meth c b L xs g) (G : hk_GG g E S n s H locs) (hk : 0 ≤ k ∧ k ≤ 12) (hls : ls.size = 8) (hrest : (rest.map fun v => v.category).sum ≤ 8) (hf : cells ≤ room_1.cells ∧ slots ≤ room_1.slots) (hdg : decode cL_law pc = .ok (.invokestatic 197, 3))
    (kk : ∀ (H1 : Heap) (locs1 : List Loc), hk_GG g E S n s H1 locs1 → W p l e room_1 s m #[Value.ref b] below meth c H1 locs1 cells slots Q (F0 m (pc + 3) ls (.int (lw_cell L xs k) :: rest))) : W p l e room_1 s m #[Value.ref b] below meth c H locs cells slots Q (F0 m pc ls (.int k :: .ref b :: rest)) := by
  obtain ⟨F, -, hX, hbl, hbA, hL⟩ := hC
  obtain ⟨w1, w2, w3, w5, d1, d2, d3⟩ := qv_RL_197
  refine hk_call (mc := 0) (ms := 0) (va_runS (bytes := cL_cell) (maxL := 2) (ret := Option.some Jvm.ClassFile.FieldType.int) (As := [.ref b, .int k]) (rest := rest) F (kL_cell l g E n S b L xs k hk hL) ⟨?_, F.2.2.2.2 _ w3⟩ ⟨hk_blindX, fun U hU hW => ?_⟩ rfl rfl hls rfl (lv_room hrest) hdg hf) G kk
  · exact callB_of 2 F.2.2.2.2 (hk_goodws w1) rfl rfl rfl (F.2.2.2.2 _ w5) (F.2.2.2.2 _ w2) ⟨d1, d2, d3⟩ ⟨Nat.le_of_ble_eq_true rfl, Nat.le_of_ble_eq_true rfl⟩
  · have h := hk_pre G [.ref b, .int k] U hU hW
    refine ⟨rfl, h.2, ?_, Nat.lt_of_lt_of_le hbl (by rw [hU]; exact G.2.1.1), hbA⟩
    rw [hU]
    exact (hX.kept (G.2.1.2.1 b hbl hbA)).moved hW.alike
end HKLAW
