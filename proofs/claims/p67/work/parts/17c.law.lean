def mL_all_4 (E : hk_E) (F : Nat) (a0 : Nat)  (k : hk_S → Int64 → Int32 → Option (Int64 × hk_S)) : Nat → hk_S → Int64 → Int32 → Option (Int64 × hk_S)
  | 0 => fun _ _ _ => none
  | f + 1 => fun S z2 z3 =>
    (mX11_troughCount E F S a0).bind (fun r4 => if r4.1 ≤ z3 then (k r4.2 z2 z3) else ((mX11_weight E F r4.2 a0 z3).bind (fun r6 => hk_let ((z2 + ((r6.1 : Int32).toInt64)) : Int64) (fun y7 => hk_let (z3 + 1) (fun y8 => mL_all_4 E F a0 k f r6.2 y7 y8)))))
def mL_all (E : hk_E) (F : Nat) (S : hk_S) (a0 : Nat) : Option (Int64 × hk_S) :=
hk_let ((0 : Int64) : Int64) (fun y1 => mL_all_4 E F a0  (fun S9 z10 z11 => some (z10, S9)) F S y1 0)
set_option maxHeartbeats 4000000 in
set_option maxRecDepth 100000 in
theorem kL_all (l : Launch) (g : hk_G) (E : hk_E) (F n : Nat) (S : hk_S) (a0 : Nat) (o : Int64 × hk_S) (h0 : E.2.1 a0 = 9) (hsp : mL_all E F S a0 = some o) : Met l yL_all (hk_ws yL_all cL_all 4 (Option.some Jvm.ClassFile.FieldType.long)) ({ frames := 3, cells := 0, slots := 0, locals := 63 }) (hk_Pc g E S n [.ref (g.1 + a0)]) (hk_Q g E o.2 n (some (.long o.1))) 0 0 (hk_A g) := by
  refine Met.ofW (cc := cL_all) (maxL := 4) (ret := (Option.some Jvm.ClassFile.FieldType.long)) (by decide) rfl ?_
  intro p e s m args below meth c s₁ B hml hv
  obtain ⟨rfl, G⟩ := hk_begin hv
  have F9 : CallFix p m c cL_all 4 s [.ref (g.1 + a0)].toArray hk_W RL := ⟨B.exec, B.bytes, hml, findClass_of_methodNamed B.named, fun w h => atoms_spec (ws := hk_ws yL_all cL_all 4 (Option.some Jvm.ClassFile.FieldType.long)) B.pre w (hk_in h)⟩
  have hx := B.exec
  have hb := B.bytes
  have hr := B.returns
  have hlocks := B.notSynchronized
  have hl := lv_entry ([.ref (g.1 + a0)]) (n := 4) (Nat.le_of_ble_eq_true rfl)
  rw [lg_entry_eq]
  generalize (lg_sl ([.ref (g.1 + a0)]) ++ List.replicate (4 - (lg_sl ([.ref (g.1 + a0)])).length) Slot.unset).toArray = ls at hl ⊢
  have hl : lv_has ls 4 [(0, .ref (g.1 + a0))] := hl
  unfold mL_all at hsp
  have G : hk_GG g E S n s s.heap [] := G
  have L_4 : ∀   (k : hk_S → Int64 → Int32 → Option (Int64 × hk_S)) (_ : ∀ (S : hk_S) (z2 : Int64) (z3 : Int32) (H : Heap) (locs : List Loc) (ls : Array Slot), k S z2 z3 = some o → hk_GG g E S n s H locs → lv_has ls 4 [(0, .ref (g.1 + a0)), (1, .long z2), (3, .int z3)] → W p l e (headSpec (hk_ws yL_all cL_all 4 (Option.some Jvm.ClassFile.FieldType.long)) ({ frames := 3, cells := 0, slots := 0, locals := 63 })).room s m [.ref (g.1 + a0)].toArray below meth c H locs 0 0 (MQ below (hk_Q g E o.2 n (some (.long o.1))) [.ref (g.1 + a0)].toArray s 0 0 (hk_A g)) (F0 m 27 ls [])) (f : Nat) (S : hk_S) (z2 : Int64) (z3 : Int32) (H : Heap) (locs : List Loc) (ls : Array Slot), mL_all_4 E F a0 k f S z2 z3 = some o → hk_GG g E S n s H locs → lv_has ls 4 [(0, .ref (g.1 + a0)), (1, .long z2), (3, .int z3)] → W p l e (headSpec (hk_ws yL_all cL_all 4 (Option.some Jvm.ClassFile.FieldType.long)) ({ frames := 3, cells := 0, slots := 0, locals := 63 })).room s m [.ref (g.1 + a0)].toArray below meth c H locs 0 0 (MQ below (hk_Q g E o.2 n (some (.long o.1))) [.ref (g.1 + a0)].toArray s 0 0 (hk_A g)) (F0 m 4 ls []) := by
    intro   k hk f
    induction f with
    | zero =>
      intro S z2 z3 H locs ls hsp
      exact nomatch hsp
    | succ f ih =>
      intro S z2 z3 H locs ls hsp G hl
      rw [mL_all_4] at hsp
      refine lv_iload_n hx hb dL_all_4 rfl (lv_at hl 2 rfl) ?_
      refine lv_aload_n hx hb dL_all_5 rfl (lv_at hl 0 rfl) ?_
      obtain ⟨r4, er4, hsp⟩ := hk_b hsp
      refine hk_callVi (As := []) (rest := [.int z3]) F9 G h0 hkc_8 rfl (kX11_troughCount l g E F n S a0 r4 h0 er4) qv_RL_7 ⟨rfl, rfl, (Nat.le_of_ble_eq_true rfl), (Nat.le_of_ble_eq_true rfl)⟩ rfl hl.1 rfl (Nat.le_of_ble_eq_true rfl) ⟨Nat.zero_le _, Nat.zero_le _⟩ dL_all_6 (fun H locs G => ?_)
      refine lv_icmp_ge (tgt := 27) hx hb dL_all_9 (by decide) (fun c5 => ?_) (fun c5 => ?_)
      · have hsp := hk_t c5 hsp
        exact hk r4.2 z2 z3 _ _ _ hsp G (lv_sub hl [0, 1, 2] rfl)
      · have hsp := hk_f c5 hsp
        refine lv_lload_n hx hb dL_all_12 rfl (lv_at hl 1 rfl) ?_
        refine lv_aload_n hx hb dL_all_13 rfl (lv_at hl 0 rfl) ?_
        refine lv_iload_n hx hb dL_all_14 rfl (lv_at hl 2 rfl) ?_
        obtain ⟨r6, er6, hsp⟩ := hk_b hsp
        refine hk_callVi (As := [.int z3]) (rest := [.long z2]) F9 G h0 hkc_8 rfl (kX11_weight l g E F n r4.2 a0 z3 r6 h0 er6) qv_RL_80 ⟨rfl, rfl, (Nat.le_of_ble_eq_true rfl), (Nat.le_of_ble_eq_true rfl)⟩ rfl hl.1 rfl (Nat.le_of_ble_eq_true rfl) ⟨Nat.zero_le _, Nat.zero_le _⟩ dL_all_15 (fun H locs G => ?_)
        refine lv_i2l (v := (r6.1 : Int32).toInt64) hx hb dL_all_18 rfl ?_
        refine lv_ladd hx hb dL_all_19 ?_
        obtain ⟨y7, ey7, hsp⟩ := hk_l hsp
        refine hk_topl ey7 ?_
        refine lv_lstore_n (lv' := [(1, .long y7), (0, .ref (g.1 + a0)), (3, .int z3)]) hx hb dL_all_20 rfl hl (by decide) rfl (fun ls hl => ?_)
        obtain ⟨y8, ey8, hsp⟩ := hk_l hsp
        refine lv_iinc (v := y8) (lv' := [(3, .int y8), (1, .long y7), (0, .ref (g.1 + a0))]) hx hb dL_all_21 hl (k := 2) rfl (by rw [← ey8]; rfl) (by decide) rfl (fun ls hl => ?_)
        refine lv_goto (tgt := 4) hx hb dL_all_24 (by decide) ?_
        exact ih r6.2 y7 y8 _ _ _ hsp G (lv_sub hl [2, 1, 0] rfl)
  refine lv_lconst (v := 0) hx hb dL_all_0 (by decide) ?_
  obtain ⟨y1, ey1, hsp⟩ := hk_l hsp
  refine hk_topl ey1 ?_
  refine lv_lstore_n (lv' := [(1, .long y1), (0, .ref (g.1 + a0))]) hx hb dL_all_1 rfl hl (by decide) rfl (fun ls hl => ?_)
  refine lv_iconst (v := 0) hx hb dL_all_2 (by decide) ?_
  refine lv_istore_n (lv' := [(3, .int 0), (1, .long y1), (0, .ref (g.1 + a0))]) hx hb dL_all_3 rfl hl (by decide) rfl (fun ls hl => ?_)
  refine L_4   _ ?_ F S y1 0 _ _ _ hsp G (lv_sub hl [2, 1, 0] rfl)
  intro S9 z10 z11 H locs ls hsp G hl
  refine lv_lload_n hx hb dL_all_27 rfl (lv_at hl 1 rfl) ?_
  obtain rfl := hk_s hsp
  exact W.lret (v := z10) hx hb hr (fun t ht hW => hk_end G ht hW) G.2.1.2.2 dL_all_28
def mL_leaf_12 (E : hk_E) (F : Nat) (a0 : Nat)  (k : hk_S → Int32 → Int32 → Option (Int32 × hk_S)) : Nat → hk_S → Int32 → Int32 → Option (Int32 × hk_S)
  | 0 => fun _ _ _ => none
  | f + 1 => fun S z4 z5 =>
    (mX11_troughCount E F S a0).bind (fun r6 => if r6.1 ≤ z5 then (k r6.2 z4 z5) else ((mX11_kilograms E F r6.2 a0 z5).bind (fun r8 => hk_let (z4 + r8.1) (fun y9 => hk_let (z5 + 1) (fun y10 => mL_leaf_12 E F a0 k f r8.2 y9 y10)))))
def mL_leaf (E : hk_E) (F : Nat) (S : hk_S) (a0 : Nat) : Option (Int32 × hk_S) :=
(mX11_dischargedKilograms E F S a0).bind (fun r1 => (mX11_discardedKilograms E F r1.2 a0).bind (fun r2 => hk_let (r1.1 + r2.1) (fun y3 => mL_leaf_12 E F a0  (fun S11 z12 z13 => some (z12, S11)) F r2.2 y3 0)))
set_option maxHeartbeats 4000000 in
set_option maxRecDepth 100000 in
theorem kL_leaf (l : Launch) (g : hk_G) (E : hk_E) (F n : Nat) (S : hk_S) (a0 : Nat) (o : Int32 × hk_S) (h0 : E.2.1 a0 = 9) (hsp : mL_leaf E F S a0 = some o) : Met l yL_leaf (hk_ws yL_leaf cL_leaf 3 (Option.some Jvm.ClassFile.FieldType.int)) ({ frames := 3, cells := 0, slots := 0, locals := 63 }) (hk_Pc g E S n [.ref (g.1 + a0)]) (hk_Q g E o.2 n (some (.int o.1))) 0 0 (hk_A g) := by
  refine Met.ofW (cc := cL_leaf) (maxL := 3) (ret := (Option.some Jvm.ClassFile.FieldType.int)) (by decide) rfl ?_
  intro p e s m args below meth c s₁ B hml hv
  obtain ⟨rfl, G⟩ := hk_begin hv
  have F9 : CallFix p m c cL_leaf 3 s [.ref (g.1 + a0)].toArray hk_W RL := ⟨B.exec, B.bytes, hml, findClass_of_methodNamed B.named, fun w h => atoms_spec (ws := hk_ws yL_leaf cL_leaf 3 (Option.some Jvm.ClassFile.FieldType.int)) B.pre w (hk_in h)⟩
  have hx := B.exec
  have hb := B.bytes
  have hr := B.returns
  have hlocks := B.notSynchronized
  have hl := lv_entry ([.ref (g.1 + a0)]) (n := 3) (Nat.le_of_ble_eq_true rfl)
  rw [lg_entry_eq]
  generalize (lg_sl ([.ref (g.1 + a0)]) ++ List.replicate (3 - (lg_sl ([.ref (g.1 + a0)])).length) Slot.unset).toArray = ls at hl ⊢
  have hl : lv_has ls 3 [(0, .ref (g.1 + a0))] := hl
  unfold mL_leaf at hsp
  have G : hk_GG g E S n s s.heap [] := G
  have L_12 : ∀   (k : hk_S → Int32 → Int32 → Option (Int32 × hk_S)) (_ : ∀ (S : hk_S) (z4 : Int32) (z5 : Int32) (H : Heap) (locs : List Loc) (ls : Array Slot), k S z4 z5 = some o → hk_GG g E S n s H locs → lv_has ls 3 [(0, .ref (g.1 + a0)), (1, .int z4), (2, .int z5)] → W p l e (headSpec (hk_ws yL_leaf cL_leaf 3 (Option.some Jvm.ClassFile.FieldType.int)) ({ frames := 3, cells := 0, slots := 0, locals := 63 })).room s m [.ref (g.1 + a0)].toArray below meth c H locs 0 0 (MQ below (hk_Q g E o.2 n (some (.int o.1))) [.ref (g.1 + a0)].toArray s 0 0 (hk_A g)) (F0 m 34 ls [])) (f : Nat) (S : hk_S) (z4 : Int32) (z5 : Int32) (H : Heap) (locs : List Loc) (ls : Array Slot), mL_leaf_12 E F a0 k f S z4 z5 = some o → hk_GG g E S n s H locs → lv_has ls 3 [(0, .ref (g.1 + a0)), (1, .int z4), (2, .int z5)] → W p l e (headSpec (hk_ws yL_leaf cL_leaf 3 (Option.some Jvm.ClassFile.FieldType.int)) ({ frames := 3, cells := 0, slots := 0, locals := 63 })).room s m [.ref (g.1 + a0)].toArray below meth c H locs 0 0 (MQ below (hk_Q g E o.2 n (some (.int o.1))) [.ref (g.1 + a0)].toArray s 0 0 (hk_A g)) (F0 m 12 ls []) := by
    intro   k hk f
    induction f with
    | zero =>
      intro S z4 z5 H locs ls hsp
      exact nomatch hsp
    | succ f ih =>
      intro S z4 z5 H locs ls hsp G hl
      rw [mL_leaf_12] at hsp
      refine lv_iload_n hx hb dL_leaf_12 rfl (lv_at hl 2 rfl) ?_
      refine lv_aload_n hx hb dL_leaf_13 rfl (lv_at hl 0 rfl) ?_
      obtain ⟨r6, er6, hsp⟩ := hk_b hsp
      refine hk_callVi (As := []) (rest := [.int z5]) F9 G h0 hkc_8 rfl (kX11_troughCount l g E F n S a0 r6 h0 er6) qv_RL_7 ⟨rfl, rfl, (Nat.le_of_ble_eq_true rfl), (Nat.le_of_ble_eq_true rfl)⟩ rfl hl.1 rfl (Nat.le_of_ble_eq_true rfl) ⟨Nat.zero_le _, Nat.zero_le _⟩ dL_leaf_14 (fun H locs G => ?_)
      refine lv_icmp_ge (tgt := 34) hx hb dL_leaf_17 (by decide) (fun c7 => ?_) (fun c7 => ?_)
      · have hsp := hk_t c7 hsp
        exact hk r6.2 z4 z5 _ _ _ hsp G (lv_sub hl [0, 1, 2] rfl)
      · have hsp := hk_f c7 hsp
        refine lv_iload_n hx hb dL_leaf_20 rfl (lv_at hl 1 rfl) ?_
        refine lv_aload_n hx hb dL_leaf_21 rfl (lv_at hl 0 rfl) ?_
        refine lv_iload_n hx hb dL_leaf_22 rfl (lv_at hl 2 rfl) ?_
        obtain ⟨r8, er8, hsp⟩ := hk_b hsp
        refine hk_callVi (As := [.int z5]) (rest := [.int z4]) F9 G h0 hkc_8 rfl (kX11_kilograms l g E F n r6.2 a0 z5 r8 h0 er8) qv_RL_16 ⟨rfl, rfl, (Nat.le_of_ble_eq_true rfl), (Nat.le_of_ble_eq_true rfl)⟩ rfl hl.1 rfl (Nat.le_of_ble_eq_true rfl) ⟨Nat.zero_le _, Nat.zero_le _⟩ dL_leaf_23 (fun H locs G => ?_)
        refine lv_iadd hx hb dL_leaf_26 ?_
        obtain ⟨y9, ey9, hsp⟩ := hk_l hsp
        refine hk_top ey9 ?_
        refine lv_istore_n (lv' := [(1, .int y9), (0, .ref (g.1 + a0)), (2, .int z5)]) hx hb dL_leaf_27 rfl hl (by decide) rfl (fun ls hl => ?_)
        obtain ⟨y10, ey10, hsp⟩ := hk_l hsp
        refine lv_iinc (v := y10) (lv' := [(2, .int y10), (1, .int y9), (0, .ref (g.1 + a0))]) hx hb dL_leaf_28 hl (k := 2) rfl (by rw [← ey10]; rfl) (by decide) rfl (fun ls hl => ?_)
        refine lv_goto (tgt := 12) hx hb dL_leaf_31 (by decide) ?_
        exact ih r8.2 y9 y10 _ _ _ hsp G (lv_sub hl [2, 1, 0] rfl)
  refine lv_aload_n hx hb dL_leaf_0 rfl (lv_at hl 0 rfl) ?_
  obtain ⟨r1, er1, hsp⟩ := hk_b hsp
  refine hk_callVi (As := []) (rest := []) F9 G h0 hkc_8 rfl (kX11_dischargedKilograms l g E F n S a0 r1 h0 er1) qv_RL_83 ⟨rfl, rfl, (Nat.le_of_ble_eq_true rfl), (Nat.le_of_ble_eq_true rfl)⟩ rfl hl.1 rfl (Nat.le_of_ble_eq_true rfl) ⟨Nat.zero_le _, Nat.zero_le _⟩ dL_leaf_1 (fun H locs G => ?_)
  refine lv_aload_n hx hb dL_leaf_4 rfl (lv_at hl 0 rfl) ?_
  obtain ⟨r2, er2, hsp⟩ := hk_b hsp
  refine hk_callVi (As := []) (rest := [.int r1.1]) F9 G h0 hkc_8 rfl (kX11_discardedKilograms l g E F n r1.2 a0 r2 h0 er2) qv_RL_86 ⟨rfl, rfl, (Nat.le_of_ble_eq_true rfl), (Nat.le_of_ble_eq_true rfl)⟩ rfl hl.1 rfl (Nat.le_of_ble_eq_true rfl) ⟨Nat.zero_le _, Nat.zero_le _⟩ dL_leaf_5 (fun H locs G => ?_)
  refine lv_iadd hx hb dL_leaf_8 ?_
  obtain ⟨y3, ey3, hsp⟩ := hk_l hsp
  refine hk_top ey3 ?_
  refine lv_istore_n (lv' := [(1, .int y3), (0, .ref (g.1 + a0))]) hx hb dL_leaf_9 rfl hl (by decide) rfl (fun ls hl => ?_)
  refine lv_iconst (v := 0) hx hb dL_leaf_10 (by decide) ?_
  refine lv_istore_n (lv' := [(2, .int 0), (1, .int y3), (0, .ref (g.1 + a0))]) hx hb dL_leaf_11 rfl hl (by decide) rfl (fun ls hl => ?_)
  refine L_12   _ ?_ F r2.2 y3 0 _ _ _ hsp G (lv_sub hl [2, 1, 0] rfl)
  intro S11 z12 z13 H locs ls hsp G hl
  refine lv_iload_n hx hb dL_leaf_34 rfl (lv_at hl 1 rfl) ?_
  obtain rfl := hk_s hsp
  exact W.iret (v := z12) hx hb hr (fun t ht hW => hk_end G ht hW) G.2.1.2.2 dL_leaf_35
def mL_holds_49 (E : hk_E) (F : Nat) (a0 : Nat)  (k : hk_S → Int32 → Option (Int32 × hk_S)) : Nat → hk_S → Int32 → Option (Int32 × hk_S)
  | 0 => fun _ _ => none
  | f + 1 => fun S z12 =>
    (mX11_troughCount E F S a0).bind (fun r13 => if r13.1 ≤ z12 then (k r13.2 z12) else ((mX11_kilograms E F r13.2 a0 z12).bind (fun r15 => if ¬ r15.1 = 0 then ((mX11_kilograms E F r15.2 a0 z12).bind (fun r17 => (mX11_capacity E F r17.2 a0 z12).bind (fun r18 => if r18.1 < r17.1 then (some (0, r18.2)) else ((mX11_fill E F r18.2 a0 z12).bind (fun r20 => (mX11_kilograms E F r20.2 a0 z12).bind (fun r21 => (mX11_capacity E F r21.2 a0 z12).bind (fun r22 => if ¬ r22.1 = 0 then (if r20.1 = ((r21.1 * 100) / r22.1) then ((mX11_moisture E F r22.2 a0 z12 0).bind (fun r26 => (mX11_moisture E F r26.2 a0 z12 1).bind (fun r27 => if r26.1 < 300 then (some (0, r27.2)) else (if 900 < r26.1 then (some (0, r27.2)) else (if r27.1 < 300 then (some (0, r27.2)) else (if 900 < r27.1 then (some (0, r27.2)) else ((mX11_spread E F r27.2 a0 z12).bind (fun r32 => (mJ9_abs_0f7a4 E F r32.2 (r26.1 - r27.1)).bind (fun r33 => if ¬ r32.1 = r33.1 then (some (0, r33.2)) else ((mX11_warmth E F r33.2 a0 z12).bind (fun r35 => if r35.1 < 0 then (some (0, r35.2)) else ((mX11_warmth E F r35.2 a0 z12).bind (fun r37 => if 20 < r37.1 then (some (0, r37.2)) else ((mX11_damage E F r37.2 a0 z12).bind (fun r39 => if 0 ≤ r39.1 then ((mX11_marks E F r39.2 a0 z12).bind (fun r41 => (mX11_spread E F r41.2 a0 z12).bind (fun r42 => (mX11_damage E F r42.2 a0 z12).bind (fun r43 => (mJ9_max_7cf53 E F r43.2 0 ((100 - r42.1) - (2 * r43.1))).bind (fun r44 => if ¬ r41.1 = r44.1 then (some (0, r44.2)) else ((mX11_weight E F r44.2 a0 z12).bind (fun r46 => if r46.1 < 0 then (some (0, r46.2)) else ((mX11_weight E F r46.2 a0 z12).bind (fun r48 => (mX11_kilograms E F r48.2 a0 z12).bind (fun r49 => if (2000 * r49.1) < r48.1 then (some (0, r49.2)) else ((mX11_whyNoDischarge E F r49.2 a0 z12).bind (fun r51 => if ¬ r51.1 = 0 then ((mX11_readyTroughs E F r51.2 a0).bind (fun r53 => if ¬ ((r53.1 >>> (z12 &&& 31)) &&& 1) = 1 then (hk_let (z12 + 1) (fun y56 => mL_holds_49 E F a0 k f r53.2 y56)) else (some (0, r53.2)))) else ((mX11_readyTroughs E F r51.2 a0).bind (fun r58 => if ¬ ((r58.1 >>> (z12 &&& 31)) &&& 1) = 1 then (some (0, r58.2)) else (hk_let (z12 + 1) (fun y62 => mL_holds_49 E F a0 k f r58.2 y62)))))))))))))))) else (some (0, r39.2))))))))))))))))) else (some (0, r22.2))) else none))))))) else ((mX11_kilograms E F r15.2 a0 z12).bind (fun r63 => (mX11_capacity E F r63.2 a0 z12).bind (fun r64 => if r64.1 < r63.1 then (some (0, r64.2)) else ((mX11_fill E F r64.2 a0 z12).bind (fun r66 => (mX11_kilograms E F r66.2 a0 z12).bind (fun r67 => (mX11_capacity E F r67.2 a0 z12).bind (fun r68 => if ¬ r68.1 = 0 then (if r66.1 = ((r67.1 * 100) / r68.1) then ((mX11_moisture E F r68.2 a0 z12 0).bind (fun r72 => if ¬ r72.1 = (-1) then (some (0, r72.2)) else ((mX11_moisture E F r72.2 a0 z12 1).bind (fun r74 => if ¬ r74.1 = (-1) then (some (0, r74.2)) else ((mX11_spread E F r74.2 a0 z12).bind (fun r76 => if ¬ r76.1 = (-1) then (some (0, r76.2)) else ((mX11_warmth E F r76.2 a0 z12).bind (fun r78 => if ¬ r78.1 = (-1) then (some (0, r78.2)) else ((mX11_damage E F r78.2 a0 z12).bind (fun r80 => if ¬ r80.1 = (-1) then (some (0, r80.2)) else ((mX11_marks E F r80.2 a0 z12).bind (fun r82 => if ¬ r82.1 = (-1) then (some (0, r82.2)) else ((mX11_weight E F r82.2 a0 z12).bind (fun r84 => if ¬ r84.1 = 0 then (some (0, r84.2)) else ((mX11_whyNoDischarge E F r84.2 a0 z12).bind (fun r86 => if r86.1 = 1 then (hk_let (z12 + 1) (fun y88 => mL_holds_49 E F a0 k f r86.2 y88)) else (some (0, r86.2)))))))))))))))))) else (some (0, r68.2))) else none))))))))))
def mL_holds (E : hk_E) (F : Nat) (S : hk_S) (a0 : Nat) : Option (Int32 × hk_S) :=
(mX11_violations E F S a0).bind (fun r1 => if ¬ r1.1 = 0 then (some (0, r1.2)) else ((mX11_hour E F r1.2 a0).bind (fun r3 => if r3.1 < 0 then (some (0, r3.2)) else ((mX11_hour E F r3.2 a0).bind (fun r5 => if 2000 < r5.1 then (some (0, r5.2)) else ((mX11_day E F r5.2 a0).bind (fun r7 => (mX11_hour E F r7.2 a0).bind (fun r8 => if ¬ r7.1 = (r8.1 / 24) then (some (0, r8.2)) else ((mX11_lostWater E F r8.2 a0).bind (fun r10 => if 0 ≤ r10.1 then (mL_holds_49 E F a0  (fun S89 z90 => some (1, S89)) F r10.2 0) else (some (0, r10.2))))))))))))
set_option maxHeartbeats 4000000 in
set_option maxRecDepth 100000 in
theorem kL_holds (l : Launch) (g : hk_G) (E : hk_E) (F n : Nat) (S : hk_S) (a0 : Nat) (o : Int32 × hk_S) (h0 : E.2.1 a0 = 9) (hsp : mL_holds E F S a0 = some o) : Met l yL_holds (hk_ws yL_holds cL_holds 5 (Option.some Jvm.ClassFile.FieldType.boolean)) ({ frames := 4, cells := 0, slots := 0, locals := 85 }) (hk_Pc g E S n [.ref (g.1 + a0)]) (hk_Q g E o.2 n (some (.int o.1))) 0 0 (hk_A g) := by
  refine Met.ofW (cc := cL_holds) (maxL := 5) (ret := (Option.some Jvm.ClassFile.FieldType.boolean)) (by decide) rfl ?_
  intro p e s m args below meth c s₁ B hml hv
  obtain ⟨rfl, G⟩ := hk_begin hv
  have F9 : CallFix p m c cL_holds 5 s [.ref (g.1 + a0)].toArray hk_W RL := ⟨B.exec, B.bytes, hml, findClass_of_methodNamed B.named, fun w h => atoms_spec (ws := hk_ws yL_holds cL_holds 5 (Option.some Jvm.ClassFile.FieldType.boolean)) B.pre w (hk_in h)⟩
  have hx := B.exec
  have hb := B.bytes
  have hr := B.returns
  have hlocks := B.notSynchronized
  have hl := lv_entry ([.ref (g.1 + a0)]) (n := 5) (Nat.le_of_ble_eq_true rfl)
  rw [lg_entry_eq]
  generalize (lg_sl ([.ref (g.1 + a0)]) ++ List.replicate (5 - (lg_sl ([.ref (g.1 + a0)])).length) Slot.unset).toArray = ls at hl ⊢
  have hl : lv_has ls 5 [(0, .ref (g.1 + a0))] := hl
  unfold mL_holds at hsp
  have G : hk_GG g E S n s s.heap [] := G
  have L_49 : ∀   (k : hk_S → Int32 → Option (Int32 × hk_S)) (_ : ∀ (S : hk_S) (z12 : Int32) (H : Heap) (locs : List Loc) (ls : Array Slot), k S z12 = some o → hk_GG g E S n s H locs → lv_has ls 5 [(0, .ref (g.1 + a0)), (1, .int z12)] → W p l e (headSpec (hk_ws yL_holds cL_holds 5 (Option.some Jvm.ClassFile.FieldType.boolean)) ({ frames := 4, cells := 0, slots := 0, locals := 85 })).room s m [.ref (g.1 + a0)].toArray below meth c H locs 0 0 (MQ below (hk_Q g E o.2 n (some (.int o.1))) [.ref (g.1 + a0)].toArray s 0 0 (hk_A g)) (F0 m 369 ls [])) (f : Nat) (S : hk_S) (z12 : Int32) (H : Heap) (locs : List Loc) (ls : Array Slot), mL_holds_49 E F a0 k f S z12 = some o → hk_GG g E S n s H locs → lv_has ls 5 [(0, .ref (g.1 + a0)), (1, .int z12)] → W p l e (headSpec (hk_ws yL_holds cL_holds 5 (Option.some Jvm.ClassFile.FieldType.boolean)) ({ frames := 4, cells := 0, slots := 0, locals := 85 })).room s m [.ref (g.1 + a0)].toArray below meth c H locs 0 0 (MQ below (hk_Q g E o.2 n (some (.int o.1))) [.ref (g.1 + a0)].toArray s 0 0 (hk_A g)) (F0 m 49 ls []) := by
    intro   k hk f
    induction f with
    | zero =>
      intro S z12 H locs ls hsp
      exact nomatch hsp
    | succ f ih =>
      intro S z12 H locs ls hsp G hl
      rw [mL_holds_49] at hsp
      refine lv_iload_n hx hb dL_holds_49 rfl (lv_at hl 1 rfl) ?_
      refine lv_aload_n hx hb dL_holds_50 rfl (lv_at hl 0 rfl) ?_
      obtain ⟨r13, er13, hsp⟩ := hk_b hsp
      refine hk_callVi (As := []) (rest := [.int z12]) F9 G h0 hkc_8 rfl (kX11_troughCount l g E F n S a0 r13 h0 er13) qv_RL_7 ⟨rfl, rfl, (Nat.le_of_ble_eq_true rfl), (Nat.le_of_ble_eq_true rfl)⟩ rfl hl.1 rfl (Nat.le_of_ble_eq_true rfl) ⟨Nat.zero_le _, Nat.zero_le _⟩ dL_holds_51 (fun H locs G => ?_)
      refine lv_icmp_ge (tgt := 369) hx hb dL_holds_54 (by decide) (fun c14 => ?_) (fun c14 => ?_)
      · have hsp := hk_t c14 hsp
        exact hk r13.2 z12 _ _ _ hsp G (lv_sub hl [0, 1] rfl)
      · have hsp := hk_f c14 hsp
        refine lv_aload_n hx hb dL_holds_57 rfl (lv_at hl 0 rfl) ?_
        refine lv_iload_n hx hb dL_holds_58 rfl (lv_at hl 1 rfl) ?_
        obtain ⟨r15, er15, hsp⟩ := hk_b hsp
        refine hk_callVi (As := [.int z12]) (rest := []) F9 G h0 hkc_8 rfl (kX11_kilograms l g E F n r13.2 a0 z12 r15 h0 er15) qv_RL_16 ⟨rfl, rfl, (Nat.le_of_ble_eq_true rfl), (Nat.le_of_ble_eq_true rfl)⟩ rfl hl.1 rfl (Nat.le_of_ble_eq_true rfl) ⟨Nat.zero_le _, Nat.zero_le _⟩ dL_holds_59 (fun H locs G => ?_)
        refine lv_if_ne (tgt := 69) hx hb dL_holds_62 (by decide) (fun c16 => ?_) (fun c16 => ?_)
        · have hsp := hk_t c16 hsp
          refine lv_iconst (v := 0) hx hb dL_holds_69 (by decide) ?_
          refine lv_istore_n (lv' := [(2, .int 0), (0, .ref (g.1 + a0)), (1, .int z12)]) hx hb dL_holds_70 rfl hl (by decide) rfl (fun ls hl => ?_)
          refine lv_aload_n hx hb dL_holds_71 rfl (lv_at hl 1 rfl) ?_
          refine lv_iload_n hx hb dL_holds_72 rfl (lv_at hl 2 rfl) ?_
          obtain ⟨r17, er17, hsp⟩ := hk_b hsp
          refine hk_callVi (As := [.int z12]) (rest := []) F9 G h0 hkc_8 rfl (kX11_kilograms l g E F n r15.2 a0 z12 r17 h0 er17) qv_RL_16 ⟨rfl, rfl, (Nat.le_of_ble_eq_true rfl), (Nat.le_of_ble_eq_true rfl)⟩ rfl hl.1 rfl (Nat.le_of_ble_eq_true rfl) ⟨Nat.zero_le _, Nat.zero_le _⟩ dL_holds_73 (fun H locs G => ?_)
          refine lv_aload_n hx hb dL_holds_76 rfl (lv_at hl 1 rfl) ?_
          refine lv_iload_n hx hb dL_holds_77 rfl (lv_at hl 2 rfl) ?_
          obtain ⟨r18, er18, hsp⟩ := hk_b hsp
          refine hk_callVi (As := [.int z12]) (rest := [.int r17.1]) F9 G h0 hkc_8 rfl (kX11_capacity l g E F n r17.2 a0 z12 r18 h0 er18) qv_RL_20 ⟨rfl, rfl, (Nat.le_of_ble_eq_true rfl), (Nat.le_of_ble_eq_true rfl)⟩ rfl hl.1 rfl (Nat.le_of_ble_eq_true rfl) ⟨Nat.zero_le _, Nat.zero_le _⟩ dL_holds_78 (fun H locs G => ?_)
          refine lv_icmp_gt (tgt := 106) hx hb dL_holds_81 (by decide) (fun c19 => ?_) (fun c19 => ?_)
          · have hsp := hk_t c19 hsp
            refine lv_iconst (v := 0) hx hb dL_holds_106 (by decide) ?_
            obtain rfl := hk_s hsp
            exact W.zret (v := 0) hx hb hr (hk_z (by decide)).1 (fun t ht hW => hk_end G ht hW) G.2.1.2.2 dL_holds_107
          · have hsp := hk_f c19 hsp
            refine lv_aload_n hx hb dL_holds_84 rfl (lv_at hl 1 rfl) ?_
            refine lv_iload_n hx hb dL_holds_85 rfl (lv_at hl 2 rfl) ?_
            obtain ⟨r20, er20, hsp⟩ := hk_b hsp
            refine hk_callVi (As := [.int z12]) (rest := []) F9 G h0 hkc_8 rfl (kX11_fill l g E F n r18.2 a0 z12 r20 h0 er20) qv_RL_98 ⟨rfl, rfl, (Nat.le_of_ble_eq_true rfl), (Nat.le_of_ble_eq_true rfl)⟩ rfl hl.1 rfl (Nat.le_of_ble_eq_true rfl) ⟨Nat.zero_le _, Nat.zero_le _⟩ dL_holds_86 (fun H locs G => ?_)
            refine lv_aload_n hx hb dL_holds_89 rfl (lv_at hl 1 rfl) ?_
            refine lv_iload_n hx hb dL_holds_90 rfl (lv_at hl 2 rfl) ?_
            obtain ⟨r21, er21, hsp⟩ := hk_b hsp
            refine hk_callVi (As := [.int z12]) (rest := [.int r20.1]) F9 G h0 hkc_8 rfl (kX11_kilograms l g E F n r20.2 a0 z12 r21 h0 er21) qv_RL_16 ⟨rfl, rfl, (Nat.le_of_ble_eq_true rfl), (Nat.le_of_ble_eq_true rfl)⟩ rfl hl.1 rfl (Nat.le_of_ble_eq_true rfl) ⟨Nat.zero_le _, Nat.zero_le _⟩ dL_holds_91 (fun H locs G => ?_)
            refine lv_bipush (v := 100) hx hb dL_holds_94 (by decide) ?_
            refine lv_imul hx hb dL_holds_96 ?_
            refine lv_aload_n hx hb dL_holds_97 rfl (lv_at hl 1 rfl) ?_
            refine lv_iload_n hx hb dL_holds_98 rfl (lv_at hl 2 rfl) ?_
            obtain ⟨r22, er22, hsp⟩ := hk_b hsp
            refine hk_callVi (As := [.int z12]) (rest := [.int (r21.1 * 100), .int r20.1]) F9 G h0 hkc_8 rfl (kX11_capacity l g E F n r21.2 a0 z12 r22 h0 er22) qv_RL_20 ⟨rfl, rfl, (Nat.le_of_ble_eq_true rfl), (Nat.le_of_ble_eq_true rfl)⟩ rfl hl.1 rfl (Nat.le_of_ble_eq_true rfl) ⟨Nat.zero_le _, Nat.zero_le _⟩ dL_holds_99 (fun H locs G => ?_)
            obtain ⟨q23, hsp⟩ := hk_k hsp
            refine lv_idiv hx hb dL_holds_102 q23 ?_
            refine lv_icmp_eq (tgt := 108) hx hb dL_holds_103 (by decide) (fun c24 => ?_) (fun c24 => ?_)
            · have hsp := hk_t c24 hsp
              refine lv_iload_n hx hb dL_holds_108 rfl (lv_at hl 0 rfl) ?_
              refine lv_if_eq (tgt := 187) hx hb dL_holds_109 (by decide) (fun c25 => ?_) (fun c25 => ?_)
              · refine lv_aload_n hx hb dL_holds_187 rfl (lv_at hl 1 rfl) ?_
                refine lv_iload_n hx hb dL_holds_188 rfl (lv_at hl 2 rfl) ?_
                refine lv_iconst (v := 0) hx hb dL_holds_189 (by decide) ?_
                obtain ⟨r26, er26, hsp⟩ := hk_b hsp
                refine hk_callVi (As := [.int z12, .int 0]) (rest := []) F9 G h0 hkc_8 rfl (kX11_moisture l g E F n r22.2 a0 z12 0 r26 h0 er26) qv_RL_101 ⟨rfl, rfl, (Nat.le_of_ble_eq_true rfl), (Nat.le_of_ble_eq_true rfl)⟩ rfl hl.1 rfl (Nat.le_of_ble_eq_true rfl) ⟨Nat.zero_le _, Nat.zero_le _⟩ dL_holds_190 (fun H locs G => ?_)
                refine lv_istore_n (lv' := [(3, .int r26.1), (2, .int 0), (0, .ref (g.1 + a0)), (1, .int z12)]) hx hb dL_holds_193 rfl hl (by decide) rfl (fun ls hl => ?_)
                refine lv_aload_n hx hb dL_holds_194 rfl (lv_at hl 2 rfl) ?_
                refine lv_iload_n hx hb dL_holds_195 rfl (lv_at hl 3 rfl) ?_
                refine lv_iconst (v := 1) hx hb dL_holds_196 (by decide) ?_
                obtain ⟨r27, er27, hsp⟩ := hk_b hsp
                refine hk_callVi (As := [.int z12, .int 1]) (rest := []) F9 G h0 hkc_8 rfl (kX11_moisture l g E F n r26.2 a0 z12 1 r27 h0 er27) qv_RL_101 ⟨rfl, rfl, (Nat.le_of_ble_eq_true rfl), (Nat.le_of_ble_eq_true rfl)⟩ rfl hl.1 rfl (Nat.le_of_ble_eq_true rfl) ⟨Nat.zero_le _, Nat.zero_le _⟩ dL_holds_197 (fun H locs G => ?_)
                refine lv_istore (lv' := [(4, .int r27.1), (3, .int r26.1), (2, .int 0), (0, .ref (g.1 + a0)), (1, .int z12)]) hx hb dL_holds_200  hl (by decide) rfl (fun ls hl => ?_)
                refine lv_iload_n hx hb dL_holds_202 rfl (lv_at hl 1 rfl) ?_
                refine lv_sipush (v := 300) hx hb dL_holds_203 (by decide) ?_
                refine lv_icmp_lt (tgt := 273) hx hb dL_holds_206 (by decide) (fun c28 => ?_) (fun c28 => ?_)
                · have hsp := hk_t c28 hsp
                  refine lv_iconst (v := 0) hx hb dL_holds_273 (by decide) ?_
                  obtain rfl := hk_s hsp
                  exact W.zret (v := 0) hx hb hr (hk_z (by decide)).1 (fun t ht hW => hk_end G ht hW) G.2.1.2.2 dL_holds_274
                · have hsp := hk_f c28 hsp
                  refine lv_iload_n hx hb dL_holds_209 rfl (lv_at hl 1 rfl) ?_
                  refine lv_sipush (v := 900) hx hb dL_holds_210 (by decide) ?_
                  refine lv_icmp_gt (tgt := 273) hx hb dL_holds_213 (by decide) (fun c29 => ?_) (fun c29 => ?_)
                  · have hsp := hk_t c29 hsp
                    refine lv_iconst (v := 0) hx hb dL_holds_273 (by decide) ?_
                    obtain rfl := hk_s hsp
                    exact W.zret (v := 0) hx hb hr (hk_z (by decide)).1 (fun t ht hW => hk_end G ht hW) G.2.1.2.2 dL_holds_274
                  · have hsp := hk_f c29 hsp
                    refine lv_iload hx hb dL_holds_216 (lv_at hl 0 rfl) ?_
                    refine lv_sipush (v := 300) hx hb dL_holds_218 (by decide) ?_
                    refine lv_icmp_lt (tgt := 273) hx hb dL_holds_221 (by decide) (fun c30 => ?_) (fun c30 => ?_)
                    · have hsp := hk_t c30 hsp
                      refine lv_iconst (v := 0) hx hb dL_holds_273 (by decide) ?_
                      obtain rfl := hk_s hsp
                      exact W.zret (v := 0) hx hb hr (hk_z (by decide)).1 (fun t ht hW => hk_end G ht hW) G.2.1.2.2 dL_holds_274
                    · have hsp := hk_f c30 hsp
                      refine lv_iload hx hb dL_holds_224 (lv_at hl 0 rfl) ?_
                      refine lv_sipush (v := 900) hx hb dL_holds_226 (by decide) ?_
                      refine lv_icmp_gt (tgt := 273) hx hb dL_holds_229 (by decide) (fun c31 => ?_) (fun c31 => ?_)
                      · have hsp := hk_t c31 hsp
                        refine lv_iconst (v := 0) hx hb dL_holds_273 (by decide) ?_
                        obtain rfl := hk_s hsp
                        exact W.zret (v := 0) hx hb hr (hk_z (by decide)).1 (fun t ht hW => hk_end G ht hW) G.2.1.2.2 dL_holds_274
                      · have hsp := hk_f c31 hsp
                        refine lv_aload_n hx hb dL_holds_232 rfl (lv_at hl 3 rfl) ?_
                        refine lv_iload_n hx hb dL_holds_233 rfl (lv_at hl 4 rfl) ?_
                        obtain ⟨r32, er32, hsp⟩ := hk_b hsp
                        refine hk_callVi (As := [.int z12]) (rest := []) F9 G h0 hkc_8 rfl (kX11_spread l g E F n r27.2 a0 z12 r32 h0 er32) qv_RL_104 ⟨rfl, rfl, (Nat.le_of_ble_eq_true rfl), (Nat.le_of_ble_eq_true rfl)⟩ rfl hl.1 rfl (Nat.le_of_ble_eq_true rfl) ⟨Nat.zero_le _, Nat.zero_le _⟩ dL_holds_234 (fun H locs G => ?_)
                        refine lv_iload_n hx hb dL_holds_237 rfl (lv_at hl 1 rfl) ?_
                        refine lv_iload hx hb dL_holds_238 (lv_at hl 0 rfl) ?_
                        refine lv_isub hx hb dL_holds_240 ?_
                        obtain ⟨r33, er33, hsp⟩ := hk_b hsp
                        refine hk_callSi (As := [.int (r26.1 - r27.1)]) (rest := [.int r32.1]) F9 G (kJ9_abs_0f7a4 l g E F n r32.2 (r26.1 - r27.1) r33  er33) qv_RL_116 ⟨rfl, rfl, (Nat.le_of_ble_eq_true rfl), (Nat.le_of_ble_eq_true rfl)⟩ rfl hl.1 rfl (Nat.le_of_ble_eq_true rfl) ⟨Nat.zero_le _, Nat.zero_le _⟩ dL_holds_241 (fun H locs G => ?_)
                        refine lv_icmp_ne (tgt := 273) hx hb dL_holds_244 (by decide) (fun c34 => ?_) (fun c34 => ?_)
                        · have hsp := hk_t c34 hsp
                          refine lv_iconst (v := 0) hx hb dL_holds_273 (by decide) ?_
                          obtain rfl := hk_s hsp
                          exact W.zret (v := 0) hx hb hr (hk_z (by decide)).1 (fun t ht hW => hk_end G ht hW) G.2.1.2.2 dL_holds_274
                        · have hsp := hk_g c34 hsp
                          refine lv_aload_n hx hb dL_holds_247 rfl (lv_at hl 3 rfl) ?_
                          refine lv_iload_n hx hb dL_holds_248 rfl (lv_at hl 4 rfl) ?_
                          obtain ⟨r35, er35, hsp⟩ := hk_b hsp
                          refine hk_callVi (As := [.int z12]) (rest := []) F9 G h0 hkc_8 rfl (kX11_warmth l g E F n r33.2 a0 z12 r35 h0 er35) qv_RL_107 ⟨rfl, rfl, (Nat.le_of_ble_eq_true rfl), (Nat.le_of_ble_eq_true rfl)⟩ rfl hl.1 rfl (Nat.le_of_ble_eq_true rfl) ⟨Nat.zero_le _, Nat.zero_le _⟩ dL_holds_249 (fun H locs G => ?_)
                          refine lv_if_lt (tgt := 273) hx hb dL_holds_252 (by decide) (fun c36 => ?_) (fun c36 => ?_)
                          · have hsp := hk_t c36 hsp
                            refine lv_iconst (v := 0) hx hb dL_holds_273 (by decide) ?_
                            obtain rfl := hk_s hsp
                            exact W.zret (v := 0) hx hb hr (hk_z (by decide)).1 (fun t ht hW => hk_end G ht hW) G.2.1.2.2 dL_holds_274
                          · have hsp := hk_f c36 hsp
                            refine lv_aload_n hx hb dL_holds_255 rfl (lv_at hl 3 rfl) ?_
                            refine lv_iload_n hx hb dL_holds_256 rfl (lv_at hl 4 rfl) ?_
                            obtain ⟨r37, er37, hsp⟩ := hk_b hsp
                            refine hk_callVi (As := [.int z12]) (rest := []) F9 G h0 hkc_8 rfl (kX11_warmth l g E F n r35.2 a0 z12 r37 h0 er37) qv_RL_107 ⟨rfl, rfl, (Nat.le_of_ble_eq_true rfl), (Nat.le_of_ble_eq_true rfl)⟩ rfl hl.1 rfl (Nat.le_of_ble_eq_true rfl) ⟨Nat.zero_le _, Nat.zero_le _⟩ dL_holds_257 (fun H locs G => ?_)
                            refine lv_bipush (v := 20) hx hb dL_holds_260 (by decide) ?_
                            refine lv_icmp_gt (tgt := 273) hx hb dL_holds_262 (by decide) (fun c38 => ?_) (fun c38 => ?_)
                            · have hsp := hk_t c38 hsp
                              refine lv_iconst (v := 0) hx hb dL_holds_273 (by decide) ?_
                              obtain rfl := hk_s hsp
                              exact W.zret (v := 0) hx hb hr (hk_z (by decide)).1 (fun t ht hW => hk_end G ht hW) G.2.1.2.2 dL_holds_274
                            · have hsp := hk_f c38 hsp
                              refine lv_aload_n hx hb dL_holds_265 rfl (lv_at hl 3 rfl) ?_
                              refine lv_iload_n hx hb dL_holds_266 rfl (lv_at hl 4 rfl) ?_
                              obtain ⟨r39, er39, hsp⟩ := hk_b hsp
                              refine hk_callVi (As := [.int z12]) (rest := []) F9 G h0 hkc_8 rfl (kX11_damage l g E F n r37.2 a0 z12 r39 h0 er39) qv_RL_110 ⟨rfl, rfl, (Nat.le_of_ble_eq_true rfl), (Nat.le_of_ble_eq_true rfl)⟩ rfl hl.1 rfl (Nat.le_of_ble_eq_true rfl) ⟨Nat.zero_le _, Nat.zero_le _⟩ dL_holds_267 (fun H locs G => ?_)
                              refine lv_if_ge (tgt := 275) hx hb dL_holds_270 (by decide) (fun c40 => ?_) (fun c40 => ?_)
                              · have hsp := hk_t c40 hsp
                                refine lv_aload_n hx hb dL_holds_275 rfl (lv_at hl 3 rfl) ?_
                                refine lv_iload_n hx hb dL_holds_276 rfl (lv_at hl 4 rfl) ?_
                                obtain ⟨r41, er41, hsp⟩ := hk_b hsp
                                refine hk_callVi (As := [.int z12]) (rest := []) F9 G h0 hkc_8 rfl (kX11_marks l g E F n r39.2 a0 z12 r41 h0 er41) qv_RL_113 ⟨rfl, rfl, (Nat.le_of_ble_eq_true rfl), (Nat.le_of_ble_eq_true rfl)⟩ rfl hl.1 rfl (Nat.le_of_ble_eq_true rfl) ⟨Nat.zero_le _, Nat.zero_le _⟩ dL_holds_277 (fun H locs G => ?_)
                                refine lv_iconst (v := 0) hx hb dL_holds_280 (by decide) ?_
                                refine lv_bipush (v := 100) hx hb dL_holds_281 (by decide) ?_
                                refine lv_aload_n hx hb dL_holds_283 rfl (lv_at hl 3 rfl) ?_
                                refine lv_iload_n hx hb dL_holds_284 rfl (lv_at hl 4 rfl) ?_
                                obtain ⟨r42, er42, hsp⟩ := hk_b hsp
                                refine hk_callVi (As := [.int z12]) (rest := [.int 100, .int 0, .int r41.1]) F9 G h0 hkc_8 rfl (kX11_spread l g E F n r41.2 a0 z12 r42 h0 er42) qv_RL_104 ⟨rfl, rfl, (Nat.le_of_ble_eq_true rfl), (Nat.le_of_ble_eq_true rfl)⟩ rfl hl.1 rfl (Nat.le_of_ble_eq_true rfl) ⟨Nat.zero_le _, Nat.zero_le _⟩ dL_holds_285 (fun H locs G => ?_)
                                refine lv_isub hx hb dL_holds_288 ?_
                                refine lv_iconst (v := 2) hx hb dL_holds_289 (by decide) ?_
                                refine lv_aload_n hx hb dL_holds_290 rfl (lv_at hl 3 rfl) ?_
                                refine lv_iload_n hx hb dL_holds_291 rfl (lv_at hl 4 rfl) ?_
                                obtain ⟨r43, er43, hsp⟩ := hk_b hsp
                                refine hk_callVi (As := [.int z12]) (rest := [.int 2, .int (100 - r42.1), .int 0, .int r41.1]) F9 G h0 hkc_8 rfl (kX11_damage l g E F n r42.2 a0 z12 r43 h0 er43) qv_RL_110 ⟨rfl, rfl, (Nat.le_of_ble_eq_true rfl), (Nat.le_of_ble_eq_true rfl)⟩ rfl hl.1 rfl (Nat.le_of_ble_eq_true rfl) ⟨Nat.zero_le _, Nat.zero_le _⟩ dL_holds_292 (fun H locs G => ?_)
                                refine lv_imul hx hb dL_holds_295 ?_
                                refine lv_isub hx hb dL_holds_296 ?_
                                obtain ⟨r44, er44, hsp⟩ := hk_b hsp
                                refine hk_callSi (As := [.int 0, .int ((100 - r42.1) - (2 * r43.1))]) (rest := [.int r41.1]) F9 G (kJ9_max_7cf53 l g E F n r43.2 0 ((100 - r42.1) - (2 * r43.1)) r44  er44) qv_RL_121 ⟨rfl, rfl, (Nat.le_of_ble_eq_true rfl), (Nat.le_of_ble_eq_true rfl)⟩ rfl hl.1 rfl (Nat.le_of_ble_eq_true rfl) ⟨Nat.zero_le _, Nat.zero_le _⟩ dL_holds_297 (fun H locs G => ?_)
                                refine lv_icmp_ne (tgt := 361) hx hb dL_holds_300 (by decide) (fun c45 => ?_) (fun c45 => ?_)
                                · have hsp := hk_t c45 hsp
                                  refine lv_iconst (v := 0) hx hb dL_holds_361 (by decide) ?_
                                  obtain rfl := hk_s hsp
                                  exact W.zret (v := 0) hx hb hr (hk_z (by decide)).1 (fun t ht hW => hk_end G ht hW) G.2.1.2.2 dL_holds_362
                                · have hsp := hk_g c45 hsp
                                  refine lv_aload_n hx hb dL_holds_303 rfl (lv_at hl 3 rfl) ?_
                                  refine lv_iload_n hx hb dL_holds_304 rfl (lv_at hl 4 rfl) ?_
                                  obtain ⟨r46, er46, hsp⟩ := hk_b hsp
                                  refine hk_callVi (As := [.int z12]) (rest := []) F9 G h0 hkc_8 rfl (kX11_weight l g E F n r44.2 a0 z12 r46 h0 er46) qv_RL_80 ⟨rfl, rfl, (Nat.le_of_ble_eq_true rfl), (Nat.le_of_ble_eq_true rfl)⟩ rfl hl.1 rfl (Nat.le_of_ble_eq_true rfl) ⟨Nat.zero_le _, Nat.zero_le _⟩ dL_holds_305 (fun H locs G => ?_)
                                  refine lv_if_lt (tgt := 361) hx hb dL_holds_308 (by decide) (fun c47 => ?_) (fun c47 => ?_)
                                  · have hsp := hk_t c47 hsp
                                    refine lv_iconst (v := 0) hx hb dL_holds_361 (by decide) ?_
                                    obtain rfl := hk_s hsp
                                    exact W.zret (v := 0) hx hb hr (hk_z (by decide)).1 (fun t ht hW => hk_end G ht hW) G.2.1.2.2 dL_holds_362
                                  · have hsp := hk_f c47 hsp
                                    refine lv_aload_n hx hb dL_holds_311 rfl (lv_at hl 3 rfl) ?_
                                    refine lv_iload_n hx hb dL_holds_312 rfl (lv_at hl 4 rfl) ?_
                                    obtain ⟨r48, er48, hsp⟩ := hk_b hsp
                                    refine hk_callVi (As := [.int z12]) (rest := []) F9 G h0 hkc_8 rfl (kX11_weight l g E F n r46.2 a0 z12 r48 h0 er48) qv_RL_80 ⟨rfl, rfl, (Nat.le_of_ble_eq_true rfl), (Nat.le_of_ble_eq_true rfl)⟩ rfl hl.1 rfl (Nat.le_of_ble_eq_true rfl) ⟨Nat.zero_le _, Nat.zero_le _⟩ dL_holds_313 (fun H locs G => ?_)
                                    refine lv_sipush (v := 2000) hx hb dL_holds_316 (by decide) ?_
                                    refine lv_aload_n hx hb dL_holds_319 rfl (lv_at hl 3 rfl) ?_
                                    refine lv_iload_n hx hb dL_holds_320 rfl (lv_at hl 4 rfl) ?_
                                    obtain ⟨r49, er49, hsp⟩ := hk_b hsp
                                    refine hk_callVi (As := [.int z12]) (rest := [.int 2000, .int r48.1]) F9 G h0 hkc_8 rfl (kX11_kilograms l g E F n r48.2 a0 z12 r49 h0 er49) qv_RL_16 ⟨rfl, rfl, (Nat.le_of_ble_eq_true rfl), (Nat.le_of_ble_eq_true rfl)⟩ rfl hl.1 rfl (Nat.le_of_ble_eq_true rfl) ⟨Nat.zero_le _, Nat.zero_le _⟩ dL_holds_321 (fun H locs G => ?_)
                                    refine lv_imul hx hb dL_holds_324 ?_
                                    refine lv_icmp_gt (tgt := 361) hx hb dL_holds_325 (by decide) (fun c50 => ?_) (fun c50 => ?_)
                                    · have hsp := hk_t c50 hsp
                                      refine lv_iconst (v := 0) hx hb dL_holds_361 (by decide) ?_
                                      obtain rfl := hk_s hsp
                                      exact W.zret (v := 0) hx hb hr (hk_z (by decide)).1 (fun t ht hW => hk_end G ht hW) G.2.1.2.2 dL_holds_362
                                    · have hsp := hk_f c50 hsp
                                      refine lv_aload_n hx hb dL_holds_328 rfl (lv_at hl 3 rfl) ?_
                                      refine lv_iload_n hx hb dL_holds_329 rfl (lv_at hl 4 rfl) ?_
                                      obtain ⟨r51, er51, hsp⟩ := hk_b hsp
                                      refine hk_callVi (As := [.int z12]) (rest := []) F9 G h0 hkc_8 rfl (kX11_whyNoDischarge l g E F n r49.2 a0 z12 r51 h0 er51) qv_RL_50 ⟨rfl, rfl, (Nat.le_of_ble_eq_true rfl), (Nat.le_of_ble_eq_true rfl)⟩ rfl hl.1 rfl (Nat.le_of_ble_eq_true rfl) ⟨Nat.zero_le _, Nat.zero_le _⟩ dL_holds_330 (fun H locs G => ?_)
                                      refine lv_if_ne (tgt := 340) hx hb dL_holds_333 (by decide) (fun c52 => ?_) (fun c52 => ?_)
                                      · have hsp := hk_t c52 hsp
                                        refine lv_iconst (v := 0) hx hb dL_holds_340 (by decide) ?_
                                        refine lv_aload_n hx hb dL_holds_341 rfl (lv_at hl 3 rfl) ?_
                                        obtain ⟨r53, er53, hsp⟩ := hk_b hsp
                                        refine hk_callVi (As := []) (rest := [.int 0]) F9 G h0 hkc_8 rfl (kX11_readyTroughs l g E F n r51.2 a0 r53 h0 er53) qv_RL_124 ⟨rfl, rfl, (Nat.le_of_ble_eq_true rfl), (Nat.le_of_ble_eq_true rfl)⟩ rfl hl.1 rfl (Nat.le_of_ble_eq_true rfl) ⟨Nat.zero_le _, Nat.zero_le _⟩ dL_holds_342 (fun H locs G => ?_)
                                        refine lv_iload_n hx hb dL_holds_345 rfl (lv_at hl 4 rfl) ?_
                                        refine lv_ishr hx hb dL_holds_346 ?_
                                        refine lv_iconst (v := 1) hx hb dL_holds_347 (by decide) ?_
                                        refine lv_iand hx hb dL_holds_348 ?_
                                        refine lv_iconst (v := 1) hx hb dL_holds_349 (by decide) ?_
                                        refine lv_icmp_ne (tgt := 357) hx hb dL_holds_350 (by decide) (fun c54 => ?_) (fun c54 => ?_)
                                        · have hsp := hk_t c54 hsp
                                          refine lv_iconst (v := 0) hx hb dL_holds_357 (by decide) ?_
                                          refine lv_icmp_eq (tgt := 363) hx hb dL_holds_358 (by decide) (fun c55 => ?_) (fun c55 => ?_)
                                          · obtain ⟨y56, ey56, hsp⟩ := hk_l hsp
                                            refine lv_iinc (v := y56) (lv' := [(1, .int y56), (4, .int r27.1), (3, .int r26.1), (2, .int 0), (0, .ref (g.1 + a0))]) hx hb dL_holds_363 hl (k := 4) rfl (by rw [← ey56]; rfl) (by decide) rfl (fun ls hl => ?_)
                                            refine lv_goto (tgt := 49) hx hb dL_holds_366 (by decide) ?_
                                            exact ih r53.2 y56 _ _ _ hsp G (lv_sub hl [4, 0] rfl)
                                          · exact absurd c55 (by decide)
                                        · have hsp := hk_g c54 hsp
                                          refine lv_iconst (v := 1) hx hb dL_holds_353 (by decide) ?_
                                          refine lv_goto (tgt := 358) hx hb dL_holds_354 (by decide) ?_
                                          refine lv_icmp_eq (tgt := 363) hx hb dL_holds_358 (by decide) (fun c57 => ?_) (fun c57 => ?_)
                                          · exact absurd c57 (by decide)
                                          · refine lv_iconst (v := 0) hx hb dL_holds_361 (by decide) ?_
                                            obtain rfl := hk_s hsp
                                            exact W.zret (v := 0) hx hb hr (hk_z (by decide)).1 (fun t ht hW => hk_end G ht hW) G.2.1.2.2 dL_holds_362
                                      · have hsp := hk_g c52 hsp
                                        refine lv_iconst (v := 1) hx hb dL_holds_336 (by decide) ?_
                                        refine lv_goto (tgt := 341) hx hb dL_holds_337 (by decide) ?_
                                        refine lv_aload_n hx hb dL_holds_341 rfl (lv_at hl 3 rfl) ?_
                                        obtain ⟨r58, er58, hsp⟩ := hk_b hsp
                                        refine hk_callVi (As := []) (rest := [.int 1]) F9 G h0 hkc_8 rfl (kX11_readyTroughs l g E F n r51.2 a0 r58 h0 er58) qv_RL_124 ⟨rfl, rfl, (Nat.le_of_ble_eq_true rfl), (Nat.le_of_ble_eq_true rfl)⟩ rfl hl.1 rfl (Nat.le_of_ble_eq_true rfl) ⟨Nat.zero_le _, Nat.zero_le _⟩ dL_holds_342 (fun H locs G => ?_)
                                        refine lv_iload_n hx hb dL_holds_345 rfl (lv_at hl 4 rfl) ?_
                                        refine lv_ishr hx hb dL_holds_346 ?_
                                        refine lv_iconst (v := 1) hx hb dL_holds_347 (by decide) ?_
                                        refine lv_iand hx hb dL_holds_348 ?_
                                        refine lv_iconst (v := 1) hx hb dL_holds_349 (by decide) ?_
                                        refine lv_icmp_ne (tgt := 357) hx hb dL_holds_350 (by decide) (fun c59 => ?_) (fun c59 => ?_)
                                        · have hsp := hk_t c59 hsp
                                          refine lv_iconst (v := 0) hx hb dL_holds_357 (by decide) ?_
                                          refine lv_icmp_eq (tgt := 363) hx hb dL_holds_358 (by decide) (fun c60 => ?_) (fun c60 => ?_)
                                          · exact absurd c60 (by decide)
                                          · refine lv_iconst (v := 0) hx hb dL_holds_361 (by decide) ?_
                                            obtain rfl := hk_s hsp
                                            exact W.zret (v := 0) hx hb hr (hk_z (by decide)).1 (fun t ht hW => hk_end G ht hW) G.2.1.2.2 dL_holds_362
                                        · have hsp := hk_g c59 hsp
                                          refine lv_iconst (v := 1) hx hb dL_holds_353 (by decide) ?_
                                          refine lv_goto (tgt := 358) hx hb dL_holds_354 (by decide) ?_
                                          refine lv_icmp_eq (tgt := 363) hx hb dL_holds_358 (by decide) (fun c61 => ?_) (fun c61 => ?_)
                                          · obtain ⟨y62, ey62, hsp⟩ := hk_l hsp
                                            refine lv_iinc (v := y62) (lv' := [(1, .int y62), (4, .int r27.1), (3, .int r26.1), (2, .int 0), (0, .ref (g.1 + a0))]) hx hb dL_holds_363 hl (k := 4) rfl (by rw [← ey62]; rfl) (by decide) rfl (fun ls hl => ?_)
                                            refine lv_goto (tgt := 49) hx hb dL_holds_366 (by decide) ?_
                                            exact ih r58.2 y62 _ _ _ hsp G (lv_sub hl [4, 0] rfl)
                                          · exact absurd c61 (by decide)
                              · have hsp := hk_f c40 hsp
                                refine lv_iconst (v := 0) hx hb dL_holds_273 (by decide) ?_
                                obtain rfl := hk_s hsp
                                exact W.zret (v := 0) hx hb hr (hk_z (by decide)).1 (fun t ht hW => hk_end G ht hW) G.2.1.2.2 dL_holds_274
              · exact absurd c25 (by decide)
            · have hsp := hk_f c24 hsp
              refine lv_iconst (v := 0) hx hb dL_holds_106 (by decide) ?_
              obtain rfl := hk_s hsp
              exact W.zret (v := 0) hx hb hr (hk_z (by decide)).1 (fun t ht hW => hk_end G ht hW) G.2.1.2.2 dL_holds_107
        · have hsp := hk_g c16 hsp
          refine lv_iconst (v := 1) hx hb dL_holds_65 (by decide) ?_
          refine lv_goto (tgt := 70) hx hb dL_holds_66 (by decide) ?_
          refine lv_istore_n (lv' := [(2, .int 1), (0, .ref (g.1 + a0)), (1, .int z12)]) hx hb dL_holds_70 rfl hl (by decide) rfl (fun ls hl => ?_)
          refine lv_aload_n hx hb dL_holds_71 rfl (lv_at hl 1 rfl) ?_
          refine lv_iload_n hx hb dL_holds_72 rfl (lv_at hl 2 rfl) ?_
          obtain ⟨r63, er63, hsp⟩ := hk_b hsp
          refine hk_callVi (As := [.int z12]) (rest := []) F9 G h0 hkc_8 rfl (kX11_kilograms l g E F n r15.2 a0 z12 r63 h0 er63) qv_RL_16 ⟨rfl, rfl, (Nat.le_of_ble_eq_true rfl), (Nat.le_of_ble_eq_true rfl)⟩ rfl hl.1 rfl (Nat.le_of_ble_eq_true rfl) ⟨Nat.zero_le _, Nat.zero_le _⟩ dL_holds_73 (fun H locs G => ?_)
          refine lv_aload_n hx hb dL_holds_76 rfl (lv_at hl 1 rfl) ?_
          refine lv_iload_n hx hb dL_holds_77 rfl (lv_at hl 2 rfl) ?_
          obtain ⟨r64, er64, hsp⟩ := hk_b hsp
          refine hk_callVi (As := [.int z12]) (rest := [.int r63.1]) F9 G h0 hkc_8 rfl (kX11_capacity l g E F n r63.2 a0 z12 r64 h0 er64) qv_RL_20 ⟨rfl, rfl, (Nat.le_of_ble_eq_true rfl), (Nat.le_of_ble_eq_true rfl)⟩ rfl hl.1 rfl (Nat.le_of_ble_eq_true rfl) ⟨Nat.zero_le _, Nat.zero_le _⟩ dL_holds_78 (fun H locs G => ?_)
          refine lv_icmp_gt (tgt := 106) hx hb dL_holds_81 (by decide) (fun c65 => ?_) (fun c65 => ?_)
          · have hsp := hk_t c65 hsp
            refine lv_iconst (v := 0) hx hb dL_holds_106 (by decide) ?_
            obtain rfl := hk_s hsp
            exact W.zret (v := 0) hx hb hr (hk_z (by decide)).1 (fun t ht hW => hk_end G ht hW) G.2.1.2.2 dL_holds_107
          · have hsp := hk_f c65 hsp
            refine lv_aload_n hx hb dL_holds_84 rfl (lv_at hl 1 rfl) ?_
            refine lv_iload_n hx hb dL_holds_85 rfl (lv_at hl 2 rfl) ?_
            obtain ⟨r66, er66, hsp⟩ := hk_b hsp
            refine hk_callVi (As := [.int z12]) (rest := []) F9 G h0 hkc_8 rfl (kX11_fill l g E F n r64.2 a0 z12 r66 h0 er66) qv_RL_98 ⟨rfl, rfl, (Nat.le_of_ble_eq_true rfl), (Nat.le_of_ble_eq_true rfl)⟩ rfl hl.1 rfl (Nat.le_of_ble_eq_true rfl) ⟨Nat.zero_le _, Nat.zero_le _⟩ dL_holds_86 (fun H locs G => ?_)
            refine lv_aload_n hx hb dL_holds_89 rfl (lv_at hl 1 rfl) ?_
            refine lv_iload_n hx hb dL_holds_90 rfl (lv_at hl 2 rfl) ?_
            obtain ⟨r67, er67, hsp⟩ := hk_b hsp
            refine hk_callVi (As := [.int z12]) (rest := [.int r66.1]) F9 G h0 hkc_8 rfl (kX11_kilograms l g E F n r66.2 a0 z12 r67 h0 er67) qv_RL_16 ⟨rfl, rfl, (Nat.le_of_ble_eq_true rfl), (Nat.le_of_ble_eq_true rfl)⟩ rfl hl.1 rfl (Nat.le_of_ble_eq_true rfl) ⟨Nat.zero_le _, Nat.zero_le _⟩ dL_holds_91 (fun H locs G => ?_)
            refine lv_bipush (v := 100) hx hb dL_holds_94 (by decide) ?_
            refine lv_imul hx hb dL_holds_96 ?_
            refine lv_aload_n hx hb dL_holds_97 rfl (lv_at hl 1 rfl) ?_
            refine lv_iload_n hx hb dL_holds_98 rfl (lv_at hl 2 rfl) ?_
            obtain ⟨r68, er68, hsp⟩ := hk_b hsp
            refine hk_callVi (As := [.int z12]) (rest := [.int (r67.1 * 100), .int r66.1]) F9 G h0 hkc_8 rfl (kX11_capacity l g E F n r67.2 a0 z12 r68 h0 er68) qv_RL_20 ⟨rfl, rfl, (Nat.le_of_ble_eq_true rfl), (Nat.le_of_ble_eq_true rfl)⟩ rfl hl.1 rfl (Nat.le_of_ble_eq_true rfl) ⟨Nat.zero_le _, Nat.zero_le _⟩ dL_holds_99 (fun H locs G => ?_)
            obtain ⟨q69, hsp⟩ := hk_k hsp
            refine lv_idiv hx hb dL_holds_102 q69 ?_
            refine lv_icmp_eq (tgt := 108) hx hb dL_holds_103 (by decide) (fun c70 => ?_) (fun c70 => ?_)
            · have hsp := hk_t c70 hsp
              refine lv_iload_n hx hb dL_holds_108 rfl (lv_at hl 0 rfl) ?_
              refine lv_if_eq (tgt := 187) hx hb dL_holds_109 (by decide) (fun c71 => ?_) (fun c71 => ?_)
              · exact absurd c71 (by decide)
              · refine lv_aload_n hx hb dL_holds_112 rfl (lv_at hl 1 rfl) ?_
                refine lv_iload_n hx hb dL_holds_113 rfl (lv_at hl 2 rfl) ?_
                refine lv_iconst (v := 0) hx hb dL_holds_114 (by decide) ?_
                obtain ⟨r72, er72, hsp⟩ := hk_b hsp
                refine hk_callVi (As := [.int z12, .int 0]) (rest := []) F9 G h0 hkc_8 rfl (kX11_moisture l g E F n r68.2 a0 z12 0 r72 h0 er72) qv_RL_101 ⟨rfl, rfl, (Nat.le_of_ble_eq_true rfl), (Nat.le_of_ble_eq_true rfl)⟩ rfl hl.1 rfl (Nat.le_of_ble_eq_true rfl) ⟨Nat.zero_le _, Nat.zero_le _⟩ dL_holds_115 (fun H locs G => ?_)
                refine lv_iconst (v := (-1)) hx hb dL_holds_118 (by decide) ?_
                refine lv_icmp_ne (tgt := 185) hx hb dL_holds_119 (by decide) (fun c73 => ?_) (fun c73 => ?_)
                · have hsp := hk_t c73 hsp
                  refine lv_iconst (v := 0) hx hb dL_holds_185 (by decide) ?_
                  obtain rfl := hk_s hsp
                  exact W.zret (v := 0) hx hb hr (hk_z (by decide)).1 (fun t ht hW => hk_end G ht hW) G.2.1.2.2 dL_holds_186
                · have hsp := hk_g c73 hsp
                  refine lv_aload_n hx hb dL_holds_122 rfl (lv_at hl 1 rfl) ?_
                  refine lv_iload_n hx hb dL_holds_123 rfl (lv_at hl 2 rfl) ?_
                  refine lv_iconst (v := 1) hx hb dL_holds_124 (by decide) ?_
                  obtain ⟨r74, er74, hsp⟩ := hk_b hsp
                  refine hk_callVi (As := [.int z12, .int 1]) (rest := []) F9 G h0 hkc_8 rfl (kX11_moisture l g E F n r72.2 a0 z12 1 r74 h0 er74) qv_RL_101 ⟨rfl, rfl, (Nat.le_of_ble_eq_true rfl), (Nat.le_of_ble_eq_true rfl)⟩ rfl hl.1 rfl (Nat.le_of_ble_eq_true rfl) ⟨Nat.zero_le _, Nat.zero_le _⟩ dL_holds_125 (fun H locs G => ?_)
                  refine lv_iconst (v := (-1)) hx hb dL_holds_128 (by decide) ?_
                  refine lv_icmp_ne (tgt := 185) hx hb dL_holds_129 (by decide) (fun c75 => ?_) (fun c75 => ?_)
                  · have hsp := hk_t c75 hsp
                    refine lv_iconst (v := 0) hx hb dL_holds_185 (by decide) ?_
                    obtain rfl := hk_s hsp
                    exact W.zret (v := 0) hx hb hr (hk_z (by decide)).1 (fun t ht hW => hk_end G ht hW) G.2.1.2.2 dL_holds_186
                  · have hsp := hk_g c75 hsp
                    refine lv_aload_n hx hb dL_holds_132 rfl (lv_at hl 1 rfl) ?_
                    refine lv_iload_n hx hb dL_holds_133 rfl (lv_at hl 2 rfl) ?_
                    obtain ⟨r76, er76, hsp⟩ := hk_b hsp
                    refine hk_callVi (As := [.int z12]) (rest := []) F9 G h0 hkc_8 rfl (kX11_spread l g E F n r74.2 a0 z12 r76 h0 er76) qv_RL_104 ⟨rfl, rfl, (Nat.le_of_ble_eq_true rfl), (Nat.le_of_ble_eq_true rfl)⟩ rfl hl.1 rfl (Nat.le_of_ble_eq_true rfl) ⟨Nat.zero_le _, Nat.zero_le _⟩ dL_holds_134 (fun H locs G => ?_)
                    refine lv_iconst (v := (-1)) hx hb dL_holds_137 (by decide) ?_
                    refine lv_icmp_ne (tgt := 185) hx hb dL_holds_138 (by decide) (fun c77 => ?_) (fun c77 => ?_)
                    · have hsp := hk_t c77 hsp
                      refine lv_iconst (v := 0) hx hb dL_holds_185 (by decide) ?_
                      obtain rfl := hk_s hsp
                      exact W.zret (v := 0) hx hb hr (hk_z (by decide)).1 (fun t ht hW => hk_end G ht hW) G.2.1.2.2 dL_holds_186
                    · have hsp := hk_g c77 hsp
                      refine lv_aload_n hx hb dL_holds_141 rfl (lv_at hl 1 rfl) ?_
                      refine lv_iload_n hx hb dL_holds_142 rfl (lv_at hl 2 rfl) ?_
                      obtain ⟨r78, er78, hsp⟩ := hk_b hsp
                      refine hk_callVi (As := [.int z12]) (rest := []) F9 G h0 hkc_8 rfl (kX11_warmth l g E F n r76.2 a0 z12 r78 h0 er78) qv_RL_107 ⟨rfl, rfl, (Nat.le_of_ble_eq_true rfl), (Nat.le_of_ble_eq_true rfl)⟩ rfl hl.1 rfl (Nat.le_of_ble_eq_true rfl) ⟨Nat.zero_le _, Nat.zero_le _⟩ dL_holds_143 (fun H locs G => ?_)
                      refine lv_iconst (v := (-1)) hx hb dL_holds_146 (by decide) ?_
                      refine lv_icmp_ne (tgt := 185) hx hb dL_holds_147 (by decide) (fun c79 => ?_) (fun c79 => ?_)
                      · have hsp := hk_t c79 hsp
                        refine lv_iconst (v := 0) hx hb dL_holds_185 (by decide) ?_
                        obtain rfl := hk_s hsp
                        exact W.zret (v := 0) hx hb hr (hk_z (by decide)).1 (fun t ht hW => hk_end G ht hW) G.2.1.2.2 dL_holds_186
                      · have hsp := hk_g c79 hsp
                        refine lv_aload_n hx hb dL_holds_150 rfl (lv_at hl 1 rfl) ?_
                        refine lv_iload_n hx hb dL_holds_151 rfl (lv_at hl 2 rfl) ?_
                        obtain ⟨r80, er80, hsp⟩ := hk_b hsp
                        refine hk_callVi (As := [.int z12]) (rest := []) F9 G h0 hkc_8 rfl (kX11_damage l g E F n r78.2 a0 z12 r80 h0 er80) qv_RL_110 ⟨rfl, rfl, (Nat.le_of_ble_eq_true rfl), (Nat.le_of_ble_eq_true rfl)⟩ rfl hl.1 rfl (Nat.le_of_ble_eq_true rfl) ⟨Nat.zero_le _, Nat.zero_le _⟩ dL_holds_152 (fun H locs G => ?_)
                        refine lv_iconst (v := (-1)) hx hb dL_holds_155 (by decide) ?_
                        refine lv_icmp_ne (tgt := 185) hx hb dL_holds_156 (by decide) (fun c81 => ?_) (fun c81 => ?_)
                        · have hsp := hk_t c81 hsp
                          refine lv_iconst (v := 0) hx hb dL_holds_185 (by decide) ?_
                          obtain rfl := hk_s hsp
                          exact W.zret (v := 0) hx hb hr (hk_z (by decide)).1 (fun t ht hW => hk_end G ht hW) G.2.1.2.2 dL_holds_186
                        · have hsp := hk_g c81 hsp
                          refine lv_aload_n hx hb dL_holds_159 rfl (lv_at hl 1 rfl) ?_
                          refine lv_iload_n hx hb dL_holds_160 rfl (lv_at hl 2 rfl) ?_
                          obtain ⟨r82, er82, hsp⟩ := hk_b hsp
                          refine hk_callVi (As := [.int z12]) (rest := []) F9 G h0 hkc_8 rfl (kX11_marks l g E F n r80.2 a0 z12 r82 h0 er82) qv_RL_113 ⟨rfl, rfl, (Nat.le_of_ble_eq_true rfl), (Nat.le_of_ble_eq_true rfl)⟩ rfl hl.1 rfl (Nat.le_of_ble_eq_true rfl) ⟨Nat.zero_le _, Nat.zero_le _⟩ dL_holds_161 (fun H locs G => ?_)
                          refine lv_iconst (v := (-1)) hx hb dL_holds_164 (by decide) ?_
                          refine lv_icmp_ne (tgt := 185) hx hb dL_holds_165 (by decide) (fun c83 => ?_) (fun c83 => ?_)
                          · have hsp := hk_t c83 hsp
                            refine lv_iconst (v := 0) hx hb dL_holds_185 (by decide) ?_
                            obtain rfl := hk_s hsp
                            exact W.zret (v := 0) hx hb hr (hk_z (by decide)).1 (fun t ht hW => hk_end G ht hW) G.2.1.2.2 dL_holds_186
                          · have hsp := hk_g c83 hsp
                            refine lv_aload_n hx hb dL_holds_168 rfl (lv_at hl 1 rfl) ?_
                            refine lv_iload_n hx hb dL_holds_169 rfl (lv_at hl 2 rfl) ?_
                            obtain ⟨r84, er84, hsp⟩ := hk_b hsp
                            refine hk_callVi (As := [.int z12]) (rest := []) F9 G h0 hkc_8 rfl (kX11_weight l g E F n r82.2 a0 z12 r84 h0 er84) qv_RL_80 ⟨rfl, rfl, (Nat.le_of_ble_eq_true rfl), (Nat.le_of_ble_eq_true rfl)⟩ rfl hl.1 rfl (Nat.le_of_ble_eq_true rfl) ⟨Nat.zero_le _, Nat.zero_le _⟩ dL_holds_170 (fun H locs G => ?_)
                            refine lv_if_ne (tgt := 185) hx hb dL_holds_173 (by decide) (fun c85 => ?_) (fun c85 => ?_)
                            · have hsp := hk_t c85 hsp
                              refine lv_iconst (v := 0) hx hb dL_holds_185 (by decide) ?_
                              obtain rfl := hk_s hsp
                              exact W.zret (v := 0) hx hb hr (hk_z (by decide)).1 (fun t ht hW => hk_end G ht hW) G.2.1.2.2 dL_holds_186
                            · have hsp := hk_g c85 hsp
                              refine lv_aload_n hx hb dL_holds_176 rfl (lv_at hl 1 rfl) ?_
                              refine lv_iload_n hx hb dL_holds_177 rfl (lv_at hl 2 rfl) ?_
                              obtain ⟨r86, er86, hsp⟩ := hk_b hsp
                              refine hk_callVi (As := [.int z12]) (rest := []) F9 G h0 hkc_8 rfl (kX11_whyNoDischarge l g E F n r84.2 a0 z12 r86 h0 er86) qv_RL_50 ⟨rfl, rfl, (Nat.le_of_ble_eq_true rfl), (Nat.le_of_ble_eq_true rfl)⟩ rfl hl.1 rfl (Nat.le_of_ble_eq_true rfl) ⟨Nat.zero_le _, Nat.zero_le _⟩ dL_holds_178 (fun H locs G => ?_)
                              refine lv_iconst (v := 1) hx hb dL_holds_181 (by decide) ?_
                              refine lv_icmp_eq (tgt := 363) hx hb dL_holds_182 (by decide) (fun c87 => ?_) (fun c87 => ?_)
                              · have hsp := hk_t c87 hsp
                                obtain ⟨y88, ey88, hsp⟩ := hk_l hsp
                                refine lv_iinc (v := y88) (lv' := [(1, .int y88), (2, .int 1), (0, .ref (g.1 + a0))]) hx hb dL_holds_363 hl (k := 2) rfl (by rw [← ey88]; rfl) (by decide) rfl (fun ls hl => ?_)
                                refine lv_goto (tgt := 49) hx hb dL_holds_366 (by decide) ?_
                                exact ih r86.2 y88 _ _ _ hsp G (lv_sub hl [2, 0] rfl)
                              · have hsp := hk_f c87 hsp
                                refine lv_iconst (v := 0) hx hb dL_holds_185 (by decide) ?_
                                obtain rfl := hk_s hsp
                                exact W.zret (v := 0) hx hb hr (hk_z (by decide)).1 (fun t ht hW => hk_end G ht hW) G.2.1.2.2 dL_holds_186
            · have hsp := hk_f c70 hsp
              refine lv_iconst (v := 0) hx hb dL_holds_106 (by decide) ?_
              obtain rfl := hk_s hsp
              exact W.zret (v := 0) hx hb hr (hk_z (by decide)).1 (fun t ht hW => hk_end G ht hW) G.2.1.2.2 dL_holds_107
  refine lv_aload_n hx hb dL_holds_0 rfl (lv_at hl 0 rfl) ?_
  obtain ⟨r1, er1, hsp⟩ := hk_b hsp
  refine hk_callVi (As := []) (rest := []) F9 G h0 hkc_8 rfl (kX11_violations l g E F n S a0 r1 h0 er1) qv_RL_89 ⟨rfl, rfl, (Nat.le_of_ble_eq_true rfl), (Nat.le_of_ble_eq_true rfl)⟩ rfl hl.1 rfl (Nat.le_of_ble_eq_true rfl) ⟨Nat.zero_le _, Nat.zero_le _⟩ dL_holds_1 (fun H locs G => ?_)
  refine lv_if_ne (tgt := 45) hx hb dL_holds_4 (by decide) (fun c2 => ?_) (fun c2 => ?_)
  · have hsp := hk_t c2 hsp
    refine lv_iconst (v := 0) hx hb dL_holds_45 (by decide) ?_
    obtain rfl := hk_s hsp
    exact W.zret (v := 0) hx hb hr (hk_z (by decide)).1 (fun t ht hW => hk_end G ht hW) G.2.1.2.2 dL_holds_46
  · have hsp := hk_g c2 hsp
    refine lv_aload_n hx hb dL_holds_7 rfl (lv_at hl 0 rfl) ?_
    obtain ⟨r3, er3, hsp⟩ := hk_b hsp
    refine hk_callVi (As := []) (rest := []) F9 G h0 hkc_8 rfl (kX11_hour l g E F n r1.2 a0 r3 h0 er3) qv_RL_59 ⟨rfl, rfl, (Nat.le_of_ble_eq_true rfl), (Nat.le_of_ble_eq_true rfl)⟩ rfl hl.1 rfl (Nat.le_of_ble_eq_true rfl) ⟨Nat.zero_le _, Nat.zero_le _⟩ dL_holds_8 (fun H locs G => ?_)
    refine lv_if_lt (tgt := 45) hx hb dL_holds_11 (by decide) (fun c4 => ?_) (fun c4 => ?_)
    · have hsp := hk_t c4 hsp
      refine lv_iconst (v := 0) hx hb dL_holds_45 (by decide) ?_
      obtain rfl := hk_s hsp
      exact W.zret (v := 0) hx hb hr (hk_z (by decide)).1 (fun t ht hW => hk_end G ht hW) G.2.1.2.2 dL_holds_46
    · have hsp := hk_f c4 hsp
      refine lv_aload_n hx hb dL_holds_14 rfl (lv_at hl 0 rfl) ?_
      obtain ⟨r5, er5, hsp⟩ := hk_b hsp
      refine hk_callVi (As := []) (rest := []) F9 G h0 hkc_8 rfl (kX11_hour l g E F n r3.2 a0 r5 h0 er5) qv_RL_59 ⟨rfl, rfl, (Nat.le_of_ble_eq_true rfl), (Nat.le_of_ble_eq_true rfl)⟩ rfl hl.1 rfl (Nat.le_of_ble_eq_true rfl) ⟨Nat.zero_le _, Nat.zero_le _⟩ dL_holds_15 (fun H locs G => ?_)
      refine lv_sipush (v := 2000) hx hb dL_holds_18 (by decide) ?_
      refine lv_icmp_gt (tgt := 45) hx hb dL_holds_21 (by decide) (fun c6 => ?_) (fun c6 => ?_)
      · have hsp := hk_t c6 hsp
        refine lv_iconst (v := 0) hx hb dL_holds_45 (by decide) ?_
        obtain rfl := hk_s hsp
        exact W.zret (v := 0) hx hb hr (hk_z (by decide)).1 (fun t ht hW => hk_end G ht hW) G.2.1.2.2 dL_holds_46
      · have hsp := hk_f c6 hsp
        refine lv_aload_n hx hb dL_holds_24 rfl (lv_at hl 0 rfl) ?_
        obtain ⟨r7, er7, hsp⟩ := hk_b hsp
        refine hk_callVi (As := []) (rest := []) F9 G h0 hkc_8 rfl (kX11_day l g E F n r5.2 a0 r7 h0 er7) qv_RL_92 ⟨rfl, rfl, (Nat.le_of_ble_eq_true rfl), (Nat.le_of_ble_eq_true rfl)⟩ rfl hl.1 rfl (Nat.le_of_ble_eq_true rfl) ⟨Nat.zero_le _, Nat.zero_le _⟩ dL_holds_25 (fun H locs G => ?_)
        refine lv_aload_n hx hb dL_holds_28 rfl (lv_at hl 0 rfl) ?_
        obtain ⟨r8, er8, hsp⟩ := hk_b hsp
        refine hk_callVi (As := []) (rest := [.int r7.1]) F9 G h0 hkc_8 rfl (kX11_hour l g E F n r7.2 a0 r8 h0 er8) qv_RL_59 ⟨rfl, rfl, (Nat.le_of_ble_eq_true rfl), (Nat.le_of_ble_eq_true rfl)⟩ rfl hl.1 rfl (Nat.le_of_ble_eq_true rfl) ⟨Nat.zero_le _, Nat.zero_le _⟩ dL_holds_29 (fun H locs G => ?_)
        refine lv_bipush (v := 24) hx hb dL_holds_32 (by decide) ?_
        refine lv_idiv hx hb dL_holds_34 (by decide) ?_
        refine lv_icmp_ne (tgt := 45) hx hb dL_holds_35 (by decide) (fun c9 => ?_) (fun c9 => ?_)
        · have hsp := hk_t c9 hsp
          refine lv_iconst (v := 0) hx hb dL_holds_45 (by decide) ?_
          obtain rfl := hk_s hsp
          exact W.zret (v := 0) hx hb hr (hk_z (by decide)).1 (fun t ht hW => hk_end G ht hW) G.2.1.2.2 dL_holds_46
        · have hsp := hk_g c9 hsp
          refine lv_aload_n hx hb dL_holds_38 rfl (lv_at hl 0 rfl) ?_
          obtain ⟨r10, er10, hsp⟩ := hk_b hsp
          refine hk_callVi (As := []) (rest := []) F9 G h0 hkc_8 rfl (kX11_lostWater l g E F n r8.2 a0 r10 h0 er10) qv_RL_95 ⟨rfl, rfl, (Nat.le_of_ble_eq_true rfl), (Nat.le_of_ble_eq_true rfl)⟩ rfl hl.1 rfl (Nat.le_of_ble_eq_true rfl) ⟨Nat.zero_le _, Nat.zero_le _⟩ dL_holds_39 (fun H locs G => ?_)
          refine lv_if_ge (tgt := 47) hx hb dL_holds_42 (by decide) (fun c11 => ?_) (fun c11 => ?_)
          · have hsp := hk_t c11 hsp
            refine lv_iconst (v := 0) hx hb dL_holds_47 (by decide) ?_
            refine lv_istore_n (lv' := [(1, .int 0), (0, .ref (g.1 + a0))]) hx hb dL_holds_48 rfl hl (by decide) rfl (fun ls hl => ?_)
            refine L_49   _ ?_ F r10.2 0 _ _ _ hsp G (lv_sub hl [1, 0] rfl)
            intro S89 z90 H locs ls hsp G hl
            refine lv_iconst (v := 1) hx hb dL_holds_369 (by decide) ?_
            obtain rfl := hk_s hsp
            exact W.zret (v := 1) hx hb hr (hk_z (by decide)).1 (fun t ht hW => hk_end G ht hW) G.2.1.2.2 dL_holds_370
          · have hsp := hk_f c11 hsp
            refine lv_iconst (v := 0) hx hb dL_holds_45 (by decide) ?_
            obtain rfl := hk_s hsp
            exact W.zret (v := 0) hx hb hr (hk_z (by decide)).1 (fun t ht hW => hk_end G ht hW) G.2.1.2.2 dL_holds_46
def mL_sum_68 (E : hk_E) (F : Nat) (a0 : Nat)  (k : hk_S → Int64 → Int32 → Option (Int64 × hk_S)) : Nat → hk_S → Int64 → Int32 → Option (Int64 × hk_S)
  | 0 => fun _ _ _ => none
  | f + 1 => fun S z9 z10 =>
    (mX11_troughCount E F S a0).bind (fun r11 => if r11.1 ≤ z10 then (k r11.2 z9 z10) else ((mX11_kilograms E F r11.2 a0 z10).bind (fun r13 => (mX11_capacity E F r13.2 a0 z10).bind (fun r14 => (mX11_speed E F r14.2 a0 z10).bind (fun r15 => (mX11_isUpwards E F r15.2 a0 z10).bind (fun r16 => if r16.1 = 0 then (hk_let (((((((31 : Int64) * z9) + ((r13.1 : Int32).toInt64)) + ((1000 : Int64) * ((r14.1 : Int32).toInt64))) + ((10 : Int64) * ((r15.1 : Int32).toInt64))) + (0 : Int64)) : Int64) (fun y18 => (mX11_moisture E F r16.2 a0 z10 0).bind (fun r19 => (mX11_moisture E F r19.2 a0 z10 1).bind (fun r20 => (mX11_warmth E F r20.2 a0 z10).bind (fun r21 => (mX11_damage E F r21.2 a0 z10).bind (fun r22 => (mX11_weight E F r22.2 a0 z10).bind (fun r23 => hk_let ((((((((31 : Int64) * y18) + ((r19.1 : Int32).toInt64)) + ((1000 : Int64) * ((r20.1 : Int32).toInt64))) + ((100 : Int64) * ((r21.1 : Int32).toInt64))) + ((7 : Int64) * ((r22.1 : Int32).toInt64))) + ((r23.1 : Int32).toInt64)) : Int64) (fun y24 => hk_let (z10 + 1) (fun y25 => mL_sum_68 E F a0 k f r23.2 y24 y25))))))))) else (hk_let (((((((31 : Int64) * z9) + ((r13.1 : Int32).toInt64)) + ((1000 : Int64) * ((r14.1 : Int32).toInt64))) + ((10 : Int64) * ((r15.1 : Int32).toInt64))) + (3 : Int64)) : Int64) (fun y26 => (mX11_moisture E F r16.2 a0 z10 0).bind (fun r27 => (mX11_moisture E F r27.2 a0 z10 1).bind (fun r28 => (mX11_warmth E F r28.2 a0 z10).bind (fun r29 => (mX11_damage E F r29.2 a0 z10).bind (fun r30 => (mX11_weight E F r30.2 a0 z10).bind (fun r31 => hk_let ((((((((31 : Int64) * y26) + ((r27.1 : Int32).toInt64)) + ((1000 : Int64) * ((r28.1 : Int32).toInt64))) + ((100 : Int64) * ((r29.1 : Int32).toInt64))) + ((7 : Int64) * ((r30.1 : Int32).toInt64))) + ((r31.1 : Int32).toInt64)) : Int64) (fun y32 => hk_let (z10 + 1) (fun y33 => mL_sum_68 E F a0 k f r31.2 y32 y33)))))))))))))))
def mL_sum_190 (E : hk_E) (F : Nat) (a0 : Nat)  (k : hk_S → Int64 → Int32 → Option (Int64 × hk_S)) : Nat → hk_S → Int64 → Int32 → Option (Int64 × hk_S)
  | 0 => fun _ _ _ => none
  | f + 1 => fun S z37 z38 =>
    (mX11_probeCount E F S a0).bind (fun r39 => if r39.1 ≤ z38 then (k r39.2 z37 z38) else ((mX11_probeTrough E F r39.2 a0 z38).bind (fun r41 => (mX11_probeLayer E F r41.2 a0 z38).bind (fun r42 => (mX11_reading E F r42.2 a0 z38).bind (fun r43 => hk_let ((((((31 : Int64) * z37) + ((r41.1 : Int32).toInt64)) + ((10 : Int64) * ((r42.1 : Int32).toInt64))) + ((100 : Int64) * ((r43.1 : Int32).toInt64))) : Int64) (fun y44 => hk_let (z38 + 1) (fun y45 => mL_sum_190 E F a0 k f r43.2 y44 y45)))))))
def mL_sum (E : hk_E) (F : Nat) (S : hk_S) (a0 : Nat) : Option (Int64 × hk_S) :=
(mX11_hour E F S a0).bind (fun r1 => (mX11_dryness E F r1.2 a0).bind (fun r2 => (mX11_lostWater E F r2.2 a0).bind (fun r3 => (mX11_totalWorth E F r3.2 a0).bind (fun r4 => (mX11_dischargedKilograms E F r4.2 a0).bind (fun r5 => (mX11_discardedKilograms E F r5.2 a0).bind (fun r6 => (mX11_hoursToMonsoon E F r6.2 a0).bind (fun r7 => hk_let (((((((((r1.1 : Int32).toInt64) + ((3000 : Int64) * ((r2.1 : Int32).toInt64))) + ((7 : Int64) * ((r3.1 : Int32).toInt64))) + ((11 : Int64) * ((r4.1 : Int32).toInt64))) + ((13 : Int64) * ((r5.1 : Int32).toInt64))) + ((17 : Int64) * ((r6.1 : Int32).toInt64))) + ((19 : Int64) * ((r7.1 : Int32).toInt64))) : Int64) (fun y8 => mL_sum_68 E F a0  (fun S34 z35 z36 => mL_sum_190 E F a0  (fun S46 z47 z48 => (mX11_readyTroughs E F S46 a0).bind (fun r49 => some ((((31 : Int64) * z47) + ((r49.1 : Int32).toInt64)), r49.2))) F S34 z35 0) F r7.2 y8 0))))))))
set_option maxHeartbeats 4000000 in
set_option maxRecDepth 100000 in
theorem kL_sum (l : Launch) (g : hk_G) (E : hk_E) (F n : Nat) (S : hk_S) (a0 : Nat) (o : Int64 × hk_S) (h0 : E.2.1 a0 = 9) (hsp : mL_sum E F S a0 = some o) : Met l yL_sum (hk_ws yL_sum cL_sum 4 (Option.some Jvm.ClassFile.FieldType.long)) ({ frames := 4, cells := 0, slots := 0, locals := 85 }) (hk_Pc g E S n [.ref (g.1 + a0)]) (hk_Q g E o.2 n (some (.long o.1))) 0 0 (hk_A g) := by
  refine Met.ofW (cc := cL_sum) (maxL := 4) (ret := (Option.some Jvm.ClassFile.FieldType.long)) (by decide) rfl ?_
  intro p e s m args below meth c s₁ B hml hv
  obtain ⟨rfl, G⟩ := hk_begin hv
  have F9 : CallFix p m c cL_sum 4 s [.ref (g.1 + a0)].toArray hk_W RL := ⟨B.exec, B.bytes, hml, findClass_of_methodNamed B.named, fun w h => atoms_spec (ws := hk_ws yL_sum cL_sum 4 (Option.some Jvm.ClassFile.FieldType.long)) B.pre w (hk_in h)⟩
  have hx := B.exec
  have hb := B.bytes
  have hr := B.returns
  have hlocks := B.notSynchronized
  have hl := lv_entry ([.ref (g.1 + a0)]) (n := 4) (Nat.le_of_ble_eq_true rfl)
  rw [lg_entry_eq]
  generalize (lg_sl ([.ref (g.1 + a0)]) ++ List.replicate (4 - (lg_sl ([.ref (g.1 + a0)])).length) Slot.unset).toArray = ls at hl ⊢
  have hl : lv_has ls 4 [(0, .ref (g.1 + a0))] := hl
  unfold mL_sum at hsp
  have G : hk_GG g E S n s s.heap [] := G
  have L_68 : ∀   (k : hk_S → Int64 → Int32 → Option (Int64 × hk_S)) (_ : ∀ (S : hk_S) (z9 : Int64) (z10 : Int32) (H : Heap) (locs : List Loc) (ls : Array Slot), k S z9 z10 = some o → hk_GG g E S n s H locs → lv_has ls 4 [(0, .ref (g.1 + a0)), (1, .long z9), (3, .int z10)] → W p l e (headSpec (hk_ws yL_sum cL_sum 4 (Option.some Jvm.ClassFile.FieldType.long)) ({ frames := 4, cells := 0, slots := 0, locals := 85 })).room s m [.ref (g.1 + a0)].toArray below meth c H locs 0 0 (MQ below (hk_Q g E o.2 n (some (.long o.1))) [.ref (g.1 + a0)].toArray s 0 0 (hk_A g)) (F0 m 188 ls [])) (f : Nat) (S : hk_S) (z9 : Int64) (z10 : Int32) (H : Heap) (locs : List Loc) (ls : Array Slot), mL_sum_68 E F a0 k f S z9 z10 = some o → hk_GG g E S n s H locs → lv_has ls 4 [(0, .ref (g.1 + a0)), (1, .long z9), (3, .int z10)] → W p l e (headSpec (hk_ws yL_sum cL_sum 4 (Option.some Jvm.ClassFile.FieldType.long)) ({ frames := 4, cells := 0, slots := 0, locals := 85 })).room s m [.ref (g.1 + a0)].toArray below meth c H locs 0 0 (MQ below (hk_Q g E o.2 n (some (.long o.1))) [.ref (g.1 + a0)].toArray s 0 0 (hk_A g)) (F0 m 68 ls []) := by
    intro   k hk f
    induction f with
    | zero =>
      intro S z9 z10 H locs ls hsp
      exact nomatch hsp
    | succ f ih =>
      intro S z9 z10 H locs ls hsp G hl
      rw [mL_sum_68] at hsp
      refine lv_iload_n hx hb dL_sum_68 rfl (lv_at hl 2 rfl) ?_
      refine lv_aload_n hx hb dL_sum_69 rfl (lv_at hl 0 rfl) ?_
      obtain ⟨r11, er11, hsp⟩ := hk_b hsp
      refine hk_callVi (As := []) (rest := [.int z10]) F9 G h0 hkc_8 rfl (kX11_troughCount l g E F n S a0 r11 h0 er11) qv_RL_7 ⟨rfl, rfl, (Nat.le_of_ble_eq_true rfl), (Nat.le_of_ble_eq_true rfl)⟩ rfl hl.1 rfl (Nat.le_of_ble_eq_true rfl) ⟨Nat.zero_le _, Nat.zero_le _⟩ dL_sum_70 (fun H locs G => ?_)
      refine lv_icmp_ge (tgt := 188) hx hb dL_sum_73 (by decide) (fun c12 => ?_) (fun c12 => ?_)
      · have hsp := hk_t c12 hsp
        exact hk r11.2 z9 z10 _ _ _ hsp G (lv_sub hl [0, 1, 2] rfl)
      · have hsp := hk_f c12 hsp
        refine lv_ldc2 hx hb F9.2.2.2.1 (F9.2.2.2.2 _ qw_814) dL_sum_76 ?_
        refine lv_lload_n hx hb dL_sum_79 rfl (lv_at hl 1 rfl) ?_
        refine lv_lmul hx hb dL_sum_80 ?_
        refine lv_aload_n hx hb dL_sum_81 rfl (lv_at hl 0 rfl) ?_
        refine lv_iload_n hx hb dL_sum_82 rfl (lv_at hl 2 rfl) ?_
        obtain ⟨r13, er13, hsp⟩ := hk_b hsp
        refine hk_callVi (As := [.int z10]) (rest := [.long ((31 : Int64) * z9)]) F9 G h0 hkc_8 rfl (kX11_kilograms l g E F n r11.2 a0 z10 r13 h0 er13) qv_RL_16 ⟨rfl, rfl, (Nat.le_of_ble_eq_true rfl), (Nat.le_of_ble_eq_true rfl)⟩ rfl hl.1 rfl (Nat.le_of_ble_eq_true rfl) ⟨Nat.zero_le _, Nat.zero_le _⟩ dL_sum_83 (fun H locs G => ?_)
        refine lv_i2l (v := (r13.1 : Int32).toInt64) hx hb dL_sum_86 rfl ?_
        refine lv_ladd hx hb dL_sum_87 ?_
        refine lv_ldc2 hx hb F9.2.2.2.1 (F9.2.2.2.2 _ qw_815) dL_sum_88 ?_
        refine lv_aload_n hx hb dL_sum_91 rfl (lv_at hl 0 rfl) ?_
        refine lv_iload_n hx hb dL_sum_92 rfl (lv_at hl 2 rfl) ?_
        obtain ⟨r14, er14, hsp⟩ := hk_b hsp
        refine hk_callVi (As := [.int z10]) (rest := [.long (1000 : Int64), .long (((31 : Int64) * z9) + ((r13.1 : Int32).toInt64))]) F9 G h0 hkc_8 rfl (kX11_capacity l g E F n r13.2 a0 z10 r14 h0 er14) qv_RL_20 ⟨rfl, rfl, (Nat.le_of_ble_eq_true rfl), (Nat.le_of_ble_eq_true rfl)⟩ rfl hl.1 rfl (Nat.le_of_ble_eq_true rfl) ⟨Nat.zero_le _, Nat.zero_le _⟩ dL_sum_93 (fun H locs G => ?_)
        refine lv_i2l (v := (r14.1 : Int32).toInt64) hx hb dL_sum_96 rfl ?_
        refine lv_lmul hx hb dL_sum_97 ?_
        refine lv_ladd hx hb dL_sum_98 ?_
        refine lv_ldc2 hx hb F9.2.2.2.1 (F9.2.2.2.2 _ qw_816) dL_sum_99 ?_
        refine lv_aload_n hx hb dL_sum_102 rfl (lv_at hl 0 rfl) ?_
        refine lv_iload_n hx hb dL_sum_103 rfl (lv_at hl 2 rfl) ?_
        obtain ⟨r15, er15, hsp⟩ := hk_b hsp
        refine hk_callVi (As := [.int z10]) (rest := [.long (10 : Int64), .long ((((31 : Int64) * z9) + ((r13.1 : Int32).toInt64)) + ((1000 : Int64) * ((r14.1 : Int32).toInt64)))]) F9 G h0 hkc_8 rfl (kX11_speed l g E F n r14.2 a0 z10 r15 h0 er15) qv_RL_41 ⟨rfl, rfl, (Nat.le_of_ble_eq_true rfl), (Nat.le_of_ble_eq_true rfl)⟩ rfl hl.1 rfl (Nat.le_of_ble_eq_true rfl) ⟨Nat.zero_le _, Nat.zero_le _⟩ dL_sum_104 (fun H locs G => ?_)
        refine lv_i2l (v := (r15.1 : Int32).toInt64) hx hb dL_sum_107 rfl ?_
        refine lv_lmul hx hb dL_sum_108 ?_
        refine lv_ladd hx hb dL_sum_109 ?_
        refine lv_aload_n hx hb dL_sum_110 rfl (lv_at hl 0 rfl) ?_
        refine lv_iload_n hx hb dL_sum_111 rfl (lv_at hl 2 rfl) ?_
        obtain ⟨r16, er16, hsp⟩ := hk_b hsp
        refine hk_callVi (As := [.int z10]) (rest := [.long (((((31 : Int64) * z9) + ((r13.1 : Int32).toInt64)) + ((1000 : Int64) * ((r14.1 : Int32).toInt64))) + ((10 : Int64) * ((r15.1 : Int32).toInt64)))]) F9 G h0 hkc_8 rfl (kX11_isUpwards l g E F n r15.2 a0 z10 r16 h0 er16) qv_RL_154 ⟨rfl, rfl, (Nat.le_of_ble_eq_true rfl), (Nat.le_of_ble_eq_true rfl)⟩ rfl hl.1 rfl (Nat.le_of_ble_eq_true rfl) ⟨Nat.zero_le _, Nat.zero_le _⟩ dL_sum_112 (fun H locs G => ?_)
        refine lv_if_eq (tgt := 124) hx hb dL_sum_115 (by decide) (fun c17 => ?_) (fun c17 => ?_)
        · have hsp := hk_t c17 hsp
          refine lv_lconst (v := 0) hx hb dL_sum_124 (by decide) ?_
          refine lv_ladd hx hb dL_sum_125 ?_
          obtain ⟨y18, ey18, hsp⟩ := hk_l hsp
          refine hk_topl ey18 ?_
          refine lv_lstore_n (lv' := [(1, .long y18), (0, .ref (g.1 + a0)), (3, .int z10)]) hx hb dL_sum_126 rfl hl (by decide) rfl (fun ls hl => ?_)
          refine lv_ldc2 hx hb F9.2.2.2.1 (F9.2.2.2.2 _ qw_814) dL_sum_127 ?_
          refine lv_lload_n hx hb dL_sum_130 rfl (lv_at hl 0 rfl) ?_
          refine lv_lmul hx hb dL_sum_131 ?_
          refine lv_aload_n hx hb dL_sum_132 rfl (lv_at hl 1 rfl) ?_
          refine lv_iload_n hx hb dL_sum_133 rfl (lv_at hl 2 rfl) ?_
          refine lv_iconst (v := 0) hx hb dL_sum_134 (by decide) ?_
          obtain ⟨r19, er19, hsp⟩ := hk_b hsp
          refine hk_callVi (As := [.int z10, .int 0]) (rest := [.long ((31 : Int64) * y18)]) F9 G h0 hkc_8 rfl (kX11_moisture l g E F n r16.2 a0 z10 0 r19 h0 er19) qv_RL_101 ⟨rfl, rfl, (Nat.le_of_ble_eq_true rfl), (Nat.le_of_ble_eq_true rfl)⟩ rfl hl.1 rfl (Nat.le_of_ble_eq_true rfl) ⟨Nat.zero_le _, Nat.zero_le _⟩ dL_sum_135 (fun H locs G => ?_)
          refine lv_i2l (v := (r19.1 : Int32).toInt64) hx hb dL_sum_138 rfl ?_
          refine lv_ladd hx hb dL_sum_139 ?_
          refine lv_ldc2 hx hb F9.2.2.2.1 (F9.2.2.2.2 _ qw_815) dL_sum_140 ?_
          refine lv_aload_n hx hb dL_sum_143 rfl (lv_at hl 1 rfl) ?_
          refine lv_iload_n hx hb dL_sum_144 rfl (lv_at hl 2 rfl) ?_
          refine lv_iconst (v := 1) hx hb dL_sum_145 (by decide) ?_
          obtain ⟨r20, er20, hsp⟩ := hk_b hsp
          refine hk_callVi (As := [.int z10, .int 1]) (rest := [.long (1000 : Int64), .long (((31 : Int64) * y18) + ((r19.1 : Int32).toInt64))]) F9 G h0 hkc_8 rfl (kX11_moisture l g E F n r19.2 a0 z10 1 r20 h0 er20) qv_RL_101 ⟨rfl, rfl, (Nat.le_of_ble_eq_true rfl), (Nat.le_of_ble_eq_true rfl)⟩ rfl hl.1 rfl (Nat.le_of_ble_eq_true rfl) ⟨Nat.zero_le _, Nat.zero_le _⟩ dL_sum_146 (fun H locs G => ?_)
          refine lv_i2l (v := (r20.1 : Int32).toInt64) hx hb dL_sum_149 rfl ?_
          refine lv_lmul hx hb dL_sum_150 ?_
          refine lv_ladd hx hb dL_sum_151 ?_
          refine lv_ldc2 hx hb F9.2.2.2.1 (F9.2.2.2.2 _ qw_822) dL_sum_152 ?_
          refine lv_aload_n hx hb dL_sum_155 rfl (lv_at hl 1 rfl) ?_
          refine lv_iload_n hx hb dL_sum_156 rfl (lv_at hl 2 rfl) ?_
          obtain ⟨r21, er21, hsp⟩ := hk_b hsp
          refine hk_callVi (As := [.int z10]) (rest := [.long (100 : Int64), .long ((((31 : Int64) * y18) + ((r19.1 : Int32).toInt64)) + ((1000 : Int64) * ((r20.1 : Int32).toInt64)))]) F9 G h0 hkc_8 rfl (kX11_warmth l g E F n r20.2 a0 z10 r21 h0 er21) qv_RL_107 ⟨rfl, rfl, (Nat.le_of_ble_eq_true rfl), (Nat.le_of_ble_eq_true rfl)⟩ rfl hl.1 rfl (Nat.le_of_ble_eq_true rfl) ⟨Nat.zero_le _, Nat.zero_le _⟩ dL_sum_157 (fun H locs G => ?_)
          refine lv_i2l (v := (r21.1 : Int32).toInt64) hx hb dL_sum_160 rfl ?_
          refine lv_lmul hx hb dL_sum_161 ?_
          refine lv_ladd hx hb dL_sum_162 ?_
          refine lv_ldc2 hx hb F9.2.2.2.1 (F9.2.2.2.2 _ qw_789) dL_sum_163 ?_
          refine lv_aload_n hx hb dL_sum_166 rfl (lv_at hl 1 rfl) ?_
          refine lv_iload_n hx hb dL_sum_167 rfl (lv_at hl 2 rfl) ?_
          obtain ⟨r22, er22, hsp⟩ := hk_b hsp
          refine hk_callVi (As := [.int z10]) (rest := [.long (7 : Int64), .long (((((31 : Int64) * y18) + ((r19.1 : Int32).toInt64)) + ((1000 : Int64) * ((r20.1 : Int32).toInt64))) + ((100 : Int64) * ((r21.1 : Int32).toInt64)))]) F9 G h0 hkc_8 rfl (kX11_damage l g E F n r21.2 a0 z10 r22 h0 er22) qv_RL_110 ⟨rfl, rfl, (Nat.le_of_ble_eq_true rfl), (Nat.le_of_ble_eq_true rfl)⟩ rfl hl.1 rfl (Nat.le_of_ble_eq_true rfl) ⟨Nat.zero_le _, Nat.zero_le _⟩ dL_sum_168 (fun H locs G => ?_)
          refine lv_i2l (v := (r22.1 : Int32).toInt64) hx hb dL_sum_171 rfl ?_
          refine lv_lmul hx hb dL_sum_172 ?_
          refine lv_ladd hx hb dL_sum_173 ?_
          refine lv_aload_n hx hb dL_sum_174 rfl (lv_at hl 1 rfl) ?_
          refine lv_iload_n hx hb dL_sum_175 rfl (lv_at hl 2 rfl) ?_
          obtain ⟨r23, er23, hsp⟩ := hk_b hsp
          refine hk_callVi (As := [.int z10]) (rest := [.long ((((((31 : Int64) * y18) + ((r19.1 : Int32).toInt64)) + ((1000 : Int64) * ((r20.1 : Int32).toInt64))) + ((100 : Int64) * ((r21.1 : Int32).toInt64))) + ((7 : Int64) * ((r22.1 : Int32).toInt64)))]) F9 G h0 hkc_8 rfl (kX11_weight l g E F n r22.2 a0 z10 r23 h0 er23) qv_RL_80 ⟨rfl, rfl, (Nat.le_of_ble_eq_true rfl), (Nat.le_of_ble_eq_true rfl)⟩ rfl hl.1 rfl (Nat.le_of_ble_eq_true rfl) ⟨Nat.zero_le _, Nat.zero_le _⟩ dL_sum_176 (fun H locs G => ?_)
          refine lv_i2l (v := (r23.1 : Int32).toInt64) hx hb dL_sum_179 rfl ?_
          refine lv_ladd hx hb dL_sum_180 ?_
          obtain ⟨y24, ey24, hsp⟩ := hk_l hsp
          refine hk_topl ey24 ?_
          refine lv_lstore_n (lv' := [(1, .long y24), (0, .ref (g.1 + a0)), (3, .int z10)]) hx hb dL_sum_181 rfl hl (by decide) rfl (fun ls hl => ?_)
          obtain ⟨y25, ey25, hsp⟩ := hk_l hsp
          refine lv_iinc (v := y25) (lv' := [(3, .int y25), (1, .long y24), (0, .ref (g.1 + a0))]) hx hb dL_sum_182 hl (k := 2) rfl (by rw [← ey25]; rfl) (by decide) rfl (fun ls hl => ?_)
          refine lv_goto (tgt := 68) hx hb dL_sum_185 (by decide) ?_
          exact ih r23.2 y24 y25 _ _ _ hsp G (lv_sub hl [2, 1, 0] rfl)
        · have hsp := hk_f c17 hsp
          refine lv_ldc2 hx hb F9.2.2.2.1 (F9.2.2.2.2 _ qw_821) dL_sum_118 ?_
          refine lv_goto (tgt := 125) hx hb dL_sum_121 (by decide) ?_
          refine lv_ladd hx hb dL_sum_125 ?_
          obtain ⟨y26, ey26, hsp⟩ := hk_l hsp
          refine hk_topl ey26 ?_
          refine lv_lstore_n (lv' := [(1, .long y26), (0, .ref (g.1 + a0)), (3, .int z10)]) hx hb dL_sum_126 rfl hl (by decide) rfl (fun ls hl => ?_)
          refine lv_ldc2 hx hb F9.2.2.2.1 (F9.2.2.2.2 _ qw_814) dL_sum_127 ?_
          refine lv_lload_n hx hb dL_sum_130 rfl (lv_at hl 0 rfl) ?_
          refine lv_lmul hx hb dL_sum_131 ?_
          refine lv_aload_n hx hb dL_sum_132 rfl (lv_at hl 1 rfl) ?_
          refine lv_iload_n hx hb dL_sum_133 rfl (lv_at hl 2 rfl) ?_
          refine lv_iconst (v := 0) hx hb dL_sum_134 (by decide) ?_
          obtain ⟨r27, er27, hsp⟩ := hk_b hsp
          refine hk_callVi (As := [.int z10, .int 0]) (rest := [.long ((31 : Int64) * y26)]) F9 G h0 hkc_8 rfl (kX11_moisture l g E F n r16.2 a0 z10 0 r27 h0 er27) qv_RL_101 ⟨rfl, rfl, (Nat.le_of_ble_eq_true rfl), (Nat.le_of_ble_eq_true rfl)⟩ rfl hl.1 rfl (Nat.le_of_ble_eq_true rfl) ⟨Nat.zero_le _, Nat.zero_le _⟩ dL_sum_135 (fun H locs G => ?_)
          refine lv_i2l (v := (r27.1 : Int32).toInt64) hx hb dL_sum_138 rfl ?_
          refine lv_ladd hx hb dL_sum_139 ?_
          refine lv_ldc2 hx hb F9.2.2.2.1 (F9.2.2.2.2 _ qw_815) dL_sum_140 ?_
          refine lv_aload_n hx hb dL_sum_143 rfl (lv_at hl 1 rfl) ?_
          refine lv_iload_n hx hb dL_sum_144 rfl (lv_at hl 2 rfl) ?_
          refine lv_iconst (v := 1) hx hb dL_sum_145 (by decide) ?_
          obtain ⟨r28, er28, hsp⟩ := hk_b hsp
          refine hk_callVi (As := [.int z10, .int 1]) (rest := [.long (1000 : Int64), .long (((31 : Int64) * y26) + ((r27.1 : Int32).toInt64))]) F9 G h0 hkc_8 rfl (kX11_moisture l g E F n r27.2 a0 z10 1 r28 h0 er28) qv_RL_101 ⟨rfl, rfl, (Nat.le_of_ble_eq_true rfl), (Nat.le_of_ble_eq_true rfl)⟩ rfl hl.1 rfl (Nat.le_of_ble_eq_true rfl) ⟨Nat.zero_le _, Nat.zero_le _⟩ dL_sum_146 (fun H locs G => ?_)
          refine lv_i2l (v := (r28.1 : Int32).toInt64) hx hb dL_sum_149 rfl ?_
          refine lv_lmul hx hb dL_sum_150 ?_
          refine lv_ladd hx hb dL_sum_151 ?_
          refine lv_ldc2 hx hb F9.2.2.2.1 (F9.2.2.2.2 _ qw_822) dL_sum_152 ?_
          refine lv_aload_n hx hb dL_sum_155 rfl (lv_at hl 1 rfl) ?_
          refine lv_iload_n hx hb dL_sum_156 rfl (lv_at hl 2 rfl) ?_
          obtain ⟨r29, er29, hsp⟩ := hk_b hsp
          refine hk_callVi (As := [.int z10]) (rest := [.long (100 : Int64), .long ((((31 : Int64) * y26) + ((r27.1 : Int32).toInt64)) + ((1000 : Int64) * ((r28.1 : Int32).toInt64)))]) F9 G h0 hkc_8 rfl (kX11_warmth l g E F n r28.2 a0 z10 r29 h0 er29) qv_RL_107 ⟨rfl, rfl, (Nat.le_of_ble_eq_true rfl), (Nat.le_of_ble_eq_true rfl)⟩ rfl hl.1 rfl (Nat.le_of_ble_eq_true rfl) ⟨Nat.zero_le _, Nat.zero_le _⟩ dL_sum_157 (fun H locs G => ?_)
          refine lv_i2l (v := (r29.1 : Int32).toInt64) hx hb dL_sum_160 rfl ?_
          refine lv_lmul hx hb dL_sum_161 ?_
          refine lv_ladd hx hb dL_sum_162 ?_
          refine lv_ldc2 hx hb F9.2.2.2.1 (F9.2.2.2.2 _ qw_789) dL_sum_163 ?_
          refine lv_aload_n hx hb dL_sum_166 rfl (lv_at hl 1 rfl) ?_
          refine lv_iload_n hx hb dL_sum_167 rfl (lv_at hl 2 rfl) ?_
          obtain ⟨r30, er30, hsp⟩ := hk_b hsp
          refine hk_callVi (As := [.int z10]) (rest := [.long (7 : Int64), .long (((((31 : Int64) * y26) + ((r27.1 : Int32).toInt64)) + ((1000 : Int64) * ((r28.1 : Int32).toInt64))) + ((100 : Int64) * ((r29.1 : Int32).toInt64)))]) F9 G h0 hkc_8 rfl (kX11_damage l g E F n r29.2 a0 z10 r30 h0 er30) qv_RL_110 ⟨rfl, rfl, (Nat.le_of_ble_eq_true rfl), (Nat.le_of_ble_eq_true rfl)⟩ rfl hl.1 rfl (Nat.le_of_ble_eq_true rfl) ⟨Nat.zero_le _, Nat.zero_le _⟩ dL_sum_168 (fun H locs G => ?_)
          refine lv_i2l (v := (r30.1 : Int32).toInt64) hx hb dL_sum_171 rfl ?_
          refine lv_lmul hx hb dL_sum_172 ?_
          refine lv_ladd hx hb dL_sum_173 ?_
          refine lv_aload_n hx hb dL_sum_174 rfl (lv_at hl 1 rfl) ?_
          refine lv_iload_n hx hb dL_sum_175 rfl (lv_at hl 2 rfl) ?_
          obtain ⟨r31, er31, hsp⟩ := hk_b hsp
          refine hk_callVi (As := [.int z10]) (rest := [.long ((((((31 : Int64) * y26) + ((r27.1 : Int32).toInt64)) + ((1000 : Int64) * ((r28.1 : Int32).toInt64))) + ((100 : Int64) * ((r29.1 : Int32).toInt64))) + ((7 : Int64) * ((r30.1 : Int32).toInt64)))]) F9 G h0 hkc_8 rfl (kX11_weight l g E F n r30.2 a0 z10 r31 h0 er31) qv_RL_80 ⟨rfl, rfl, (Nat.le_of_ble_eq_true rfl), (Nat.le_of_ble_eq_true rfl)⟩ rfl hl.1 rfl (Nat.le_of_ble_eq_true rfl) ⟨Nat.zero_le _, Nat.zero_le _⟩ dL_sum_176 (fun H locs G => ?_)
          refine lv_i2l (v := (r31.1 : Int32).toInt64) hx hb dL_sum_179 rfl ?_
          refine lv_ladd hx hb dL_sum_180 ?_
          obtain ⟨y32, ey32, hsp⟩ := hk_l hsp
          refine hk_topl ey32 ?_
          refine lv_lstore_n (lv' := [(1, .long y32), (0, .ref (g.1 + a0)), (3, .int z10)]) hx hb dL_sum_181 rfl hl (by decide) rfl (fun ls hl => ?_)
          obtain ⟨y33, ey33, hsp⟩ := hk_l hsp
          refine lv_iinc (v := y33) (lv' := [(3, .int y33), (1, .long y32), (0, .ref (g.1 + a0))]) hx hb dL_sum_182 hl (k := 2) rfl (by rw [← ey33]; rfl) (by decide) rfl (fun ls hl => ?_)
          refine lv_goto (tgt := 68) hx hb dL_sum_185 (by decide) ?_
          exact ih r31.2 y32 y33 _ _ _ hsp G (lv_sub hl [2, 1, 0] rfl)
  have L_190 : ∀   (k : hk_S → Int64 → Int32 → Option (Int64 × hk_S)) (_ : ∀ (S : hk_S) (z37 : Int64) (z38 : Int32) (H : Heap) (locs : List Loc) (ls : Array Slot), k S z37 z38 = some o → hk_GG g E S n s H locs → lv_has ls 4 [(0, .ref (g.1 + a0)), (1, .long z37), (3, .int z38)] → W p l e (headSpec (hk_ws yL_sum cL_sum 4 (Option.some Jvm.ClassFile.FieldType.long)) ({ frames := 4, cells := 0, slots := 0, locals := 85 })).room s m [.ref (g.1 + a0)].toArray below meth c H locs 0 0 (MQ below (hk_Q g E o.2 n (some (.long o.1))) [.ref (g.1 + a0)].toArray s 0 0 (hk_A g)) (F0 m 239 ls [])) (f : Nat) (S : hk_S) (z37 : Int64) (z38 : Int32) (H : Heap) (locs : List Loc) (ls : Array Slot), mL_sum_190 E F a0 k f S z37 z38 = some o → hk_GG g E S n s H locs → lv_has ls 4 [(0, .ref (g.1 + a0)), (1, .long z37), (3, .int z38)] → W p l e (headSpec (hk_ws yL_sum cL_sum 4 (Option.some Jvm.ClassFile.FieldType.long)) ({ frames := 4, cells := 0, slots := 0, locals := 85 })).room s m [.ref (g.1 + a0)].toArray below meth c H locs 0 0 (MQ below (hk_Q g E o.2 n (some (.long o.1))) [.ref (g.1 + a0)].toArray s 0 0 (hk_A g)) (F0 m 190 ls []) := by
    intro   k hk f
    induction f with
    | zero =>
      intro S z37 z38 H locs ls hsp
      exact nomatch hsp
    | succ f ih =>
      intro S z37 z38 H locs ls hsp G hl
      rw [mL_sum_190] at hsp
      refine lv_iload_n hx hb dL_sum_190 rfl (lv_at hl 2 rfl) ?_
      refine lv_aload_n hx hb dL_sum_191 rfl (lv_at hl 0 rfl) ?_
      obtain ⟨r39, er39, hsp⟩ := hk_b hsp
      refine hk_callVi (As := []) (rest := [.int z38]) F9 G h0 hkc_8 rfl (kX11_probeCount l g E F n S a0 r39 h0 er39) qv_RL_13 ⟨rfl, rfl, (Nat.le_of_ble_eq_true rfl), (Nat.le_of_ble_eq_true rfl)⟩ rfl hl.1 rfl (Nat.le_of_ble_eq_true rfl) ⟨Nat.zero_le _, Nat.zero_le _⟩ dL_sum_192 (fun H locs G => ?_)
      refine lv_icmp_ge (tgt := 239) hx hb dL_sum_195 (by decide) (fun c40 => ?_) (fun c40 => ?_)
      · have hsp := hk_t c40 hsp
        exact hk r39.2 z37 z38 _ _ _ hsp G (lv_sub hl [0, 1, 2] rfl)
      · have hsp := hk_f c40 hsp
        refine lv_ldc2 hx hb F9.2.2.2.1 (F9.2.2.2.2 _ qw_814) dL_sum_198 ?_
        refine lv_lload_n hx hb dL_sum_201 rfl (lv_at hl 1 rfl) ?_
        refine lv_lmul hx hb dL_sum_202 ?_
        refine lv_aload_n hx hb dL_sum_203 rfl (lv_at hl 0 rfl) ?_
        refine lv_iload_n hx hb dL_sum_204 rfl (lv_at hl 2 rfl) ?_
        obtain ⟨r41, er41, hsp⟩ := hk_b hsp
        refine hk_callVi (As := [.int z38]) (rest := [.long ((31 : Int64) * z37)]) F9 G h0 hkc_8 rfl (kX11_probeTrough l g E F n r39.2 a0 z38 r41 h0 er41) qv_RL_161 ⟨rfl, rfl, (Nat.le_of_ble_eq_true rfl), (Nat.le_of_ble_eq_true rfl)⟩ rfl hl.1 rfl (Nat.le_of_ble_eq_true rfl) ⟨Nat.zero_le _, Nat.zero_le _⟩ dL_sum_205 (fun H locs G => ?_)
        refine lv_i2l (v := (r41.1 : Int32).toInt64) hx hb dL_sum_208 rfl ?_
        refine lv_ladd hx hb dL_sum_209 ?_
        refine lv_ldc2 hx hb F9.2.2.2.1 (F9.2.2.2.2 _ qw_816) dL_sum_210 ?_
        refine lv_aload_n hx hb dL_sum_213 rfl (lv_at hl 0 rfl) ?_
        refine lv_iload_n hx hb dL_sum_214 rfl (lv_at hl 2 rfl) ?_
        obtain ⟨r42, er42, hsp⟩ := hk_b hsp
        refine hk_callVi (As := [.int z38]) (rest := [.long (10 : Int64), .long (((31 : Int64) * z37) + ((r41.1 : Int32).toInt64))]) F9 G h0 hkc_8 rfl (kX11_probeLayer l g E F n r41.2 a0 z38 r42 h0 er42) qv_RL_164 ⟨rfl, rfl, (Nat.le_of_ble_eq_true rfl), (Nat.le_of_ble_eq_true rfl)⟩ rfl hl.1 rfl (Nat.le_of_ble_eq_true rfl) ⟨Nat.zero_le _, Nat.zero_le _⟩ dL_sum_215 (fun H locs G => ?_)
        refine lv_i2l (v := (r42.1 : Int32).toInt64) hx hb dL_sum_218 rfl ?_
        refine lv_lmul hx hb dL_sum_219 ?_
        refine lv_ladd hx hb dL_sum_220 ?_
        refine lv_ldc2 hx hb F9.2.2.2.1 (F9.2.2.2.2 _ qw_822) dL_sum_221 ?_
        refine lv_aload_n hx hb dL_sum_224 rfl (lv_at hl 0 rfl) ?_
        refine lv_iload_n hx hb dL_sum_225 rfl (lv_at hl 2 rfl) ?_
        obtain ⟨r43, er43, hsp⟩ := hk_b hsp
        refine hk_callVi (As := [.int z38]) (rest := [.long (100 : Int64), .long ((((31 : Int64) * z37) + ((r41.1 : Int32).toInt64)) + ((10 : Int64) * ((r42.1 : Int32).toInt64)))]) F9 G h0 hkc_8 rfl (kX11_reading l g E F n r42.2 a0 z38 r43 h0 er43) qv_RL_167 ⟨rfl, rfl, (Nat.le_of_ble_eq_true rfl), (Nat.le_of_ble_eq_true rfl)⟩ rfl hl.1 rfl (Nat.le_of_ble_eq_true rfl) ⟨Nat.zero_le _, Nat.zero_le _⟩ dL_sum_226 (fun H locs G => ?_)
        refine lv_i2l (v := (r43.1 : Int32).toInt64) hx hb dL_sum_229 rfl ?_
        refine lv_lmul hx hb dL_sum_230 ?_
        refine lv_ladd hx hb dL_sum_231 ?_
        obtain ⟨y44, ey44, hsp⟩ := hk_l hsp
        refine hk_topl ey44 ?_
        refine lv_lstore_n (lv' := [(1, .long y44), (0, .ref (g.1 + a0)), (3, .int z38)]) hx hb dL_sum_232 rfl hl (by decide) rfl (fun ls hl => ?_)
        obtain ⟨y45, ey45, hsp⟩ := hk_l hsp
        refine lv_iinc (v := y45) (lv' := [(3, .int y45), (1, .long y44), (0, .ref (g.1 + a0))]) hx hb dL_sum_233 hl (k := 2) rfl (by rw [← ey45]; rfl) (by decide) rfl (fun ls hl => ?_)
        refine lv_goto (tgt := 190) hx hb dL_sum_236 (by decide) ?_
        exact ih r43.2 y44 y45 _ _ _ hsp G (lv_sub hl [2, 1, 0] rfl)
  refine lv_aload_n hx hb dL_sum_0 rfl (lv_at hl 0 rfl) ?_
  obtain ⟨r1, er1, hsp⟩ := hk_b hsp
  refine hk_callVi (As := []) (rest := []) F9 G h0 hkc_8 rfl (kX11_hour l g E F n S a0 r1 h0 er1) qv_RL_59 ⟨rfl, rfl, (Nat.le_of_ble_eq_true rfl), (Nat.le_of_ble_eq_true rfl)⟩ rfl hl.1 rfl (Nat.le_of_ble_eq_true rfl) ⟨Nat.zero_le _, Nat.zero_le _⟩ dL_sum_1 (fun H locs G => ?_)
  refine lv_i2l (v := (r1.1 : Int32).toInt64) hx hb dL_sum_4 rfl ?_
  refine lv_ldc2 hx hb F9.2.2.2.1 (F9.2.2.2.2 _ qw_784) dL_sum_5 ?_
  refine lv_aload_n hx hb dL_sum_8 rfl (lv_at hl 0 rfl) ?_
  obtain ⟨r2, er2, hsp⟩ := hk_b hsp
  refine hk_callVi (As := []) (rest := [.long (3000 : Int64), .long ((r1.1 : Int32).toInt64)]) F9 G h0 hkc_8 rfl (kX11_dryness l g E F n r1.2 a0 r2 h0 er2) qv_RL_129 ⟨rfl, rfl, (Nat.le_of_ble_eq_true rfl), (Nat.le_of_ble_eq_true rfl)⟩ rfl hl.1 rfl (Nat.le_of_ble_eq_true rfl) ⟨Nat.zero_le _, Nat.zero_le _⟩ dL_sum_9 (fun H locs G => ?_)
  refine lv_i2l (v := (r2.1 : Int32).toInt64) hx hb dL_sum_12 rfl ?_
  refine lv_lmul hx hb dL_sum_13 ?_
  refine lv_ladd hx hb dL_sum_14 ?_
  refine lv_ldc2 hx hb F9.2.2.2.1 (F9.2.2.2.2 _ qw_789) dL_sum_15 ?_
  refine lv_aload_n hx hb dL_sum_18 rfl (lv_at hl 0 rfl) ?_
  obtain ⟨r3, er3, hsp⟩ := hk_b hsp
  refine hk_callVi (As := []) (rest := [.long (7 : Int64), .long (((r1.1 : Int32).toInt64) + ((3000 : Int64) * ((r2.1 : Int32).toInt64)))]) F9 G h0 hkc_8 rfl (kX11_lostWater l g E F n r2.2 a0 r3 h0 er3) qv_RL_95 ⟨rfl, rfl, (Nat.le_of_ble_eq_true rfl), (Nat.le_of_ble_eq_true rfl)⟩ rfl hl.1 rfl (Nat.le_of_ble_eq_true rfl) ⟨Nat.zero_le _, Nat.zero_le _⟩ dL_sum_19 (fun H locs G => ?_)
  refine lv_i2l (v := (r3.1 : Int32).toInt64) hx hb dL_sum_22 rfl ?_
  refine lv_lmul hx hb dL_sum_23 ?_
  refine lv_ladd hx hb dL_sum_24 ?_
  refine lv_ldc2 hx hb F9.2.2.2.1 (F9.2.2.2.2 _ qw_790) dL_sum_25 ?_
  refine lv_aload_n hx hb dL_sum_28 rfl (lv_at hl 0 rfl) ?_
  obtain ⟨r4, er4, hsp⟩ := hk_b hsp
  refine hk_callVi (As := []) (rest := [.long (11 : Int64), .long ((((r1.1 : Int32).toInt64) + ((3000 : Int64) * ((r2.1 : Int32).toInt64))) + ((7 : Int64) * ((r3.1 : Int32).toInt64)))]) F9 G h0 hkc_8 rfl (kX11_totalWorth l g E F n r3.2 a0 r4 h0 er4) qv_RL_136 ⟨rfl, rfl, (Nat.le_of_ble_eq_true rfl), (Nat.le_of_ble_eq_true rfl)⟩ rfl hl.1 rfl (Nat.le_of_ble_eq_true rfl) ⟨Nat.zero_le _, Nat.zero_le _⟩ dL_sum_29 (fun H locs G => ?_)
  refine lv_i2l (v := (r4.1 : Int32).toInt64) hx hb dL_sum_32 rfl ?_
  refine lv_lmul hx hb dL_sum_33 ?_
  refine lv_ladd hx hb dL_sum_34 ?_
  refine lv_ldc2 hx hb F9.2.2.2.1 (F9.2.2.2.2 _ qw_795) dL_sum_35 ?_
  refine lv_aload_n hx hb dL_sum_38 rfl (lv_at hl 0 rfl) ?_
  obtain ⟨r5, er5, hsp⟩ := hk_b hsp
  refine hk_callVi (As := []) (rest := [.long (13 : Int64), .long (((((r1.1 : Int32).toInt64) + ((3000 : Int64) * ((r2.1 : Int32).toInt64))) + ((7 : Int64) * ((r3.1 : Int32).toInt64))) + ((11 : Int64) * ((r4.1 : Int32).toInt64)))]) F9 G h0 hkc_8 rfl (kX11_dischargedKilograms l g E F n r4.2 a0 r5 h0 er5) qv_RL_83 ⟨rfl, rfl, (Nat.le_of_ble_eq_true rfl), (Nat.le_of_ble_eq_true rfl)⟩ rfl hl.1 rfl (Nat.le_of_ble_eq_true rfl) ⟨Nat.zero_le _, Nat.zero_le _⟩ dL_sum_39 (fun H locs G => ?_)
  refine lv_i2l (v := (r5.1 : Int32).toInt64) hx hb dL_sum_42 rfl ?_
  refine lv_lmul hx hb dL_sum_43 ?_
  refine lv_ladd hx hb dL_sum_44 ?_
  refine lv_ldc2 hx hb F9.2.2.2.1 (F9.2.2.2.2 _ qw_800) dL_sum_45 ?_
  refine lv_aload_n hx hb dL_sum_48 rfl (lv_at hl 0 rfl) ?_
  obtain ⟨r6, er6, hsp⟩ := hk_b hsp
  refine hk_callVi (As := []) (rest := [.long (17 : Int64), .long ((((((r1.1 : Int32).toInt64) + ((3000 : Int64) * ((r2.1 : Int32).toInt64))) + ((7 : Int64) * ((r3.1 : Int32).toInt64))) + ((11 : Int64) * ((r4.1 : Int32).toInt64))) + ((13 : Int64) * ((r5.1 : Int32).toInt64)))]) F9 G h0 hkc_8 rfl (kX11_discardedKilograms l g E F n r5.2 a0 r6 h0 er6) qv_RL_86 ⟨rfl, rfl, (Nat.le_of_ble_eq_true rfl), (Nat.le_of_ble_eq_true rfl)⟩ rfl hl.1 rfl (Nat.le_of_ble_eq_true rfl) ⟨Nat.zero_le _, Nat.zero_le _⟩ dL_sum_49 (fun H locs G => ?_)
  refine lv_i2l (v := (r6.1 : Int32).toInt64) hx hb dL_sum_52 rfl ?_
  refine lv_lmul hx hb dL_sum_53 ?_
  refine lv_ladd hx hb dL_sum_54 ?_
  refine lv_ldc2 hx hb F9.2.2.2.1 (F9.2.2.2.2 _ qw_805) dL_sum_55 ?_
  refine lv_aload_n hx hb dL_sum_58 rfl (lv_at hl 0 rfl) ?_
  obtain ⟨r7, er7, hsp⟩ := hk_b hsp
  refine hk_callVi (As := []) (rest := [.long (19 : Int64), .long (((((((r1.1 : Int32).toInt64) + ((3000 : Int64) * ((r2.1 : Int32).toInt64))) + ((7 : Int64) * ((r3.1 : Int32).toInt64))) + ((11 : Int64) * ((r4.1 : Int32).toInt64))) + ((13 : Int64) * ((r5.1 : Int32).toInt64))) + ((17 : Int64) * ((r6.1 : Int32).toInt64)))]) F9 G h0 hkc_8 rfl (kX11_hoursToMonsoon l g E F n r6.2 a0 r7 h0 er7) qv_RL_145 ⟨rfl, rfl, (Nat.le_of_ble_eq_true rfl), (Nat.le_of_ble_eq_true rfl)⟩ rfl hl.1 rfl (Nat.le_of_ble_eq_true rfl) ⟨Nat.zero_le _, Nat.zero_le _⟩ dL_sum_59 (fun H locs G => ?_)
  refine lv_i2l (v := (r7.1 : Int32).toInt64) hx hb dL_sum_62 rfl ?_
  refine lv_lmul hx hb dL_sum_63 ?_
  refine lv_ladd hx hb dL_sum_64 ?_
  obtain ⟨y8, ey8, hsp⟩ := hk_l hsp
  refine hk_topl ey8 ?_
  refine lv_lstore_n (lv' := [(1, .long y8), (0, .ref (g.1 + a0))]) hx hb dL_sum_65 rfl hl (by decide) rfl (fun ls hl => ?_)
  refine lv_iconst (v := 0) hx hb dL_sum_66 (by decide) ?_
  refine lv_istore_n (lv' := [(3, .int 0), (1, .long y8), (0, .ref (g.1 + a0))]) hx hb dL_sum_67 rfl hl (by decide) rfl (fun ls hl => ?_)
  refine L_68   _ ?_ F r7.2 y8 0 _ _ _ hsp G (lv_sub hl [2, 1, 0] rfl)
  intro S34 z35 z36 H locs ls hsp G hl
  refine lv_iconst (v := 0) hx hb dL_sum_188 (by decide) ?_
  refine lv_istore_n (lv' := [(3, .int 0), (0, .ref (g.1 + a0)), (1, .long z35)]) hx hb dL_sum_189 rfl hl (by decide) rfl (fun ls hl => ?_)
  refine L_190   _ ?_ F S34 z35 0 _ _ _ hsp G (lv_sub hl [1, 2, 0] rfl)
  intro S46 z47 z48 H locs ls hsp G hl
  refine lv_ldc2 hx hb F9.2.2.2.1 (F9.2.2.2.2 _ qw_814) dL_sum_239 ?_
  refine lv_lload_n hx hb dL_sum_242 rfl (lv_at hl 1 rfl) ?_
  refine lv_lmul hx hb dL_sum_243 ?_
  refine lv_aload_n hx hb dL_sum_244 rfl (lv_at hl 0 rfl) ?_
  obtain ⟨r49, er49, hsp⟩ := hk_b hsp
  refine hk_callVi (As := []) (rest := [.long ((31 : Int64) * z47)]) F9 G h0 hkc_8 rfl (kX11_readyTroughs l g E F n S46 a0 r49 h0 er49) qv_RL_124 ⟨rfl, rfl, (Nat.le_of_ble_eq_true rfl), (Nat.le_of_ble_eq_true rfl)⟩ rfl hl.1 rfl (Nat.le_of_ble_eq_true rfl) ⟨Nat.zero_le _, Nat.zero_le _⟩ dL_sum_245 (fun H locs G => ?_)
  refine lv_i2l (v := (r49.1 : Int32).toInt64) hx hb dL_sum_248 rfl ?_
  refine lv_ladd hx hb dL_sum_249 ?_
  obtain rfl := hk_s hsp
  exact W.lret (v := (((31 : Int64) * z47) + ((r49.1 : Int32).toInt64))) hx hb hr (fun t ht hW => hk_end G ht hW) G.2.1.2.2 dL_sum_250
def mL_deed (E : hk_E) (F : Nat) (S : hk_S) (a0 : Nat) (x1 : Int32) : Option (hk_S) :=
(mX11_troughCount E F S a0).bind (fun r1 => if ¬ r1.1 = 0 then (hk_let (((((x1 : Int32).toUInt32 >>> ((4 : Int32).toUInt32 &&& Int32.toUInt32 31)).toInt32) &&& 15) - ((((x1 : Int32).toUInt32 >>> ((4 : Int32).toUInt32 &&& Int32.toUInt32 31)).toInt32) &&& 15) / r1.1 * r1.1) (fun y3 => hk_let ((((x1 : Int32).toUInt32 >>> ((8 : Int32).toUInt32 &&& Int32.toUInt32 31)).toInt32) &&& 1023) (fun y4 => hk_let ((((x1 : Int32).toUInt32 >>> ((18 : Int32).toUInt32 &&& Int32.toUInt32 31)).toInt32) &&& 63) (fun y5 => (mX11_probeCount E F r1.2 a0).bind (fun r6 => if ¬ r6.1 = 0 then (hk_let (y4 - y4 / r6.1 * r6.1) (fun y8 => if (x1 &&& 15) = 0 then ((mX11_kilograms E F r6.2 a0 y3).bind (fun r10 => if ¬ r10.1 = 0 then ((mX11_setFan E F r10.2 a0 y3 (y4 - y4 / 6 * 6)).bind (fun r12 => some (r12.2))) else ((mX11_capacity E F r10.2 a0 y3).bind (fun r13 => if ¬ r13.1 = 0 then ((mX11_load E F r13.2 a0 y3 (1 + (y4 - y4 / r13.1 * r13.1)) (600 + (y5 * 4))).bind (fun r15 => some (r15.2))) else none)))) else (if (x1 &&& 15) = 1 then ((mX11_kilograms E F r6.2 a0 y3).bind (fun r17 => if ¬ r17.1 = 0 then ((mX11_setFan E F r17.2 a0 y3 (y4 - y4 / 6 * 6)).bind (fun r19 => some (r19.2))) else ((mX11_capacity E F r17.2 a0 y3).bind (fun r20 => if ¬ r20.1 = 0 then ((mX11_load E F r20.2 a0 y3 (1 + (y4 - y4 / r20.1 * r20.1)) (600 + (y5 * 4))).bind (fun r22 => some (r22.2))) else none)))) else (if (x1 &&& 15) = 2 then ((mX11_setFan E F r6.2 a0 y3 (y4 - y4 / 6 * 6)).bind (fun r24 => some (r24.2))) else (if (x1 &&& 15) = 3 then ((mX11_setFan E F r6.2 a0 y3 (y4 - y4 / 6 * 6)).bind (fun r26 => some (r26.2))) else (if (x1 &&& 15) = 4 then ((mX11_reverse E F r6.2 a0 y3).bind (fun r28 => some (r28.2))) else (if (x1 &&& 15) = 5 then ((mX11_setHeat E F r6.2 a0 (y4 - y4 / 6 * 6)).bind (fun r30 => some (r30.2))) else (if (x1 &&& 15) = 6 then ((mX11_setHumidity E F r6.2 a0 (20 + (y4 - y4 / 76 * 76))).bind (fun r32 => some (r32.2))) else (if (x1 &&& 15) = 7 then ((mX11_kilograms E F r6.2 a0 y3).bind (fun r34 => if r34.1 ≤ 0 then (some (r34.2)) else ((mX11_speed E F r34.2 a0 y3).bind (fun r36 => if ¬ r36.1 = 0 then (some (r36.2)) else ((mX11_turnLeaf E F r36.2 a0 y3).bind (fun r38 => some (r38.2))))))) else (if (x1 &&& 15) = 8 then ((mX11_setTarget E F r6.2 a0 (500 + (y4 - y4 / 201 * 201)) (5 + (y5 - y5 / 46 * 46))).bind (fun r40 => some (r40.2))) else (if (x1 &&& 15) = 9 then ((mX11_kilograms E F r6.2 a0 y3).bind (fun r42 => if r42.1 ≤ 0 then (some (r42.2)) else ((mX11_turnLeaf E F r42.2 a0 y3).bind (fun r44 => some (r44.2))))) else (if (x1 &&& 15) = 10 then ((mX11_whyNoDischarge E F r6.2 a0 y3).bind (fun r46 => if ¬ r46.1 = 0 then ((mX11_hoursToReady E F r46.2 a0 y3).bind (fun r48 => if r48.1 ≤ 0 then (some (r48.2)) else ((mX11_hour E F r48.2 a0).bind (fun r50 => (mX11_hoursToReady E F r50.2 a0 y3).bind (fun r51 => if 2000 < (r50.1 + r51.1) then (some (r51.2)) else ((mX11_hoursToReady E F r51.2 a0 y3).bind (fun r53 => (mX11_passHours E F r53.2 a0 r53.1).bind (fun r54 => some (r54.2))))))))) else ((mX11_discharge E F r46.2 a0 y3).bind (fun r55 => some (r55.2))))) else (if (x1 &&& 15) = 11 then ((mX11_kilograms E F r6.2 a0 y3).bind (fun r57 => if r57.1 ≤ 0 then (some (r57.2)) else (if ¬ (y4 &&& 3) = 0 then (some (r57.2)) else ((mX11_discard E F r57.2 a0 y3).bind (fun r60 => some (r60.2)))))) else (if (x1 &&& 15) = 12 then ((mX11_troughCount E F r6.2 a0).bind (fun r62 => if 8 ≤ r62.1 then (some (r62.2)) else ((mX11_addTrough E F r62.2 a0 (10 + (y4 - y4 / 491 * 491))).bind (fun r64 => some (r64.2))))) else (if (x1 &&& 15) = 13 then ((mX11_probeCount E F r6.2 a0).bind (fun r66 => if 6 ≤ r66.1 then ((mX11_moveProbe E F r66.2 a0 y8 y3 (y4 &&& 1)).bind (fun r68 => some (r68.2))) else ((mX11_addProbe E F r66.2 a0 y3 (y4 &&& 1) (y5 - 31)).bind (fun r69 => some (r69.2))))) else (if (x1 &&& 15) = 14 then ((mX11_calibrate E F r6.2 a0 y8).bind (fun r71 => some (r71.2))) else ((mX11_hour E F r6.2 a0).bind (fun r72 => if 2000 < ((r72.1 + 1) + (y4 - y4 / 30 * 30)) then (some (r72.2)) else ((mX11_passHours E F r72.2 a0 (1 + (y4 - y4 / 30 * 30))).bind (fun r74 => some (r74.2))))))))))))))))))))) else none))))) else none)
set_option maxHeartbeats 4000000 in
set_option maxRecDepth 100000 in
theorem kL_deed (l : Launch) (g : hk_G) (E : hk_E) (F n : Nat) (S : hk_S) (a0 : Nat) (x1 : Int32) (o : hk_S) (h0 : E.2.1 a0 = 9) (hsp : mL_deed E F S a0 x1 = some o) : Met l yL_deed (hk_ws yL_deed cL_deed 6 (Option.none : Option Jvm.ClassFile.FieldType)) ({ frames := 5, cells := 0, slots := 0, locals := 110 }) (hk_Pc g E S n [.ref (g.1 + a0), .int x1]) (hk_Q g E o n none) 0 0 (hk_A g) := by
  refine Met.ofW (cc := cL_deed) (maxL := 6) (ret := (Option.none : Option Jvm.ClassFile.FieldType)) (by decide) rfl ?_
  intro p e s m args below meth c s₁ B hml hv
  obtain ⟨rfl, G⟩ := hk_begin hv
  have F9 : CallFix p m c cL_deed 6 s [.ref (g.1 + a0), .int x1].toArray hk_W RL := ⟨B.exec, B.bytes, hml, findClass_of_methodNamed B.named, fun w h => atoms_spec (ws := hk_ws yL_deed cL_deed 6 (Option.none : Option Jvm.ClassFile.FieldType)) B.pre w (hk_in h)⟩
  have hx := B.exec
  have hb := B.bytes
  have hr := B.returns
  have hlocks := B.notSynchronized
  have hl := lv_entry ([.ref (g.1 + a0), .int x1]) (n := 6) (Nat.le_of_ble_eq_true rfl)
  rw [lg_entry_eq]
  generalize (lg_sl ([.ref (g.1 + a0), .int x1]) ++ List.replicate (6 - (lg_sl ([.ref (g.1 + a0), .int x1])).length) Slot.unset).toArray = ls at hl ⊢
  have hl : lv_has ls 6 [(0, .ref (g.1 + a0)), (1, .int x1)] := hl
  unfold mL_deed at hsp
  have G : hk_GG g E S n s s.heap [] := G
  refine lv_iload_n hx hb dL_deed_0 rfl (lv_at hl 1 rfl) ?_
  refine lv_iconst (v := 4) hx hb dL_deed_1 (by decide) ?_
  refine lv_iushr hx hb dL_deed_2 rfl ?_
  refine lv_bipush (v := 15) hx hb dL_deed_3 (by decide) ?_
  refine lv_iand hx hb dL_deed_5 ?_
  refine lv_aload_n hx hb dL_deed_6 rfl (lv_at hl 0 rfl) ?_
  obtain ⟨r1, er1, hsp⟩ := hk_b hsp
  refine hk_callVi (As := []) (rest := [.int ((((x1 : Int32).toUInt32 >>> ((4 : Int32).toUInt32 &&& Int32.toUInt32 31)).toInt32) &&& 15)]) F9 G h0 hkc_8 rfl (kX11_troughCount l g E F n S a0 r1 h0 er1) qv_RL_7 ⟨rfl, rfl, (Nat.le_of_ble_eq_true rfl), (Nat.le_of_ble_eq_true rfl)⟩ rfl hl.1 rfl (Nat.le_of_ble_eq_true rfl) ⟨Nat.zero_le _, Nat.zero_le _⟩ dL_deed_7 (fun H locs G => ?_)
  obtain ⟨q2, hsp⟩ := hk_k hsp
  refine lv_irem hx hb dL_deed_10 q2 ?_
  obtain ⟨y3, ey3, hsp⟩ := hk_l hsp
  refine hk_top ey3 ?_
  refine lv_istore_n (lv' := [(2, .int y3), (0, .ref (g.1 + a0)), (1, .int x1)]) hx hb dL_deed_11 rfl hl (by decide) rfl (fun ls hl => ?_)
  refine lv_iload_n hx hb dL_deed_12 rfl (lv_at hl 2 rfl) ?_
  refine lv_bipush (v := 8) hx hb dL_deed_13 (by decide) ?_
  refine lv_iushr hx hb dL_deed_15 rfl ?_
  refine lv_sipush (v := 1023) hx hb dL_deed_16 (by decide) ?_
  refine lv_iand hx hb dL_deed_19 ?_
  obtain ⟨y4, ey4, hsp⟩ := hk_l hsp
  refine hk_top ey4 ?_
  refine lv_istore_n (lv' := [(3, .int y4), (2, .int y3), (0, .ref (g.1 + a0)), (1, .int x1)]) hx hb dL_deed_20 rfl hl (by decide) rfl (fun ls hl => ?_)
  refine lv_iload_n hx hb dL_deed_21 rfl (lv_at hl 3 rfl) ?_
  refine lv_bipush (v := 18) hx hb dL_deed_22 (by decide) ?_
  refine lv_iushr hx hb dL_deed_24 rfl ?_
  refine lv_bipush (v := 63) hx hb dL_deed_25 (by decide) ?_
  refine lv_iand hx hb dL_deed_27 ?_
  obtain ⟨y5, ey5, hsp⟩ := hk_l hsp
  refine hk_top ey5 ?_
  refine lv_istore (lv' := [(4, .int y5), (3, .int y4), (2, .int y3), (0, .ref (g.1 + a0)), (1, .int x1)]) hx hb dL_deed_28  hl (by decide) rfl (fun ls hl => ?_)
  refine lv_iload_n hx hb dL_deed_30 rfl (lv_at hl 1 rfl) ?_
  refine lv_aload_n hx hb dL_deed_31 rfl (lv_at hl 3 rfl) ?_
  obtain ⟨r6, er6, hsp⟩ := hk_b hsp
  refine hk_callVi (As := []) (rest := [.int y4]) F9 G h0 hkc_8 rfl (kX11_probeCount l g E F n r1.2 a0 r6 h0 er6) qv_RL_13 ⟨rfl, rfl, (Nat.le_of_ble_eq_true rfl), (Nat.le_of_ble_eq_true rfl)⟩ rfl hl.1 rfl (Nat.le_of_ble_eq_true rfl) ⟨Nat.zero_le _, Nat.zero_le _⟩ dL_deed_32 (fun H locs G => ?_)
  obtain ⟨q7, hsp⟩ := hk_k hsp
  refine lv_irem hx hb dL_deed_35 q7 ?_
  obtain ⟨y8, ey8, hsp⟩ := hk_l hsp
  refine hk_top ey8 ?_
  refine lv_istore (lv' := [(5, .int y8), (4, .int y5), (3, .int y4), (2, .int y3), (0, .ref (g.1 + a0)), (1, .int x1)]) hx hb dL_deed_36  hl (by decide) rfl (fun ls hl => ?_)
  refine lv_iload_n hx hb dL_deed_38 rfl (lv_at hl 5 rfl) ?_
  refine lv_bipush (v := 15) hx hb dL_deed_39 (by decide) ?_
  refine lv_iand hx hb dL_deed_41 ?_
  rcases Classical.em ((x1 &&& 15) = 0) with w9 | w9
  · have hsp := hk_t w9 hsp
    refine lv_tableIn (off := 74) (tgt := 116) hx hb dL_deed_42 (by rw [w9]; decide) (by rw [w9]; decide) (by rw [w9]; rfl) (by decide) ?_
    refine lv_aload_n hx hb dL_deed_116 rfl (lv_at hl 4 rfl) ?_
    refine lv_iload_n hx hb dL_deed_117 rfl (lv_at hl 3 rfl) ?_
    obtain ⟨r10, er10, hsp⟩ := hk_b hsp
    refine hk_callVi (As := [.int y3]) (rest := []) F9 G h0 hkc_8 rfl (kX11_kilograms l g E F n r6.2 a0 y3 r10 h0 er10) qv_RL_16 ⟨rfl, rfl, (Nat.le_of_ble_eq_true rfl), (Nat.le_of_ble_eq_true rfl)⟩ rfl hl.1 rfl (Nat.le_of_ble_eq_true rfl) ⟨Nat.zero_le _, Nat.zero_le _⟩ dL_deed_118 (fun H locs G => ?_)
    refine lv_if_ne (tgt := 150) hx hb dL_deed_121 (by decide) (fun c11 => ?_) (fun c11 => ?_)
    · have hsp := hk_t c11 hsp
      refine lv_aload_n hx hb dL_deed_150 rfl (lv_at hl 4 rfl) ?_
      refine lv_iload_n hx hb dL_deed_151 rfl (lv_at hl 3 rfl) ?_
      refine lv_iload_n hx hb dL_deed_152 rfl (lv_at hl 2 rfl) ?_
      refine lv_bipush (v := 6) hx hb dL_deed_153 (by decide) ?_
      refine lv_irem hx hb dL_deed_155 (by decide) ?_
      obtain ⟨r12, er12, hsp⟩ := hk_b hsp
      refine hk_callVi (As := [.int y3, .int (y4 - y4 / 6 * 6)]) (rest := []) F9 G h0 hkc_8 rfl (kX11_setFan l g E F n r10.2 a0 y3 (y4 - y4 / 6 * 6) r12 h0 er12) qv_RL_27 ⟨rfl, rfl, (Nat.le_of_ble_eq_true rfl), (Nat.le_of_ble_eq_true rfl)⟩ rfl hl.1 rfl (Nat.le_of_ble_eq_true rfl) ⟨Nat.zero_le _, Nat.zero_le _⟩ dL_deed_156 (fun H locs G => ?_)
      refine lv_pop hx hb dL_deed_159 rfl ?_
      refine lv_goto (tgt := 458) hx hb dL_deed_160 (by decide) ?_
      obtain rfl := hk_s hsp
      exact W.vret hx hb hr (fun t ht hW => hk_end G ht hW) G.2.1.2.2 dL_deed_458
    · have hsp := hk_g c11 hsp
      refine lv_aload_n hx hb dL_deed_124 rfl (lv_at hl 4 rfl) ?_
      refine lv_iload_n hx hb dL_deed_125 rfl (lv_at hl 3 rfl) ?_
      refine lv_iconst (v := 1) hx hb dL_deed_126 (by decide) ?_
      refine lv_iload_n hx hb dL_deed_127 rfl (lv_at hl 2 rfl) ?_
      refine lv_aload_n hx hb dL_deed_128 rfl (lv_at hl 4 rfl) ?_
      refine lv_iload_n hx hb dL_deed_129 rfl (lv_at hl 3 rfl) ?_
      obtain ⟨r13, er13, hsp⟩ := hk_b hsp
      refine hk_callVi (As := [.int y3]) (rest := [.int y4, .int 1, .int y3, .ref (g.1 + a0)]) F9 G h0 hkc_8 rfl (kX11_capacity l g E F n r10.2 a0 y3 r13 h0 er13) qv_RL_20 ⟨rfl, rfl, (Nat.le_of_ble_eq_true rfl), (Nat.le_of_ble_eq_true rfl)⟩ rfl hl.1 rfl (Nat.le_of_ble_eq_true rfl) ⟨Nat.zero_le _, Nat.zero_le _⟩ dL_deed_130 (fun H locs G => ?_)
      obtain ⟨q14, hsp⟩ := hk_k hsp
      refine lv_irem hx hb dL_deed_133 q14 ?_
      refine lv_iadd hx hb dL_deed_134 ?_
      refine lv_sipush (v := 600) hx hb dL_deed_135 (by decide) ?_
      refine lv_iload hx hb dL_deed_138 (lv_at hl 1 rfl) ?_
      refine lv_iconst (v := 4) hx hb dL_deed_140 (by decide) ?_
      refine lv_imul hx hb dL_deed_141 ?_
      refine lv_iadd hx hb dL_deed_142 ?_
      obtain ⟨r15, er15, hsp⟩ := hk_b hsp
      refine hk_callVi (As := [.int y3, .int (1 + (y4 - y4 / r13.1 * r13.1)), .int (600 + (y5 * 4))]) (rest := []) F9 G h0 hkc_8 rfl (kX11_load l g E F n r13.2 a0 y3 (1 + (y4 - y4 / r13.1 * r13.1)) (600 + (y5 * 4)) r15 h0 er15) qv_RL_23 ⟨rfl, rfl, (Nat.le_of_ble_eq_true rfl), (Nat.le_of_ble_eq_true rfl)⟩ rfl hl.1 rfl (Nat.le_of_ble_eq_true rfl) ⟨Nat.zero_le _, Nat.zero_le _⟩ dL_deed_143 (fun H locs G => ?_)
      refine lv_pop hx hb dL_deed_146 rfl ?_
      refine lv_goto (tgt := 458) hx hb dL_deed_147 (by decide) ?_
      obtain rfl := hk_s hsp
      exact W.vret hx hb hr (fun t ht hW => hk_end G ht hW) G.2.1.2.2 dL_deed_458
  have hsp := hk_f w9 hsp
  rcases Classical.em ((x1 &&& 15) = 1) with w16 | w16
  · have hsp := hk_t w16 hsp
    refine lv_tableIn (off := 74) (tgt := 116) hx hb dL_deed_42 (by rw [w16]; decide) (by rw [w16]; decide) (by rw [w16]; rfl) (by decide) ?_
    refine lv_aload_n hx hb dL_deed_116 rfl (lv_at hl 4 rfl) ?_
    refine lv_iload_n hx hb dL_deed_117 rfl (lv_at hl 3 rfl) ?_
    obtain ⟨r17, er17, hsp⟩ := hk_b hsp
    refine hk_callVi (As := [.int y3]) (rest := []) F9 G h0 hkc_8 rfl (kX11_kilograms l g E F n r6.2 a0 y3 r17 h0 er17) qv_RL_16 ⟨rfl, rfl, (Nat.le_of_ble_eq_true rfl), (Nat.le_of_ble_eq_true rfl)⟩ rfl hl.1 rfl (Nat.le_of_ble_eq_true rfl) ⟨Nat.zero_le _, Nat.zero_le _⟩ dL_deed_118 (fun H locs G => ?_)
    refine lv_if_ne (tgt := 150) hx hb dL_deed_121 (by decide) (fun c18 => ?_) (fun c18 => ?_)
    · have hsp := hk_t c18 hsp
      refine lv_aload_n hx hb dL_deed_150 rfl (lv_at hl 4 rfl) ?_
      refine lv_iload_n hx hb dL_deed_151 rfl (lv_at hl 3 rfl) ?_
      refine lv_iload_n hx hb dL_deed_152 rfl (lv_at hl 2 rfl) ?_
      refine lv_bipush (v := 6) hx hb dL_deed_153 (by decide) ?_
      refine lv_irem hx hb dL_deed_155 (by decide) ?_
      obtain ⟨r19, er19, hsp⟩ := hk_b hsp
      refine hk_callVi (As := [.int y3, .int (y4 - y4 / 6 * 6)]) (rest := []) F9 G h0 hkc_8 rfl (kX11_setFan l g E F n r17.2 a0 y3 (y4 - y4 / 6 * 6) r19 h0 er19) qv_RL_27 ⟨rfl, rfl, (Nat.le_of_ble_eq_true rfl), (Nat.le_of_ble_eq_true rfl)⟩ rfl hl.1 rfl (Nat.le_of_ble_eq_true rfl) ⟨Nat.zero_le _, Nat.zero_le _⟩ dL_deed_156 (fun H locs G => ?_)
      refine lv_pop hx hb dL_deed_159 rfl ?_
      refine lv_goto (tgt := 458) hx hb dL_deed_160 (by decide) ?_
      obtain rfl := hk_s hsp
      exact W.vret hx hb hr (fun t ht hW => hk_end G ht hW) G.2.1.2.2 dL_deed_458
    · have hsp := hk_g c18 hsp
      refine lv_aload_n hx hb dL_deed_124 rfl (lv_at hl 4 rfl) ?_
      refine lv_iload_n hx hb dL_deed_125 rfl (lv_at hl 3 rfl) ?_
      refine lv_iconst (v := 1) hx hb dL_deed_126 (by decide) ?_
      refine lv_iload_n hx hb dL_deed_127 rfl (lv_at hl 2 rfl) ?_
      refine lv_aload_n hx hb dL_deed_128 rfl (lv_at hl 4 rfl) ?_
      refine lv_iload_n hx hb dL_deed_129 rfl (lv_at hl 3 rfl) ?_
      obtain ⟨r20, er20, hsp⟩ := hk_b hsp
      refine hk_callVi (As := [.int y3]) (rest := [.int y4, .int 1, .int y3, .ref (g.1 + a0)]) F9 G h0 hkc_8 rfl (kX11_capacity l g E F n r17.2 a0 y3 r20 h0 er20) qv_RL_20 ⟨rfl, rfl, (Nat.le_of_ble_eq_true rfl), (Nat.le_of_ble_eq_true rfl)⟩ rfl hl.1 rfl (Nat.le_of_ble_eq_true rfl) ⟨Nat.zero_le _, Nat.zero_le _⟩ dL_deed_130 (fun H locs G => ?_)
      obtain ⟨q21, hsp⟩ := hk_k hsp
      refine lv_irem hx hb dL_deed_133 q21 ?_
      refine lv_iadd hx hb dL_deed_134 ?_
      refine lv_sipush (v := 600) hx hb dL_deed_135 (by decide) ?_
      refine lv_iload hx hb dL_deed_138 (lv_at hl 1 rfl) ?_
      refine lv_iconst (v := 4) hx hb dL_deed_140 (by decide) ?_
      refine lv_imul hx hb dL_deed_141 ?_
      refine lv_iadd hx hb dL_deed_142 ?_
      obtain ⟨r22, er22, hsp⟩ := hk_b hsp
      refine hk_callVi (As := [.int y3, .int (1 + (y4 - y4 / r20.1 * r20.1)), .int (600 + (y5 * 4))]) (rest := []) F9 G h0 hkc_8 rfl (kX11_load l g E F n r20.2 a0 y3 (1 + (y4 - y4 / r20.1 * r20.1)) (600 + (y5 * 4)) r22 h0 er22) qv_RL_23 ⟨rfl, rfl, (Nat.le_of_ble_eq_true rfl), (Nat.le_of_ble_eq_true rfl)⟩ rfl hl.1 rfl (Nat.le_of_ble_eq_true rfl) ⟨Nat.zero_le _, Nat.zero_le _⟩ dL_deed_143 (fun H locs G => ?_)
      refine lv_pop hx hb dL_deed_146 rfl ?_
      refine lv_goto (tgt := 458) hx hb dL_deed_147 (by decide) ?_
      obtain rfl := hk_s hsp
      exact W.vret hx hb hr (fun t ht hW => hk_end G ht hW) G.2.1.2.2 dL_deed_458
  have hsp := hk_f w16 hsp
  rcases Classical.em ((x1 &&& 15) = 2) with w23 | w23
  · have hsp := hk_t w23 hsp
    refine lv_tableIn (off := 121) (tgt := 163) hx hb dL_deed_42 (by rw [w23]; decide) (by rw [w23]; decide) (by rw [w23]; rfl) (by decide) ?_
    refine lv_aload_n hx hb dL_deed_163 rfl (lv_at hl 4 rfl) ?_
    refine lv_iload_n hx hb dL_deed_164 rfl (lv_at hl 3 rfl) ?_
    refine lv_iload_n hx hb dL_deed_165 rfl (lv_at hl 2 rfl) ?_
    refine lv_bipush (v := 6) hx hb dL_deed_166 (by decide) ?_
    refine lv_irem hx hb dL_deed_168 (by decide) ?_
    obtain ⟨r24, er24, hsp⟩ := hk_b hsp
    refine hk_callVi (As := [.int y3, .int (y4 - y4 / 6 * 6)]) (rest := []) F9 G h0 hkc_8 rfl (kX11_setFan l g E F n r6.2 a0 y3 (y4 - y4 / 6 * 6) r24 h0 er24) qv_RL_27 ⟨rfl, rfl, (Nat.le_of_ble_eq_true rfl), (Nat.le_of_ble_eq_true rfl)⟩ rfl hl.1 rfl (Nat.le_of_ble_eq_true rfl) ⟨Nat.zero_le _, Nat.zero_le _⟩ dL_deed_169 (fun H locs G => ?_)
    refine lv_pop hx hb dL_deed_172 rfl ?_
    refine lv_goto (tgt := 458) hx hb dL_deed_173 (by decide) ?_
    obtain rfl := hk_s hsp
    exact W.vret hx hb hr (fun t ht hW => hk_end G ht hW) G.2.1.2.2 dL_deed_458
  have hsp := hk_f w23 hsp
  rcases Classical.em ((x1 &&& 15) = 3) with w25 | w25
  · have hsp := hk_t w25 hsp
    refine lv_tableIn (off := 121) (tgt := 163) hx hb dL_deed_42 (by rw [w25]; decide) (by rw [w25]; decide) (by rw [w25]; rfl) (by decide) ?_
    refine lv_aload_n hx hb dL_deed_163 rfl (lv_at hl 4 rfl) ?_
    refine lv_iload_n hx hb dL_deed_164 rfl (lv_at hl 3 rfl) ?_
    refine lv_iload_n hx hb dL_deed_165 rfl (lv_at hl 2 rfl) ?_
    refine lv_bipush (v := 6) hx hb dL_deed_166 (by decide) ?_
    refine lv_irem hx hb dL_deed_168 (by decide) ?_
    obtain ⟨r26, er26, hsp⟩ := hk_b hsp
    refine hk_callVi (As := [.int y3, .int (y4 - y4 / 6 * 6)]) (rest := []) F9 G h0 hkc_8 rfl (kX11_setFan l g E F n r6.2 a0 y3 (y4 - y4 / 6 * 6) r26 h0 er26) qv_RL_27 ⟨rfl, rfl, (Nat.le_of_ble_eq_true rfl), (Nat.le_of_ble_eq_true rfl)⟩ rfl hl.1 rfl (Nat.le_of_ble_eq_true rfl) ⟨Nat.zero_le _, Nat.zero_le _⟩ dL_deed_169 (fun H locs G => ?_)
    refine lv_pop hx hb dL_deed_172 rfl ?_
    refine lv_goto (tgt := 458) hx hb dL_deed_173 (by decide) ?_
    obtain rfl := hk_s hsp
    exact W.vret hx hb hr (fun t ht hW => hk_end G ht hW) G.2.1.2.2 dL_deed_458
  have hsp := hk_f w25 hsp
  rcases Classical.em ((x1 &&& 15) = 4) with w27 | w27
  · have hsp := hk_t w27 hsp
    refine lv_tableIn (off := 134) (tgt := 176) hx hb dL_deed_42 (by rw [w27]; decide) (by rw [w27]; decide) (by rw [w27]; rfl) (by decide) ?_
    refine lv_aload_n hx hb dL_deed_176 rfl (lv_at hl 4 rfl) ?_
    refine lv_iload_n hx hb dL_deed_177 rfl (lv_at hl 3 rfl) ?_
    obtain ⟨r28, er28, hsp⟩ := hk_b hsp
    refine hk_callVi (As := [.int y3]) (rest := []) F9 G h0 hkc_8 rfl (kX11_reverse l g E F n r6.2 a0 y3 r28 h0 er28) qv_RL_31 ⟨rfl, rfl, (Nat.le_of_ble_eq_true rfl), (Nat.le_of_ble_eq_true rfl)⟩ rfl hl.1 rfl (Nat.le_of_ble_eq_true rfl) ⟨Nat.zero_le _, Nat.zero_le _⟩ dL_deed_178 (fun H locs G => ?_)
    refine lv_pop hx hb dL_deed_181 rfl ?_
    refine lv_goto (tgt := 458) hx hb dL_deed_182 (by decide) ?_
    obtain rfl := hk_s hsp
    exact W.vret hx hb hr (fun t ht hW => hk_end G ht hW) G.2.1.2.2 dL_deed_458
  have hsp := hk_f w27 hsp
  rcases Classical.em ((x1 &&& 15) = 5) with w29 | w29
  · have hsp := hk_t w29 hsp
    refine lv_tableIn (off := 143) (tgt := 185) hx hb dL_deed_42 (by rw [w29]; decide) (by rw [w29]; decide) (by rw [w29]; rfl) (by decide) ?_
    refine lv_aload_n hx hb dL_deed_185 rfl (lv_at hl 4 rfl) ?_
    refine lv_iload_n hx hb dL_deed_186 rfl (lv_at hl 2 rfl) ?_
    refine lv_bipush (v := 6) hx hb dL_deed_187 (by decide) ?_
    refine lv_irem hx hb dL_deed_189 (by decide) ?_
    obtain ⟨r30, er30, hsp⟩ := hk_b hsp
    refine hk_callVi (As := [.int (y4 - y4 / 6 * 6)]) (rest := []) F9 G h0 hkc_8 rfl (kX11_setHeat l g E F n r6.2 a0 (y4 - y4 / 6 * 6) r30 h0 er30) qv_RL_35 ⟨rfl, rfl, (Nat.le_of_ble_eq_true rfl), (Nat.le_of_ble_eq_true rfl)⟩ rfl hl.1 rfl (Nat.le_of_ble_eq_true rfl) ⟨Nat.zero_le _, Nat.zero_le _⟩ dL_deed_190 (fun H locs G => ?_)
    refine lv_pop hx hb dL_deed_193 rfl ?_
    refine lv_goto (tgt := 458) hx hb dL_deed_194 (by decide) ?_
    obtain rfl := hk_s hsp
    exact W.vret hx hb hr (fun t ht hW => hk_end G ht hW) G.2.1.2.2 dL_deed_458
  have hsp := hk_f w29 hsp
  rcases Classical.em ((x1 &&& 15) = 6) with w31 | w31
  · have hsp := hk_t w31 hsp
    refine lv_tableIn (off := 155) (tgt := 197) hx hb dL_deed_42 (by rw [w31]; decide) (by rw [w31]; decide) (by rw [w31]; rfl) (by decide) ?_
    refine lv_aload_n hx hb dL_deed_197 rfl (lv_at hl 4 rfl) ?_
    refine lv_bipush (v := 20) hx hb dL_deed_198 (by decide) ?_
    refine lv_iload_n hx hb dL_deed_200 rfl (lv_at hl 2 rfl) ?_
    refine lv_bipush (v := 76) hx hb dL_deed_201 (by decide) ?_
    refine lv_irem hx hb dL_deed_203 (by decide) ?_
    refine lv_iadd hx hb dL_deed_204 ?_
    obtain ⟨r32, er32, hsp⟩ := hk_b hsp
    refine hk_callVi (As := [.int (20 + (y4 - y4 / 76 * 76))]) (rest := []) F9 G h0 hkc_8 rfl (kX11_setHumidity l g E F n r6.2 a0 (20 + (y4 - y4 / 76 * 76)) r32 h0 er32) qv_RL_38 ⟨rfl, rfl, (Nat.le_of_ble_eq_true rfl), (Nat.le_of_ble_eq_true rfl)⟩ rfl hl.1 rfl (Nat.le_of_ble_eq_true rfl) ⟨Nat.zero_le _, Nat.zero_le _⟩ dL_deed_205 (fun H locs G => ?_)
    refine lv_pop hx hb dL_deed_208 rfl ?_
    refine lv_goto (tgt := 458) hx hb dL_deed_209 (by decide) ?_
    obtain rfl := hk_s hsp
    exact W.vret hx hb hr (fun t ht hW => hk_end G ht hW) G.2.1.2.2 dL_deed_458
  have hsp := hk_f w31 hsp
  rcases Classical.em ((x1 &&& 15) = 7) with w33 | w33
  · have hsp := hk_t w33 hsp
    refine lv_tableIn (off := 170) (tgt := 212) hx hb dL_deed_42 (by rw [w33]; decide) (by rw [w33]; decide) (by rw [w33]; rfl) (by decide) ?_
    refine lv_aload_n hx hb dL_deed_212 rfl (lv_at hl 4 rfl) ?_
    refine lv_iload_n hx hb dL_deed_213 rfl (lv_at hl 3 rfl) ?_
    obtain ⟨r34, er34, hsp⟩ := hk_b hsp
    refine hk_callVi (As := [.int y3]) (rest := []) F9 G h0 hkc_8 rfl (kX11_kilograms l g E F n r6.2 a0 y3 r34 h0 er34) qv_RL_16 ⟨rfl, rfl, (Nat.le_of_ble_eq_true rfl), (Nat.le_of_ble_eq_true rfl)⟩ rfl hl.1 rfl (Nat.le_of_ble_eq_true rfl) ⟨Nat.zero_le _, Nat.zero_le _⟩ dL_deed_214 (fun H locs G => ?_)
    refine lv_if_le (tgt := 458) hx hb dL_deed_217 (by decide) (fun c35 => ?_) (fun c35 => ?_)
    · have hsp := hk_t c35 hsp
      obtain rfl := hk_s hsp
      exact W.vret hx hb hr (fun t ht hW => hk_end G ht hW) G.2.1.2.2 dL_deed_458
    · have hsp := hk_f c35 hsp
      refine lv_aload_n hx hb dL_deed_220 rfl (lv_at hl 4 rfl) ?_
      refine lv_iload_n hx hb dL_deed_221 rfl (lv_at hl 3 rfl) ?_
      obtain ⟨r36, er36, hsp⟩ := hk_b hsp
      refine hk_callVi (As := [.int y3]) (rest := []) F9 G h0 hkc_8 rfl (kX11_speed l g E F n r34.2 a0 y3 r36 h0 er36) qv_RL_41 ⟨rfl, rfl, (Nat.le_of_ble_eq_true rfl), (Nat.le_of_ble_eq_true rfl)⟩ rfl hl.1 rfl (Nat.le_of_ble_eq_true rfl) ⟨Nat.zero_le _, Nat.zero_le _⟩ dL_deed_222 (fun H locs G => ?_)
      refine lv_if_ne (tgt := 458) hx hb dL_deed_225 (by decide) (fun c37 => ?_) (fun c37 => ?_)
      · have hsp := hk_t c37 hsp
        obtain rfl := hk_s hsp
        exact W.vret hx hb hr (fun t ht hW => hk_end G ht hW) G.2.1.2.2 dL_deed_458
      · have hsp := hk_g c37 hsp
        refine lv_aload_n hx hb dL_deed_228 rfl (lv_at hl 4 rfl) ?_
        refine lv_iload_n hx hb dL_deed_229 rfl (lv_at hl 3 rfl) ?_
        obtain ⟨r38, er38, hsp⟩ := hk_b hsp
        refine hk_callVi (As := [.int y3]) (rest := []) F9 G h0 hkc_8 rfl (kX11_turnLeaf l g E F n r36.2 a0 y3 r38 h0 er38) qv_RL_44 ⟨rfl, rfl, (Nat.le_of_ble_eq_true rfl), (Nat.le_of_ble_eq_true rfl)⟩ rfl hl.1 rfl (Nat.le_of_ble_eq_true rfl) ⟨Nat.zero_le _, Nat.zero_le _⟩ dL_deed_230 (fun H locs G => ?_)
        refine lv_pop hx hb dL_deed_233 rfl ?_
        refine lv_goto (tgt := 458) hx hb dL_deed_234 (by decide) ?_
        obtain rfl := hk_s hsp
        exact W.vret hx hb hr (fun t ht hW => hk_end G ht hW) G.2.1.2.2 dL_deed_458
  have hsp := hk_f w33 hsp
  rcases Classical.em ((x1 &&& 15) = 8) with w39 | w39
  · have hsp := hk_t w39 hsp
    refine lv_tableIn (off := 195) (tgt := 237) hx hb dL_deed_42 (by rw [w39]; decide) (by rw [w39]; decide) (by rw [w39]; rfl) (by decide) ?_
    refine lv_aload_n hx hb dL_deed_237 rfl (lv_at hl 4 rfl) ?_
    refine lv_sipush (v := 500) hx hb dL_deed_238 (by decide) ?_
    refine lv_iload_n hx hb dL_deed_241 rfl (lv_at hl 2 rfl) ?_
    refine lv_sipush (v := 201) hx hb dL_deed_242 (by decide) ?_
    refine lv_irem hx hb dL_deed_245 (by decide) ?_
    refine lv_iadd hx hb dL_deed_246 ?_
    refine lv_iconst (v := 5) hx hb dL_deed_247 (by decide) ?_
    refine lv_iload hx hb dL_deed_248 (lv_at hl 1 rfl) ?_
    refine lv_bipush (v := 46) hx hb dL_deed_250 (by decide) ?_
    refine lv_irem hx hb dL_deed_252 (by decide) ?_
    refine lv_iadd hx hb dL_deed_253 ?_
    obtain ⟨r40, er40, hsp⟩ := hk_b hsp
    refine hk_callVi (As := [.int (500 + (y4 - y4 / 201 * 201)), .int (5 + (y5 - y5 / 46 * 46))]) (rest := []) F9 G h0 hkc_8 rfl (kX11_setTarget l g E F n r6.2 a0 (500 + (y4 - y4 / 201 * 201)) (5 + (y5 - y5 / 46 * 46)) r40 h0 er40) qv_RL_47 ⟨rfl, rfl, (Nat.le_of_ble_eq_true rfl), (Nat.le_of_ble_eq_true rfl)⟩ rfl hl.1 rfl (Nat.le_of_ble_eq_true rfl) ⟨Nat.zero_le _, Nat.zero_le _⟩ dL_deed_254 (fun H locs G => ?_)
    refine lv_pop hx hb dL_deed_257 rfl ?_
    refine lv_goto (tgt := 458) hx hb dL_deed_258 (by decide) ?_
    obtain rfl := hk_s hsp
    exact W.vret hx hb hr (fun t ht hW => hk_end G ht hW) G.2.1.2.2 dL_deed_458
  have hsp := hk_f w39 hsp
  rcases Classical.em ((x1 &&& 15) = 9) with w41 | w41
  · have hsp := hk_t w41 hsp
    refine lv_tableIn (off := 219) (tgt := 261) hx hb dL_deed_42 (by rw [w41]; decide) (by rw [w41]; decide) (by rw [w41]; rfl) (by decide) ?_
    refine lv_aload_n hx hb dL_deed_261 rfl (lv_at hl 4 rfl) ?_
    refine lv_iload_n hx hb dL_deed_262 rfl (lv_at hl 3 rfl) ?_
    obtain ⟨r42, er42, hsp⟩ := hk_b hsp
    refine hk_callVi (As := [.int y3]) (rest := []) F9 G h0 hkc_8 rfl (kX11_kilograms l g E F n r6.2 a0 y3 r42 h0 er42) qv_RL_16 ⟨rfl, rfl, (Nat.le_of_ble_eq_true rfl), (Nat.le_of_ble_eq_true rfl)⟩ rfl hl.1 rfl (Nat.le_of_ble_eq_true rfl) ⟨Nat.zero_le _, Nat.zero_le _⟩ dL_deed_263 (fun H locs G => ?_)
    refine lv_if_le (tgt := 458) hx hb dL_deed_266 (by decide) (fun c43 => ?_) (fun c43 => ?_)
    · have hsp := hk_t c43 hsp
      obtain rfl := hk_s hsp
      exact W.vret hx hb hr (fun t ht hW => hk_end G ht hW) G.2.1.2.2 dL_deed_458
    · have hsp := hk_f c43 hsp
      refine lv_aload_n hx hb dL_deed_269 rfl (lv_at hl 4 rfl) ?_
      refine lv_iload_n hx hb dL_deed_270 rfl (lv_at hl 3 rfl) ?_
      obtain ⟨r44, er44, hsp⟩ := hk_b hsp
      refine hk_callVi (As := [.int y3]) (rest := []) F9 G h0 hkc_8 rfl (kX11_turnLeaf l g E F n r42.2 a0 y3 r44 h0 er44) qv_RL_44 ⟨rfl, rfl, (Nat.le_of_ble_eq_true rfl), (Nat.le_of_ble_eq_true rfl)⟩ rfl hl.1 rfl (Nat.le_of_ble_eq_true rfl) ⟨Nat.zero_le _, Nat.zero_le _⟩ dL_deed_271 (fun H locs G => ?_)
      refine lv_pop hx hb dL_deed_274 rfl ?_
      refine lv_goto (tgt := 458) hx hb dL_deed_275 (by decide) ?_
      obtain rfl := hk_s hsp
      exact W.vret hx hb hr (fun t ht hW => hk_end G ht hW) G.2.1.2.2 dL_deed_458
  have hsp := hk_f w41 hsp
  rcases Classical.em ((x1 &&& 15) = 10) with w45 | w45
  · have hsp := hk_t w45 hsp
    refine lv_tableIn (off := 236) (tgt := 278) hx hb dL_deed_42 (by rw [w45]; decide) (by rw [w45]; decide) (by rw [w45]; rfl) (by decide) ?_
    refine lv_aload_n hx hb dL_deed_278 rfl (lv_at hl 4 rfl) ?_
    refine lv_iload_n hx hb dL_deed_279 rfl (lv_at hl 3 rfl) ?_
    obtain ⟨r46, er46, hsp⟩ := hk_b hsp
    refine hk_callVi (As := [.int y3]) (rest := []) F9 G h0 hkc_8 rfl (kX11_whyNoDischarge l g E F n r6.2 a0 y3 r46 h0 er46) qv_RL_50 ⟨rfl, rfl, (Nat.le_of_ble_eq_true rfl), (Nat.le_of_ble_eq_true rfl)⟩ rfl hl.1 rfl (Nat.le_of_ble_eq_true rfl) ⟨Nat.zero_le _, Nat.zero_le _⟩ dL_deed_280 (fun H locs G => ?_)
    refine lv_if_ne (tgt := 295) hx hb dL_deed_283 (by decide) (fun c47 => ?_) (fun c47 => ?_)
    · have hsp := hk_t c47 hsp
      refine lv_aload_n hx hb dL_deed_295 rfl (lv_at hl 4 rfl) ?_
      refine lv_iload_n hx hb dL_deed_296 rfl (lv_at hl 3 rfl) ?_
      obtain ⟨r48, er48, hsp⟩ := hk_b hsp
      refine hk_callVi (As := [.int y3]) (rest := []) F9 G h0 hkc_8 rfl (kX11_hoursToReady l g E F n r46.2 a0 y3 r48 h0 er48) qv_RL_56 ⟨rfl, rfl, (Nat.le_of_ble_eq_true rfl), (Nat.le_of_ble_eq_true rfl)⟩ rfl hl.1 rfl (Nat.le_of_ble_eq_true rfl) ⟨Nat.zero_le _, Nat.zero_le _⟩ dL_deed_297 (fun H locs G => ?_)
      refine lv_if_le (tgt := 458) hx hb dL_deed_300 (by decide) (fun c49 => ?_) (fun c49 => ?_)
      · have hsp := hk_t c49 hsp
        obtain rfl := hk_s hsp
        exact W.vret hx hb hr (fun t ht hW => hk_end G ht hW) G.2.1.2.2 dL_deed_458
      · have hsp := hk_f c49 hsp
        refine lv_aload_n hx hb dL_deed_303 rfl (lv_at hl 4 rfl) ?_
        obtain ⟨r50, er50, hsp⟩ := hk_b hsp
        refine hk_callVi (As := []) (rest := []) F9 G h0 hkc_8 rfl (kX11_hour l g E F n r48.2 a0 r50 h0 er50) qv_RL_59 ⟨rfl, rfl, (Nat.le_of_ble_eq_true rfl), (Nat.le_of_ble_eq_true rfl)⟩ rfl hl.1 rfl (Nat.le_of_ble_eq_true rfl) ⟨Nat.zero_le _, Nat.zero_le _⟩ dL_deed_304 (fun H locs G => ?_)
        refine lv_aload_n hx hb dL_deed_307 rfl (lv_at hl 4 rfl) ?_
        refine lv_iload_n hx hb dL_deed_308 rfl (lv_at hl 3 rfl) ?_
        obtain ⟨r51, er51, hsp⟩ := hk_b hsp
        refine hk_callVi (As := [.int y3]) (rest := [.int r50.1]) F9 G h0 hkc_8 rfl (kX11_hoursToReady l g E F n r50.2 a0 y3 r51 h0 er51) qv_RL_56 ⟨rfl, rfl, (Nat.le_of_ble_eq_true rfl), (Nat.le_of_ble_eq_true rfl)⟩ rfl hl.1 rfl (Nat.le_of_ble_eq_true rfl) ⟨Nat.zero_le _, Nat.zero_le _⟩ dL_deed_309 (fun H locs G => ?_)
        refine lv_iadd hx hb dL_deed_312 ?_
        refine lv_sipush (v := 2000) hx hb dL_deed_313 (by decide) ?_
        refine lv_icmp_gt (tgt := 458) hx hb dL_deed_316 (by decide) (fun c52 => ?_) (fun c52 => ?_)
        · have hsp := hk_t c52 hsp
          obtain rfl := hk_s hsp
          exact W.vret hx hb hr (fun t ht hW => hk_end G ht hW) G.2.1.2.2 dL_deed_458
        · have hsp := hk_f c52 hsp
          refine lv_aload_n hx hb dL_deed_319 rfl (lv_at hl 4 rfl) ?_
          refine lv_aload_n hx hb dL_deed_320 rfl (lv_at hl 4 rfl) ?_
          refine lv_iload_n hx hb dL_deed_321 rfl (lv_at hl 3 rfl) ?_
          obtain ⟨r53, er53, hsp⟩ := hk_b hsp
          refine hk_callVi (As := [.int y3]) (rest := [.ref (g.1 + a0)]) F9 G h0 hkc_8 rfl (kX11_hoursToReady l g E F n r51.2 a0 y3 r53 h0 er53) qv_RL_56 ⟨rfl, rfl, (Nat.le_of_ble_eq_true rfl), (Nat.le_of_ble_eq_true rfl)⟩ rfl hl.1 rfl (Nat.le_of_ble_eq_true rfl) ⟨Nat.zero_le _, Nat.zero_le _⟩ dL_deed_322 (fun H locs G => ?_)
          obtain ⟨r54, er54, hsp⟩ := hk_b hsp
          refine hk_callVi (As := [.int r53.1]) (rest := []) F9 G h0 hkc_8 rfl (kX11_passHours l g E F n r53.2 a0 r53.1 r54 h0 er54) qv_RL_62 ⟨rfl, rfl, (Nat.le_of_ble_eq_true rfl), (Nat.le_of_ble_eq_true rfl)⟩ rfl hl.1 rfl (Nat.le_of_ble_eq_true rfl) ⟨Nat.zero_le _, Nat.zero_le _⟩ dL_deed_325 (fun H locs G => ?_)
          refine lv_pop hx hb dL_deed_328 rfl ?_
          refine lv_goto (tgt := 458) hx hb dL_deed_329 (by decide) ?_
          obtain rfl := hk_s hsp
          exact W.vret hx hb hr (fun t ht hW => hk_end G ht hW) G.2.1.2.2 dL_deed_458
    · have hsp := hk_g c47 hsp
      refine lv_aload_n hx hb dL_deed_286 rfl (lv_at hl 4 rfl) ?_
      refine lv_iload_n hx hb dL_deed_287 rfl (lv_at hl 3 rfl) ?_
      obtain ⟨r55, er55, hsp⟩ := hk_b hsp
      refine hk_callVi (As := [.int y3]) (rest := []) F9 G h0 hkc_8 rfl (kX11_discharge l g E F n r46.2 a0 y3 r55 h0 er55) qv_RL_53 ⟨rfl, rfl, (Nat.le_of_ble_eq_true rfl), (Nat.le_of_ble_eq_true rfl)⟩ rfl hl.1 rfl (Nat.le_of_ble_eq_true rfl) ⟨Nat.zero_le _, Nat.zero_le _⟩ dL_deed_288 (fun H locs G => ?_)
      refine lv_pop hx hb dL_deed_291 rfl ?_
      refine lv_goto (tgt := 458) hx hb dL_deed_292 (by decide) ?_
      obtain rfl := hk_s hsp
      exact W.vret hx hb hr (fun t ht hW => hk_end G ht hW) G.2.1.2.2 dL_deed_458
  have hsp := hk_f w45 hsp
  rcases Classical.em ((x1 &&& 15) = 11) with w56 | w56
  · have hsp := hk_t w56 hsp
    refine lv_tableIn (off := 290) (tgt := 332) hx hb dL_deed_42 (by rw [w56]; decide) (by rw [w56]; decide) (by rw [w56]; rfl) (by decide) ?_
    refine lv_aload_n hx hb dL_deed_332 rfl (lv_at hl 4 rfl) ?_
    refine lv_iload_n hx hb dL_deed_333 rfl (lv_at hl 3 rfl) ?_
    obtain ⟨r57, er57, hsp⟩ := hk_b hsp
    refine hk_callVi (As := [.int y3]) (rest := []) F9 G h0 hkc_8 rfl (kX11_kilograms l g E F n r6.2 a0 y3 r57 h0 er57) qv_RL_16 ⟨rfl, rfl, (Nat.le_of_ble_eq_true rfl), (Nat.le_of_ble_eq_true rfl)⟩ rfl hl.1 rfl (Nat.le_of_ble_eq_true rfl) ⟨Nat.zero_le _, Nat.zero_le _⟩ dL_deed_334 (fun H locs G => ?_)
    refine lv_if_le (tgt := 458) hx hb dL_deed_337 (by decide) (fun c58 => ?_) (fun c58 => ?_)
    · have hsp := hk_t c58 hsp
      obtain rfl := hk_s hsp
      exact W.vret hx hb hr (fun t ht hW => hk_end G ht hW) G.2.1.2.2 dL_deed_458
    · have hsp := hk_f c58 hsp
      refine lv_iload_n hx hb dL_deed_340 rfl (lv_at hl 2 rfl) ?_
      refine lv_iconst (v := 3) hx hb dL_deed_341 (by decide) ?_
      refine lv_iand hx hb dL_deed_342 ?_
      refine lv_if_ne (tgt := 458) hx hb dL_deed_343 (by decide) (fun c59 => ?_) (fun c59 => ?_)
      · have hsp := hk_t c59 hsp
        obtain rfl := hk_s hsp
        exact W.vret hx hb hr (fun t ht hW => hk_end G ht hW) G.2.1.2.2 dL_deed_458
      · have hsp := hk_g c59 hsp
        refine lv_aload_n hx hb dL_deed_346 rfl (lv_at hl 4 rfl) ?_
        refine lv_iload_n hx hb dL_deed_347 rfl (lv_at hl 3 rfl) ?_
        obtain ⟨r60, er60, hsp⟩ := hk_b hsp
        refine hk_callVi (As := [.int y3]) (rest := []) F9 G h0 hkc_8 rfl (kX11_discard l g E F n r57.2 a0 y3 r60 h0 er60) qv_RL_65 ⟨rfl, rfl, (Nat.le_of_ble_eq_true rfl), (Nat.le_of_ble_eq_true rfl)⟩ rfl hl.1 rfl (Nat.le_of_ble_eq_true rfl) ⟨Nat.zero_le _, Nat.zero_le _⟩ dL_deed_348 (fun H locs G => ?_)
        refine lv_pop hx hb dL_deed_351 rfl ?_
        refine lv_goto (tgt := 458) hx hb dL_deed_352 (by decide) ?_
        obtain rfl := hk_s hsp
        exact W.vret hx hb hr (fun t ht hW => hk_end G ht hW) G.2.1.2.2 dL_deed_458
  have hsp := hk_f w56 hsp
  rcases Classical.em ((x1 &&& 15) = 12) with w61 | w61
  · have hsp := hk_t w61 hsp
    refine lv_tableIn (off := 313) (tgt := 355) hx hb dL_deed_42 (by rw [w61]; decide) (by rw [w61]; decide) (by rw [w61]; rfl) (by decide) ?_
    refine lv_aload_n hx hb dL_deed_355 rfl (lv_at hl 4 rfl) ?_
    obtain ⟨r62, er62, hsp⟩ := hk_b hsp
    refine hk_callVi (As := []) (rest := []) F9 G h0 hkc_8 rfl (kX11_troughCount l g E F n r6.2 a0 r62 h0 er62) qv_RL_7 ⟨rfl, rfl, (Nat.le_of_ble_eq_true rfl), (Nat.le_of_ble_eq_true rfl)⟩ rfl hl.1 rfl (Nat.le_of_ble_eq_true rfl) ⟨Nat.zero_le _, Nat.zero_le _⟩ dL_deed_356 (fun H locs G => ?_)
    refine lv_bipush (v := 8) hx hb dL_deed_359 (by decide) ?_
    refine lv_icmp_ge (tgt := 458) hx hb dL_deed_361 (by decide) (fun c63 => ?_) (fun c63 => ?_)
    · have hsp := hk_t c63 hsp
      obtain rfl := hk_s hsp
      exact W.vret hx hb hr (fun t ht hW => hk_end G ht hW) G.2.1.2.2 dL_deed_458
    · have hsp := hk_f c63 hsp
      refine lv_aload_n hx hb dL_deed_364 rfl (lv_at hl 4 rfl) ?_
      refine lv_bipush (v := 10) hx hb dL_deed_365 (by decide) ?_
      refine lv_iload_n hx hb dL_deed_367 rfl (lv_at hl 2 rfl) ?_
      refine lv_sipush (v := 491) hx hb dL_deed_368 (by decide) ?_
      refine lv_irem hx hb dL_deed_371 (by decide) ?_
      refine lv_iadd hx hb dL_deed_372 ?_
      obtain ⟨r64, er64, hsp⟩ := hk_b hsp
      refine hk_callVi (As := [.int (10 + (y4 - y4 / 491 * 491))]) (rest := []) F9 G h0 hkc_8 rfl (kX11_addTrough l g E F n r62.2 a0 (10 + (y4 - y4 / 491 * 491)) r64 h0 er64) qv_RL_68 ⟨rfl, rfl, (Nat.le_of_ble_eq_true rfl), (Nat.le_of_ble_eq_true rfl)⟩ rfl hl.1 rfl (Nat.le_of_ble_eq_true rfl) ⟨Nat.zero_le _, Nat.zero_le _⟩ dL_deed_373 (fun H locs G => ?_)
      refine lv_pop hx hb dL_deed_376 rfl ?_
      refine lv_goto (tgt := 458) hx hb dL_deed_377 (by decide) ?_
      obtain rfl := hk_s hsp
      exact W.vret hx hb hr (fun t ht hW => hk_end G ht hW) G.2.1.2.2 dL_deed_458
  have hsp := hk_f w61 hsp
  rcases Classical.em ((x1 &&& 15) = 13) with w65 | w65
  · have hsp := hk_t w65 hsp
    refine lv_tableIn (off := 338) (tgt := 380) hx hb dL_deed_42 (by rw [w65]; decide) (by rw [w65]; decide) (by rw [w65]; rfl) (by decide) ?_
    refine lv_aload_n hx hb dL_deed_380 rfl (lv_at hl 4 rfl) ?_
    obtain ⟨r66, er66, hsp⟩ := hk_b hsp
    refine hk_callVi (As := []) (rest := []) F9 G h0 hkc_8 rfl (kX11_probeCount l g E F n r6.2 a0 r66 h0 er66) qv_RL_13 ⟨rfl, rfl, (Nat.le_of_ble_eq_true rfl), (Nat.le_of_ble_eq_true rfl)⟩ rfl hl.1 rfl (Nat.le_of_ble_eq_true rfl) ⟨Nat.zero_le _, Nat.zero_le _⟩ dL_deed_381 (fun H locs G => ?_)
    refine lv_bipush (v := 6) hx hb dL_deed_384 (by decide) ?_
    refine lv_icmp_ge (tgt := 406) hx hb dL_deed_386 (by decide) (fun c67 => ?_) (fun c67 => ?_)
    · have hsp := hk_t c67 hsp
      refine lv_aload_n hx hb dL_deed_406 rfl (lv_at hl 4 rfl) ?_
      refine lv_iload hx hb dL_deed_407 (lv_at hl 0 rfl) ?_
      refine lv_iload_n hx hb dL_deed_409 rfl (lv_at hl 3 rfl) ?_
      refine lv_iload_n hx hb dL_deed_410 rfl (lv_at hl 2 rfl) ?_
      refine lv_iconst (v := 1) hx hb dL_deed_411 (by decide) ?_
      refine lv_iand hx hb dL_deed_412 ?_
      obtain ⟨r68, er68, hsp⟩ := hk_b hsp
      refine hk_callVi (As := [.int y8, .int y3, .int (y4 &&& 1)]) (rest := []) F9 G h0 hkc_8 rfl (kX11_moveProbe l g E F n r66.2 a0 y8 y3 (y4 &&& 1) r68 h0 er68) qv_RL_74 ⟨rfl, rfl, (Nat.le_of_ble_eq_true rfl), (Nat.le_of_ble_eq_true rfl)⟩ rfl hl.1 rfl (Nat.le_of_ble_eq_true rfl) ⟨Nat.zero_le _, Nat.zero_le _⟩ dL_deed_413 (fun H locs G => ?_)
      refine lv_pop hx hb dL_deed_416 rfl ?_
      refine lv_goto (tgt := 458) hx hb dL_deed_417 (by decide) ?_
      obtain rfl := hk_s hsp
      exact W.vret hx hb hr (fun t ht hW => hk_end G ht hW) G.2.1.2.2 dL_deed_458
    · have hsp := hk_f c67 hsp
      refine lv_aload_n hx hb dL_deed_389 rfl (lv_at hl 4 rfl) ?_
      refine lv_iload_n hx hb dL_deed_390 rfl (lv_at hl 3 rfl) ?_
      refine lv_iload_n hx hb dL_deed_391 rfl (lv_at hl 2 rfl) ?_
      refine lv_iconst (v := 1) hx hb dL_deed_392 (by decide) ?_
      refine lv_iand hx hb dL_deed_393 ?_
      refine lv_iload hx hb dL_deed_394 (lv_at hl 1 rfl) ?_
      refine lv_bipush (v := 31) hx hb dL_deed_396 (by decide) ?_
      refine lv_isub hx hb dL_deed_398 ?_
      obtain ⟨r69, er69, hsp⟩ := hk_b hsp
      refine hk_callVi (As := [.int y3, .int (y4 &&& 1), .int (y5 - 31)]) (rest := []) F9 G h0 hkc_8 rfl (kX11_addProbe l g E F n r66.2 a0 y3 (y4 &&& 1) (y5 - 31) r69 h0 er69) qv_RL_71 ⟨rfl, rfl, (Nat.le_of_ble_eq_true rfl), (Nat.le_of_ble_eq_true rfl)⟩ rfl hl.1 rfl (Nat.le_of_ble_eq_true rfl) ⟨Nat.zero_le _, Nat.zero_le _⟩ dL_deed_399 (fun H locs G => ?_)
      refine lv_pop hx hb dL_deed_402 rfl ?_
      refine lv_goto (tgt := 458) hx hb dL_deed_403 (by decide) ?_
      obtain rfl := hk_s hsp
      exact W.vret hx hb hr (fun t ht hW => hk_end G ht hW) G.2.1.2.2 dL_deed_458
  have hsp := hk_f w65 hsp
  rcases Classical.em ((x1 &&& 15) = 14) with w70 | w70
  · have hsp := hk_t w70 hsp
    refine lv_tableIn (off := 378) (tgt := 420) hx hb dL_deed_42 (by rw [w70]; decide) (by rw [w70]; decide) (by rw [w70]; rfl) (by decide) ?_
    refine lv_aload_n hx hb dL_deed_420 rfl (lv_at hl 4 rfl) ?_
    refine lv_iload hx hb dL_deed_421 (lv_at hl 0 rfl) ?_
    obtain ⟨r71, er71, hsp⟩ := hk_b hsp
    refine hk_callVi (As := [.int y8]) (rest := []) F9 G h0 hkc_8 rfl (kX11_calibrate l g E F n r6.2 a0 y8 r71 h0 er71) qv_RL_77 ⟨rfl, rfl, (Nat.le_of_ble_eq_true rfl), (Nat.le_of_ble_eq_true rfl)⟩ rfl hl.1 rfl (Nat.le_of_ble_eq_true rfl) ⟨Nat.zero_le _, Nat.zero_le _⟩ dL_deed_423 (fun H locs G => ?_)
    refine lv_pop hx hb dL_deed_426 rfl ?_
    refine lv_goto (tgt := 458) hx hb dL_deed_427 (by decide) ?_
    obtain rfl := hk_s hsp
    exact W.vret hx hb hr (fun t ht hW => hk_end G ht hW) G.2.1.2.2 dL_deed_458
  have hsp := hk_f w70 hsp
  refine lv_tableOut (tgt := 430) hx hb dL_deed_42 (hk_outs (lo := 0) (n := 15) (L := [0, 1, 2, 3, 4, 5, 6, 7, 8, 9, 10, 11, 12, 13, 14]) (List.forall_mem_cons.mpr ⟨w9, List.forall_mem_cons.mpr ⟨w16, List.forall_mem_cons.mpr ⟨w23, List.forall_mem_cons.mpr ⟨w25, List.forall_mem_cons.mpr ⟨w27, List.forall_mem_cons.mpr ⟨w29, List.forall_mem_cons.mpr ⟨w31, List.forall_mem_cons.mpr ⟨w33, List.forall_mem_cons.mpr ⟨w39, List.forall_mem_cons.mpr ⟨w41, List.forall_mem_cons.mpr ⟨w45, List.forall_mem_cons.mpr ⟨w56, List.forall_mem_cons.mpr ⟨w61, List.forall_mem_cons.mpr ⟨w65, List.forall_mem_cons.mpr ⟨w70, fun _ h => absurd h List.not_mem_nil⟩⟩⟩⟩⟩⟩⟩⟩⟩⟩⟩⟩⟩⟩⟩) (by decide) (by decide)) (by decide) ?_
  refine lv_aload_n hx hb dL_deed_430 rfl (lv_at hl 4 rfl) ?_
  obtain ⟨r72, er72, hsp⟩ := hk_b hsp
  refine hk_callVi (As := []) (rest := []) F9 G h0 hkc_8 rfl (kX11_hour l g E F n r6.2 a0 r72 h0 er72) qv_RL_59 ⟨rfl, rfl, (Nat.le_of_ble_eq_true rfl), (Nat.le_of_ble_eq_true rfl)⟩ rfl hl.1 rfl (Nat.le_of_ble_eq_true rfl) ⟨Nat.zero_le _, Nat.zero_le _⟩ dL_deed_431 (fun H locs G => ?_)
  refine lv_iconst (v := 1) hx hb dL_deed_434 (by decide) ?_
  refine lv_iadd hx hb dL_deed_435 ?_
  refine lv_iload_n hx hb dL_deed_436 rfl (lv_at hl 2 rfl) ?_
  refine lv_bipush (v := 30) hx hb dL_deed_437 (by decide) ?_
  refine lv_irem hx hb dL_deed_439 (by decide) ?_
  refine lv_iadd hx hb dL_deed_440 ?_
  refine lv_sipush (v := 2000) hx hb dL_deed_441 (by decide) ?_
  refine lv_icmp_gt (tgt := 458) hx hb dL_deed_444 (by decide) (fun c73 => ?_) (fun c73 => ?_)
  · have hsp := hk_t c73 hsp
    obtain rfl := hk_s hsp
    exact W.vret hx hb hr (fun t ht hW => hk_end G ht hW) G.2.1.2.2 dL_deed_458
  · have hsp := hk_f c73 hsp
    refine lv_aload_n hx hb dL_deed_447 rfl (lv_at hl 4 rfl) ?_
    refine lv_iconst (v := 1) hx hb dL_deed_448 (by decide) ?_
    refine lv_iload_n hx hb dL_deed_449 rfl (lv_at hl 2 rfl) ?_
    refine lv_bipush (v := 30) hx hb dL_deed_450 (by decide) ?_
    refine lv_irem hx hb dL_deed_452 (by decide) ?_
    refine lv_iadd hx hb dL_deed_453 ?_
    obtain ⟨r74, er74, hsp⟩ := hk_b hsp
    refine hk_callVi (As := [.int (1 + (y4 - y4 / 30 * 30))]) (rest := []) F9 G h0 hkc_8 rfl (kX11_passHours l g E F n r72.2 a0 (1 + (y4 - y4 / 30 * 30)) r74 h0 er74) qv_RL_62 ⟨rfl, rfl, (Nat.le_of_ble_eq_true rfl), (Nat.le_of_ble_eq_true rfl)⟩ rfl hl.1 rfl (Nat.le_of_ble_eq_true rfl) ⟨Nat.zero_le _, Nat.zero_le _⟩ dL_deed_454 (fun H locs G => ?_)
    refine lv_pop hx hb dL_deed_457 rfl ?_
    obtain rfl := hk_s hsp
    exact W.vret hx hb hr (fun t ht hW => hk_end G ht hW) G.2.1.2.2 dL_deed_458
def mL_isWeighed (E : hk_E) (F : Nat) (S : hk_S) (a0 : Nat) (x1 : Int32) : Option (Int32 × hk_S) :=
(mX11_hour E F S a0).bind (fun r1 => if (r1.1 + x1) ≤ 2000 then ((mL_all E F r1.2 a0).bind (fun r3 => (mX11_lostWater E F r3.2 a0).bind (fun r4 => (mL_leaf E F r4.2 a0).bind (fun r5 => (mX11_passHours E F r5.2 a0 x1).bind (fun r6 => (mL_all E F r6.2 a0).bind (fun r7 => (mX11_lostWater E F r7.2 a0).bind (fun r8 => if ¬ (lg_cmp (r3.1 - r7.1) (((r8.1 - r4.1) : Int32).toInt64)) = 0 then ((mX11_undo E F r8.2 a0).bind (fun r10 => some (0, r10.2))) else ((mL_leaf E F r8.2 a0).bind (fun r12 => if ¬ r12.1 = r5.1 then ((mX11_undo E F r12.2 a0).bind (fun r14 => some (0, r14.2))) else ((mL_holds E F r12.2 a0).bind (fun r16 => if r16.1 = 0 then ((mX11_undo E F r16.2 a0).bind (fun r18 => some (0, r18.2))) else ((mX11_undo E F r16.2 a0).bind (fun r20 => (mX11_lostWater E F r20.2 a0).bind (fun r22 => if ¬ r22.1 = r4.1 then (some (0, r22.2)) else ((mL_all E F r22.2 a0).bind (fun r24 => if ¬ (lg_cmp r24.1 r3.1) = 0 then (some (0, r24.2)) else (some (1, r24.2)))))))))))))))))) else (some (1, r1.2)))
set_option maxHeartbeats 4000000 in
set_option maxRecDepth 100000 in
theorem kL_isWeighed (l : Launch) (g : hk_G) (E : hk_E) (F n : Nat) (S : hk_S) (a0 : Nat) (x1 : Int32) (o : Int32 × hk_S) (h0 : E.2.1 a0 = 9) (hsp : mL_isWeighed E F S a0 x1 = some o) : Met l yL_isWeighed (hk_ws yL_isWeighed cL_isWeighed 7 (Option.some Jvm.ClassFile.FieldType.boolean)) ({ frames := 5, cells := 0, slots := 0, locals := 110 }) (hk_Pc g E S n [.ref (g.1 + a0), .int x1]) (hk_Q g E o.2 n (some (.int o.1))) 0 0 (hk_A g) := by
  refine Met.ofW (cc := cL_isWeighed) (maxL := 7) (ret := (Option.some Jvm.ClassFile.FieldType.boolean)) (by decide) rfl ?_
  intro p e s m args below meth c s₁ B hml hv
  obtain ⟨rfl, G⟩ := hk_begin hv
  have F9 : CallFix p m c cL_isWeighed 7 s [.ref (g.1 + a0), .int x1].toArray hk_W RL := ⟨B.exec, B.bytes, hml, findClass_of_methodNamed B.named, fun w h => atoms_spec (ws := hk_ws yL_isWeighed cL_isWeighed 7 (Option.some Jvm.ClassFile.FieldType.boolean)) B.pre w (hk_in h)⟩
  have hx := B.exec
  have hb := B.bytes
  have hr := B.returns
  have hlocks := B.notSynchronized
  have hl := lv_entry ([.ref (g.1 + a0), .int x1]) (n := 7) (Nat.le_of_ble_eq_true rfl)
  rw [lg_entry_eq]
  generalize (lg_sl ([.ref (g.1 + a0), .int x1]) ++ List.replicate (7 - (lg_sl ([.ref (g.1 + a0), .int x1])).length) Slot.unset).toArray = ls at hl ⊢
  have hl : lv_has ls 7 [(0, .ref (g.1 + a0)), (1, .int x1)] := hl
  unfold mL_isWeighed at hsp
  have G : hk_GG g E S n s s.heap [] := G
  refine lv_aload_n hx hb dL_isWeighed_0 rfl (lv_at hl 0 rfl) ?_
  obtain ⟨r1, er1, hsp⟩ := hk_b hsp
  refine hk_callVi (As := []) (rest := []) F9 G h0 hkc_8 rfl (kX11_hour l g E F n S a0 r1 h0 er1) qv_RL_59 ⟨rfl, rfl, (Nat.le_of_ble_eq_true rfl), (Nat.le_of_ble_eq_true rfl)⟩ rfl hl.1 rfl (Nat.le_of_ble_eq_true rfl) ⟨Nat.zero_le _, Nat.zero_le _⟩ dL_isWeighed_1 (fun H locs G => ?_)
  refine lv_iload_n hx hb dL_isWeighed_4 rfl (lv_at hl 1 rfl) ?_
  refine lv_iadd hx hb dL_isWeighed_5 ?_
  refine lv_sipush (v := 2000) hx hb dL_isWeighed_6 (by decide) ?_
  refine lv_icmp_le (tgt := 14) hx hb dL_isWeighed_9 (by decide) (fun c2 => ?_) (fun c2 => ?_)
  · have hsp := hk_t c2 hsp
    refine lv_aload_n hx hb dL_isWeighed_14 rfl (lv_at hl 0 rfl) ?_
    obtain ⟨r3, er3, hsp⟩ := hk_b hsp
    refine hk_callS (As := [.ref (g.1 + a0)]) (rest := []) F9 G (kL_all l g E F n r1.2 a0 r3 h0 er3) qv_RL_170 ⟨rfl, rfl, (Nat.le_of_ble_eq_true rfl), (Nat.le_of_ble_eq_true rfl)⟩ rfl hl.1 rfl (Nat.le_of_ble_eq_true rfl) ⟨Nat.zero_le _, Nat.zero_le _⟩ dL_isWeighed_15 (fun H locs G => ?_)
    refine lv_lstore_n (lv' := [(2, .long r3.1), (0, .ref (g.1 + a0)), (1, .int x1)]) hx hb dL_isWeighed_18 rfl hl (by decide) rfl (fun ls hl => ?_)
    refine lv_aload_n hx hb dL_isWeighed_19 rfl (lv_at hl 1 rfl) ?_
    obtain ⟨r4, er4, hsp⟩ := hk_b hsp
    refine hk_callVi (As := []) (rest := []) F9 G h0 hkc_8 rfl (kX11_lostWater l g E F n r3.2 a0 r4 h0 er4) qv_RL_95 ⟨rfl, rfl, (Nat.le_of_ble_eq_true rfl), (Nat.le_of_ble_eq_true rfl)⟩ rfl hl.1 rfl (Nat.le_of_ble_eq_true rfl) ⟨Nat.zero_le _, Nat.zero_le _⟩ dL_isWeighed_20 (fun H locs G => ?_)
    refine lv_istore (lv' := [(4, .int r4.1), (2, .long r3.1), (0, .ref (g.1 + a0)), (1, .int x1)]) hx hb dL_isWeighed_23  hl (by decide) rfl (fun ls hl => ?_)
    refine lv_aload_n hx hb dL_isWeighed_25 rfl (lv_at hl 2 rfl) ?_
    obtain ⟨r5, er5, hsp⟩ := hk_b hsp
    refine hk_callSi (As := [.ref (g.1 + a0)]) (rest := []) F9 G (kL_leaf l g E F n r4.2 a0 r5 h0 er5) qv_RL_176 ⟨rfl, rfl, (Nat.le_of_ble_eq_true rfl), (Nat.le_of_ble_eq_true rfl)⟩ rfl hl.1 rfl (Nat.le_of_ble_eq_true rfl) ⟨Nat.zero_le _, Nat.zero_le _⟩ dL_isWeighed_26 (fun H locs G => ?_)
    refine lv_istore (lv' := [(5, .int r5.1), (4, .int r4.1), (2, .long r3.1), (0, .ref (g.1 + a0)), (1, .int x1)]) hx hb dL_isWeighed_29  hl (by decide) rfl (fun ls hl => ?_)
    refine lv_aload_n hx hb dL_isWeighed_31 rfl (lv_at hl 3 rfl) ?_
    refine lv_iload_n hx hb dL_isWeighed_32 rfl (lv_at hl 4 rfl) ?_
    obtain ⟨r6, er6, hsp⟩ := hk_b hsp
    refine hk_callVi (As := [.int x1]) (rest := []) F9 G h0 hkc_8 rfl (kX11_passHours l g E F n r5.2 a0 x1 r6 h0 er6) qv_RL_62 ⟨rfl, rfl, (Nat.le_of_ble_eq_true rfl), (Nat.le_of_ble_eq_true rfl)⟩ rfl hl.1 rfl (Nat.le_of_ble_eq_true rfl) ⟨Nat.zero_le _, Nat.zero_le _⟩ dL_isWeighed_33 (fun H locs G => ?_)
    refine lv_pop hx hb dL_isWeighed_36 rfl ?_
    refine lv_lload_n hx hb dL_isWeighed_37 rfl (lv_at hl 2 rfl) ?_
    refine lv_aload_n hx hb dL_isWeighed_38 rfl (lv_at hl 3 rfl) ?_
    obtain ⟨r7, er7, hsp⟩ := hk_b hsp
    refine hk_callS (As := [.ref (g.1 + a0)]) (rest := [.long r3.1]) F9 G (kL_all l g E F n r6.2 a0 r7 h0 er7) qv_RL_170 ⟨rfl, rfl, (Nat.le_of_ble_eq_true rfl), (Nat.le_of_ble_eq_true rfl)⟩ rfl hl.1 rfl (Nat.le_of_ble_eq_true rfl) ⟨Nat.zero_le _, Nat.zero_le _⟩ dL_isWeighed_39 (fun H locs G => ?_)
    refine lv_lsub hx hb dL_isWeighed_42 ?_
    refine lv_aload_n hx hb dL_isWeighed_43 rfl (lv_at hl 3 rfl) ?_
    obtain ⟨r8, er8, hsp⟩ := hk_b hsp
    refine hk_callVi (As := []) (rest := [.long (r3.1 - r7.1)]) F9 G h0 hkc_8 rfl (kX11_lostWater l g E F n r7.2 a0 r8 h0 er8) qv_RL_95 ⟨rfl, rfl, (Nat.le_of_ble_eq_true rfl), (Nat.le_of_ble_eq_true rfl)⟩ rfl hl.1 rfl (Nat.le_of_ble_eq_true rfl) ⟨Nat.zero_le _, Nat.zero_le _⟩ dL_isWeighed_44 (fun H locs G => ?_)
    refine lv_iload hx hb dL_isWeighed_47 (lv_at hl 1 rfl) ?_
    refine lv_isub hx hb dL_isWeighed_49 ?_
    refine lv_i2l (v := ((r8.1 - r4.1) : Int32).toInt64) hx hb dL_isWeighed_50 rfl ?_
    refine W.lcmp hx hb dL_isWeighed_51 ?_
    refine lv_if_ne (tgt := 75) hx hb dL_isWeighed_52 (by decide) (fun c9 => ?_) (fun c9 => ?_)
    · have hsp := hk_t c9 hsp
      refine lv_iconst (v := 0) hx hb dL_isWeighed_75 (by decide) ?_
      refine lv_istore (lv' := [(6, .int 0), (5, .int r5.1), (4, .int r4.1), (2, .long r3.1), (0, .ref (g.1 + a0)), (1, .int x1)]) hx hb dL_isWeighed_76  hl (by decide) rfl (fun ls hl => ?_)
      refine lv_aload_n hx hb dL_isWeighed_78 rfl (lv_at hl 4 rfl) ?_
      obtain ⟨r10, er10, hsp⟩ := hk_b hsp
      refine hk_callVi (As := []) (rest := []) F9 G h0 hkc_8 rfl (kX11_undo l g E F n r8.2 a0 r10 h0 er10) qv_RL_184 ⟨rfl, rfl, (Nat.le_of_ble_eq_true rfl), (Nat.le_of_ble_eq_true rfl)⟩ rfl hl.1 rfl (Nat.le_of_ble_eq_true rfl) ⟨Nat.zero_le _, Nat.zero_le _⟩ dL_isWeighed_79 (fun H locs G => ?_)
      refine lv_pop hx hb dL_isWeighed_82 rfl ?_
      refine lv_iload hx hb dL_isWeighed_83 (lv_at hl 0 rfl) ?_
      refine lv_if_eq (tgt := 110) hx hb dL_isWeighed_85 (by decide) (fun c11 => ?_) (fun c11 => ?_)
      · refine lv_iconst (v := 0) hx hb dL_isWeighed_110 (by decide) ?_
        obtain rfl := hk_s hsp
        exact W.zret (v := 0) hx hb hr (hk_z (by decide)).1 (fun t ht hW => hk_end G ht hW) G.2.1.2.2 dL_isWeighed_111
      · exact absurd c11 (by decide)
    · have hsp := hk_g c9 hsp
      refine lv_aload_n hx hb dL_isWeighed_55 rfl (lv_at hl 3 rfl) ?_
      obtain ⟨r12, er12, hsp⟩ := hk_b hsp
      refine hk_callSi (As := [.ref (g.1 + a0)]) (rest := []) F9 G (kL_leaf l g E F n r8.2 a0 r12 h0 er12) qv_RL_176 ⟨rfl, rfl, (Nat.le_of_ble_eq_true rfl), (Nat.le_of_ble_eq_true rfl)⟩ rfl hl.1 rfl (Nat.le_of_ble_eq_true rfl) ⟨Nat.zero_le _, Nat.zero_le _⟩ dL_isWeighed_56 (fun H locs G => ?_)
      refine lv_iload hx hb dL_isWeighed_59 (lv_at hl 0 rfl) ?_
      refine lv_icmp_ne (tgt := 75) hx hb dL_isWeighed_61 (by decide) (fun c13 => ?_) (fun c13 => ?_)
      · have hsp := hk_t c13 hsp
        refine lv_iconst (v := 0) hx hb dL_isWeighed_75 (by decide) ?_
        refine lv_istore (lv' := [(6, .int 0), (5, .int r5.1), (4, .int r4.1), (2, .long r3.1), (0, .ref (g.1 + a0)), (1, .int x1)]) hx hb dL_isWeighed_76  hl (by decide) rfl (fun ls hl => ?_)
        refine lv_aload_n hx hb dL_isWeighed_78 rfl (lv_at hl 4 rfl) ?_
        obtain ⟨r14, er14, hsp⟩ := hk_b hsp
        refine hk_callVi (As := []) (rest := []) F9 G h0 hkc_8 rfl (kX11_undo l g E F n r12.2 a0 r14 h0 er14) qv_RL_184 ⟨rfl, rfl, (Nat.le_of_ble_eq_true rfl), (Nat.le_of_ble_eq_true rfl)⟩ rfl hl.1 rfl (Nat.le_of_ble_eq_true rfl) ⟨Nat.zero_le _, Nat.zero_le _⟩ dL_isWeighed_79 (fun H locs G => ?_)
        refine lv_pop hx hb dL_isWeighed_82 rfl ?_
        refine lv_iload hx hb dL_isWeighed_83 (lv_at hl 0 rfl) ?_
        refine lv_if_eq (tgt := 110) hx hb dL_isWeighed_85 (by decide) (fun c15 => ?_) (fun c15 => ?_)
        · refine lv_iconst (v := 0) hx hb dL_isWeighed_110 (by decide) ?_
          obtain rfl := hk_s hsp
          exact W.zret (v := 0) hx hb hr (hk_z (by decide)).1 (fun t ht hW => hk_end G ht hW) G.2.1.2.2 dL_isWeighed_111
        · exact absurd c15 (by decide)
      · have hsp := hk_g c13 hsp
        refine lv_aload_n hx hb dL_isWeighed_64 rfl (lv_at hl 3 rfl) ?_
        obtain ⟨r16, er16, hsp⟩ := hk_b hsp
        refine hk_callSi (As := [.ref (g.1 + a0)]) (rest := []) F9 G (kL_holds l g E F n r12.2 a0 r16 h0 er16) qv_RL_180 ⟨rfl, rfl, (Nat.le_of_ble_eq_true rfl), (Nat.le_of_ble_eq_true rfl)⟩ rfl hl.1 rfl (Nat.le_of_ble_eq_true rfl) ⟨Nat.zero_le _, Nat.zero_le _⟩ dL_isWeighed_65 (fun H locs G => ?_)
        refine lv_if_eq (tgt := 75) hx hb dL_isWeighed_68 (by decide) (fun c17 => ?_) (fun c17 => ?_)
        · have hsp := hk_t c17 hsp
          refine lv_iconst (v := 0) hx hb dL_isWeighed_75 (by decide) ?_
          refine lv_istore (lv' := [(6, .int 0), (5, .int r5.1), (4, .int r4.1), (2, .long r3.1), (0, .ref (g.1 + a0)), (1, .int x1)]) hx hb dL_isWeighed_76  hl (by decide) rfl (fun ls hl => ?_)
          refine lv_aload_n hx hb dL_isWeighed_78 rfl (lv_at hl 4 rfl) ?_
          obtain ⟨r18, er18, hsp⟩ := hk_b hsp
          refine hk_callVi (As := []) (rest := []) F9 G h0 hkc_8 rfl (kX11_undo l g E F n r16.2 a0 r18 h0 er18) qv_RL_184 ⟨rfl, rfl, (Nat.le_of_ble_eq_true rfl), (Nat.le_of_ble_eq_true rfl)⟩ rfl hl.1 rfl (Nat.le_of_ble_eq_true rfl) ⟨Nat.zero_le _, Nat.zero_le _⟩ dL_isWeighed_79 (fun H locs G => ?_)
          refine lv_pop hx hb dL_isWeighed_82 rfl ?_
          refine lv_iload hx hb dL_isWeighed_83 (lv_at hl 0 rfl) ?_
          refine lv_if_eq (tgt := 110) hx hb dL_isWeighed_85 (by decide) (fun c19 => ?_) (fun c19 => ?_)
          · refine lv_iconst (v := 0) hx hb dL_isWeighed_110 (by decide) ?_
            obtain rfl := hk_s hsp
            exact W.zret (v := 0) hx hb hr (hk_z (by decide)).1 (fun t ht hW => hk_end G ht hW) G.2.1.2.2 dL_isWeighed_111
          · exact absurd c19 (by decide)
        · have hsp := hk_f c17 hsp
          refine lv_iconst (v := 1) hx hb dL_isWeighed_71 (by decide) ?_
          refine lv_goto (tgt := 76) hx hb dL_isWeighed_72 (by decide) ?_
          refine lv_istore (lv' := [(6, .int 1), (5, .int r5.1), (4, .int r4.1), (2, .long r3.1), (0, .ref (g.1 + a0)), (1, .int x1)]) hx hb dL_isWeighed_76  hl (by decide) rfl (fun ls hl => ?_)
          refine lv_aload_n hx hb dL_isWeighed_78 rfl (lv_at hl 4 rfl) ?_
          obtain ⟨r20, er20, hsp⟩ := hk_b hsp
          refine hk_callVi (As := []) (rest := []) F9 G h0 hkc_8 rfl (kX11_undo l g E F n r16.2 a0 r20 h0 er20) qv_RL_184 ⟨rfl, rfl, (Nat.le_of_ble_eq_true rfl), (Nat.le_of_ble_eq_true rfl)⟩ rfl hl.1 rfl (Nat.le_of_ble_eq_true rfl) ⟨Nat.zero_le _, Nat.zero_le _⟩ dL_isWeighed_79 (fun H locs G => ?_)
          refine lv_pop hx hb dL_isWeighed_82 rfl ?_
          refine lv_iload hx hb dL_isWeighed_83 (lv_at hl 0 rfl) ?_
          refine lv_if_eq (tgt := 110) hx hb dL_isWeighed_85 (by decide) (fun c21 => ?_) (fun c21 => ?_)
          · exact absurd c21 (by decide)
          · refine lv_aload_n hx hb dL_isWeighed_88 rfl (lv_at hl 4 rfl) ?_
            obtain ⟨r22, er22, hsp⟩ := hk_b hsp
            refine hk_callVi (As := []) (rest := []) F9 G h0 hkc_8 rfl (kX11_lostWater l g E F n r20.2 a0 r22 h0 er22) qv_RL_95 ⟨rfl, rfl, (Nat.le_of_ble_eq_true rfl), (Nat.le_of_ble_eq_true rfl)⟩ rfl hl.1 rfl (Nat.le_of_ble_eq_true rfl) ⟨Nat.zero_le _, Nat.zero_le _⟩ dL_isWeighed_89 (fun H locs G => ?_)
            refine lv_iload hx hb dL_isWeighed_92 (lv_at hl 2 rfl) ?_
            refine lv_icmp_ne (tgt := 110) hx hb dL_isWeighed_94 (by decide) (fun c23 => ?_) (fun c23 => ?_)
            · have hsp := hk_t c23 hsp
              refine lv_iconst (v := 0) hx hb dL_isWeighed_110 (by decide) ?_
              obtain rfl := hk_s hsp
              exact W.zret (v := 0) hx hb hr (hk_z (by decide)).1 (fun t ht hW => hk_end G ht hW) G.2.1.2.2 dL_isWeighed_111
            · have hsp := hk_g c23 hsp
              refine lv_aload_n hx hb dL_isWeighed_97 rfl (lv_at hl 4 rfl) ?_
              obtain ⟨r24, er24, hsp⟩ := hk_b hsp
              refine hk_callS (As := [.ref (g.1 + a0)]) (rest := []) F9 G (kL_all l g E F n r22.2 a0 r24 h0 er24) qv_RL_170 ⟨rfl, rfl, (Nat.le_of_ble_eq_true rfl), (Nat.le_of_ble_eq_true rfl)⟩ rfl hl.1 rfl (Nat.le_of_ble_eq_true rfl) ⟨Nat.zero_le _, Nat.zero_le _⟩ dL_isWeighed_98 (fun H locs G => ?_)
              refine lv_lload_n hx hb dL_isWeighed_101 rfl (lv_at hl 3 rfl) ?_
              refine W.lcmp hx hb dL_isWeighed_102 ?_
              refine lv_if_ne (tgt := 110) hx hb dL_isWeighed_103 (by decide) (fun c25 => ?_) (fun c25 => ?_)
              · have hsp := hk_t c25 hsp
                refine lv_iconst (v := 0) hx hb dL_isWeighed_110 (by decide) ?_
                obtain rfl := hk_s hsp
                exact W.zret (v := 0) hx hb hr (hk_z (by decide)).1 (fun t ht hW => hk_end G ht hW) G.2.1.2.2 dL_isWeighed_111
              · have hsp := hk_g c25 hsp
                refine lv_iconst (v := 1) hx hb dL_isWeighed_106 (by decide) ?_
                refine lv_goto (tgt := 111) hx hb dL_isWeighed_107 (by decide) ?_
                obtain rfl := hk_s hsp
                exact W.zret (v := 1) hx hb hr (hk_z (by decide)).1 (fun t ht hW => hk_end G ht hW) G.2.1.2.2 dL_isWeighed_111
  · have hsp := hk_f c2 hsp
    refine lv_iconst (v := 1) hx hb dL_isWeighed_12 (by decide) ?_
    obtain rfl := hk_s hsp
    exact W.zret (v := 1) hx hb hr (hk_z (by decide)).1 (fun t ht hW => hk_end G ht hW) G.2.1.2.2 dL_isWeighed_13
def mL_isSame (E : hk_E) (F : Nat) (S : hk_S) (a0 : Nat) (x1 : Int32) (x2 : Int32) : Option (Int32 × hk_S) :=
(mX11_hour E F S a0).bind (fun r1 => if ((r1.1 + x1) + x2) ≤ 2000 then ((mL_sum E F r1.2 a0).bind (fun r3 => (mX11_saveSnapshot E F r3.2 a0).bind (fun r4 => (mX11_passHours E F r4.2 a0 (x1 + x2)).bind (fun r5 => (mL_sum E F r5.2 a0).bind (fun r6 => (mX11_restoreSnapshot E F r6.2 a0).bind (fun r7 => (mX11_passHours E F r7.2 a0 x1).bind (fun r8 => (mX11_passHours E F r8.2 a0 x2).bind (fun r9 => if ¬ r9.1 = r5.1 then ((mX11_restoreSnapshot E F r9.2 a0).bind (fun r11 => some (0, r11.2))) else ((mL_sum E F r9.2 a0).bind (fun r13 => if ¬ (lg_cmp r13.1 r6.1) = 0 then ((mX11_restoreSnapshot E F r13.2 a0).bind (fun r15 => some (0, r15.2))) else ((mX11_restoreSnapshot E F r13.2 a0).bind (fun r17 => (mL_sum E F r17.2 a0).bind (fun r19 => if ¬ (lg_cmp r19.1 r3.1) = 0 then (some (0, r19.2)) else (some (1, r19.2))))))))))))))) else (some (1, r1.2)))
set_option maxHeartbeats 4000000 in
set_option maxRecDepth 100000 in
theorem kL_isSame (l : Launch) (g : hk_G) (E : hk_E) (F n : Nat) (S : hk_S) (a0 : Nat) (x1 : Int32) (x2 : Int32) (o : Int32 × hk_S) (h0 : E.2.1 a0 = 9) (hsp : mL_isSame E F S a0 x1 x2 = some o) : Met l yL_isSame (hk_ws yL_isSame cL_isSame 9 (Option.some Jvm.ClassFile.FieldType.boolean)) ({ frames := 5, cells := 0, slots := 0, locals := 110 }) (hk_Pc g E S n [.ref (g.1 + a0), .int x1, .int x2]) (hk_Q g E o.2 n (some (.int o.1))) 0 0 (hk_A g) := by
  refine Met.ofW (cc := cL_isSame) (maxL := 9) (ret := (Option.some Jvm.ClassFile.FieldType.boolean)) (by decide) rfl ?_
  intro p e s m args below meth c s₁ B hml hv
  obtain ⟨rfl, G⟩ := hk_begin hv
  have F9 : CallFix p m c cL_isSame 9 s [.ref (g.1 + a0), .int x1, .int x2].toArray hk_W RL := ⟨B.exec, B.bytes, hml, findClass_of_methodNamed B.named, fun w h => atoms_spec (ws := hk_ws yL_isSame cL_isSame 9 (Option.some Jvm.ClassFile.FieldType.boolean)) B.pre w (hk_in h)⟩
  have hx := B.exec
  have hb := B.bytes
  have hr := B.returns
  have hlocks := B.notSynchronized
  have hl := lv_entry ([.ref (g.1 + a0), .int x1, .int x2]) (n := 9) (Nat.le_of_ble_eq_true rfl)
  rw [lg_entry_eq]
  generalize (lg_sl ([.ref (g.1 + a0), .int x1, .int x2]) ++ List.replicate (9 - (lg_sl ([.ref (g.1 + a0), .int x1, .int x2])).length) Slot.unset).toArray = ls at hl ⊢
  have hl : lv_has ls 9 [(0, .ref (g.1 + a0)), (1, .int x1), (2, .int x2)] := hl
  unfold mL_isSame at hsp
  have G : hk_GG g E S n s s.heap [] := G
  refine lv_aload_n hx hb dL_isSame_0 rfl (lv_at hl 0 rfl) ?_
  obtain ⟨r1, er1, hsp⟩ := hk_b hsp
  refine hk_callVi (As := []) (rest := []) F9 G h0 hkc_8 rfl (kX11_hour l g E F n S a0 r1 h0 er1) qv_RL_59 ⟨rfl, rfl, (Nat.le_of_ble_eq_true rfl), (Nat.le_of_ble_eq_true rfl)⟩ rfl hl.1 rfl (Nat.le_of_ble_eq_true rfl) ⟨Nat.zero_le _, Nat.zero_le _⟩ dL_isSame_1 (fun H locs G => ?_)
  refine lv_iload_n hx hb dL_isSame_4 rfl (lv_at hl 1 rfl) ?_
  refine lv_iadd hx hb dL_isSame_5 ?_
  refine lv_iload_n hx hb dL_isSame_6 rfl (lv_at hl 2 rfl) ?_
  refine lv_iadd hx hb dL_isSame_7 ?_
  refine lv_sipush (v := 2000) hx hb dL_isSame_8 (by decide) ?_
  refine lv_icmp_le (tgt := 16) hx hb dL_isSame_11 (by decide) (fun c2 => ?_) (fun c2 => ?_)
  · have hsp := hk_t c2 hsp
    refine lv_aload_n hx hb dL_isSame_16 rfl (lv_at hl 0 rfl) ?_
    obtain ⟨r3, er3, hsp⟩ := hk_b hsp
    refine hk_callS (As := [.ref (g.1 + a0)]) (rest := []) F9 G (kL_sum l g E F n r1.2 a0 r3 h0 er3) qv_RL_187 ⟨rfl, rfl, (Nat.le_of_ble_eq_true rfl), (Nat.le_of_ble_eq_true rfl)⟩ rfl hl.1 rfl (Nat.le_of_ble_eq_true rfl) ⟨Nat.zero_le _, Nat.zero_le _⟩ dL_isSame_17 (fun H locs G => ?_)
    refine lv_lstore_n (lv' := [(3, .long r3.1), (0, .ref (g.1 + a0)), (1, .int x1), (2, .int x2)]) hx hb dL_isSame_20 rfl hl (by decide) rfl (fun ls hl => ?_)
    refine lv_aload_n hx hb dL_isSame_21 rfl (lv_at hl 1 rfl) ?_
    obtain ⟨r4, er4, hsp⟩ := hk_b hsp
    refine hk_callVi (As := []) (rest := []) F9 G h0 hkc_8 rfl (kX11_saveSnapshot l g E F n r3.2 a0 r4 h0 er4) qv_RL_190 ⟨rfl, rfl, (Nat.le_of_ble_eq_true rfl), (Nat.le_of_ble_eq_true rfl)⟩ rfl hl.1 rfl (Nat.le_of_ble_eq_true rfl) ⟨Nat.zero_le _, Nat.zero_le _⟩ dL_isSame_22 (fun H locs G => ?_)
    refine lv_pop hx hb dL_isSame_25 rfl ?_
    refine lv_aload_n hx hb dL_isSame_26 rfl (lv_at hl 1 rfl) ?_
    refine lv_iload_n hx hb dL_isSame_27 rfl (lv_at hl 2 rfl) ?_
    refine lv_iload_n hx hb dL_isSame_28 rfl (lv_at hl 3 rfl) ?_
    refine lv_iadd hx hb dL_isSame_29 ?_
    obtain ⟨r5, er5, hsp⟩ := hk_b hsp
    refine hk_callVi (As := [.int (x1 + x2)]) (rest := []) F9 G h0 hkc_8 rfl (kX11_passHours l g E F n r4.2 a0 (x1 + x2) r5 h0 er5) qv_RL_62 ⟨rfl, rfl, (Nat.le_of_ble_eq_true rfl), (Nat.le_of_ble_eq_true rfl)⟩ rfl hl.1 rfl (Nat.le_of_ble_eq_true rfl) ⟨Nat.zero_le _, Nat.zero_le _⟩ dL_isSame_30 (fun H locs G => ?_)
    refine lv_istore (lv' := [(5, .int r5.1), (3, .long r3.1), (0, .ref (g.1 + a0)), (1, .int x1), (2, .int x2)]) hx hb dL_isSame_33  hl (by decide) rfl (fun ls hl => ?_)
    refine lv_aload_n hx hb dL_isSame_35 rfl (lv_at hl 2 rfl) ?_
    obtain ⟨r6, er6, hsp⟩ := hk_b hsp
    refine hk_callS (As := [.ref (g.1 + a0)]) (rest := []) F9 G (kL_sum l g E F n r5.2 a0 r6 h0 er6) qv_RL_187 ⟨rfl, rfl, (Nat.le_of_ble_eq_true rfl), (Nat.le_of_ble_eq_true rfl)⟩ rfl hl.1 rfl (Nat.le_of_ble_eq_true rfl) ⟨Nat.zero_le _, Nat.zero_le _⟩ dL_isSame_36 (fun H locs G => ?_)
    refine lv_lstore (lv' := [(6, .long r6.1), (5, .int r5.1), (3, .long r3.1), (0, .ref (g.1 + a0)), (1, .int x1), (2, .int x2)]) hx hb dL_isSame_39  hl (by decide) rfl (fun ls hl => ?_)
    refine lv_aload_n hx hb dL_isSame_41 rfl (lv_at hl 3 rfl) ?_
    obtain ⟨r7, er7, hsp⟩ := hk_b hsp
    refine hk_callVi (As := []) (rest := []) F9 G h0 hkc_8 rfl (kX11_restoreSnapshot l g E F n r6.2 a0 r7 h0 er7) qv_RL_193 ⟨rfl, rfl, (Nat.le_of_ble_eq_true rfl), (Nat.le_of_ble_eq_true rfl)⟩ rfl hl.1 rfl (Nat.le_of_ble_eq_true rfl) ⟨Nat.zero_le _, Nat.zero_le _⟩ dL_isSame_42 (fun H locs G => ?_)
    refine lv_pop hx hb dL_isSame_45 rfl ?_
    refine lv_aload_n hx hb dL_isSame_46 rfl (lv_at hl 3 rfl) ?_
    refine lv_iload_n hx hb dL_isSame_47 rfl (lv_at hl 4 rfl) ?_
    obtain ⟨r8, er8, hsp⟩ := hk_b hsp
    refine hk_callVi (As := [.int x1]) (rest := []) F9 G h0 hkc_8 rfl (kX11_passHours l g E F n r7.2 a0 x1 r8 h0 er8) qv_RL_62 ⟨rfl, rfl, (Nat.le_of_ble_eq_true rfl), (Nat.le_of_ble_eq_true rfl)⟩ rfl hl.1 rfl (Nat.le_of_ble_eq_true rfl) ⟨Nat.zero_le _, Nat.zero_le _⟩ dL_isSame_48 (fun H locs G => ?_)
    refine lv_pop hx hb dL_isSame_51 rfl ?_
    refine lv_aload_n hx hb dL_isSame_52 rfl (lv_at hl 3 rfl) ?_
    refine lv_iload_n hx hb dL_isSame_53 rfl (lv_at hl 5 rfl) ?_
    obtain ⟨r9, er9, hsp⟩ := hk_b hsp
    refine hk_callVi (As := [.int x2]) (rest := []) F9 G h0 hkc_8 rfl (kX11_passHours l g E F n r8.2 a0 x2 r9 h0 er9) qv_RL_62 ⟨rfl, rfl, (Nat.le_of_ble_eq_true rfl), (Nat.le_of_ble_eq_true rfl)⟩ rfl hl.1 rfl (Nat.le_of_ble_eq_true rfl) ⟨Nat.zero_le _, Nat.zero_le _⟩ dL_isSame_54 (fun H locs G => ?_)
    refine lv_iload hx hb dL_isSame_57 (lv_at hl 1 rfl) ?_
    refine lv_icmp_ne (tgt := 76) hx hb dL_isSame_59 (by decide) (fun c10 => ?_) (fun c10 => ?_)
    · have hsp := hk_t c10 hsp
      refine lv_iconst (v := 0) hx hb dL_isSame_76 (by decide) ?_
      refine lv_istore (lv' := [(8, .int 0), (6, .long r6.1), (5, .int r5.1), (3, .long r3.1), (0, .ref (g.1 + a0)), (1, .int x1), (2, .int x2)]) hx hb dL_isSame_77  hl (by decide) rfl (fun ls hl => ?_)
      refine lv_aload_n hx hb dL_isSame_79 rfl (lv_at hl 4 rfl) ?_
      obtain ⟨r11, er11, hsp⟩ := hk_b hsp
      refine hk_callVi (As := []) (rest := []) F9 G h0 hkc_8 rfl (kX11_restoreSnapshot l g E F n r9.2 a0 r11 h0 er11) qv_RL_193 ⟨rfl, rfl, (Nat.le_of_ble_eq_true rfl), (Nat.le_of_ble_eq_true rfl)⟩ rfl hl.1 rfl (Nat.le_of_ble_eq_true rfl) ⟨Nat.zero_le _, Nat.zero_le _⟩ dL_isSame_80 (fun H locs G => ?_)
      refine lv_pop hx hb dL_isSame_83 rfl ?_
      refine lv_iload hx hb dL_isSame_84 (lv_at hl 0 rfl) ?_
      refine lv_if_eq (tgt := 102) hx hb dL_isSame_86 (by decide) (fun c12 => ?_) (fun c12 => ?_)
      · refine lv_iconst (v := 0) hx hb dL_isSame_102 (by decide) ?_
        obtain rfl := hk_s hsp
        exact W.zret (v := 0) hx hb hr (hk_z (by decide)).1 (fun t ht hW => hk_end G ht hW) G.2.1.2.2 dL_isSame_103
      · exact absurd c12 (by decide)
    · have hsp := hk_g c10 hsp
      refine lv_aload_n hx hb dL_isSame_62 rfl (lv_at hl 3 rfl) ?_
      obtain ⟨r13, er13, hsp⟩ := hk_b hsp
      refine hk_callS (As := [.ref (g.1 + a0)]) (rest := []) F9 G (kL_sum l g E F n r9.2 a0 r13 h0 er13) qv_RL_187 ⟨rfl, rfl, (Nat.le_of_ble_eq_true rfl), (Nat.le_of_ble_eq_true rfl)⟩ rfl hl.1 rfl (Nat.le_of_ble_eq_true rfl) ⟨Nat.zero_le _, Nat.zero_le _⟩ dL_isSame_63 (fun H locs G => ?_)
      refine lv_lload hx hb dL_isSame_66 (lv_at hl 0 rfl) ?_
      refine W.lcmp hx hb dL_isSame_68 ?_
      refine lv_if_ne (tgt := 76) hx hb dL_isSame_69 (by decide) (fun c14 => ?_) (fun c14 => ?_)
      · have hsp := hk_t c14 hsp
        refine lv_iconst (v := 0) hx hb dL_isSame_76 (by decide) ?_
        refine lv_istore (lv' := [(8, .int 0), (6, .long r6.1), (5, .int r5.1), (3, .long r3.1), (0, .ref (g.1 + a0)), (1, .int x1), (2, .int x2)]) hx hb dL_isSame_77  hl (by decide) rfl (fun ls hl => ?_)
        refine lv_aload_n hx hb dL_isSame_79 rfl (lv_at hl 4 rfl) ?_
        obtain ⟨r15, er15, hsp⟩ := hk_b hsp
        refine hk_callVi (As := []) (rest := []) F9 G h0 hkc_8 rfl (kX11_restoreSnapshot l g E F n r13.2 a0 r15 h0 er15) qv_RL_193 ⟨rfl, rfl, (Nat.le_of_ble_eq_true rfl), (Nat.le_of_ble_eq_true rfl)⟩ rfl hl.1 rfl (Nat.le_of_ble_eq_true rfl) ⟨Nat.zero_le _, Nat.zero_le _⟩ dL_isSame_80 (fun H locs G => ?_)
        refine lv_pop hx hb dL_isSame_83 rfl ?_
        refine lv_iload hx hb dL_isSame_84 (lv_at hl 0 rfl) ?_
        refine lv_if_eq (tgt := 102) hx hb dL_isSame_86 (by decide) (fun c16 => ?_) (fun c16 => ?_)
        · refine lv_iconst (v := 0) hx hb dL_isSame_102 (by decide) ?_
          obtain rfl := hk_s hsp
          exact W.zret (v := 0) hx hb hr (hk_z (by decide)).1 (fun t ht hW => hk_end G ht hW) G.2.1.2.2 dL_isSame_103
        · exact absurd c16 (by decide)
      · have hsp := hk_g c14 hsp
        refine lv_iconst (v := 1) hx hb dL_isSame_72 (by decide) ?_
        refine lv_goto (tgt := 77) hx hb dL_isSame_73 (by decide) ?_
        refine lv_istore (lv' := [(8, .int 1), (6, .long r6.1), (5, .int r5.1), (3, .long r3.1), (0, .ref (g.1 + a0)), (1, .int x1), (2, .int x2)]) hx hb dL_isSame_77  hl (by decide) rfl (fun ls hl => ?_)
        refine lv_aload_n hx hb dL_isSame_79 rfl (lv_at hl 4 rfl) ?_
        obtain ⟨r17, er17, hsp⟩ := hk_b hsp
        refine hk_callVi (As := []) (rest := []) F9 G h0 hkc_8 rfl (kX11_restoreSnapshot l g E F n r13.2 a0 r17 h0 er17) qv_RL_193 ⟨rfl, rfl, (Nat.le_of_ble_eq_true rfl), (Nat.le_of_ble_eq_true rfl)⟩ rfl hl.1 rfl (Nat.le_of_ble_eq_true rfl) ⟨Nat.zero_le _, Nat.zero_le _⟩ dL_isSame_80 (fun H locs G => ?_)
        refine lv_pop hx hb dL_isSame_83 rfl ?_
        refine lv_iload hx hb dL_isSame_84 (lv_at hl 0 rfl) ?_
        refine lv_if_eq (tgt := 102) hx hb dL_isSame_86 (by decide) (fun c18 => ?_) (fun c18 => ?_)
        · exact absurd c18 (by decide)
        · refine lv_aload_n hx hb dL_isSame_89 rfl (lv_at hl 4 rfl) ?_
          obtain ⟨r19, er19, hsp⟩ := hk_b hsp
          refine hk_callS (As := [.ref (g.1 + a0)]) (rest := []) F9 G (kL_sum l g E F n r17.2 a0 r19 h0 er19) qv_RL_187 ⟨rfl, rfl, (Nat.le_of_ble_eq_true rfl), (Nat.le_of_ble_eq_true rfl)⟩ rfl hl.1 rfl (Nat.le_of_ble_eq_true rfl) ⟨Nat.zero_le _, Nat.zero_le _⟩ dL_isSame_90 (fun H locs G => ?_)
          refine lv_lload_n hx hb dL_isSame_93 rfl (lv_at hl 3 rfl) ?_
          refine W.lcmp hx hb dL_isSame_94 ?_
          refine lv_if_ne (tgt := 102) hx hb dL_isSame_95 (by decide) (fun c20 => ?_) (fun c20 => ?_)
          · have hsp := hk_t c20 hsp
            refine lv_iconst (v := 0) hx hb dL_isSame_102 (by decide) ?_
            obtain rfl := hk_s hsp
            exact W.zret (v := 0) hx hb hr (hk_z (by decide)).1 (fun t ht hW => hk_end G ht hW) G.2.1.2.2 dL_isSame_103
          · have hsp := hk_g c20 hsp
            refine lv_iconst (v := 1) hx hb dL_isSame_98 (by decide) ?_
            refine lv_goto (tgt := 103) hx hb dL_isSame_99 (by decide) ?_
            obtain rfl := hk_s hsp
            exact W.zret (v := 1) hx hb hr (hk_z (by decide)).1 (fun t ht hW => hk_end G ht hW) G.2.1.2.2 dL_isSame_103
  · have hsp := hk_f c2 hsp
    refine lv_iconst (v := 1) hx hb dL_isSame_14 (by decide) ?_
    obtain rfl := hk_s hsp
    exact W.zret (v := 1) hx hb hr (hk_z (by decide)).1 (fun t ht hW => hk_end G ht hW) G.2.1.2.2 dL_isSame_15
