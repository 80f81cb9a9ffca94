def mX8_keep (E : hk_E) (F : Nat) (S : hk_S) (a0 : Nat) (x1 : Int32) : Option (Int32 × hk_S) :=
if (S a0 9) < 0 then (some (1, S)) else (if 4 ≤ (S a0 9) then (some (1, S)) else ((E.2.2.2 a0 8).bind (fun r3 => if E.2.1 r3 = 13 then (if hk_ok (S a0 9) (E.2.2.1 r3) then (hk_let (hk_up S r3 (((S a0 9)).toNatClampNeg) x1) (fun S5 => hk_let (hk_up S5 a0 9 ((S5 a0 9) + 1)) (fun S6 => some (1, S6)))) else none) else none)))
set_option maxHeartbeats 4000000 in
set_option maxRecDepth 100000 in
theorem kX8_keep (l : Launch) (g : hk_G) (E : hk_E) (F n : Nat) (S : hk_S) (a0 : Nat) (x1 : Int32) (o : Int32 × hk_S) (h0 : E.2.1 a0 = 7) (hsp : mX8_keep E F S a0 x1 = some o) : Met l yX8_keep (hk_ws yX8_keep cX8_keep 2 (Option.some Jvm.ClassFile.FieldType.boolean)) ({ frames := 0, cells := 0, slots := 0, locals := 0 }) (hk_Pc g E S n [.ref (g.1 + a0), .int x1]) (hk_Q g E o.2 n (some (.int o.1))) 0 0 (hk_A g) := by
  refine Met.ofW (cc := cX8_keep) (maxL := 2) (ret := (Option.some Jvm.ClassFile.FieldType.boolean)) (by decide) rfl ?_
  intro p e s m args below meth c s₁ B hml hv
  obtain ⟨rfl, G⟩ := hk_begin hv
  have F9 : CallFix p m c cX8_keep 2 s [.ref (g.1 + a0), .int x1].toArray hk_W RX8 := ⟨B.exec, B.bytes, hml, findClass_of_methodNamed B.named, fun w h => atoms_spec (ws := hk_ws yX8_keep cX8_keep 2 (Option.some Jvm.ClassFile.FieldType.boolean)) B.pre w (hk_in h)⟩
  have hx := B.exec
  have hb := B.bytes
  have hr := B.returns
  have hlocks := B.notSynchronized
  have hl := lv_entry ([.ref (g.1 + a0), .int x1]) (n := 2) (Nat.le_of_ble_eq_true rfl)
  rw [lg_entry_eq]
  generalize (lg_sl ([.ref (g.1 + a0), .int x1]) ++ List.replicate (2 - (lg_sl ([.ref (g.1 + a0), .int x1])).length) Slot.unset).toArray = ls at hl ⊢
  have hl : lv_has ls 2 [(0, .ref (g.1 + a0)), (1, .int x1)] := hl
  unfold mX8_keep at hsp
  have G : hk_GG g E S n s s.heap [] := G
  refine lv_aload_n hx hb dX8_keep_0 rfl (lv_at hl 0 rfl) ?_
  refine hk_getI F9 G h0 hkc_6 (k := 9) (by decide) qw_281 rfl dX8_keep_1 ?_
  refine lv_if_lt (tgt := 35) hx hb dX8_keep_4 (by decide) (fun c1 => ?_) (fun c1 => ?_)
  · have hsp := hk_t c1 hsp
    refine lv_iconst (v := 1) hx hb dX8_keep_35 (by decide) ?_
    obtain rfl := hk_s hsp
    exact W.zret (v := 1) hx hb hr (hk_z (by decide)).1 (fun t ht hW => hk_end G ht hW) G.2.1.2.2 dX8_keep_36
  · have hsp := hk_f c1 hsp
    refine lv_aload_n hx hb dX8_keep_7 rfl (lv_at hl 0 rfl) ?_
    refine hk_getI F9 G h0 hkc_6 (k := 9) (by decide) qw_281 rfl dX8_keep_8 ?_
    refine lv_iconst (v := 4) hx hb dX8_keep_11 (by decide) ?_
    refine lv_icmp_ge (tgt := 35) hx hb dX8_keep_12 (by decide) (fun c2 => ?_) (fun c2 => ?_)
    · have hsp := hk_t c2 hsp
      refine lv_iconst (v := 1) hx hb dX8_keep_35 (by decide) ?_
      obtain rfl := hk_s hsp
      exact W.zret (v := 1) hx hb hr (hk_z (by decide)).1 (fun t ht hW => hk_end G ht hW) G.2.1.2.2 dX8_keep_36
    · have hsp := hk_f c2 hsp
      refine lv_aload_n hx hb dX8_keep_15 rfl (lv_at hl 0 rfl) ?_
      obtain ⟨r3, er3, hsp⟩ := hk_b hsp
      obtain ⟨kr3, hsp⟩ := hk_k hsp
      refine hk_getR F9 G h0 hkc_6 (k := 8) (by decide) qw_280 rfl er3 dX8_keep_16 ?_
      refine lv_aload_n hx hb dX8_keep_19 rfl (lv_at hl 0 rfl) ?_
      refine hk_getI F9 G h0 hkc_6 (k := 9) (by decide) qw_281 rfl dX8_keep_20 ?_
      refine lv_iload_n hx hb dX8_keep_23 rfl (lv_at hl 1 rfl) ?_
      obtain ⟨q4, hsp⟩ := hk_k hsp
      obtain ⟨S5, eS5, hsp⟩ := hk_l hsp
      refine hk_iast (j := ((S a0 9)).toNatClampNeg) F9 G kr3 rfl q4 rfl dX8_keep_24 (fun H locs G => ?_)
      rw [eS5] at G
      refine lv_aload_n hx hb dX8_keep_25 rfl (lv_at hl 0 rfl) ?_
      refine lv_dup hx hb dX8_keep_26 rfl ?_
      refine hk_getI F9 G h0 hkc_6 (k := 9) (by decide) qw_281 rfl dX8_keep_27 ?_
      refine lv_iconst (v := 1) hx hb dX8_keep_30 (by decide) ?_
      refine lv_iadd hx hb dX8_keep_31 ?_
      obtain ⟨S6, eS6, hsp⟩ := hk_l hsp
      refine hk_putI F9 G h0 hkc_6 (k := 9) (by decide) qw_281 rfl rfl (tyX8_ok 9 (by decide)) rfl rfl dX8_keep_32 (fun H locs G => ?_)
      rw [eS6] at G
      refine lv_iconst (v := 1) hx hb dX8_keep_35 (by decide) ?_
      obtain rfl := hk_s hsp
      exact W.zret (v := 1) hx hb hr (hk_z (by decide)).1 (fun t ht hW => hk_end G ht hW) G.2.1.2.2 dX8_keep_36
def mX8_operand (E : hk_E) (F : Nat) (S : hk_S) (a0 : Nat) (x1 : Int32) : Option (Int32 × hk_S) :=
if x1 < 0 then (some (0, S)) else (if 4 ≤ x1 then (some (0, S)) else ((E.2.2.2 a0 8).bind (fun r3 => if E.2.1 r3 = 13 then (if hk_ok x1 (E.2.2.1 r3) then (some ((S r3 ((x1).toNatClampNeg)), S)) else none) else none)))
set_option maxHeartbeats 4000000 in
set_option maxRecDepth 100000 in
theorem kX8_operand (l : Launch) (g : hk_G) (E : hk_E) (F n : Nat) (S : hk_S) (a0 : Nat) (x1 : Int32) (o : Int32 × hk_S) (h0 : E.2.1 a0 = 7) (hsp : mX8_operand E F S a0 x1 = some o) : Met l yX8_operand (hk_ws yX8_operand cX8_operand 2 (Option.some Jvm.ClassFile.FieldType.int)) ({ frames := 0, cells := 0, slots := 0, locals := 0 }) (hk_Pc g E S n [.ref (g.1 + a0), .int x1]) (hk_Q g E o.2 n (some (.int o.1))) 0 0 (hk_A g) := by
  refine Met.ofW (cc := cX8_operand) (maxL := 2) (ret := (Option.some Jvm.ClassFile.FieldType.int)) (by decide) rfl ?_
  intro p e s m args below meth c s₁ B hml hv
  obtain ⟨rfl, G⟩ := hk_begin hv
  have F9 : CallFix p m c cX8_operand 2 s [.ref (g.1 + a0), .int x1].toArray hk_W RX8 := ⟨B.exec, B.bytes, hml, findClass_of_methodNamed B.named, fun w h => atoms_spec (ws := hk_ws yX8_operand cX8_operand 2 (Option.some Jvm.ClassFile.FieldType.int)) B.pre w (hk_in h)⟩
  have hx := B.exec
  have hb := B.bytes
  have hr := B.returns
  have hlocks := B.notSynchronized
  have hl := lv_entry ([.ref (g.1 + a0), .int x1]) (n := 2) (Nat.le_of_ble_eq_true rfl)
  rw [lg_entry_eq]
  generalize (lg_sl ([.ref (g.1 + a0), .int x1]) ++ List.replicate (2 - (lg_sl ([.ref (g.1 + a0), .int x1])).length) Slot.unset).toArray = ls at hl ⊢
  have hl : lv_has ls 2 [(0, .ref (g.1 + a0)), (1, .int x1)] := hl
  unfold mX8_operand at hsp
  have G : hk_GG g E S n s s.heap [] := G
  refine lv_iload_n hx hb dX8_operand_0 rfl (lv_at hl 1 rfl) ?_
  refine lv_if_lt (tgt := 18) hx hb dX8_operand_1 (by decide) (fun c1 => ?_) (fun c1 => ?_)
  · have hsp := hk_t c1 hsp
    refine lv_iconst (v := 0) hx hb dX8_operand_18 (by decide) ?_
    obtain rfl := hk_s hsp
    exact W.iret (v := 0) hx hb hr (fun t ht hW => hk_end G ht hW) G.2.1.2.2 dX8_operand_19
  · have hsp := hk_f c1 hsp
    refine lv_iload_n hx hb dX8_operand_4 rfl (lv_at hl 1 rfl) ?_
    refine lv_iconst (v := 4) hx hb dX8_operand_5 (by decide) ?_
    refine lv_icmp_ge (tgt := 18) hx hb dX8_operand_6 (by decide) (fun c2 => ?_) (fun c2 => ?_)
    · have hsp := hk_t c2 hsp
      refine lv_iconst (v := 0) hx hb dX8_operand_18 (by decide) ?_
      obtain rfl := hk_s hsp
      exact W.iret (v := 0) hx hb hr (fun t ht hW => hk_end G ht hW) G.2.1.2.2 dX8_operand_19
    · have hsp := hk_f c2 hsp
      refine lv_aload_n hx hb dX8_operand_9 rfl (lv_at hl 0 rfl) ?_
      obtain ⟨r3, er3, hsp⟩ := hk_b hsp
      obtain ⟨kr3, hsp⟩ := hk_k hsp
      refine hk_getR F9 G h0 hkc_6 (k := 8) (by decide) qw_280 rfl er3 dX8_operand_10 ?_
      refine lv_iload_n hx hb dX8_operand_13 rfl (lv_at hl 1 rfl) ?_
      obtain ⟨q4, hsp⟩ := hk_k hsp
      refine hk_iald (j := (x1).toNatClampNeg) F9 G kr3 rfl q4 rfl dX8_operand_14 ?_
      refine lv_goto (tgt := 19) hx hb dX8_operand_15 (by decide) ?_
      obtain rfl := hk_s hsp
      exact W.iret (v := (S r3 ((x1).toNatClampNeg))) hx hb hr (fun t ht hW => hk_end G ht hW) G.2.1.2.2 dX8_operand_19
def mX8_fail (E : hk_E) (F : Nat) (S : hk_S) (a0 : Nat) (x1 : Int32) : Option (Int32 × hk_S) :=
hk_let (hk_up S a0 2 x1) (fun S1 => hk_let (hk_up S1 a0 3 (S1 a0 6)) (fun S2 => some (0, S2)))
set_option maxHeartbeats 4000000 in
set_option maxRecDepth 100000 in
theorem kX8_fail (l : Launch) (g : hk_G) (E : hk_E) (F n : Nat) (S : hk_S) (a0 : Nat) (x1 : Int32) (o : Int32 × hk_S) (h0 : E.2.1 a0 = 7) (hsp : mX8_fail E F S a0 x1 = some o) : Met l yX8_fail (hk_ws yX8_fail cX8_fail 2 (Option.some Jvm.ClassFile.FieldType.boolean)) ({ frames := 0, cells := 0, slots := 0, locals := 0 }) (hk_Pc g E S n [.ref (g.1 + a0), .int x1]) (hk_Q g E o.2 n (some (.int o.1))) 0 0 (hk_A g) := by
  refine Met.ofW (cc := cX8_fail) (maxL := 2) (ret := (Option.some Jvm.ClassFile.FieldType.boolean)) (by decide) rfl ?_
  intro p e s m args below meth c s₁ B hml hv
  obtain ⟨rfl, G⟩ := hk_begin hv
  have F9 : CallFix p m c cX8_fail 2 s [.ref (g.1 + a0), .int x1].toArray hk_W RX8 := ⟨B.exec, B.bytes, hml, findClass_of_methodNamed B.named, fun w h => atoms_spec (ws := hk_ws yX8_fail cX8_fail 2 (Option.some Jvm.ClassFile.FieldType.boolean)) B.pre w (hk_in h)⟩
  have hx := B.exec
  have hb := B.bytes
  have hr := B.returns
  have hlocks := B.notSynchronized
  have hl := lv_entry ([.ref (g.1 + a0), .int x1]) (n := 2) (Nat.le_of_ble_eq_true rfl)
  rw [lg_entry_eq]
  generalize (lg_sl ([.ref (g.1 + a0), .int x1]) ++ List.replicate (2 - (lg_sl ([.ref (g.1 + a0), .int x1])).length) Slot.unset).toArray = ls at hl ⊢
  have hl : lv_has ls 2 [(0, .ref (g.1 + a0)), (1, .int x1)] := hl
  unfold mX8_fail at hsp
  have G : hk_GG g E S n s s.heap [] := G
  refine lv_aload_n hx hb dX8_fail_0 rfl (lv_at hl 0 rfl) ?_
  refine lv_iload_n hx hb dX8_fail_1 rfl (lv_at hl 1 rfl) ?_
  obtain ⟨S1, eS1, hsp⟩ := hk_l hsp
  refine hk_putI F9 G h0 hkc_6 (k := 2) (by decide) qw_272 rfl rfl (tyX8_ok 2 (by decide)) rfl rfl dX8_fail_2 (fun H locs G => ?_)
  rw [eS1] at G
  refine lv_aload_n hx hb dX8_fail_5 rfl (lv_at hl 0 rfl) ?_
  refine lv_aload_n hx hb dX8_fail_6 rfl (lv_at hl 0 rfl) ?_
  refine hk_getI F9 G h0 hkc_6 (k := 6) (by decide) qw_278 rfl dX8_fail_7 ?_
  obtain ⟨S2, eS2, hsp⟩ := hk_l hsp
  refine hk_putI F9 G h0 hkc_6 (k := 3) (by decide) qw_274 rfl rfl (tyX8_ok 3 (by decide)) rfl rfl dX8_fail_10 (fun H locs G => ?_)
  rw [eS2] at G
  refine lv_iconst (v := 0) hx hb dX8_fail_13 (by decide) ?_
  obtain rfl := hk_s hsp
  exact W.zret (v := 0) hx hb hr (hk_z (by decide)).1 (fun t ht hW => hk_end G ht hW) G.2.1.2.2 dX8_fail_14
def mX8_skipBlanks_12 (E : hk_E) (F : Nat) (a0 : Nat)  (k : hk_S → Int32 → Option (hk_S)) : Nat → hk_S → Int32 → Option (hk_S)
  | 0 => fun _ _ => none
  | f + 1 => fun S z3 =>
    (E.2.2.2 a0 0).bind (fun r4 => if E.2.1 r4 = 3 then (if (S r4 1) ≤ (S a0 4) then (k S z3) else (if z3 = 32 then (hk_let (hk_up S a0 4 ((S a0 4) + 1)) (fun S7 => (mX4_byteAt E F S7 r4 (S7 a0 4)).bind (fun r8 => mX8_skipBlanks_12 E F a0 k f r8.2 r8.1))) else (if ¬ z3 = 10 then (k S z3) else (hk_let (hk_up S a0 4 ((S a0 4) + 1)) (fun S10 => (mX4_byteAt E F S10 r4 (S10 a0 4)).bind (fun r11 => mX8_skipBlanks_12 E F a0 k f r11.2 r11.1)))))) else none)
def mX8_skipBlanks (E : hk_E) (F : Nat) (S : hk_S) (a0 : Nat) : Option (hk_S) :=
(E.2.2.2 a0 0).bind (fun r1 => if E.2.1 r1 = 3 then ((mX4_byteAt E F S r1 (S a0 4)).bind (fun r2 => mX8_skipBlanks_12 E F a0  (fun S12 z13 => some (S12)) F r2.2 r2.1)) else none)
set_option maxHeartbeats 4000000 in
set_option maxRecDepth 100000 in
theorem kX8_skipBlanks (l : Launch) (g : hk_G) (E : hk_E) (F n : Nat) (S : hk_S) (a0 : Nat) (o : hk_S) (h0 : E.2.1 a0 = 7) (hsp : mX8_skipBlanks E F S a0 = some o) : Met l yX8_skipBlanks (hk_ws yX8_skipBlanks cX8_skipBlanks 2 (Option.none : Option Jvm.ClassFile.FieldType)) ({ frames := 1, cells := 0, slots := 0, locals := 21 }) (hk_Pc g E S n [.ref (g.1 + a0)]) (hk_Q g E o n none) 0 0 (hk_A g) := by
  refine Met.ofW (cc := cX8_skipBlanks) (maxL := 2) (ret := (Option.none : Option Jvm.ClassFile.FieldType)) (by decide) rfl ?_
  intro p e s m args below meth c s₁ B hml hv
  obtain ⟨rfl, G⟩ := hk_begin hv
  have F9 : CallFix p m c cX8_skipBlanks 2 s [.ref (g.1 + a0)].toArray hk_W RX8 := ⟨B.exec, B.bytes, hml, findClass_of_methodNamed B.named, fun w h => atoms_spec (ws := hk_ws yX8_skipBlanks cX8_skipBlanks 2 (Option.none : Option Jvm.ClassFile.FieldType)) B.pre w (hk_in h)⟩
  have hx := B.exec
  have hb := B.bytes
  have hr := B.returns
  have hlocks := B.notSynchronized
  have hl := lv_entry ([.ref (g.1 + a0)]) (n := 2) (Nat.le_of_ble_eq_true rfl)
  rw [lg_entry_eq]
  generalize (lg_sl ([.ref (g.1 + a0)]) ++ List.replicate (2 - (lg_sl ([.ref (g.1 + a0)])).length) Slot.unset).toArray = ls at hl ⊢
  have hl : lv_has ls 2 [(0, .ref (g.1 + a0))] := hl
  unfold mX8_skipBlanks at hsp
  have G : hk_GG g E S n s s.heap [] := G
  have L_12 : ∀   (k : hk_S → Int32 → Option (hk_S)) (_ : ∀ (S : hk_S) (z3 : Int32) (H : Heap) (locs : List Loc) (ls : Array Slot), k S z3 = some o → hk_GG g E S n s H locs → lv_has ls 2 [(0, .ref (g.1 + a0)), (1, .int z3)] → W p l e (headSpec (hk_ws yX8_skipBlanks cX8_skipBlanks 2 (Option.none : Option Jvm.ClassFile.FieldType)) ({ frames := 1, cells := 0, slots := 0, locals := 21 })).room s m [.ref (g.1 + a0)].toArray below meth c H locs 0 0 (MQ below (hk_Q g E o n none) [.ref (g.1 + a0)].toArray s 0 0 (hk_A g)) (F0 m 63 ls [])) (f : Nat) (S : hk_S) (z3 : Int32) (H : Heap) (locs : List Loc) (ls : Array Slot), mX8_skipBlanks_12 E F a0 k f S z3 = some o → hk_GG g E S n s H locs → lv_has ls 2 [(0, .ref (g.1 + a0)), (1, .int z3)] → W p l e (headSpec (hk_ws yX8_skipBlanks cX8_skipBlanks 2 (Option.none : Option Jvm.ClassFile.FieldType)) ({ frames := 1, cells := 0, slots := 0, locals := 21 })).room s m [.ref (g.1 + a0)].toArray below meth c H locs 0 0 (MQ below (hk_Q g E o n none) [.ref (g.1 + a0)].toArray s 0 0 (hk_A g)) (F0 m 12 ls []) := by
    intro   k hk f
    induction f with
    | zero =>
      intro S z3 H locs ls hsp
      exact nomatch hsp
    | succ f ih =>
      intro S z3 H locs ls hsp G hl
      rw [mX8_skipBlanks_12] at hsp
      refine lv_aload_n hx hb dX8_skipBlanks_12 rfl (lv_at hl 0 rfl) ?_
      refine hk_getI F9 G h0 hkc_6 (k := 4) (by decide) qw_276 rfl dX8_skipBlanks_13 ?_
      refine lv_aload_n hx hb dX8_skipBlanks_16 rfl (lv_at hl 0 rfl) ?_
      obtain ⟨r4, er4, hsp⟩ := hk_b hsp
      obtain ⟨kr4, hsp⟩ := hk_k hsp
      refine hk_getR F9 G h0 hkc_6 (k := 0) (by decide) qw_268 rfl er4 dX8_skipBlanks_17 ?_
      refine hk_getI F9 G kr4 hkc_2 (k := 1) (by decide) qw_257 rfl dX8_skipBlanks_20 ?_
      refine lv_icmp_ge (tgt := 63) hx hb dX8_skipBlanks_23 (by decide) (fun c5 => ?_) (fun c5 => ?_)
      · have hsp := hk_t c5 hsp
        exact hk S z3 _ _ _ hsp G (lv_sub hl [0, 1] rfl)
      · have hsp := hk_f c5 hsp
        refine lv_iload_n hx hb dX8_skipBlanks_26 rfl (lv_at hl 1 rfl) ?_
        refine lv_bipush (v := 32) hx hb dX8_skipBlanks_27 (by decide) ?_
        refine lv_icmp_eq (tgt := 38) hx hb dX8_skipBlanks_29 (by decide) (fun c6 => ?_) (fun c6 => ?_)
        · have hsp := hk_t c6 hsp
          refine lv_aload_n hx hb dX8_skipBlanks_38 rfl (lv_at hl 0 rfl) ?_
          refine lv_dup hx hb dX8_skipBlanks_39 rfl ?_
          refine hk_getI F9 G h0 hkc_6 (k := 4) (by decide) qw_276 rfl dX8_skipBlanks_40 ?_
          refine lv_iconst (v := 1) hx hb dX8_skipBlanks_43 (by decide) ?_
          refine lv_iadd hx hb dX8_skipBlanks_44 ?_
          obtain ⟨S7, eS7, hsp⟩ := hk_l hsp
          refine hk_putI F9 G h0 hkc_6 (k := 4) (by decide) qw_276 rfl rfl (tyX8_ok 4 (by decide)) rfl rfl dX8_skipBlanks_45 (fun H locs G => ?_)
          rw [eS7] at G
          refine lv_aload_n hx hb dX8_skipBlanks_48 rfl (lv_at hl 0 rfl) ?_
          refine hk_getR F9 G h0 hkc_6 (k := 0) (by decide) qw_268 rfl er4 dX8_skipBlanks_49 ?_
          refine lv_aload_n hx hb dX8_skipBlanks_52 rfl (lv_at hl 0 rfl) ?_
          refine hk_getI F9 G h0 hkc_6 (k := 4) (by decide) qw_276 rfl dX8_skipBlanks_53 ?_
          obtain ⟨r8, er8, hsp⟩ := hk_b hsp
          refine hk_callVi (As := [.int (S7 a0 4)]) (rest := []) F9 G kr4 hkc_2 rfl (kX4_byteAt l g E F n S7 r4 (S7 a0 4) r8 kr4 er8) qv_RX8_275 ⟨rfl, rfl, (Nat.le_of_ble_eq_true rfl), (Nat.le_of_ble_eq_true rfl)⟩ rfl hl.1 rfl (Nat.le_of_ble_eq_true rfl) ⟨Nat.zero_le _, Nat.zero_le _⟩ dX8_skipBlanks_56 (fun H locs G => ?_)
          refine lv_istore_n (lv' := [(1, .int r8.1), (0, .ref (g.1 + a0))]) hx hb dX8_skipBlanks_59 rfl hl (by decide) rfl (fun ls hl => ?_)
          refine lv_goto (tgt := 12) hx hb dX8_skipBlanks_60 (by decide) ?_
          exact ih r8.2 r8.1 _ _ _ hsp G (lv_sub hl [1, 0] rfl)
        · have hsp := hk_f c6 hsp
          refine lv_iload_n hx hb dX8_skipBlanks_32 rfl (lv_at hl 1 rfl) ?_
          refine lv_bipush (v := 10) hx hb dX8_skipBlanks_33 (by decide) ?_
          refine lv_icmp_ne (tgt := 63) hx hb dX8_skipBlanks_35 (by decide) (fun c9 => ?_) (fun c9 => ?_)
          · have hsp := hk_t c9 hsp
            exact hk S z3 _ _ _ hsp G (lv_sub hl [0, 1] rfl)
          · have hsp := hk_g c9 hsp
            refine lv_aload_n hx hb dX8_skipBlanks_38 rfl (lv_at hl 0 rfl) ?_
            refine lv_dup hx hb dX8_skipBlanks_39 rfl ?_
            refine hk_getI F9 G h0 hkc_6 (k := 4) (by decide) qw_276 rfl dX8_skipBlanks_40 ?_
            refine lv_iconst (v := 1) hx hb dX8_skipBlanks_43 (by decide) ?_
            refine lv_iadd hx hb dX8_skipBlanks_44 ?_
            obtain ⟨S10, eS10, hsp⟩ := hk_l hsp
            refine hk_putI F9 G h0 hkc_6 (k := 4) (by decide) qw_276 rfl rfl (tyX8_ok 4 (by decide)) rfl rfl dX8_skipBlanks_45 (fun H locs G => ?_)
            rw [eS10] at G
            refine lv_aload_n hx hb dX8_skipBlanks_48 rfl (lv_at hl 0 rfl) ?_
            refine hk_getR F9 G h0 hkc_6 (k := 0) (by decide) qw_268 rfl er4 dX8_skipBlanks_49 ?_
            refine lv_aload_n hx hb dX8_skipBlanks_52 rfl (lv_at hl 0 rfl) ?_
            refine hk_getI F9 G h0 hkc_6 (k := 4) (by decide) qw_276 rfl dX8_skipBlanks_53 ?_
            obtain ⟨r11, er11, hsp⟩ := hk_b hsp
            refine hk_callVi (As := [.int (S10 a0 4)]) (rest := []) F9 G kr4 hkc_2 rfl (kX4_byteAt l g E F n S10 r4 (S10 a0 4) r11 kr4 er11) qv_RX8_275 ⟨rfl, rfl, (Nat.le_of_ble_eq_true rfl), (Nat.le_of_ble_eq_true rfl)⟩ rfl hl.1 rfl (Nat.le_of_ble_eq_true rfl) ⟨Nat.zero_le _, Nat.zero_le _⟩ dX8_skipBlanks_56 (fun H locs G => ?_)
            refine lv_istore_n (lv' := [(1, .int r11.1), (0, .ref (g.1 + a0))]) hx hb dX8_skipBlanks_59 rfl hl (by decide) rfl (fun ls hl => ?_)
            refine lv_goto (tgt := 12) hx hb dX8_skipBlanks_60 (by decide) ?_
            exact ih r11.2 r11.1 _ _ _ hsp G (lv_sub hl [1, 0] rfl)
  refine lv_aload_n hx hb dX8_skipBlanks_0 rfl (lv_at hl 0 rfl) ?_
  obtain ⟨r1, er1, hsp⟩ := hk_b hsp
  obtain ⟨kr1, hsp⟩ := hk_k hsp
  refine hk_getR F9 G h0 hkc_6 (k := 0) (by decide) qw_268 rfl er1 dX8_skipBlanks_1 ?_
  refine lv_aload_n hx hb dX8_skipBlanks_4 rfl (lv_at hl 0 rfl) ?_
  refine hk_getI F9 G h0 hkc_6 (k := 4) (by decide) qw_276 rfl dX8_skipBlanks_5 ?_
  obtain ⟨r2, er2, hsp⟩ := hk_b hsp
  refine hk_callVi (As := [.int (S a0 4)]) (rest := []) F9 G kr1 hkc_2 rfl (kX4_byteAt l g E F n S r1 (S a0 4) r2 kr1 er2) qv_RX8_275 ⟨rfl, rfl, (Nat.le_of_ble_eq_true rfl), (Nat.le_of_ble_eq_true rfl)⟩ rfl hl.1 rfl (Nat.le_of_ble_eq_true rfl) ⟨Nat.zero_le _, Nat.zero_le _⟩ dX8_skipBlanks_8 (fun H locs G => ?_)
  refine lv_istore_n (lv' := [(1, .int r2.1), (0, .ref (g.1 + a0))]) hx hb dX8_skipBlanks_11 rfl hl (by decide) rfl (fun ls hl => ?_)
  refine L_12   _ ?_ F r2.2 r2.1 _ _ _ hsp G (lv_sub hl [1, 0] rfl)
  intro S12 z13 H locs ls hsp G hl
  obtain rfl := hk_s hsp
  exact W.vret hx hb hr (fun t ht hW => hk_end G ht hW) G.2.1.2.2 dX8_skipBlanks_63
def mX8_markOf (E : hk_E) (F : Nat) (S : hk_S) (x0 : Int32) : Option (Int32 × hk_S) :=
if x0 = 40 then (some (2, S)) else (if x0 = 41 then (some (3, S)) else (if x0 = 59 then (some (4, S)) else (some (6, S))))
set_option maxHeartbeats 4000000 in
set_option maxRecDepth 100000 in
theorem kX8_markOf (l : Launch) (g : hk_G) (E : hk_E) (F n : Nat) (S : hk_S) (x0 : Int32) (o : Int32 × hk_S)  (hsp : mX8_markOf E F S x0 = some o) : Met l yX8_markOf (hk_ws yX8_markOf cX8_markOf 1 (Option.some (Jvm.ClassFile.FieldType.object "WitheringLoft$Token"))) ({ frames := 0, cells := 0, slots := 0, locals := 0 }) (hk_Pc g E S n [.int x0]) (hk_Q g E o.2 n (some (hk_en (g.2.2.2 2) o.1))) 0 0 (hk_A g) := by
  refine Met.ofW (cc := cX8_markOf) (maxL := 1) (ret := (Option.some (Jvm.ClassFile.FieldType.object "WitheringLoft$Token"))) (by decide) rfl ?_
  intro p e s m args below meth c s₁ B hml hv
  obtain ⟨rfl, G⟩ := hk_begin hv
  have F9 : CallFix p m c cX8_markOf 1 s [.int x0].toArray hk_W RX8 := ⟨B.exec, B.bytes, hml, findClass_of_methodNamed B.named, fun w h => atoms_spec (ws := hk_ws yX8_markOf cX8_markOf 1 (Option.some (Jvm.ClassFile.FieldType.object "WitheringLoft$Token"))) B.pre w (hk_in h)⟩
  have hx := B.exec
  have hb := B.bytes
  have hr := B.returns
  have hlocks := B.notSynchronized
  have hl := lv_entry ([.int x0]) (n := 1) (Nat.le_of_ble_eq_true rfl)
  rw [lg_entry_eq]
  generalize (lg_sl ([.int x0]) ++ List.replicate (1 - (lg_sl ([.int x0])).length) Slot.unset).toArray = ls at hl ⊢
  have hl : lv_has ls 1 [(0, .int x0)] := hl
  unfold mX8_markOf at hsp
  have G : hk_GG g E S n s s.heap [] := G
  refine lv_iload_n hx hb dX8_markOf_0 rfl (lv_at hl 0 rfl) ?_
  rcases Classical.em (x0 = 40) with w1 | w1
  · have hsp := hk_t w1 hsp
    refine lv_lookup (off := 35) (tgt := 36) hx hb dX8_markOf_1 (by decide) (by rw [w1]; decide) (by decide) ?_
    refine hk_getTok F9 G 2 (x := 2) (by decide) (hk_en_ref (by decide)) qw_477 dX8_markOf_36 ?_
    obtain rfl := hk_s hsp
    exact W.aret (v := hk_en (g.2.2.2 2) 2) hx hb hr (Or.inl ⟨_, rfl⟩) (hk_en_or _ _) (fun t ht hW => hk_end G ht hW) G.2.1.2.2 dX8_markOf_39
  have hsp := hk_f w1 hsp
  rcases Classical.em (x0 = 41) with w2 | w2
  · have hsp := hk_t w2 hsp
    refine lv_lookup (off := 39) (tgt := 40) hx hb dX8_markOf_1 (by decide) (by rw [w2]; decide) (by decide) ?_
    refine hk_getTok F9 G 3 (x := 3) (by decide) (hk_en_ref (by decide)) qw_479 dX8_markOf_40 ?_
    obtain rfl := hk_s hsp
    exact W.aret (v := hk_en (g.2.2.2 2) 3) hx hb hr (Or.inl ⟨_, rfl⟩) (hk_en_or _ _) (fun t ht hW => hk_end G ht hW) G.2.1.2.2 dX8_markOf_43
  have hsp := hk_f w2 hsp
  rcases Classical.em (x0 = 59) with w3 | w3
  · have hsp := hk_t w3 hsp
    refine lv_lookup (off := 43) (tgt := 44) hx hb dX8_markOf_1 (by decide) (by rw [w3]; decide) (by decide) ?_
    refine hk_getTok F9 G 4 (x := 4) (by decide) (hk_en_ref (by decide)) qw_481 dX8_markOf_44 ?_
    obtain rfl := hk_s hsp
    exact W.aret (v := hk_en (g.2.2.2 2) 4) hx hb hr (Or.inl ⟨_, rfl⟩) (hk_en_or _ _) (fun t ht hW => hk_end G ht hW) G.2.1.2.2 dX8_markOf_47
  have hsp := hk_f w3 hsp
  refine lv_lookup (off := 47) (tgt := 48) hx hb dX8_markOf_1 (by decide) (show Op.lookupswitch.offset [(40, 35), (41, 39), (59, 43)] 47 (x0 : Int32).toInt = 47 by rw [lv_osw (k := 40) (a := 40) w1 (by decide), lv_osw (k := 41) (a := 41) w2 (by decide), lv_osw (k := 59) (a := 59) w3 (by decide)]; rfl) (by decide) ?_
  refine hk_getTok F9 G 6 (x := 6) (by decide) (hk_en_ref (by decide)) qw_463 dX8_markOf_48 ?_
  obtain rfl := hk_s hsp
  exact W.aret (v := hk_en (g.2.2.2 2) 6) hx hb hr (Or.inl ⟨_, rfl⟩) (hk_en_or _ _) (fun t ht hW => hk_end G ht hW) G.2.1.2.2 dX8_markOf_51
def mX8_isDigit (E : hk_E) (F : Nat) (S : hk_S) (x0 : Int32) : Option (Int32 × hk_S) :=
if x0 < 48 then (some (0, S)) else (if 57 < x0 then (some (0, S)) else (some (1, S)))
set_option maxHeartbeats 4000000 in
set_option maxRecDepth 100000 in
theorem kX8_isDigit (l : Launch) (g : hk_G) (E : hk_E) (F n : Nat) (S : hk_S) (x0 : Int32) (o : Int32 × hk_S)  (hsp : mX8_isDigit E F S x0 = some o) : Met l yX8_isDigit (hk_ws yX8_isDigit cX8_isDigit 1 (Option.some Jvm.ClassFile.FieldType.boolean)) ({ frames := 0, cells := 0, slots := 0, locals := 0 }) (hk_Pc g E S n [.int x0]) (hk_Q g E o.2 n (some (.int o.1))) 0 0 (hk_A g) := by
  refine Met.ofW (cc := cX8_isDigit) (maxL := 1) (ret := (Option.some Jvm.ClassFile.FieldType.boolean)) (by decide) rfl ?_
  intro p e s m args below meth c s₁ B hml hv
  obtain ⟨rfl, G⟩ := hk_begin hv
  have F9 : CallFix p m c cX8_isDigit 1 s [.int x0].toArray hk_W RX8 := ⟨B.exec, B.bytes, hml, findClass_of_methodNamed B.named, fun w h => atoms_spec (ws := hk_ws yX8_isDigit cX8_isDigit 1 (Option.some Jvm.ClassFile.FieldType.boolean)) B.pre w (hk_in h)⟩
  have hx := B.exec
  have hb := B.bytes
  have hr := B.returns
  have hlocks := B.notSynchronized
  have hl := lv_entry ([.int x0]) (n := 1) (Nat.le_of_ble_eq_true rfl)
  rw [lg_entry_eq]
  generalize (lg_sl ([.int x0]) ++ List.replicate (1 - (lg_sl ([.int x0])).length) Slot.unset).toArray = ls at hl ⊢
  have hl : lv_has ls 1 [(0, .int x0)] := hl
  unfold mX8_isDigit at hsp
  have G : hk_GG g E S n s s.heap [] := G
  refine lv_iload_n hx hb dX8_isDigit_0 rfl (lv_at hl 0 rfl) ?_
  refine lv_bipush (v := 48) hx hb dX8_isDigit_1 (by decide) ?_
  refine lv_icmp_lt (tgt := 16) hx hb dX8_isDigit_3 (by decide) (fun c1 => ?_) (fun c1 => ?_)
  · have hsp := hk_t c1 hsp
    refine lv_iconst (v := 0) hx hb dX8_isDigit_16 (by decide) ?_
    obtain rfl := hk_s hsp
    exact W.zret (v := 0) hx hb hr (hk_z (by decide)).1 (fun t ht hW => hk_end G ht hW) G.2.1.2.2 dX8_isDigit_17
  · have hsp := hk_f c1 hsp
    refine lv_iload_n hx hb dX8_isDigit_6 rfl (lv_at hl 0 rfl) ?_
    refine lv_bipush (v := 57) hx hb dX8_isDigit_7 (by decide) ?_
    refine lv_icmp_gt (tgt := 16) hx hb dX8_isDigit_9 (by decide) (fun c2 => ?_) (fun c2 => ?_)
    · have hsp := hk_t c2 hsp
      refine lv_iconst (v := 0) hx hb dX8_isDigit_16 (by decide) ?_
      obtain rfl := hk_s hsp
      exact W.zret (v := 0) hx hb hr (hk_z (by decide)).1 (fun t ht hW => hk_end G ht hW) G.2.1.2.2 dX8_isDigit_17
    · have hsp := hk_f c2 hsp
      refine lv_iconst (v := 1) hx hb dX8_isDigit_12 (by decide) ?_
      refine lv_goto (tgt := 17) hx hb dX8_isDigit_13 (by decide) ?_
      obtain rfl := hk_s hsp
      exact W.zret (v := 1) hx hb hr (hk_z (by decide)).1 (fun t ht hW => hk_end G ht hW) G.2.1.2.2 dX8_isDigit_17
def mX8_isLetter (E : hk_E) (F : Nat) (S : hk_S) (x0 : Int32) : Option (Int32 × hk_S) :=
if x0 < 97 then (some (0, S)) else (if 122 < x0 then (some (0, S)) else (some (1, S)))
set_option maxHeartbeats 4000000 in
set_option maxRecDepth 100000 in
theorem kX8_isLetter (l : Launch) (g : hk_G) (E : hk_E) (F n : Nat) (S : hk_S) (x0 : Int32) (o : Int32 × hk_S)  (hsp : mX8_isLetter E F S x0 = some o) : Met l yX8_isLetter (hk_ws yX8_isLetter cX8_isLetter 1 (Option.some Jvm.ClassFile.FieldType.boolean)) ({ frames := 0, cells := 0, slots := 0, locals := 0 }) (hk_Pc g E S n [.int x0]) (hk_Q g E o.2 n (some (.int o.1))) 0 0 (hk_A g) := by
  refine Met.ofW (cc := cX8_isLetter) (maxL := 1) (ret := (Option.some Jvm.ClassFile.FieldType.boolean)) (by decide) rfl ?_
  intro p e s m args below meth c s₁ B hml hv
  obtain ⟨rfl, G⟩ := hk_begin hv
  have F9 : CallFix p m c cX8_isLetter 1 s [.int x0].toArray hk_W RX8 := ⟨B.exec, B.bytes, hml, findClass_of_methodNamed B.named, fun w h => atoms_spec (ws := hk_ws yX8_isLetter cX8_isLetter 1 (Option.some Jvm.ClassFile.FieldType.boolean)) B.pre w (hk_in h)⟩
  have hx := B.exec
  have hb := B.bytes
  have hr := B.returns
  have hlocks := B.notSynchronized
  have hl := lv_entry ([.int x0]) (n := 1) (Nat.le_of_ble_eq_true rfl)
  rw [lg_entry_eq]
  generalize (lg_sl ([.int x0]) ++ List.replicate (1 - (lg_sl ([.int x0])).length) Slot.unset).toArray = ls at hl ⊢
  have hl : lv_has ls 1 [(0, .int x0)] := hl
  unfold mX8_isLetter at hsp
  have G : hk_GG g E S n s s.heap [] := G
  refine lv_iload_n hx hb dX8_isLetter_0 rfl (lv_at hl 0 rfl) ?_
  refine lv_bipush (v := 97) hx hb dX8_isLetter_1 (by decide) ?_
  refine lv_icmp_lt (tgt := 16) hx hb dX8_isLetter_3 (by decide) (fun c1 => ?_) (fun c1 => ?_)
  · have hsp := hk_t c1 hsp
    refine lv_iconst (v := 0) hx hb dX8_isLetter_16 (by decide) ?_
    obtain rfl := hk_s hsp
    exact W.zret (v := 0) hx hb hr (hk_z (by decide)).1 (fun t ht hW => hk_end G ht hW) G.2.1.2.2 dX8_isLetter_17
  · have hsp := hk_f c1 hsp
    refine lv_iload_n hx hb dX8_isLetter_6 rfl (lv_at hl 0 rfl) ?_
    refine lv_bipush (v := 122) hx hb dX8_isLetter_7 (by decide) ?_
    refine lv_icmp_gt (tgt := 16) hx hb dX8_isLetter_9 (by decide) (fun c2 => ?_) (fun c2 => ?_)
    · have hsp := hk_t c2 hsp
      refine lv_iconst (v := 0) hx hb dX8_isLetter_16 (by decide) ?_
      obtain rfl := hk_s hsp
      exact W.zret (v := 0) hx hb hr (hk_z (by decide)).1 (fun t ht hW => hk_end G ht hW) G.2.1.2.2 dX8_isLetter_17
    · have hsp := hk_f c2 hsp
      refine lv_iconst (v := 1) hx hb dX8_isLetter_12 (by decide) ?_
      refine lv_goto (tgt := 17) hx hb dX8_isLetter_13 (by decide) ?_
      obtain rfl := hk_s hsp
      exact W.zret (v := 1) hx hb hr (hk_z (by decide)).1 (fun t ht hW => hk_end G ht hW) G.2.1.2.2 dX8_isLetter_17
def mX8_isRefused (E : hk_E) (F : Nat) (S : hk_S) (a0 : Nat) (x1 : Int32) : Option (Int32 × hk_S) :=
if hk_ok x1 15 then (if hk_ok x1 15 then (if (hk_sm.getD (x1).toNatClampNeg 0) = 1 then ((E.2.2.2 a0 1).bind (fun r4 => if E.2.1 r4 = 4 then ((mX5_hasRoomForTrough E F S r4).bind (fun r5 => if ¬ r5.1 = 0 then (some (0, r5.2)) else (some (1, r5.2)))) else none)) else (if (hk_sm.getD (x1).toNatClampNeg 0) = 2 then ((E.2.2.2 a0 1).bind (fun r8 => if E.2.1 r8 = 4 then ((mX8_operand E F S a0 0).bind (fun r9 => (mX5_troughAt E F r9.2 r8 r9.1).bind (fun r10 => if E.2.1 r10.1 = 8 then ((mX10_hasLeaf E F r10.2 r10.1).bind (fun r12 => if r12.1 = 0 ∨ r12.1 = 1 then (some (r12.1, r12.2)) else none)) else none))) else none)) else (if (hk_sm.getD (x1).toNatClampNeg 0) = 3 then (some (0, S)) else (if (hk_sm.getD (x1).toNatClampNeg 0) = 4 then (some (0, S)) else (if (hk_sm.getD (x1).toNatClampNeg 0) = 5 then ((E.2.2.2 a0 1).bind (fun r17 => if E.2.1 r17 = 4 then ((mX8_operand E F S a0 0).bind (fun r18 => (mX5_troughAt E F r18.2 r17 r18.1).bind (fun r19 => if E.2.1 r19.1 = 8 then ((mX10_hasLeaf E F r19.2 r19.1).bind (fun r21 => if ¬ r21.1 = 0 then (some (0, r21.2)) else (some (1, r21.2)))) else none))) else none)) else (if (hk_sm.getD (x1).toNatClampNeg 0) = 6 then ((E.2.2.2 a0 1).bind (fun r24 => if E.2.1 r24 = 4 then ((mX8_operand E F S a0 0).bind (fun r25 => (mX5_troughAt E F r25.2 r24 r25.1).bind (fun r26 => if E.2.1 r26.1 = 8 then ((mX5_refusalOf E F r26.2 r24 r26.1).bind (fun r28 => if r28.1 = 0 then (some (0, r28.2)) else (some (1, r28.2)))) else none))) else none)) else (if (hk_sm.getD (x1).toNatClampNeg 0) = 7 then ((E.2.2.2 a0 1).bind (fun r31 => if E.2.1 r31 = 4 then ((mX8_operand E F S a0 0).bind (fun r32 => (mX5_troughAt E F r32.2 r31 r32.1).bind (fun r33 => if E.2.1 r33.1 = 8 then ((mX10_hasLeaf E F r33.2 r33.1).bind (fun r35 => if ¬ r35.1 = 0 then (some (0, r35.2)) else (some (1, r35.2)))) else none))) else none)) else (if (hk_sm.getD (x1).toNatClampNeg 0) = 8 then (some (0, S)) else (if (hk_sm.getD (x1).toNatClampNeg 0) = 9 then (some (0, S)) else (if (hk_sm.getD (x1).toNatClampNeg 0) = 10 then ((E.2.2.2 a0 1).bind (fun r40 => if E.2.1 r40 = 4 then ((E.2.2.2 r40 0).bind (fun r41 => if E.2.1 r41 = 1 then ((mX1_hasRoomForMonsoon E F S r41).bind (fun r42 => if ¬ r42.1 = 0 then (some (0, r42.2)) else (some (1, r42.2)))) else none)) else none)) else (if (hk_sm.getD (x1).toNatClampNeg 0) = 11 then (some (0, S)) else (if (hk_sm.getD (x1).toNatClampNeg 0) = 12 then ((E.2.2.2 a0 1).bind (fun r46 => if E.2.1 r46 = 4 then ((mX5_hasRoomForProbe E F S r46).bind (fun r47 => if ¬ r47.1 = 0 then (some (0, r47.2)) else (some (1, r47.2)))) else none)) else (if (hk_sm.getD (x1).toNatClampNeg 0) = 13 then (some (0, S)) else (if (hk_sm.getD (x1).toNatClampNeg 0) = 14 then ((E.2.2.2 a0 1).bind (fun r51 => if E.2.1 r51 = 4 then ((E.2.2.2 r51 0).bind (fun r52 => if E.2.1 r52 = 1 then ((mX8_operand E F S a0 0).bind (fun r53 => (mX1_hasHoursLeft E F r53.2 r52 r53.1).bind (fun r54 => if ¬ r54.1 = 0 then (some (0, r54.2)) else (some (1, r54.2))))) else none)) else none)) else (some (0, S)))))))))))))))) else none) else none
set_option maxHeartbeats 4000000 in
set_option maxRecDepth 100000 in
theorem kX8_isRefused (l : Launch) (g : hk_G) (E : hk_E) (F n : Nat) (S : hk_S) (a0 : Nat) (x1 : Int32) (o : Int32 × hk_S) (h0 : E.2.1 a0 = 7) (hsp : mX8_isRefused E F S a0 x1 = some o) : Met l yX8_isRefused (hk_ws yX8_isRefused cX8_isRefused 2 (Option.some Jvm.ClassFile.FieldType.boolean)) ({ frames := 3, cells := 0, slots := 0, locals := 63 }) (hk_Pc g E S n [.ref (g.1 + a0), hk_en (g.2.2.2 3) x1]) (hk_Q g E o.2 n (some (.int o.1))) 0 0 (hk_A g) := by
  refine Met.ofW (cc := cX8_isRefused) (maxL := 2) (ret := (Option.some Jvm.ClassFile.FieldType.boolean)) (by decide) rfl ?_
  intro p e s m args below meth c s₁ B hml hv
  obtain ⟨rfl, G⟩ := hk_begin hv
  have F9 : CallFix p m c cX8_isRefused 2 s [.ref (g.1 + a0), hk_en (g.2.2.2 3) x1].toArray hk_W RX8 := ⟨B.exec, B.bytes, hml, findClass_of_methodNamed B.named, fun w h => atoms_spec (ws := hk_ws yX8_isRefused cX8_isRefused 2 (Option.some Jvm.ClassFile.FieldType.boolean)) B.pre w (hk_in h)⟩
  have hx := B.exec
  have hb := B.bytes
  have hr := B.returns
  have hlocks := B.notSynchronized
  have hl := hk_entryE (a := g.1 + a0) (ad := g.2.2.2 3) (x := x1) (n := 2) (by decide)
  rw [lg_entry_eq]
  generalize (lg_sl ([.ref (g.1 + a0), hk_en (g.2.2.2 3) x1]) ++ List.replicate (2 - (lg_sl ([.ref (g.1 + a0), hk_en (g.2.2.2 3) x1])).length) Slot.unset).toArray = ls at hl ⊢
  have hl : lv_has ls 2 [(0, .ref (g.1 + a0)), (1, hk_en (g.2.2.2 3) x1)] := hl
  unfold mX8_isRefused at hsp
  have G : hk_GG g E S n s s.heap [] := G
  refine hk_getSM F9 G qw_581 dX8_isRefused_0 ?_
  refine hk_aloadE_n hx hb dX8_isRefused_3 rfl (lv_at hl 1 rfl) ?_
  obtain ⟨q1, hsp⟩ := hk_k hsp
  refine hk_ordinal F9 G q1 ⟨(Nat.le_of_ble_eq_true rfl), (Nat.le_of_ble_eq_true rfl)⟩ hl.1 (Nat.le_of_ble_eq_true rfl) ⟨Nat.zero_le _, Nat.zero_le _⟩ dX8_isRefused_4 (fun H locs G => ?_)
  obtain ⟨q2, hsp⟩ := hk_k hsp
  refine hk_ldSM F9 G q2 dX8_isRefused_7 ?_
  rcases Classical.em ((hk_sm.getD (x1).toNatClampNeg 0) = 1) with w3 | w3
  · have hsp := hk_t w3 hsp
    refine lv_tableIn (off := 72) (tgt := 80) hx hb dX8_isRefused_8 (by rw [w3]; decide) (by rw [w3]; decide) (by rw [w3]; rfl) (by decide) ?_
    refine lv_aload_n hx hb dX8_isRefused_80 rfl (lv_at hl 0 rfl) ?_
    obtain ⟨r4, er4, hsp⟩ := hk_b hsp
    obtain ⟨kr4, hsp⟩ := hk_k hsp
    refine hk_getR F9 G h0 hkc_6 (k := 1) (by decide) qw_270 rfl er4 dX8_isRefused_81 ?_
    obtain ⟨r5, er5, hsp⟩ := hk_b hsp
    refine hk_callVi (As := []) (rest := []) F9 G kr4 hkc_3 rfl (kX5_hasRoomForTrough l g E F n S r4 r5 kr4 er5) qv_RX8_183 ⟨rfl, rfl, (Nat.le_of_ble_eq_true rfl), (Nat.le_of_ble_eq_true rfl)⟩ rfl hl.1 rfl (Nat.le_of_ble_eq_true rfl) ⟨Nat.zero_le _, Nat.zero_le _⟩ dX8_isRefused_84 (fun H locs G => ?_)
    refine lv_if_ne (tgt := 94) hx hb dX8_isRefused_87 (by decide) (fun c6 => ?_) (fun c6 => ?_)
    · have hsp := hk_t c6 hsp
      refine lv_iconst (v := 0) hx hb dX8_isRefused_94 (by decide) ?_
      obtain rfl := hk_s hsp
      exact W.zret (v := 0) hx hb hr (hk_z (by decide)).1 (fun t ht hW => hk_end G ht hW) G.2.1.2.2 dX8_isRefused_95
    · have hsp := hk_g c6 hsp
      refine lv_iconst (v := 1) hx hb dX8_isRefused_90 (by decide) ?_
      refine lv_goto (tgt := 95) hx hb dX8_isRefused_91 (by decide) ?_
      obtain rfl := hk_s hsp
      exact W.zret (v := 1) hx hb hr (hk_z (by decide)).1 (fun t ht hW => hk_end G ht hW) G.2.1.2.2 dX8_isRefused_95
  have hsp := hk_f w3 hsp
  rcases Classical.em ((hk_sm.getD (x1).toNatClampNeg 0) = 2) with w7 | w7
  · have hsp := hk_t w7 hsp
    refine lv_tableIn (off := 88) (tgt := 96) hx hb dX8_isRefused_8 (by rw [w7]; decide) (by rw [w7]; decide) (by rw [w7]; rfl) (by decide) ?_
    refine lv_aload_n hx hb dX8_isRefused_96 rfl (lv_at hl 0 rfl) ?_
    obtain ⟨r8, er8, hsp⟩ := hk_b hsp
    obtain ⟨kr8, hsp⟩ := hk_k hsp
    refine hk_getR F9 G h0 hkc_6 (k := 1) (by decide) qw_270 rfl er8 dX8_isRefused_97 ?_
    refine lv_aload_n hx hb dX8_isRefused_100 rfl (lv_at hl 0 rfl) ?_
    refine lv_iconst (v := 0) hx hb dX8_isRefused_101 (by decide) ?_
    obtain ⟨r9, er9, hsp⟩ := hk_b hsp
    refine hk_callVi (As := [.int 0]) (rest := [.ref (g.1 + r8)]) F9 G h0 hkc_6 rfl (kX8_operand l g E F n S a0 0 r9 h0 er9) qv_RX8_134 ⟨rfl, rfl, (Nat.le_of_ble_eq_true rfl), (Nat.le_of_ble_eq_true rfl)⟩ rfl hl.1 rfl (Nat.le_of_ble_eq_true rfl) ⟨Nat.zero_le _, Nat.zero_le _⟩ dX8_isRefused_102 (fun H locs G => ?_)
    obtain ⟨r10, er10, hsp⟩ := hk_b hsp
    refine hk_callVr (As := [.int r9.1]) (rest := []) F9 G kr8 hkc_3 rfl (kX5_troughAt l g E F n r9.2 r8 r9.1 r10 kr8 er10) qv_RX8_150 ⟨rfl, rfl, (Nat.le_of_ble_eq_true rfl), (Nat.le_of_ble_eq_true rfl)⟩ rfl hl.1 rfl (Nat.le_of_ble_eq_true rfl) ⟨Nat.zero_le _, Nat.zero_le _⟩ dX8_isRefused_105 (fun H locs G => ?_)
    obtain ⟨q11, hsp⟩ := hk_k hsp
    obtain ⟨r12, er12, hsp⟩ := hk_b hsp
    refine hk_callVi (As := []) (rest := []) F9 G q11 hkc_7 rfl (kX10_hasLeaf l g E F n r10.2 r10.1 r12 q11 er12) qv_RX8_186 ⟨rfl, rfl, (Nat.le_of_ble_eq_true rfl), (Nat.le_of_ble_eq_true rfl)⟩ rfl hl.1 rfl (Nat.le_of_ble_eq_true rfl) ⟨Nat.zero_le _, Nat.zero_le _⟩ dX8_isRefused_108 (fun H locs G => ?_)
    obtain ⟨q13, hsp⟩ := hk_k hsp
    obtain rfl := hk_s hsp
    exact W.zret (v := r12.1) hx hb hr (hk_z q13).1 (fun t ht hW => hk_end G ht hW) G.2.1.2.2 dX8_isRefused_111
  have hsp := hk_f w7 hsp
  rcases Classical.em ((hk_sm.getD (x1).toNatClampNeg 0) = 3) with w14 | w14
  · have hsp := hk_t w14 hsp
    refine lv_tableIn (off := 215) (tgt := 223) hx hb dX8_isRefused_8 (by rw [w14]; decide) (by rw [w14]; decide) (by rw [w14]; rfl) (by decide) ?_
    refine lv_iconst (v := 0) hx hb dX8_isRefused_223 (by decide) ?_
    obtain rfl := hk_s hsp
    exact W.zret (v := 0) hx hb hr (hk_z (by decide)).1 (fun t ht hW => hk_end G ht hW) G.2.1.2.2 dX8_isRefused_224
  have hsp := hk_f w14 hsp
  rcases Classical.em ((hk_sm.getD (x1).toNatClampNeg 0) = 4) with w15 | w15
  · have hsp := hk_t w15 hsp
    refine lv_tableIn (off := 215) (tgt := 223) hx hb dX8_isRefused_8 (by rw [w15]; decide) (by rw [w15]; decide) (by rw [w15]; rfl) (by decide) ?_
    refine lv_iconst (v := 0) hx hb dX8_isRefused_223 (by decide) ?_
    obtain rfl := hk_s hsp
    exact W.zret (v := 0) hx hb hr (hk_z (by decide)).1 (fun t ht hW => hk_end G ht hW) G.2.1.2.2 dX8_isRefused_224
  have hsp := hk_f w15 hsp
  rcases Classical.em ((hk_sm.getD (x1).toNatClampNeg 0) = 5) with w16 | w16
  · have hsp := hk_t w16 hsp
    refine lv_tableIn (off := 123) (tgt := 131) hx hb dX8_isRefused_8 (by rw [w16]; decide) (by rw [w16]; decide) (by rw [w16]; rfl) (by decide) ?_
    refine lv_aload_n hx hb dX8_isRefused_131 rfl (lv_at hl 0 rfl) ?_
    obtain ⟨r17, er17, hsp⟩ := hk_b hsp
    obtain ⟨kr17, hsp⟩ := hk_k hsp
    refine hk_getR F9 G h0 hkc_6 (k := 1) (by decide) qw_270 rfl er17 dX8_isRefused_132 ?_
    refine lv_aload_n hx hb dX8_isRefused_135 rfl (lv_at hl 0 rfl) ?_
    refine lv_iconst (v := 0) hx hb dX8_isRefused_136 (by decide) ?_
    obtain ⟨r18, er18, hsp⟩ := hk_b hsp
    refine hk_callVi (As := [.int 0]) (rest := [.ref (g.1 + r17)]) F9 G h0 hkc_6 rfl (kX8_operand l g E F n S a0 0 r18 h0 er18) qv_RX8_134 ⟨rfl, rfl, (Nat.le_of_ble_eq_true rfl), (Nat.le_of_ble_eq_true rfl)⟩ rfl hl.1 rfl (Nat.le_of_ble_eq_true rfl) ⟨Nat.zero_le _, Nat.zero_le _⟩ dX8_isRefused_137 (fun H locs G => ?_)
    obtain ⟨r19, er19, hsp⟩ := hk_b hsp
    refine hk_callVr (As := [.int r18.1]) (rest := []) F9 G kr17 hkc_3 rfl (kX5_troughAt l g E F n r18.2 r17 r18.1 r19 kr17 er19) qv_RX8_150 ⟨rfl, rfl, (Nat.le_of_ble_eq_true rfl), (Nat.le_of_ble_eq_true rfl)⟩ rfl hl.1 rfl (Nat.le_of_ble_eq_true rfl) ⟨Nat.zero_le _, Nat.zero_le _⟩ dX8_isRefused_140 (fun H locs G => ?_)
    obtain ⟨q20, hsp⟩ := hk_k hsp
    obtain ⟨r21, er21, hsp⟩ := hk_b hsp
    refine hk_callVi (As := []) (rest := []) F9 G q20 hkc_7 rfl (kX10_hasLeaf l g E F n r19.2 r19.1 r21 q20 er21) qv_RX8_186 ⟨rfl, rfl, (Nat.le_of_ble_eq_true rfl), (Nat.le_of_ble_eq_true rfl)⟩ rfl hl.1 rfl (Nat.le_of_ble_eq_true rfl) ⟨Nat.zero_le _, Nat.zero_le _⟩ dX8_isRefused_143 (fun H locs G => ?_)
    refine lv_if_ne (tgt := 153) hx hb dX8_isRefused_146 (by decide) (fun c22 => ?_) (fun c22 => ?_)
    · have hsp := hk_t c22 hsp
      refine lv_iconst (v := 0) hx hb dX8_isRefused_153 (by decide) ?_
      obtain rfl := hk_s hsp
      exact W.zret (v := 0) hx hb hr (hk_z (by decide)).1 (fun t ht hW => hk_end G ht hW) G.2.1.2.2 dX8_isRefused_154
    · have hsp := hk_g c22 hsp
      refine lv_iconst (v := 1) hx hb dX8_isRefused_149 (by decide) ?_
      refine lv_goto (tgt := 154) hx hb dX8_isRefused_150 (by decide) ?_
      obtain rfl := hk_s hsp
      exact W.zret (v := 1) hx hb hr (hk_z (by decide)).1 (fun t ht hW => hk_end G ht hW) G.2.1.2.2 dX8_isRefused_154
  have hsp := hk_f w16 hsp
  rcases Classical.em ((hk_sm.getD (x1).toNatClampNeg 0) = 6) with w23 | w23
  · have hsp := hk_t w23 hsp
    refine lv_tableIn (off := 147) (tgt := 155) hx hb dX8_isRefused_8 (by rw [w23]; decide) (by rw [w23]; decide) (by rw [w23]; rfl) (by decide) ?_
    refine lv_aload_n hx hb dX8_isRefused_155 rfl (lv_at hl 0 rfl) ?_
    obtain ⟨r24, er24, hsp⟩ := hk_b hsp
    obtain ⟨kr24, hsp⟩ := hk_k hsp
    refine hk_getR F9 G h0 hkc_6 (k := 1) (by decide) qw_270 rfl er24 dX8_isRefused_156 ?_
    refine lv_aload_n hx hb dX8_isRefused_159 rfl (lv_at hl 0 rfl) ?_
    refine hk_getR F9 G h0 hkc_6 (k := 1) (by decide) qw_270 rfl er24 dX8_isRefused_160 ?_
    refine lv_aload_n hx hb dX8_isRefused_163 rfl (lv_at hl 0 rfl) ?_
    refine lv_iconst (v := 0) hx hb dX8_isRefused_164 (by decide) ?_
    obtain ⟨r25, er25, hsp⟩ := hk_b hsp
    refine hk_callVi (As := [.int 0]) (rest := [.ref (g.1 + r24), .ref (g.1 + r24)]) F9 G h0 hkc_6 rfl (kX8_operand l g E F n S a0 0 r25 h0 er25) qv_RX8_134 ⟨rfl, rfl, (Nat.le_of_ble_eq_true rfl), (Nat.le_of_ble_eq_true rfl)⟩ rfl hl.1 rfl (Nat.le_of_ble_eq_true rfl) ⟨Nat.zero_le _, Nat.zero_le _⟩ dX8_isRefused_165 (fun H locs G => ?_)
    obtain ⟨r26, er26, hsp⟩ := hk_b hsp
    refine hk_callVr (As := [.int r25.1]) (rest := [.ref (g.1 + r24)]) F9 G kr24 hkc_3 rfl (kX5_troughAt l g E F n r25.2 r24 r25.1 r26 kr24 er26) qv_RX8_150 ⟨rfl, rfl, (Nat.le_of_ble_eq_true rfl), (Nat.le_of_ble_eq_true rfl)⟩ rfl hl.1 rfl (Nat.le_of_ble_eq_true rfl) ⟨Nat.zero_le _, Nat.zero_le _⟩ dX8_isRefused_168 (fun H locs G => ?_)
    obtain ⟨q27, hsp⟩ := hk_k hsp
    obtain ⟨r28, er28, hsp⟩ := hk_b hsp
    refine hk_callVi (As := [.ref (g.1 + r26.1)]) (rest := []) F9 G kr24 hkc_3 rfl (kX5_refusalOf l g E F n r26.2 r24 r26.1 r28 kr24 q27 er28) qv_RX8_192 ⟨rfl, rfl, (Nat.le_of_ble_eq_true rfl), (Nat.le_of_ble_eq_true rfl)⟩ rfl hl.1 rfl (Nat.le_of_ble_eq_true rfl) ⟨Nat.zero_le _, Nat.zero_le _⟩ dX8_isRefused_171 (fun H locs G => ?_)
    refine lv_if_eq (tgt := 181) hx hb dX8_isRefused_174 (by decide) (fun c29 => ?_) (fun c29 => ?_)
    · have hsp := hk_t c29 hsp
      refine lv_iconst (v := 0) hx hb dX8_isRefused_181 (by decide) ?_
      obtain rfl := hk_s hsp
      exact W.zret (v := 0) hx hb hr (hk_z (by decide)).1 (fun t ht hW => hk_end G ht hW) G.2.1.2.2 dX8_isRefused_182
    · have hsp := hk_f c29 hsp
      refine lv_iconst (v := 1) hx hb dX8_isRefused_177 (by decide) ?_
      refine lv_goto (tgt := 182) hx hb dX8_isRefused_178 (by decide) ?_
      obtain rfl := hk_s hsp
      exact W.zret (v := 1) hx hb hr (hk_z (by decide)).1 (fun t ht hW => hk_end G ht hW) G.2.1.2.2 dX8_isRefused_182
  have hsp := hk_f w23 hsp
  rcases Classical.em ((hk_sm.getD (x1).toNatClampNeg 0) = 7) with w30 | w30
  · have hsp := hk_t w30 hsp
    refine lv_tableIn (off := 123) (tgt := 131) hx hb dX8_isRefused_8 (by rw [w30]; decide) (by rw [w30]; decide) (by rw [w30]; rfl) (by decide) ?_
    refine lv_aload_n hx hb dX8_isRefused_131 rfl (lv_at hl 0 rfl) ?_
    obtain ⟨r31, er31, hsp⟩ := hk_b hsp
    obtain ⟨kr31, hsp⟩ := hk_k hsp
    refine hk_getR F9 G h0 hkc_6 (k := 1) (by decide) qw_270 rfl er31 dX8_isRefused_132 ?_
    refine lv_aload_n hx hb dX8_isRefused_135 rfl (lv_at hl 0 rfl) ?_
    refine lv_iconst (v := 0) hx hb dX8_isRefused_136 (by decide) ?_
    obtain ⟨r32, er32, hsp⟩ := hk_b hsp
    refine hk_callVi (As := [.int 0]) (rest := [.ref (g.1 + r31)]) F9 G h0 hkc_6 rfl (kX8_operand l g E F n S a0 0 r32 h0 er32) qv_RX8_134 ⟨rfl, rfl, (Nat.le_of_ble_eq_true rfl), (Nat.le_of_ble_eq_true rfl)⟩ rfl hl.1 rfl (Nat.le_of_ble_eq_true rfl) ⟨Nat.zero_le _, Nat.zero_le _⟩ dX8_isRefused_137 (fun H locs G => ?_)
    obtain ⟨r33, er33, hsp⟩ := hk_b hsp
    refine hk_callVr (As := [.int r32.1]) (rest := []) F9 G kr31 hkc_3 rfl (kX5_troughAt l g E F n r32.2 r31 r32.1 r33 kr31 er33) qv_RX8_150 ⟨rfl, rfl, (Nat.le_of_ble_eq_true rfl), (Nat.le_of_ble_eq_true rfl)⟩ rfl hl.1 rfl (Nat.le_of_ble_eq_true rfl) ⟨Nat.zero_le _, Nat.zero_le _⟩ dX8_isRefused_140 (fun H locs G => ?_)
    obtain ⟨q34, hsp⟩ := hk_k hsp
    obtain ⟨r35, er35, hsp⟩ := hk_b hsp
    refine hk_callVi (As := []) (rest := []) F9 G q34 hkc_7 rfl (kX10_hasLeaf l g E F n r33.2 r33.1 r35 q34 er35) qv_RX8_186 ⟨rfl, rfl, (Nat.le_of_ble_eq_true rfl), (Nat.le_of_ble_eq_true rfl)⟩ rfl hl.1 rfl (Nat.le_of_ble_eq_true rfl) ⟨Nat.zero_le _, Nat.zero_le _⟩ dX8_isRefused_143 (fun H locs G => ?_)
    refine lv_if_ne (tgt := 153) hx hb dX8_isRefused_146 (by decide) (fun c36 => ?_) (fun c36 => ?_)
    · have hsp := hk_t c36 hsp
      refine lv_iconst (v := 0) hx hb dX8_isRefused_153 (by decide) ?_
      obtain rfl := hk_s hsp
      exact W.zret (v := 0) hx hb hr (hk_z (by decide)).1 (fun t ht hW => hk_end G ht hW) G.2.1.2.2 dX8_isRefused_154
    · have hsp := hk_g c36 hsp
      refine lv_iconst (v := 1) hx hb dX8_isRefused_149 (by decide) ?_
      refine lv_goto (tgt := 154) hx hb dX8_isRefused_150 (by decide) ?_
      obtain rfl := hk_s hsp
      exact W.zret (v := 1) hx hb hr (hk_z (by decide)).1 (fun t ht hW => hk_end G ht hW) G.2.1.2.2 dX8_isRefused_154
  have hsp := hk_f w30 hsp
  rcases Classical.em ((hk_sm.getD (x1).toNatClampNeg 0) = 8) with w37 | w37
  · have hsp := hk_t w37 hsp
    refine lv_tableIn (off := 215) (tgt := 223) hx hb dX8_isRefused_8 (by rw [w37]; decide) (by rw [w37]; decide) (by rw [w37]; rfl) (by decide) ?_
    refine lv_iconst (v := 0) hx hb dX8_isRefused_223 (by decide) ?_
    obtain rfl := hk_s hsp
    exact W.zret (v := 0) hx hb hr (hk_z (by decide)).1 (fun t ht hW => hk_end G ht hW) G.2.1.2.2 dX8_isRefused_224
  have hsp := hk_f w37 hsp
  rcases Classical.em ((hk_sm.getD (x1).toNatClampNeg 0) = 9) with w38 | w38
  · have hsp := hk_t w38 hsp
    refine lv_tableIn (off := 215) (tgt := 223) hx hb dX8_isRefused_8 (by rw [w38]; decide) (by rw [w38]; decide) (by rw [w38]; rfl) (by decide) ?_
    refine lv_iconst (v := 0) hx hb dX8_isRefused_223 (by decide) ?_
    obtain rfl := hk_s hsp
    exact W.zret (v := 0) hx hb hr (hk_z (by decide)).1 (fun t ht hW => hk_end G ht hW) G.2.1.2.2 dX8_isRefused_224
  have hsp := hk_f w38 hsp
  rcases Classical.em ((hk_sm.getD (x1).toNatClampNeg 0) = 10) with w39 | w39
  · have hsp := hk_t w39 hsp
    refine lv_tableIn (off := 104) (tgt := 112) hx hb dX8_isRefused_8 (by rw [w39]; decide) (by rw [w39]; decide) (by rw [w39]; rfl) (by decide) ?_
    refine lv_aload_n hx hb dX8_isRefused_112 rfl (lv_at hl 0 rfl) ?_
    obtain ⟨r40, er40, hsp⟩ := hk_b hsp
    obtain ⟨kr40, hsp⟩ := hk_k hsp
    refine hk_getR F9 G h0 hkc_6 (k := 1) (by decide) qw_270 rfl er40 dX8_isRefused_113 ?_
    obtain ⟨r41, er41, hsp⟩ := hk_b hsp
    obtain ⟨kr41, hsp⟩ := hk_k hsp
    refine hk_getR F9 G kr40 hkc_3 (k := 0) (by decide) qw_173 rfl er41 dX8_isRefused_116 ?_
    obtain ⟨r42, er42, hsp⟩ := hk_b hsp
    refine hk_callVi (As := []) (rest := []) F9 G kr41 hkc_0 rfl (kX1_hasRoomForMonsoon l g E F n S r41 r42 kr41 er42) qv_RX8_189 ⟨rfl, rfl, (Nat.le_of_ble_eq_true rfl), (Nat.le_of_ble_eq_true rfl)⟩ rfl hl.1 rfl (Nat.le_of_ble_eq_true rfl) ⟨Nat.zero_le _, Nat.zero_le _⟩ dX8_isRefused_119 (fun H locs G => ?_)
    refine lv_if_ne (tgt := 129) hx hb dX8_isRefused_122 (by decide) (fun c43 => ?_) (fun c43 => ?_)
    · have hsp := hk_t c43 hsp
      refine lv_iconst (v := 0) hx hb dX8_isRefused_129 (by decide) ?_
      obtain rfl := hk_s hsp
      exact W.zret (v := 0) hx hb hr (hk_z (by decide)).1 (fun t ht hW => hk_end G ht hW) G.2.1.2.2 dX8_isRefused_130
    · have hsp := hk_g c43 hsp
      refine lv_iconst (v := 1) hx hb dX8_isRefused_125 (by decide) ?_
      refine lv_goto (tgt := 130) hx hb dX8_isRefused_126 (by decide) ?_
      obtain rfl := hk_s hsp
      exact W.zret (v := 1) hx hb hr (hk_z (by decide)).1 (fun t ht hW => hk_end G ht hW) G.2.1.2.2 dX8_isRefused_130
  have hsp := hk_f w39 hsp
  rcases Classical.em ((hk_sm.getD (x1).toNatClampNeg 0) = 11) with w44 | w44
  · have hsp := hk_t w44 hsp
    refine lv_tableIn (off := 215) (tgt := 223) hx hb dX8_isRefused_8 (by rw [w44]; decide) (by rw [w44]; decide) (by rw [w44]; rfl) (by decide) ?_
    refine lv_iconst (v := 0) hx hb dX8_isRefused_223 (by decide) ?_
    obtain rfl := hk_s hsp
    exact W.zret (v := 0) hx hb hr (hk_z (by decide)).1 (fun t ht hW => hk_end G ht hW) G.2.1.2.2 dX8_isRefused_224
  have hsp := hk_f w44 hsp
  rcases Classical.em ((hk_sm.getD (x1).toNatClampNeg 0) = 12) with w45 | w45
  · have hsp := hk_t w45 hsp
    refine lv_tableIn (off := 175) (tgt := 183) hx hb dX8_isRefused_8 (by rw [w45]; decide) (by rw [w45]; decide) (by rw [w45]; rfl) (by decide) ?_
    refine lv_aload_n hx hb dX8_isRefused_183 rfl (lv_at hl 0 rfl) ?_
    obtain ⟨r46, er46, hsp⟩ := hk_b hsp
    obtain ⟨kr46, hsp⟩ := hk_k hsp
    refine hk_getR F9 G h0 hkc_6 (k := 1) (by decide) qw_270 rfl er46 dX8_isRefused_184 ?_
    obtain ⟨r47, er47, hsp⟩ := hk_b hsp
    refine hk_callVi (As := []) (rest := []) F9 G kr46 hkc_3 rfl (kX5_hasRoomForProbe l g E F n S r46 r47 kr46 er47) qv_RX8_196 ⟨rfl, rfl, (Nat.le_of_ble_eq_true rfl), (Nat.le_of_ble_eq_true rfl)⟩ rfl hl.1 rfl (Nat.le_of_ble_eq_true rfl) ⟨Nat.zero_le _, Nat.zero_le _⟩ dX8_isRefused_187 (fun H locs G => ?_)
    refine lv_if_ne (tgt := 197) hx hb dX8_isRefused_190 (by decide) (fun c48 => ?_) (fun c48 => ?_)
    · have hsp := hk_t c48 hsp
      refine lv_iconst (v := 0) hx hb dX8_isRefused_197 (by decide) ?_
      obtain rfl := hk_s hsp
      exact W.zret (v := 0) hx hb hr (hk_z (by decide)).1 (fun t ht hW => hk_end G ht hW) G.2.1.2.2 dX8_isRefused_198
    · have hsp := hk_g c48 hsp
      refine lv_iconst (v := 1) hx hb dX8_isRefused_193 (by decide) ?_
      refine lv_goto (tgt := 198) hx hb dX8_isRefused_194 (by decide) ?_
      obtain rfl := hk_s hsp
      exact W.zret (v := 1) hx hb hr (hk_z (by decide)).1 (fun t ht hW => hk_end G ht hW) G.2.1.2.2 dX8_isRefused_198
  have hsp := hk_f w45 hsp
  rcases Classical.em ((hk_sm.getD (x1).toNatClampNeg 0) = 13) with w49 | w49
  · have hsp := hk_t w49 hsp
    refine lv_tableIn (off := 215) (tgt := 223) hx hb dX8_isRefused_8 (by rw [w49]; decide) (by rw [w49]; decide) (by rw [w49]; rfl) (by decide) ?_
    refine lv_iconst (v := 0) hx hb dX8_isRefused_223 (by decide) ?_
    obtain rfl := hk_s hsp
    exact W.zret (v := 0) hx hb hr (hk_z (by decide)).1 (fun t ht hW => hk_end G ht hW) G.2.1.2.2 dX8_isRefused_224
  have hsp := hk_f w49 hsp
  rcases Classical.em ((hk_sm.getD (x1).toNatClampNeg 0) = 14) with w50 | w50
  · have hsp := hk_t w50 hsp
    refine lv_tableIn (off := 191) (tgt := 199) hx hb dX8_isRefused_8 (by rw [w50]; decide) (by rw [w50]; decide) (by rw [w50]; rfl) (by decide) ?_
    refine lv_aload_n hx hb dX8_isRefused_199 rfl (lv_at hl 0 rfl) ?_
    obtain ⟨r51, er51, hsp⟩ := hk_b hsp
    obtain ⟨kr51, hsp⟩ := hk_k hsp
    refine hk_getR F9 G h0 hkc_6 (k := 1) (by decide) qw_270 rfl er51 dX8_isRefused_200 ?_
    obtain ⟨r52, er52, hsp⟩ := hk_b hsp
    obtain ⟨kr52, hsp⟩ := hk_k hsp
    refine hk_getR F9 G kr51 hkc_3 (k := 0) (by decide) qw_173 rfl er52 dX8_isRefused_203 ?_
    refine lv_aload_n hx hb dX8_isRefused_206 rfl (lv_at hl 0 rfl) ?_
    refine lv_iconst (v := 0) hx hb dX8_isRefused_207 (by decide) ?_
    obtain ⟨r53, er53, hsp⟩ := hk_b hsp
    refine hk_callVi (As := [.int 0]) (rest := [.ref (g.1 + r52)]) F9 G h0 hkc_6 rfl (kX8_operand l g E F n S a0 0 r53 h0 er53) qv_RX8_134 ⟨rfl, rfl, (Nat.le_of_ble_eq_true rfl), (Nat.le_of_ble_eq_true rfl)⟩ rfl hl.1 rfl (Nat.le_of_ble_eq_true rfl) ⟨Nat.zero_le _, Nat.zero_le _⟩ dX8_isRefused_208 (fun H locs G => ?_)
    obtain ⟨r54, er54, hsp⟩ := hk_b hsp
    refine hk_callVi (As := [.int r53.1]) (rest := []) F9 G kr52 hkc_0 rfl (kX1_hasHoursLeft l g E F n r53.2 r52 r53.1 r54 kr52 er54) qv_RX8_199 ⟨rfl, rfl, (Nat.le_of_ble_eq_true rfl), (Nat.le_of_ble_eq_true rfl)⟩ rfl hl.1 rfl (Nat.le_of_ble_eq_true rfl) ⟨Nat.zero_le _, Nat.zero_le _⟩ dX8_isRefused_211 (fun H locs G => ?_)
    refine lv_if_ne (tgt := 221) hx hb dX8_isRefused_214 (by decide) (fun c55 => ?_) (fun c55 => ?_)
    · have hsp := hk_t c55 hsp
      refine lv_iconst (v := 0) hx hb dX8_isRefused_221 (by decide) ?_
      obtain rfl := hk_s hsp
      exact W.zret (v := 0) hx hb hr (hk_z (by decide)).1 (fun t ht hW => hk_end G ht hW) G.2.1.2.2 dX8_isRefused_222
    · have hsp := hk_g c55 hsp
      refine lv_iconst (v := 1) hx hb dX8_isRefused_217 (by decide) ?_
      refine lv_goto (tgt := 222) hx hb dX8_isRefused_218 (by decide) ?_
      obtain rfl := hk_s hsp
      exact W.zret (v := 1) hx hb hr (hk_z (by decide)).1 (fun t ht hW => hk_end G ht hW) G.2.1.2.2 dX8_isRefused_222
  have hsp := hk_f w50 hsp
  refine lv_tableOut (tgt := 223) hx hb dX8_isRefused_8 (hk_outs (lo := 1) (n := 14) (L := [1, 2, 3, 4, 5, 6, 7, 8, 9, 10, 11, 12, 13, 14]) (List.forall_mem_cons.mpr ⟨w3, List.forall_mem_cons.mpr ⟨w7, List.forall_mem_cons.mpr ⟨w14, List.forall_mem_cons.mpr ⟨w15, List.forall_mem_cons.mpr ⟨w16, List.forall_mem_cons.mpr ⟨w23, List.forall_mem_cons.mpr ⟨w30, List.forall_mem_cons.mpr ⟨w37, List.forall_mem_cons.mpr ⟨w38, List.forall_mem_cons.mpr ⟨w39, List.forall_mem_cons.mpr ⟨w44, List.forall_mem_cons.mpr ⟨w45, List.forall_mem_cons.mpr ⟨w49, List.forall_mem_cons.mpr ⟨w50, fun _ h => absurd h List.not_mem_nil⟩⟩⟩⟩⟩⟩⟩⟩⟩⟩⟩⟩⟩⟩) (by decide) (by decide)) (by decide) ?_
  refine lv_iconst (v := 0) hx hb dX8_isRefused_223 (by decide) ?_
  obtain rfl := hk_s hsp
  exact W.zret (v := 0) hx hb hr (hk_z (by decide)).1 (fun t ht hW => hk_end G ht hW) G.2.1.2.2 dX8_isRefused_224
def mX8_readDigits_17 (E : hk_E) (F : Nat) (a0 : Nat)  (k : hk_S → Int32 → Option (hk_S)) : Nat → hk_S → Int32 → Option (hk_S)
  | 0 => fun _ _ => none
  | f + 1 => fun S z4 =>
    (E.2.2.2 a0 0).bind (fun r5 => if E.2.1 r5 = 3 then (if (S r5 1) ≤ (S a0 4) then (k S z4) else ((mX8_isDigit E F S z4).bind (fun r7 => if r7.1 = 0 then (k r7.2 z4) else (hk_let (hk_up r7.2 a0 7 ((((r7.2 a0 7) * 10) + z4) - 48)) (fun S9 => hk_let (hk_up S9 a0 4 ((S9 a0 4) + 1)) (fun S10 => (mX4_byteAt E F S10 r5 (S10 a0 4)).bind (fun r11 => mX8_readDigits_17 E F a0 k f r11.2 r11.1))))))) else none)
def mX8_readDigits (E : hk_E) (F : Nat) (S : hk_S) (a0 : Nat) : Option (hk_S) :=
hk_let (hk_up S a0 7 0) (fun S1 => (E.2.2.2 a0 0).bind (fun r2 => if E.2.1 r2 = 3 then ((mX4_byteAt E F S1 r2 (S1 a0 4)).bind (fun r3 => mX8_readDigits_17 E F a0  (fun S12 z13 => if 4 < ((S12 a0 4) - (S12 a0 6)) then (hk_let (hk_up S12 a0 5 6) (fun S15 => some (S15))) else (hk_let (hk_up S12 a0 5 1) (fun S16 => some (S16)))) F r3.2 r3.1)) else none))
set_option maxHeartbeats 4000000 in
set_option maxRecDepth 100000 in
theorem kX8_readDigits (l : Launch) (g : hk_G) (E : hk_E) (F n : Nat) (S : hk_S) (a0 : Nat) (o : hk_S) (h0 : E.2.1 a0 = 7) (hsp : mX8_readDigits E F S a0 = some o) : Met l yX8_readDigits (hk_ws yX8_readDigits cX8_readDigits 2 (Option.none : Option Jvm.ClassFile.FieldType)) ({ frames := 1, cells := 0, slots := 0, locals := 21 }) (hk_Pc g E S n [.ref (g.1 + a0)]) (hk_Q g E o n none) 0 0 (hk_A g) := by
  refine Met.ofW (cc := cX8_readDigits) (maxL := 2) (ret := (Option.none : Option Jvm.ClassFile.FieldType)) (by decide) rfl ?_
  intro p e s m args below meth c s₁ B hml hv
  obtain ⟨rfl, G⟩ := hk_begin hv
  have F9 : CallFix p m c cX8_readDigits 2 s [.ref (g.1 + a0)].toArray hk_W RX8 := ⟨B.exec, B.bytes, hml, findClass_of_methodNamed B.named, fun w h => atoms_spec (ws := hk_ws yX8_readDigits cX8_readDigits 2 (Option.none : Option Jvm.ClassFile.FieldType)) B.pre w (hk_in h)⟩
  have hx := B.exec
  have hb := B.bytes
  have hr := B.returns
  have hlocks := B.notSynchronized
  have hl := lv_entry ([.ref (g.1 + a0)]) (n := 2) (Nat.le_of_ble_eq_true rfl)
  rw [lg_entry_eq]
  generalize (lg_sl ([.ref (g.1 + a0)]) ++ List.replicate (2 - (lg_sl ([.ref (g.1 + a0)])).length) Slot.unset).toArray = ls at hl ⊢
  have hl : lv_has ls 2 [(0, .ref (g.1 + a0))] := hl
  unfold mX8_readDigits at hsp
  have G : hk_GG g E S n s s.heap [] := G
  have L_17 : ∀   (k : hk_S → Int32 → Option (hk_S)) (_ : ∀ (S : hk_S) (z4 : Int32) (H : Heap) (locs : List Loc) (ls : Array Slot), k S z4 = some o → hk_GG g E S n s H locs → lv_has ls 2 [(0, .ref (g.1 + a0)), (1, .int z4)] → W p l e (headSpec (hk_ws yX8_readDigits cX8_readDigits 2 (Option.none : Option Jvm.ClassFile.FieldType)) ({ frames := 1, cells := 0, slots := 0, locals := 21 })).room s m [.ref (g.1 + a0)].toArray below meth c H locs 0 0 (MQ below (hk_Q g E o n none) [.ref (g.1 + a0)].toArray s 0 0 (hk_A g)) (F0 m 79 ls [])) (f : Nat) (S : hk_S) (z4 : Int32) (H : Heap) (locs : List Loc) (ls : Array Slot), mX8_readDigits_17 E F a0 k f S z4 = some o → hk_GG g E S n s H locs → lv_has ls 2 [(0, .ref (g.1 + a0)), (1, .int z4)] → W p l e (headSpec (hk_ws yX8_readDigits cX8_readDigits 2 (Option.none : Option Jvm.ClassFile.FieldType)) ({ frames := 1, cells := 0, slots := 0, locals := 21 })).room s m [.ref (g.1 + a0)].toArray below meth c H locs 0 0 (MQ below (hk_Q g E o n none) [.ref (g.1 + a0)].toArray s 0 0 (hk_A g)) (F0 m 17 ls []) := by
    intro   k hk f
    induction f with
    | zero =>
      intro S z4 H locs ls hsp
      exact nomatch hsp
    | succ f ih =>
      intro S z4 H locs ls hsp G hl
      rw [mX8_readDigits_17] at hsp
      refine lv_aload_n hx hb dX8_readDigits_17 rfl (lv_at hl 0 rfl) ?_
      refine hk_getI F9 G h0 hkc_6 (k := 4) (by decide) qw_276 rfl dX8_readDigits_18 ?_
      refine lv_aload_n hx hb dX8_readDigits_21 rfl (lv_at hl 0 rfl) ?_
      obtain ⟨r5, er5, hsp⟩ := hk_b hsp
      obtain ⟨kr5, hsp⟩ := hk_k hsp
      refine hk_getR F9 G h0 hkc_6 (k := 0) (by decide) qw_268 rfl er5 dX8_readDigits_22 ?_
      refine hk_getI F9 G kr5 hkc_2 (k := 1) (by decide) qw_257 rfl dX8_readDigits_25 ?_
      refine lv_icmp_ge (tgt := 79) hx hb dX8_readDigits_28 (by decide) (fun c6 => ?_) (fun c6 => ?_)
      · have hsp := hk_t c6 hsp
        exact hk S z4 _ _ _ hsp G (lv_sub hl [0, 1] rfl)
      · have hsp := hk_f c6 hsp
        refine lv_iload_n hx hb dX8_readDigits_31 rfl (lv_at hl 1 rfl) ?_
        obtain ⟨r7, er7, hsp⟩ := hk_b hsp
        refine hk_callSi (As := [.int z4]) (rest := []) F9 G (kX8_isDigit l g E F n S z4 r7  er7) qv_RX8_278 ⟨rfl, rfl, (Nat.le_of_ble_eq_true rfl), (Nat.le_of_ble_eq_true rfl)⟩ rfl hl.1 rfl (Nat.le_of_ble_eq_true rfl) ⟨Nat.zero_le _, Nat.zero_le _⟩ dX8_readDigits_32 (fun H locs G => ?_)
        refine lv_if_eq (tgt := 79) hx hb dX8_readDigits_35 (by decide) (fun c8 => ?_) (fun c8 => ?_)
        · have hsp := hk_t c8 hsp
          exact hk r7.2 z4 _ _ _ hsp G (lv_sub hl [0, 1] rfl)
        · have hsp := hk_f c8 hsp
          refine lv_aload_n hx hb dX8_readDigits_38 rfl (lv_at hl 0 rfl) ?_
          refine lv_aload_n hx hb dX8_readDigits_39 rfl (lv_at hl 0 rfl) ?_
          refine hk_getI F9 G h0 hkc_6 (k := 7) (by decide) qw_279 rfl dX8_readDigits_40 ?_
          refine lv_bipush (v := 10) hx hb dX8_readDigits_43 (by decide) ?_
          refine lv_imul hx hb dX8_readDigits_45 ?_
          refine lv_iload_n hx hb dX8_readDigits_46 rfl (lv_at hl 1 rfl) ?_
          refine lv_iadd hx hb dX8_readDigits_47 ?_
          refine lv_bipush (v := 48) hx hb dX8_readDigits_48 (by decide) ?_
          refine lv_isub hx hb dX8_readDigits_50 ?_
          obtain ⟨S9, eS9, hsp⟩ := hk_l hsp
          refine hk_putI F9 G h0 hkc_6 (k := 7) (by decide) qw_279 rfl rfl (tyX8_ok 7 (by decide)) rfl rfl dX8_readDigits_51 (fun H locs G => ?_)
          rw [eS9] at G
          refine lv_aload_n hx hb dX8_readDigits_54 rfl (lv_at hl 0 rfl) ?_
          refine lv_dup hx hb dX8_readDigits_55 rfl ?_
          refine hk_getI F9 G h0 hkc_6 (k := 4) (by decide) qw_276 rfl dX8_readDigits_56 ?_
          refine lv_iconst (v := 1) hx hb dX8_readDigits_59 (by decide) ?_
          refine lv_iadd hx hb dX8_readDigits_60 ?_
          obtain ⟨S10, eS10, hsp⟩ := hk_l hsp
          refine hk_putI F9 G h0 hkc_6 (k := 4) (by decide) qw_276 rfl rfl (tyX8_ok 4 (by decide)) rfl rfl dX8_readDigits_61 (fun H locs G => ?_)
          rw [eS10] at G
          refine lv_aload_n hx hb dX8_readDigits_64 rfl (lv_at hl 0 rfl) ?_
          refine hk_getR F9 G h0 hkc_6 (k := 0) (by decide) qw_268 rfl er5 dX8_readDigits_65 ?_
          refine lv_aload_n hx hb dX8_readDigits_68 rfl (lv_at hl 0 rfl) ?_
          refine hk_getI F9 G h0 hkc_6 (k := 4) (by decide) qw_276 rfl dX8_readDigits_69 ?_
          obtain ⟨r11, er11, hsp⟩ := hk_b hsp
          refine hk_callVi (As := [.int (S10 a0 4)]) (rest := []) F9 G kr5 hkc_2 rfl (kX4_byteAt l g E F n S10 r5 (S10 a0 4) r11 kr5 er11) qv_RX8_275 ⟨rfl, rfl, (Nat.le_of_ble_eq_true rfl), (Nat.le_of_ble_eq_true rfl)⟩ rfl hl.1 rfl (Nat.le_of_ble_eq_true rfl) ⟨Nat.zero_le _, Nat.zero_le _⟩ dX8_readDigits_72 (fun H locs G => ?_)
          refine lv_istore_n (lv' := [(1, .int r11.1), (0, .ref (g.1 + a0))]) hx hb dX8_readDigits_75 rfl hl (by decide) rfl (fun ls hl => ?_)
          refine lv_goto (tgt := 17) hx hb dX8_readDigits_76 (by decide) ?_
          exact ih r11.2 r11.1 _ _ _ hsp G (lv_sub hl [1, 0] rfl)
  refine lv_aload_n hx hb dX8_readDigits_0 rfl (lv_at hl 0 rfl) ?_
  refine lv_iconst (v := 0) hx hb dX8_readDigits_1 (by decide) ?_
  obtain ⟨S1, eS1, hsp⟩ := hk_l hsp
  refine hk_putI F9 G h0 hkc_6 (k := 7) (by decide) qw_279 rfl rfl (tyX8_ok 7 (by decide)) rfl rfl dX8_readDigits_2 (fun H locs G => ?_)
  rw [eS1] at G
  refine lv_aload_n hx hb dX8_readDigits_5 rfl (lv_at hl 0 rfl) ?_
  obtain ⟨r2, er2, hsp⟩ := hk_b hsp
  obtain ⟨kr2, hsp⟩ := hk_k hsp
  refine hk_getR F9 G h0 hkc_6 (k := 0) (by decide) qw_268 rfl er2 dX8_readDigits_6 ?_
  refine lv_aload_n hx hb dX8_readDigits_9 rfl (lv_at hl 0 rfl) ?_
  refine hk_getI F9 G h0 hkc_6 (k := 4) (by decide) qw_276 rfl dX8_readDigits_10 ?_
  obtain ⟨r3, er3, hsp⟩ := hk_b hsp
  refine hk_callVi (As := [.int (S1 a0 4)]) (rest := []) F9 G kr2 hkc_2 rfl (kX4_byteAt l g E F n S1 r2 (S1 a0 4) r3 kr2 er3) qv_RX8_275 ⟨rfl, rfl, (Nat.le_of_ble_eq_true rfl), (Nat.le_of_ble_eq_true rfl)⟩ rfl hl.1 rfl (Nat.le_of_ble_eq_true rfl) ⟨Nat.zero_le _, Nat.zero_le _⟩ dX8_readDigits_13 (fun H locs G => ?_)
  refine lv_istore_n (lv' := [(1, .int r3.1), (0, .ref (g.1 + a0))]) hx hb dX8_readDigits_16 rfl hl (by decide) rfl (fun ls hl => ?_)
  refine L_17   _ ?_ F r3.2 r3.1 _ _ _ hsp G (lv_sub hl [1, 0] rfl)
  intro S12 z13 H locs ls hsp G hl
  refine lv_aload_n hx hb dX8_readDigits_79 rfl (lv_at hl 0 rfl) ?_
  refine lv_aload_n hx hb dX8_readDigits_80 rfl (lv_at hl 0 rfl) ?_
  refine hk_getI F9 G h0 hkc_6 (k := 4) (by decide) qw_276 rfl dX8_readDigits_81 ?_
  refine lv_aload_n hx hb dX8_readDigits_84 rfl (lv_at hl 0 rfl) ?_
  refine hk_getI F9 G h0 hkc_6 (k := 6) (by decide) qw_278 rfl dX8_readDigits_85 ?_
  refine lv_isub hx hb dX8_readDigits_88 ?_
  refine lv_iconst (v := 4) hx hb dX8_readDigits_89 (by decide) ?_
  refine lv_icmp_gt (tgt := 99) hx hb dX8_readDigits_90 (by decide) (fun c14 => ?_) (fun c14 => ?_)
  · have hsp := hk_t c14 hsp
    refine hk_getTok F9 G 6 (x := 6) (by decide) (hk_en_ref (by decide)) qw_463 dX8_readDigits_99 ?_
    obtain ⟨S15, eS15, hsp⟩ := hk_l hsp
    refine hk_putE F9 G h0 hkc_6 (k := 5) (by decide) qw_277 rfl rfl rfl dX8_readDigits_102 (fun H locs G => ?_)
    rw [eS15] at G
    obtain rfl := hk_s hsp
    exact W.vret hx hb hr (fun t ht hW => hk_end G ht hW) G.2.1.2.2 dX8_readDigits_105
  · have hsp := hk_f c14 hsp
    refine hk_getTok F9 G 1 (x := 1) (by decide) (hk_en_ref (by decide)) qw_461 dX8_readDigits_93 ?_
    refine lv_goto (tgt := 102) hx hb dX8_readDigits_96 (by decide) ?_
    obtain ⟨S16, eS16, hsp⟩ := hk_l hsp
    refine hk_putE F9 G h0 hkc_6 (k := 5) (by decide) qw_277 rfl rfl rfl dX8_readDigits_102 (fun H locs G => ?_)
    rw [eS16] at G
    obtain rfl := hk_s hsp
    exact W.vret hx hb hr (fun t ht hW => hk_end G ht hW) G.2.1.2.2 dX8_readDigits_105
def mX8_readLetters_0 (E : hk_E) (F : Nat) (a0 : Nat)  (k : hk_S → Option (hk_S)) : Nat → hk_S → Option (hk_S)
  | 0 => fun _ => none
  | f + 1 => fun S  =>
    (E.2.2.2 a0 0).bind (fun r1 => if E.2.1 r1 = 3 then (if (S r1 1) ≤ (S a0 4) then (k S ) else ((mX4_byteAt E F S r1 (S a0 4)).bind (fun r3 => (mX8_isLetter E F r3.2 r3.1).bind (fun r4 => if r4.1 = 0 then (k r4.2 ) else (hk_let (hk_up r4.2 a0 4 ((r4.2 a0 4) + 1)) (fun S6 => mX8_readLetters_0 E F a0 k f S6 )))))) else none)
def mX8_readLetters (E : hk_E) (F : Nat) (S : hk_S) (a0 : Nat) : Option (hk_S) :=
mX8_readLetters_0 E F a0  (fun S7  => hk_let (hk_up S7 a0 5 0) (fun S8 => some (S8))) F S 
set_option maxHeartbeats 4000000 in
set_option maxRecDepth 100000 in
theorem kX8_readLetters (l : Launch) (g : hk_G) (E : hk_E) (F n : Nat) (S : hk_S) (a0 : Nat) (o : hk_S) (h0 : E.2.1 a0 = 7) (hsp : mX8_readLetters E F S a0 = some o) : Met l yX8_readLetters (hk_ws yX8_readLetters cX8_readLetters 1 (Option.none : Option Jvm.ClassFile.FieldType)) ({ frames := 1, cells := 0, slots := 0, locals := 21 }) (hk_Pc g E S n [.ref (g.1 + a0)]) (hk_Q g E o n none) 0 0 (hk_A g) := by
  refine Met.ofW (cc := cX8_readLetters) (maxL := 1) (ret := (Option.none : Option Jvm.ClassFile.FieldType)) (by decide) rfl ?_
  intro p e s m args below meth c s₁ B hml hv
  obtain ⟨rfl, G⟩ := hk_begin hv
  have F9 : CallFix p m c cX8_readLetters 1 s [.ref (g.1 + a0)].toArray hk_W RX8 := ⟨B.exec, B.bytes, hml, findClass_of_methodNamed B.named, fun w h => atoms_spec (ws := hk_ws yX8_readLetters cX8_readLetters 1 (Option.none : Option Jvm.ClassFile.FieldType)) B.pre w (hk_in h)⟩
  have hx := B.exec
  have hb := B.bytes
  have hr := B.returns
  have hlocks := B.notSynchronized
  have hl := lv_entry ([.ref (g.1 + a0)]) (n := 1) (Nat.le_of_ble_eq_true rfl)
  rw [lg_entry_eq]
  generalize (lg_sl ([.ref (g.1 + a0)]) ++ List.replicate (1 - (lg_sl ([.ref (g.1 + a0)])).length) Slot.unset).toArray = ls at hl ⊢
  have hl : lv_has ls 1 [(0, .ref (g.1 + a0))] := hl
  unfold mX8_readLetters at hsp
  have G : hk_GG g E S n s s.heap [] := G
  have L_0 : ∀   (k : hk_S → Option (hk_S)) (_ : ∀ (S : hk_S) (H : Heap) (locs : List Loc) (ls : Array Slot), k S  = some o → hk_GG g E S n s H locs → lv_has ls 1 [(0, .ref (g.1 + a0))] → W p l e (headSpec (hk_ws yX8_readLetters cX8_readLetters 1 (Option.none : Option Jvm.ClassFile.FieldType)) ({ frames := 1, cells := 0, slots := 0, locals := 21 })).room s m [.ref (g.1 + a0)].toArray below meth c H locs 0 0 (MQ below (hk_Q g E o n none) [.ref (g.1 + a0)].toArray s 0 0 (hk_A g)) (F0 m 44 ls [])) (f : Nat) (S : hk_S) (H : Heap) (locs : List Loc) (ls : Array Slot), mX8_readLetters_0 E F a0 k f S  = some o → hk_GG g E S n s H locs → lv_has ls 1 [(0, .ref (g.1 + a0))] → W p l e (headSpec (hk_ws yX8_readLetters cX8_readLetters 1 (Option.none : Option Jvm.ClassFile.FieldType)) ({ frames := 1, cells := 0, slots := 0, locals := 21 })).room s m [.ref (g.1 + a0)].toArray below meth c H locs 0 0 (MQ below (hk_Q g E o n none) [.ref (g.1 + a0)].toArray s 0 0 (hk_A g)) (F0 m 0 ls []) := by
    intro   k hk f
    induction f with
    | zero =>
      intro S  H locs ls hsp
      exact nomatch hsp
    | succ f ih =>
      intro S  H locs ls hsp G hl
      rw [mX8_readLetters_0] at hsp
      refine lv_aload_n hx hb dX8_readLetters_0 rfl (lv_at hl 0 rfl) ?_
      refine hk_getI F9 G h0 hkc_6 (k := 4) (by decide) qw_276 rfl dX8_readLetters_1 ?_
      refine lv_aload_n hx hb dX8_readLetters_4 rfl (lv_at hl 0 rfl) ?_
      obtain ⟨r1, er1, hsp⟩ := hk_b hsp
      obtain ⟨kr1, hsp⟩ := hk_k hsp
      refine hk_getR F9 G h0 hkc_6 (k := 0) (by decide) qw_268 rfl er1 dX8_readLetters_5 ?_
      refine hk_getI F9 G kr1 hkc_2 (k := 1) (by decide) qw_257 rfl dX8_readLetters_8 ?_
      refine lv_icmp_ge (tgt := 44) hx hb dX8_readLetters_11 (by decide) (fun c2 => ?_) (fun c2 => ?_)
      · have hsp := hk_t c2 hsp
        exact hk S  _ _ _ hsp G (lv_sub hl [0] rfl)
      · have hsp := hk_f c2 hsp
        refine lv_aload_n hx hb dX8_readLetters_14 rfl (lv_at hl 0 rfl) ?_
        refine hk_getR F9 G h0 hkc_6 (k := 0) (by decide) qw_268 rfl er1 dX8_readLetters_15 ?_
        refine lv_aload_n hx hb dX8_readLetters_18 rfl (lv_at hl 0 rfl) ?_
        refine hk_getI F9 G h0 hkc_6 (k := 4) (by decide) qw_276 rfl dX8_readLetters_19 ?_
        obtain ⟨r3, er3, hsp⟩ := hk_b hsp
        refine hk_callVi (As := [.int (S a0 4)]) (rest := []) F9 G kr1 hkc_2 rfl (kX4_byteAt l g E F n S r1 (S a0 4) r3 kr1 er3) qv_RX8_275 ⟨rfl, rfl, (Nat.le_of_ble_eq_true rfl), (Nat.le_of_ble_eq_true rfl)⟩ rfl hl.1 rfl (Nat.le_of_ble_eq_true rfl) ⟨Nat.zero_le _, Nat.zero_le _⟩ dX8_readLetters_22 (fun H locs G => ?_)
        obtain ⟨r4, er4, hsp⟩ := hk_b hsp
        refine hk_callSi (As := [.int r3.1]) (rest := []) F9 G (kX8_isLetter l g E F n r3.2 r3.1 r4  er4) qv_RX8_284 ⟨rfl, rfl, (Nat.le_of_ble_eq_true rfl), (Nat.le_of_ble_eq_true rfl)⟩ rfl hl.1 rfl (Nat.le_of_ble_eq_true rfl) ⟨Nat.zero_le _, Nat.zero_le _⟩ dX8_readLetters_25 (fun H locs G => ?_)
        refine lv_if_eq (tgt := 44) hx hb dX8_readLetters_28 (by decide) (fun c5 => ?_) (fun c5 => ?_)
        · have hsp := hk_t c5 hsp
          exact hk r4.2  _ _ _ hsp G (lv_sub hl [0] rfl)
        · have hsp := hk_f c5 hsp
          refine lv_aload_n hx hb dX8_readLetters_31 rfl (lv_at hl 0 rfl) ?_
          refine lv_dup hx hb dX8_readLetters_32 rfl ?_
          refine hk_getI F9 G h0 hkc_6 (k := 4) (by decide) qw_276 rfl dX8_readLetters_33 ?_
          refine lv_iconst (v := 1) hx hb dX8_readLetters_36 (by decide) ?_
          refine lv_iadd hx hb dX8_readLetters_37 ?_
          obtain ⟨S6, eS6, hsp⟩ := hk_l hsp
          refine hk_putI F9 G h0 hkc_6 (k := 4) (by decide) qw_276 rfl rfl (tyX8_ok 4 (by decide)) rfl rfl dX8_readLetters_38 (fun H locs G => ?_)
          rw [eS6] at G
          refine lv_goto (tgt := 0) hx hb dX8_readLetters_41 (by decide) ?_
          exact ih S6  _ _ _ hsp G (lv_sub hl [0] rfl)
  refine L_0   _ ?_ F S  _ _ _ hsp G (lv_sub hl [0] rfl)
  intro S7  H locs ls hsp G hl
  refine lv_aload_n hx hb dX8_readLetters_44 rfl (lv_at hl 0 rfl) ?_
  refine hk_getTok F9 G 0 (x := 0) (by decide) (hk_en_ref (by decide)) qw_472 dX8_readLetters_45 ?_
  obtain ⟨S8, eS8, hsp⟩ := hk_l hsp
  refine hk_putE F9 G h0 hkc_6 (k := 5) (by decide) qw_277 rfl rfl rfl dX8_readLetters_48 (fun H locs G => ?_)
  rw [eS8] at G
  obtain rfl := hk_s hsp
  exact W.vret hx hb hr (fun t ht hW => hk_end G ht hW) G.2.1.2.2 dX8_readLetters_51
def mX8_readToken (E : hk_E) (F : Nat) (S : hk_S) (a0 : Nat) : Option (hk_S) :=
(mX8_skipBlanks E F S a0).bind (fun r1 => hk_let (hk_up r1 a0 6 (r1 a0 4)) (fun S2 => (E.2.2.2 a0 0).bind (fun r3 => if E.2.1 r3 = 3 then ((mX4_byteAt E F S2 r3 (S2 a0 4)).bind (fun r4 => if ¬ r4.1 = (-1) then ((mX8_isDigit E F r4.2 r4.1).bind (fun r6 => if r6.1 = 0 then ((mX8_isLetter E F r6.2 r4.1).bind (fun r8 => if r8.1 = 0 then ((mX8_markOf E F r8.2 r4.1).bind (fun r10 => hk_let (hk_up r10.2 a0 5 r10.1) (fun S11 => hk_let (hk_up S11 a0 4 ((S11 a0 4) + 1)) (fun S12 => some (S12))))) else ((mX8_readLetters E F r8.2 a0).bind (fun r13 => some (r13))))) else ((mX8_readDigits E F r6.2 a0).bind (fun r14 => some (r14))))) else (hk_let (hk_up r4.2 a0 5 5) (fun S15 => some (S15))))) else none)))
set_option maxHeartbeats 4000000 in
set_option maxRecDepth 100000 in
theorem kX8_readToken (l : Launch) (g : hk_G) (E : hk_E) (F n : Nat) (S : hk_S) (a0 : Nat) (o : hk_S) (h0 : E.2.1 a0 = 7) (hsp : mX8_readToken E F S a0 = some o) : Met l yX8_readToken (hk_ws yX8_readToken cX8_readToken 2 (Option.none : Option Jvm.ClassFile.FieldType)) ({ frames := 2, cells := 0, slots := 0, locals := 42 }) (hk_Pc g E S n [.ref (g.1 + a0)]) (hk_Q g E o n none) 0 0 (hk_A g) := by
  refine Met.ofW (cc := cX8_readToken) (maxL := 2) (ret := (Option.none : Option Jvm.ClassFile.FieldType)) (by decide) rfl ?_
  intro p e s m args below meth c s₁ B hml hv
  obtain ⟨rfl, G⟩ := hk_begin hv
  have F9 : CallFix p m c cX8_readToken 2 s [.ref (g.1 + a0)].toArray hk_W RX8 := ⟨B.exec, B.bytes, hml, findClass_of_methodNamed B.named, fun w h => atoms_spec (ws := hk_ws yX8_readToken cX8_readToken 2 (Option.none : Option Jvm.ClassFile.FieldType)) B.pre w (hk_in h)⟩
  have hx := B.exec
  have hb := B.bytes
  have hr := B.returns
  have hlocks := B.notSynchronized
  have hl := lv_entry ([.ref (g.1 + a0)]) (n := 2) (Nat.le_of_ble_eq_true rfl)
  rw [lg_entry_eq]
  generalize (lg_sl ([.ref (g.1 + a0)]) ++ List.replicate (2 - (lg_sl ([.ref (g.1 + a0)])).length) Slot.unset).toArray = ls at hl ⊢
  have hl : lv_has ls 2 [(0, .ref (g.1 + a0))] := hl
  unfold mX8_readToken at hsp
  have G : hk_GG g E S n s s.heap [] := G
  refine lv_aload_n hx hb dX8_readToken_0 rfl (lv_at hl 0 rfl) ?_
  obtain ⟨r1, er1, hsp⟩ := hk_b hsp
  refine hk_callVv (As := []) (rest := []) F9 G h0 hkc_6 rfl (kX8_skipBlanks l g E F n S a0 r1 h0 er1) qv_RX8_272 ⟨rfl, rfl, (Nat.le_of_ble_eq_true rfl), (Nat.le_of_ble_eq_true rfl)⟩ rfl hl.1 rfl (Nat.le_of_ble_eq_true rfl) ⟨Nat.zero_le _, Nat.zero_le _⟩ dX8_readToken_1 (fun H locs G => ?_)
  refine lv_aload_n hx hb dX8_readToken_4 rfl (lv_at hl 0 rfl) ?_
  refine lv_aload_n hx hb dX8_readToken_5 rfl (lv_at hl 0 rfl) ?_
  refine hk_getI F9 G h0 hkc_6 (k := 4) (by decide) qw_276 rfl dX8_readToken_6 ?_
  obtain ⟨S2, eS2, hsp⟩ := hk_l hsp
  refine hk_putI F9 G h0 hkc_6 (k := 6) (by decide) qw_278 rfl rfl (tyX8_ok 6 (by decide)) rfl rfl dX8_readToken_9 (fun H locs G => ?_)
  rw [eS2] at G
  refine lv_aload_n hx hb dX8_readToken_12 rfl (lv_at hl 0 rfl) ?_
  obtain ⟨r3, er3, hsp⟩ := hk_b hsp
  obtain ⟨kr3, hsp⟩ := hk_k hsp
  refine hk_getR F9 G h0 hkc_6 (k := 0) (by decide) qw_268 rfl er3 dX8_readToken_13 ?_
  refine lv_aload_n hx hb dX8_readToken_16 rfl (lv_at hl 0 rfl) ?_
  refine hk_getI F9 G h0 hkc_6 (k := 4) (by decide) qw_276 rfl dX8_readToken_17 ?_
  obtain ⟨r4, er4, hsp⟩ := hk_b hsp
  refine hk_callVi (As := [.int (S2 a0 4)]) (rest := []) F9 G kr3 hkc_2 rfl (kX4_byteAt l g E F n S2 r3 (S2 a0 4) r4 kr3 er4) qv_RX8_275 ⟨rfl, rfl, (Nat.le_of_ble_eq_true rfl), (Nat.le_of_ble_eq_true rfl)⟩ rfl hl.1 rfl (Nat.le_of_ble_eq_true rfl) ⟨Nat.zero_le _, Nat.zero_le _⟩ dX8_readToken_20 (fun H locs G => ?_)
  refine lv_istore_n (lv' := [(1, .int r4.1), (0, .ref (g.1 + a0))]) hx hb dX8_readToken_23 rfl hl (by decide) rfl (fun ls hl => ?_)
  refine lv_iload_n hx hb dX8_readToken_24 rfl (lv_at hl 0 rfl) ?_
  refine lv_iconst (v := (-1)) hx hb dX8_readToken_25 (by decide) ?_
  refine lv_icmp_ne (tgt := 39) hx hb dX8_readToken_26 (by decide) (fun c5 => ?_) (fun c5 => ?_)
  · have hsp := hk_t c5 hsp
    refine lv_iload_n hx hb dX8_readToken_39 rfl (lv_at hl 0 rfl) ?_
    obtain ⟨r6, er6, hsp⟩ := hk_b hsp
    refine hk_callSi (As := [.int r4.1]) (rest := []) F9 G (kX8_isDigit l g E F n r4.2 r4.1 r6  er6) qv_RX8_278 ⟨rfl, rfl, (Nat.le_of_ble_eq_true rfl), (Nat.le_of_ble_eq_true rfl)⟩ rfl hl.1 rfl (Nat.le_of_ble_eq_true rfl) ⟨Nat.zero_le _, Nat.zero_le _⟩ dX8_readToken_40 (fun H locs G => ?_)
    refine lv_if_eq (tgt := 53) hx hb dX8_readToken_43 (by decide) (fun c7 => ?_) (fun c7 => ?_)
    · have hsp := hk_t c7 hsp
      refine lv_iload_n hx hb dX8_readToken_53 rfl (lv_at hl 0 rfl) ?_
      obtain ⟨r8, er8, hsp⟩ := hk_b hsp
      refine hk_callSi (As := [.int r4.1]) (rest := []) F9 G (kX8_isLetter l g E F n r6.2 r4.1 r8  er8) qv_RX8_284 ⟨rfl, rfl, (Nat.le_of_ble_eq_true rfl), (Nat.le_of_ble_eq_true rfl)⟩ rfl hl.1 rfl (Nat.le_of_ble_eq_true rfl) ⟨Nat.zero_le _, Nat.zero_le _⟩ dX8_readToken_54 (fun H locs G => ?_)
      refine lv_if_eq (tgt := 67) hx hb dX8_readToken_57 (by decide) (fun c9 => ?_) (fun c9 => ?_)
      · have hsp := hk_t c9 hsp
        refine lv_aload_n hx hb dX8_readToken_67 rfl (lv_at hl 1 rfl) ?_
        refine lv_iload_n hx hb dX8_readToken_68 rfl (lv_at hl 0 rfl) ?_
        obtain ⟨r10, er10, hsp⟩ := hk_b hsp
        refine hk_callS (As := [.int r4.1]) (rest := [.ref (g.1 + a0)]) F9 G (kX8_markOf l g E F n r8.2 r4.1 r10  er10) qv_RX8_290 ⟨rfl, rfl, (Nat.le_of_ble_eq_true rfl), (Nat.le_of_ble_eq_true rfl)⟩ rfl hl.1 rfl (Nat.le_of_ble_eq_true rfl) ⟨Nat.zero_le _, Nat.zero_le _⟩ dX8_readToken_69 (fun H locs G => ?_)
        obtain ⟨S11, eS11, hsp⟩ := hk_l hsp
        refine hk_putE F9 G h0 hkc_6 (k := 5) (by decide) qw_277 rfl rfl rfl dX8_readToken_72 (fun H locs G => ?_)
        rw [eS11] at G
        refine lv_aload_n hx hb dX8_readToken_75 rfl (lv_at hl 1 rfl) ?_
        refine lv_dup hx hb dX8_readToken_76 rfl ?_
        refine hk_getI F9 G h0 hkc_6 (k := 4) (by decide) qw_276 rfl dX8_readToken_77 ?_
        refine lv_iconst (v := 1) hx hb dX8_readToken_80 (by decide) ?_
        refine lv_iadd hx hb dX8_readToken_81 ?_
        obtain ⟨S12, eS12, hsp⟩ := hk_l hsp
        refine hk_putI F9 G h0 hkc_6 (k := 4) (by decide) qw_276 rfl rfl (tyX8_ok 4 (by decide)) rfl rfl dX8_readToken_82 (fun H locs G => ?_)
        rw [eS12] at G
        obtain rfl := hk_s hsp
        exact W.vret hx hb hr (fun t ht hW => hk_end G ht hW) G.2.1.2.2 dX8_readToken_85
      · have hsp := hk_f c9 hsp
        refine lv_aload_n hx hb dX8_readToken_60 rfl (lv_at hl 1 rfl) ?_
        obtain ⟨r13, er13, hsp⟩ := hk_b hsp
        refine hk_callVv (As := []) (rest := []) F9 G h0 hkc_6 rfl (kX8_readLetters l g E F n r8.2 a0 r13 h0 er13) qv_RX8_287 ⟨rfl, rfl, (Nat.le_of_ble_eq_true rfl), (Nat.le_of_ble_eq_true rfl)⟩ rfl hl.1 rfl (Nat.le_of_ble_eq_true rfl) ⟨Nat.zero_le _, Nat.zero_le _⟩ dX8_readToken_61 (fun H locs G => ?_)
        refine lv_goto (tgt := 85) hx hb dX8_readToken_64 (by decide) ?_
        obtain rfl := hk_s hsp
        exact W.vret hx hb hr (fun t ht hW => hk_end G ht hW) G.2.1.2.2 dX8_readToken_85
    · have hsp := hk_f c7 hsp
      refine lv_aload_n hx hb dX8_readToken_46 rfl (lv_at hl 1 rfl) ?_
      obtain ⟨r14, er14, hsp⟩ := hk_b hsp
      refine hk_callVv (As := []) (rest := []) F9 G h0 hkc_6 rfl (kX8_readDigits l g E F n r6.2 a0 r14 h0 er14) qv_RX8_281 ⟨rfl, rfl, (Nat.le_of_ble_eq_true rfl), (Nat.le_of_ble_eq_true rfl)⟩ rfl hl.1 rfl (Nat.le_of_ble_eq_true rfl) ⟨Nat.zero_le _, Nat.zero_le _⟩ dX8_readToken_47 (fun H locs G => ?_)
      refine lv_goto (tgt := 85) hx hb dX8_readToken_50 (by decide) ?_
      obtain rfl := hk_s hsp
      exact W.vret hx hb hr (fun t ht hW => hk_end G ht hW) G.2.1.2.2 dX8_readToken_85
  · have hsp := hk_g c5 hsp
    refine lv_aload_n hx hb dX8_readToken_29 rfl (lv_at hl 1 rfl) ?_
    refine hk_getTok F9 G 5 (x := 5) (by decide) (hk_en_ref (by decide)) qw_266 dX8_readToken_30 ?_
    obtain ⟨S15, eS15, hsp⟩ := hk_l hsp
    refine hk_putE F9 G h0 hkc_6 (k := 5) (by decide) qw_277 rfl rfl rfl dX8_readToken_33 (fun H locs G => ?_)
    rw [eS15] at G
    refine lv_goto (tgt := 85) hx hb dX8_readToken_36 (by decide) ?_
    obtain rfl := hk_s hsp
    exact W.vret hx hb hr (fun t ht hW => hk_end G ht hW) G.2.1.2.2 dX8_readToken_85
def mX8_execute (E : hk_E) (F : Nat) (S : hk_S) (a0 : Nat) (x1 : Int32) : Option (hk_S) :=
(E.2.2.2 a0 1).bind (fun r1 => if E.2.1 r1 = 4 then ((mX8_operand E F S a0 0).bind (fun r2 => (mX5_troughAt E F r2.2 r1 r2.1).bind (fun r3 => if E.2.1 r3.1 = 8 then (if hk_ok x1 15 then (if hk_ok x1 15 then (if (hk_sm.getD (x1).toNatClampNeg 0) = 1 then ((mX8_operand E F r3.2 a0 0).bind (fun r8 => (mX5_placeTrough E F r8.2 r1 r8.1).bind (fun r9 => some (r9.2)))) else (if (hk_sm.getD (x1).toNatClampNeg 0) = 2 then ((mX8_operand E F r3.2 a0 1).bind (fun r11 => (mX8_operand E F r11.2 a0 2).bind (fun r12 => (mX5_putLeaf E F r12.2 r1 r3.1 r11.1 r12.1).bind (fun r13 => some (r13))))) else (if (hk_sm.getD (x1).toNatClampNeg 0) = 3 then ((mX8_operand E F r3.2 a0 1).bind (fun r15 => hk_let (hk_up r15.2 r3.1 1 r15.1) (fun S16 => some (S16)))) else (if (hk_sm.getD (x1).toNatClampNeg 0) = 4 then (if ¬ (r3.2 r3.1 2) = 0 then (hk_let (hk_up r3.2 r3.1 2 0) (fun S19 => some (S19))) else (hk_let (hk_up r3.2 r3.1 2 1) (fun S20 => some (S20)))) else (if (hk_sm.getD (x1).toNatClampNeg 0) = 5 then ((mX10_mixLayers E F r3.2 r3.1).bind (fun r22 => some (r22))) else (if (hk_sm.getD (x1).toNatClampNeg 0) = 6 then ((mX5_dischargeLeaf E F r3.2 r1 r3.1).bind (fun r24 => some (r24.2))) else (if (hk_sm.getD (x1).toNatClampNeg 0) = 7 then ((mX5_discardLeaf E F r3.2 r1 r3.1).bind (fun r26 => some (r26.2))) else (if (hk_sm.getD (x1).toNatClampNeg 0) = 8 then ((E.2.2.2 r1 0).bind (fun r28 => if E.2.1 r28 = 1 then ((mX8_operand E F r3.2 a0 0).bind (fun r29 => hk_let (hk_up r29.2 r28 2 r29.1) (fun S30 => some (S30)))) else none)) else (if (hk_sm.getD (x1).toNatClampNeg 0) = 9 then ((E.2.2.2 r1 0).bind (fun r32 => if E.2.1 r32 = 1 then ((mX8_operand E F r3.2 a0 0).bind (fun r33 => hk_let (hk_up r33.2 r32 1 r33.1) (fun S34 => some (S34)))) else none)) else (if (hk_sm.getD (x1).toNatClampNeg 0) = 10 then ((E.2.2.2 r1 0).bind (fun r36 => if E.2.1 r36 = 1 then ((mX8_operand E F r3.2 a0 0).bind (fun r37 => (mX1_addMonsoon E F r37.2 r36 r37.1).bind (fun r38 => some (r38)))) else none)) else (if (hk_sm.getD (x1).toNatClampNeg 0) = 11 then ((mX8_operand E F r3.2 a0 0).bind (fun r40 => (mX8_operand E F r40.2 a0 1).bind (fun r41 => (mX5_aimAt E F r41.2 r1 r40.1 r41.1).bind (fun r42 => some (r42))))) else (if (hk_sm.getD (x1).toNatClampNeg 0) = 12 then ((mX8_operand E F r3.2 a0 0).bind (fun r44 => (mX8_operand E F r44.2 a0 1).bind (fun r45 => (mX8_operand E F r45.2 a0 2).bind (fun r46 => (mX8_operand E F r46.2 a0 3).bind (fun r47 => (mX5_placeProbe E F r47.2 r1 r44.1 r45.1 (r46.1 * r47.1)).bind (fun r48 => some (r48.2))))))) else (if (hk_sm.getD (x1).toNatClampNeg 0) = 13 then ((mX8_operand E F r3.2 a0 0).bind (fun r50 => (mX5_probeAt E F r50.2 r1 r50.1).bind (fun r51 => if E.2.1 r51.1 = 5 then (hk_let (hk_up r51.2 r51.1 2 0) (fun S53 => some (S53))) else none))) else (if (hk_sm.getD (x1).toNatClampNeg 0) = 14 then ((mX8_operand E F r3.2 a0 0).bind (fun r55 => (mX5_letHoursPass E F r55.2 r1 r55.1).bind (fun r56 => some (r56)))) else (some (r3.2)))))))))))))))) else none) else none) else none))) else none)
set_option maxHeartbeats 4000000 in
set_option maxRecDepth 100000 in
theorem kX8_execute (l : Launch) (g : hk_G) (E : hk_E) (F n : Nat) (S : hk_S) (a0 : Nat) (x1 : Int32) (o : hk_S) (h0 : E.2.1 a0 = 7) (hsp : mX8_execute E F S a0 x1 = some o) : Met l yX8_execute (hk_ws yX8_execute cX8_execute 3 (Option.none : Option Jvm.ClassFile.FieldType)) ({ frames := 4, cells := 0, slots := 0, locals := 89 }) (hk_Pc g E S n [.ref (g.1 + a0), hk_en (g.2.2.2 3) x1]) (hk_Q g E o n none) 0 0 (hk_A g) := by
  refine Met.ofW (cc := cX8_execute) (maxL := 3) (ret := (Option.none : Option Jvm.ClassFile.FieldType)) (by decide) rfl ?_
  intro p e s m args below meth c s₁ B hml hv
  obtain ⟨rfl, G⟩ := hk_begin hv
  have F9 : CallFix p m c cX8_execute 3 s [.ref (g.1 + a0), hk_en (g.2.2.2 3) x1].toArray hk_W RX8 := ⟨B.exec, B.bytes, hml, findClass_of_methodNamed B.named, fun w h => atoms_spec (ws := hk_ws yX8_execute cX8_execute 3 (Option.none : Option Jvm.ClassFile.FieldType)) B.pre w (hk_in h)⟩
  have hx := B.exec
  have hb := B.bytes
  have hr := B.returns
  have hlocks := B.notSynchronized
  have hl := hk_entryE (a := g.1 + a0) (ad := g.2.2.2 3) (x := x1) (n := 3) (by decide)
  rw [lg_entry_eq]
  generalize (lg_sl ([.ref (g.1 + a0), hk_en (g.2.2.2 3) x1]) ++ List.replicate (3 - (lg_sl ([.ref (g.1 + a0), hk_en (g.2.2.2 3) x1])).length) Slot.unset).toArray = ls at hl ⊢
  have hl : lv_has ls 3 [(0, .ref (g.1 + a0)), (1, hk_en (g.2.2.2 3) x1)] := hl
  unfold mX8_execute at hsp
  have G : hk_GG g E S n s s.heap [] := G
  refine lv_aload_n hx hb dX8_execute_0 rfl (lv_at hl 0 rfl) ?_
  obtain ⟨r1, er1, hsp⟩ := hk_b hsp
  obtain ⟨kr1, hsp⟩ := hk_k hsp
  refine hk_getR F9 G h0 hkc_6 (k := 1) (by decide) qw_270 rfl er1 dX8_execute_1 ?_
  refine lv_aload_n hx hb dX8_execute_4 rfl (lv_at hl 0 rfl) ?_
  refine lv_iconst (v := 0) hx hb dX8_execute_5 (by decide) ?_
  obtain ⟨r2, er2, hsp⟩ := hk_b hsp
  refine hk_callVi (As := [.int 0]) (rest := [.ref (g.1 + r1)]) F9 G h0 hkc_6 rfl (kX8_operand l g E F n S a0 0 r2 h0 er2) qv_RX8_134 ⟨rfl, rfl, (Nat.le_of_ble_eq_true rfl), (Nat.le_of_ble_eq_true rfl)⟩ rfl hl.1 rfl (Nat.le_of_ble_eq_true rfl) ⟨Nat.zero_le _, Nat.zero_le _⟩ dX8_execute_6 (fun H locs G => ?_)
  obtain ⟨r3, er3, hsp⟩ := hk_b hsp
  refine hk_callVr (As := [.int r2.1]) (rest := []) F9 G kr1 hkc_3 rfl (kX5_troughAt l g E F n r2.2 r1 r2.1 r3 kr1 er3) qv_RX8_150 ⟨rfl, rfl, (Nat.le_of_ble_eq_true rfl), (Nat.le_of_ble_eq_true rfl)⟩ rfl hl.1 rfl (Nat.le_of_ble_eq_true rfl) ⟨Nat.zero_le _, Nat.zero_le _⟩ dX8_execute_9 (fun H locs G => ?_)
  obtain ⟨q4, hsp⟩ := hk_k hsp
  refine lv_astore_n (lv' := [(2, .ref (g.1 + r3.1)), (0, .ref (g.1 + a0)), (1, hk_en (g.2.2.2 3) x1)]) hx hb dX8_execute_12 rfl hl (by decide) (by simp [hk_en_cat]) (fun ls hl => ?_)
  refine hk_getSM F9 G qw_581 dX8_execute_13 ?_
  refine hk_aloadE_n hx hb dX8_execute_16 rfl (lv_at hl 2 rfl) ?_
  obtain ⟨q5, hsp⟩ := hk_k hsp
  refine hk_ordinal F9 G q5 ⟨(Nat.le_of_ble_eq_true rfl), (Nat.le_of_ble_eq_true rfl)⟩ hl.1 (Nat.le_of_ble_eq_true rfl) ⟨Nat.zero_le _, Nat.zero_le _⟩ dX8_execute_17 (fun H locs G => ?_)
  obtain ⟨q6, hsp⟩ := hk_k hsp
  refine hk_ldSM F9 G q6 dX8_execute_20 ?_
  rcases Classical.em ((hk_sm.getD (x1).toNatClampNeg 0) = 1) with w7 | w7
  · have hsp := hk_t w7 hsp
    refine lv_tableIn (off := 71) (tgt := 92) hx hb dX8_execute_21 (by rw [w7]; decide) (by rw [w7]; decide) (by rw [w7]; rfl) (by decide) ?_
    refine lv_aload_n hx hb dX8_execute_92 rfl (lv_at hl 1 rfl) ?_
    refine hk_getR F9 G h0 hkc_6 (k := 1) (by decide) qw_270 rfl er1 dX8_execute_93 ?_
    refine lv_aload_n hx hb dX8_execute_96 rfl (lv_at hl 1 rfl) ?_
    refine lv_iconst (v := 0) hx hb dX8_execute_97 (by decide) ?_
    obtain ⟨r8, er8, hsp⟩ := hk_b hsp
    refine hk_callVi (As := [.int 0]) (rest := [.ref (g.1 + r1)]) F9 G h0 hkc_6 rfl (kX8_operand l g E F n r3.2 a0 0 r8 h0 er8) qv_RX8_134 ⟨rfl, rfl, (Nat.le_of_ble_eq_true rfl), (Nat.le_of_ble_eq_true rfl)⟩ rfl hl.1 rfl (Nat.le_of_ble_eq_true rfl) ⟨Nat.zero_le _, Nat.zero_le _⟩ dX8_execute_98 (fun H locs G => ?_)
    obtain ⟨r9, er9, hsp⟩ := hk_b hsp
    refine hk_callVi (As := [.int r8.1]) (rest := []) F9 G kr1 hkc_3 rfl (kX5_placeTrough l g E F n r8.2 r1 r8.1 r9 kr1 er9) qv_RX8_202 ⟨rfl, rfl, (Nat.le_of_ble_eq_true rfl), (Nat.le_of_ble_eq_true rfl)⟩ rfl hl.1 rfl (Nat.le_of_ble_eq_true rfl) ⟨Nat.zero_le _, Nat.zero_le _⟩ dX8_execute_101 (fun H locs G => ?_)
    refine lv_pop hx hb dX8_execute_104 rfl ?_
    refine lv_goto (tgt := 331) hx hb dX8_execute_105 (by decide) ?_
    obtain rfl := hk_s hsp
    exact W.vret hx hb hr (fun t ht hW => hk_end G ht hW) G.2.1.2.2 dX8_execute_331
  have hsp := hk_f w7 hsp
  rcases Classical.em ((hk_sm.getD (x1).toNatClampNeg 0) = 2) with w10 | w10
  · have hsp := hk_t w10 hsp
    refine lv_tableIn (off := 87) (tgt := 108) hx hb dX8_execute_21 (by rw [w10]; decide) (by rw [w10]; decide) (by rw [w10]; rfl) (by decide) ?_
    refine lv_aload_n hx hb dX8_execute_108 rfl (lv_at hl 1 rfl) ?_
    refine hk_getR F9 G h0 hkc_6 (k := 1) (by decide) qw_270 rfl er1 dX8_execute_109 ?_
    refine lv_aload_n hx hb dX8_execute_112 rfl (lv_at hl 0 rfl) ?_
    refine lv_aload_n hx hb dX8_execute_113 rfl (lv_at hl 1 rfl) ?_
    refine lv_iconst (v := 1) hx hb dX8_execute_114 (by decide) ?_
    obtain ⟨r11, er11, hsp⟩ := hk_b hsp
    refine hk_callVi (As := [.int 1]) (rest := [.ref (g.1 + r3.1), .ref (g.1 + r1)]) F9 G h0 hkc_6 rfl (kX8_operand l g E F n r3.2 a0 1 r11 h0 er11) qv_RX8_134 ⟨rfl, rfl, (Nat.le_of_ble_eq_true rfl), (Nat.le_of_ble_eq_true rfl)⟩ rfl hl.1 rfl (Nat.le_of_ble_eq_true rfl) ⟨Nat.zero_le _, Nat.zero_le _⟩ dX8_execute_115 (fun H locs G => ?_)
    refine lv_aload_n hx hb dX8_execute_118 rfl (lv_at hl 1 rfl) ?_
    refine lv_iconst (v := 2) hx hb dX8_execute_119 (by decide) ?_
    obtain ⟨r12, er12, hsp⟩ := hk_b hsp
    refine hk_callVi (As := [.int 2]) (rest := [.int r11.1, .ref (g.1 + r3.1), .ref (g.1 + r1)]) F9 G h0 hkc_6 rfl (kX8_operand l g E F n r11.2 a0 2 r12 h0 er12) qv_RX8_134 ⟨rfl, rfl, (Nat.le_of_ble_eq_true rfl), (Nat.le_of_ble_eq_true rfl)⟩ rfl hl.1 rfl (Nat.le_of_ble_eq_true rfl) ⟨Nat.zero_le _, Nat.zero_le _⟩ dX8_execute_120 (fun H locs G => ?_)
    obtain ⟨r13, er13, hsp⟩ := hk_b hsp
    refine hk_callVv (As := [.ref (g.1 + r3.1), .int r11.1, .int r12.1]) (rest := []) F9 G kr1 hkc_3 rfl (kX5_putLeaf l g E F n r12.2 r1 r3.1 r11.1 r12.1 r13 kr1 q4 er13) qv_RX8_205 ⟨rfl, rfl, (Nat.le_of_ble_eq_true rfl), (Nat.le_of_ble_eq_true rfl)⟩ rfl hl.1 rfl (Nat.le_of_ble_eq_true rfl) ⟨Nat.zero_le _, Nat.zero_le _⟩ dX8_execute_123 (fun H locs G => ?_)
    refine lv_goto (tgt := 331) hx hb dX8_execute_126 (by decide) ?_
    obtain rfl := hk_s hsp
    exact W.vret hx hb hr (fun t ht hW => hk_end G ht hW) G.2.1.2.2 dX8_execute_331
  have hsp := hk_f w10 hsp
  rcases Classical.em ((hk_sm.getD (x1).toNatClampNeg 0) = 3) with w14 | w14
  · have hsp := hk_t w14 hsp
    refine lv_tableIn (off := 108) (tgt := 129) hx hb dX8_execute_21 (by rw [w14]; decide) (by rw [w14]; decide) (by rw [w14]; rfl) (by decide) ?_
    refine lv_aload_n hx hb dX8_execute_129 rfl (lv_at hl 0 rfl) ?_
    refine lv_aload_n hx hb dX8_execute_130 rfl (lv_at hl 1 rfl) ?_
    refine lv_iconst (v := 1) hx hb dX8_execute_131 (by decide) ?_
    obtain ⟨r15, er15, hsp⟩ := hk_b hsp
    refine hk_callVi (As := [.int 1]) (rest := [.ref (g.1 + r3.1)]) F9 G h0 hkc_6 rfl (kX8_operand l g E F n r3.2 a0 1 r15 h0 er15) qv_RX8_134 ⟨rfl, rfl, (Nat.le_of_ble_eq_true rfl), (Nat.le_of_ble_eq_true rfl)⟩ rfl hl.1 rfl (Nat.le_of_ble_eq_true rfl) ⟨Nat.zero_le _, Nat.zero_le _⟩ dX8_execute_132 (fun H locs G => ?_)
    obtain ⟨S16, eS16, hsp⟩ := hk_l hsp
    refine hk_putI F9 G q4 hkc_7 (k := 1) (by decide) qw_87 rfl rfl (tyX10_ok 1 (by decide)) rfl rfl dX8_execute_135 (fun H locs G => ?_)
    rw [eS16] at G
    refine lv_goto (tgt := 331) hx hb dX8_execute_138 (by decide) ?_
    obtain rfl := hk_s hsp
    exact W.vret hx hb hr (fun t ht hW => hk_end G ht hW) G.2.1.2.2 dX8_execute_331
  have hsp := hk_f w14 hsp
  rcases Classical.em ((hk_sm.getD (x1).toNatClampNeg 0) = 4) with w17 | w17
  · have hsp := hk_t w17 hsp
    refine lv_tableIn (off := 120) (tgt := 141) hx hb dX8_execute_21 (by rw [w17]; decide) (by rw [w17]; decide) (by rw [w17]; rfl) (by decide) ?_
    refine lv_aload_n hx hb dX8_execute_141 rfl (lv_at hl 0 rfl) ?_
    refine lv_aload_n hx hb dX8_execute_142 rfl (lv_at hl 0 rfl) ?_
    refine hk_getI F9 G q4 hkc_7 (k := 2) (by decide) qw_91 rfl dX8_execute_143 ?_
    refine lv_if_ne (tgt := 153) hx hb dX8_execute_146 (by decide) (fun c18 => ?_) (fun c18 => ?_)
    · have hsp := hk_t c18 hsp
      refine lv_iconst (v := 0) hx hb dX8_execute_153 (by decide) ?_
      obtain ⟨S19, eS19, hsp⟩ := hk_l hsp
      refine hk_putI F9 G q4 hkc_7 (k := 2) (by decide) qw_91 rfl rfl (tyX10_ok 2 (by decide)) (hk_z (by decide)).1 (hk_z (by decide)).2 dX8_execute_154 (fun H locs G => ?_)
      rw [eS19] at G
      refine lv_goto (tgt := 331) hx hb dX8_execute_157 (by decide) ?_
      obtain rfl := hk_s hsp
      exact W.vret hx hb hr (fun t ht hW => hk_end G ht hW) G.2.1.2.2 dX8_execute_331
    · have hsp := hk_g c18 hsp
      refine lv_iconst (v := 1) hx hb dX8_execute_149 (by decide) ?_
      refine lv_goto (tgt := 154) hx hb dX8_execute_150 (by decide) ?_
      obtain ⟨S20, eS20, hsp⟩ := hk_l hsp
      refine hk_putI F9 G q4 hkc_7 (k := 2) (by decide) qw_91 rfl rfl (tyX10_ok 2 (by decide)) (hk_z (by decide)).1 (hk_z (by decide)).2 dX8_execute_154 (fun H locs G => ?_)
      rw [eS20] at G
      refine lv_goto (tgt := 331) hx hb dX8_execute_157 (by decide) ?_
      obtain rfl := hk_s hsp
      exact W.vret hx hb hr (fun t ht hW => hk_end G ht hW) G.2.1.2.2 dX8_execute_331
  have hsp := hk_f w17 hsp
  rcases Classical.em ((hk_sm.getD (x1).toNatClampNeg 0) = 5) with w21 | w21
  · have hsp := hk_t w21 hsp
    refine lv_tableIn (off := 213) (tgt := 234) hx hb dX8_execute_21 (by rw [w21]; decide) (by rw [w21]; decide) (by rw [w21]; rfl) (by decide) ?_
    refine lv_aload_n hx hb dX8_execute_234 rfl (lv_at hl 0 rfl) ?_
    obtain ⟨r22, er22, hsp⟩ := hk_b hsp
    refine hk_callVv (As := []) (rest := []) F9 G q4 hkc_7 rfl (kX10_mixLayers l g E F n r3.2 r3.1 r22 q4 er22) qv_RX8_230 ⟨rfl, rfl, (Nat.le_of_ble_eq_true rfl), (Nat.le_of_ble_eq_true rfl)⟩ rfl hl.1 rfl (Nat.le_of_ble_eq_true rfl) ⟨Nat.zero_le _, Nat.zero_le _⟩ dX8_execute_235 (fun H locs G => ?_)
    refine lv_goto (tgt := 331) hx hb dX8_execute_238 (by decide) ?_
    obtain rfl := hk_s hsp
    exact W.vret hx hb hr (fun t ht hW => hk_end G ht hW) G.2.1.2.2 dX8_execute_331
  have hsp := hk_f w21 hsp
  rcases Classical.em ((hk_sm.getD (x1).toNatClampNeg 0) = 6) with w23 | w23
  · have hsp := hk_t w23 hsp
    refine lv_tableIn (off := 220) (tgt := 241) hx hb dX8_execute_21 (by rw [w23]; decide) (by rw [w23]; decide) (by rw [w23]; rfl) (by decide) ?_
    refine lv_aload_n hx hb dX8_execute_241 rfl (lv_at hl 1 rfl) ?_
    refine hk_getR F9 G h0 hkc_6 (k := 1) (by decide) qw_270 rfl er1 dX8_execute_242 ?_
    refine lv_aload_n hx hb dX8_execute_245 rfl (lv_at hl 0 rfl) ?_
    obtain ⟨r24, er24, hsp⟩ := hk_b hsp
    refine hk_callVi (As := [.ref (g.1 + r3.1)]) (rest := []) F9 G kr1 hkc_3 rfl (kX5_dischargeLeaf l g E F n r3.2 r1 r3.1 r24 kr1 q4 er24) qv_RX8_233 ⟨rfl, rfl, (Nat.le_of_ble_eq_true rfl), (Nat.le_of_ble_eq_true rfl)⟩ rfl hl.1 rfl (Nat.le_of_ble_eq_true rfl) ⟨Nat.zero_le _, Nat.zero_le _⟩ dX8_execute_246 (fun H locs G => ?_)
    refine lv_pop hx hb dX8_execute_249 rfl ?_
    refine lv_goto (tgt := 331) hx hb dX8_execute_250 (by decide) ?_
    obtain rfl := hk_s hsp
    exact W.vret hx hb hr (fun t ht hW => hk_end G ht hW) G.2.1.2.2 dX8_execute_331
  have hsp := hk_f w23 hsp
  rcases Classical.em ((hk_sm.getD (x1).toNatClampNeg 0) = 7) with w25 | w25
  · have hsp := hk_t w25 hsp
    refine lv_tableIn (off := 232) (tgt := 253) hx hb dX8_execute_21 (by rw [w25]; decide) (by rw [w25]; decide) (by rw [w25]; rfl) (by decide) ?_
    refine lv_aload_n hx hb dX8_execute_253 rfl (lv_at hl 1 rfl) ?_
    refine hk_getR F9 G h0 hkc_6 (k := 1) (by decide) qw_270 rfl er1 dX8_execute_254 ?_
    refine lv_aload_n hx hb dX8_execute_257 rfl (lv_at hl 0 rfl) ?_
    obtain ⟨r26, er26, hsp⟩ := hk_b hsp
    refine hk_callVi (As := [.ref (g.1 + r3.1)]) (rest := []) F9 G kr1 hkc_3 rfl (kX5_discardLeaf l g E F n r3.2 r1 r3.1 r26 kr1 q4 er26) qv_RX8_236 ⟨rfl, rfl, (Nat.le_of_ble_eq_true rfl), (Nat.le_of_ble_eq_true rfl)⟩ rfl hl.1 rfl (Nat.le_of_ble_eq_true rfl) ⟨Nat.zero_le _, Nat.zero_le _⟩ dX8_execute_258 (fun H locs G => ?_)
    refine lv_pop hx hb dX8_execute_261 rfl ?_
    refine lv_goto (tgt := 331) hx hb dX8_execute_262 (by decide) ?_
    obtain rfl := hk_s hsp
    exact W.vret hx hb hr (fun t ht hW => hk_end G ht hW) G.2.1.2.2 dX8_execute_331
  have hsp := hk_f w25 hsp
  rcases Classical.em ((hk_sm.getD (x1).toNatClampNeg 0) = 8) with w27 | w27
  · have hsp := hk_t w27 hsp
    refine lv_tableIn (off := 139) (tgt := 160) hx hb dX8_execute_21 (by rw [w27]; decide) (by rw [w27]; decide) (by rw [w27]; rfl) (by decide) ?_
    refine lv_aload_n hx hb dX8_execute_160 rfl (lv_at hl 1 rfl) ?_
    refine hk_getR F9 G h0 hkc_6 (k := 1) (by decide) qw_270 rfl er1 dX8_execute_161 ?_
    obtain ⟨r28, er28, hsp⟩ := hk_b hsp
    obtain ⟨kr28, hsp⟩ := hk_k hsp
    refine hk_getR F9 G kr1 hkc_3 (k := 0) (by decide) qw_173 rfl er28 dX8_execute_164 ?_
    refine lv_aload_n hx hb dX8_execute_167 rfl (lv_at hl 1 rfl) ?_
    refine lv_iconst (v := 0) hx hb dX8_execute_168 (by decide) ?_
    obtain ⟨r29, er29, hsp⟩ := hk_b hsp
    refine hk_callVi (As := [.int 0]) (rest := [.ref (g.1 + r28)]) F9 G h0 hkc_6 rfl (kX8_operand l g E F n r3.2 a0 0 r29 h0 er29) qv_RX8_134 ⟨rfl, rfl, (Nat.le_of_ble_eq_true rfl), (Nat.le_of_ble_eq_true rfl)⟩ rfl hl.1 rfl (Nat.le_of_ble_eq_true rfl) ⟨Nat.zero_le _, Nat.zero_le _⟩ dX8_execute_169 (fun H locs G => ?_)
    obtain ⟨S30, eS30, hsp⟩ := hk_l hsp
    refine hk_putI F9 G kr28 hkc_0 (k := 2) (by decide) qw_56 rfl rfl (tyX1_ok 2 (by decide)) rfl rfl dX8_execute_172 (fun H locs G => ?_)
    rw [eS30] at G
    refine lv_goto (tgt := 331) hx hb dX8_execute_175 (by decide) ?_
    obtain rfl := hk_s hsp
    exact W.vret hx hb hr (fun t ht hW => hk_end G ht hW) G.2.1.2.2 dX8_execute_331
  have hsp := hk_f w27 hsp
  rcases Classical.em ((hk_sm.getD (x1).toNatClampNeg 0) = 9) with w31 | w31
  · have hsp := hk_t w31 hsp
    refine lv_tableIn (off := 157) (tgt := 178) hx hb dX8_execute_21 (by rw [w31]; decide) (by rw [w31]; decide) (by rw [w31]; rfl) (by decide) ?_
    refine lv_aload_n hx hb dX8_execute_178 rfl (lv_at hl 1 rfl) ?_
    refine hk_getR F9 G h0 hkc_6 (k := 1) (by decide) qw_270 rfl er1 dX8_execute_179 ?_
    obtain ⟨r32, er32, hsp⟩ := hk_b hsp
    obtain ⟨kr32, hsp⟩ := hk_k hsp
    refine hk_getR F9 G kr1 hkc_3 (k := 0) (by decide) qw_173 rfl er32 dX8_execute_182 ?_
    refine lv_aload_n hx hb dX8_execute_185 rfl (lv_at hl 1 rfl) ?_
    refine lv_iconst (v := 0) hx hb dX8_execute_186 (by decide) ?_
    obtain ⟨r33, er33, hsp⟩ := hk_b hsp
    refine hk_callVi (As := [.int 0]) (rest := [.ref (g.1 + r32)]) F9 G h0 hkc_6 rfl (kX8_operand l g E F n r3.2 a0 0 r33 h0 er33) qv_RX8_134 ⟨rfl, rfl, (Nat.le_of_ble_eq_true rfl), (Nat.le_of_ble_eq_true rfl)⟩ rfl hl.1 rfl (Nat.le_of_ble_eq_true rfl) ⟨Nat.zero_le _, Nat.zero_le _⟩ dX8_execute_187 (fun H locs G => ?_)
    obtain ⟨S34, eS34, hsp⟩ := hk_l hsp
    refine hk_putI F9 G kr32 hkc_0 (k := 1) (by decide) qw_52 rfl rfl (tyX1_ok 1 (by decide)) rfl rfl dX8_execute_190 (fun H locs G => ?_)
    rw [eS34] at G
    refine lv_goto (tgt := 331) hx hb dX8_execute_193 (by decide) ?_
    obtain rfl := hk_s hsp
    exact W.vret hx hb hr (fun t ht hW => hk_end G ht hW) G.2.1.2.2 dX8_execute_331
  have hsp := hk_f w31 hsp
  rcases Classical.em ((hk_sm.getD (x1).toNatClampNeg 0) = 10) with w35 | w35
  · have hsp := hk_t w35 hsp
    refine lv_tableIn (off := 175) (tgt := 196) hx hb dX8_execute_21 (by rw [w35]; decide) (by rw [w35]; decide) (by rw [w35]; rfl) (by decide) ?_
    refine lv_aload_n hx hb dX8_execute_196 rfl (lv_at hl 1 rfl) ?_
    refine hk_getR F9 G h0 hkc_6 (k := 1) (by decide) qw_270 rfl er1 dX8_execute_197 ?_
    obtain ⟨r36, er36, hsp⟩ := hk_b hsp
    obtain ⟨kr36, hsp⟩ := hk_k hsp
    refine hk_getR F9 G kr1 hkc_3 (k := 0) (by decide) qw_173 rfl er36 dX8_execute_200 ?_
    refine lv_aload_n hx hb dX8_execute_203 rfl (lv_at hl 1 rfl) ?_
    refine lv_iconst (v := 0) hx hb dX8_execute_204 (by decide) ?_
    obtain ⟨r37, er37, hsp⟩ := hk_b hsp
    refine hk_callVi (As := [.int 0]) (rest := [.ref (g.1 + r36)]) F9 G h0 hkc_6 rfl (kX8_operand l g E F n r3.2 a0 0 r37 h0 er37) qv_RX8_134 ⟨rfl, rfl, (Nat.le_of_ble_eq_true rfl), (Nat.le_of_ble_eq_true rfl)⟩ rfl hl.1 rfl (Nat.le_of_ble_eq_true rfl) ⟨Nat.zero_le _, Nat.zero_le _⟩ dX8_execute_205 (fun H locs G => ?_)
    obtain ⟨r38, er38, hsp⟩ := hk_b hsp
    refine hk_callVv (As := [.int r37.1]) (rest := []) F9 G kr36 hkc_0 rfl (kX1_addMonsoon l g E F n r37.2 r36 r37.1 r38 kr36 er38) qv_RX8_222 ⟨rfl, rfl, (Nat.le_of_ble_eq_true rfl), (Nat.le_of_ble_eq_true rfl)⟩ rfl hl.1 rfl (Nat.le_of_ble_eq_true rfl) ⟨Nat.zero_le _, Nat.zero_le _⟩ dX8_execute_208 (fun H locs G => ?_)
    refine lv_goto (tgt := 331) hx hb dX8_execute_211 (by decide) ?_
    obtain rfl := hk_s hsp
    exact W.vret hx hb hr (fun t ht hW => hk_end G ht hW) G.2.1.2.2 dX8_execute_331
  have hsp := hk_f w35 hsp
  rcases Classical.em ((hk_sm.getD (x1).toNatClampNeg 0) = 11) with w39 | w39
  · have hsp := hk_t w39 hsp
    refine lv_tableIn (off := 193) (tgt := 214) hx hb dX8_execute_21 (by rw [w39]; decide) (by rw [w39]; decide) (by rw [w39]; rfl) (by decide) ?_
    refine lv_aload_n hx hb dX8_execute_214 rfl (lv_at hl 1 rfl) ?_
    refine hk_getR F9 G h0 hkc_6 (k := 1) (by decide) qw_270 rfl er1 dX8_execute_215 ?_
    refine lv_aload_n hx hb dX8_execute_218 rfl (lv_at hl 1 rfl) ?_
    refine lv_iconst (v := 0) hx hb dX8_execute_219 (by decide) ?_
    obtain ⟨r40, er40, hsp⟩ := hk_b hsp
    refine hk_callVi (As := [.int 0]) (rest := [.ref (g.1 + r1)]) F9 G h0 hkc_6 rfl (kX8_operand l g E F n r3.2 a0 0 r40 h0 er40) qv_RX8_134 ⟨rfl, rfl, (Nat.le_of_ble_eq_true rfl), (Nat.le_of_ble_eq_true rfl)⟩ rfl hl.1 rfl (Nat.le_of_ble_eq_true rfl) ⟨Nat.zero_le _, Nat.zero_le _⟩ dX8_execute_220 (fun H locs G => ?_)
    refine lv_aload_n hx hb dX8_execute_223 rfl (lv_at hl 1 rfl) ?_
    refine lv_iconst (v := 1) hx hb dX8_execute_224 (by decide) ?_
    obtain ⟨r41, er41, hsp⟩ := hk_b hsp
    refine hk_callVi (As := [.int 1]) (rest := [.int r40.1, .ref (g.1 + r1)]) F9 G h0 hkc_6 rfl (kX8_operand l g E F n r40.2 a0 1 r41 h0 er41) qv_RX8_134 ⟨rfl, rfl, (Nat.le_of_ble_eq_true rfl), (Nat.le_of_ble_eq_true rfl)⟩ rfl hl.1 rfl (Nat.le_of_ble_eq_true rfl) ⟨Nat.zero_le _, Nat.zero_le _⟩ dX8_execute_225 (fun H locs G => ?_)
    obtain ⟨r42, er42, hsp⟩ := hk_b hsp
    refine hk_callVv (As := [.int r40.1, .int r41.1]) (rest := []) F9 G kr1 hkc_3 rfl (kX5_aimAt l g E F n r41.2 r1 r40.1 r41.1 r42 kr1 er42) qv_RX8_226 ⟨rfl, rfl, (Nat.le_of_ble_eq_true rfl), (Nat.le_of_ble_eq_true rfl)⟩ rfl hl.1 rfl (Nat.le_of_ble_eq_true rfl) ⟨Nat.zero_le _, Nat.zero_le _⟩ dX8_execute_228 (fun H locs G => ?_)
    refine lv_goto (tgt := 331) hx hb dX8_execute_231 (by decide) ?_
    obtain rfl := hk_s hsp
    exact W.vret hx hb hr (fun t ht hW => hk_end G ht hW) G.2.1.2.2 dX8_execute_331
  have hsp := hk_f w39 hsp
  rcases Classical.em ((hk_sm.getD (x1).toNatClampNeg 0) = 12) with w43 | w43
  · have hsp := hk_t w43 hsp
    refine lv_tableIn (off := 244) (tgt := 265) hx hb dX8_execute_21 (by rw [w43]; decide) (by rw [w43]; decide) (by rw [w43]; rfl) (by decide) ?_
    refine lv_aload_n hx hb dX8_execute_265 rfl (lv_at hl 1 rfl) ?_
    refine hk_getR F9 G h0 hkc_6 (k := 1) (by decide) qw_270 rfl er1 dX8_execute_266 ?_
    refine lv_aload_n hx hb dX8_execute_269 rfl (lv_at hl 1 rfl) ?_
    refine lv_iconst (v := 0) hx hb dX8_execute_270 (by decide) ?_
    obtain ⟨r44, er44, hsp⟩ := hk_b hsp
    refine hk_callVi (As := [.int 0]) (rest := [.ref (g.1 + r1)]) F9 G h0 hkc_6 rfl (kX8_operand l g E F n r3.2 a0 0 r44 h0 er44) qv_RX8_134 ⟨rfl, rfl, (Nat.le_of_ble_eq_true rfl), (Nat.le_of_ble_eq_true rfl)⟩ rfl hl.1 rfl (Nat.le_of_ble_eq_true rfl) ⟨Nat.zero_le _, Nat.zero_le _⟩ dX8_execute_271 (fun H locs G => ?_)
    refine lv_aload_n hx hb dX8_execute_274 rfl (lv_at hl 1 rfl) ?_
    refine lv_iconst (v := 1) hx hb dX8_execute_275 (by decide) ?_
    obtain ⟨r45, er45, hsp⟩ := hk_b hsp
    refine hk_callVi (As := [.int 1]) (rest := [.int r44.1, .ref (g.1 + r1)]) F9 G h0 hkc_6 rfl (kX8_operand l g E F n r44.2 a0 1 r45 h0 er45) qv_RX8_134 ⟨rfl, rfl, (Nat.le_of_ble_eq_true rfl), (Nat.le_of_ble_eq_true rfl)⟩ rfl hl.1 rfl (Nat.le_of_ble_eq_true rfl) ⟨Nat.zero_le _, Nat.zero_le _⟩ dX8_execute_276 (fun H locs G => ?_)
    refine lv_aload_n hx hb dX8_execute_279 rfl (lv_at hl 1 rfl) ?_
    refine lv_iconst (v := 2) hx hb dX8_execute_280 (by decide) ?_
    obtain ⟨r46, er46, hsp⟩ := hk_b hsp
    refine hk_callVi (As := [.int 2]) (rest := [.int r45.1, .int r44.1, .ref (g.1 + r1)]) F9 G h0 hkc_6 rfl (kX8_operand l g E F n r45.2 a0 2 r46 h0 er46) qv_RX8_134 ⟨rfl, rfl, (Nat.le_of_ble_eq_true rfl), (Nat.le_of_ble_eq_true rfl)⟩ rfl hl.1 rfl (Nat.le_of_ble_eq_true rfl) ⟨Nat.zero_le _, Nat.zero_le _⟩ dX8_execute_281 (fun H locs G => ?_)
    refine lv_aload_n hx hb dX8_execute_284 rfl (lv_at hl 1 rfl) ?_
    refine lv_iconst (v := 3) hx hb dX8_execute_285 (by decide) ?_
    obtain ⟨r47, er47, hsp⟩ := hk_b hsp
    refine hk_callVi (As := [.int 3]) (rest := [.int r46.1, .int r45.1, .int r44.1, .ref (g.1 + r1)]) F9 G h0 hkc_6 rfl (kX8_operand l g E F n r46.2 a0 3 r47 h0 er47) qv_RX8_134 ⟨rfl, rfl, (Nat.le_of_ble_eq_true rfl), (Nat.le_of_ble_eq_true rfl)⟩ rfl hl.1 rfl (Nat.le_of_ble_eq_true rfl) ⟨Nat.zero_le _, Nat.zero_le _⟩ dX8_execute_286 (fun H locs G => ?_)
    refine lv_imul hx hb dX8_execute_289 ?_
    obtain ⟨r48, er48, hsp⟩ := hk_b hsp
    refine hk_callVi (As := [.int r44.1, .int r45.1, .int (r46.1 * r47.1)]) (rest := []) F9 G kr1 hkc_3 rfl (kX5_placeProbe l g E F n r47.2 r1 r44.1 r45.1 (r46.1 * r47.1) r48 kr1 er48) qv_RX8_239 ⟨rfl, rfl, (Nat.le_of_ble_eq_true rfl), (Nat.le_of_ble_eq_true rfl)⟩ rfl hl.1 rfl (Nat.le_of_ble_eq_true rfl) ⟨Nat.zero_le _, Nat.zero_le _⟩ dX8_execute_290 (fun H locs G => ?_)
    refine lv_pop hx hb dX8_execute_293 rfl ?_
    refine lv_goto (tgt := 331) hx hb dX8_execute_294 (by decide) ?_
    obtain rfl := hk_s hsp
    exact W.vret hx hb hr (fun t ht hW => hk_end G ht hW) G.2.1.2.2 dX8_execute_331
  have hsp := hk_f w43 hsp
  rcases Classical.em ((hk_sm.getD (x1).toNatClampNeg 0) = 13) with w49 | w49
  · have hsp := hk_t w49 hsp
    refine lv_tableIn (off := 276) (tgt := 297) hx hb dX8_execute_21 (by rw [w49]; decide) (by rw [w49]; decide) (by rw [w49]; rfl) (by decide) ?_
    refine lv_aload_n hx hb dX8_execute_297 rfl (lv_at hl 1 rfl) ?_
    refine hk_getR F9 G h0 hkc_6 (k := 1) (by decide) qw_270 rfl er1 dX8_execute_298 ?_
    refine lv_aload_n hx hb dX8_execute_301 rfl (lv_at hl 1 rfl) ?_
    refine lv_iconst (v := 0) hx hb dX8_execute_302 (by decide) ?_
    obtain ⟨r50, er50, hsp⟩ := hk_b hsp
    refine hk_callVi (As := [.int 0]) (rest := [.ref (g.1 + r1)]) F9 G h0 hkc_6 rfl (kX8_operand l g E F n r3.2 a0 0 r50 h0 er50) qv_RX8_134 ⟨rfl, rfl, (Nat.le_of_ble_eq_true rfl), (Nat.le_of_ble_eq_true rfl)⟩ rfl hl.1 rfl (Nat.le_of_ble_eq_true rfl) ⟨Nat.zero_le _, Nat.zero_le _⟩ dX8_execute_303 (fun H locs G => ?_)
    obtain ⟨r51, er51, hsp⟩ := hk_b hsp
    refine hk_callVr (As := [.int r50.1]) (rest := []) F9 G kr1 hkc_3 rfl (kX5_probeAt l g E F n r50.2 r1 r50.1 r51 kr1 er51) qv_RX8_243 ⟨rfl, rfl, (Nat.le_of_ble_eq_true rfl), (Nat.le_of_ble_eq_true rfl)⟩ rfl hl.1 rfl (Nat.le_of_ble_eq_true rfl) ⟨Nat.zero_le _, Nat.zero_le _⟩ dX8_execute_306 (fun H locs G => ?_)
    obtain ⟨q52, hsp⟩ := hk_k hsp
    refine lv_iconst (v := 0) hx hb dX8_execute_309 (by decide) ?_
    obtain ⟨S53, eS53, hsp⟩ := hk_l hsp
    refine hk_putI F9 G q52 hkc_4 (k := 2) (by decide) qw_145 rfl rfl (tyX6_ok 2 (by decide)) rfl rfl dX8_execute_310 (fun H locs G => ?_)
    rw [eS53] at G
    refine lv_goto (tgt := 331) hx hb dX8_execute_313 (by decide) ?_
    obtain rfl := hk_s hsp
    exact W.vret hx hb hr (fun t ht hW => hk_end G ht hW) G.2.1.2.2 dX8_execute_331
  have hsp := hk_f w49 hsp
  rcases Classical.em ((hk_sm.getD (x1).toNatClampNeg 0) = 14) with w54 | w54
  · have hsp := hk_t w54 hsp
    refine lv_tableIn (off := 295) (tgt := 316) hx hb dX8_execute_21 (by rw [w54]; decide) (by rw [w54]; decide) (by rw [w54]; rfl) (by decide) ?_
    refine lv_aload_n hx hb dX8_execute_316 rfl (lv_at hl 1 rfl) ?_
    refine hk_getR F9 G h0 hkc_6 (k := 1) (by decide) qw_270 rfl er1 dX8_execute_317 ?_
    refine lv_aload_n hx hb dX8_execute_320 rfl (lv_at hl 1 rfl) ?_
    refine lv_iconst (v := 0) hx hb dX8_execute_321 (by decide) ?_
    obtain ⟨r55, er55, hsp⟩ := hk_b hsp
    refine hk_callVi (As := [.int 0]) (rest := [.ref (g.1 + r1)]) F9 G h0 hkc_6 rfl (kX8_operand l g E F n r3.2 a0 0 r55 h0 er55) qv_RX8_134 ⟨rfl, rfl, (Nat.le_of_ble_eq_true rfl), (Nat.le_of_ble_eq_true rfl)⟩ rfl hl.1 rfl (Nat.le_of_ble_eq_true rfl) ⟨Nat.zero_le _, Nat.zero_le _⟩ dX8_execute_322 (fun H locs G => ?_)
    obtain ⟨r56, er56, hsp⟩ := hk_b hsp
    refine hk_callVv (As := [.int r55.1]) (rest := []) F9 G kr1 hkc_3 rfl (kX5_letHoursPass l g E F n r55.2 r1 r55.1 r56 kr1 er56) qv_RX8_252 ⟨rfl, rfl, (Nat.le_of_ble_eq_true rfl), (Nat.le_of_ble_eq_true rfl)⟩ rfl hl.1 rfl (Nat.le_of_ble_eq_true rfl) ⟨Nat.zero_le _, Nat.zero_le _⟩ dX8_execute_325 (fun H locs G => ?_)
    refine lv_goto (tgt := 331) hx hb dX8_execute_328 (by decide) ?_
    obtain rfl := hk_s hsp
    exact W.vret hx hb hr (fun t ht hW => hk_end G ht hW) G.2.1.2.2 dX8_execute_331
  have hsp := hk_f w54 hsp
  refine lv_tableOut (tgt := 331) hx hb dX8_execute_21 (hk_outs (lo := 1) (n := 14) (L := [1, 2, 3, 4, 5, 6, 7, 8, 9, 10, 11, 12, 13, 14]) (List.forall_mem_cons.mpr ⟨w7, List.forall_mem_cons.mpr ⟨w10, List.forall_mem_cons.mpr ⟨w14, List.forall_mem_cons.mpr ⟨w17, List.forall_mem_cons.mpr ⟨w21, List.forall_mem_cons.mpr ⟨w23, List.forall_mem_cons.mpr ⟨w25, List.forall_mem_cons.mpr ⟨w27, List.forall_mem_cons.mpr ⟨w31, List.forall_mem_cons.mpr ⟨w35, List.forall_mem_cons.mpr ⟨w39, List.forall_mem_cons.mpr ⟨w43, List.forall_mem_cons.mpr ⟨w49, List.forall_mem_cons.mpr ⟨w54, fun _ h => absurd h List.not_mem_nil⟩⟩⟩⟩⟩⟩⟩⟩⟩⟩⟩⟩⟩⟩) (by decide) (by decide)) (by decide) ?_
  obtain rfl := hk_s hsp
  exact W.vret hx hb hr (fun t ht hW => hk_end G ht hW) G.2.1.2.2 dX8_execute_331
def mX8_readMark (E : hk_E) (F : Nat) (S : hk_S) (a0 : Nat) (x1 : Int32) : Option (Int32 × hk_S) :=
(mX8_readToken E F S a0).bind (fun r1 => if hk_ec (r1 a0 5) 7 then (if hk_ec x1 7 then (if (r1 a0 5) = x1 then (some (1, r1)) else ((mX8_fail E F r1 a0 1).bind (fun r5 => if r5.1 = 0 then (some (0, r5.2)) else (some (1, r5.2))))) else none) else none)
set_option maxHeartbeats 4000000 in
set_option maxRecDepth 100000 in
theorem kX8_readMark (l : Launch) (g : hk_G) (E : hk_E) (F n : Nat) (S : hk_S) (a0 : Nat) (x1 : Int32) (o : Int32 × hk_S) (h0 : E.2.1 a0 = 7) (hsp : mX8_readMark E F S a0 x1 = some o) : Met l yX8_readMark (hk_ws yX8_readMark cX8_readMark 2 (Option.some Jvm.ClassFile.FieldType.boolean)) ({ frames := 3, cells := 0, slots := 0, locals := 63 }) (hk_Pc g E S n [.ref (g.1 + a0), hk_en (g.2.2.2 2) x1]) (hk_Q g E o.2 n (some (.int o.1))) 0 0 (hk_A g) := by
  refine Met.ofW (cc := cX8_readMark) (maxL := 2) (ret := (Option.some Jvm.ClassFile.FieldType.boolean)) (by decide) rfl ?_
  intro p e s m args below meth c s₁ B hml hv
  obtain ⟨rfl, G⟩ := hk_begin hv
  have F9 : CallFix p m c cX8_readMark 2 s [.ref (g.1 + a0), hk_en (g.2.2.2 2) x1].toArray hk_W RX8 := ⟨B.exec, B.bytes, hml, findClass_of_methodNamed B.named, fun w h => atoms_spec (ws := hk_ws yX8_readMark cX8_readMark 2 (Option.some Jvm.ClassFile.FieldType.boolean)) B.pre w (hk_in h)⟩
  have hx := B.exec
  have hb := B.bytes
  have hr := B.returns
  have hlocks := B.notSynchronized
  have hl := hk_entryE (a := g.1 + a0) (ad := g.2.2.2 2) (x := x1) (n := 2) (by decide)
  rw [lg_entry_eq]
  generalize (lg_sl ([.ref (g.1 + a0), hk_en (g.2.2.2 2) x1]) ++ List.replicate (2 - (lg_sl ([.ref (g.1 + a0), hk_en (g.2.2.2 2) x1])).length) Slot.unset).toArray = ls at hl ⊢
  have hl : lv_has ls 2 [(0, .ref (g.1 + a0)), (1, hk_en (g.2.2.2 2) x1)] := hl
  unfold mX8_readMark at hsp
  have G : hk_GG g E S n s s.heap [] := G
  refine lv_aload_n hx hb dX8_readMark_0 rfl (lv_at hl 0 rfl) ?_
  obtain ⟨r1, er1, hsp⟩ := hk_b hsp
  refine hk_callVv (As := []) (rest := []) F9 G h0 hkc_6 rfl (kX8_readToken l g E F n S a0 r1 h0 er1) qv_RX8_72 ⟨rfl, rfl, (Nat.le_of_ble_eq_true rfl), (Nat.le_of_ble_eq_true rfl)⟩ rfl hl.1 rfl (Nat.le_of_ble_eq_true rfl) ⟨Nat.zero_le _, Nat.zero_le _⟩ dX8_readMark_1 (fun H locs G => ?_)
  refine lv_aload_n hx hb dX8_readMark_4 rfl (lv_at hl 0 rfl) ?_
  refine hk_get F9 G h0 hkc_6 (k := 5) (by decide) qw_277 rfl dX8_readMark_5 ?_
  refine hk_aloadE_n hx hb dX8_readMark_8 rfl (lv_at hl 1 rfl) ?_
  obtain ⟨q2, hsp⟩ := hk_k hsp
  obtain ⟨q3, hsp⟩ := hk_k hsp
  refine hk_acmp_eq hx hb (N := 7) G.2.2.1.2.1.2 q2 q3 (tgt := 20) dX8_readMark_9 (by decide) (fun c4 => ?_) (fun c4 => ?_)
  · have hsp := hk_t c4 hsp
    refine lv_iconst (v := 1) hx hb dX8_readMark_20 (by decide) ?_
    refine lv_goto (tgt := 25) hx hb dX8_readMark_21 (by decide) ?_
    obtain rfl := hk_s hsp
    exact W.zret (v := 1) hx hb hr (hk_z (by decide)).1 (fun t ht hW => hk_end G ht hW) G.2.1.2.2 dX8_readMark_25
  · have hsp := hk_f c4 hsp
    refine lv_aload_n hx hb dX8_readMark_12 rfl (lv_at hl 0 rfl) ?_
    refine lv_iconst (v := 1) hx hb dX8_readMark_13 (by decide) ?_
    obtain ⟨r5, er5, hsp⟩ := hk_b hsp
    refine hk_callVi (As := [.int 1]) (rest := []) F9 G h0 hkc_6 rfl (kX8_fail l g E F n r1 a0 1 r5 h0 er5) qv_RX8_88 ⟨rfl, rfl, (Nat.le_of_ble_eq_true rfl), (Nat.le_of_ble_eq_true rfl)⟩ rfl hl.1 rfl (Nat.le_of_ble_eq_true rfl) ⟨Nat.zero_le _, Nat.zero_le _⟩ dX8_readMark_14 (fun H locs G => ?_)
    refine lv_if_eq (tgt := 24) hx hb dX8_readMark_17 (by decide) (fun c6 => ?_) (fun c6 => ?_)
    · have hsp := hk_t c6 hsp
      refine lv_iconst (v := 0) hx hb dX8_readMark_24 (by decide) ?_
      obtain rfl := hk_s hsp
      exact W.zret (v := 0) hx hb hr (hk_z (by decide)).1 (fun t ht hW => hk_end G ht hW) G.2.1.2.2 dX8_readMark_25
    · have hsp := hk_f c6 hsp
      refine lv_iconst (v := 1) hx hb dX8_readMark_20 (by decide) ?_
      refine lv_goto (tgt := 25) hx hb dX8_readMark_21 (by decide) ?_
      obtain rfl := hk_s hsp
      exact W.zret (v := 1) hx hb hr (hk_z (by decide)).1 (fun t ht hW => hk_end G ht hW) G.2.1.2.2 dX8_readMark_25
def mX8_readNumber (E : hk_E) (F : Nat) (S : hk_S) (a0 : Nat) (x1 : Int32) (x2 : Int32) : Option (Int32 × hk_S) :=
(mX8_readToken E F S a0).bind (fun r1 => if hk_ec (r1 a0 5) 7 then (if (r1 a0 5) = 1 then (if (r1 a0 7) < x1 then ((mX8_fail E F r1 a0 2).bind (fun r5 => if r5.1 = 0 ∨ r5.1 = 1 then (some (r5.1, r5.2)) else none)) else (if (r1 a0 7) ≤ x2 then ((mX8_keep E F r1 a0 (r1 a0 7)).bind (fun r8 => if r8.1 = 0 ∨ r8.1 = 1 then (some (r8.1, r8.2)) else none)) else ((mX8_fail E F r1 a0 2).bind (fun r10 => if r10.1 = 0 ∨ r10.1 = 1 then (some (r10.1, r10.2)) else none)))) else ((mX8_fail E F r1 a0 1).bind (fun r12 => if r12.1 = 0 ∨ r12.1 = 1 then (some (r12.1, r12.2)) else none))) else none)
set_option maxHeartbeats 4000000 in
set_option maxRecDepth 100000 in
theorem kX8_readNumber (l : Launch) (g : hk_G) (E : hk_E) (F n : Nat) (S : hk_S) (a0 : Nat) (x1 : Int32) (x2 : Int32) (o : Int32 × hk_S) (h0 : E.2.1 a0 = 7) (hsp : mX8_readNumber E F S a0 x1 x2 = some o) : Met l yX8_readNumber (hk_ws yX8_readNumber cX8_readNumber 3 (Option.some Jvm.ClassFile.FieldType.boolean)) ({ frames := 3, cells := 0, slots := 0, locals := 63 }) (hk_Pc g E S n [.ref (g.1 + a0), .int x1, .int x2]) (hk_Q g E o.2 n (some (.int o.1))) 0 0 (hk_A g) := by
  refine Met.ofW (cc := cX8_readNumber) (maxL := 3) (ret := (Option.some Jvm.ClassFile.FieldType.boolean)) (by decide) rfl ?_
  intro p e s m args below meth c s₁ B hml hv
  obtain ⟨rfl, G⟩ := hk_begin hv
  have F9 : CallFix p m c cX8_readNumber 3 s [.ref (g.1 + a0), .int x1, .int x2].toArray hk_W RX8 := ⟨B.exec, B.bytes, hml, findClass_of_methodNamed B.named, fun w h => atoms_spec (ws := hk_ws yX8_readNumber cX8_readNumber 3 (Option.some Jvm.ClassFile.FieldType.boolean)) B.pre w (hk_in h)⟩
  have hx := B.exec
  have hb := B.bytes
  have hr := B.returns
  have hlocks := B.notSynchronized
  have hl := lv_entry ([.ref (g.1 + a0), .int x1, .int x2]) (n := 3) (Nat.le_of_ble_eq_true rfl)
  rw [lg_entry_eq]
  generalize (lg_sl ([.ref (g.1 + a0), .int x1, .int x2]) ++ List.replicate (3 - (lg_sl ([.ref (g.1 + a0), .int x1, .int x2])).length) Slot.unset).toArray = ls at hl ⊢
  have hl : lv_has ls 3 [(0, .ref (g.1 + a0)), (1, .int x1), (2, .int x2)] := hl
  unfold mX8_readNumber at hsp
  have G : hk_GG g E S n s s.heap [] := G
  refine lv_aload_n hx hb dX8_readNumber_0 rfl (lv_at hl 0 rfl) ?_
  obtain ⟨r1, er1, hsp⟩ := hk_b hsp
  refine hk_callVv (As := []) (rest := []) F9 G h0 hkc_6 rfl (kX8_readToken l g E F n S a0 r1 h0 er1) qv_RX8_72 ⟨rfl, rfl, (Nat.le_of_ble_eq_true rfl), (Nat.le_of_ble_eq_true rfl)⟩ rfl hl.1 rfl (Nat.le_of_ble_eq_true rfl) ⟨Nat.zero_le _, Nat.zero_le _⟩ dX8_readNumber_1 (fun H locs G => ?_)
  refine lv_aload_n hx hb dX8_readNumber_4 rfl (lv_at hl 0 rfl) ?_
  refine hk_get F9 G h0 hkc_6 (k := 5) (by decide) qw_277 rfl dX8_readNumber_5 ?_
  refine hk_getTok F9 G 1 (x := 1) (by decide) (hk_en_ref (by decide)) qw_461 dX8_readNumber_8 ?_
  obtain ⟨q2, hsp⟩ := hk_k hsp
  refine hk_acmp_eq hx hb (N := 7) G.2.2.1.2.1.2 q2 (by decide) (tgt := 20) dX8_readNumber_11 (by decide) (fun c3 => ?_) (fun c3 => ?_)
  · have hsp := hk_t c3 hsp
    refine lv_aload_n hx hb dX8_readNumber_20 rfl (lv_at hl 0 rfl) ?_
    refine hk_getI F9 G h0 hkc_6 (k := 7) (by decide) qw_279 rfl dX8_readNumber_21 ?_
    refine lv_iload_n hx hb dX8_readNumber_24 rfl (lv_at hl 1 rfl) ?_
    refine lv_icmp_lt (tgt := 36) hx hb dX8_readNumber_25 (by decide) (fun c4 => ?_) (fun c4 => ?_)
    · have hsp := hk_t c4 hsp
      refine lv_aload_n hx hb dX8_readNumber_36 rfl (lv_at hl 0 rfl) ?_
      refine lv_iconst (v := 2) hx hb dX8_readNumber_37 (by decide) ?_
      obtain ⟨r5, er5, hsp⟩ := hk_b hsp
      refine hk_callVi (As := [.int 2]) (rest := []) F9 G h0 hkc_6 rfl (kX8_fail l g E F n r1 a0 2 r5 h0 er5) qv_RX8_88 ⟨rfl, rfl, (Nat.le_of_ble_eq_true rfl), (Nat.le_of_ble_eq_true rfl)⟩ rfl hl.1 rfl (Nat.le_of_ble_eq_true rfl) ⟨Nat.zero_le _, Nat.zero_le _⟩ dX8_readNumber_38 (fun H locs G => ?_)
      obtain ⟨q6, hsp⟩ := hk_k hsp
      obtain rfl := hk_s hsp
      exact W.zret (v := r5.1) hx hb hr (hk_z q6).1 (fun t ht hW => hk_end G ht hW) G.2.1.2.2 dX8_readNumber_41
    · have hsp := hk_f c4 hsp
      refine lv_aload_n hx hb dX8_readNumber_28 rfl (lv_at hl 0 rfl) ?_
      refine hk_getI F9 G h0 hkc_6 (k := 7) (by decide) qw_279 rfl dX8_readNumber_29 ?_
      refine lv_iload_n hx hb dX8_readNumber_32 rfl (lv_at hl 2 rfl) ?_
      refine lv_icmp_le (tgt := 42) hx hb dX8_readNumber_33 (by decide) (fun c7 => ?_) (fun c7 => ?_)
      · have hsp := hk_t c7 hsp
        refine lv_aload_n hx hb dX8_readNumber_42 rfl (lv_at hl 0 rfl) ?_
        refine lv_aload_n hx hb dX8_readNumber_43 rfl (lv_at hl 0 rfl) ?_
        refine hk_getI F9 G h0 hkc_6 (k := 7) (by decide) qw_279 rfl dX8_readNumber_44 ?_
        obtain ⟨r8, er8, hsp⟩ := hk_b hsp
        refine hk_callVi (As := [.int (r1 a0 7)]) (rest := []) F9 G h0 hkc_6 rfl (kX8_keep l g E F n r1 a0 (r1 a0 7) r8 h0 er8) qv_RX8_263 ⟨rfl, rfl, (Nat.le_of_ble_eq_true rfl), (Nat.le_of_ble_eq_true rfl)⟩ rfl hl.1 rfl (Nat.le_of_ble_eq_true rfl) ⟨Nat.zero_le _, Nat.zero_le _⟩ dX8_readNumber_47 (fun H locs G => ?_)
        obtain ⟨q9, hsp⟩ := hk_k hsp
        obtain rfl := hk_s hsp
        exact W.zret (v := r8.1) hx hb hr (hk_z q9).1 (fun t ht hW => hk_end G ht hW) G.2.1.2.2 dX8_readNumber_50
      · have hsp := hk_f c7 hsp
        refine lv_aload_n hx hb dX8_readNumber_36 rfl (lv_at hl 0 rfl) ?_
        refine lv_iconst (v := 2) hx hb dX8_readNumber_37 (by decide) ?_
        obtain ⟨r10, er10, hsp⟩ := hk_b hsp
        refine hk_callVi (As := [.int 2]) (rest := []) F9 G h0 hkc_6 rfl (kX8_fail l g E F n r1 a0 2 r10 h0 er10) qv_RX8_88 ⟨rfl, rfl, (Nat.le_of_ble_eq_true rfl), (Nat.le_of_ble_eq_true rfl)⟩ rfl hl.1 rfl (Nat.le_of_ble_eq_true rfl) ⟨Nat.zero_le _, Nat.zero_le _⟩ dX8_readNumber_38 (fun H locs G => ?_)
        obtain ⟨q11, hsp⟩ := hk_k hsp
        obtain rfl := hk_s hsp
        exact W.zret (v := r10.1) hx hb hr (hk_z q11).1 (fun t ht hW => hk_end G ht hW) G.2.1.2.2 dX8_readNumber_41
  · have hsp := hk_f c3 hsp
    refine lv_aload_n hx hb dX8_readNumber_14 rfl (lv_at hl 0 rfl) ?_
    refine lv_iconst (v := 1) hx hb dX8_readNumber_15 (by decide) ?_
    obtain ⟨r12, er12, hsp⟩ := hk_b hsp
    refine hk_callVi (As := [.int 1]) (rest := []) F9 G h0 hkc_6 rfl (kX8_fail l g E F n r1 a0 1 r12 h0 er12) qv_RX8_88 ⟨rfl, rfl, (Nat.le_of_ble_eq_true rfl), (Nat.le_of_ble_eq_true rfl)⟩ rfl hl.1 rfl (Nat.le_of_ble_eq_true rfl) ⟨Nat.zero_le _, Nat.zero_le _⟩ dX8_readNumber_16 (fun H locs G => ?_)
    obtain ⟨q13, hsp⟩ := hk_k hsp
    obtain rfl := hk_s hsp
    exact W.zret (v := r12.1) hx hb hr (hk_z q13).1 (fun t ht hW => hk_end G ht hW) G.2.1.2.2 dX8_readNumber_19
def mX8_isWord_30 (E : hk_E) (F : Nat) (a0 : Nat) (i1 : Nat)  (k : hk_S → Int32 → Option (Int32 × hk_S)) : Nat → hk_S → Int32 → Option (Int32 × hk_S)
  | 0 => fun _ _ => none
  | f + 1 => fun S z5 =>
    (mJ0_length_8abf5 E F S i1).bind (fun r6 => if r6.1 ≤ z5 then (k r6.2 z5) else ((E.2.2.2 a0 0).bind (fun r8 => if E.2.1 r8 = 3 then ((mX4_byteAt E F r6.2 r8 ((r6.2 a0 6) + z5)).bind (fun r9 => (mJ0_charAt_5068e E F r9.2 i1 z5).bind (fun r10 => if r9.1 = r10.1 then (hk_let (z5 + 1) (fun y12 => mX8_isWord_30 E F a0 i1 k f r10.2 y12)) else (some (0, r10.2))))) else none)))
def mX8_isWord (E : hk_E) (F : Nat) (S : hk_S) (a0 : Nat) (i1 : Nat) : Option (Int32 × hk_S) :=
if hk_ec (S a0 5) 7 then (if ¬ (S a0 5) = 0 then (some (0, S)) else ((mJ0_length_8abf5 E F S i1).bind (fun r3 => if ((S a0 4) - (S a0 6)) = r3.1 then (mX8_isWord_30 E F a0 i1  (fun S13 z14 => some (1, S13)) F r3.2 0) else (some (0, r3.2))))) else none
set_option maxHeartbeats 4000000 in
set_option maxRecDepth 100000 in
theorem kX8_isWord (l : Launch) (g : hk_G) (E : hk_E) (F n : Nat) (S : hk_S) (a0 : Nat) (i1 : Nat) (o : Int32 × hk_S) (h0 : E.2.1 a0 = 7) (h1 : i1 < 47) (hsp : mX8_isWord E F S a0 i1 = some o) : Met l yX8_isWord (hk_ws yX8_isWord cX8_isWord 3 (Option.some Jvm.ClassFile.FieldType.boolean)) ({ frames := 4, cells := 0, slots := 0, locals := 85 }) (hk_Pc g E S n [.ref (g.1 + a0), .ref (g.2.2.2 0 i1)]) (hk_Q g E o.2 n (some (.int o.1))) 0 0 (hk_A g) := by
  refine Met.ofW (cc := cX8_isWord) (maxL := 3) (ret := (Option.some Jvm.ClassFile.FieldType.boolean)) (by decide) rfl ?_
  intro p e s m args below meth c s₁ B hml hv
  obtain ⟨rfl, G⟩ := hk_begin hv
  have F9 : CallFix p m c cX8_isWord 3 s [.ref (g.1 + a0), .ref (g.2.2.2 0 i1)].toArray hk_W RX8 := ⟨B.exec, B.bytes, hml, findClass_of_methodNamed B.named, fun w h => atoms_spec (ws := hk_ws yX8_isWord cX8_isWord 3 (Option.some Jvm.ClassFile.FieldType.boolean)) B.pre w (hk_in h)⟩
  have hx := B.exec
  have hb := B.bytes
  have hr := B.returns
  have hlocks := B.notSynchronized
  have hl := lv_entry ([.ref (g.1 + a0), .ref (g.2.2.2 0 i1)]) (n := 3) (Nat.le_of_ble_eq_true rfl)
  rw [lg_entry_eq]
  generalize (lg_sl ([.ref (g.1 + a0), .ref (g.2.2.2 0 i1)]) ++ List.replicate (3 - (lg_sl ([.ref (g.1 + a0), .ref (g.2.2.2 0 i1)])).length) Slot.unset).toArray = ls at hl ⊢
  have hl : lv_has ls 3 [(0, .ref (g.1 + a0)), (1, .ref (g.2.2.2 0 i1))] := hl
  unfold mX8_isWord at hsp
  have G : hk_GG g E S n s s.heap [] := G
  have L_30 : ∀   (k : hk_S → Int32 → Option (Int32 × hk_S)) (_ : ∀ (S : hk_S) (z5 : Int32) (H : Heap) (locs : List Loc) (ls : Array Slot), k S z5 = some o → hk_GG g E S n s H locs → lv_has ls 3 [(0, .ref (g.1 + a0)), (1, .ref (g.2.2.2 0 i1)), (2, .int z5)] → W p l e (headSpec (hk_ws yX8_isWord cX8_isWord 3 (Option.some Jvm.ClassFile.FieldType.boolean)) ({ frames := 4, cells := 0, slots := 0, locals := 85 })).room s m [.ref (g.1 + a0), .ref (g.2.2.2 0 i1)].toArray below meth c H locs 0 0 (MQ below (hk_Q g E o.2 n (some (.int o.1))) [.ref (g.1 + a0), .ref (g.2.2.2 0 i1)].toArray s 0 0 (hk_A g)) (F0 m 67 ls [])) (f : Nat) (S : hk_S) (z5 : Int32) (H : Heap) (locs : List Loc) (ls : Array Slot), mX8_isWord_30 E F a0 i1 k f S z5 = some o → hk_GG g E S n s H locs → lv_has ls 3 [(0, .ref (g.1 + a0)), (1, .ref (g.2.2.2 0 i1)), (2, .int z5)] → W p l e (headSpec (hk_ws yX8_isWord cX8_isWord 3 (Option.some Jvm.ClassFile.FieldType.boolean)) ({ frames := 4, cells := 0, slots := 0, locals := 85 })).room s m [.ref (g.1 + a0), .ref (g.2.2.2 0 i1)].toArray below meth c H locs 0 0 (MQ below (hk_Q g E o.2 n (some (.int o.1))) [.ref (g.1 + a0), .ref (g.2.2.2 0 i1)].toArray s 0 0 (hk_A g)) (F0 m 30 ls []) := by
    intro   k hk f
    induction f with
    | zero =>
      intro S z5 H locs ls hsp
      exact nomatch hsp
    | succ f ih =>
      intro S z5 H locs ls hsp G hl
      rw [mX8_isWord_30] at hsp
      refine lv_iload_n hx hb dX8_isWord_30 rfl (lv_at hl 2 rfl) ?_
      refine lv_aload_n hx hb dX8_isWord_31 rfl (lv_at hl 1 rfl) ?_
      obtain ⟨r6, er6, hsp⟩ := hk_b hsp
      refine hk_callX (As := []) (rest := [.int z5]) F9 G (hk_srecv G h1) rfl (kJ0_length_8abf5 l g E F n S i1 r6 h1 er6) qv_RX8_303 ⟨rfl, rfl, (Nat.le_of_ble_eq_true rfl), (Nat.le_of_ble_eq_true rfl)⟩ rfl hl.1 rfl (Nat.le_of_ble_eq_true rfl) ⟨Nat.zero_le _, Nat.zero_le _⟩ dX8_isWord_32 (fun H locs G => ?_)
      refine lv_icmp_ge (tgt := 67) hx hb dX8_isWord_35 (by decide) (fun c7 => ?_) (fun c7 => ?_)
      · have hsp := hk_t c7 hsp
        exact hk r6.2 z5 _ _ _ hsp G (lv_sub hl [0, 1, 2] rfl)
      · have hsp := hk_f c7 hsp
        refine lv_aload_n hx hb dX8_isWord_38 rfl (lv_at hl 0 rfl) ?_
        obtain ⟨r8, er8, hsp⟩ := hk_b hsp
        obtain ⟨kr8, hsp⟩ := hk_k hsp
        refine hk_getR F9 G h0 hkc_6 (k := 0) (by decide) qw_268 rfl er8 dX8_isWord_39 ?_
        refine lv_aload_n hx hb dX8_isWord_42 rfl (lv_at hl 0 rfl) ?_
        refine hk_getI F9 G h0 hkc_6 (k := 6) (by decide) qw_278 rfl dX8_isWord_43 ?_
        refine lv_iload_n hx hb dX8_isWord_46 rfl (lv_at hl 2 rfl) ?_
        refine lv_iadd hx hb dX8_isWord_47 ?_
        obtain ⟨r9, er9, hsp⟩ := hk_b hsp
        refine hk_callVi (As := [.int ((r6.2 a0 6) + z5)]) (rest := []) F9 G kr8 hkc_2 rfl (kX4_byteAt l g E F n r6.2 r8 ((r6.2 a0 6) + z5) r9 kr8 er9) qv_RX8_275 ⟨rfl, rfl, (Nat.le_of_ble_eq_true rfl), (Nat.le_of_ble_eq_true rfl)⟩ rfl hl.1 rfl (Nat.le_of_ble_eq_true rfl) ⟨Nat.zero_le _, Nat.zero_le _⟩ dX8_isWord_48 (fun H locs G => ?_)
        refine lv_aload_n hx hb dX8_isWord_51 rfl (lv_at hl 1 rfl) ?_
        refine lv_iload_n hx hb dX8_isWord_52 rfl (lv_at hl 2 rfl) ?_
        obtain ⟨r10, er10, hsp⟩ := hk_b hsp
        refine hk_callX (As := [.int z5]) (rest := [.int r9.1]) F9 G (hk_srecv G h1) rfl (kJ0_charAt_5068e l g E F n r9.2 i1 z5 r10 h1 er10) qv_RX8_307 ⟨rfl, rfl, (Nat.le_of_ble_eq_true rfl), (Nat.le_of_ble_eq_true rfl)⟩ rfl hl.1 rfl (Nat.le_of_ble_eq_true rfl) ⟨Nat.zero_le _, Nat.zero_le _⟩ dX8_isWord_53 (fun H locs G => ?_)
        refine lv_icmp_eq (tgt := 61) hx hb dX8_isWord_56 (by decide) (fun c11 => ?_) (fun c11 => ?_)
        · have hsp := hk_t c11 hsp
          obtain ⟨y12, ey12, hsp⟩ := hk_l hsp
          refine lv_iinc (v := y12) (lv' := [(2, .int y12), (0, .ref (g.1 + a0)), (1, .ref (g.2.2.2 0 i1))]) hx hb dX8_isWord_61 hl (k := 2) rfl (by rw [← ey12]; rfl) (by decide) rfl (fun ls hl => ?_)
          refine lv_goto (tgt := 30) hx hb dX8_isWord_64 (by decide) ?_
          exact ih r10.2 y12 _ _ _ hsp G (lv_sub hl [1, 2, 0] rfl)
        · have hsp := hk_f c11 hsp
          refine lv_iconst (v := 0) hx hb dX8_isWord_59 (by decide) ?_
          obtain rfl := hk_s hsp
          exact W.zret (v := 0) hx hb hr (hk_z (by decide)).1 (fun t ht hW => hk_end G ht hW) G.2.1.2.2 dX8_isWord_60
  refine lv_aload_n hx hb dX8_isWord_0 rfl (lv_at hl 0 rfl) ?_
  refine hk_get F9 G h0 hkc_6 (k := 5) (by decide) qw_277 rfl dX8_isWord_1 ?_
  refine hk_getTok F9 G 0 (x := 0) (by decide) (hk_en_ref (by decide)) qw_472 dX8_isWord_4 ?_
  obtain ⟨q1, hsp⟩ := hk_k hsp
  refine hk_acmp_ne hx hb (N := 7) G.2.2.1.2.1.2 q1 (by decide) (tgt := 26) dX8_isWord_7 (by decide) (fun c2 => ?_) (fun c2 => ?_)
  · have hsp := hk_t c2 hsp
    refine lv_iconst (v := 0) hx hb dX8_isWord_26 (by decide) ?_
    obtain rfl := hk_s hsp
    exact W.zret (v := 0) hx hb hr (hk_z (by decide)).1 (fun t ht hW => hk_end G ht hW) G.2.1.2.2 dX8_isWord_27
  · have hsp := hk_g c2 hsp
    refine lv_aload_n hx hb dX8_isWord_10 rfl (lv_at hl 0 rfl) ?_
    refine hk_getI F9 G h0 hkc_6 (k := 4) (by decide) qw_276 rfl dX8_isWord_11 ?_
    refine lv_aload_n hx hb dX8_isWord_14 rfl (lv_at hl 0 rfl) ?_
    refine hk_getI F9 G h0 hkc_6 (k := 6) (by decide) qw_278 rfl dX8_isWord_15 ?_
    refine lv_isub hx hb dX8_isWord_18 ?_
    refine lv_aload_n hx hb dX8_isWord_19 rfl (lv_at hl 1 rfl) ?_
    obtain ⟨r3, er3, hsp⟩ := hk_b hsp
    refine hk_callX (As := []) (rest := [.int ((S a0 4) - (S a0 6))]) F9 G (hk_srecv G h1) rfl (kJ0_length_8abf5 l g E F n S i1 r3 h1 er3) qv_RX8_303 ⟨rfl, rfl, (Nat.le_of_ble_eq_true rfl), (Nat.le_of_ble_eq_true rfl)⟩ rfl hl.1 rfl (Nat.le_of_ble_eq_true rfl) ⟨Nat.zero_le _, Nat.zero_le _⟩ dX8_isWord_20 (fun H locs G => ?_)
    refine lv_icmp_eq (tgt := 28) hx hb dX8_isWord_23 (by decide) (fun c4 => ?_) (fun c4 => ?_)
    · have hsp := hk_t c4 hsp
      refine lv_iconst (v := 0) hx hb dX8_isWord_28 (by decide) ?_
      refine lv_istore_n (lv' := [(2, .int 0), (0, .ref (g.1 + a0)), (1, .ref (g.2.2.2 0 i1))]) hx hb dX8_isWord_29 rfl hl (by decide) rfl (fun ls hl => ?_)
      refine L_30   _ ?_ F r3.2 0 _ _ _ hsp G (lv_sub hl [1, 2, 0] rfl)
      intro S13 z14 H locs ls hsp G hl
      refine lv_iconst (v := 1) hx hb dX8_isWord_67 (by decide) ?_
      obtain rfl := hk_s hsp
      exact W.zret (v := 1) hx hb hr (hk_z (by decide)).1 (fun t ht hW => hk_end G ht hW) G.2.1.2.2 dX8_isWord_68
    · have hsp := hk_f c4 hsp
      refine lv_iconst (v := 0) hx hb dX8_isWord_26 (by decide) ?_
      obtain rfl := hk_s hsp
      exact W.zret (v := 0) hx hb hr (hk_z (by decide)).1 (fun t ht hW => hk_end G ht hW) G.2.1.2.2 dX8_isWord_27
def mX8_commandHere_2 (E : hk_E) (F : Nat) (a0 : Nat)  (k : hk_S → Int32 → Option (Int32 × hk_S)) : Nat → hk_S → Int32 → Option (Int32 × hk_S)
  | 0 => fun _ _ => none
  | f + 1 => fun S z1 =>
    if 15 ≤ z1 then (k S z1) else (if hk_ok z1 15 then (if hk_ok z1 15 then ((mX8_isWord E F S a0 (hk_wd.getD (z1).toNatClampNeg 0)).bind (fun r5 => if r5.1 = 0 then (hk_let (z1 + 1) (fun y7 => mX8_commandHere_2 E F a0 k f r5.2 y7)) else (if hk_ok z1 15 then (some (z1, r5.2)) else none))) else none) else none)
def mX8_commandHere (E : hk_E) (F : Nat) (S : hk_S) (a0 : Nat) : Option (Int32 × hk_S) :=
mX8_commandHere_2 E F a0  (fun S9 z10 => some ((-1), S9)) F S 0
set_option maxHeartbeats 4000000 in
set_option maxRecDepth 100000 in
theorem kX8_commandHere (l : Launch) (g : hk_G) (E : hk_E) (F n : Nat) (S : hk_S) (a0 : Nat) (o : Int32 × hk_S) (h0 : E.2.1 a0 = 7) (hsp : mX8_commandHere E F S a0 = some o) : Met l yX8_commandHere (hk_ws yX8_commandHere cX8_commandHere 2 (Option.some (Jvm.ClassFile.FieldType.object "WitheringLoft$Command"))) ({ frames := 5, cells := 0, slots := 0, locals := 107 }) (hk_Pc g E S n [.ref (g.1 + a0)]) (hk_Q g E o.2 n (some (hk_en (g.2.2.2 3) o.1))) 0 0 (hk_A g) := by
  refine Met.ofW (cc := cX8_commandHere) (maxL := 2) (ret := (Option.some (Jvm.ClassFile.FieldType.object "WitheringLoft$Command"))) (by decide) rfl ?_
  intro p e s m args below meth c s₁ B hml hv
  obtain ⟨rfl, G⟩ := hk_begin hv
  have F9 : CallFix p m c cX8_commandHere 2 s [.ref (g.1 + a0)].toArray hk_W RX8 := ⟨B.exec, B.bytes, hml, findClass_of_methodNamed B.named, fun w h => atoms_spec (ws := hk_ws yX8_commandHere cX8_commandHere 2 (Option.some (Jvm.ClassFile.FieldType.object "WitheringLoft$Command"))) B.pre w (hk_in h)⟩
  have hx := B.exec
  have hb := B.bytes
  have hr := B.returns
  have hlocks := B.notSynchronized
  have hl := lv_entry ([.ref (g.1 + a0)]) (n := 2) (Nat.le_of_ble_eq_true rfl)
  rw [lg_entry_eq]
  generalize (lg_sl ([.ref (g.1 + a0)]) ++ List.replicate (2 - (lg_sl ([.ref (g.1 + a0)])).length) Slot.unset).toArray = ls at hl ⊢
  have hl : lv_has ls 2 [(0, .ref (g.1 + a0))] := hl
  unfold mX8_commandHere at hsp
  have G : hk_GG g E S n s s.heap [] := G
  have L_2 : ∀   (k : hk_S → Int32 → Option (Int32 × hk_S)) (_ : ∀ (S : hk_S) (z1 : Int32) (H : Heap) (locs : List Loc) (ls : Array Slot), k S z1 = some o → hk_GG g E S n s H locs → lv_has ls 2 [(0, .ref (g.1 + a0)), (1, .int z1)] → W p l e (headSpec (hk_ws yX8_commandHere cX8_commandHere 2 (Option.some (Jvm.ClassFile.FieldType.object "WitheringLoft$Command"))) ({ frames := 5, cells := 0, slots := 0, locals := 107 })).room s m [.ref (g.1 + a0)].toArray below meth c H locs 0 0 (MQ below (hk_Q g E o.2 n (some (hk_en (g.2.2.2 3) o.1))) [.ref (g.1 + a0)].toArray s 0 0 (hk_A g)) (F0 m 37 ls [])) (f : Nat) (S : hk_S) (z1 : Int32) (H : Heap) (locs : List Loc) (ls : Array Slot), mX8_commandHere_2 E F a0 k f S z1 = some o → hk_GG g E S n s H locs → lv_has ls 2 [(0, .ref (g.1 + a0)), (1, .int z1)] → W p l e (headSpec (hk_ws yX8_commandHere cX8_commandHere 2 (Option.some (Jvm.ClassFile.FieldType.object "WitheringLoft$Command"))) ({ frames := 5, cells := 0, slots := 0, locals := 107 })).room s m [.ref (g.1 + a0)].toArray below meth c H locs 0 0 (MQ below (hk_Q g E o.2 n (some (hk_en (g.2.2.2 3) o.1))) [.ref (g.1 + a0)].toArray s 0 0 (hk_A g)) (F0 m 2 ls []) := by
    intro   k hk f
    induction f with
    | zero =>
      intro S z1 H locs ls hsp
      exact nomatch hsp
    | succ f ih =>
      intro S z1 H locs ls hsp G hl
      rw [mX8_commandHere_2] at hsp
      refine lv_iload_n hx hb dX8_commandHere_2 rfl (lv_at hl 1 rfl) ?_
      refine hk_getCOM F9 G qw_557 dX8_commandHere_3 ?_
      refine hk_lenCOM F9 G dX8_commandHere_6 ?_
      refine lv_icmp_ge (tgt := 37) hx hb dX8_commandHere_7 (by decide) (fun c2 => ?_) (fun c2 => ?_)
      · have hsp := hk_t c2 hsp
        exact hk S z1 _ _ _ hsp G (lv_sub hl [0, 1] rfl)
      · have hsp := hk_f c2 hsp
        refine lv_aload_n hx hb dX8_commandHere_10 rfl (lv_at hl 0 rfl) ?_
        refine hk_getCOM F9 G qw_557 dX8_commandHere_11 ?_
        refine lv_iload_n hx hb dX8_commandHere_14 rfl (lv_at hl 1 rfl) ?_
        obtain ⟨q3, hsp⟩ := hk_k hsp
        refine hk_ldCOM F9 G q3 dX8_commandHere_15 ?_
        obtain ⟨q4, hsp⟩ := hk_k hsp
        refine hk_word F9 G q4 qw_2037 dX8_commandHere_16 ?_
        obtain ⟨r5, er5, hsp⟩ := hk_b hsp
        refine hk_callVi (As := [.ref (g.2.2.2 0 (hk_wd.getD (z1).toNatClampNeg 0))]) (rest := []) F9 G h0 hkc_6 rfl (kX8_isWord l g E F n S a0 (hk_wd.getD (z1).toNatClampNeg 0) r5 h0 (hk_wd_lt _) er5) qv_RX8_123 ⟨rfl, rfl, (Nat.le_of_ble_eq_true rfl), (Nat.le_of_ble_eq_true rfl)⟩ rfl hl.1 rfl (Nat.le_of_ble_eq_true rfl) ⟨Nat.zero_le _, Nat.zero_le _⟩ dX8_commandHere_19 (fun H locs G => ?_)
        refine lv_if_eq (tgt := 31) hx hb dX8_commandHere_22 (by decide) (fun c6 => ?_) (fun c6 => ?_)
        · have hsp := hk_t c6 hsp
          obtain ⟨y7, ey7, hsp⟩ := hk_l hsp
          refine lv_iinc (v := y7) (lv' := [(1, .int y7), (0, .ref (g.1 + a0))]) hx hb dX8_commandHere_31 hl (k := 1) rfl (by rw [← ey7]; rfl) (by decide) rfl (fun ls hl => ?_)
          refine lv_goto (tgt := 2) hx hb dX8_commandHere_34 (by decide) ?_
          exact ih r5.2 y7 _ _ _ hsp G (lv_sub hl [1, 0] rfl)
        · have hsp := hk_f c6 hsp
          refine hk_getCOM F9 G qw_557 dX8_commandHere_25 ?_
          refine lv_iload_n hx hb dX8_commandHere_28 rfl (lv_at hl 1 rfl) ?_
          obtain ⟨q8, hsp⟩ := hk_k hsp
          refine hk_ldCOM F9 G q8 dX8_commandHere_29 ?_
          obtain rfl := hk_s hsp
          exact W.aret (v := hk_en (g.2.2.2 3) z1) hx hb hr (Or.inl ⟨_, rfl⟩) (hk_en_or _ _) (fun t ht hW => hk_end G ht hW) G.2.1.2.2 dX8_commandHere_30
  refine lv_iconst (v := 0) hx hb dX8_commandHere_0 (by decide) ?_
  refine lv_istore_n (lv' := [(1, .int 0), (0, .ref (g.1 + a0))]) hx hb dX8_commandHere_1 rfl hl (by decide) rfl (fun ls hl => ?_)
  refine L_2   _ ?_ F S 0 _ _ _ hsp G (lv_sub hl [1, 0] rfl)
  intro S9 z10 H locs ls hsp G hl
  refine lv_null hx hb dX8_commandHere_37 ?_
  refine hk_pushE (w := hk_en (g.2.2.2 3) (-1)) (hk_en_null (by decide)).symm ?_
  obtain rfl := hk_s hsp
  exact W.aret (v := hk_en (g.2.2.2 3) (-1)) hx hb hr (Or.inl ⟨_, rfl⟩) (hk_en_or _ _) (fun t ht hW => hk_end G ht hW) G.2.1.2.2 dX8_commandHere_38
def mX8_openRepeat (E : hk_E) (F : Nat) (S : hk_S) (a0 : Nat) : Option (Int32 × hk_S) :=
(mX8_readNumber E F S a0 1 20).bind (fun r1 => if r1.1 = 0 then (some (0, r1.2)) else ((mX8_readMark E F r1.2 a0 2).bind (fun r3 => if ¬ r3.1 = 0 then (if (r3.2 a0 11) < 0 then (some (1, r3.2)) else (if 2 ≤ (r3.2 a0 11) then (some (1, r3.2)) else ((E.2.2.2 a0 12).bind (fun r7 => if E.2.1 r7 = 13 then (if hk_ok (r3.2 a0 11) (E.2.2.1 r7) then (hk_let (hk_up r3.2 r7 (((r3.2 a0 11)).toNatClampNeg) (r3.2 a0 4)) (fun S9 => (E.2.2.2 a0 13).bind (fun r10 => if E.2.1 r10 = 13 then ((mX8_operand E F S9 a0 0).bind (fun r11 => if hk_ok (S9 a0 11) (E.2.2.1 r10) then (hk_let (hk_up r11.2 r10 (((S9 a0 11)).toNatClampNeg) r11.1) (fun S13 => hk_let (hk_up S13 a0 11 ((S13 a0 11) + 1)) (fun S14 => some (1, S14)))) else none)) else none))) else none) else none)))) else (some (0, r3.2)))))
set_option maxHeartbeats 4000000 in
set_option maxRecDepth 100000 in
theorem kX8_openRepeat (l : Launch) (g : hk_G) (E : hk_E) (F n : Nat) (S : hk_S) (a0 : Nat) (o : Int32 × hk_S) (h0 : E.2.1 a0 = 7) (hsp : mX8_openRepeat E F S a0 = some o) : Met l yX8_openRepeat (hk_ws yX8_openRepeat cX8_openRepeat 1 (Option.some Jvm.ClassFile.FieldType.boolean)) ({ frames := 4, cells := 0, slots := 0, locals := 85 }) (hk_Pc g E S n [.ref (g.1 + a0)]) (hk_Q g E o.2 n (some (.int o.1))) 0 0 (hk_A g) := by
  refine Met.ofW (cc := cX8_openRepeat) (maxL := 1) (ret := (Option.some Jvm.ClassFile.FieldType.boolean)) (by decide) rfl ?_
  intro p e s m args below meth c s₁ B hml hv
  obtain ⟨rfl, G⟩ := hk_begin hv
  have F9 : CallFix p m c cX8_openRepeat 1 s [.ref (g.1 + a0)].toArray hk_W RX8 := ⟨B.exec, B.bytes, hml, findClass_of_methodNamed B.named, fun w h => atoms_spec (ws := hk_ws yX8_openRepeat cX8_openRepeat 1 (Option.some Jvm.ClassFile.FieldType.boolean)) B.pre w (hk_in h)⟩
  have hx := B.exec
  have hb := B.bytes
  have hr := B.returns
  have hlocks := B.notSynchronized
  have hl := lv_entry ([.ref (g.1 + a0)]) (n := 1) (Nat.le_of_ble_eq_true rfl)
  rw [lg_entry_eq]
  generalize (lg_sl ([.ref (g.1 + a0)]) ++ List.replicate (1 - (lg_sl ([.ref (g.1 + a0)])).length) Slot.unset).toArray = ls at hl ⊢
  have hl : lv_has ls 1 [(0, .ref (g.1 + a0))] := hl
  unfold mX8_openRepeat at hsp
  have G : hk_GG g E S n s s.heap [] := G
  refine lv_aload_n hx hb dX8_openRepeat_0 rfl (lv_at hl 0 rfl) ?_
  refine lv_iconst (v := 1) hx hb dX8_openRepeat_1 (by decide) ?_
  refine lv_bipush (v := 20) hx hb dX8_openRepeat_2 (by decide) ?_
  obtain ⟨r1, er1, hsp⟩ := hk_b hsp
  refine hk_callVi (As := [.int 1, .int 20]) (rest := []) F9 G h0 hkc_6 rfl (kX8_readNumber l g E F n S a0 1 20 r1 h0 er1) qv_RX8_127 ⟨rfl, rfl, (Nat.le_of_ble_eq_true rfl), (Nat.le_of_ble_eq_true rfl)⟩ rfl hl.1 rfl (Nat.le_of_ble_eq_true rfl) ⟨Nat.zero_le _, Nat.zero_le _⟩ dX8_openRepeat_4 (fun H locs G => ?_)
  refine lv_if_eq (tgt := 20) hx hb dX8_openRepeat_7 (by decide) (fun c2 => ?_) (fun c2 => ?_)
  · have hsp := hk_t c2 hsp
    refine lv_iconst (v := 0) hx hb dX8_openRepeat_20 (by decide) ?_
    obtain rfl := hk_s hsp
    exact W.zret (v := 0) hx hb hr (hk_z (by decide)).1 (fun t ht hW => hk_end G ht hW) G.2.1.2.2 dX8_openRepeat_21
  · have hsp := hk_f c2 hsp
    refine lv_aload_n hx hb dX8_openRepeat_10 rfl (lv_at hl 0 rfl) ?_
    refine hk_getTok F9 G 2 (x := 2) (by decide) (hk_en_ref (by decide)) qw_477 dX8_openRepeat_11 ?_
    obtain ⟨r3, er3, hsp⟩ := hk_b hsp
    refine hk_callVi (As := [hk_en (g.2.2.2 2) 2]) (rest := []) F9 G h0 hkc_6 rfl (kX8_readMark l g E F n r1.2 a0 2 r3 h0 er3) qv_RX8_67 ⟨rfl, rfl, (Nat.le_of_ble_eq_true rfl), (Nat.le_of_ble_eq_true rfl)⟩ rfl hl.1 rfl (Nat.le_of_ble_eq_true rfl) ⟨Nat.zero_le _, Nat.zero_le _⟩ dX8_openRepeat_14 (fun H locs G => ?_)
    refine lv_if_ne (tgt := 22) hx hb dX8_openRepeat_17 (by decide) (fun c4 => ?_) (fun c4 => ?_)
    · have hsp := hk_t c4 hsp
      refine lv_aload_n hx hb dX8_openRepeat_22 rfl (lv_at hl 0 rfl) ?_
      refine hk_getI F9 G h0 hkc_6 (k := 11) (by decide) qw_283 rfl dX8_openRepeat_23 ?_
      refine lv_if_lt (tgt := 74) hx hb dX8_openRepeat_26 (by decide) (fun c5 => ?_) (fun c5 => ?_)
      · have hsp := hk_t c5 hsp
        refine lv_iconst (v := 1) hx hb dX8_openRepeat_74 (by decide) ?_
        obtain rfl := hk_s hsp
        exact W.zret (v := 1) hx hb hr (hk_z (by decide)).1 (fun t ht hW => hk_end G ht hW) G.2.1.2.2 dX8_openRepeat_75
      · have hsp := hk_f c5 hsp
        refine lv_aload_n hx hb dX8_openRepeat_29 rfl (lv_at hl 0 rfl) ?_
        refine hk_getI F9 G h0 hkc_6 (k := 11) (by decide) qw_283 rfl dX8_openRepeat_30 ?_
        refine lv_iconst (v := 2) hx hb dX8_openRepeat_33 (by decide) ?_
        refine lv_icmp_ge (tgt := 74) hx hb dX8_openRepeat_34 (by decide) (fun c6 => ?_) (fun c6 => ?_)
        · have hsp := hk_t c6 hsp
          refine lv_iconst (v := 1) hx hb dX8_openRepeat_74 (by decide) ?_
          obtain rfl := hk_s hsp
          exact W.zret (v := 1) hx hb hr (hk_z (by decide)).1 (fun t ht hW => hk_end G ht hW) G.2.1.2.2 dX8_openRepeat_75
        · have hsp := hk_f c6 hsp
          refine lv_aload_n hx hb dX8_openRepeat_37 rfl (lv_at hl 0 rfl) ?_
          obtain ⟨r7, er7, hsp⟩ := hk_b hsp
          obtain ⟨kr7, hsp⟩ := hk_k hsp
          refine hk_getR F9 G h0 hkc_6 (k := 12) (by decide) qw_284 rfl er7 dX8_openRepeat_38 ?_
          refine lv_aload_n hx hb dX8_openRepeat_41 rfl (lv_at hl 0 rfl) ?_
          refine hk_getI F9 G h0 hkc_6 (k := 11) (by decide) qw_283 rfl dX8_openRepeat_42 ?_
          refine lv_aload_n hx hb dX8_openRepeat_45 rfl (lv_at hl 0 rfl) ?_
          refine hk_getI F9 G h0 hkc_6 (k := 4) (by decide) qw_276 rfl dX8_openRepeat_46 ?_
          obtain ⟨q8, hsp⟩ := hk_k hsp
          obtain ⟨S9, eS9, hsp⟩ := hk_l hsp
          refine hk_iast (j := ((r3.2 a0 11)).toNatClampNeg) F9 G kr7 rfl q8 rfl dX8_openRepeat_49 (fun H locs G => ?_)
          rw [eS9] at G
          refine lv_aload_n hx hb dX8_openRepeat_50 rfl (lv_at hl 0 rfl) ?_
          obtain ⟨r10, er10, hsp⟩ := hk_b hsp
          obtain ⟨kr10, hsp⟩ := hk_k hsp
          refine hk_getR F9 G h0 hkc_6 (k := 13) (by decide) qw_285 rfl er10 dX8_openRepeat_51 ?_
          refine lv_aload_n hx hb dX8_openRepeat_54 rfl (lv_at hl 0 rfl) ?_
          refine hk_getI F9 G h0 hkc_6 (k := 11) (by decide) qw_283 rfl dX8_openRepeat_55 ?_
          refine lv_aload_n hx hb dX8_openRepeat_58 rfl (lv_at hl 0 rfl) ?_
          refine lv_iconst (v := 0) hx hb dX8_openRepeat_59 (by decide) ?_
          obtain ⟨r11, er11, hsp⟩ := hk_b hsp
          refine hk_callVi (As := [.int 0]) (rest := [.int (S9 a0 11), .ref (g.1 + r10)]) F9 G h0 hkc_6 rfl (kX8_operand l g E F n S9 a0 0 r11 h0 er11) qv_RX8_134 ⟨rfl, rfl, (Nat.le_of_ble_eq_true rfl), (Nat.le_of_ble_eq_true rfl)⟩ rfl hl.1 rfl (Nat.le_of_ble_eq_true rfl) ⟨Nat.zero_le _, Nat.zero_le _⟩ dX8_openRepeat_60 (fun H locs G => ?_)
          obtain ⟨q12, hsp⟩ := hk_k hsp
          obtain ⟨S13, eS13, hsp⟩ := hk_l hsp
          refine hk_iast (j := ((S9 a0 11)).toNatClampNeg) F9 G kr10 rfl q12 rfl dX8_openRepeat_63 (fun H locs G => ?_)
          rw [eS13] at G
          refine lv_aload_n hx hb dX8_openRepeat_64 rfl (lv_at hl 0 rfl) ?_
          refine lv_dup hx hb dX8_openRepeat_65 rfl ?_
          refine hk_getI F9 G h0 hkc_6 (k := 11) (by decide) qw_283 rfl dX8_openRepeat_66 ?_
          refine lv_iconst (v := 1) hx hb dX8_openRepeat_69 (by decide) ?_
          refine lv_iadd hx hb dX8_openRepeat_70 ?_
          obtain ⟨S14, eS14, hsp⟩ := hk_l hsp
          refine hk_putI F9 G h0 hkc_6 (k := 11) (by decide) qw_283 rfl rfl (tyX8_ok 11 (by decide)) rfl rfl dX8_openRepeat_71 (fun H locs G => ?_)
          rw [eS14] at G
          refine lv_iconst (v := 1) hx hb dX8_openRepeat_74 (by decide) ?_
          obtain rfl := hk_s hsp
          exact W.zret (v := 1) hx hb hr (hk_z (by decide)).1 (fun t ht hW => hk_end G ht hW) G.2.1.2.2 dX8_openRepeat_75
    · have hsp := hk_g c4 hsp
      refine lv_iconst (v := 0) hx hb dX8_openRepeat_20 (by decide) ?_
      obtain rfl := hk_s hsp
      exact W.zret (v := 0) hx hb hr (hk_z (by decide)).1 (fun t ht hW => hk_end G ht hW) G.2.1.2.2 dX8_openRepeat_21
def mX8_closeRepeat (E : hk_E) (F : Nat) (S : hk_S) (a0 : Nat) : Option (Int32 × hk_S) :=
hk_let ((S a0 11) - 1) (fun y1 => if y1 < 0 then ((mX8_fail E F S a0 1).bind (fun r3 => if r3.1 = 0 ∨ r3.1 = 1 then (some (r3.1, r3.2)) else none)) else (if y1 < 2 then ((E.2.2.2 a0 13).bind (fun r6 => if E.2.1 r6 = 13 then (if hk_ok y1 (E.2.2.1 r6) then (if hk_ok y1 (E.2.2.1 r6) then (hk_let (hk_up S r6 ((y1).toNatClampNeg) ((S r6 ((y1).toNatClampNeg)) - 1)) (fun S9 => if hk_ok y1 (E.2.2.1 r6) then (if (S9 r6 ((y1).toNatClampNeg)) ≤ 0 then (hk_let (hk_up S9 a0 11 y1) (fun S12 => (mX8_readMark E F S12 a0 4).bind (fun r13 => if r13.1 = 0 ∨ r13.1 = 1 then (some (r13.1, r13.2)) else none))) else ((E.2.2.2 a0 12).bind (fun r15 => if E.2.1 r15 = 13 then (if hk_ok y1 (E.2.2.1 r15) then (hk_let (hk_up S9 a0 4 (S9 r15 ((y1).toNatClampNeg))) (fun S17 => some (1, S17))) else none) else none))) else none)) else none) else none) else none)) else ((mX8_fail E F S a0 1).bind (fun r18 => if r18.1 = 0 ∨ r18.1 = 1 then (some (r18.1, r18.2)) else none))))
set_option maxHeartbeats 4000000 in
set_option maxRecDepth 100000 in
theorem kX8_closeRepeat (l : Launch) (g : hk_G) (E : hk_E) (F n : Nat) (S : hk_S) (a0 : Nat) (o : Int32 × hk_S) (h0 : E.2.1 a0 = 7) (hsp : mX8_closeRepeat E F S a0 = some o) : Met l yX8_closeRepeat (hk_ws yX8_closeRepeat cX8_closeRepeat 2 (Option.some Jvm.ClassFile.FieldType.boolean)) ({ frames := 4, cells := 0, slots := 0, locals := 84 }) (hk_Pc g E S n [.ref (g.1 + a0)]) (hk_Q g E o.2 n (some (.int o.1))) 0 0 (hk_A g) := by
  refine Met.ofW (cc := cX8_closeRepeat) (maxL := 2) (ret := (Option.some Jvm.ClassFile.FieldType.boolean)) (by decide) rfl ?_
  intro p e s m args below meth c s₁ B hml hv
  obtain ⟨rfl, G⟩ := hk_begin hv
  have F9 : CallFix p m c cX8_closeRepeat 2 s [.ref (g.1 + a0)].toArray hk_W RX8 := ⟨B.exec, B.bytes, hml, findClass_of_methodNamed B.named, fun w h => atoms_spec (ws := hk_ws yX8_closeRepeat cX8_closeRepeat 2 (Option.some Jvm.ClassFile.FieldType.boolean)) B.pre w (hk_in h)⟩
  have hx := B.exec
  have hb := B.bytes
  have hr := B.returns
  have hlocks := B.notSynchronized
  have hl := lv_entry ([.ref (g.1 + a0)]) (n := 2) (Nat.le_of_ble_eq_true rfl)
  rw [lg_entry_eq]
  generalize (lg_sl ([.ref (g.1 + a0)]) ++ List.replicate (2 - (lg_sl ([.ref (g.1 + a0)])).length) Slot.unset).toArray = ls at hl ⊢
  have hl : lv_has ls 2 [(0, .ref (g.1 + a0))] := hl
  unfold mX8_closeRepeat at hsp
  have G : hk_GG g E S n s s.heap [] := G
  refine lv_aload_n hx hb dX8_closeRepeat_0 rfl (lv_at hl 0 rfl) ?_
  refine hk_getI F9 G h0 hkc_6 (k := 11) (by decide) qw_283 rfl dX8_closeRepeat_1 ?_
  refine lv_iconst (v := 1) hx hb dX8_closeRepeat_4 (by decide) ?_
  refine lv_isub hx hb dX8_closeRepeat_5 ?_
  obtain ⟨y1, ey1, hsp⟩ := hk_l hsp
  refine hk_top ey1 ?_
  refine lv_istore_n (lv' := [(1, .int y1), (0, .ref (g.1 + a0))]) hx hb dX8_closeRepeat_6 rfl hl (by decide) rfl (fun ls hl => ?_)
  refine lv_iload_n hx hb dX8_closeRepeat_7 rfl (lv_at hl 0 rfl) ?_
  refine lv_if_lt (tgt := 16) hx hb dX8_closeRepeat_8 (by decide) (fun c2 => ?_) (fun c2 => ?_)
  · have hsp := hk_t c2 hsp
    refine lv_aload_n hx hb dX8_closeRepeat_16 rfl (lv_at hl 1 rfl) ?_
    refine lv_iconst (v := 1) hx hb dX8_closeRepeat_17 (by decide) ?_
    obtain ⟨r3, er3, hsp⟩ := hk_b hsp
    refine hk_callVi (As := [.int 1]) (rest := []) F9 G h0 hkc_6 rfl (kX8_fail l g E F n S a0 1 r3 h0 er3) qv_RX8_88 ⟨rfl, rfl, (Nat.le_of_ble_eq_true rfl), (Nat.le_of_ble_eq_true rfl)⟩ rfl hl.1 rfl (Nat.le_of_ble_eq_true rfl) ⟨Nat.zero_le _, Nat.zero_le _⟩ dX8_closeRepeat_18 (fun H locs G => ?_)
    obtain ⟨q4, hsp⟩ := hk_k hsp
    obtain rfl := hk_s hsp
    exact W.zret (v := r3.1) hx hb hr (hk_z q4).1 (fun t ht hW => hk_end G ht hW) G.2.1.2.2 dX8_closeRepeat_21
  · have hsp := hk_f c2 hsp
    refine lv_iload_n hx hb dX8_closeRepeat_11 rfl (lv_at hl 0 rfl) ?_
    refine lv_iconst (v := 2) hx hb dX8_closeRepeat_12 (by decide) ?_
    refine lv_icmp_lt (tgt := 22) hx hb dX8_closeRepeat_13 (by decide) (fun c5 => ?_) (fun c5 => ?_)
    · have hsp := hk_t c5 hsp
      refine lv_aload_n hx hb dX8_closeRepeat_22 rfl (lv_at hl 1 rfl) ?_
      obtain ⟨r6, er6, hsp⟩ := hk_b hsp
      obtain ⟨kr6, hsp⟩ := hk_k hsp
      refine hk_getR F9 G h0 hkc_6 (k := 13) (by decide) qw_285 rfl er6 dX8_closeRepeat_23 ?_
      refine lv_iload_n hx hb dX8_closeRepeat_26 rfl (lv_at hl 0 rfl) ?_
      refine lv_dup2_11 hx hb dX8_closeRepeat_27 rfl rfl ?_
      obtain ⟨q7, hsp⟩ := hk_k hsp
      refine hk_iald (j := (y1).toNatClampNeg) F9 G kr6 rfl q7 rfl dX8_closeRepeat_28 ?_
      refine lv_iconst (v := 1) hx hb dX8_closeRepeat_29 (by decide) ?_
      refine lv_isub hx hb dX8_closeRepeat_30 ?_
      obtain ⟨q8, hsp⟩ := hk_k hsp
      obtain ⟨S9, eS9, hsp⟩ := hk_l hsp
      refine hk_iast (j := (y1).toNatClampNeg) F9 G kr6 rfl q8 rfl dX8_closeRepeat_31 (fun H locs G => ?_)
      rw [eS9] at G
      refine lv_aload_n hx hb dX8_closeRepeat_32 rfl (lv_at hl 1 rfl) ?_
      refine hk_getR F9 G h0 hkc_6 (k := 13) (by decide) qw_285 rfl er6 dX8_closeRepeat_33 ?_
      refine lv_iload_n hx hb dX8_closeRepeat_36 rfl (lv_at hl 0 rfl) ?_
      obtain ⟨q10, hsp⟩ := hk_k hsp
      refine hk_iald (j := (y1).toNatClampNeg) F9 G kr6 rfl q10 rfl dX8_closeRepeat_37 ?_
      refine lv_if_le (tgt := 53) hx hb dX8_closeRepeat_38 (by decide) (fun c11 => ?_) (fun c11 => ?_)
      · have hsp := hk_t c11 hsp
        refine lv_aload_n hx hb dX8_closeRepeat_53 rfl (lv_at hl 1 rfl) ?_
        refine lv_iload_n hx hb dX8_closeRepeat_54 rfl (lv_at hl 0 rfl) ?_
        obtain ⟨S12, eS12, hsp⟩ := hk_l hsp
        refine hk_putI F9 G h0 hkc_6 (k := 11) (by decide) qw_283 rfl rfl (tyX8_ok 11 (by decide)) rfl rfl dX8_closeRepeat_55 (fun H locs G => ?_)
        rw [eS12] at G
        refine lv_aload_n hx hb dX8_closeRepeat_58 rfl (lv_at hl 1 rfl) ?_
        refine hk_getTok F9 G 4 (x := 4) (by decide) (hk_en_ref (by decide)) qw_481 dX8_closeRepeat_59 ?_
        obtain ⟨r13, er13, hsp⟩ := hk_b hsp
        refine hk_callVi (As := [hk_en (g.2.2.2 2) 4]) (rest := []) F9 G h0 hkc_6 rfl (kX8_readMark l g E F n S12 a0 4 r13 h0 er13) qv_RX8_67 ⟨rfl, rfl, (Nat.le_of_ble_eq_true rfl), (Nat.le_of_ble_eq_true rfl)⟩ rfl hl.1 rfl (Nat.le_of_ble_eq_true rfl) ⟨Nat.zero_le _, Nat.zero_le _⟩ dX8_closeRepeat_62 (fun H locs G => ?_)
        obtain ⟨q14, hsp⟩ := hk_k hsp
        obtain rfl := hk_s hsp
        exact W.zret (v := r13.1) hx hb hr (hk_z q14).1 (fun t ht hW => hk_end G ht hW) G.2.1.2.2 dX8_closeRepeat_65
      · have hsp := hk_f c11 hsp
        refine lv_aload_n hx hb dX8_closeRepeat_41 rfl (lv_at hl 1 rfl) ?_
        refine lv_aload_n hx hb dX8_closeRepeat_42 rfl (lv_at hl 1 rfl) ?_
        obtain ⟨r15, er15, hsp⟩ := hk_b hsp
        obtain ⟨kr15, hsp⟩ := hk_k hsp
        refine hk_getR F9 G h0 hkc_6 (k := 12) (by decide) qw_284 rfl er15 dX8_closeRepeat_43 ?_
        refine lv_iload_n hx hb dX8_closeRepeat_46 rfl (lv_at hl 0 rfl) ?_
        obtain ⟨q16, hsp⟩ := hk_k hsp
        refine hk_iald (j := (y1).toNatClampNeg) F9 G kr15 rfl q16 rfl dX8_closeRepeat_47 ?_
        obtain ⟨S17, eS17, hsp⟩ := hk_l hsp
        refine hk_putI F9 G h0 hkc_6 (k := 4) (by decide) qw_276 rfl rfl (tyX8_ok 4 (by decide)) rfl rfl dX8_closeRepeat_48 (fun H locs G => ?_)
        rw [eS17] at G
        refine lv_iconst (v := 1) hx hb dX8_closeRepeat_51 (by decide) ?_
        obtain rfl := hk_s hsp
        exact W.zret (v := 1) hx hb hr (hk_z (by decide)).1 (fun t ht hW => hk_end G ht hW) G.2.1.2.2 dX8_closeRepeat_52
    · have hsp := hk_f c5 hsp
      refine lv_aload_n hx hb dX8_closeRepeat_16 rfl (lv_at hl 1 rfl) ?_
      refine lv_iconst (v := 1) hx hb dX8_closeRepeat_17 (by decide) ?_
      obtain ⟨r18, er18, hsp⟩ := hk_b hsp
      refine hk_callVi (As := [.int 1]) (rest := []) F9 G h0 hkc_6 rfl (kX8_fail l g E F n S a0 1 r18 h0 er18) qv_RX8_88 ⟨rfl, rfl, (Nat.le_of_ble_eq_true rfl), (Nat.le_of_ble_eq_true rfl)⟩ rfl hl.1 rfl (Nat.le_of_ble_eq_true rfl) ⟨Nat.zero_le _, Nat.zero_le _⟩ dX8_closeRepeat_18 (fun H locs G => ?_)
      obtain ⟨q19, hsp⟩ := hk_k hsp
      obtain rfl := hk_s hsp
      exact W.zret (v := r18.1) hx hb hr (hk_z q19).1 (fun t ht hW => hk_end G ht hW) G.2.1.2.2 dX8_closeRepeat_21
def mX8_readFirstWord (E : hk_E) (F : Nat) (S : hk_S) (a0 : Nat) : Option (Int32 × hk_S) :=
(mX8_readToken E F S a0).bind (fun r1 => (mX8_isWord E F r1 a0 0).bind (fun r2 => if ¬ r2.1 = 0 then (some (1, r2.2)) else ((mX8_fail E F r2.2 a0 1).bind (fun r4 => if r4.1 = 0 then (some (0, r4.2)) else (some (1, r4.2))))))
set_option maxHeartbeats 4000000 in
set_option maxRecDepth 100000 in
theorem kX8_readFirstWord (l : Launch) (g : hk_G) (E : hk_E) (F n : Nat) (S : hk_S) (a0 : Nat) (o : Int32 × hk_S) (h0 : E.2.1 a0 = 7) (hsp : mX8_readFirstWord E F S a0 = some o) : Met l yX8_readFirstWord (hk_ws yX8_readFirstWord cX8_readFirstWord 1 (Option.some Jvm.ClassFile.FieldType.boolean)) ({ frames := 5, cells := 0, slots := 0, locals := 107 }) (hk_Pc g E S n [.ref (g.1 + a0)]) (hk_Q g E o.2 n (some (.int o.1))) 0 0 (hk_A g) := by
  refine Met.ofW (cc := cX8_readFirstWord) (maxL := 1) (ret := (Option.some Jvm.ClassFile.FieldType.boolean)) (by decide) rfl ?_
  intro p e s m args below meth c s₁ B hml hv
  obtain ⟨rfl, G⟩ := hk_begin hv
  have F9 : CallFix p m c cX8_readFirstWord 1 s [.ref (g.1 + a0)].toArray hk_W RX8 := ⟨B.exec, B.bytes, hml, findClass_of_methodNamed B.named, fun w h => atoms_spec (ws := hk_ws yX8_readFirstWord cX8_readFirstWord 1 (Option.some Jvm.ClassFile.FieldType.boolean)) B.pre w (hk_in h)⟩
  have hx := B.exec
  have hb := B.bytes
  have hr := B.returns
  have hlocks := B.notSynchronized
  have hl := lv_entry ([.ref (g.1 + a0)]) (n := 1) (Nat.le_of_ble_eq_true rfl)
  rw [lg_entry_eq]
  generalize (lg_sl ([.ref (g.1 + a0)]) ++ List.replicate (1 - (lg_sl ([.ref (g.1 + a0)])).length) Slot.unset).toArray = ls at hl ⊢
  have hl : lv_has ls 1 [(0, .ref (g.1 + a0))] := hl
  unfold mX8_readFirstWord at hsp
  have G : hk_GG g E S n s s.heap [] := G
  refine lv_aload_n hx hb dX8_readFirstWord_0 rfl (lv_at hl 0 rfl) ?_
  obtain ⟨r1, er1, hsp⟩ := hk_b hsp
  refine hk_callVv (As := []) (rest := []) F9 G h0 hkc_6 rfl (kX8_readToken l g E F n S a0 r1 h0 er1) qv_RX8_72 ⟨rfl, rfl, (Nat.le_of_ble_eq_true rfl), (Nat.le_of_ble_eq_true rfl)⟩ rfl hl.1 rfl (Nat.le_of_ble_eq_true rfl) ⟨Nat.zero_le _, Nat.zero_le _⟩ dX8_readFirstWord_1 (fun H locs G => ?_)
  refine lv_aload_n hx hb dX8_readFirstWord_4 rfl (lv_at hl 0 rfl) ?_
  refine hk_ldc F9 G 0 rfl rfl rfl dX8_readFirstWord_5 ?_
  obtain ⟨r2, er2, hsp⟩ := hk_b hsp
  refine hk_callVi (As := [.ref (g.2.2.2 0 0)]) (rest := []) F9 G h0 hkc_6 rfl (kX8_isWord l g E F n r1 a0 0 r2 h0 (by decide) er2) qv_RX8_123 ⟨rfl, rfl, (Nat.le_of_ble_eq_true rfl), (Nat.le_of_ble_eq_true rfl)⟩ rfl hl.1 rfl (Nat.le_of_ble_eq_true rfl) ⟨Nat.zero_le _, Nat.zero_le _⟩ dX8_readFirstWord_7 (fun H locs G => ?_)
  refine lv_if_ne (tgt := 21) hx hb dX8_readFirstWord_10 (by decide) (fun c3 => ?_) (fun c3 => ?_)
  · have hsp := hk_t c3 hsp
    refine lv_iconst (v := 1) hx hb dX8_readFirstWord_21 (by decide) ?_
    refine lv_goto (tgt := 26) hx hb dX8_readFirstWord_22 (by decide) ?_
    obtain rfl := hk_s hsp
    exact W.zret (v := 1) hx hb hr (hk_z (by decide)).1 (fun t ht hW => hk_end G ht hW) G.2.1.2.2 dX8_readFirstWord_26
  · have hsp := hk_g c3 hsp
    refine lv_aload_n hx hb dX8_readFirstWord_13 rfl (lv_at hl 0 rfl) ?_
    refine lv_iconst (v := 1) hx hb dX8_readFirstWord_14 (by decide) ?_
    obtain ⟨r4, er4, hsp⟩ := hk_b hsp
    refine hk_callVi (As := [.int 1]) (rest := []) F9 G h0 hkc_6 rfl (kX8_fail l g E F n r2.2 a0 1 r4 h0 er4) qv_RX8_88 ⟨rfl, rfl, (Nat.le_of_ble_eq_true rfl), (Nat.le_of_ble_eq_true rfl)⟩ rfl hl.1 rfl (Nat.le_of_ble_eq_true rfl) ⟨Nat.zero_le _, Nat.zero_le _⟩ dX8_readFirstWord_15 (fun H locs G => ?_)
    refine lv_if_eq (tgt := 25) hx hb dX8_readFirstWord_18 (by decide) (fun c5 => ?_) (fun c5 => ?_)
    · have hsp := hk_t c5 hsp
      refine lv_iconst (v := 0) hx hb dX8_readFirstWord_25 (by decide) ?_
      obtain rfl := hk_s hsp
      exact W.zret (v := 0) hx hb hr (hk_z (by decide)).1 (fun t ht hW => hk_end G ht hW) G.2.1.2.2 dX8_readFirstWord_26
    · have hsp := hk_f c5 hsp
      refine lv_iconst (v := 1) hx hb dX8_readFirstWord_21 (by decide) ?_
      refine lv_goto (tgt := 26) hx hb dX8_readFirstWord_22 (by decide) ?_
      obtain rfl := hk_s hsp
      exact W.zret (v := 1) hx hb hr (hk_z (by decide)).1 (fun t ht hW => hk_end G ht hW) G.2.1.2.2 dX8_readFirstWord_26
def mX8_readChoice (E : hk_E) (F : Nat) (S : hk_S) (a0 : Nat) (i1 : Nat) (x2 : Int32) (i3 : Nat) (x4 : Int32) : Option (Int32 × hk_S) :=
(mX8_readToken E F S a0).bind (fun r1 => (mX8_isWord E F r1 a0 i1).bind (fun r2 => if r2.1 = 0 then ((mX8_isWord E F r2.2 a0 i3).bind (fun r4 => if r4.1 = 0 then ((mX8_fail E F r4.2 a0 1).bind (fun r6 => if r6.1 = 0 ∨ r6.1 = 1 then (some (r6.1, r6.2)) else none)) else ((mX8_keep E F r4.2 a0 x4).bind (fun r8 => if r8.1 = 0 ∨ r8.1 = 1 then (some (r8.1, r8.2)) else none)))) else ((mX8_keep E F r2.2 a0 x2).bind (fun r10 => if r10.1 = 0 ∨ r10.1 = 1 then (some (r10.1, r10.2)) else none))))
set_option maxHeartbeats 4000000 in
set_option maxRecDepth 100000 in
theorem kX8_readChoice (l : Launch) (g : hk_G) (E : hk_E) (F n : Nat) (S : hk_S) (a0 : Nat) (i1 : Nat) (x2 : Int32) (i3 : Nat) (x4 : Int32) (o : Int32 × hk_S) (h0 : E.2.1 a0 = 7) (h1 : i1 < 47) (h3 : i3 < 47) (hsp : mX8_readChoice E F S a0 i1 x2 i3 x4 = some o) : Met l yX8_readChoice (hk_ws yX8_readChoice cX8_readChoice 5 (Option.some Jvm.ClassFile.FieldType.boolean)) ({ frames := 5, cells := 0, slots := 0, locals := 107 }) (hk_Pc g E S n [.ref (g.1 + a0), .ref (g.2.2.2 0 i1), .int x2, .ref (g.2.2.2 0 i3), .int x4]) (hk_Q g E o.2 n (some (.int o.1))) 0 0 (hk_A g) := by
  refine Met.ofW (cc := cX8_readChoice) (maxL := 5) (ret := (Option.some Jvm.ClassFile.FieldType.boolean)) (by decide) rfl ?_
  intro p e s m args below meth c s₁ B hml hv
  obtain ⟨rfl, G⟩ := hk_begin hv
  have F9 : CallFix p m c cX8_readChoice 5 s [.ref (g.1 + a0), .ref (g.2.2.2 0 i1), .int x2, .ref (g.2.2.2 0 i3), .int x4].toArray hk_W RX8 := ⟨B.exec, B.bytes, hml, findClass_of_methodNamed B.named, fun w h => atoms_spec (ws := hk_ws yX8_readChoice cX8_readChoice 5 (Option.some Jvm.ClassFile.FieldType.boolean)) B.pre w (hk_in h)⟩
  have hx := B.exec
  have hb := B.bytes
  have hr := B.returns
  have hlocks := B.notSynchronized
  have hl := lv_entry ([.ref (g.1 + a0), .ref (g.2.2.2 0 i1), .int x2, .ref (g.2.2.2 0 i3), .int x4]) (n := 5) (Nat.le_of_ble_eq_true rfl)
  rw [lg_entry_eq]
  generalize (lg_sl ([.ref (g.1 + a0), .ref (g.2.2.2 0 i1), .int x2, .ref (g.2.2.2 0 i3), .int x4]) ++ List.replicate (5 - (lg_sl ([.ref (g.1 + a0), .ref (g.2.2.2 0 i1), .int x2, .ref (g.2.2.2 0 i3), .int x4])).length) Slot.unset).toArray = ls at hl ⊢
  have hl : lv_has ls 5 [(0, .ref (g.1 + a0)), (1, .ref (g.2.2.2 0 i1)), (2, .int x2), (3, .ref (g.2.2.2 0 i3)), (4, .int x4)] := hl
  unfold mX8_readChoice at hsp
  have G : hk_GG g E S n s s.heap [] := G
  refine lv_aload_n hx hb dX8_readChoice_0 rfl (lv_at hl 0 rfl) ?_
  obtain ⟨r1, er1, hsp⟩ := hk_b hsp
  refine hk_callVv (As := []) (rest := []) F9 G h0 hkc_6 rfl (kX8_readToken l g E F n S a0 r1 h0 er1) qv_RX8_72 ⟨rfl, rfl, (Nat.le_of_ble_eq_true rfl), (Nat.le_of_ble_eq_true rfl)⟩ rfl hl.1 rfl (Nat.le_of_ble_eq_true rfl) ⟨Nat.zero_le _, Nat.zero_le _⟩ dX8_readChoice_1 (fun H locs G => ?_)
  refine lv_aload_n hx hb dX8_readChoice_4 rfl (lv_at hl 0 rfl) ?_
  refine lv_aload_n hx hb dX8_readChoice_5 rfl (lv_at hl 1 rfl) ?_
  obtain ⟨r2, er2, hsp⟩ := hk_b hsp
  refine hk_callVi (As := [.ref (g.2.2.2 0 i1)]) (rest := []) F9 G h0 hkc_6 rfl (kX8_isWord l g E F n r1 a0 i1 r2 h0 h1 er2) qv_RX8_123 ⟨rfl, rfl, (Nat.le_of_ble_eq_true rfl), (Nat.le_of_ble_eq_true rfl)⟩ rfl hl.1 rfl (Nat.le_of_ble_eq_true rfl) ⟨Nat.zero_le _, Nat.zero_le _⟩ dX8_readChoice_6 (fun H locs G => ?_)
  refine lv_if_eq (tgt := 18) hx hb dX8_readChoice_9 (by decide) (fun c3 => ?_) (fun c3 => ?_)
  · have hsp := hk_t c3 hsp
    refine lv_aload_n hx hb dX8_readChoice_18 rfl (lv_at hl 0 rfl) ?_
    refine lv_aload_n hx hb dX8_readChoice_19 rfl (lv_at hl 3 rfl) ?_
    obtain ⟨r4, er4, hsp⟩ := hk_b hsp
    refine hk_callVi (As := [.ref (g.2.2.2 0 i3)]) (rest := []) F9 G h0 hkc_6 rfl (kX8_isWord l g E F n r2.2 a0 i3 r4 h0 h3 er4) qv_RX8_123 ⟨rfl, rfl, (Nat.le_of_ble_eq_true rfl), (Nat.le_of_ble_eq_true rfl)⟩ rfl hl.1 rfl (Nat.le_of_ble_eq_true rfl) ⟨Nat.zero_le _, Nat.zero_le _⟩ dX8_readChoice_20 (fun H locs G => ?_)
    refine lv_if_eq (tgt := 35) hx hb dX8_readChoice_23 (by decide) (fun c5 => ?_) (fun c5 => ?_)
    · have hsp := hk_t c5 hsp
      refine lv_aload_n hx hb dX8_readChoice_35 rfl (lv_at hl 0 rfl) ?_
      refine lv_iconst (v := 1) hx hb dX8_readChoice_36 (by decide) ?_
      obtain ⟨r6, er6, hsp⟩ := hk_b hsp
      refine hk_callVi (As := [.int 1]) (rest := []) F9 G h0 hkc_6 rfl (kX8_fail l g E F n r4.2 a0 1 r6 h0 er6) qv_RX8_88 ⟨rfl, rfl, (Nat.le_of_ble_eq_true rfl), (Nat.le_of_ble_eq_true rfl)⟩ rfl hl.1 rfl (Nat.le_of_ble_eq_true rfl) ⟨Nat.zero_le _, Nat.zero_le _⟩ dX8_readChoice_37 (fun H locs G => ?_)
      obtain ⟨q7, hsp⟩ := hk_k hsp
      obtain rfl := hk_s hsp
      exact W.zret (v := r6.1) hx hb hr (hk_z q7).1 (fun t ht hW => hk_end G ht hW) G.2.1.2.2 dX8_readChoice_40
    · have hsp := hk_f c5 hsp
      refine lv_aload_n hx hb dX8_readChoice_26 rfl (lv_at hl 0 rfl) ?_
      refine lv_iload hx hb dX8_readChoice_27 (lv_at hl 4 rfl) ?_
      obtain ⟨r8, er8, hsp⟩ := hk_b hsp
      refine hk_callVi (As := [.int x4]) (rest := []) F9 G h0 hkc_6 rfl (kX8_keep l g E F n r4.2 a0 x4 r8 h0 er8) qv_RX8_263 ⟨rfl, rfl, (Nat.le_of_ble_eq_true rfl), (Nat.le_of_ble_eq_true rfl)⟩ rfl hl.1 rfl (Nat.le_of_ble_eq_true rfl) ⟨Nat.zero_le _, Nat.zero_le _⟩ dX8_readChoice_29 (fun H locs G => ?_)
      refine lv_goto (tgt := 40) hx hb dX8_readChoice_32 (by decide) ?_
      obtain ⟨q9, hsp⟩ := hk_k hsp
      obtain rfl := hk_s hsp
      exact W.zret (v := r8.1) hx hb hr (hk_z q9).1 (fun t ht hW => hk_end G ht hW) G.2.1.2.2 dX8_readChoice_40
  · have hsp := hk_f c3 hsp
    refine lv_aload_n hx hb dX8_readChoice_12 rfl (lv_at hl 0 rfl) ?_
    refine lv_iload_n hx hb dX8_readChoice_13 rfl (lv_at hl 2 rfl) ?_
    obtain ⟨r10, er10, hsp⟩ := hk_b hsp
    refine hk_callVi (As := [.int x2]) (rest := []) F9 G h0 hkc_6 rfl (kX8_keep l g E F n r2.2 a0 x2 r10 h0 er10) qv_RX8_263 ⟨rfl, rfl, (Nat.le_of_ble_eq_true rfl), (Nat.le_of_ble_eq_true rfl)⟩ rfl hl.1 rfl (Nat.le_of_ble_eq_true rfl) ⟨Nat.zero_le _, Nat.zero_le _⟩ dX8_readChoice_14 (fun H locs G => ?_)
    obtain ⟨q11, hsp⟩ := hk_k hsp
    obtain rfl := hk_s hsp
    exact W.zret (v := r10.1) hx hb hr (hk_z q11).1 (fun t ht hW => hk_end G ht hW) G.2.1.2.2 dX8_readChoice_17
def mX8_readOperands (E : hk_E) (F : Nat) (S : hk_S) (a0 : Nat) (x1 : Int32) : Option (Int32 × hk_S) :=
if hk_ok x1 15 then (if hk_ok x1 15 then (if (hk_sm.getD (x1).toNatClampNeg 0) = 1 then ((mX8_readNumber E F S a0 10 500).bind (fun r4 => if r4.1 = 0 ∨ r4.1 = 1 then (some (r4.1, r4.2)) else none)) else (if (hk_sm.getD (x1).toNatClampNeg 0) = 2 then ((E.2.2.2 a0 1).bind (fun r7 => if E.2.1 r7 = 4 then ((mX8_readNumber E F S a0 0 ((S r7 2) - 1)).bind (fun r8 => if r8.1 = 0 then (some (0, r8.2)) else ((mX8_operand E F r8.2 a0 0).bind (fun r10 => (mX5_troughAt E F r10.2 r7 r10.1).bind (fun r11 => if E.2.1 r11.1 = 8 then ((mX8_readNumber E F r11.2 a0 1 (r11.2 r11.1 0)).bind (fun r13 => if r13.1 = 0 then (some (0, r13.2)) else ((mX8_readNumber E F r13.2 a0 600 900).bind (fun r15 => if r15.1 = 0 then (some (0, r15.2)) else (some (1, r15.2)))))) else none))))) else none)) else (if (hk_sm.getD (x1).toNatClampNeg 0) = 3 then ((E.2.2.2 a0 1).bind (fun r18 => if E.2.1 r18 = 4 then ((mX8_readNumber E F S a0 0 ((S r18 2) - 1)).bind (fun r19 => if r19.1 = 0 then (some (0, r19.2)) else ((mX8_readNumber E F r19.2 a0 0 5).bind (fun r21 => if r21.1 = 0 then (some (0, r21.2)) else (some (1, r21.2)))))) else none)) else (if (hk_sm.getD (x1).toNatClampNeg 0) = 4 then ((E.2.2.2 a0 1).bind (fun r24 => if E.2.1 r24 = 4 then ((mX8_readNumber E F S a0 0 ((S r24 2) - 1)).bind (fun r25 => if r25.1 = 0 ∨ r25.1 = 1 then (some (r25.1, r25.2)) else none)) else none)) else (if (hk_sm.getD (x1).toNatClampNeg 0) = 5 then ((E.2.2.2 a0 1).bind (fun r28 => if E.2.1 r28 = 4 then ((mX8_readNumber E F S a0 0 ((S r28 2) - 1)).bind (fun r29 => if r29.1 = 0 ∨ r29.1 = 1 then (some (r29.1, r29.2)) else none)) else none)) else (if (hk_sm.getD (x1).toNatClampNeg 0) = 6 then ((E.2.2.2 a0 1).bind (fun r32 => if E.2.1 r32 = 4 then ((mX8_readNumber E F S a0 0 ((S r32 2) - 1)).bind (fun r33 => if r33.1 = 0 ∨ r33.1 = 1 then (some (r33.1, r33.2)) else none)) else none)) else (if (hk_sm.getD (x1).toNatClampNeg 0) = 7 then ((E.2.2.2 a0 1).bind (fun r36 => if E.2.1 r36 = 4 then ((mX8_readNumber E F S a0 0 ((S r36 2) - 1)).bind (fun r37 => if r37.1 = 0 ∨ r37.1 = 1 then (some (r37.1, r37.2)) else none)) else none)) else (if (hk_sm.getD (x1).toNatClampNeg 0) = 8 then ((mX8_readNumber E F S a0 0 5).bind (fun r40 => if r40.1 = 0 ∨ r40.1 = 1 then (some (r40.1, r40.2)) else none)) else (if (hk_sm.getD (x1).toNatClampNeg 0) = 9 then ((mX8_readNumber E F S a0 20 95).bind (fun r43 => if r43.1 = 0 ∨ r43.1 = 1 then (some (r43.1, r43.2)) else none)) else (if (hk_sm.getD (x1).toNatClampNeg 0) = 10 then ((E.2.2.2 a0 1).bind (fun r46 => if E.2.1 r46 = 4 then ((E.2.2.2 r46 0).bind (fun r47 => if E.2.1 r47 = 1 then ((mX1_presentDay E F S r47).bind (fun r48 => (mX8_readNumber E F r48.2 a0 r48.1 83).bind (fun r49 => if r49.1 = 0 ∨ r49.1 = 1 then (some (r49.1, r49.2)) else none))) else none)) else none)) else (if (hk_sm.getD (x1).toNatClampNeg 0) = 11 then ((mX8_readNumber E F S a0 500 700).bind (fun r52 => if r52.1 = 0 then (some (0, r52.2)) else ((mX8_readNumber E F r52.2 a0 5 50).bind (fun r54 => if r54.1 = 0 then (some (0, r54.2)) else (some (1, r54.2)))))) else (if (hk_sm.getD (x1).toNatClampNeg 0) = 12 then ((E.2.2.2 a0 1).bind (fun r57 => if E.2.1 r57 = 4 then ((mX8_readNumber E F S a0 0 ((S r57 2) - 1)).bind (fun r58 => if r58.1 = 0 then (some (0, r58.2)) else ((mX8_readChoice E F r58.2 a0 1 0 2 1).bind (fun r60 => if r60.1 = 0 then (some (0, r60.2)) else ((mX8_readChoice E F r60.2 a0 3 1 4 (-1)).bind (fun r62 => if r62.1 = 0 then (some (0, r62.2)) else ((mX8_readNumber E F r62.2 a0 0 50).bind (fun r64 => if r64.1 = 0 then (some (0, r64.2)) else (some (1, r64.2)))))))))) else none)) else (if (hk_sm.getD (x1).toNatClampNeg 0) = 13 then ((E.2.2.2 a0 1).bind (fun r67 => if E.2.1 r67 = 4 then ((mX8_readNumber E F S a0 0 ((S r67 4) - 1)).bind (fun r68 => if r68.1 = 0 ∨ r68.1 = 1 then (some (r68.1, r68.2)) else none)) else none)) else (if (hk_sm.getD (x1).toNatClampNeg 0) = 14 then ((mX8_readNumber E F S a0 1 200).bind (fun r71 => if r71.1 = 0 ∨ r71.1 = 1 then (some (r71.1, r71.2)) else none)) else ((mX8_fail E F S a0 1).bind (fun r73 => if r73.1 = 0 ∨ r73.1 = 1 then (some (r73.1, r73.2)) else none)))))))))))))))) else none) else none
set_option maxHeartbeats 4000000 in
set_option maxRecDepth 100000 in
theorem kX8_readOperands (l : Launch) (g : hk_G) (E : hk_E) (F n : Nat) (S : hk_S) (a0 : Nat) (x1 : Int32) (o : Int32 × hk_S) (h0 : E.2.1 a0 = 7) (hsp : mX8_readOperands E F S a0 x1 = some o) : Met l yX8_readOperands (hk_ws yX8_readOperands cX8_readOperands 2 (Option.some Jvm.ClassFile.FieldType.boolean)) ({ frames := 6, cells := 0, slots := 0, locals := 131 }) (hk_Pc g E S n [.ref (g.1 + a0), hk_en (g.2.2.2 3) x1]) (hk_Q g E o.2 n (some (.int o.1))) 0 0 (hk_A g) := by
  refine Met.ofW (cc := cX8_readOperands) (maxL := 2) (ret := (Option.some Jvm.ClassFile.FieldType.boolean)) (by decide) rfl ?_
  intro p e s m args below meth c s₁ B hml hv
  obtain ⟨rfl, G⟩ := hk_begin hv
  have F9 : CallFix p m c cX8_readOperands 2 s [.ref (g.1 + a0), hk_en (g.2.2.2 3) x1].toArray hk_W RX8 := ⟨B.exec, B.bytes, hml, findClass_of_methodNamed B.named, fun w h => atoms_spec (ws := hk_ws yX8_readOperands cX8_readOperands 2 (Option.some Jvm.ClassFile.FieldType.boolean)) B.pre w (hk_in h)⟩
  have hx := B.exec
  have hb := B.bytes
  have hr := B.returns
  have hlocks := B.notSynchronized
  have hl := hk_entryE (a := g.1 + a0) (ad := g.2.2.2 3) (x := x1) (n := 2) (by decide)
  rw [lg_entry_eq]
  generalize (lg_sl ([.ref (g.1 + a0), hk_en (g.2.2.2 3) x1]) ++ List.replicate (2 - (lg_sl ([.ref (g.1 + a0), hk_en (g.2.2.2 3) x1])).length) Slot.unset).toArray = ls at hl ⊢
  have hl : lv_has ls 2 [(0, .ref (g.1 + a0)), (1, hk_en (g.2.2.2 3) x1)] := hl
  unfold mX8_readOperands at hsp
  have G : hk_GG g E S n s s.heap [] := G
  refine hk_getSM F9 G qw_581 dX8_readOperands_0 ?_
  refine hk_aloadE_n hx hb dX8_readOperands_3 rfl (lv_at hl 1 rfl) ?_
  obtain ⟨q1, hsp⟩ := hk_k hsp
  refine hk_ordinal F9 G q1 ⟨(Nat.le_of_ble_eq_true rfl), (Nat.le_of_ble_eq_true rfl)⟩ hl.1 (Nat.le_of_ble_eq_true rfl) ⟨Nat.zero_le _, Nat.zero_le _⟩ dX8_readOperands_4 (fun H locs G => ?_)
  obtain ⟨q2, hsp⟩ := hk_k hsp
  refine hk_ldSM F9 G q2 dX8_readOperands_7 ?_
  rcases Classical.em ((hk_sm.getD (x1).toNatClampNeg 0) = 1) with w3 | w3
  · have hsp := hk_t w3 hsp
    refine lv_tableIn (off := 72) (tgt := 80) hx hb dX8_readOperands_8 (by rw [w3]; decide) (by rw [w3]; decide) (by rw [w3]; rfl) (by decide) ?_
    refine lv_aload_n hx hb dX8_readOperands_80 rfl (lv_at hl 0 rfl) ?_
    refine lv_bipush (v := 10) hx hb dX8_readOperands_81 (by decide) ?_
    refine lv_sipush (v := 500) hx hb dX8_readOperands_83 (by decide) ?_
    obtain ⟨r4, er4, hsp⟩ := hk_b hsp
    refine hk_callVi (As := [.int 10, .int 500]) (rest := []) F9 G h0 hkc_6 rfl (kX8_readNumber l g E F n S a0 10 500 r4 h0 er4) qv_RX8_127 ⟨rfl, rfl, (Nat.le_of_ble_eq_true rfl), (Nat.le_of_ble_eq_true rfl)⟩ rfl hl.1 rfl (Nat.le_of_ble_eq_true rfl) ⟨Nat.zero_le _, Nat.zero_le _⟩ dX8_readOperands_86 (fun H locs G => ?_)
    obtain ⟨q5, hsp⟩ := hk_k hsp
    obtain rfl := hk_s hsp
    exact W.zret (v := r4.1) hx hb hr (hk_z q5).1 (fun t ht hW => hk_end G ht hW) G.2.1.2.2 dX8_readOperands_89
  have hsp := hk_f w3 hsp
  rcases Classical.em ((hk_sm.getD (x1).toNatClampNeg 0) = 2) with w6 | w6
  · have hsp := hk_t w6 hsp
    refine lv_tableIn (off := 82) (tgt := 90) hx hb dX8_readOperands_8 (by rw [w6]; decide) (by rw [w6]; decide) (by rw [w6]; rfl) (by decide) ?_
    refine lv_aload_n hx hb dX8_readOperands_90 rfl (lv_at hl 0 rfl) ?_
    refine lv_iconst (v := 0) hx hb dX8_readOperands_91 (by decide) ?_
    refine lv_aload_n hx hb dX8_readOperands_92 rfl (lv_at hl 0 rfl) ?_
    obtain ⟨r7, er7, hsp⟩ := hk_b hsp
    obtain ⟨kr7, hsp⟩ := hk_k hsp
    refine hk_getR F9 G h0 hkc_6 (k := 1) (by decide) qw_270 rfl er7 dX8_readOperands_93 ?_
    refine hk_getI F9 G kr7 hkc_3 (k := 2) (by decide) qw_178 rfl dX8_readOperands_96 ?_
    refine lv_iconst (v := 1) hx hb dX8_readOperands_99 (by decide) ?_
    refine lv_isub hx hb dX8_readOperands_100 ?_
    obtain ⟨r8, er8, hsp⟩ := hk_b hsp
    refine hk_callVi (As := [.int 0, .int ((S r7 2) - 1)]) (rest := []) F9 G h0 hkc_6 rfl (kX8_readNumber l g E F n S a0 0 ((S r7 2) - 1) r8 h0 er8) qv_RX8_127 ⟨rfl, rfl, (Nat.le_of_ble_eq_true rfl), (Nat.le_of_ble_eq_true rfl)⟩ rfl hl.1 rfl (Nat.le_of_ble_eq_true rfl) ⟨Nat.zero_le _, Nat.zero_le _⟩ dX8_readOperands_101 (fun H locs G => ?_)
    refine lv_if_eq (tgt := 147) hx hb dX8_readOperands_104 (by decide) (fun c9 => ?_) (fun c9 => ?_)
    · have hsp := hk_t c9 hsp
      refine lv_iconst (v := 0) hx hb dX8_readOperands_147 (by decide) ?_
      obtain rfl := hk_s hsp
      exact W.zret (v := 0) hx hb hr (hk_z (by decide)).1 (fun t ht hW => hk_end G ht hW) G.2.1.2.2 dX8_readOperands_148
    · have hsp := hk_f c9 hsp
      refine lv_aload_n hx hb dX8_readOperands_107 rfl (lv_at hl 0 rfl) ?_
      refine lv_iconst (v := 1) hx hb dX8_readOperands_108 (by decide) ?_
      refine lv_aload_n hx hb dX8_readOperands_109 rfl (lv_at hl 0 rfl) ?_
      refine hk_getR F9 G h0 hkc_6 (k := 1) (by decide) qw_270 rfl er7 dX8_readOperands_110 ?_
      refine lv_aload_n hx hb dX8_readOperands_113 rfl (lv_at hl 0 rfl) ?_
      refine lv_iconst (v := 0) hx hb dX8_readOperands_114 (by decide) ?_
      obtain ⟨r10, er10, hsp⟩ := hk_b hsp
      refine hk_callVi (As := [.int 0]) (rest := [.ref (g.1 + r7), .int 1, .ref (g.1 + a0)]) F9 G h0 hkc_6 rfl (kX8_operand l g E F n r8.2 a0 0 r10 h0 er10) qv_RX8_134 ⟨rfl, rfl, (Nat.le_of_ble_eq_true rfl), (Nat.le_of_ble_eq_true rfl)⟩ rfl hl.1 rfl (Nat.le_of_ble_eq_true rfl) ⟨Nat.zero_le _, Nat.zero_le _⟩ dX8_readOperands_115 (fun H locs G => ?_)
      obtain ⟨r11, er11, hsp⟩ := hk_b hsp
      refine hk_callVr (As := [.int r10.1]) (rest := [.int 1, .ref (g.1 + a0)]) F9 G kr7 hkc_3 rfl (kX5_troughAt l g E F n r10.2 r7 r10.1 r11 kr7 er11) qv_RX8_150 ⟨rfl, rfl, (Nat.le_of_ble_eq_true rfl), (Nat.le_of_ble_eq_true rfl)⟩ rfl hl.1 rfl (Nat.le_of_ble_eq_true rfl) ⟨Nat.zero_le _, Nat.zero_le _⟩ dX8_readOperands_118 (fun H locs G => ?_)
      obtain ⟨q12, hsp⟩ := hk_k hsp
      refine hk_getI F9 G q12 hkc_7 (k := 0) (by decide) qw_83 rfl dX8_readOperands_121 ?_
      obtain ⟨r13, er13, hsp⟩ := hk_b hsp
      refine hk_callVi (As := [.int 1, .int (r11.2 r11.1 0)]) (rest := []) F9 G h0 hkc_6 rfl (kX8_readNumber l g E F n r11.2 a0 1 (r11.2 r11.1 0) r13 h0 er13) qv_RX8_127 ⟨rfl, rfl, (Nat.le_of_ble_eq_true rfl), (Nat.le_of_ble_eq_true rfl)⟩ rfl hl.1 rfl (Nat.le_of_ble_eq_true rfl) ⟨Nat.zero_le _, Nat.zero_le _⟩ dX8_readOperands_124 (fun H locs G => ?_)
      refine lv_if_eq (tgt := 147) hx hb dX8_readOperands_127 (by decide) (fun c14 => ?_) (fun c14 => ?_)
      · have hsp := hk_t c14 hsp
        refine lv_iconst (v := 0) hx hb dX8_readOperands_147 (by decide) ?_
        obtain rfl := hk_s hsp
        exact W.zret (v := 0) hx hb hr (hk_z (by decide)).1 (fun t ht hW => hk_end G ht hW) G.2.1.2.2 dX8_readOperands_148
      · have hsp := hk_f c14 hsp
        refine lv_aload_n hx hb dX8_readOperands_130 rfl (lv_at hl 0 rfl) ?_
        refine lv_sipush (v := 600) hx hb dX8_readOperands_131 (by decide) ?_
        refine lv_sipush (v := 900) hx hb dX8_readOperands_134 (by decide) ?_
        obtain ⟨r15, er15, hsp⟩ := hk_b hsp
        refine hk_callVi (As := [.int 600, .int 900]) (rest := []) F9 G h0 hkc_6 rfl (kX8_readNumber l g E F n r13.2 a0 600 900 r15 h0 er15) qv_RX8_127 ⟨rfl, rfl, (Nat.le_of_ble_eq_true rfl), (Nat.le_of_ble_eq_true rfl)⟩ rfl hl.1 rfl (Nat.le_of_ble_eq_true rfl) ⟨Nat.zero_le _, Nat.zero_le _⟩ dX8_readOperands_137 (fun H locs G => ?_)
        refine lv_if_eq (tgt := 147) hx hb dX8_readOperands_140 (by decide) (fun c16 => ?_) (fun c16 => ?_)
        · have hsp := hk_t c16 hsp
          refine lv_iconst (v := 0) hx hb dX8_readOperands_147 (by decide) ?_
          obtain rfl := hk_s hsp
          exact W.zret (v := 0) hx hb hr (hk_z (by decide)).1 (fun t ht hW => hk_end G ht hW) G.2.1.2.2 dX8_readOperands_148
        · have hsp := hk_f c16 hsp
          refine lv_iconst (v := 1) hx hb dX8_readOperands_143 (by decide) ?_
          refine lv_goto (tgt := 148) hx hb dX8_readOperands_144 (by decide) ?_
          obtain rfl := hk_s hsp
          exact W.zret (v := 1) hx hb hr (hk_z (by decide)).1 (fun t ht hW => hk_end G ht hW) G.2.1.2.2 dX8_readOperands_148
  have hsp := hk_f w6 hsp
  rcases Classical.em ((hk_sm.getD (x1).toNatClampNeg 0) = 3) with w17 | w17
  · have hsp := hk_t w17 hsp
    refine lv_tableIn (off := 141) (tgt := 149) hx hb dX8_readOperands_8 (by rw [w17]; decide) (by rw [w17]; decide) (by rw [w17]; rfl) (by decide) ?_
    refine lv_aload_n hx hb dX8_readOperands_149 rfl (lv_at hl 0 rfl) ?_
    refine lv_iconst (v := 0) hx hb dX8_readOperands_150 (by decide) ?_
    refine lv_aload_n hx hb dX8_readOperands_151 rfl (lv_at hl 0 rfl) ?_
    obtain ⟨r18, er18, hsp⟩ := hk_b hsp
    obtain ⟨kr18, hsp⟩ := hk_k hsp
    refine hk_getR F9 G h0 hkc_6 (k := 1) (by decide) qw_270 rfl er18 dX8_readOperands_152 ?_
    refine hk_getI F9 G kr18 hkc_3 (k := 2) (by decide) qw_178 rfl dX8_readOperands_155 ?_
    refine lv_iconst (v := 1) hx hb dX8_readOperands_158 (by decide) ?_
    refine lv_isub hx hb dX8_readOperands_159 ?_
    obtain ⟨r19, er19, hsp⟩ := hk_b hsp
    refine hk_callVi (As := [.int 0, .int ((S r18 2) - 1)]) (rest := []) F9 G h0 hkc_6 rfl (kX8_readNumber l g E F n S a0 0 ((S r18 2) - 1) r19 h0 er19) qv_RX8_127 ⟨rfl, rfl, (Nat.le_of_ble_eq_true rfl), (Nat.le_of_ble_eq_true rfl)⟩ rfl hl.1 rfl (Nat.le_of_ble_eq_true rfl) ⟨Nat.zero_le _, Nat.zero_le _⟩ dX8_readOperands_160 (fun H locs G => ?_)
    refine lv_if_eq (tgt := 179) hx hb dX8_readOperands_163 (by decide) (fun c20 => ?_) (fun c20 => ?_)
    · have hsp := hk_t c20 hsp
      refine lv_iconst (v := 0) hx hb dX8_readOperands_179 (by decide) ?_
      obtain rfl := hk_s hsp
      exact W.zret (v := 0) hx hb hr (hk_z (by decide)).1 (fun t ht hW => hk_end G ht hW) G.2.1.2.2 dX8_readOperands_180
    · have hsp := hk_f c20 hsp
      refine lv_aload_n hx hb dX8_readOperands_166 rfl (lv_at hl 0 rfl) ?_
      refine lv_iconst (v := 0) hx hb dX8_readOperands_167 (by decide) ?_
      refine lv_iconst (v := 5) hx hb dX8_readOperands_168 (by decide) ?_
      obtain ⟨r21, er21, hsp⟩ := hk_b hsp
      refine hk_callVi (As := [.int 0, .int 5]) (rest := []) F9 G h0 hkc_6 rfl (kX8_readNumber l g E F n r19.2 a0 0 5 r21 h0 er21) qv_RX8_127 ⟨rfl, rfl, (Nat.le_of_ble_eq_true rfl), (Nat.le_of_ble_eq_true rfl)⟩ rfl hl.1 rfl (Nat.le_of_ble_eq_true rfl) ⟨Nat.zero_le _, Nat.zero_le _⟩ dX8_readOperands_169 (fun H locs G => ?_)
      refine lv_if_eq (tgt := 179) hx hb dX8_readOperands_172 (by decide) (fun c22 => ?_) (fun c22 => ?_)
      · have hsp := hk_t c22 hsp
        refine lv_iconst (v := 0) hx hb dX8_readOperands_179 (by decide) ?_
        obtain rfl := hk_s hsp
        exact W.zret (v := 0) hx hb hr (hk_z (by decide)).1 (fun t ht hW => hk_end G ht hW) G.2.1.2.2 dX8_readOperands_180
      · have hsp := hk_f c22 hsp
        refine lv_iconst (v := 1) hx hb dX8_readOperands_175 (by decide) ?_
        refine lv_goto (tgt := 180) hx hb dX8_readOperands_176 (by decide) ?_
        obtain rfl := hk_s hsp
        exact W.zret (v := 1) hx hb hr (hk_z (by decide)).1 (fun t ht hW => hk_end G ht hW) G.2.1.2.2 dX8_readOperands_180
  have hsp := hk_f w17 hsp
  rcases Classical.em ((hk_sm.getD (x1).toNatClampNeg 0) = 4) with w23 | w23
  · have hsp := hk_t w23 hsp
    refine lv_tableIn (off := 173) (tgt := 181) hx hb dX8_readOperands_8 (by rw [w23]; decide) (by rw [w23]; decide) (by rw [w23]; rfl) (by decide) ?_
    refine lv_aload_n hx hb dX8_readOperands_181 rfl (lv_at hl 0 rfl) ?_
    refine lv_iconst (v := 0) hx hb dX8_readOperands_182 (by decide) ?_
    refine lv_aload_n hx hb dX8_readOperands_183 rfl (lv_at hl 0 rfl) ?_
    obtain ⟨r24, er24, hsp⟩ := hk_b hsp
    obtain ⟨kr24, hsp⟩ := hk_k hsp
    refine hk_getR F9 G h0 hkc_6 (k := 1) (by decide) qw_270 rfl er24 dX8_readOperands_184 ?_
    refine hk_getI F9 G kr24 hkc_3 (k := 2) (by decide) qw_178 rfl dX8_readOperands_187 ?_
    refine lv_iconst (v := 1) hx hb dX8_readOperands_190 (by decide) ?_
    refine lv_isub hx hb dX8_readOperands_191 ?_
    obtain ⟨r25, er25, hsp⟩ := hk_b hsp
    refine hk_callVi (As := [.int 0, .int ((S r24 2) - 1)]) (rest := []) F9 G h0 hkc_6 rfl (kX8_readNumber l g E F n S a0 0 ((S r24 2) - 1) r25 h0 er25) qv_RX8_127 ⟨rfl, rfl, (Nat.le_of_ble_eq_true rfl), (Nat.le_of_ble_eq_true rfl)⟩ rfl hl.1 rfl (Nat.le_of_ble_eq_true rfl) ⟨Nat.zero_le _, Nat.zero_le _⟩ dX8_readOperands_192 (fun H locs G => ?_)
    obtain ⟨q26, hsp⟩ := hk_k hsp
    obtain rfl := hk_s hsp
    exact W.zret (v := r25.1) hx hb hr (hk_z q26).1 (fun t ht hW => hk_end G ht hW) G.2.1.2.2 dX8_readOperands_195
  have hsp := hk_f w23 hsp
  rcases Classical.em ((hk_sm.getD (x1).toNatClampNeg 0) = 5) with w27 | w27
  · have hsp := hk_t w27 hsp
    refine lv_tableIn (off := 173) (tgt := 181) hx hb dX8_readOperands_8 (by rw [w27]; decide) (by rw [w27]; decide) (by rw [w27]; rfl) (by decide) ?_
    refine lv_aload_n hx hb dX8_readOperands_181 rfl (lv_at hl 0 rfl) ?_
    refine lv_iconst (v := 0) hx hb dX8_readOperands_182 (by decide) ?_
    refine lv_aload_n hx hb dX8_readOperands_183 rfl (lv_at hl 0 rfl) ?_
    obtain ⟨r28, er28, hsp⟩ := hk_b hsp
    obtain ⟨kr28, hsp⟩ := hk_k hsp
    refine hk_getR F9 G h0 hkc_6 (k := 1) (by decide) qw_270 rfl er28 dX8_readOperands_184 ?_
    refine hk_getI F9 G kr28 hkc_3 (k := 2) (by decide) qw_178 rfl dX8_readOperands_187 ?_
    refine lv_iconst (v := 1) hx hb dX8_readOperands_190 (by decide) ?_
    refine lv_isub hx hb dX8_readOperands_191 ?_
    obtain ⟨r29, er29, hsp⟩ := hk_b hsp
    refine hk_callVi (As := [.int 0, .int ((S r28 2) - 1)]) (rest := []) F9 G h0 hkc_6 rfl (kX8_readNumber l g E F n S a0 0 ((S r28 2) - 1) r29 h0 er29) qv_RX8_127 ⟨rfl, rfl, (Nat.le_of_ble_eq_true rfl), (Nat.le_of_ble_eq_true rfl)⟩ rfl hl.1 rfl (Nat.le_of_ble_eq_true rfl) ⟨Nat.zero_le _, Nat.zero_le _⟩ dX8_readOperands_192 (fun H locs G => ?_)
    obtain ⟨q30, hsp⟩ := hk_k hsp
    obtain rfl := hk_s hsp
    exact W.zret (v := r29.1) hx hb hr (hk_z q30).1 (fun t ht hW => hk_end G ht hW) G.2.1.2.2 dX8_readOperands_195
  have hsp := hk_f w27 hsp
  rcases Classical.em ((hk_sm.getD (x1).toNatClampNeg 0) = 6) with w31 | w31
  · have hsp := hk_t w31 hsp
    refine lv_tableIn (off := 173) (tgt := 181) hx hb dX8_readOperands_8 (by rw [w31]; decide) (by rw [w31]; decide) (by rw [w31]; rfl) (by decide) ?_
    refine lv_aload_n hx hb dX8_readOperands_181 rfl (lv_at hl 0 rfl) ?_
    refine lv_iconst (v := 0) hx hb dX8_readOperands_182 (by decide) ?_
    refine lv_aload_n hx hb dX8_readOperands_183 rfl (lv_at hl 0 rfl) ?_
    obtain ⟨r32, er32, hsp⟩ := hk_b hsp
    obtain ⟨kr32, hsp⟩ := hk_k hsp
    refine hk_getR F9 G h0 hkc_6 (k := 1) (by decide) qw_270 rfl er32 dX8_readOperands_184 ?_
    refine hk_getI F9 G kr32 hkc_3 (k := 2) (by decide) qw_178 rfl dX8_readOperands_187 ?_
    refine lv_iconst (v := 1) hx hb dX8_readOperands_190 (by decide) ?_
    refine lv_isub hx hb dX8_readOperands_191 ?_
    obtain ⟨r33, er33, hsp⟩ := hk_b hsp
    refine hk_callVi (As := [.int 0, .int ((S r32 2) - 1)]) (rest := []) F9 G h0 hkc_6 rfl (kX8_readNumber l g E F n S a0 0 ((S r32 2) - 1) r33 h0 er33) qv_RX8_127 ⟨rfl, rfl, (Nat.le_of_ble_eq_true rfl), (Nat.le_of_ble_eq_true rfl)⟩ rfl hl.1 rfl (Nat.le_of_ble_eq_true rfl) ⟨Nat.zero_le _, Nat.zero_le _⟩ dX8_readOperands_192 (fun H locs G => ?_)
    obtain ⟨q34, hsp⟩ := hk_k hsp
    obtain rfl := hk_s hsp
    exact W.zret (v := r33.1) hx hb hr (hk_z q34).1 (fun t ht hW => hk_end G ht hW) G.2.1.2.2 dX8_readOperands_195
  have hsp := hk_f w31 hsp
  rcases Classical.em ((hk_sm.getD (x1).toNatClampNeg 0) = 7) with w35 | w35
  · have hsp := hk_t w35 hsp
    refine lv_tableIn (off := 173) (tgt := 181) hx hb dX8_readOperands_8 (by rw [w35]; decide) (by rw [w35]; decide) (by rw [w35]; rfl) (by decide) ?_
    refine lv_aload_n hx hb dX8_readOperands_181 rfl (lv_at hl 0 rfl) ?_
    refine lv_iconst (v := 0) hx hb dX8_readOperands_182 (by decide) ?_
    refine lv_aload_n hx hb dX8_readOperands_183 rfl (lv_at hl 0 rfl) ?_
    obtain ⟨r36, er36, hsp⟩ := hk_b hsp
    obtain ⟨kr36, hsp⟩ := hk_k hsp
    refine hk_getR F9 G h0 hkc_6 (k := 1) (by decide) qw_270 rfl er36 dX8_readOperands_184 ?_
    refine hk_getI F9 G kr36 hkc_3 (k := 2) (by decide) qw_178 rfl dX8_readOperands_187 ?_
    refine lv_iconst (v := 1) hx hb dX8_readOperands_190 (by decide) ?_
    refine lv_isub hx hb dX8_readOperands_191 ?_
    obtain ⟨r37, er37, hsp⟩ := hk_b hsp
    refine hk_callVi (As := [.int 0, .int ((S r36 2) - 1)]) (rest := []) F9 G h0 hkc_6 rfl (kX8_readNumber l g E F n S a0 0 ((S r36 2) - 1) r37 h0 er37) qv_RX8_127 ⟨rfl, rfl, (Nat.le_of_ble_eq_true rfl), (Nat.le_of_ble_eq_true rfl)⟩ rfl hl.1 rfl (Nat.le_of_ble_eq_true rfl) ⟨Nat.zero_le _, Nat.zero_le _⟩ dX8_readOperands_192 (fun H locs G => ?_)
    obtain ⟨q38, hsp⟩ := hk_k hsp
    obtain rfl := hk_s hsp
    exact W.zret (v := r37.1) hx hb hr (hk_z q38).1 (fun t ht hW => hk_end G ht hW) G.2.1.2.2 dX8_readOperands_195
  have hsp := hk_f w35 hsp
  rcases Classical.em ((hk_sm.getD (x1).toNatClampNeg 0) = 8) with w39 | w39
  · have hsp := hk_t w39 hsp
    refine lv_tableIn (off := 188) (tgt := 196) hx hb dX8_readOperands_8 (by rw [w39]; decide) (by rw [w39]; decide) (by rw [w39]; rfl) (by decide) ?_
    refine lv_aload_n hx hb dX8_readOperands_196 rfl (lv_at hl 0 rfl) ?_
    refine lv_iconst (v := 0) hx hb dX8_readOperands_197 (by decide) ?_
    refine lv_iconst (v := 5) hx hb dX8_readOperands_198 (by decide) ?_
    obtain ⟨r40, er40, hsp⟩ := hk_b hsp
    refine hk_callVi (As := [.int 0, .int 5]) (rest := []) F9 G h0 hkc_6 rfl (kX8_readNumber l g E F n S a0 0 5 r40 h0 er40) qv_RX8_127 ⟨rfl, rfl, (Nat.le_of_ble_eq_true rfl), (Nat.le_of_ble_eq_true rfl)⟩ rfl hl.1 rfl (Nat.le_of_ble_eq_true rfl) ⟨Nat.zero_le _, Nat.zero_le _⟩ dX8_readOperands_199 (fun H locs G => ?_)
    obtain ⟨q41, hsp⟩ := hk_k hsp
    obtain rfl := hk_s hsp
    exact W.zret (v := r40.1) hx hb hr (hk_z q41).1 (fun t ht hW => hk_end G ht hW) G.2.1.2.2 dX8_readOperands_202
  have hsp := hk_f w39 hsp
  rcases Classical.em ((hk_sm.getD (x1).toNatClampNeg 0) = 9) with w42 | w42
  · have hsp := hk_t w42 hsp
    refine lv_tableIn (off := 195) (tgt := 203) hx hb dX8_readOperands_8 (by rw [w42]; decide) (by rw [w42]; decide) (by rw [w42]; rfl) (by decide) ?_
    refine lv_aload_n hx hb dX8_readOperands_203 rfl (lv_at hl 0 rfl) ?_
    refine lv_bipush (v := 20) hx hb dX8_readOperands_204 (by decide) ?_
    refine lv_bipush (v := 95) hx hb dX8_readOperands_206 (by decide) ?_
    obtain ⟨r43, er43, hsp⟩ := hk_b hsp
    refine hk_callVi (As := [.int 20, .int 95]) (rest := []) F9 G h0 hkc_6 rfl (kX8_readNumber l g E F n S a0 20 95 r43 h0 er43) qv_RX8_127 ⟨rfl, rfl, (Nat.le_of_ble_eq_true rfl), (Nat.le_of_ble_eq_true rfl)⟩ rfl hl.1 rfl (Nat.le_of_ble_eq_true rfl) ⟨Nat.zero_le _, Nat.zero_le _⟩ dX8_readOperands_208 (fun H locs G => ?_)
    obtain ⟨q44, hsp⟩ := hk_k hsp
    obtain rfl := hk_s hsp
    exact W.zret (v := r43.1) hx hb hr (hk_z q44).1 (fun t ht hW => hk_end G ht hW) G.2.1.2.2 dX8_readOperands_211
  have hsp := hk_f w42 hsp
  rcases Classical.em ((hk_sm.getD (x1).toNatClampNeg 0) = 10) with w45 | w45
  · have hsp := hk_t w45 hsp
    refine lv_tableIn (off := 204) (tgt := 212) hx hb dX8_readOperands_8 (by rw [w45]; decide) (by rw [w45]; decide) (by rw [w45]; rfl) (by decide) ?_
    refine lv_aload_n hx hb dX8_readOperands_212 rfl (lv_at hl 0 rfl) ?_
    refine lv_aload_n hx hb dX8_readOperands_213 rfl (lv_at hl 0 rfl) ?_
    obtain ⟨r46, er46, hsp⟩ := hk_b hsp
    obtain ⟨kr46, hsp⟩ := hk_k hsp
    refine hk_getR F9 G h0 hkc_6 (k := 1) (by decide) qw_270 rfl er46 dX8_readOperands_214 ?_
    obtain ⟨r47, er47, hsp⟩ := hk_b hsp
    obtain ⟨kr47, hsp⟩ := hk_k hsp
    refine hk_getR F9 G kr46 hkc_3 (k := 0) (by decide) qw_173 rfl er47 dX8_readOperands_217 ?_
    obtain ⟨r48, er48, hsp⟩ := hk_b hsp
    refine hk_callVi (As := []) (rest := [.ref (g.1 + a0)]) F9 G kr47 hkc_0 rfl (kX1_presentDay l g E F n S r47 r48 kr47 er48) qv_RX8_163 ⟨rfl, rfl, (Nat.le_of_ble_eq_true rfl), (Nat.le_of_ble_eq_true rfl)⟩ rfl hl.1 rfl (Nat.le_of_ble_eq_true rfl) ⟨Nat.zero_le _, Nat.zero_le _⟩ dX8_readOperands_220 (fun H locs G => ?_)
    refine lv_bipush (v := 83) hx hb dX8_readOperands_223 (by decide) ?_
    obtain ⟨r49, er49, hsp⟩ := hk_b hsp
    refine hk_callVi (As := [.int r48.1, .int 83]) (rest := []) F9 G h0 hkc_6 rfl (kX8_readNumber l g E F n r48.2 a0 r48.1 83 r49 h0 er49) qv_RX8_127 ⟨rfl, rfl, (Nat.le_of_ble_eq_true rfl), (Nat.le_of_ble_eq_true rfl)⟩ rfl hl.1 rfl (Nat.le_of_ble_eq_true rfl) ⟨Nat.zero_le _, Nat.zero_le _⟩ dX8_readOperands_225 (fun H locs G => ?_)
    obtain ⟨q50, hsp⟩ := hk_k hsp
    obtain rfl := hk_s hsp
    exact W.zret (v := r49.1) hx hb hr (hk_z q50).1 (fun t ht hW => hk_end G ht hW) G.2.1.2.2 dX8_readOperands_228
  have hsp := hk_f w45 hsp
  rcases Classical.em ((hk_sm.getD (x1).toNatClampNeg 0) = 11) with w51 | w51
  · have hsp := hk_t w51 hsp
    refine lv_tableIn (off := 221) (tgt := 229) hx hb dX8_readOperands_8 (by rw [w51]; decide) (by rw [w51]; decide) (by rw [w51]; rfl) (by decide) ?_
    refine lv_aload_n hx hb dX8_readOperands_229 rfl (lv_at hl 0 rfl) ?_
    refine lv_sipush (v := 500) hx hb dX8_readOperands_230 (by decide) ?_
    refine lv_sipush (v := 700) hx hb dX8_readOperands_233 (by decide) ?_
    obtain ⟨r52, er52, hsp⟩ := hk_b hsp
    refine hk_callVi (As := [.int 500, .int 700]) (rest := []) F9 G h0 hkc_6 rfl (kX8_readNumber l g E F n S a0 500 700 r52 h0 er52) qv_RX8_127 ⟨rfl, rfl, (Nat.le_of_ble_eq_true rfl), (Nat.le_of_ble_eq_true rfl)⟩ rfl hl.1 rfl (Nat.le_of_ble_eq_true rfl) ⟨Nat.zero_le _, Nat.zero_le _⟩ dX8_readOperands_236 (fun H locs G => ?_)
    refine lv_if_eq (tgt := 256) hx hb dX8_readOperands_239 (by decide) (fun c53 => ?_) (fun c53 => ?_)
    · have hsp := hk_t c53 hsp
      refine lv_iconst (v := 0) hx hb dX8_readOperands_256 (by decide) ?_
      obtain rfl := hk_s hsp
      exact W.zret (v := 0) hx hb hr (hk_z (by decide)).1 (fun t ht hW => hk_end G ht hW) G.2.1.2.2 dX8_readOperands_257
    · have hsp := hk_f c53 hsp
      refine lv_aload_n hx hb dX8_readOperands_242 rfl (lv_at hl 0 rfl) ?_
      refine lv_iconst (v := 5) hx hb dX8_readOperands_243 (by decide) ?_
      refine lv_bipush (v := 50) hx hb dX8_readOperands_244 (by decide) ?_
      obtain ⟨r54, er54, hsp⟩ := hk_b hsp
      refine hk_callVi (As := [.int 5, .int 50]) (rest := []) F9 G h0 hkc_6 rfl (kX8_readNumber l g E F n r52.2 a0 5 50 r54 h0 er54) qv_RX8_127 ⟨rfl, rfl, (Nat.le_of_ble_eq_true rfl), (Nat.le_of_ble_eq_true rfl)⟩ rfl hl.1 rfl (Nat.le_of_ble_eq_true rfl) ⟨Nat.zero_le _, Nat.zero_le _⟩ dX8_readOperands_246 (fun H locs G => ?_)
      refine lv_if_eq (tgt := 256) hx hb dX8_readOperands_249 (by decide) (fun c55 => ?_) (fun c55 => ?_)
      · have hsp := hk_t c55 hsp
        refine lv_iconst (v := 0) hx hb dX8_readOperands_256 (by decide) ?_
        obtain rfl := hk_s hsp
        exact W.zret (v := 0) hx hb hr (hk_z (by decide)).1 (fun t ht hW => hk_end G ht hW) G.2.1.2.2 dX8_readOperands_257
      · have hsp := hk_f c55 hsp
        refine lv_iconst (v := 1) hx hb dX8_readOperands_252 (by decide) ?_
        refine lv_goto (tgt := 257) hx hb dX8_readOperands_253 (by decide) ?_
        obtain rfl := hk_s hsp
        exact W.zret (v := 1) hx hb hr (hk_z (by decide)).1 (fun t ht hW => hk_end G ht hW) G.2.1.2.2 dX8_readOperands_257
  have hsp := hk_f w51 hsp
  rcases Classical.em ((hk_sm.getD (x1).toNatClampNeg 0) = 12) with w56 | w56
  · have hsp := hk_t w56 hsp
    refine lv_tableIn (off := 250) (tgt := 258) hx hb dX8_readOperands_8 (by rw [w56]; decide) (by rw [w56]; decide) (by rw [w56]; rfl) (by decide) ?_
    refine lv_aload_n hx hb dX8_readOperands_258 rfl (lv_at hl 0 rfl) ?_
    refine lv_iconst (v := 0) hx hb dX8_readOperands_259 (by decide) ?_
    refine lv_aload_n hx hb dX8_readOperands_260 rfl (lv_at hl 0 rfl) ?_
    obtain ⟨r57, er57, hsp⟩ := hk_b hsp
    obtain ⟨kr57, hsp⟩ := hk_k hsp
    refine hk_getR F9 G h0 hkc_6 (k := 1) (by decide) qw_270 rfl er57 dX8_readOperands_261 ?_
    refine hk_getI F9 G kr57 hkc_3 (k := 2) (by decide) qw_178 rfl dX8_readOperands_264 ?_
    refine lv_iconst (v := 1) hx hb dX8_readOperands_267 (by decide) ?_
    refine lv_isub hx hb dX8_readOperands_268 ?_
    obtain ⟨r58, er58, hsp⟩ := hk_b hsp
    refine hk_callVi (As := [.int 0, .int ((S r57 2) - 1)]) (rest := []) F9 G h0 hkc_6 rfl (kX8_readNumber l g E F n S a0 0 ((S r57 2) - 1) r58 h0 er58) qv_RX8_127 ⟨rfl, rfl, (Nat.le_of_ble_eq_true rfl), (Nat.le_of_ble_eq_true rfl)⟩ rfl hl.1 rfl (Nat.le_of_ble_eq_true rfl) ⟨Nat.zero_le _, Nat.zero_le _⟩ dX8_readOperands_269 (fun H locs G => ?_)
    refine lv_if_eq (tgt := 315) hx hb dX8_readOperands_272 (by decide) (fun c59 => ?_) (fun c59 => ?_)
    · have hsp := hk_t c59 hsp
      refine lv_iconst (v := 0) hx hb dX8_readOperands_315 (by decide) ?_
      obtain rfl := hk_s hsp
      exact W.zret (v := 0) hx hb hr (hk_z (by decide)).1 (fun t ht hW => hk_end G ht hW) G.2.1.2.2 dX8_readOperands_316
    · have hsp := hk_f c59 hsp
      refine lv_aload_n hx hb dX8_readOperands_275 rfl (lv_at hl 0 rfl) ?_
      refine hk_ldc F9 G 1 rfl rfl rfl dX8_readOperands_276 ?_
      refine lv_iconst (v := 0) hx hb dX8_readOperands_278 (by decide) ?_
      refine hk_ldc F9 G 2 rfl rfl rfl dX8_readOperands_279 ?_
      refine lv_iconst (v := 1) hx hb dX8_readOperands_281 (by decide) ?_
      obtain ⟨r60, er60, hsp⟩ := hk_b hsp
      refine hk_callVi (As := [.ref (g.2.2.2 0 1), .int 0, .ref (g.2.2.2 0 2), .int 1]) (rest := []) F9 G h0 hkc_6 rfl (kX8_readChoice l g E F n r58.2 a0 1 0 2 1 r60 h0 (by decide) (by decide) er60) qv_RX8_172 ⟨rfl, rfl, (Nat.le_of_ble_eq_true rfl), (Nat.le_of_ble_eq_true rfl)⟩ rfl hl.1 rfl (Nat.le_of_ble_eq_true rfl) ⟨Nat.zero_le _, Nat.zero_le _⟩ dX8_readOperands_282 (fun H locs G => ?_)
      refine lv_if_eq (tgt := 315) hx hb dX8_readOperands_285 (by decide) (fun c61 => ?_) (fun c61 => ?_)
      · have hsp := hk_t c61 hsp
        refine lv_iconst (v := 0) hx hb dX8_readOperands_315 (by decide) ?_
        obtain rfl := hk_s hsp
        exact W.zret (v := 0) hx hb hr (hk_z (by decide)).1 (fun t ht hW => hk_end G ht hW) G.2.1.2.2 dX8_readOperands_316
      · have hsp := hk_f c61 hsp
        refine lv_aload_n hx hb dX8_readOperands_288 rfl (lv_at hl 0 rfl) ?_
        refine hk_ldc F9 G 3 rfl rfl rfl dX8_readOperands_289 ?_
        refine lv_iconst (v := 1) hx hb dX8_readOperands_291 (by decide) ?_
        refine hk_ldc F9 G 4 rfl rfl rfl dX8_readOperands_292 ?_
        refine lv_iconst (v := (-1)) hx hb dX8_readOperands_294 (by decide) ?_
        obtain ⟨r62, er62, hsp⟩ := hk_b hsp
        refine hk_callVi (As := [.ref (g.2.2.2 0 3), .int 1, .ref (g.2.2.2 0 4), .int (-1)]) (rest := []) F9 G h0 hkc_6 rfl (kX8_readChoice l g E F n r60.2 a0 3 1 4 (-1) r62 h0 (by decide) (by decide) er62) qv_RX8_172 ⟨rfl, rfl, (Nat.le_of_ble_eq_true rfl), (Nat.le_of_ble_eq_true rfl)⟩ rfl hl.1 rfl (Nat.le_of_ble_eq_true rfl) ⟨Nat.zero_le _, Nat.zero_le _⟩ dX8_readOperands_295 (fun H locs G => ?_)
        refine lv_if_eq (tgt := 315) hx hb dX8_readOperands_298 (by decide) (fun c63 => ?_) (fun c63 => ?_)
        · have hsp := hk_t c63 hsp
          refine lv_iconst (v := 0) hx hb dX8_readOperands_315 (by decide) ?_
          obtain rfl := hk_s hsp
          exact W.zret (v := 0) hx hb hr (hk_z (by decide)).1 (fun t ht hW => hk_end G ht hW) G.2.1.2.2 dX8_readOperands_316
        · have hsp := hk_f c63 hsp
          refine lv_aload_n hx hb dX8_readOperands_301 rfl (lv_at hl 0 rfl) ?_
          refine lv_iconst (v := 0) hx hb dX8_readOperands_302 (by decide) ?_
          refine lv_bipush (v := 50) hx hb dX8_readOperands_303 (by decide) ?_
          obtain ⟨r64, er64, hsp⟩ := hk_b hsp
          refine hk_callVi (As := [.int 0, .int 50]) (rest := []) F9 G h0 hkc_6 rfl (kX8_readNumber l g E F n r62.2 a0 0 50 r64 h0 er64) qv_RX8_127 ⟨rfl, rfl, (Nat.le_of_ble_eq_true rfl), (Nat.le_of_ble_eq_true rfl)⟩ rfl hl.1 rfl (Nat.le_of_ble_eq_true rfl) ⟨Nat.zero_le _, Nat.zero_le _⟩ dX8_readOperands_305 (fun H locs G => ?_)
          refine lv_if_eq (tgt := 315) hx hb dX8_readOperands_308 (by decide) (fun c65 => ?_) (fun c65 => ?_)
          · have hsp := hk_t c65 hsp
            refine lv_iconst (v := 0) hx hb dX8_readOperands_315 (by decide) ?_
            obtain rfl := hk_s hsp
            exact W.zret (v := 0) hx hb hr (hk_z (by decide)).1 (fun t ht hW => hk_end G ht hW) G.2.1.2.2 dX8_readOperands_316
          · have hsp := hk_f c65 hsp
            refine lv_iconst (v := 1) hx hb dX8_readOperands_311 (by decide) ?_
            refine lv_goto (tgt := 316) hx hb dX8_readOperands_312 (by decide) ?_
            obtain rfl := hk_s hsp
            exact W.zret (v := 1) hx hb hr (hk_z (by decide)).1 (fun t ht hW => hk_end G ht hW) G.2.1.2.2 dX8_readOperands_316
  have hsp := hk_f w56 hsp
  rcases Classical.em ((hk_sm.getD (x1).toNatClampNeg 0) = 13) with w66 | w66
  · have hsp := hk_t w66 hsp
    refine lv_tableIn (off := 309) (tgt := 317) hx hb dX8_readOperands_8 (by rw [w66]; decide) (by rw [w66]; decide) (by rw [w66]; rfl) (by decide) ?_
    refine lv_aload_n hx hb dX8_readOperands_317 rfl (lv_at hl 0 rfl) ?_
    refine lv_iconst (v := 0) hx hb dX8_readOperands_318 (by decide) ?_
    refine lv_aload_n hx hb dX8_readOperands_319 rfl (lv_at hl 0 rfl) ?_
    obtain ⟨r67, er67, hsp⟩ := hk_b hsp
    obtain ⟨kr67, hsp⟩ := hk_k hsp
    refine hk_getR F9 G h0 hkc_6 (k := 1) (by decide) qw_270 rfl er67 dX8_readOperands_320 ?_
    refine hk_getI F9 G kr67 hkc_3 (k := 4) (by decide) qw_181 rfl dX8_readOperands_323 ?_
    refine lv_iconst (v := 1) hx hb dX8_readOperands_326 (by decide) ?_
    refine lv_isub hx hb dX8_readOperands_327 ?_
    obtain ⟨r68, er68, hsp⟩ := hk_b hsp
    refine hk_callVi (As := [.int 0, .int ((S r67 4) - 1)]) (rest := []) F9 G h0 hkc_6 rfl (kX8_readNumber l g E F n S a0 0 ((S r67 4) - 1) r68 h0 er68) qv_RX8_127 ⟨rfl, rfl, (Nat.le_of_ble_eq_true rfl), (Nat.le_of_ble_eq_true rfl)⟩ rfl hl.1 rfl (Nat.le_of_ble_eq_true rfl) ⟨Nat.zero_le _, Nat.zero_le _⟩ dX8_readOperands_328 (fun H locs G => ?_)
    obtain ⟨q69, hsp⟩ := hk_k hsp
    obtain rfl := hk_s hsp
    exact W.zret (v := r68.1) hx hb hr (hk_z q69).1 (fun t ht hW => hk_end G ht hW) G.2.1.2.2 dX8_readOperands_331
  have hsp := hk_f w66 hsp
  rcases Classical.em ((hk_sm.getD (x1).toNatClampNeg 0) = 14) with w70 | w70
  · have hsp := hk_t w70 hsp
    refine lv_tableIn (off := 324) (tgt := 332) hx hb dX8_readOperands_8 (by rw [w70]; decide) (by rw [w70]; decide) (by rw [w70]; rfl) (by decide) ?_
    refine lv_aload_n hx hb dX8_readOperands_332 rfl (lv_at hl 0 rfl) ?_
    refine lv_iconst (v := 1) hx hb dX8_readOperands_333 (by decide) ?_
    refine lv_sipush (v := 200) hx hb dX8_readOperands_334 (by decide) ?_
    obtain ⟨r71, er71, hsp⟩ := hk_b hsp
    refine hk_callVi (As := [.int 1, .int 200]) (rest := []) F9 G h0 hkc_6 rfl (kX8_readNumber l g E F n S a0 1 200 r71 h0 er71) qv_RX8_127 ⟨rfl, rfl, (Nat.le_of_ble_eq_true rfl), (Nat.le_of_ble_eq_true rfl)⟩ rfl hl.1 rfl (Nat.le_of_ble_eq_true rfl) ⟨Nat.zero_le _, Nat.zero_le _⟩ dX8_readOperands_337 (fun H locs G => ?_)
    obtain ⟨q72, hsp⟩ := hk_k hsp
    obtain rfl := hk_s hsp
    exact W.zret (v := r71.1) hx hb hr (hk_z q72).1 (fun t ht hW => hk_end G ht hW) G.2.1.2.2 dX8_readOperands_340
  have hsp := hk_f w70 hsp
  refine lv_tableOut (tgt := 341) hx hb dX8_readOperands_8 (hk_outs (lo := 1) (n := 14) (L := [1, 2, 3, 4, 5, 6, 7, 8, 9, 10, 11, 12, 13, 14]) (List.forall_mem_cons.mpr ⟨w3, List.forall_mem_cons.mpr ⟨w6, List.forall_mem_cons.mpr ⟨w17, List.forall_mem_cons.mpr ⟨w23, List.forall_mem_cons.mpr ⟨w27, List.forall_mem_cons.mpr ⟨w31, List.forall_mem_cons.mpr ⟨w35, List.forall_mem_cons.mpr ⟨w39, List.forall_mem_cons.mpr ⟨w42, List.forall_mem_cons.mpr ⟨w45, List.forall_mem_cons.mpr ⟨w51, List.forall_mem_cons.mpr ⟨w56, List.forall_mem_cons.mpr ⟨w66, List.forall_mem_cons.mpr ⟨w70, fun _ h => absurd h List.not_mem_nil⟩⟩⟩⟩⟩⟩⟩⟩⟩⟩⟩⟩⟩⟩) (by decide) (by decide)) (by decide) ?_
  refine lv_aload_n hx hb dX8_readOperands_341 rfl (lv_at hl 0 rfl) ?_
  refine lv_iconst (v := 1) hx hb dX8_readOperands_342 (by decide) ?_
  obtain ⟨r73, er73, hsp⟩ := hk_b hsp
  refine hk_callVi (As := [.int 1]) (rest := []) F9 G h0 hkc_6 rfl (kX8_fail l g E F n S a0 1 r73 h0 er73) qv_RX8_88 ⟨rfl, rfl, (Nat.le_of_ble_eq_true rfl), (Nat.le_of_ble_eq_true rfl)⟩ rfl hl.1 rfl (Nat.le_of_ble_eq_true rfl) ⟨Nat.zero_le _, Nat.zero_le _⟩ dX8_readOperands_343 (fun H locs G => ?_)
  obtain ⟨q74, hsp⟩ := hk_k hsp
  obtain rfl := hk_s hsp
  exact W.zret (v := r73.1) hx hb hr (hk_z q74).1 (fun t ht hW => hk_end G ht hW) G.2.1.2.2 dX8_readOperands_346
def mX8_runCommand (E : hk_E) (F : Nat) (S : hk_S) (a0 : Nat) : Option (Int32 × hk_S) :=
(mX8_commandHere E F S a0).bind (fun r1 => if ¬ r1.1 < 0 then (hk_let (hk_up r1.2 a0 9 0) (fun S3 => if hk_ec r1.1 15 then (if ¬ r1.1 = 14 then (if (S3 a0 10) < 200 then ((mX8_readOperands E F S3 a0 r1.1).bind (fun r7 => if r7.1 = 0 then (some (0, r7.2)) else ((mX8_readMark E F r7.2 a0 4).bind (fun r9 => if ¬ r9.1 = 0 then ((mX8_isRefused E F r9.2 a0 r1.1).bind (fun r11 => if r11.1 = 0 then ((mX8_execute E F r11.2 a0 r1.1).bind (fun r13 => hk_let (hk_up r13 a0 10 ((r13 a0 10) + 1)) (fun S14 => some (1, S14)))) else ((mX8_fail E F r11.2 a0 3).bind (fun r15 => if r15.1 = 0 ∨ r15.1 = 1 then (some (r15.1, r15.2)) else none)))) else (some (0, r9.2)))))) else ((mX8_fail E F S3 a0 5).bind (fun r17 => if r17.1 = 0 ∨ r17.1 = 1 then (some (r17.1, r17.2)) else none))) else (if 2 ≤ (S3 a0 11) then ((mX8_fail E F S3 a0 4).bind (fun r20 => if r20.1 = 0 ∨ r20.1 = 1 then (some (r20.1, r20.2)) else none)) else ((mX8_openRepeat E F S3 a0).bind (fun r22 => if r22.1 = 0 ∨ r22.1 = 1 then (some (r22.1, r22.2)) else none)))) else none)) else ((mX8_fail E F r1.2 a0 1).bind (fun r24 => if r24.1 = 0 ∨ r24.1 = 1 then (some (r24.1, r24.2)) else none)))
set_option maxHeartbeats 4000000 in
set_option maxRecDepth 100000 in
theorem kX8_runCommand (l : Launch) (g : hk_G) (E : hk_E) (F n : Nat) (S : hk_S) (a0 : Nat) (o : Int32 × hk_S) (h0 : E.2.1 a0 = 7) (hsp : mX8_runCommand E F S a0 = some o) : Met l yX8_runCommand (hk_ws yX8_runCommand cX8_runCommand 2 (Option.some Jvm.ClassFile.FieldType.boolean)) ({ frames := 7, cells := 0, slots := 0, locals := 152 }) (hk_Pc g E S n [.ref (g.1 + a0)]) (hk_Q g E o.2 n (some (.int o.1))) 0 0 (hk_A g) := by
  refine Met.ofW (cc := cX8_runCommand) (maxL := 2) (ret := (Option.some Jvm.ClassFile.FieldType.boolean)) (by decide) rfl ?_
  intro p e s m args below meth c s₁ B hml hv
  obtain ⟨rfl, G⟩ := hk_begin hv
  have F9 : CallFix p m c cX8_runCommand 2 s [.ref (g.1 + a0)].toArray hk_W RX8 := ⟨B.exec, B.bytes, hml, findClass_of_methodNamed B.named, fun w h => atoms_spec (ws := hk_ws yX8_runCommand cX8_runCommand 2 (Option.some Jvm.ClassFile.FieldType.boolean)) B.pre w (hk_in h)⟩
  have hx := B.exec
  have hb := B.bytes
  have hr := B.returns
  have hlocks := B.notSynchronized
  have hl := lv_entry ([.ref (g.1 + a0)]) (n := 2) (Nat.le_of_ble_eq_true rfl)
  rw [lg_entry_eq]
  generalize (lg_sl ([.ref (g.1 + a0)]) ++ List.replicate (2 - (lg_sl ([.ref (g.1 + a0)])).length) Slot.unset).toArray = ls at hl ⊢
  have hl : lv_has ls 2 [(0, .ref (g.1 + a0))] := hl
  unfold mX8_runCommand at hsp
  have G : hk_GG g E S n s s.heap [] := G
  refine lv_aload_n hx hb dX8_runCommand_0 rfl (lv_at hl 0 rfl) ?_
  obtain ⟨r1, er1, hsp⟩ := hk_b hsp
  refine hk_callV (As := []) (rest := []) F9 G h0 hkc_6 rfl (kX8_commandHere l g E F n S a0 r1 h0 er1) qv_RX8_84 ⟨rfl, rfl, (Nat.le_of_ble_eq_true rfl), (Nat.le_of_ble_eq_true rfl)⟩ rfl hl.1 rfl (Nat.le_of_ble_eq_true rfl) ⟨Nat.zero_le _, Nat.zero_le _⟩ dX8_runCommand_1 (fun H locs G => ?_)
  refine hk_astoreE_n (lv' := [(1, hk_en (g.2.2.2 3) r1.1), (0, .ref (g.1 + a0))]) hx hb dX8_runCommand_4 rfl hl (by decide) rfl (fun ls hl => ?_)
  refine hk_aloadE_n hx hb dX8_runCommand_5 rfl (lv_at hl 0 rfl) ?_
  refine hk_ifnonnull hx hb (tgt := 15) dX8_runCommand_6 (by decide) (fun c2 => ?_) (fun c2 => ?_)
  · have hsp := hk_t c2 hsp
    refine lv_aload_n hx hb dX8_runCommand_15 rfl (lv_at hl 1 rfl) ?_
    refine lv_iconst (v := 0) hx hb dX8_runCommand_16 (by decide) ?_
    obtain ⟨S3, eS3, hsp⟩ := hk_l hsp
    refine hk_putI F9 G h0 hkc_6 (k := 9) (by decide) qw_281 rfl rfl (tyX8_ok 9 (by decide)) rfl rfl dX8_runCommand_17 (fun H locs G => ?_)
    rw [eS3] at G
    refine hk_aloadE_n hx hb dX8_runCommand_20 rfl (lv_at hl 0 rfl) ?_
    refine hk_getCom F9 G 14 (x := 14) (by decide) (hk_en_ref (by decide)) qw_559 dX8_runCommand_21 ?_
    obtain ⟨q4, hsp⟩ := hk_k hsp
    refine hk_acmp_ne hx hb (N := 15) G.2.2.1.2.2.1.2 q4 (by decide) (tgt := 48) dX8_runCommand_24 (by decide) (fun c5 => ?_) (fun c5 => ?_)
    · have hsp := hk_t c5 hsp
      refine lv_aload_n hx hb dX8_runCommand_48 rfl (lv_at hl 1 rfl) ?_
      refine hk_getI F9 G h0 hkc_6 (k := 10) (by decide) qw_282 rfl dX8_runCommand_49 ?_
      refine lv_sipush (v := 200) hx hb dX8_runCommand_52 (by decide) ?_
      refine lv_icmp_lt (tgt := 64) hx hb dX8_runCommand_55 (by decide) (fun c6 => ?_) (fun c6 => ?_)
      · have hsp := hk_t c6 hsp
        refine lv_aload_n hx hb dX8_runCommand_64 rfl (lv_at hl 1 rfl) ?_
        refine hk_aloadE_n hx hb dX8_runCommand_65 rfl (lv_at hl 0 rfl) ?_
        obtain ⟨r7, er7, hsp⟩ := hk_b hsp
        refine hk_callVi (As := [hk_en (g.2.2.2 3) r1.1]) (rest := []) F9 G h0 hkc_6 rfl (kX8_readOperands l g E F n S3 a0 r1.1 r7 h0 er7) qv_RX8_104 ⟨rfl, rfl, (Nat.le_of_ble_eq_true rfl), (Nat.le_of_ble_eq_true rfl)⟩ rfl hl.1 rfl (Nat.le_of_ble_eq_true rfl) ⟨Nat.zero_le _, Nat.zero_le _⟩ dX8_runCommand_66 (fun H locs G => ?_)
        refine lv_if_eq (tgt := 82) hx hb dX8_runCommand_69 (by decide) (fun c8 => ?_) (fun c8 => ?_)
        · have hsp := hk_t c8 hsp
          refine lv_iconst (v := 0) hx hb dX8_runCommand_82 (by decide) ?_
          obtain rfl := hk_s hsp
          exact W.zret (v := 0) hx hb hr (hk_z (by decide)).1 (fun t ht hW => hk_end G ht hW) G.2.1.2.2 dX8_runCommand_83
        · have hsp := hk_f c8 hsp
          refine lv_aload_n hx hb dX8_runCommand_72 rfl (lv_at hl 1 rfl) ?_
          refine hk_getTok F9 G 4 (x := 4) (by decide) (hk_en_ref (by decide)) qw_481 dX8_runCommand_73 ?_
          obtain ⟨r9, er9, hsp⟩ := hk_b hsp
          refine hk_callVi (As := [hk_en (g.2.2.2 2) 4]) (rest := []) F9 G h0 hkc_6 rfl (kX8_readMark l g E F n r7.2 a0 4 r9 h0 er9) qv_RX8_67 ⟨rfl, rfl, (Nat.le_of_ble_eq_true rfl), (Nat.le_of_ble_eq_true rfl)⟩ rfl hl.1 rfl (Nat.le_of_ble_eq_true rfl) ⟨Nat.zero_le _, Nat.zero_le _⟩ dX8_runCommand_76 (fun H locs G => ?_)
          refine lv_if_ne (tgt := 84) hx hb dX8_runCommand_79 (by decide) (fun c10 => ?_) (fun c10 => ?_)
          · have hsp := hk_t c10 hsp
            refine lv_aload_n hx hb dX8_runCommand_84 rfl (lv_at hl 1 rfl) ?_
            refine hk_aloadE_n hx hb dX8_runCommand_85 rfl (lv_at hl 0 rfl) ?_
            obtain ⟨r11, er11, hsp⟩ := hk_b hsp
            refine hk_callVi (As := [hk_en (g.2.2.2 3) r1.1]) (rest := []) F9 G h0 hkc_6 rfl (kX8_isRefused l g E F n r9.2 a0 r1.1 r11 h0 er11) qv_RX8_108 ⟨rfl, rfl, (Nat.le_of_ble_eq_true rfl), (Nat.le_of_ble_eq_true rfl)⟩ rfl hl.1 rfl (Nat.le_of_ble_eq_true rfl) ⟨Nat.zero_le _, Nat.zero_le _⟩ dX8_runCommand_86 (fun H locs G => ?_)
            refine lv_if_eq (tgt := 98) hx hb dX8_runCommand_89 (by decide) (fun c12 => ?_) (fun c12 => ?_)
            · have hsp := hk_t c12 hsp
              refine lv_aload_n hx hb dX8_runCommand_98 rfl (lv_at hl 1 rfl) ?_
              refine hk_aloadE_n hx hb dX8_runCommand_99 rfl (lv_at hl 0 rfl) ?_
              obtain ⟨r13, er13, hsp⟩ := hk_b hsp
              refine hk_callVv (As := [hk_en (g.2.2.2 3) r1.1]) (rest := []) F9 G h0 hkc_6 rfl (kX8_execute l g E F n r11.2 a0 r1.1 r13 h0 er13) qv_RX8_111 ⟨rfl, rfl, (Nat.le_of_ble_eq_true rfl), (Nat.le_of_ble_eq_true rfl)⟩ rfl hl.1 rfl (Nat.le_of_ble_eq_true rfl) ⟨Nat.zero_le _, Nat.zero_le _⟩ dX8_runCommand_100 (fun H locs G => ?_)
              refine lv_aload_n hx hb dX8_runCommand_103 rfl (lv_at hl 1 rfl) ?_
              refine lv_dup hx hb dX8_runCommand_104 rfl ?_
              refine hk_getI F9 G h0 hkc_6 (k := 10) (by decide) qw_282 rfl dX8_runCommand_105 ?_
              refine lv_iconst (v := 1) hx hb dX8_runCommand_108 (by decide) ?_
              refine lv_iadd hx hb dX8_runCommand_109 ?_
              obtain ⟨S14, eS14, hsp⟩ := hk_l hsp
              refine hk_putI F9 G h0 hkc_6 (k := 10) (by decide) qw_282 rfl rfl (tyX8_ok 10 (by decide)) rfl rfl dX8_runCommand_110 (fun H locs G => ?_)
              rw [eS14] at G
              refine lv_iconst (v := 1) hx hb dX8_runCommand_113 (by decide) ?_
              obtain rfl := hk_s hsp
              exact W.zret (v := 1) hx hb hr (hk_z (by decide)).1 (fun t ht hW => hk_end G ht hW) G.2.1.2.2 dX8_runCommand_114
            · have hsp := hk_f c12 hsp
              refine lv_aload_n hx hb dX8_runCommand_92 rfl (lv_at hl 1 rfl) ?_
              refine lv_iconst (v := 3) hx hb dX8_runCommand_93 (by decide) ?_
              obtain ⟨r15, er15, hsp⟩ := hk_b hsp
              refine hk_callVi (As := [.int 3]) (rest := []) F9 G h0 hkc_6 rfl (kX8_fail l g E F n r11.2 a0 3 r15 h0 er15) qv_RX8_88 ⟨rfl, rfl, (Nat.le_of_ble_eq_true rfl), (Nat.le_of_ble_eq_true rfl)⟩ rfl hl.1 rfl (Nat.le_of_ble_eq_true rfl) ⟨Nat.zero_le _, Nat.zero_le _⟩ dX8_runCommand_94 (fun H locs G => ?_)
              obtain ⟨q16, hsp⟩ := hk_k hsp
              obtain rfl := hk_s hsp
              exact W.zret (v := r15.1) hx hb hr (hk_z q16).1 (fun t ht hW => hk_end G ht hW) G.2.1.2.2 dX8_runCommand_97
          · have hsp := hk_g c10 hsp
            refine lv_iconst (v := 0) hx hb dX8_runCommand_82 (by decide) ?_
            obtain rfl := hk_s hsp
            exact W.zret (v := 0) hx hb hr (hk_z (by decide)).1 (fun t ht hW => hk_end G ht hW) G.2.1.2.2 dX8_runCommand_83
      · have hsp := hk_f c6 hsp
        refine lv_aload_n hx hb dX8_runCommand_58 rfl (lv_at hl 1 rfl) ?_
        refine lv_iconst (v := 5) hx hb dX8_runCommand_59 (by decide) ?_
        obtain ⟨r17, er17, hsp⟩ := hk_b hsp
        refine hk_callVi (As := [.int 5]) (rest := []) F9 G h0 hkc_6 rfl (kX8_fail l g E F n S3 a0 5 r17 h0 er17) qv_RX8_88 ⟨rfl, rfl, (Nat.le_of_ble_eq_true rfl), (Nat.le_of_ble_eq_true rfl)⟩ rfl hl.1 rfl (Nat.le_of_ble_eq_true rfl) ⟨Nat.zero_le _, Nat.zero_le _⟩ dX8_runCommand_60 (fun H locs G => ?_)
        obtain ⟨q18, hsp⟩ := hk_k hsp
        obtain rfl := hk_s hsp
        exact W.zret (v := r17.1) hx hb hr (hk_z q18).1 (fun t ht hW => hk_end G ht hW) G.2.1.2.2 dX8_runCommand_63
    · have hsp := hk_g c5 hsp
      refine lv_aload_n hx hb dX8_runCommand_27 rfl (lv_at hl 1 rfl) ?_
      refine hk_getI F9 G h0 hkc_6 (k := 11) (by decide) qw_283 rfl dX8_runCommand_28 ?_
      refine lv_iconst (v := 2) hx hb dX8_runCommand_31 (by decide) ?_
      refine lv_icmp_ge (tgt := 42) hx hb dX8_runCommand_32 (by decide) (fun c19 => ?_) (fun c19 => ?_)
      · have hsp := hk_t c19 hsp
        refine lv_aload_n hx hb dX8_runCommand_42 rfl (lv_at hl 1 rfl) ?_
        refine lv_iconst (v := 4) hx hb dX8_runCommand_43 (by decide) ?_
        obtain ⟨r20, er20, hsp⟩ := hk_b hsp
        refine hk_callVi (As := [.int 4]) (rest := []) F9 G h0 hkc_6 rfl (kX8_fail l g E F n S3 a0 4 r20 h0 er20) qv_RX8_88 ⟨rfl, rfl, (Nat.le_of_ble_eq_true rfl), (Nat.le_of_ble_eq_true rfl)⟩ rfl hl.1 rfl (Nat.le_of_ble_eq_true rfl) ⟨Nat.zero_le _, Nat.zero_le _⟩ dX8_runCommand_44 (fun H locs G => ?_)
        obtain ⟨q21, hsp⟩ := hk_k hsp
        obtain rfl := hk_s hsp
        exact W.zret (v := r20.1) hx hb hr (hk_z q21).1 (fun t ht hW => hk_end G ht hW) G.2.1.2.2 dX8_runCommand_47
      · have hsp := hk_f c19 hsp
        refine lv_aload_n hx hb dX8_runCommand_35 rfl (lv_at hl 1 rfl) ?_
        obtain ⟨r22, er22, hsp⟩ := hk_b hsp
        refine hk_callVi (As := []) (rest := []) F9 G h0 hkc_6 rfl (kX8_openRepeat l g E F n S3 a0 r22 h0 er22) qv_RX8_101 ⟨rfl, rfl, (Nat.le_of_ble_eq_true rfl), (Nat.le_of_ble_eq_true rfl)⟩ rfl hl.1 rfl (Nat.le_of_ble_eq_true rfl) ⟨Nat.zero_le _, Nat.zero_le _⟩ dX8_runCommand_36 (fun H locs G => ?_)
        refine lv_goto (tgt := 47) hx hb dX8_runCommand_39 (by decide) ?_
        obtain ⟨q23, hsp⟩ := hk_k hsp
        obtain rfl := hk_s hsp
        exact W.zret (v := r22.1) hx hb hr (hk_z q23).1 (fun t ht hW => hk_end G ht hW) G.2.1.2.2 dX8_runCommand_47
  · have hsp := hk_g c2 hsp
    refine lv_aload_n hx hb dX8_runCommand_9 rfl (lv_at hl 1 rfl) ?_
    refine lv_iconst (v := 1) hx hb dX8_runCommand_10 (by decide) ?_
    obtain ⟨r24, er24, hsp⟩ := hk_b hsp
    refine hk_callVi (As := [.int 1]) (rest := []) F9 G h0 hkc_6 rfl (kX8_fail l g E F n r1.2 a0 1 r24 h0 er24) qv_RX8_88 ⟨rfl, rfl, (Nat.le_of_ble_eq_true rfl), (Nat.le_of_ble_eq_true rfl)⟩ rfl hl.1 rfl (Nat.le_of_ble_eq_true rfl) ⟨Nat.zero_le _, Nat.zero_le _⟩ dX8_runCommand_11 (fun H locs G => ?_)
    obtain ⟨q25, hsp⟩ := hk_k hsp
    obtain rfl := hk_s hsp
    exact W.zret (v := r24.1) hx hb hr (hk_z q25).1 (fun t ht hW => hk_end G ht hW) G.2.1.2.2 dX8_runCommand_14
def mX8_run_52 (E : hk_E) (F : Nat) (a0 : Nat)  (k : hk_S → Int32 → Int32 → Option (Int32 × hk_S)) : Nat → hk_S → Int32 → Int32 → Option (Int32 × hk_S)
  | 0 => fun _ _ _ => none
  | f + 1 => fun S z9 z10 =>
    if z9 = 0 then (k S z9 z10) else (if 1000000 ≤ z10 then (k S z9 z10) else ((mX8_readToken E F S a0).bind (fun r13 => if hk_ec (r13 a0 5) 7 then (if ¬ (r13 a0 5) = 5 then (if hk_ec (r13 a0 5) 7 then (if ¬ (r13 a0 5) = 3 then ((mX8_runCommand E F r13 a0).bind (fun r18 => hk_let (z10 + 1) (fun y19 => mX8_run_52 E F a0 k f r18.2 r18.1 y19))) else (if (r13 a0 11) ≤ 0 then ((mX8_runCommand E F r13 a0).bind (fun r21 => hk_let (z10 + 1) (fun y22 => mX8_run_52 E F a0 k f r21.2 r21.1 y22))) else ((mX8_closeRepeat E F r13 a0).bind (fun r23 => hk_let (z10 + 1) (fun y24 => mX8_run_52 E F a0 k f r23.2 r23.1 y24))))) else none) else (if ¬ (r13 a0 11) = 0 then (if hk_ec (r13 a0 5) 7 then (if ¬ (r13 a0 5) = 3 then ((mX8_runCommand E F r13 a0).bind (fun r28 => hk_let (z10 + 1) (fun y29 => mX8_run_52 E F a0 k f r28.2 r28.1 y29))) else (if (r13 a0 11) ≤ 0 then ((mX8_runCommand E F r13 a0).bind (fun r31 => hk_let (z10 + 1) (fun y32 => mX8_run_52 E F a0 k f r31.2 r31.1 y32))) else ((mX8_closeRepeat E F r13 a0).bind (fun r33 => hk_let (z10 + 1) (fun y34 => mX8_run_52 E F a0 k f r33.2 r33.1 y34))))) else none) else (hk_let (z10 + 1) (fun y35 => mX8_run_52 E F a0 k f r13 0 y35)))) else none)))
def mX8_run (E : hk_E) (F : Nat) (S : hk_S) (a0 : Nat) : Option (Int32 × hk_S) :=
(E.2.2.2 a0 1).bind (fun r1 => if E.2.1 r1 = 4 then ((mX5_clear E F S r1).bind (fun r2 => hk_let (hk_up r2 a0 2 0) (fun S3 => hk_let (hk_up S3 a0 4 0) (fun S4 => hk_let (hk_up S4 a0 10 0) (fun S5 => hk_let (hk_up S5 a0 11 0) (fun S6 => (mX8_readFirstWord E F S6 a0).bind (fun r7 => if r7.1 = 0 then (mX8_run_52 E F a0  (fun S36 z37 z38 => if ¬ (S36 a0 2) = 0 then (some (0, S36)) else (some (1, S36))) F r7.2 0 0) else ((mX8_readMark E F r7.2 a0 4).bind (fun r40 => if r40.1 = 0 then (mX8_run_52 E F a0  (fun S42 z43 z44 => if ¬ (S42 a0 2) = 0 then (some (0, S42)) else (some (1, S42))) F r40.2 0 0) else (mX8_run_52 E F a0  (fun S46 z47 z48 => if ¬ (S46 a0 2) = 0 then (some (0, S46)) else (some (1, S46))) F r40.2 1 0)))))))))) else none)
set_option maxHeartbeats 4000000 in
set_option maxRecDepth 100000 in
theorem kX8_run (l : Launch) (g : hk_G) (E : hk_E) (F n : Nat) (S : hk_S) (a0 : Nat) (o : Int32 × hk_S) (h0 : E.2.1 a0 = 7) (hsp : mX8_run E F S a0 = some o) : Met l yX8_run (hk_ws yX8_run cX8_run 3 (Option.some Jvm.ClassFile.FieldType.boolean)) ({ frames := 8, cells := 0, slots := 0, locals := 173 }) (hk_Pc g E S n [.ref (g.1 + a0)]) (hk_Q g E o.2 n (some (.int o.1))) 0 0 (hk_A g) := by
  refine Met.ofW (cc := cX8_run) (maxL := 3) (ret := (Option.some Jvm.ClassFile.FieldType.boolean)) (by decide) rfl ?_
  intro p e s m args below meth c s₁ B hml hv
  obtain ⟨rfl, G⟩ := hk_begin hv
  have F9 : CallFix p m c cX8_run 3 s [.ref (g.1 + a0)].toArray hk_W RX8 := ⟨B.exec, B.bytes, hml, findClass_of_methodNamed B.named, fun w h => atoms_spec (ws := hk_ws yX8_run cX8_run 3 (Option.some Jvm.ClassFile.FieldType.boolean)) B.pre w (hk_in h)⟩
  have hx := B.exec
  have hb := B.bytes
  have hr := B.returns
  have hlocks := B.notSynchronized
  have hl := lv_entry ([.ref (g.1 + a0)]) (n := 3) (Nat.le_of_ble_eq_true rfl)
  rw [lg_entry_eq]
  generalize (lg_sl ([.ref (g.1 + a0)]) ++ List.replicate (3 - (lg_sl ([.ref (g.1 + a0)])).length) Slot.unset).toArray = ls at hl ⊢
  have hl : lv_has ls 3 [(0, .ref (g.1 + a0))] := hl
  unfold mX8_run at hsp
  have G : hk_GG g E S n s s.heap [] := G
  have L_52 : ∀   (k : hk_S → Int32 → Int32 → Option (Int32 × hk_S)) (_ : ∀ (S : hk_S) (z9 : Int32) (z10 : Int32) (H : Heap) (locs : List Loc) (ls : Array Slot), k S z9 z10 = some o → hk_GG g E S n s H locs → lv_has ls 3 [(0, .ref (g.1 + a0)), (1, .int z9), (2, .int z10)] → W p l e (headSpec (hk_ws yX8_run cX8_run 3 (Option.some Jvm.ClassFile.FieldType.boolean)) ({ frames := 8, cells := 0, slots := 0, locals := 173 })).room s m [.ref (g.1 + a0)].toArray below meth c H locs 0 0 (MQ below (hk_Q g E o.2 n (some (.int o.1))) [.ref (g.1 + a0)].toArray s 0 0 (hk_A g)) (F0 m 124 ls [])) (f : Nat) (S : hk_S) (z9 : Int32) (z10 : Int32) (H : Heap) (locs : List Loc) (ls : Array Slot), mX8_run_52 E F a0 k f S z9 z10 = some o → hk_GG g E S n s H locs → lv_has ls 3 [(0, .ref (g.1 + a0)), (1, .int z9), (2, .int z10)] → W p l e (headSpec (hk_ws yX8_run cX8_run 3 (Option.some Jvm.ClassFile.FieldType.boolean)) ({ frames := 8, cells := 0, slots := 0, locals := 173 })).room s m [.ref (g.1 + a0)].toArray below meth c H locs 0 0 (MQ below (hk_Q g E o.2 n (some (.int o.1))) [.ref (g.1 + a0)].toArray s 0 0 (hk_A g)) (F0 m 52 ls []) := by
    intro   k hk f
    induction f with
    | zero =>
      intro S z9 z10 H locs ls hsp
      exact nomatch hsp
    | succ f ih =>
      intro S z9 z10 H locs ls hsp G hl
      rw [mX8_run_52] at hsp
      refine lv_iload_n hx hb dX8_run_52 rfl (lv_at hl 1 rfl) ?_
      refine lv_if_eq (tgt := 124) hx hb dX8_run_53 (by decide) (fun c11 => ?_) (fun c11 => ?_)
      · have hsp := hk_t c11 hsp
        exact hk S z9 z10 _ _ _ hsp G (lv_sub hl [0, 1, 2] rfl)
      · have hsp := hk_f c11 hsp
        refine lv_iload_n hx hb dX8_run_56 rfl (lv_at hl 2 rfl) ?_
        refine lv_ldc hx hb F9.2.2.2.1 (F9.2.2.2.2 _ qw_544) dX8_run_57 ?_
        refine lv_icmp_ge (tgt := 124) hx hb dX8_run_59 (by decide) (fun c12 => ?_) (fun c12 => ?_)
        · have hsp := hk_t c12 hsp
          exact hk S z9 z10 _ _ _ hsp G (lv_sub hl [0, 1, 2] rfl)
        · have hsp := hk_f c12 hsp
          refine lv_aload_n hx hb dX8_run_62 rfl (lv_at hl 0 rfl) ?_
          obtain ⟨r13, er13, hsp⟩ := hk_b hsp
          refine hk_callVv (As := []) (rest := []) F9 G h0 hkc_6 rfl (kX8_readToken l g E F n S a0 r13 h0 er13) qv_RX8_72 ⟨rfl, rfl, (Nat.le_of_ble_eq_true rfl), (Nat.le_of_ble_eq_true rfl)⟩ rfl hl.1 rfl (Nat.le_of_ble_eq_true rfl) ⟨Nat.zero_le _, Nat.zero_le _⟩ dX8_run_63 (fun H locs G => ?_)
          refine lv_aload_n hx hb dX8_run_66 rfl (lv_at hl 0 rfl) ?_
          refine hk_get F9 G h0 hkc_6 (k := 5) (by decide) qw_277 rfl dX8_run_67 ?_
          refine hk_getTok F9 G 5 (x := 5) (by decide) (hk_en_ref (by decide)) qw_266 dX8_run_70 ?_
          obtain ⟨q14, hsp⟩ := hk_k hsp
          refine hk_acmp_ne hx hb (N := 7) G.2.2.1.2.1.2 q14 (by decide) (tgt := 88) dX8_run_73 (by decide) (fun c15 => ?_) (fun c15 => ?_)
          · have hsp := hk_t c15 hsp
            refine lv_aload_n hx hb dX8_run_88 rfl (lv_at hl 0 rfl) ?_
            refine hk_get F9 G h0 hkc_6 (k := 5) (by decide) qw_277 rfl dX8_run_89 ?_
            refine hk_getTok F9 G 3 (x := 3) (by decide) (hk_en_ref (by decide)) qw_479 dX8_run_92 ?_
            obtain ⟨q16, hsp⟩ := hk_k hsp
            refine hk_acmp_ne hx hb (N := 7) G.2.2.1.2.1.2 q16 (by decide) (tgt := 113) dX8_run_95 (by decide) (fun c17 => ?_) (fun c17 => ?_)
            · have hsp := hk_t c17 hsp
              refine lv_aload_n hx hb dX8_run_113 rfl (lv_at hl 0 rfl) ?_
              obtain ⟨r18, er18, hsp⟩ := hk_b hsp
              refine hk_callVi (As := []) (rest := []) F9 G h0 hkc_6 rfl (kX8_runCommand l g E F n r13 a0 r18 h0 er18) qv_RX8_81 ⟨rfl, rfl, (Nat.le_of_ble_eq_true rfl), (Nat.le_of_ble_eq_true rfl)⟩ rfl hl.1 rfl (Nat.le_of_ble_eq_true rfl) ⟨Nat.zero_le _, Nat.zero_le _⟩ dX8_run_114 (fun H locs G => ?_)
              refine lv_istore_n (lv' := [(1, .int r18.1), (0, .ref (g.1 + a0)), (2, .int z10)]) hx hb dX8_run_117 rfl hl (by decide) rfl (fun ls hl => ?_)
              obtain ⟨y19, ey19, hsp⟩ := hk_l hsp
              refine lv_iinc (v := y19) (lv' := [(2, .int y19), (1, .int r18.1), (0, .ref (g.1 + a0))]) hx hb dX8_run_118 hl (k := 2) rfl (by rw [← ey19]; rfl) (by decide) rfl (fun ls hl => ?_)
              refine lv_goto (tgt := 52) hx hb dX8_run_121 (by decide) ?_
              exact ih r18.2 r18.1 y19 _ _ _ hsp G (lv_sub hl [2, 1, 0] rfl)
            · have hsp := hk_g c17 hsp
              refine lv_aload_n hx hb dX8_run_98 rfl (lv_at hl 0 rfl) ?_
              refine hk_getI F9 G h0 hkc_6 (k := 11) (by decide) qw_283 rfl dX8_run_99 ?_
              refine lv_if_le (tgt := 113) hx hb dX8_run_102 (by decide) (fun c20 => ?_) (fun c20 => ?_)
              · have hsp := hk_t c20 hsp
                refine lv_aload_n hx hb dX8_run_113 rfl (lv_at hl 0 rfl) ?_
                obtain ⟨r21, er21, hsp⟩ := hk_b hsp
                refine hk_callVi (As := []) (rest := []) F9 G h0 hkc_6 rfl (kX8_runCommand l g E F n r13 a0 r21 h0 er21) qv_RX8_81 ⟨rfl, rfl, (Nat.le_of_ble_eq_true rfl), (Nat.le_of_ble_eq_true rfl)⟩ rfl hl.1 rfl (Nat.le_of_ble_eq_true rfl) ⟨Nat.zero_le _, Nat.zero_le _⟩ dX8_run_114 (fun H locs G => ?_)
                refine lv_istore_n (lv' := [(1, .int r21.1), (0, .ref (g.1 + a0)), (2, .int z10)]) hx hb dX8_run_117 rfl hl (by decide) rfl (fun ls hl => ?_)
                obtain ⟨y22, ey22, hsp⟩ := hk_l hsp
                refine lv_iinc (v := y22) (lv' := [(2, .int y22), (1, .int r21.1), (0, .ref (g.1 + a0))]) hx hb dX8_run_118 hl (k := 2) rfl (by rw [← ey22]; rfl) (by decide) rfl (fun ls hl => ?_)
                refine lv_goto (tgt := 52) hx hb dX8_run_121 (by decide) ?_
                exact ih r21.2 r21.1 y22 _ _ _ hsp G (lv_sub hl [2, 1, 0] rfl)
              · have hsp := hk_f c20 hsp
                refine lv_aload_n hx hb dX8_run_105 rfl (lv_at hl 0 rfl) ?_
                obtain ⟨r23, er23, hsp⟩ := hk_b hsp
                refine hk_callVi (As := []) (rest := []) F9 G h0 hkc_6 rfl (kX8_closeRepeat l g E F n r13 a0 r23 h0 er23) qv_RX8_78 ⟨rfl, rfl, (Nat.le_of_ble_eq_true rfl), (Nat.le_of_ble_eq_true rfl)⟩ rfl hl.1 rfl (Nat.le_of_ble_eq_true rfl) ⟨Nat.zero_le _, Nat.zero_le _⟩ dX8_run_106 (fun H locs G => ?_)
                refine lv_istore_n (lv' := [(1, .int r23.1), (0, .ref (g.1 + a0)), (2, .int z10)]) hx hb dX8_run_109 rfl hl (by decide) rfl (fun ls hl => ?_)
                refine lv_goto (tgt := 118) hx hb dX8_run_110 (by decide) ?_
                obtain ⟨y24, ey24, hsp⟩ := hk_l hsp
                refine lv_iinc (v := y24) (lv' := [(2, .int y24), (1, .int r23.1), (0, .ref (g.1 + a0))]) hx hb dX8_run_118 hl (k := 2) rfl (by rw [← ey24]; rfl) (by decide) rfl (fun ls hl => ?_)
                refine lv_goto (tgt := 52) hx hb dX8_run_121 (by decide) ?_
                exact ih r23.2 r23.1 y24 _ _ _ hsp G (lv_sub hl [2, 1, 0] rfl)
          · have hsp := hk_g c15 hsp
            refine lv_aload_n hx hb dX8_run_76 rfl (lv_at hl 0 rfl) ?_
            refine hk_getI F9 G h0 hkc_6 (k := 11) (by decide) qw_283 rfl dX8_run_77 ?_
            refine lv_if_ne (tgt := 88) hx hb dX8_run_80 (by decide) (fun c25 => ?_) (fun c25 => ?_)
            · have hsp := hk_t c25 hsp
              refine lv_aload_n hx hb dX8_run_88 rfl (lv_at hl 0 rfl) ?_
              refine hk_get F9 G h0 hkc_6 (k := 5) (by decide) qw_277 rfl dX8_run_89 ?_
              refine hk_getTok F9 G 3 (x := 3) (by decide) (hk_en_ref (by decide)) qw_479 dX8_run_92 ?_
              obtain ⟨q26, hsp⟩ := hk_k hsp
              refine hk_acmp_ne hx hb (N := 7) G.2.2.1.2.1.2 q26 (by decide) (tgt := 113) dX8_run_95 (by decide) (fun c27 => ?_) (fun c27 => ?_)
              · have hsp := hk_t c27 hsp
                refine lv_aload_n hx hb dX8_run_113 rfl (lv_at hl 0 rfl) ?_
                obtain ⟨r28, er28, hsp⟩ := hk_b hsp
                refine hk_callVi (As := []) (rest := []) F9 G h0 hkc_6 rfl (kX8_runCommand l g E F n r13 a0 r28 h0 er28) qv_RX8_81 ⟨rfl, rfl, (Nat.le_of_ble_eq_true rfl), (Nat.le_of_ble_eq_true rfl)⟩ rfl hl.1 rfl (Nat.le_of_ble_eq_true rfl) ⟨Nat.zero_le _, Nat.zero_le _⟩ dX8_run_114 (fun H locs G => ?_)
                refine lv_istore_n (lv' := [(1, .int r28.1), (0, .ref (g.1 + a0)), (2, .int z10)]) hx hb dX8_run_117 rfl hl (by decide) rfl (fun ls hl => ?_)
                obtain ⟨y29, ey29, hsp⟩ := hk_l hsp
                refine lv_iinc (v := y29) (lv' := [(2, .int y29), (1, .int r28.1), (0, .ref (g.1 + a0))]) hx hb dX8_run_118 hl (k := 2) rfl (by rw [← ey29]; rfl) (by decide) rfl (fun ls hl => ?_)
                refine lv_goto (tgt := 52) hx hb dX8_run_121 (by decide) ?_
                exact ih r28.2 r28.1 y29 _ _ _ hsp G (lv_sub hl [2, 1, 0] rfl)
              · have hsp := hk_g c27 hsp
                refine lv_aload_n hx hb dX8_run_98 rfl (lv_at hl 0 rfl) ?_
                refine hk_getI F9 G h0 hkc_6 (k := 11) (by decide) qw_283 rfl dX8_run_99 ?_
                refine lv_if_le (tgt := 113) hx hb dX8_run_102 (by decide) (fun c30 => ?_) (fun c30 => ?_)
                · have hsp := hk_t c30 hsp
                  refine lv_aload_n hx hb dX8_run_113 rfl (lv_at hl 0 rfl) ?_
                  obtain ⟨r31, er31, hsp⟩ := hk_b hsp
                  refine hk_callVi (As := []) (rest := []) F9 G h0 hkc_6 rfl (kX8_runCommand l g E F n r13 a0 r31 h0 er31) qv_RX8_81 ⟨rfl, rfl, (Nat.le_of_ble_eq_true rfl), (Nat.le_of_ble_eq_true rfl)⟩ rfl hl.1 rfl (Nat.le_of_ble_eq_true rfl) ⟨Nat.zero_le _, Nat.zero_le _⟩ dX8_run_114 (fun H locs G => ?_)
                  refine lv_istore_n (lv' := [(1, .int r31.1), (0, .ref (g.1 + a0)), (2, .int z10)]) hx hb dX8_run_117 rfl hl (by decide) rfl (fun ls hl => ?_)
                  obtain ⟨y32, ey32, hsp⟩ := hk_l hsp
                  refine lv_iinc (v := y32) (lv' := [(2, .int y32), (1, .int r31.1), (0, .ref (g.1 + a0))]) hx hb dX8_run_118 hl (k := 2) rfl (by rw [← ey32]; rfl) (by decide) rfl (fun ls hl => ?_)
                  refine lv_goto (tgt := 52) hx hb dX8_run_121 (by decide) ?_
                  exact ih r31.2 r31.1 y32 _ _ _ hsp G (lv_sub hl [2, 1, 0] rfl)
                · have hsp := hk_f c30 hsp
                  refine lv_aload_n hx hb dX8_run_105 rfl (lv_at hl 0 rfl) ?_
                  obtain ⟨r33, er33, hsp⟩ := hk_b hsp
                  refine hk_callVi (As := []) (rest := []) F9 G h0 hkc_6 rfl (kX8_closeRepeat l g E F n r13 a0 r33 h0 er33) qv_RX8_78 ⟨rfl, rfl, (Nat.le_of_ble_eq_true rfl), (Nat.le_of_ble_eq_true rfl)⟩ rfl hl.1 rfl (Nat.le_of_ble_eq_true rfl) ⟨Nat.zero_le _, Nat.zero_le _⟩ dX8_run_106 (fun H locs G => ?_)
                  refine lv_istore_n (lv' := [(1, .int r33.1), (0, .ref (g.1 + a0)), (2, .int z10)]) hx hb dX8_run_109 rfl hl (by decide) rfl (fun ls hl => ?_)
                  refine lv_goto (tgt := 118) hx hb dX8_run_110 (by decide) ?_
                  obtain ⟨y34, ey34, hsp⟩ := hk_l hsp
                  refine lv_iinc (v := y34) (lv' := [(2, .int y34), (1, .int r33.1), (0, .ref (g.1 + a0))]) hx hb dX8_run_118 hl (k := 2) rfl (by rw [← ey34]; rfl) (by decide) rfl (fun ls hl => ?_)
                  refine lv_goto (tgt := 52) hx hb dX8_run_121 (by decide) ?_
                  exact ih r33.2 r33.1 y34 _ _ _ hsp G (lv_sub hl [2, 1, 0] rfl)
            · have hsp := hk_g c25 hsp
              refine lv_iconst (v := 0) hx hb dX8_run_83 (by decide) ?_
              refine lv_istore_n (lv' := [(1, .int 0), (0, .ref (g.1 + a0)), (2, .int z10)]) hx hb dX8_run_84 rfl hl (by decide) rfl (fun ls hl => ?_)
              refine lv_goto (tgt := 118) hx hb dX8_run_85 (by decide) ?_
              obtain ⟨y35, ey35, hsp⟩ := hk_l hsp
              refine lv_iinc (v := y35) (lv' := [(2, .int y35), (1, .int 0), (0, .ref (g.1 + a0))]) hx hb dX8_run_118 hl (k := 2) rfl (by rw [← ey35]; rfl) (by decide) rfl (fun ls hl => ?_)
              refine lv_goto (tgt := 52) hx hb dX8_run_121 (by decide) ?_
              exact ih r13 0 y35 _ _ _ hsp G (lv_sub hl [2, 1, 0] rfl)
  refine lv_aload_n hx hb dX8_run_0 rfl (lv_at hl 0 rfl) ?_
  obtain ⟨r1, er1, hsp⟩ := hk_b hsp
  obtain ⟨kr1, hsp⟩ := hk_k hsp
  refine hk_getR F9 G h0 hkc_6 (k := 1) (by decide) qw_270 rfl er1 dX8_run_1 ?_
  obtain ⟨r2, er2, hsp⟩ := hk_b hsp
  refine hk_callVv (As := []) (rest := []) F9 G kr1 hkc_3 rfl (kX5_clear l g E F n S r1 r2 kr1 er2) qv_RX8_44 ⟨rfl, rfl, (Nat.le_of_ble_eq_true rfl), (Nat.le_of_ble_eq_true rfl)⟩ rfl hl.1 rfl (Nat.le_of_ble_eq_true rfl) ⟨Nat.zero_le _, Nat.zero_le _⟩ dX8_run_4 (fun H locs G => ?_)
  refine lv_aload_n hx hb dX8_run_7 rfl (lv_at hl 0 rfl) ?_
  refine lv_iconst (v := 0) hx hb dX8_run_8 (by decide) ?_
  obtain ⟨S3, eS3, hsp⟩ := hk_l hsp
  refine hk_putI F9 G h0 hkc_6 (k := 2) (by decide) qw_272 rfl rfl (tyX8_ok 2 (by decide)) rfl rfl dX8_run_9 (fun H locs G => ?_)
  rw [eS3] at G
  refine lv_aload_n hx hb dX8_run_12 rfl (lv_at hl 0 rfl) ?_
  refine lv_iconst (v := 0) hx hb dX8_run_13 (by decide) ?_
  obtain ⟨S4, eS4, hsp⟩ := hk_l hsp
  refine hk_putI F9 G h0 hkc_6 (k := 4) (by decide) qw_276 rfl rfl (tyX8_ok 4 (by decide)) rfl rfl dX8_run_14 (fun H locs G => ?_)
  rw [eS4] at G
  refine lv_aload_n hx hb dX8_run_17 rfl (lv_at hl 0 rfl) ?_
  refine lv_iconst (v := 0) hx hb dX8_run_18 (by decide) ?_
  obtain ⟨S5, eS5, hsp⟩ := hk_l hsp
  refine hk_putI F9 G h0 hkc_6 (k := 10) (by decide) qw_282 rfl rfl (tyX8_ok 10 (by decide)) rfl rfl dX8_run_19 (fun H locs G => ?_)
  rw [eS5] at G
  refine lv_aload_n hx hb dX8_run_22 rfl (lv_at hl 0 rfl) ?_
  refine lv_iconst (v := 0) hx hb dX8_run_23 (by decide) ?_
  obtain ⟨S6, eS6, hsp⟩ := hk_l hsp
  refine hk_putI F9 G h0 hkc_6 (k := 11) (by decide) qw_283 rfl rfl (tyX8_ok 11 (by decide)) rfl rfl dX8_run_24 (fun H locs G => ?_)
  rw [eS6] at G
  refine lv_aload_n hx hb dX8_run_27 rfl (lv_at hl 0 rfl) ?_
  obtain ⟨r7, er7, hsp⟩ := hk_b hsp
  refine hk_callVi (As := []) (rest := []) F9 G h0 hkc_6 rfl (kX8_readFirstWord l g E F n S6 a0 r7 h0 er7) qv_RX8_60 ⟨rfl, rfl, (Nat.le_of_ble_eq_true rfl), (Nat.le_of_ble_eq_true rfl)⟩ rfl hl.1 rfl (Nat.le_of_ble_eq_true rfl) ⟨Nat.zero_le _, Nat.zero_le _⟩ dX8_run_28 (fun H locs G => ?_)
  refine lv_if_eq (tgt := 48) hx hb dX8_run_31 (by decide) (fun c8 => ?_) (fun c8 => ?_)
  · have hsp := hk_t c8 hsp
    refine lv_iconst (v := 0) hx hb dX8_run_48 (by decide) ?_
    refine lv_istore_n (lv' := [(1, .int 0), (0, .ref (g.1 + a0))]) hx hb dX8_run_49 rfl hl (by decide) rfl (fun ls hl => ?_)
    refine lv_iconst (v := 0) hx hb dX8_run_50 (by decide) ?_
    refine lv_istore_n (lv' := [(2, .int 0), (1, .int 0), (0, .ref (g.1 + a0))]) hx hb dX8_run_51 rfl hl (by decide) rfl (fun ls hl => ?_)
    refine L_52   _ ?_ F r7.2 0 0 _ _ _ hsp G (lv_sub hl [2, 1, 0] rfl)
    intro S36 z37 z38 H locs ls hsp G hl
    refine lv_aload_n hx hb dX8_run_124 rfl (lv_at hl 0 rfl) ?_
    refine hk_getI F9 G h0 hkc_6 (k := 2) (by decide) qw_272 rfl dX8_run_125 ?_
    refine lv_if_ne (tgt := 135) hx hb dX8_run_128 (by decide) (fun c39 => ?_) (fun c39 => ?_)
    · have hsp := hk_t c39 hsp
      refine lv_iconst (v := 0) hx hb dX8_run_135 (by decide) ?_
      obtain rfl := hk_s hsp
      exact W.zret (v := 0) hx hb hr (hk_z (by decide)).1 (fun t ht hW => hk_end G ht hW) G.2.1.2.2 dX8_run_136
    · have hsp := hk_g c39 hsp
      refine lv_iconst (v := 1) hx hb dX8_run_131 (by decide) ?_
      refine lv_goto (tgt := 136) hx hb dX8_run_132 (by decide) ?_
      obtain rfl := hk_s hsp
      exact W.zret (v := 1) hx hb hr (hk_z (by decide)).1 (fun t ht hW => hk_end G ht hW) G.2.1.2.2 dX8_run_136
  · have hsp := hk_f c8 hsp
    refine lv_aload_n hx hb dX8_run_34 rfl (lv_at hl 0 rfl) ?_
    refine hk_getTok F9 G 4 (x := 4) (by decide) (hk_en_ref (by decide)) qw_481 dX8_run_35 ?_
    obtain ⟨r40, er40, hsp⟩ := hk_b hsp
    refine hk_callVi (As := [hk_en (g.2.2.2 2) 4]) (rest := []) F9 G h0 hkc_6 rfl (kX8_readMark l g E F n r7.2 a0 4 r40 h0 er40) qv_RX8_67 ⟨rfl, rfl, (Nat.le_of_ble_eq_true rfl), (Nat.le_of_ble_eq_true rfl)⟩ rfl hl.1 rfl (Nat.le_of_ble_eq_true rfl) ⟨Nat.zero_le _, Nat.zero_le _⟩ dX8_run_38 (fun H locs G => ?_)
    refine lv_if_eq (tgt := 48) hx hb dX8_run_41 (by decide) (fun c41 => ?_) (fun c41 => ?_)
    · have hsp := hk_t c41 hsp
      refine lv_iconst (v := 0) hx hb dX8_run_48 (by decide) ?_
      refine lv_istore_n (lv' := [(1, .int 0), (0, .ref (g.1 + a0))]) hx hb dX8_run_49 rfl hl (by decide) rfl (fun ls hl => ?_)
      refine lv_iconst (v := 0) hx hb dX8_run_50 (by decide) ?_
      refine lv_istore_n (lv' := [(2, .int 0), (1, .int 0), (0, .ref (g.1 + a0))]) hx hb dX8_run_51 rfl hl (by decide) rfl (fun ls hl => ?_)
      refine L_52   _ ?_ F r40.2 0 0 _ _ _ hsp G (lv_sub hl [2, 1, 0] rfl)
      intro S42 z43 z44 H locs ls hsp G hl
      refine lv_aload_n hx hb dX8_run_124 rfl (lv_at hl 0 rfl) ?_
      refine hk_getI F9 G h0 hkc_6 (k := 2) (by decide) qw_272 rfl dX8_run_125 ?_
      refine lv_if_ne (tgt := 135) hx hb dX8_run_128 (by decide) (fun c45 => ?_) (fun c45 => ?_)
      · have hsp := hk_t c45 hsp
        refine lv_iconst (v := 0) hx hb dX8_run_135 (by decide) ?_
        obtain rfl := hk_s hsp
        exact W.zret (v := 0) hx hb hr (hk_z (by decide)).1 (fun t ht hW => hk_end G ht hW) G.2.1.2.2 dX8_run_136
      · have hsp := hk_g c45 hsp
        refine lv_iconst (v := 1) hx hb dX8_run_131 (by decide) ?_
        refine lv_goto (tgt := 136) hx hb dX8_run_132 (by decide) ?_
        obtain rfl := hk_s hsp
        exact W.zret (v := 1) hx hb hr (hk_z (by decide)).1 (fun t ht hW => hk_end G ht hW) G.2.1.2.2 dX8_run_136
    · have hsp := hk_f c41 hsp
      refine lv_iconst (v := 1) hx hb dX8_run_44 (by decide) ?_
      refine lv_goto (tgt := 49) hx hb dX8_run_45 (by decide) ?_
      refine lv_istore_n (lv' := [(1, .int 1), (0, .ref (g.1 + a0))]) hx hb dX8_run_49 rfl hl (by decide) rfl (fun ls hl => ?_)
      refine lv_iconst (v := 0) hx hb dX8_run_50 (by decide) ?_
      refine lv_istore_n (lv' := [(2, .int 0), (1, .int 1), (0, .ref (g.1 + a0))]) hx hb dX8_run_51 rfl hl (by decide) rfl (fun ls hl => ?_)
      refine L_52   _ ?_ F r40.2 1 0 _ _ _ hsp G (lv_sub hl [2, 1, 0] rfl)
      intro S46 z47 z48 H locs ls hsp G hl
      refine lv_aload_n hx hb dX8_run_124 rfl (lv_at hl 0 rfl) ?_
      refine hk_getI F9 G h0 hkc_6 (k := 2) (by decide) qw_272 rfl dX8_run_125 ?_
      refine lv_if_ne (tgt := 135) hx hb dX8_run_128 (by decide) (fun c49 => ?_) (fun c49 => ?_)
      · have hsp := hk_t c49 hsp
        refine lv_iconst (v := 0) hx hb dX8_run_135 (by decide) ?_
        obtain rfl := hk_s hsp
        exact W.zret (v := 0) hx hb hr (hk_z (by decide)).1 (fun t ht hW => hk_end G ht hW) G.2.1.2.2 dX8_run_136
      · have hsp := hk_g c49 hsp
        refine lv_iconst (v := 1) hx hb dX8_run_131 (by decide) ?_
        refine lv_goto (tgt := 136) hx hb dX8_run_132 (by decide) ?_
        obtain rfl := hk_s hsp
        exact W.zret (v := 1) hx hb hr (hk_z (by decide)).1 (fun t ht hW => hk_end G ht hW) G.2.1.2.2 dX8_run_136
