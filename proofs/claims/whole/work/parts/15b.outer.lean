def mX11_append (E : hk_E) (F : Nat) (S : hk_S) (a0 : Nat) (x1 : Int32) (x2 : Int32) (x3 : Int32) (x4 : Int32) (x5 : Int32) : Option (Int32 × hk_S) :=
(E.2.2.2 a0 4).bind (fun r1 => if E.2.1 r1 = 7 then ((E.2.2.2 r1 0).bind (fun r2 => if E.2.1 r2 = 3 then (if (S r2 1) ≤ 580 then ((mX4_addBytesOf E F S r2 x1).bind (fun r4 => (mX4_addBytesOf E F r4 r2 x2).bind (fun r5 => (mX4_addBytesOf E F r5 r2 x3).bind (fun r6 => (mX4_addBytesOf E F r6 r2 x4).bind (fun r7 => (mX4_addBytesOf E F r7 r2 x5).bind (fun r8 => some ((r8 r2 1), r8))))))) else (some ((-1), S))) else none)) else none)
set_option maxHeartbeats 4000000 in
set_option maxRecDepth 100000 in
theorem kX11_append (l : Launch) (g : hk_G) (E : hk_E) (F n : Nat) (S : hk_S) (a0 : Nat) (x1 : Int32) (x2 : Int32) (x3 : Int32) (x4 : Int32) (x5 : Int32) (o : Int32 × hk_S) (h0 : E.2.1 a0 = 9) (hsp : mX11_append E F S a0 x1 x2 x3 x4 x5 = some o) : Met l yX11_append (hk_ws yX11_append cX11_append 7 (Option.some Jvm.ClassFile.FieldType.int)) ({ frames := 1, cells := 0, slots := 0, locals := 22 }) (hk_Pc g E S n [.ref (g.1 + a0), .int x1, .int x2, .int x3, .int x4, .int x5]) (hk_Q g E o.2 n (some (.int o.1))) 0 0 (hk_A g) := by
  refine Met.ofW (cc := cX11_append) (maxL := 7) (ret := (Option.some Jvm.ClassFile.FieldType.int)) (by decide) rfl ?_
  intro p e s m args below meth c s₁ B hml hv
  obtain ⟨rfl, G⟩ := hk_begin hv
  have F9 : CallFix p m c cX11_append 7 s [.ref (g.1 + a0), .int x1, .int x2, .int x3, .int x4, .int x5].toArray hk_W RX11 := ⟨B.exec, B.bytes, hml, findClass_of_methodNamed B.named, fun w h => atoms_spec (ws := hk_ws yX11_append cX11_append 7 (Option.some Jvm.ClassFile.FieldType.int)) B.pre w (hk_in h)⟩
  have hx := B.exec
  have hb := B.bytes
  have hr := B.returns
  have hlocks := B.notSynchronized
  have hl := lv_entry ([.ref (g.1 + a0), .int x1, .int x2, .int x3, .int x4, .int x5]) (n := 7) (Nat.le_of_ble_eq_true rfl)
  rw [lg_entry_eq]
  generalize (lg_sl ([.ref (g.1 + a0), .int x1, .int x2, .int x3, .int x4, .int x5]) ++ List.replicate (7 - (lg_sl ([.ref (g.1 + a0), .int x1, .int x2, .int x3, .int x4, .int x5])).length) Slot.unset).toArray = ls at hl ⊢
  have hl : lv_has ls 7 [(0, .ref (g.1 + a0)), (1, .int x1), (2, .int x2), (3, .int x3), (4, .int x4), (5, .int x5)] := hl
  unfold mX11_append at hsp
  have G : hk_GG g E S n s s.heap [] := G
  refine lv_aload_n hx hb dX11_append_0 rfl (lv_at hl 0 rfl) ?_
  obtain ⟨r1, er1, hsp⟩ := hk_b hsp
  obtain ⟨kr1, hsp⟩ := hk_k hsp
  refine hk_getR F9 G h0 hkc_8 (k := 4) (by decide) qw_403 rfl er1 dX11_append_1 ?_
  obtain ⟨r2, er2, hsp⟩ := hk_b hsp
  obtain ⟨kr2, hsp⟩ := hk_k hsp
  refine hk_getR F9 G kr1 hkc_6 (k := 0) (by decide) qw_269 rfl er2 dX11_append_4 ?_
  refine lv_astore (lv' := [(6, .ref (g.1 + r2)), (0, .ref (g.1 + a0)), (1, .int x1), (2, .int x2), (3, .int x3), (4, .int x4), (5, .int x5)]) hx hb dX11_append_7  hl (by decide) rfl (fun ls hl => ?_)
  refine lv_aload hx hb dX11_append_9 (lv_at hl 0 rfl) ?_
  refine hk_getI F9 G kr2 hkc_2 (k := 1) (by decide) qw_256 rfl dX11_append_11 ?_
  refine lv_sipush (v := 580) hx hb dX11_append_14 (by decide) ?_
  refine lv_icmp_le (tgt := 22) hx hb dX11_append_17 (by decide) (fun c3 => ?_) (fun c3 => ?_)
  · have hsp := hk_t c3 hsp
    refine lv_aload hx hb dX11_append_22 (lv_at hl 0 rfl) ?_
    refine lv_iload_n hx hb dX11_append_24 rfl (lv_at hl 2 rfl) ?_
    obtain ⟨r4, er4, hsp⟩ := hk_b hsp
    refine hk_callVv (As := [.int x1]) (rest := []) F9 G kr2 hkc_2 rfl (kX4_addBytesOf l g E F n S r2 x1 r4 kr2 er4) qv_RX11_93 ⟨rfl, rfl, (Nat.le_of_ble_eq_true rfl), (Nat.le_of_ble_eq_true rfl)⟩ rfl hl.1 rfl (Nat.le_of_ble_eq_true rfl) ⟨Nat.zero_le _, Nat.zero_le _⟩ dX11_append_25 (fun H locs G => ?_)
    refine lv_aload hx hb dX11_append_28 (lv_at hl 0 rfl) ?_
    refine lv_iload_n hx hb dX11_append_30 rfl (lv_at hl 3 rfl) ?_
    obtain ⟨r5, er5, hsp⟩ := hk_b hsp
    refine hk_callVv (As := [.int x2]) (rest := []) F9 G kr2 hkc_2 rfl (kX4_addBytesOf l g E F n r4 r2 x2 r5 kr2 er5) qv_RX11_93 ⟨rfl, rfl, (Nat.le_of_ble_eq_true rfl), (Nat.le_of_ble_eq_true rfl)⟩ rfl hl.1 rfl (Nat.le_of_ble_eq_true rfl) ⟨Nat.zero_le _, Nat.zero_le _⟩ dX11_append_31 (fun H locs G => ?_)
    refine lv_aload hx hb dX11_append_34 (lv_at hl 0 rfl) ?_
    refine lv_iload_n hx hb dX11_append_36 rfl (lv_at hl 4 rfl) ?_
    obtain ⟨r6, er6, hsp⟩ := hk_b hsp
    refine hk_callVv (As := [.int x3]) (rest := []) F9 G kr2 hkc_2 rfl (kX4_addBytesOf l g E F n r5 r2 x3 r6 kr2 er6) qv_RX11_93 ⟨rfl, rfl, (Nat.le_of_ble_eq_true rfl), (Nat.le_of_ble_eq_true rfl)⟩ rfl hl.1 rfl (Nat.le_of_ble_eq_true rfl) ⟨Nat.zero_le _, Nat.zero_le _⟩ dX11_append_37 (fun H locs G => ?_)
    refine lv_aload hx hb dX11_append_40 (lv_at hl 0 rfl) ?_
    refine lv_iload hx hb dX11_append_42 (lv_at hl 5 rfl) ?_
    obtain ⟨r7, er7, hsp⟩ := hk_b hsp
    refine hk_callVv (As := [.int x4]) (rest := []) F9 G kr2 hkc_2 rfl (kX4_addBytesOf l g E F n r6 r2 x4 r7 kr2 er7) qv_RX11_93 ⟨rfl, rfl, (Nat.le_of_ble_eq_true rfl), (Nat.le_of_ble_eq_true rfl)⟩ rfl hl.1 rfl (Nat.le_of_ble_eq_true rfl) ⟨Nat.zero_le _, Nat.zero_le _⟩ dX11_append_44 (fun H locs G => ?_)
    refine lv_aload hx hb dX11_append_47 (lv_at hl 0 rfl) ?_
    refine lv_iload hx hb dX11_append_49 (lv_at hl 6 rfl) ?_
    obtain ⟨r8, er8, hsp⟩ := hk_b hsp
    refine hk_callVv (As := [.int x5]) (rest := []) F9 G kr2 hkc_2 rfl (kX4_addBytesOf l g E F n r7 r2 x5 r8 kr2 er8) qv_RX11_93 ⟨rfl, rfl, (Nat.le_of_ble_eq_true rfl), (Nat.le_of_ble_eq_true rfl)⟩ rfl hl.1 rfl (Nat.le_of_ble_eq_true rfl) ⟨Nat.zero_le _, Nat.zero_le _⟩ dX11_append_51 (fun H locs G => ?_)
    refine lv_aload hx hb dX11_append_54 (lv_at hl 0 rfl) ?_
    refine hk_getI F9 G kr2 hkc_2 (k := 1) (by decide) qw_256 rfl dX11_append_56 ?_
    obtain rfl := hk_s hsp
    exact W.iret (v := (r8 r2 1)) hx hb hr (fun t ht hW => hk_end G ht hW) G.2.1.2.2 dX11_append_59
  · have hsp := hk_f c3 hsp
    refine lv_iconst (v := (-1)) hx hb dX11_append_20 (by decide) ?_
    obtain rfl := hk_s hsp
    exact W.iret (v := (-1)) hx hb hr (fun t ht hW => hk_end G ht hW) G.2.1.2.2 dX11_append_21
def mX11_undoCount (E : hk_E) (F : Nat) (S : hk_S) (a0 : Nat) : Option (Int32 × hk_S) :=
(E.2.2.2 a0 3).bind (fun r1 => if E.2.1 r1 = 2 then (some ((S r1 2), S)) else none)
set_option maxHeartbeats 4000000 in
set_option maxRecDepth 100000 in
theorem kX11_undoCount (l : Launch) (g : hk_G) (E : hk_E) (F n : Nat) (S : hk_S) (a0 : Nat) (o : Int32 × hk_S) (h0 : E.2.1 a0 = 9) (hsp : mX11_undoCount E F S a0 = some o) : Met l yX11_undoCount (hk_ws yX11_undoCount cX11_undoCount 1 (Option.some Jvm.ClassFile.FieldType.int)) ({ frames := 0, cells := 0, slots := 0, locals := 0 }) (hk_Pc g E S n [.ref (g.1 + a0)]) (hk_Q g E o.2 n (some (.int o.1))) 0 0 (hk_A g) := by
  refine Met.ofW (cc := cX11_undoCount) (maxL := 1) (ret := (Option.some Jvm.ClassFile.FieldType.int)) (by decide) rfl ?_
  intro p e s m args below meth c s₁ B hml hv
  obtain ⟨rfl, G⟩ := hk_begin hv
  have F9 : CallFix p m c cX11_undoCount 1 s [.ref (g.1 + a0)].toArray hk_W RX11 := ⟨B.exec, B.bytes, hml, findClass_of_methodNamed B.named, fun w h => atoms_spec (ws := hk_ws yX11_undoCount cX11_undoCount 1 (Option.some Jvm.ClassFile.FieldType.int)) B.pre w (hk_in h)⟩
  have hx := B.exec
  have hb := B.bytes
  have hr := B.returns
  have hlocks := B.notSynchronized
  have hl := lv_entry ([.ref (g.1 + a0)]) (n := 1) (Nat.le_of_ble_eq_true rfl)
  rw [lg_entry_eq]
  generalize (lg_sl ([.ref (g.1 + a0)]) ++ List.replicate (1 - (lg_sl ([.ref (g.1 + a0)])).length) Slot.unset).toArray = ls at hl ⊢
  have hl : lv_has ls 1 [(0, .ref (g.1 + a0))] := hl
  unfold mX11_undoCount at hsp
  have G : hk_GG g E S n s s.heap [] := G
  refine lv_aload_n hx hb dX11_undoCount_0 rfl (lv_at hl 0 rfl) ?_
  obtain ⟨r1, er1, hsp⟩ := hk_b hsp
  obtain ⟨kr1, hsp⟩ := hk_k hsp
  refine hk_getR F9 G h0 hkc_8 (k := 3) (by decide) qw_402 rfl er1 dX11_undoCount_1 ?_
  refine hk_getI F9 G kr1 hkc_1 (k := 2) (by decide) qw_234 rfl dX11_undoCount_4 ?_
  obtain rfl := hk_s hsp
  exact W.iret (v := (S r1 2)) hx hb hr (fun t ht hW => hk_end G ht hW) G.2.1.2.2 dX11_undoCount_7
def mX11_scriptErrorKind (E : hk_E) (F : Nat) (S : hk_S) (a0 : Nat) : Option (Int32 × hk_S) :=
(E.2.2.2 a0 4).bind (fun r1 => if E.2.1 r1 = 7 then (some ((S r1 2), S)) else none)
set_option maxHeartbeats 4000000 in
set_option maxRecDepth 100000 in
theorem kX11_scriptErrorKind (l : Launch) (g : hk_G) (E : hk_E) (F n : Nat) (S : hk_S) (a0 : Nat) (o : Int32 × hk_S) (h0 : E.2.1 a0 = 9) (hsp : mX11_scriptErrorKind E F S a0 = some o) : Met l yX11_scriptErrorKind (hk_ws yX11_scriptErrorKind cX11_scriptErrorKind 1 (Option.some Jvm.ClassFile.FieldType.int)) ({ frames := 0, cells := 0, slots := 0, locals := 0 }) (hk_Pc g E S n [.ref (g.1 + a0)]) (hk_Q g E o.2 n (some (.int o.1))) 0 0 (hk_A g) := by
  refine Met.ofW (cc := cX11_scriptErrorKind) (maxL := 1) (ret := (Option.some Jvm.ClassFile.FieldType.int)) (by decide) rfl ?_
  intro p e s m args below meth c s₁ B hml hv
  obtain ⟨rfl, G⟩ := hk_begin hv
  have F9 : CallFix p m c cX11_scriptErrorKind 1 s [.ref (g.1 + a0)].toArray hk_W RX11 := ⟨B.exec, B.bytes, hml, findClass_of_methodNamed B.named, fun w h => atoms_spec (ws := hk_ws yX11_scriptErrorKind cX11_scriptErrorKind 1 (Option.some Jvm.ClassFile.FieldType.int)) B.pre w (hk_in h)⟩
  have hx := B.exec
  have hb := B.bytes
  have hr := B.returns
  have hlocks := B.notSynchronized
  have hl := lv_entry ([.ref (g.1 + a0)]) (n := 1) (Nat.le_of_ble_eq_true rfl)
  rw [lg_entry_eq]
  generalize (lg_sl ([.ref (g.1 + a0)]) ++ List.replicate (1 - (lg_sl ([.ref (g.1 + a0)])).length) Slot.unset).toArray = ls at hl ⊢
  have hl : lv_has ls 1 [(0, .ref (g.1 + a0))] := hl
  unfold mX11_scriptErrorKind at hsp
  have G : hk_GG g E S n s s.heap [] := G
  refine lv_aload_n hx hb dX11_scriptErrorKind_0 rfl (lv_at hl 0 rfl) ?_
  obtain ⟨r1, er1, hsp⟩ := hk_b hsp
  obtain ⟨kr1, hsp⟩ := hk_k hsp
  refine hk_getR F9 G h0 hkc_8 (k := 4) (by decide) qw_403 rfl er1 dX11_scriptErrorKind_1 ?_
  refine hk_getI F9 G kr1 hkc_6 (k := 2) (by decide) qw_273 rfl dX11_scriptErrorKind_4 ?_
  obtain rfl := hk_s hsp
  exact W.iret (v := (S r1 2)) hx hb hr (fun t ht hW => hk_end G ht hW) G.2.1.2.2 dX11_scriptErrorKind_7
def mX11_scriptErrorOffset (E : hk_E) (F : Nat) (S : hk_S) (a0 : Nat) : Option (Int32 × hk_S) :=
(E.2.2.2 a0 4).bind (fun r1 => if E.2.1 r1 = 7 then (if ¬ (S r1 2) = 0 then (some ((S r1 3), S)) else (some ((-1), S))) else none)
set_option maxHeartbeats 4000000 in
set_option maxRecDepth 100000 in
theorem kX11_scriptErrorOffset (l : Launch) (g : hk_G) (E : hk_E) (F n : Nat) (S : hk_S) (a0 : Nat) (o : Int32 × hk_S) (h0 : E.2.1 a0 = 9) (hsp : mX11_scriptErrorOffset E F S a0 = some o) : Met l yX11_scriptErrorOffset (hk_ws yX11_scriptErrorOffset cX11_scriptErrorOffset 1 (Option.some Jvm.ClassFile.FieldType.int)) ({ frames := 0, cells := 0, slots := 0, locals := 0 }) (hk_Pc g E S n [.ref (g.1 + a0)]) (hk_Q g E o.2 n (some (.int o.1))) 0 0 (hk_A g) := by
  refine Met.ofW (cc := cX11_scriptErrorOffset) (maxL := 1) (ret := (Option.some Jvm.ClassFile.FieldType.int)) (by decide) rfl ?_
  intro p e s m args below meth c s₁ B hml hv
  obtain ⟨rfl, G⟩ := hk_begin hv
  have F9 : CallFix p m c cX11_scriptErrorOffset 1 s [.ref (g.1 + a0)].toArray hk_W RX11 := ⟨B.exec, B.bytes, hml, findClass_of_methodNamed B.named, fun w h => atoms_spec (ws := hk_ws yX11_scriptErrorOffset cX11_scriptErrorOffset 1 (Option.some Jvm.ClassFile.FieldType.int)) B.pre w (hk_in h)⟩
  have hx := B.exec
  have hb := B.bytes
  have hr := B.returns
  have hlocks := B.notSynchronized
  have hl := lv_entry ([.ref (g.1 + a0)]) (n := 1) (Nat.le_of_ble_eq_true rfl)
  rw [lg_entry_eq]
  generalize (lg_sl ([.ref (g.1 + a0)]) ++ List.replicate (1 - (lg_sl ([.ref (g.1 + a0)])).length) Slot.unset).toArray = ls at hl ⊢
  have hl : lv_has ls 1 [(0, .ref (g.1 + a0))] := hl
  unfold mX11_scriptErrorOffset at hsp
  have G : hk_GG g E S n s s.heap [] := G
  refine lv_aload_n hx hb dX11_scriptErrorOffset_0 rfl (lv_at hl 0 rfl) ?_
  obtain ⟨r1, er1, hsp⟩ := hk_b hsp
  obtain ⟨kr1, hsp⟩ := hk_k hsp
  refine hk_getR F9 G h0 hkc_8 (k := 4) (by decide) qw_403 rfl er1 dX11_scriptErrorOffset_1 ?_
  refine hk_getI F9 G kr1 hkc_6 (k := 2) (by decide) qw_273 rfl dX11_scriptErrorOffset_4 ?_
  refine lv_if_ne (tgt := 14) hx hb dX11_scriptErrorOffset_7 (by decide) (fun c2 => ?_) (fun c2 => ?_)
  · have hsp := hk_t c2 hsp
    refine lv_aload_n hx hb dX11_scriptErrorOffset_14 rfl (lv_at hl 0 rfl) ?_
    refine hk_getR F9 G h0 hkc_8 (k := 4) (by decide) qw_403 rfl er1 dX11_scriptErrorOffset_15 ?_
    refine hk_getI F9 G kr1 hkc_6 (k := 3) (by decide) qw_275 rfl dX11_scriptErrorOffset_18 ?_
    obtain rfl := hk_s hsp
    exact W.iret (v := (S r1 3)) hx hb hr (fun t ht hW => hk_end G ht hW) G.2.1.2.2 dX11_scriptErrorOffset_21
  · have hsp := hk_g c2 hsp
    refine lv_iconst (v := (-1)) hx hb dX11_scriptErrorOffset_10 (by decide) ?_
    refine lv_goto (tgt := 21) hx hb dX11_scriptErrorOffset_11 (by decide) ?_
    obtain rfl := hk_s hsp
    exact W.iret (v := (-1)) hx hb hr (fun t ht hW => hk_end G ht hW) G.2.1.2.2 dX11_scriptErrorOffset_21
def mX11_hour (E : hk_E) (F : Nat) (S : hk_S) (a0 : Nat) : Option (Int32 × hk_S) :=
(E.2.2.2 a0 0).bind (fun r1 => if E.2.1 r1 = 4 then ((E.2.2.2 r1 0).bind (fun r2 => if E.2.1 r2 = 1 then (some ((S r2 0), S)) else none)) else none)
set_option maxHeartbeats 4000000 in
set_option maxRecDepth 100000 in
theorem kX11_hour (l : Launch) (g : hk_G) (E : hk_E) (F n : Nat) (S : hk_S) (a0 : Nat) (o : Int32 × hk_S) (h0 : E.2.1 a0 = 9) (hsp : mX11_hour E F S a0 = some o) : Met l yX11_hour (hk_ws yX11_hour cX11_hour 1 (Option.some Jvm.ClassFile.FieldType.int)) ({ frames := 0, cells := 0, slots := 0, locals := 0 }) (hk_Pc g E S n [.ref (g.1 + a0)]) (hk_Q g E o.2 n (some (.int o.1))) 0 0 (hk_A g) := by
  refine Met.ofW (cc := cX11_hour) (maxL := 1) (ret := (Option.some Jvm.ClassFile.FieldType.int)) (by decide) rfl ?_
  intro p e s m args below meth c s₁ B hml hv
  obtain ⟨rfl, G⟩ := hk_begin hv
  have F9 : CallFix p m c cX11_hour 1 s [.ref (g.1 + a0)].toArray hk_W RX11 := ⟨B.exec, B.bytes, hml, findClass_of_methodNamed B.named, fun w h => atoms_spec (ws := hk_ws yX11_hour cX11_hour 1 (Option.some Jvm.ClassFile.FieldType.int)) B.pre w (hk_in h)⟩
  have hx := B.exec
  have hb := B.bytes
  have hr := B.returns
  have hlocks := B.notSynchronized
  have hl := lv_entry ([.ref (g.1 + a0)]) (n := 1) (Nat.le_of_ble_eq_true rfl)
  rw [lg_entry_eq]
  generalize (lg_sl ([.ref (g.1 + a0)]) ++ List.replicate (1 - (lg_sl ([.ref (g.1 + a0)])).length) Slot.unset).toArray = ls at hl ⊢
  have hl : lv_has ls 1 [(0, .ref (g.1 + a0))] := hl
  unfold mX11_hour at hsp
  have G : hk_GG g E S n s s.heap [] := G
  refine lv_aload_n hx hb dX11_hour_0 rfl (lv_at hl 0 rfl) ?_
  obtain ⟨r1, er1, hsp⟩ := hk_b hsp
  obtain ⟨kr1, hsp⟩ := hk_k hsp
  refine hk_getR F9 G h0 hkc_8 (k := 0) (by decide) qw_399 rfl er1 dX11_hour_1 ?_
  obtain ⟨r2, er2, hsp⟩ := hk_b hsp
  obtain ⟨kr2, hsp⟩ := hk_k hsp
  refine hk_getR F9 G kr1 hkc_3 (k := 0) (by decide) qw_172 rfl er2 dX11_hour_4 ?_
  refine hk_getI F9 G kr2 hkc_0 (k := 0) (by decide) qw_50 rfl dX11_hour_7 ?_
  obtain rfl := hk_s hsp
  exact W.iret (v := (S r2 0)) hx hb hr (fun t ht hW => hk_end G ht hW) G.2.1.2.2 dX11_hour_10
def mX11_day (E : hk_E) (F : Nat) (S : hk_S) (a0 : Nat) : Option (Int32 × hk_S) :=
(E.2.2.2 a0 0).bind (fun r1 => if E.2.1 r1 = 4 then ((E.2.2.2 r1 0).bind (fun r2 => if E.2.1 r2 = 1 then ((mX1_presentDay E F S r2).bind (fun r3 => some (r3.1, r3.2))) else none)) else none)
set_option maxHeartbeats 4000000 in
set_option maxRecDepth 100000 in
theorem kX11_day (l : Launch) (g : hk_G) (E : hk_E) (F n : Nat) (S : hk_S) (a0 : Nat) (o : Int32 × hk_S) (h0 : E.2.1 a0 = 9) (hsp : mX11_day E F S a0 = some o) : Met l yX11_day (hk_ws yX11_day cX11_day 1 (Option.some Jvm.ClassFile.FieldType.int)) ({ frames := 1, cells := 0, slots := 0, locals := 20 }) (hk_Pc g E S n [.ref (g.1 + a0)]) (hk_Q g E o.2 n (some (.int o.1))) 0 0 (hk_A g) := by
  refine Met.ofW (cc := cX11_day) (maxL := 1) (ret := (Option.some Jvm.ClassFile.FieldType.int)) (by decide) rfl ?_
  intro p e s m args below meth c s₁ B hml hv
  obtain ⟨rfl, G⟩ := hk_begin hv
  have F9 : CallFix p m c cX11_day 1 s [.ref (g.1 + a0)].toArray hk_W RX11 := ⟨B.exec, B.bytes, hml, findClass_of_methodNamed B.named, fun w h => atoms_spec (ws := hk_ws yX11_day cX11_day 1 (Option.some Jvm.ClassFile.FieldType.int)) B.pre w (hk_in h)⟩
  have hx := B.exec
  have hb := B.bytes
  have hr := B.returns
  have hlocks := B.notSynchronized
  have hl := lv_entry ([.ref (g.1 + a0)]) (n := 1) (Nat.le_of_ble_eq_true rfl)
  rw [lg_entry_eq]
  generalize (lg_sl ([.ref (g.1 + a0)]) ++ List.replicate (1 - (lg_sl ([.ref (g.1 + a0)])).length) Slot.unset).toArray = ls at hl ⊢
  have hl : lv_has ls 1 [(0, .ref (g.1 + a0))] := hl
  unfold mX11_day at hsp
  have G : hk_GG g E S n s s.heap [] := G
  refine lv_aload_n hx hb dX11_day_0 rfl (lv_at hl 0 rfl) ?_
  obtain ⟨r1, er1, hsp⟩ := hk_b hsp
  obtain ⟨kr1, hsp⟩ := hk_k hsp
  refine hk_getR F9 G h0 hkc_8 (k := 0) (by decide) qw_399 rfl er1 dX11_day_1 ?_
  obtain ⟨r2, er2, hsp⟩ := hk_b hsp
  obtain ⟨kr2, hsp⟩ := hk_k hsp
  refine hk_getR F9 G kr1 hkc_3 (k := 0) (by decide) qw_172 rfl er2 dX11_day_4 ?_
  obtain ⟨r3, er3, hsp⟩ := hk_b hsp
  refine hk_callVi (As := []) (rest := []) F9 G kr2 hkc_0 rfl (kX1_presentDay l g E F n S r2 r3 kr2 er3) qv_RX11_142 ⟨rfl, rfl, (Nat.le_of_ble_eq_true rfl), (Nat.le_of_ble_eq_true rfl)⟩ rfl hl.1 rfl (Nat.le_of_ble_eq_true rfl) ⟨Nat.zero_le _, Nat.zero_le _⟩ dX11_day_7 (fun H locs G => ?_)
  obtain rfl := hk_s hsp
  exact W.iret (v := r3.1) hx hb hr (fun t ht hW => hk_end G ht hW) G.2.1.2.2 dX11_day_10
def mX11_dryness (E : hk_E) (F : Nat) (S : hk_S) (a0 : Nat) : Option (Int32 × hk_S) :=
(E.2.2.2 a0 0).bind (fun r1 => if E.2.1 r1 = 4 then ((E.2.2.2 r1 0).bind (fun r2 => if E.2.1 r2 = 1 then ((mX1_drynessOf E F S r2 (S r2 0)).bind (fun r3 => some (r3.1, r3.2))) else none)) else none)
set_option maxHeartbeats 4000000 in
set_option maxRecDepth 100000 in
theorem kX11_dryness (l : Launch) (g : hk_G) (E : hk_E) (F n : Nat) (S : hk_S) (a0 : Nat) (o : Int32 × hk_S) (h0 : E.2.1 a0 = 9) (hsp : mX11_dryness E F S a0 = some o) : Met l yX11_dryness (hk_ws yX11_dryness cX11_dryness 1 (Option.some Jvm.ClassFile.FieldType.int)) ({ frames := 3, cells := 0, slots := 0, locals := 65 }) (hk_Pc g E S n [.ref (g.1 + a0)]) (hk_Q g E o.2 n (some (.int o.1))) 0 0 (hk_A g) := by
  refine Met.ofW (cc := cX11_dryness) (maxL := 1) (ret := (Option.some Jvm.ClassFile.FieldType.int)) (by decide) rfl ?_
  intro p e s m args below meth c s₁ B hml hv
  obtain ⟨rfl, G⟩ := hk_begin hv
  have F9 : CallFix p m c cX11_dryness 1 s [.ref (g.1 + a0)].toArray hk_W RX11 := ⟨B.exec, B.bytes, hml, findClass_of_methodNamed B.named, fun w h => atoms_spec (ws := hk_ws yX11_dryness cX11_dryness 1 (Option.some Jvm.ClassFile.FieldType.int)) B.pre w (hk_in h)⟩
  have hx := B.exec
  have hb := B.bytes
  have hr := B.returns
  have hlocks := B.notSynchronized
  have hl := lv_entry ([.ref (g.1 + a0)]) (n := 1) (Nat.le_of_ble_eq_true rfl)
  rw [lg_entry_eq]
  generalize (lg_sl ([.ref (g.1 + a0)]) ++ List.replicate (1 - (lg_sl ([.ref (g.1 + a0)])).length) Slot.unset).toArray = ls at hl ⊢
  have hl : lv_has ls 1 [(0, .ref (g.1 + a0))] := hl
  unfold mX11_dryness at hsp
  have G : hk_GG g E S n s s.heap [] := G
  refine lv_aload_n hx hb dX11_dryness_0 rfl (lv_at hl 0 rfl) ?_
  obtain ⟨r1, er1, hsp⟩ := hk_b hsp
  obtain ⟨kr1, hsp⟩ := hk_k hsp
  refine hk_getR F9 G h0 hkc_8 (k := 0) (by decide) qw_399 rfl er1 dX11_dryness_1 ?_
  obtain ⟨r2, er2, hsp⟩ := hk_b hsp
  obtain ⟨kr2, hsp⟩ := hk_k hsp
  refine hk_getR F9 G kr1 hkc_3 (k := 0) (by decide) qw_172 rfl er2 dX11_dryness_4 ?_
  refine lv_aload_n hx hb dX11_dryness_7 rfl (lv_at hl 0 rfl) ?_
  refine hk_getR F9 G h0 hkc_8 (k := 0) (by decide) qw_399 rfl er1 dX11_dryness_8 ?_
  refine hk_getR F9 G kr1 hkc_3 (k := 0) (by decide) qw_172 rfl er2 dX11_dryness_11 ?_
  refine hk_getI F9 G kr2 hkc_0 (k := 0) (by decide) qw_50 rfl dX11_dryness_14 ?_
  obtain ⟨r3, er3, hsp⟩ := hk_b hsp
  refine hk_callVi (As := [.int (S r2 0)]) (rest := []) F9 G kr2 hkc_0 rfl (kX1_drynessOf l g E F n S r2 (S r2 0) r3 kr2 er3) qv_RX11_230 ⟨rfl, rfl, (Nat.le_of_ble_eq_true rfl), (Nat.le_of_ble_eq_true rfl)⟩ rfl hl.1 rfl (Nat.le_of_ble_eq_true rfl) ⟨Nat.zero_le _, Nat.zero_le _⟩ dX11_dryness_17 (fun H locs G => ?_)
  obtain rfl := hk_s hsp
  exact W.iret (v := r3.1) hx hb hr (fun t ht hW => hk_end G ht hW) G.2.1.2.2 dX11_dryness_20
def mX11_hoursToMonsoon (E : hk_E) (F : Nat) (S : hk_S) (a0 : Nat) : Option (Int32 × hk_S) :=
(E.2.2.2 a0 0).bind (fun r1 => if E.2.1 r1 = 4 then ((E.2.2.2 r1 0).bind (fun r2 => if E.2.1 r2 = 1 then ((mX1_hoursToNextMonsoon E F S r2).bind (fun r3 => some (r3.1, r3.2))) else none)) else none)
set_option maxHeartbeats 4000000 in
set_option maxRecDepth 100000 in
theorem kX11_hoursToMonsoon (l : Launch) (g : hk_G) (E : hk_E) (F n : Nat) (S : hk_S) (a0 : Nat) (o : Int32 × hk_S) (h0 : E.2.1 a0 = 9) (hsp : mX11_hoursToMonsoon E F S a0 = some o) : Met l yX11_hoursToMonsoon (hk_ws yX11_hoursToMonsoon cX11_hoursToMonsoon 1 (Option.some Jvm.ClassFile.FieldType.int)) ({ frames := 1, cells := 0, slots := 0, locals := 23 }) (hk_Pc g E S n [.ref (g.1 + a0)]) (hk_Q g E o.2 n (some (.int o.1))) 0 0 (hk_A g) := by
  refine Met.ofW (cc := cX11_hoursToMonsoon) (maxL := 1) (ret := (Option.some Jvm.ClassFile.FieldType.int)) (by decide) rfl ?_
  intro p e s m args below meth c s₁ B hml hv
  obtain ⟨rfl, G⟩ := hk_begin hv
  have F9 : CallFix p m c cX11_hoursToMonsoon 1 s [.ref (g.1 + a0)].toArray hk_W RX11 := ⟨B.exec, B.bytes, hml, findClass_of_methodNamed B.named, fun w h => atoms_spec (ws := hk_ws yX11_hoursToMonsoon cX11_hoursToMonsoon 1 (Option.some Jvm.ClassFile.FieldType.int)) B.pre w (hk_in h)⟩
  have hx := B.exec
  have hb := B.bytes
  have hr := B.returns
  have hlocks := B.notSynchronized
  have hl := lv_entry ([.ref (g.1 + a0)]) (n := 1) (Nat.le_of_ble_eq_true rfl)
  rw [lg_entry_eq]
  generalize (lg_sl ([.ref (g.1 + a0)]) ++ List.replicate (1 - (lg_sl ([.ref (g.1 + a0)])).length) Slot.unset).toArray = ls at hl ⊢
  have hl : lv_has ls 1 [(0, .ref (g.1 + a0))] := hl
  unfold mX11_hoursToMonsoon at hsp
  have G : hk_GG g E S n s s.heap [] := G
  refine lv_aload_n hx hb dX11_hoursToMonsoon_0 rfl (lv_at hl 0 rfl) ?_
  obtain ⟨r1, er1, hsp⟩ := hk_b hsp
  obtain ⟨kr1, hsp⟩ := hk_k hsp
  refine hk_getR F9 G h0 hkc_8 (k := 0) (by decide) qw_399 rfl er1 dX11_hoursToMonsoon_1 ?_
  obtain ⟨r2, er2, hsp⟩ := hk_b hsp
  obtain ⟨kr2, hsp⟩ := hk_k hsp
  refine hk_getR F9 G kr1 hkc_3 (k := 0) (by decide) qw_172 rfl er2 dX11_hoursToMonsoon_4 ?_
  obtain ⟨r3, er3, hsp⟩ := hk_b hsp
  refine hk_callVi (As := []) (rest := []) F9 G kr2 hkc_0 rfl (kX1_hoursToNextMonsoon l g E F n S r2 r3 kr2 er3) qv_RX11_233 ⟨rfl, rfl, (Nat.le_of_ble_eq_true rfl), (Nat.le_of_ble_eq_true rfl)⟩ rfl hl.1 rfl (Nat.le_of_ble_eq_true rfl) ⟨Nat.zero_le _, Nat.zero_le _⟩ dX11_hoursToMonsoon_7 (fun H locs G => ?_)
  obtain rfl := hk_s hsp
  exact W.iret (v := r3.1) hx hb hr (fun t ht hW => hk_end G ht hW) G.2.1.2.2 dX11_hoursToMonsoon_10
def mX11_isMonsoon (E : hk_E) (F : Nat) (S : hk_S) (a0 : Nat) : Option (Int32 × hk_S) :=
(E.2.2.2 a0 0).bind (fun r1 => if E.2.1 r1 = 4 then ((E.2.2.2 r1 0).bind (fun r2 => if E.2.1 r2 = 1 then ((mX1_hasMonsoonAt E F S r2 (S r2 0)).bind (fun r3 => if r3.1 = 0 ∨ r3.1 = 1 then (some (r3.1, r3.2)) else none)) else none)) else none)
set_option maxHeartbeats 4000000 in
set_option maxRecDepth 100000 in
theorem kX11_isMonsoon (l : Launch) (g : hk_G) (E : hk_E) (F n : Nat) (S : hk_S) (a0 : Nat) (o : Int32 × hk_S) (h0 : E.2.1 a0 = 9) (hsp : mX11_isMonsoon E F S a0 = some o) : Met l yX11_isMonsoon (hk_ws yX11_isMonsoon cX11_isMonsoon 1 (Option.some Jvm.ClassFile.FieldType.boolean)) ({ frames := 1, cells := 0, slots := 0, locals := 23 }) (hk_Pc g E S n [.ref (g.1 + a0)]) (hk_Q g E o.2 n (some (.int o.1))) 0 0 (hk_A g) := by
  refine Met.ofW (cc := cX11_isMonsoon) (maxL := 1) (ret := (Option.some Jvm.ClassFile.FieldType.boolean)) (by decide) rfl ?_
  intro p e s m args below meth c s₁ B hml hv
  obtain ⟨rfl, G⟩ := hk_begin hv
  have F9 : CallFix p m c cX11_isMonsoon 1 s [.ref (g.1 + a0)].toArray hk_W RX11 := ⟨B.exec, B.bytes, hml, findClass_of_methodNamed B.named, fun w h => atoms_spec (ws := hk_ws yX11_isMonsoon cX11_isMonsoon 1 (Option.some Jvm.ClassFile.FieldType.boolean)) B.pre w (hk_in h)⟩
  have hx := B.exec
  have hb := B.bytes
  have hr := B.returns
  have hlocks := B.notSynchronized
  have hl := lv_entry ([.ref (g.1 + a0)]) (n := 1) (Nat.le_of_ble_eq_true rfl)
  rw [lg_entry_eq]
  generalize (lg_sl ([.ref (g.1 + a0)]) ++ List.replicate (1 - (lg_sl ([.ref (g.1 + a0)])).length) Slot.unset).toArray = ls at hl ⊢
  have hl : lv_has ls 1 [(0, .ref (g.1 + a0))] := hl
  unfold mX11_isMonsoon at hsp
  have G : hk_GG g E S n s s.heap [] := G
  refine lv_aload_n hx hb dX11_isMonsoon_0 rfl (lv_at hl 0 rfl) ?_
  obtain ⟨r1, er1, hsp⟩ := hk_b hsp
  obtain ⟨kr1, hsp⟩ := hk_k hsp
  refine hk_getR F9 G h0 hkc_8 (k := 0) (by decide) qw_399 rfl er1 dX11_isMonsoon_1 ?_
  obtain ⟨r2, er2, hsp⟩ := hk_b hsp
  obtain ⟨kr2, hsp⟩ := hk_k hsp
  refine hk_getR F9 G kr1 hkc_3 (k := 0) (by decide) qw_172 rfl er2 dX11_isMonsoon_4 ?_
  refine lv_aload_n hx hb dX11_isMonsoon_7 rfl (lv_at hl 0 rfl) ?_
  refine hk_getR F9 G h0 hkc_8 (k := 0) (by decide) qw_399 rfl er1 dX11_isMonsoon_8 ?_
  refine hk_getR F9 G kr1 hkc_3 (k := 0) (by decide) qw_172 rfl er2 dX11_isMonsoon_11 ?_
  refine hk_getI F9 G kr2 hkc_0 (k := 0) (by decide) qw_50 rfl dX11_isMonsoon_14 ?_
  obtain ⟨r3, er3, hsp⟩ := hk_b hsp
  refine hk_callVi (As := [.int (S r2 0)]) (rest := []) F9 G kr2 hkc_0 rfl (kX1_hasMonsoonAt l g E F n S r2 (S r2 0) r3 kr2 er3) qv_RX11_236 ⟨rfl, rfl, (Nat.le_of_ble_eq_true rfl), (Nat.le_of_ble_eq_true rfl)⟩ rfl hl.1 rfl (Nat.le_of_ble_eq_true rfl) ⟨Nat.zero_le _, Nat.zero_le _⟩ dX11_isMonsoon_17 (fun H locs G => ?_)
  obtain ⟨q4, hsp⟩ := hk_k hsp
  obtain rfl := hk_s hsp
  exact W.zret (v := r3.1) hx hb hr (hk_z q4).1 (fun t ht hW => hk_end G ht hW) G.2.1.2.2 dX11_isMonsoon_20
def mX11_troughCount (E : hk_E) (F : Nat) (S : hk_S) (a0 : Nat) : Option (Int32 × hk_S) :=
(E.2.2.2 a0 0).bind (fun r1 => if E.2.1 r1 = 4 then (some ((S r1 2), S)) else none)
set_option maxHeartbeats 4000000 in
set_option maxRecDepth 100000 in
theorem kX11_troughCount (l : Launch) (g : hk_G) (E : hk_E) (F n : Nat) (S : hk_S) (a0 : Nat) (o : Int32 × hk_S) (h0 : E.2.1 a0 = 9) (hsp : mX11_troughCount E F S a0 = some o) : Met l yX11_troughCount (hk_ws yX11_troughCount cX11_troughCount 1 (Option.some Jvm.ClassFile.FieldType.int)) ({ frames := 0, cells := 0, slots := 0, locals := 0 }) (hk_Pc g E S n [.ref (g.1 + a0)]) (hk_Q g E o.2 n (some (.int o.1))) 0 0 (hk_A g) := by
  refine Met.ofW (cc := cX11_troughCount) (maxL := 1) (ret := (Option.some Jvm.ClassFile.FieldType.int)) (by decide) rfl ?_
  intro p e s m args below meth c s₁ B hml hv
  obtain ⟨rfl, G⟩ := hk_begin hv
  have F9 : CallFix p m c cX11_troughCount 1 s [.ref (g.1 + a0)].toArray hk_W RX11 := ⟨B.exec, B.bytes, hml, findClass_of_methodNamed B.named, fun w h => atoms_spec (ws := hk_ws yX11_troughCount cX11_troughCount 1 (Option.some Jvm.ClassFile.FieldType.int)) B.pre w (hk_in h)⟩
  have hx := B.exec
  have hb := B.bytes
  have hr := B.returns
  have hlocks := B.notSynchronized
  have hl := lv_entry ([.ref (g.1 + a0)]) (n := 1) (Nat.le_of_ble_eq_true rfl)
  rw [lg_entry_eq]
  generalize (lg_sl ([.ref (g.1 + a0)]) ++ List.replicate (1 - (lg_sl ([.ref (g.1 + a0)])).length) Slot.unset).toArray = ls at hl ⊢
  have hl : lv_has ls 1 [(0, .ref (g.1 + a0))] := hl
  unfold mX11_troughCount at hsp
  have G : hk_GG g E S n s s.heap [] := G
  refine lv_aload_n hx hb dX11_troughCount_0 rfl (lv_at hl 0 rfl) ?_
  obtain ⟨r1, er1, hsp⟩ := hk_b hsp
  obtain ⟨kr1, hsp⟩ := hk_k hsp
  refine hk_getR F9 G h0 hkc_8 (k := 0) (by decide) qw_399 rfl er1 dX11_troughCount_1 ?_
  refine hk_getI F9 G kr1 hkc_3 (k := 2) (by decide) qw_177 rfl dX11_troughCount_4 ?_
  obtain rfl := hk_s hsp
  exact W.iret (v := (S r1 2)) hx hb hr (fun t ht hW => hk_end G ht hW) G.2.1.2.2 dX11_troughCount_7
def mX11_probeCount (E : hk_E) (F : Nat) (S : hk_S) (a0 : Nat) : Option (Int32 × hk_S) :=
(E.2.2.2 a0 0).bind (fun r1 => if E.2.1 r1 = 4 then (some ((S r1 4), S)) else none)
set_option maxHeartbeats 4000000 in
set_option maxRecDepth 100000 in
theorem kX11_probeCount (l : Launch) (g : hk_G) (E : hk_E) (F n : Nat) (S : hk_S) (a0 : Nat) (o : Int32 × hk_S) (h0 : E.2.1 a0 = 9) (hsp : mX11_probeCount E F S a0 = some o) : Met l yX11_probeCount (hk_ws yX11_probeCount cX11_probeCount 1 (Option.some Jvm.ClassFile.FieldType.int)) ({ frames := 0, cells := 0, slots := 0, locals := 0 }) (hk_Pc g E S n [.ref (g.1 + a0)]) (hk_Q g E o.2 n (some (.int o.1))) 0 0 (hk_A g) := by
  refine Met.ofW (cc := cX11_probeCount) (maxL := 1) (ret := (Option.some Jvm.ClassFile.FieldType.int)) (by decide) rfl ?_
  intro p e s m args below meth c s₁ B hml hv
  obtain ⟨rfl, G⟩ := hk_begin hv
  have F9 : CallFix p m c cX11_probeCount 1 s [.ref (g.1 + a0)].toArray hk_W RX11 := ⟨B.exec, B.bytes, hml, findClass_of_methodNamed B.named, fun w h => atoms_spec (ws := hk_ws yX11_probeCount cX11_probeCount 1 (Option.some Jvm.ClassFile.FieldType.int)) B.pre w (hk_in h)⟩
  have hx := B.exec
  have hb := B.bytes
  have hr := B.returns
  have hlocks := B.notSynchronized
  have hl := lv_entry ([.ref (g.1 + a0)]) (n := 1) (Nat.le_of_ble_eq_true rfl)
  rw [lg_entry_eq]
  generalize (lg_sl ([.ref (g.1 + a0)]) ++ List.replicate (1 - (lg_sl ([.ref (g.1 + a0)])).length) Slot.unset).toArray = ls at hl ⊢
  have hl : lv_has ls 1 [(0, .ref (g.1 + a0))] := hl
  unfold mX11_probeCount at hsp
  have G : hk_GG g E S n s s.heap [] := G
  refine lv_aload_n hx hb dX11_probeCount_0 rfl (lv_at hl 0 rfl) ?_
  obtain ⟨r1, er1, hsp⟩ := hk_b hsp
  obtain ⟨kr1, hsp⟩ := hk_k hsp
  refine hk_getR F9 G h0 hkc_8 (k := 0) (by decide) qw_399 rfl er1 dX11_probeCount_1 ?_
  refine hk_getI F9 G kr1 hkc_3 (k := 4) (by decide) qw_182 rfl dX11_probeCount_4 ?_
  obtain rfl := hk_s hsp
  exact W.iret (v := (S r1 4)) hx hb hr (fun t ht hW => hk_end G ht hW) G.2.1.2.2 dX11_probeCount_7
def mX11_dischargedKilograms (E : hk_E) (F : Nat) (S : hk_S) (a0 : Nat) : Option (Int32 × hk_S) :=
(E.2.2.2 a0 0).bind (fun r1 => if E.2.1 r1 = 4 then (some ((S r1 8), S)) else none)
set_option maxHeartbeats 4000000 in
set_option maxRecDepth 100000 in
theorem kX11_dischargedKilograms (l : Launch) (g : hk_G) (E : hk_E) (F n : Nat) (S : hk_S) (a0 : Nat) (o : Int32 × hk_S) (h0 : E.2.1 a0 = 9) (hsp : mX11_dischargedKilograms E F S a0 = some o) : Met l yX11_dischargedKilograms (hk_ws yX11_dischargedKilograms cX11_dischargedKilograms 1 (Option.some Jvm.ClassFile.FieldType.int)) ({ frames := 0, cells := 0, slots := 0, locals := 0 }) (hk_Pc g E S n [.ref (g.1 + a0)]) (hk_Q g E o.2 n (some (.int o.1))) 0 0 (hk_A g) := by
  refine Met.ofW (cc := cX11_dischargedKilograms) (maxL := 1) (ret := (Option.some Jvm.ClassFile.FieldType.int)) (by decide) rfl ?_
  intro p e s m args below meth c s₁ B hml hv
  obtain ⟨rfl, G⟩ := hk_begin hv
  have F9 : CallFix p m c cX11_dischargedKilograms 1 s [.ref (g.1 + a0)].toArray hk_W RX11 := ⟨B.exec, B.bytes, hml, findClass_of_methodNamed B.named, fun w h => atoms_spec (ws := hk_ws yX11_dischargedKilograms cX11_dischargedKilograms 1 (Option.some Jvm.ClassFile.FieldType.int)) B.pre w (hk_in h)⟩
  have hx := B.exec
  have hb := B.bytes
  have hr := B.returns
  have hlocks := B.notSynchronized
  have hl := lv_entry ([.ref (g.1 + a0)]) (n := 1) (Nat.le_of_ble_eq_true rfl)
  rw [lg_entry_eq]
  generalize (lg_sl ([.ref (g.1 + a0)]) ++ List.replicate (1 - (lg_sl ([.ref (g.1 + a0)])).length) Slot.unset).toArray = ls at hl ⊢
  have hl : lv_has ls 1 [(0, .ref (g.1 + a0))] := hl
  unfold mX11_dischargedKilograms at hsp
  have G : hk_GG g E S n s s.heap [] := G
  refine lv_aload_n hx hb dX11_dischargedKilograms_0 rfl (lv_at hl 0 rfl) ?_
  obtain ⟨r1, er1, hsp⟩ := hk_b hsp
  obtain ⟨kr1, hsp⟩ := hk_k hsp
  refine hk_getR F9 G h0 hkc_8 (k := 0) (by decide) qw_399 rfl er1 dX11_dischargedKilograms_1 ?_
  refine hk_getI F9 G kr1 hkc_3 (k := 8) (by decide) qw_187 rfl dX11_dischargedKilograms_4 ?_
  obtain rfl := hk_s hsp
  exact W.iret (v := (S r1 8)) hx hb hr (fun t ht hW => hk_end G ht hW) G.2.1.2.2 dX11_dischargedKilograms_7
def mX11_discardedKilograms (E : hk_E) (F : Nat) (S : hk_S) (a0 : Nat) : Option (Int32 × hk_S) :=
(E.2.2.2 a0 0).bind (fun r1 => if E.2.1 r1 = 4 then (some ((S r1 9), S)) else none)
set_option maxHeartbeats 4000000 in
set_option maxRecDepth 100000 in
theorem kX11_discardedKilograms (l : Launch) (g : hk_G) (E : hk_E) (F n : Nat) (S : hk_S) (a0 : Nat) (o : Int32 × hk_S) (h0 : E.2.1 a0 = 9) (hsp : mX11_discardedKilograms E F S a0 = some o) : Met l yX11_discardedKilograms (hk_ws yX11_discardedKilograms cX11_discardedKilograms 1 (Option.some Jvm.ClassFile.FieldType.int)) ({ frames := 0, cells := 0, slots := 0, locals := 0 }) (hk_Pc g E S n [.ref (g.1 + a0)]) (hk_Q g E o.2 n (some (.int o.1))) 0 0 (hk_A g) := by
  refine Met.ofW (cc := cX11_discardedKilograms) (maxL := 1) (ret := (Option.some Jvm.ClassFile.FieldType.int)) (by decide) rfl ?_
  intro p e s m args below meth c s₁ B hml hv
  obtain ⟨rfl, G⟩ := hk_begin hv
  have F9 : CallFix p m c cX11_discardedKilograms 1 s [.ref (g.1 + a0)].toArray hk_W RX11 := ⟨B.exec, B.bytes, hml, findClass_of_methodNamed B.named, fun w h => atoms_spec (ws := hk_ws yX11_discardedKilograms cX11_discardedKilograms 1 (Option.some Jvm.ClassFile.FieldType.int)) B.pre w (hk_in h)⟩
  have hx := B.exec
  have hb := B.bytes
  have hr := B.returns
  have hlocks := B.notSynchronized
  have hl := lv_entry ([.ref (g.1 + a0)]) (n := 1) (Nat.le_of_ble_eq_true rfl)
  rw [lg_entry_eq]
  generalize (lg_sl ([.ref (g.1 + a0)]) ++ List.replicate (1 - (lg_sl ([.ref (g.1 + a0)])).length) Slot.unset).toArray = ls at hl ⊢
  have hl : lv_has ls 1 [(0, .ref (g.1 + a0))] := hl
  unfold mX11_discardedKilograms at hsp
  have G : hk_GG g E S n s s.heap [] := G
  refine lv_aload_n hx hb dX11_discardedKilograms_0 rfl (lv_at hl 0 rfl) ?_
  obtain ⟨r1, er1, hsp⟩ := hk_b hsp
  obtain ⟨kr1, hsp⟩ := hk_k hsp
  refine hk_getR F9 G h0 hkc_8 (k := 0) (by decide) qw_399 rfl er1 dX11_discardedKilograms_1 ?_
  refine hk_getI F9 G kr1 hkc_3 (k := 9) (by decide) qw_189 rfl dX11_discardedKilograms_4 ?_
  obtain rfl := hk_s hsp
  exact W.iret (v := (S r1 9)) hx hb hr (fun t ht hW => hk_end G ht hW) G.2.1.2.2 dX11_discardedKilograms_7
def mX11_totalWorth (E : hk_E) (F : Nat) (S : hk_S) (a0 : Nat) : Option (Int32 × hk_S) :=
(E.2.2.2 a0 0).bind (fun r1 => if E.2.1 r1 = 4 then (some ((S r1 11), S)) else none)
set_option maxHeartbeats 4000000 in
set_option maxRecDepth 100000 in
theorem kX11_totalWorth (l : Launch) (g : hk_G) (E : hk_E) (F n : Nat) (S : hk_S) (a0 : Nat) (o : Int32 × hk_S) (h0 : E.2.1 a0 = 9) (hsp : mX11_totalWorth E F S a0 = some o) : Met l yX11_totalWorth (hk_ws yX11_totalWorth cX11_totalWorth 1 (Option.some Jvm.ClassFile.FieldType.int)) ({ frames := 0, cells := 0, slots := 0, locals := 0 }) (hk_Pc g E S n [.ref (g.1 + a0)]) (hk_Q g E o.2 n (some (.int o.1))) 0 0 (hk_A g) := by
  refine Met.ofW (cc := cX11_totalWorth) (maxL := 1) (ret := (Option.some Jvm.ClassFile.FieldType.int)) (by decide) rfl ?_
  intro p e s m args below meth c s₁ B hml hv
  obtain ⟨rfl, G⟩ := hk_begin hv
  have F9 : CallFix p m c cX11_totalWorth 1 s [.ref (g.1 + a0)].toArray hk_W RX11 := ⟨B.exec, B.bytes, hml, findClass_of_methodNamed B.named, fun w h => atoms_spec (ws := hk_ws yX11_totalWorth cX11_totalWorth 1 (Option.some Jvm.ClassFile.FieldType.int)) B.pre w (hk_in h)⟩
  have hx := B.exec
  have hb := B.bytes
  have hr := B.returns
  have hlocks := B.notSynchronized
  have hl := lv_entry ([.ref (g.1 + a0)]) (n := 1) (Nat.le_of_ble_eq_true rfl)
  rw [lg_entry_eq]
  generalize (lg_sl ([.ref (g.1 + a0)]) ++ List.replicate (1 - (lg_sl ([.ref (g.1 + a0)])).length) Slot.unset).toArray = ls at hl ⊢
  have hl : lv_has ls 1 [(0, .ref (g.1 + a0))] := hl
  unfold mX11_totalWorth at hsp
  have G : hk_GG g E S n s s.heap [] := G
  refine lv_aload_n hx hb dX11_totalWorth_0 rfl (lv_at hl 0 rfl) ?_
  obtain ⟨r1, er1, hsp⟩ := hk_b hsp
  obtain ⟨kr1, hsp⟩ := hk_k hsp
  refine hk_getR F9 G h0 hkc_8 (k := 0) (by decide) qw_399 rfl er1 dX11_totalWorth_1 ?_
  refine hk_getI F9 G kr1 hkc_3 (k := 11) (by decide) qw_192 rfl dX11_totalWorth_4 ?_
  obtain rfl := hk_s hsp
  exact W.iret (v := (S r1 11)) hx hb hr (fun t ht hW => hk_end G ht hW) G.2.1.2.2 dX11_totalWorth_7
def mX11_lostWater (E : hk_E) (F : Nat) (S : hk_S) (a0 : Nat) : Option (Int32 × hk_S) :=
(E.2.2.2 a0 0).bind (fun r1 => if E.2.1 r1 = 4 then (some ((S r1 12), S)) else none)
set_option maxHeartbeats 4000000 in
set_option maxRecDepth 100000 in
theorem kX11_lostWater (l : Launch) (g : hk_G) (E : hk_E) (F n : Nat) (S : hk_S) (a0 : Nat) (o : Int32 × hk_S) (h0 : E.2.1 a0 = 9) (hsp : mX11_lostWater E F S a0 = some o) : Met l yX11_lostWater (hk_ws yX11_lostWater cX11_lostWater 1 (Option.some Jvm.ClassFile.FieldType.int)) ({ frames := 0, cells := 0, slots := 0, locals := 0 }) (hk_Pc g E S n [.ref (g.1 + a0)]) (hk_Q g E o.2 n (some (.int o.1))) 0 0 (hk_A g) := by
  refine Met.ofW (cc := cX11_lostWater) (maxL := 1) (ret := (Option.some Jvm.ClassFile.FieldType.int)) (by decide) rfl ?_
  intro p e s m args below meth c s₁ B hml hv
  obtain ⟨rfl, G⟩ := hk_begin hv
  have F9 : CallFix p m c cX11_lostWater 1 s [.ref (g.1 + a0)].toArray hk_W RX11 := ⟨B.exec, B.bytes, hml, findClass_of_methodNamed B.named, fun w h => atoms_spec (ws := hk_ws yX11_lostWater cX11_lostWater 1 (Option.some Jvm.ClassFile.FieldType.int)) B.pre w (hk_in h)⟩
  have hx := B.exec
  have hb := B.bytes
  have hr := B.returns
  have hlocks := B.notSynchronized
  have hl := lv_entry ([.ref (g.1 + a0)]) (n := 1) (Nat.le_of_ble_eq_true rfl)
  rw [lg_entry_eq]
  generalize (lg_sl ([.ref (g.1 + a0)]) ++ List.replicate (1 - (lg_sl ([.ref (g.1 + a0)])).length) Slot.unset).toArray = ls at hl ⊢
  have hl : lv_has ls 1 [(0, .ref (g.1 + a0))] := hl
  unfold mX11_lostWater at hsp
  have G : hk_GG g E S n s s.heap [] := G
  refine lv_aload_n hx hb dX11_lostWater_0 rfl (lv_at hl 0 rfl) ?_
  obtain ⟨r1, er1, hsp⟩ := hk_b hsp
  obtain ⟨kr1, hsp⟩ := hk_k hsp
  refine hk_getR F9 G h0 hkc_8 (k := 0) (by decide) qw_399 rfl er1 dX11_lostWater_1 ?_
  refine hk_getI F9 G kr1 hkc_3 (k := 12) (by decide) qw_194 rfl dX11_lostWater_4 ?_
  obtain rfl := hk_s hsp
  exact W.iret (v := (S r1 12)) hx hb hr (fun t ht hW => hk_end G ht hW) G.2.1.2.2 dX11_lostWater_7
def mX11_reportByte (E : hk_E) (F : Nat) (S : hk_S) (a0 : Nat) (x1 : Int32) : Option (Int32 × hk_S) :=
(E.2.2.2 a0 5).bind (fun r1 => if E.2.1 r1 = 6 then ((mX7_byteAt E F S r1 x1).bind (fun r2 => some (r2.1, r2.2))) else none)
set_option maxHeartbeats 4000000 in
set_option maxRecDepth 100000 in
theorem kX11_reportByte (l : Launch) (g : hk_G) (E : hk_E) (F n : Nat) (S : hk_S) (a0 : Nat) (x1 : Int32) (o : Int32 × hk_S) (h0 : E.2.1 a0 = 9) (hsp : mX11_reportByte E F S a0 x1 = some o) : Met l yX11_reportByte (hk_ws yX11_reportByte cX11_reportByte 2 (Option.some Jvm.ClassFile.FieldType.int)) ({ frames := 1, cells := 0, slots := 0, locals := 21 }) (hk_Pc g E S n [.ref (g.1 + a0), .int x1]) (hk_Q g E o.2 n (some (.int o.1))) 0 0 (hk_A g) := by
  refine Met.ofW (cc := cX11_reportByte) (maxL := 2) (ret := (Option.some Jvm.ClassFile.FieldType.int)) (by decide) rfl ?_
  intro p e s m args below meth c s₁ B hml hv
  obtain ⟨rfl, G⟩ := hk_begin hv
  have F9 : CallFix p m c cX11_reportByte 2 s [.ref (g.1 + a0), .int x1].toArray hk_W RX11 := ⟨B.exec, B.bytes, hml, findClass_of_methodNamed B.named, fun w h => atoms_spec (ws := hk_ws yX11_reportByte cX11_reportByte 2 (Option.some Jvm.ClassFile.FieldType.int)) B.pre w (hk_in h)⟩
  have hx := B.exec
  have hb := B.bytes
  have hr := B.returns
  have hlocks := B.notSynchronized
  have hl := lv_entry ([.ref (g.1 + a0), .int x1]) (n := 2) (Nat.le_of_ble_eq_true rfl)
  rw [lg_entry_eq]
  generalize (lg_sl ([.ref (g.1 + a0), .int x1]) ++ List.replicate (2 - (lg_sl ([.ref (g.1 + a0), .int x1])).length) Slot.unset).toArray = ls at hl ⊢
  have hl : lv_has ls 2 [(0, .ref (g.1 + a0)), (1, .int x1)] := hl
  unfold mX11_reportByte at hsp
  have G : hk_GG g E S n s s.heap [] := G
  refine lv_aload_n hx hb dX11_reportByte_0 rfl (lv_at hl 0 rfl) ?_
  obtain ⟨r1, er1, hsp⟩ := hk_b hsp
  obtain ⟨kr1, hsp⟩ := hk_k hsp
  refine hk_getR F9 G h0 hkc_8 (k := 5) (by decide) qw_404 rfl er1 dX11_reportByte_1 ?_
  refine lv_iload_n hx hb dX11_reportByte_4 rfl (lv_at hl 1 rfl) ?_
  obtain ⟨r2, er2, hsp⟩ := hk_b hsp
  refine hk_callVi (As := [.int x1]) (rest := []) F9 G kr1 hkc_5 rfl (kX7_byteAt l g E F n S r1 x1 r2 kr1 er2) qv_RX11_315 ⟨rfl, rfl, (Nat.le_of_ble_eq_true rfl), (Nat.le_of_ble_eq_true rfl)⟩ rfl hl.1 rfl (Nat.le_of_ble_eq_true rfl) ⟨Nat.zero_le _, Nat.zero_le _⟩ dX11_reportByte_5 (fun H locs G => ?_)
  obtain rfl := hk_s hsp
  exact W.iret (v := r2.1) hx hb hr (fun t ht hW => hk_end G ht hW) G.2.1.2.2 dX11_reportByte_8
def mX11_saveSnapshot (E : hk_E) (F : Nat) (S : hk_S) (a0 : Nat) : Option (Int32 × hk_S) :=
(E.2.2.2 a0 1).bind (fun r1 => if E.2.1 r1 = 4 then ((E.2.2.2 a0 0).bind (fun r2 => if E.2.1 r2 = 4 then ((mX5_become E F S r1 r2).bind (fun r3 => hk_let (hk_up r3 a0 2 1) (fun S4 => (E.2.2.2 r2 0).bind (fun r5 => if E.2.1 r5 = 1 then (some ((S4 r5 0), S4)) else none)))) else none)) else none)
set_option maxHeartbeats 4000000 in
set_option maxRecDepth 100000 in
theorem kX11_saveSnapshot (l : Launch) (g : hk_G) (E : hk_E) (F n : Nat) (S : hk_S) (a0 : Nat) (o : Int32 × hk_S) (h0 : E.2.1 a0 = 9) (hsp : mX11_saveSnapshot E F S a0 = some o) : Met l yX11_saveSnapshot (hk_ws yX11_saveSnapshot cX11_saveSnapshot 1 (Option.some Jvm.ClassFile.FieldType.int)) ({ frames := 2, cells := 0, slots := 0, locals := 44 }) (hk_Pc g E S n [.ref (g.1 + a0)]) (hk_Q g E o.2 n (some (.int o.1))) 0 0 (hk_A g) := by
  refine Met.ofW (cc := cX11_saveSnapshot) (maxL := 1) (ret := (Option.some Jvm.ClassFile.FieldType.int)) (by decide) rfl ?_
  intro p e s m args below meth c s₁ B hml hv
  obtain ⟨rfl, G⟩ := hk_begin hv
  have F9 : CallFix p m c cX11_saveSnapshot 1 s [.ref (g.1 + a0)].toArray hk_W RX11 := ⟨B.exec, B.bytes, hml, findClass_of_methodNamed B.named, fun w h => atoms_spec (ws := hk_ws yX11_saveSnapshot cX11_saveSnapshot 1 (Option.some Jvm.ClassFile.FieldType.int)) B.pre w (hk_in h)⟩
  have hx := B.exec
  have hb := B.bytes
  have hr := B.returns
  have hlocks := B.notSynchronized
  have hl := lv_entry ([.ref (g.1 + a0)]) (n := 1) (Nat.le_of_ble_eq_true rfl)
  rw [lg_entry_eq]
  generalize (lg_sl ([.ref (g.1 + a0)]) ++ List.replicate (1 - (lg_sl ([.ref (g.1 + a0)])).length) Slot.unset).toArray = ls at hl ⊢
  have hl : lv_has ls 1 [(0, .ref (g.1 + a0))] := hl
  unfold mX11_saveSnapshot at hsp
  have G : hk_GG g E S n s s.heap [] := G
  refine lv_aload_n hx hb dX11_saveSnapshot_0 rfl (lv_at hl 0 rfl) ?_
  obtain ⟨r1, er1, hsp⟩ := hk_b hsp
  obtain ⟨kr1, hsp⟩ := hk_k hsp
  refine hk_getR F9 G h0 hkc_8 (k := 1) (by decide) qw_400 rfl er1 dX11_saveSnapshot_1 ?_
  refine lv_aload_n hx hb dX11_saveSnapshot_4 rfl (lv_at hl 0 rfl) ?_
  obtain ⟨r2, er2, hsp⟩ := hk_b hsp
  obtain ⟨kr2, hsp⟩ := hk_k hsp
  refine hk_getR F9 G h0 hkc_8 (k := 0) (by decide) qw_399 rfl er2 dX11_saveSnapshot_5 ?_
  obtain ⟨r3, er3, hsp⟩ := hk_b hsp
  refine hk_callVv (As := [.ref (g.1 + r2)]) (rest := []) F9 G kr1 hkc_3 rfl (kX5_become l g E F n S r1 r2 r3 kr1 kr2 er3) qv_RX11_111 ⟨rfl, rfl, (Nat.le_of_ble_eq_true rfl), (Nat.le_of_ble_eq_true rfl)⟩ rfl hl.1 rfl (Nat.le_of_ble_eq_true rfl) ⟨Nat.zero_le _, Nat.zero_le _⟩ dX11_saveSnapshot_8 (fun H locs G => ?_)
  refine lv_aload_n hx hb dX11_saveSnapshot_11 rfl (lv_at hl 0 rfl) ?_
  refine lv_iconst (v := 1) hx hb dX11_saveSnapshot_12 (by decide) ?_
  obtain ⟨S4, eS4, hsp⟩ := hk_l hsp
  refine hk_putI F9 G h0 hkc_8 (k := 2) (by decide) qw_401 rfl rfl (tyX11_ok 2 (by decide)) (hk_z (by decide)).1 (hk_z (by decide)).2 dX11_saveSnapshot_13 (fun H locs G => ?_)
  rw [eS4] at G
  refine lv_aload_n hx hb dX11_saveSnapshot_16 rfl (lv_at hl 0 rfl) ?_
  refine hk_getR F9 G h0 hkc_8 (k := 0) (by decide) qw_399 rfl er2 dX11_saveSnapshot_17 ?_
  obtain ⟨r5, er5, hsp⟩ := hk_b hsp
  obtain ⟨kr5, hsp⟩ := hk_k hsp
  refine hk_getR F9 G kr2 hkc_3 (k := 0) (by decide) qw_172 rfl er5 dX11_saveSnapshot_20 ?_
  refine hk_getI F9 G kr5 hkc_0 (k := 0) (by decide) qw_50 rfl dX11_saveSnapshot_23 ?_
  obtain rfl := hk_s hsp
  exact W.iret (v := (S4 r5 0)) hx hb hr (fun t ht hW => hk_end G ht hW) G.2.1.2.2 dX11_saveSnapshot_26
def mX11_readyTroughs (E : hk_E) (F : Nat) (S : hk_S) (a0 : Nat) : Option (Int32 × hk_S) :=
(E.2.2.2 a0 0).bind (fun r1 => if E.2.1 r1 = 4 then ((mX5_setOfReady E F S r1).bind (fun r2 => some (r2.1, r2.2))) else none)
set_option maxHeartbeats 4000000 in
set_option maxRecDepth 100000 in
theorem kX11_readyTroughs (l : Launch) (g : hk_G) (E : hk_E) (F n : Nat) (S : hk_S) (a0 : Nat) (o : Int32 × hk_S) (h0 : E.2.1 a0 = 9) (hsp : mX11_readyTroughs E F S a0 = some o) : Met l yX11_readyTroughs (hk_ws yX11_readyTroughs cX11_readyTroughs 1 (Option.some Jvm.ClassFile.FieldType.int)) ({ frames := 3, cells := 0, slots := 0, locals := 64 }) (hk_Pc g E S n [.ref (g.1 + a0)]) (hk_Q g E o.2 n (some (.int o.1))) 0 0 (hk_A g) := by
  refine Met.ofW (cc := cX11_readyTroughs) (maxL := 1) (ret := (Option.some Jvm.ClassFile.FieldType.int)) (by decide) rfl ?_
  intro p e s m args below meth c s₁ B hml hv
  obtain ⟨rfl, G⟩ := hk_begin hv
  have F9 : CallFix p m c cX11_readyTroughs 1 s [.ref (g.1 + a0)].toArray hk_W RX11 := ⟨B.exec, B.bytes, hml, findClass_of_methodNamed B.named, fun w h => atoms_spec (ws := hk_ws yX11_readyTroughs cX11_readyTroughs 1 (Option.some Jvm.ClassFile.FieldType.int)) B.pre w (hk_in h)⟩
  have hx := B.exec
  have hb := B.bytes
  have hr := B.returns
  have hlocks := B.notSynchronized
  have hl := lv_entry ([.ref (g.1 + a0)]) (n := 1) (Nat.le_of_ble_eq_true rfl)
  rw [lg_entry_eq]
  generalize (lg_sl ([.ref (g.1 + a0)]) ++ List.replicate (1 - (lg_sl ([.ref (g.1 + a0)])).length) Slot.unset).toArray = ls at hl ⊢
  have hl : lv_has ls 1 [(0, .ref (g.1 + a0))] := hl
  unfold mX11_readyTroughs at hsp
  have G : hk_GG g E S n s s.heap [] := G
  refine lv_aload_n hx hb dX11_readyTroughs_0 rfl (lv_at hl 0 rfl) ?_
  obtain ⟨r1, er1, hsp⟩ := hk_b hsp
  obtain ⟨kr1, hsp⟩ := hk_k hsp
  refine hk_getR F9 G h0 hkc_8 (k := 0) (by decide) qw_399 rfl er1 dX11_readyTroughs_1 ?_
  obtain ⟨r2, er2, hsp⟩ := hk_b hsp
  refine hk_callVi (As := []) (rest := []) F9 G kr1 hkc_3 rfl (kX5_setOfReady l g E F n S r1 r2 kr1 er2) qv_RX11_156 ⟨rfl, rfl, (Nat.le_of_ble_eq_true rfl), (Nat.le_of_ble_eq_true rfl)⟩ rfl hl.1 rfl (Nat.le_of_ble_eq_true rfl) ⟨Nat.zero_le _, Nat.zero_le _⟩ dX11_readyTroughs_4 (fun H locs G => ?_)
  obtain rfl := hk_s hsp
  exact W.iret (v := r2.1) hx hb hr (fun t ht hW => hk_end G ht hW) G.2.1.2.2 dX11_readyTroughs_7
def mX11_meanMoisture (E : hk_E) (F : Nat) (S : hk_S) (a0 : Nat) : Option (UInt64 × hk_S) :=
(E.2.2.2 a0 0).bind (fun r1 => if E.2.1 r1 = 4 then ((mX5_countWithLeaf E F S r1).bind (fun r2 => hk_let (2 * r2.1) (fun y3 => if ¬ y3 = 0 then ((mX5_sumOfMoistures E F r2.2 r1).bind (fun r5 => if (FP.ddiv (FP.i2d r5.1) (FP.i2d y3)) &&& 0x7fffffffffffffff ≤ 0x7ff0000000000000 then (some ((FP.ddiv (FP.i2d r5.1) (FP.i2d y3)), r5.2)) else none)) else (some (FP.dconst0, r2.2))))) else none)
set_option maxHeartbeats 4000000 in
set_option maxRecDepth 100000 in
theorem kX11_meanMoisture (l : Launch) (g : hk_G) (E : hk_E) (F n : Nat) (S : hk_S) (a0 : Nat) (o : UInt64 × hk_S) (h0 : E.2.1 a0 = 9) (hsp : mX11_meanMoisture E F S a0 = some o) : Met l yX11_meanMoisture (hk_ws yX11_meanMoisture cX11_meanMoisture 2 (Option.some Jvm.ClassFile.FieldType.double)) ({ frames := 2, cells := 0, slots := 0, locals := 42 }) (hk_Pc g E S n [.ref (g.1 + a0)]) (hk_Q g E o.2 n (some (.double o.1))) 0 0 (hk_A g) := by
  refine Met.ofW (cc := cX11_meanMoisture) (maxL := 2) (ret := (Option.some Jvm.ClassFile.FieldType.double)) (by decide) rfl ?_
  intro p e s m args below meth c s₁ B hml hv
  obtain ⟨rfl, G⟩ := hk_begin hv
  have F9 : CallFix p m c cX11_meanMoisture 2 s [.ref (g.1 + a0)].toArray hk_W RX11 := ⟨B.exec, B.bytes, hml, findClass_of_methodNamed B.named, fun w h => atoms_spec (ws := hk_ws yX11_meanMoisture cX11_meanMoisture 2 (Option.some Jvm.ClassFile.FieldType.double)) B.pre w (hk_in h)⟩
  have hx := B.exec
  have hb := B.bytes
  have hr := B.returns
  have hlocks := B.notSynchronized
  have hl := lv_entry ([.ref (g.1 + a0)]) (n := 2) (Nat.le_of_ble_eq_true rfl)
  rw [lg_entry_eq]
  generalize (lg_sl ([.ref (g.1 + a0)]) ++ List.replicate (2 - (lg_sl ([.ref (g.1 + a0)])).length) Slot.unset).toArray = ls at hl ⊢
  have hl : lv_has ls 2 [(0, .ref (g.1 + a0))] := hl
  unfold mX11_meanMoisture at hsp
  have G : hk_GG g E S n s s.heap [] := G
  refine lv_iconst (v := 2) hx hb dX11_meanMoisture_0 (by decide) ?_
  refine lv_aload_n hx hb dX11_meanMoisture_1 rfl (lv_at hl 0 rfl) ?_
  obtain ⟨r1, er1, hsp⟩ := hk_b hsp
  obtain ⟨kr1, hsp⟩ := hk_k hsp
  refine hk_getR F9 G h0 hkc_8 (k := 0) (by decide) qw_399 rfl er1 dX11_meanMoisture_2 ?_
  obtain ⟨r2, er2, hsp⟩ := hk_b hsp
  refine hk_callVi (As := []) (rest := [.int 2]) F9 G kr1 hkc_3 rfl (kX5_countWithLeaf l g E F n S r1 r2 kr1 er2) qv_RX11_302 ⟨rfl, rfl, (Nat.le_of_ble_eq_true rfl), (Nat.le_of_ble_eq_true rfl)⟩ rfl hl.1 rfl (Nat.le_of_ble_eq_true rfl) ⟨Nat.zero_le _, Nat.zero_le _⟩ dX11_meanMoisture_5 (fun H locs G => ?_)
  refine lv_imul hx hb dX11_meanMoisture_8 ?_
  obtain ⟨y3, ey3, hsp⟩ := hk_l hsp
  refine hk_top ey3 ?_
  refine lv_istore_n (lv' := [(1, .int y3), (0, .ref (g.1 + a0))]) hx hb dX11_meanMoisture_9 rfl hl (by decide) rfl (fun ls hl => ?_)
  refine lv_iload_n hx hb dX11_meanMoisture_10 rfl (lv_at hl 0 rfl) ?_
  refine lv_if_ne (tgt := 18) hx hb dX11_meanMoisture_11 (by decide) (fun c4 => ?_) (fun c4 => ?_)
  · have hsp := hk_t c4 hsp
    refine lv_aload_n hx hb dX11_meanMoisture_18 rfl (lv_at hl 1 rfl) ?_
    refine hk_getR F9 G h0 hkc_8 (k := 0) (by decide) qw_399 rfl er1 dX11_meanMoisture_19 ?_
    obtain ⟨r5, er5, hsp⟩ := hk_b hsp
    refine hk_callVi (As := []) (rest := []) F9 G kr1 hkc_3 rfl (kX5_sumOfMoistures l g E F n r2.2 r1 r5 kr1 er5) qv_RX11_305 ⟨rfl, rfl, (Nat.le_of_ble_eq_true rfl), (Nat.le_of_ble_eq_true rfl)⟩ rfl hl.1 rfl (Nat.le_of_ble_eq_true rfl) ⟨Nat.zero_le _, Nat.zero_le _⟩ dX11_meanMoisture_22 (fun H locs G => ?_)
    refine lv_i2d hx hb dX11_meanMoisture_25 ?_
    refine lv_iload_n hx hb dX11_meanMoisture_26 rfl (lv_at hl 0 rfl) ?_
    refine lv_i2d hx hb dX11_meanMoisture_27 ?_
    obtain ⟨q6, hsp⟩ := hk_k hsp
    refine lv_ddiv hx hb dX11_meanMoisture_28 q6 ?_
    obtain rfl := hk_s hsp
    exact W.dret (v := (FP.ddiv (FP.i2d r5.1) (FP.i2d y3))) hx hb hr (fun t ht hW => hk_end G ht hW) G.2.1.2.2 dX11_meanMoisture_29
  · have hsp := hk_g c4 hsp
    refine lv_dconst0 hx hb dX11_meanMoisture_14 ?_
    refine lv_goto (tgt := 29) hx hb dX11_meanMoisture_15 (by decide) ?_
    obtain rfl := hk_s hsp
    exact W.dret (v := FP.dconst0) hx hb hr (fun t ht hW => hk_end G ht hW) G.2.1.2.2 dX11_meanMoisture_29
def mX11_readyShare (E : hk_E) (F : Nat) (S : hk_S) (a0 : Nat) : Option (UInt32 × hk_S) :=
(E.2.2.2 a0 0).bind (fun r1 => if E.2.1 r1 = 4 then ((mX5_countWithLeaf E F S r1).bind (fun r2 => if ¬ r2.1 = 0 then ((mX5_setOfReady E F r2.2 r1).bind (fun r4 => (mJ6_bitCount_0f7a4 E F r4.2 r4.1).bind (fun r5 => if (FP.fdiv (FP.i2f r5.1) (FP.i2f r2.1)) &&& 0x7fffffff ≤ 0x7f800000 then (some ((FP.fdiv (FP.i2f r5.1) (FP.i2f r2.1)), r5.2)) else none))) else (some (FP.fconst0, r2.2)))) else none)
set_option maxHeartbeats 4000000 in
set_option maxRecDepth 100000 in
theorem kX11_readyShare (l : Launch) (g : hk_G) (E : hk_E) (F n : Nat) (S : hk_S) (a0 : Nat) (o : UInt32 × hk_S) (h0 : E.2.1 a0 = 9) (hsp : mX11_readyShare E F S a0 = some o) : Met l yX11_readyShare (hk_ws yX11_readyShare cX11_readyShare 2 (Option.some Jvm.ClassFile.FieldType.float)) ({ frames := 3, cells := 0, slots := 0, locals := 64 }) (hk_Pc g E S n [.ref (g.1 + a0)]) (hk_Q g E o.2 n (some (.float o.1))) 0 0 (hk_A g) := by
  refine Met.ofW (cc := cX11_readyShare) (maxL := 2) (ret := (Option.some Jvm.ClassFile.FieldType.float)) (by decide) rfl ?_
  intro p e s m args below meth c s₁ B hml hv
  obtain ⟨rfl, G⟩ := hk_begin hv
  have F9 : CallFix p m c cX11_readyShare 2 s [.ref (g.1 + a0)].toArray hk_W RX11 := ⟨B.exec, B.bytes, hml, findClass_of_methodNamed B.named, fun w h => atoms_spec (ws := hk_ws yX11_readyShare cX11_readyShare 2 (Option.some Jvm.ClassFile.FieldType.float)) B.pre w (hk_in h)⟩
  have hx := B.exec
  have hb := B.bytes
  have hr := B.returns
  have hlocks := B.notSynchronized
  have hl := lv_entry ([.ref (g.1 + a0)]) (n := 2) (Nat.le_of_ble_eq_true rfl)
  rw [lg_entry_eq]
  generalize (lg_sl ([.ref (g.1 + a0)]) ++ List.replicate (2 - (lg_sl ([.ref (g.1 + a0)])).length) Slot.unset).toArray = ls at hl ⊢
  have hl : lv_has ls 2 [(0, .ref (g.1 + a0))] := hl
  unfold mX11_readyShare at hsp
  have G : hk_GG g E S n s s.heap [] := G
  refine lv_aload_n hx hb dX11_readyShare_0 rfl (lv_at hl 0 rfl) ?_
  obtain ⟨r1, er1, hsp⟩ := hk_b hsp
  obtain ⟨kr1, hsp⟩ := hk_k hsp
  refine hk_getR F9 G h0 hkc_8 (k := 0) (by decide) qw_399 rfl er1 dX11_readyShare_1 ?_
  obtain ⟨r2, er2, hsp⟩ := hk_b hsp
  refine hk_callVi (As := []) (rest := []) F9 G kr1 hkc_3 rfl (kX5_countWithLeaf l g E F n S r1 r2 kr1 er2) qv_RX11_302 ⟨rfl, rfl, (Nat.le_of_ble_eq_true rfl), (Nat.le_of_ble_eq_true rfl)⟩ rfl hl.1 rfl (Nat.le_of_ble_eq_true rfl) ⟨Nat.zero_le _, Nat.zero_le _⟩ dX11_readyShare_4 (fun H locs G => ?_)
  refine lv_istore_n (lv' := [(1, .int r2.1), (0, .ref (g.1 + a0))]) hx hb dX11_readyShare_7 rfl hl (by decide) rfl (fun ls hl => ?_)
  refine lv_iload_n hx hb dX11_readyShare_8 rfl (lv_at hl 0 rfl) ?_
  refine lv_if_ne (tgt := 16) hx hb dX11_readyShare_9 (by decide) (fun c3 => ?_) (fun c3 => ?_)
  · have hsp := hk_t c3 hsp
    refine lv_aload_n hx hb dX11_readyShare_16 rfl (lv_at hl 1 rfl) ?_
    refine hk_getR F9 G h0 hkc_8 (k := 0) (by decide) qw_399 rfl er1 dX11_readyShare_17 ?_
    obtain ⟨r4, er4, hsp⟩ := hk_b hsp
    refine hk_callVi (As := []) (rest := []) F9 G kr1 hkc_3 rfl (kX5_setOfReady l g E F n r2.2 r1 r4 kr1 er4) qv_RX11_156 ⟨rfl, rfl, (Nat.le_of_ble_eq_true rfl), (Nat.le_of_ble_eq_true rfl)⟩ rfl hl.1 rfl (Nat.le_of_ble_eq_true rfl) ⟨Nat.zero_le _, Nat.zero_le _⟩ dX11_readyShare_20 (fun H locs G => ?_)
    obtain ⟨r5, er5, hsp⟩ := hk_b hsp
    refine hk_callSi (As := [.int r4.1]) (rest := []) F9 G (kJ6_bitCount_0f7a4 l g E F n r4.2 r4.1 r5  er5) qv_RX11_159 ⟨rfl, rfl, (Nat.le_of_ble_eq_true rfl), (Nat.le_of_ble_eq_true rfl)⟩ rfl hl.1 rfl (Nat.le_of_ble_eq_true rfl) ⟨Nat.zero_le _, Nat.zero_le _⟩ dX11_readyShare_23 (fun H locs G => ?_)
    refine lv_i2f hx hb dX11_readyShare_26 ?_
    refine lv_iload_n hx hb dX11_readyShare_27 rfl (lv_at hl 0 rfl) ?_
    refine lv_i2f hx hb dX11_readyShare_28 ?_
    obtain ⟨q6, hsp⟩ := hk_k hsp
    refine lv_fdiv hx hb dX11_readyShare_29 q6 ?_
    obtain rfl := hk_s hsp
    exact W.fret (v := (FP.fdiv (FP.i2f r5.1) (FP.i2f r2.1))) hx hb hr (fun t ht hW => hk_end G ht hW) G.2.1.2.2 dX11_readyShare_30
  · have hsp := hk_g c3 hsp
    refine lv_fconst0 hx hb dX11_readyShare_12 ?_
    refine lv_goto (tgt := 30) hx hb dX11_readyShare_13 (by decide) ?_
    obtain rfl := hk_s hsp
    exact W.fret (v := FP.fconst0) hx hb hr (fun t ht hW => hk_end G ht hW) G.2.1.2.2 dX11_readyShare_30
def mX11_violations (E : hk_E) (F : Nat) (S : hk_S) (a0 : Nat) : Option (Int32 × hk_S) :=
(E.2.2.2 a0 0).bind (fun r1 => if E.2.1 r1 = 4 then ((mX5_countViolations E F S r1).bind (fun r2 => some (r2.1, r2.2))) else none)
set_option maxHeartbeats 4000000 in
set_option maxRecDepth 100000 in
theorem kX11_violations (l : Launch) (g : hk_G) (E : hk_E) (F n : Nat) (S : hk_S) (a0 : Nat) (o : Int32 × hk_S) (h0 : E.2.1 a0 = 9) (hsp : mX11_violations E F S a0 = some o) : Met l yX11_violations (hk_ws yX11_violations cX11_violations 1 (Option.some Jvm.ClassFile.FieldType.int)) ({ frames := 3, cells := 0, slots := 0, locals := 65 }) (hk_Pc g E S n [.ref (g.1 + a0)]) (hk_Q g E o.2 n (some (.int o.1))) 0 0 (hk_A g) := by
  refine Met.ofW (cc := cX11_violations) (maxL := 1) (ret := (Option.some Jvm.ClassFile.FieldType.int)) (by decide) rfl ?_
  intro p e s m args below meth c s₁ B hml hv
  obtain ⟨rfl, G⟩ := hk_begin hv
  have F9 : CallFix p m c cX11_violations 1 s [.ref (g.1 + a0)].toArray hk_W RX11 := ⟨B.exec, B.bytes, hml, findClass_of_methodNamed B.named, fun w h => atoms_spec (ws := hk_ws yX11_violations cX11_violations 1 (Option.some Jvm.ClassFile.FieldType.int)) B.pre w (hk_in h)⟩
  have hx := B.exec
  have hb := B.bytes
  have hr := B.returns
  have hlocks := B.notSynchronized
  have hl := lv_entry ([.ref (g.1 + a0)]) (n := 1) (Nat.le_of_ble_eq_true rfl)
  rw [lg_entry_eq]
  generalize (lg_sl ([.ref (g.1 + a0)]) ++ List.replicate (1 - (lg_sl ([.ref (g.1 + a0)])).length) Slot.unset).toArray = ls at hl ⊢
  have hl : lv_has ls 1 [(0, .ref (g.1 + a0))] := hl
  unfold mX11_violations at hsp
  have G : hk_GG g E S n s s.heap [] := G
  refine lv_aload_n hx hb dX11_violations_0 rfl (lv_at hl 0 rfl) ?_
  obtain ⟨r1, er1, hsp⟩ := hk_b hsp
  obtain ⟨kr1, hsp⟩ := hk_k hsp
  refine hk_getR F9 G h0 hkc_8 (k := 0) (by decide) qw_399 rfl er1 dX11_violations_1 ?_
  obtain ⟨r2, er2, hsp⟩ := hk_b hsp
  refine hk_callVi (As := []) (rest := []) F9 G kr1 hkc_3 rfl (kX5_countViolations l g E F n S r1 r2 kr1 er2) qv_RX11_308 ⟨rfl, rfl, (Nat.le_of_ble_eq_true rfl), (Nat.le_of_ble_eq_true rfl)⟩ rfl hl.1 rfl (Nat.le_of_ble_eq_true rfl) ⟨Nat.zero_le _, Nat.zero_le _⟩ dX11_violations_4 (fun H locs G => ?_)
  obtain rfl := hk_s hsp
  exact W.iret (v := r2.1) hx hb hr (fun t ht hW => hk_end G ht hW) G.2.1.2.2 dX11_violations_7
def mX11_bestHourToReverse_42 (E : hk_E) (F : Nat) (a0 : Nat) (a1 : Nat) (x2 : Int32)  (k : hk_S → Int32 → Int32 → Int32 → Option (Int32 × hk_S)) : Nat → hk_S → Int32 → Int32 → Int32 → Option (Int32 × hk_S)
  | 0 => fun _ _ _ _ => none
  | f + 1 => fun S z5 z6 z7 =>
    if x2 ≤ z7 then (k S z5 z6 z7) else ((E.2.2.2 a0 0).bind (fun r9 => if E.2.1 r9 = 4 then ((E.2.2.2 r9 0).bind (fun r10 => if E.2.1 r10 = 1 then ((mX1_drynessOf E F S r10 ((S r10 0) + z7)).bind (fun r11 => (mX10_lossAt E F r11.2 a1 r11.1).bind (fun r12 => hk_let (z5 - (r12.1 / 2)) (fun y13 => hk_let (z6 - r12.1) (fun y14 => hk_let (z7 + 1) (fun y15 => mX11_bestHourToReverse_42 E F a0 a1 x2 k f r12.2 y13 y14 y15)))))) else none)) else none))
def mX11_bestHourToReverse_118 (E : hk_E) (F : Nat) (a0 : Nat) (a1 : Nat) (x2 : Int32)  (k : hk_S → Int32 → Int32 → Int32 → Int32 → Int32 → Option (Int32 × hk_S)) : Nat → hk_S → Int32 → Int32 → Int32 → Int32 → Int32 → Option (Int32 × hk_S)
  | 0 => fun _ _ _ _ _ _ => none
  | f + 1 => fun S z23 z24 z25 z26 z27 =>
    if x2 ≤ z27 then (k S z23 z24 z25 z26 z27) else ((E.2.2.2 a0 0).bind (fun r29 => if E.2.1 r29 = 4 then ((E.2.2.2 r29 0).bind (fun r30 => if E.2.1 r30 = 1 then ((mX1_drynessOf E F S r30 ((S r30 0) + z27)).bind (fun r31 => (mX10_lossAt E F r31.2 a1 r31.1).bind (fun r32 => hk_let (z23 - (r32.1 - (r32.1 / 2))) (fun y33 => hk_let (z24 + (r32.1 - (r32.1 / 2))) (fun y34 => (mX11_notBelowLowest E F r32.2 y33).bind (fun r35 => (mX11_notBelowLowest E F r35.2 y34).bind (fun r36 => (mJ9_abs_0f7a4 E F r36.2 (r35.1 - r36.1)).bind (fun r37 => if z26 ≤ r37.1 then (hk_let (z27 + 1) (fun y39 => mX11_bestHourToReverse_118 E F a0 a1 x2 k f r37.2 y33 y34 z25 z26 y39)) else (hk_let (z27 + 1) (fun y40 => hk_let (z27 + 1) (fun y41 => mX11_bestHourToReverse_118 E F a0 a1 x2 k f r37.2 y33 y34 y40 r37.1 y41))))))))))) else none)) else none))
def mX11_bestHourToReverse (E : hk_E) (F : Nat) (S : hk_S) (a0 : Nat) (a1 : Nat) (x2 : Int32) : Option (Int32 × hk_S) :=
if (S a1 2) = 0 then (hk_let (S a1 7) (fun y2 => if (S a1 2) = 0 then (hk_let (S a1 6) (fun y4 => mX11_bestHourToReverse_42 E F a0 a1 x2  (fun S16 z17 z18 z19 => (mX11_notBelowLowest E F S16 z17).bind (fun r20 => (mX11_notBelowLowest E F r20.2 z18).bind (fun r21 => (mJ9_abs_0f7a4 E F r21.2 (r20.1 - r21.1)).bind (fun r22 => mX11_bestHourToReverse_118 E F a0 a1 x2  (fun S42 z43 z44 z45 z46 z47 => some (z45, S42)) F r22.2 z17 z18 0 r22.1 0)))) F S y2 y4 0)) else (hk_let (S a1 7) (fun y48 => mX11_bestHourToReverse_42 E F a0 a1 x2  (fun S49 z50 z51 z52 => (mX11_notBelowLowest E F S49 z50).bind (fun r53 => (mX11_notBelowLowest E F r53.2 z51).bind (fun r54 => (mJ9_abs_0f7a4 E F r54.2 (r53.1 - r54.1)).bind (fun r55 => mX11_bestHourToReverse_118 E F a0 a1 x2  (fun S56 z57 z58 z59 z60 z61 => some (z59, S56)) F r55.2 z50 z51 0 r55.1 0)))) F S y2 y48 0)))) else (hk_let (S a1 6) (fun y62 => if (S a1 2) = 0 then (hk_let (S a1 6) (fun y64 => mX11_bestHourToReverse_42 E F a0 a1 x2  (fun S65 z66 z67 z68 => (mX11_notBelowLowest E F S65 z66).bind (fun r69 => (mX11_notBelowLowest E F r69.2 z67).bind (fun r70 => (mJ9_abs_0f7a4 E F r70.2 (r69.1 - r70.1)).bind (fun r71 => mX11_bestHourToReverse_118 E F a0 a1 x2  (fun S72 z73 z74 z75 z76 z77 => some (z75, S72)) F r71.2 z66 z67 0 r71.1 0)))) F S y62 y64 0)) else (hk_let (S a1 7) (fun y78 => mX11_bestHourToReverse_42 E F a0 a1 x2  (fun S79 z80 z81 z82 => (mX11_notBelowLowest E F S79 z80).bind (fun r83 => (mX11_notBelowLowest E F r83.2 z81).bind (fun r84 => (mJ9_abs_0f7a4 E F r84.2 (r83.1 - r84.1)).bind (fun r85 => mX11_bestHourToReverse_118 E F a0 a1 x2  (fun S86 z87 z88 z89 z90 z91 => some (z89, S86)) F r85.2 z80 z81 0 r85.1 0)))) F S y62 y78 0))))
set_option maxHeartbeats 4000000 in
set_option maxRecDepth 100000 in
theorem kX11_bestHourToReverse (l : Launch) (g : hk_G) (E : hk_E) (F n : Nat) (S : hk_S) (a0 : Nat) (a1 : Nat) (x2 : Int32) (o : Int32 × hk_S) (h0 : E.2.1 a0 = 9) (h1 : E.2.1 a1 = 8) (hsp : mX11_bestHourToReverse E F S a0 a1 x2 = some o) : Met l yX11_bestHourToReverse (hk_ws yX11_bestHourToReverse cX11_bestHourToReverse 10 (Option.some Jvm.ClassFile.FieldType.int)) ({ frames := 3, cells := 0, slots := 0, locals := 65 }) (hk_Pc g E S n [.ref (g.1 + a0), .ref (g.1 + a1), .int x2]) (hk_Q g E o.2 n (some (.int o.1))) 0 0 (hk_A g) := by
  refine Met.ofW (cc := cX11_bestHourToReverse) (maxL := 10) (ret := (Option.some Jvm.ClassFile.FieldType.int)) (by decide) rfl ?_
  intro p e s m args below meth c s₁ B hml hv
  obtain ⟨rfl, G⟩ := hk_begin hv
  have F9 : CallFix p m c cX11_bestHourToReverse 10 s [.ref (g.1 + a0), .ref (g.1 + a1), .int x2].toArray hk_W RX11 := ⟨B.exec, B.bytes, hml, findClass_of_methodNamed B.named, fun w h => atoms_spec (ws := hk_ws yX11_bestHourToReverse cX11_bestHourToReverse 10 (Option.some Jvm.ClassFile.FieldType.int)) B.pre w (hk_in h)⟩
  have hx := B.exec
  have hb := B.bytes
  have hr := B.returns
  have hlocks := B.notSynchronized
  have hl := lv_entry ([.ref (g.1 + a0), .ref (g.1 + a1), .int x2]) (n := 10) (Nat.le_of_ble_eq_true rfl)
  rw [lg_entry_eq]
  generalize (lg_sl ([.ref (g.1 + a0), .ref (g.1 + a1), .int x2]) ++ List.replicate (10 - (lg_sl ([.ref (g.1 + a0), .ref (g.1 + a1), .int x2])).length) Slot.unset).toArray = ls at hl ⊢
  have hl : lv_has ls 10 [(0, .ref (g.1 + a0)), (1, .ref (g.1 + a1)), (2, .int x2)] := hl
  unfold mX11_bestHourToReverse at hsp
  have G : hk_GG g E S n s s.heap [] := G
  have L_42 : ∀   (k : hk_S → Int32 → Int32 → Int32 → Option (Int32 × hk_S)) (_ : ∀ (S : hk_S) (z5 : Int32) (z6 : Int32) (z7 : Int32) (H : Heap) (locs : List Loc) (ls : Array Slot), k S z5 z6 z7 = some o → hk_GG g E S n s H locs → lv_has ls 10 [(0, .ref (g.1 + a0)), (1, .ref (g.1 + a1)), (2, .int x2), (3, .int z5), (4, .int z6), (5, .int z7)] → W p l e (headSpec (hk_ws yX11_bestHourToReverse cX11_bestHourToReverse 10 (Option.some Jvm.ClassFile.FieldType.int)) ({ frames := 3, cells := 0, slots := 0, locals := 65 })).room s m [.ref (g.1 + a0), .ref (g.1 + a1), .int x2].toArray below meth c H locs 0 0 (MQ below (hk_Q g E o.2 n (some (.int o.1))) [.ref (g.1 + a0), .ref (g.1 + a1), .int x2].toArray s 0 0 (hk_A g)) (F0 m 97 ls [])) (f : Nat) (S : hk_S) (z5 : Int32) (z6 : Int32) (z7 : Int32) (H : Heap) (locs : List Loc) (ls : Array Slot), mX11_bestHourToReverse_42 E F a0 a1 x2 k f S z5 z6 z7 = some o → hk_GG g E S n s H locs → lv_has ls 10 [(0, .ref (g.1 + a0)), (1, .ref (g.1 + a1)), (2, .int x2), (3, .int z5), (4, .int z6), (5, .int z7)] → W p l e (headSpec (hk_ws yX11_bestHourToReverse cX11_bestHourToReverse 10 (Option.some Jvm.ClassFile.FieldType.int)) ({ frames := 3, cells := 0, slots := 0, locals := 65 })).room s m [.ref (g.1 + a0), .ref (g.1 + a1), .int x2].toArray below meth c H locs 0 0 (MQ below (hk_Q g E o.2 n (some (.int o.1))) [.ref (g.1 + a0), .ref (g.1 + a1), .int x2].toArray s 0 0 (hk_A g)) (F0 m 42 ls []) := by
    intro   k hk f
    induction f with
    | zero =>
      intro S z5 z6 z7 H locs ls hsp
      exact nomatch hsp
    | succ f ih =>
      intro S z5 z6 z7 H locs ls hsp G hl
      rw [mX11_bestHourToReverse_42] at hsp
      refine lv_iload hx hb dX11_bestHourToReverse_42 (lv_at hl 5 rfl) ?_
      refine lv_iload_n hx hb dX11_bestHourToReverse_44 rfl (lv_at hl 2 rfl) ?_
      refine lv_icmp_ge (tgt := 97) hx hb dX11_bestHourToReverse_45 (by decide) (fun c8 => ?_) (fun c8 => ?_)
      · have hsp := hk_t c8 hsp
        exact hk S z5 z6 z7 _ _ _ hsp G (lv_sub hl [0, 1, 2, 3, 4, 5] rfl)
      · have hsp := hk_f c8 hsp
        refine lv_aload_n hx hb dX11_bestHourToReverse_48 rfl (lv_at hl 1 rfl) ?_
        refine lv_aload_n hx hb dX11_bestHourToReverse_49 rfl (lv_at hl 0 rfl) ?_
        obtain ⟨r9, er9, hsp⟩ := hk_b hsp
        obtain ⟨kr9, hsp⟩ := hk_k hsp
        refine hk_getR F9 G h0 hkc_8 (k := 0) (by decide) qw_399 rfl er9 dX11_bestHourToReverse_50 ?_
        obtain ⟨r10, er10, hsp⟩ := hk_b hsp
        obtain ⟨kr10, hsp⟩ := hk_k hsp
        refine hk_getR F9 G kr9 hkc_3 (k := 0) (by decide) qw_172 rfl er10 dX11_bestHourToReverse_53 ?_
        refine lv_aload_n hx hb dX11_bestHourToReverse_56 rfl (lv_at hl 0 rfl) ?_
        refine hk_getR F9 G h0 hkc_8 (k := 0) (by decide) qw_399 rfl er9 dX11_bestHourToReverse_57 ?_
        refine hk_getR F9 G kr9 hkc_3 (k := 0) (by decide) qw_172 rfl er10 dX11_bestHourToReverse_60 ?_
        refine hk_getI F9 G kr10 hkc_0 (k := 0) (by decide) qw_50 rfl dX11_bestHourToReverse_63 ?_
        refine lv_iload hx hb dX11_bestHourToReverse_66 (lv_at hl 5 rfl) ?_
        refine lv_iadd hx hb dX11_bestHourToReverse_68 ?_
        obtain ⟨r11, er11, hsp⟩ := hk_b hsp
        refine hk_callVi (As := [.int ((S r10 0) + z7)]) (rest := [.ref (g.1 + a1)]) F9 G kr10 hkc_0 rfl (kX1_drynessOf l g E F n S r10 ((S r10 0) + z7) r11 kr10 er11) qv_RX11_230 ⟨rfl, rfl, (Nat.le_of_ble_eq_true rfl), (Nat.le_of_ble_eq_true rfl)⟩ rfl hl.1 rfl (Nat.le_of_ble_eq_true rfl) ⟨Nat.zero_le _, Nat.zero_le _⟩ dX11_bestHourToReverse_69 (fun H locs G => ?_)
        obtain ⟨r12, er12, hsp⟩ := hk_b hsp
        refine hk_callVi (As := [.int r11.1]) (rest := []) F9 G h1 hkc_7 rfl (kX10_lossAt l g E F n r11.2 a1 r11.1 r12 h1 er12) qv_RX11_260 ⟨rfl, rfl, (Nat.le_of_ble_eq_true rfl), (Nat.le_of_ble_eq_true rfl)⟩ rfl hl.1 rfl (Nat.le_of_ble_eq_true rfl) ⟨Nat.zero_le _, Nat.zero_le _⟩ dX11_bestHourToReverse_72 (fun H locs G => ?_)
        refine lv_istore (lv' := [(6, .int r12.1), (0, .ref (g.1 + a0)), (1, .ref (g.1 + a1)), (2, .int x2), (3, .int z5), (4, .int z6), (5, .int z7)]) hx hb dX11_bestHourToReverse_75  hl (by decide) rfl (fun ls hl => ?_)
        refine lv_iload_n hx hb dX11_bestHourToReverse_77 rfl (lv_at hl 4 rfl) ?_
        refine lv_iload hx hb dX11_bestHourToReverse_78 (lv_at hl 0 rfl) ?_
        refine lv_iconst (v := 2) hx hb dX11_bestHourToReverse_80 (by decide) ?_
        refine lv_idiv hx hb dX11_bestHourToReverse_81 (by decide) ?_
        refine lv_isub hx hb dX11_bestHourToReverse_82 ?_
        obtain ⟨y13, ey13, hsp⟩ := hk_l hsp
        refine hk_top ey13 ?_
        refine lv_istore_n (lv' := [(3, .int y13), (6, .int r12.1), (0, .ref (g.1 + a0)), (1, .ref (g.1 + a1)), (2, .int x2), (4, .int z6), (5, .int z7)]) hx hb dX11_bestHourToReverse_83 rfl hl (by decide) rfl (fun ls hl => ?_)
        refine lv_iload hx hb dX11_bestHourToReverse_84 (lv_at hl 5 rfl) ?_
        refine lv_iload hx hb dX11_bestHourToReverse_86 (lv_at hl 1 rfl) ?_
        refine lv_isub hx hb dX11_bestHourToReverse_88 ?_
        obtain ⟨y14, ey14, hsp⟩ := hk_l hsp
        refine hk_top ey14 ?_
        refine lv_istore (lv' := [(4, .int y14), (3, .int y13), (6, .int r12.1), (0, .ref (g.1 + a0)), (1, .ref (g.1 + a1)), (2, .int x2), (5, .int z7)]) hx hb dX11_bestHourToReverse_89  hl (by decide) rfl (fun ls hl => ?_)
        obtain ⟨y15, ey15, hsp⟩ := hk_l hsp
        refine lv_iinc (v := y15) (lv' := [(5, .int y15), (4, .int y14), (3, .int y13), (6, .int r12.1), (0, .ref (g.1 + a0)), (1, .ref (g.1 + a1)), (2, .int x2)]) hx hb dX11_bestHourToReverse_91 hl (k := 6) rfl (by rw [← ey15]; rfl) (by decide) rfl (fun ls hl => ?_)
        refine lv_goto (tgt := 42) hx hb dX11_bestHourToReverse_94 (by decide) ?_
        exact ih r12.2 y13 y14 y15 _ _ _ hsp G (lv_sub hl [4, 5, 6, 2, 1, 0] rfl)
  have L_118 : ∀   (k : hk_S → Int32 → Int32 → Int32 → Int32 → Int32 → Option (Int32 × hk_S)) (_ : ∀ (S : hk_S) (z23 : Int32) (z24 : Int32) (z25 : Int32) (z26 : Int32) (z27 : Int32) (H : Heap) (locs : List Loc) (ls : Array Slot), k S z23 z24 z25 z26 z27 = some o → hk_GG g E S n s H locs → lv_has ls 10 [(0, .ref (g.1 + a0)), (1, .ref (g.1 + a1)), (2, .int x2), (3, .int z23), (4, .int z24), (5, .int z25), (6, .int z26), (7, .int z27)] → W p l e (headSpec (hk_ws yX11_bestHourToReverse cX11_bestHourToReverse 10 (Option.some Jvm.ClassFile.FieldType.int)) ({ frames := 3, cells := 0, slots := 0, locals := 65 })).room s m [.ref (g.1 + a0), .ref (g.1 + a1), .int x2].toArray below meth c H locs 0 0 (MQ below (hk_Q g E o.2 n (some (.int o.1))) [.ref (g.1 + a0), .ref (g.1 + a1), .int x2].toArray s 0 0 (hk_A g)) (F0 m 213 ls [])) (f : Nat) (S : hk_S) (z23 : Int32) (z24 : Int32) (z25 : Int32) (z26 : Int32) (z27 : Int32) (H : Heap) (locs : List Loc) (ls : Array Slot), mX11_bestHourToReverse_118 E F a0 a1 x2 k f S z23 z24 z25 z26 z27 = some o → hk_GG g E S n s H locs → lv_has ls 10 [(0, .ref (g.1 + a0)), (1, .ref (g.1 + a1)), (2, .int x2), (3, .int z23), (4, .int z24), (5, .int z25), (6, .int z26), (7, .int z27)] → W p l e (headSpec (hk_ws yX11_bestHourToReverse cX11_bestHourToReverse 10 (Option.some Jvm.ClassFile.FieldType.int)) ({ frames := 3, cells := 0, slots := 0, locals := 65 })).room s m [.ref (g.1 + a0), .ref (g.1 + a1), .int x2].toArray below meth c H locs 0 0 (MQ below (hk_Q g E o.2 n (some (.int o.1))) [.ref (g.1 + a0), .ref (g.1 + a1), .int x2].toArray s 0 0 (hk_A g)) (F0 m 118 ls []) := by
    intro   k hk f
    induction f with
    | zero =>
      intro S z23 z24 z25 z26 z27 H locs ls hsp
      exact nomatch hsp
    | succ f ih =>
      intro S z23 z24 z25 z26 z27 H locs ls hsp G hl
      rw [mX11_bestHourToReverse_118] at hsp
      refine lv_iload hx hb dX11_bestHourToReverse_118 (lv_at hl 7 rfl) ?_
      refine lv_iload_n hx hb dX11_bestHourToReverse_120 rfl (lv_at hl 2 rfl) ?_
      refine lv_icmp_ge (tgt := 213) hx hb dX11_bestHourToReverse_121 (by decide) (fun c28 => ?_) (fun c28 => ?_)
      · have hsp := hk_t c28 hsp
        exact hk S z23 z24 z25 z26 z27 _ _ _ hsp G (lv_sub hl [0, 1, 2, 3, 4, 5, 6, 7] rfl)
      · have hsp := hk_f c28 hsp
        refine lv_aload_n hx hb dX11_bestHourToReverse_124 rfl (lv_at hl 1 rfl) ?_
        refine lv_aload_n hx hb dX11_bestHourToReverse_125 rfl (lv_at hl 0 rfl) ?_
        obtain ⟨r29, er29, hsp⟩ := hk_b hsp
        obtain ⟨kr29, hsp⟩ := hk_k hsp
        refine hk_getR F9 G h0 hkc_8 (k := 0) (by decide) qw_399 rfl er29 dX11_bestHourToReverse_126 ?_
        obtain ⟨r30, er30, hsp⟩ := hk_b hsp
        obtain ⟨kr30, hsp⟩ := hk_k hsp
        refine hk_getR F9 G kr29 hkc_3 (k := 0) (by decide) qw_172 rfl er30 dX11_bestHourToReverse_129 ?_
        refine lv_aload_n hx hb dX11_bestHourToReverse_132 rfl (lv_at hl 0 rfl) ?_
        refine hk_getR F9 G h0 hkc_8 (k := 0) (by decide) qw_399 rfl er29 dX11_bestHourToReverse_133 ?_
        refine hk_getR F9 G kr29 hkc_3 (k := 0) (by decide) qw_172 rfl er30 dX11_bestHourToReverse_136 ?_
        refine hk_getI F9 G kr30 hkc_0 (k := 0) (by decide) qw_50 rfl dX11_bestHourToReverse_139 ?_
        refine lv_iload hx hb dX11_bestHourToReverse_142 (lv_at hl 7 rfl) ?_
        refine lv_iadd hx hb dX11_bestHourToReverse_144 ?_
        obtain ⟨r31, er31, hsp⟩ := hk_b hsp
        refine hk_callVi (As := [.int ((S r30 0) + z27)]) (rest := [.ref (g.1 + a1)]) F9 G kr30 hkc_0 rfl (kX1_drynessOf l g E F n S r30 ((S r30 0) + z27) r31 kr30 er31) qv_RX11_230 ⟨rfl, rfl, (Nat.le_of_ble_eq_true rfl), (Nat.le_of_ble_eq_true rfl)⟩ rfl hl.1 rfl (Nat.le_of_ble_eq_true rfl) ⟨Nat.zero_le _, Nat.zero_le _⟩ dX11_bestHourToReverse_145 (fun H locs G => ?_)
        obtain ⟨r32, er32, hsp⟩ := hk_b hsp
        refine hk_callVi (As := [.int r31.1]) (rest := []) F9 G h1 hkc_7 rfl (kX10_lossAt l g E F n r31.2 a1 r31.1 r32 h1 er32) qv_RX11_260 ⟨rfl, rfl, (Nat.le_of_ble_eq_true rfl), (Nat.le_of_ble_eq_true rfl)⟩ rfl hl.1 rfl (Nat.le_of_ble_eq_true rfl) ⟨Nat.zero_le _, Nat.zero_le _⟩ dX11_bestHourToReverse_148 (fun H locs G => ?_)
        refine lv_istore (lv' := [(8, .int r32.1), (0, .ref (g.1 + a0)), (1, .ref (g.1 + a1)), (2, .int x2), (3, .int z23), (4, .int z24), (5, .int z25), (6, .int z26), (7, .int z27)]) hx hb dX11_bestHourToReverse_151  hl (by decide) rfl (fun ls hl => ?_)
        refine lv_iload_n hx hb dX11_bestHourToReverse_153 rfl (lv_at hl 4 rfl) ?_
        refine lv_iload hx hb dX11_bestHourToReverse_154 (lv_at hl 0 rfl) ?_
        refine lv_iload hx hb dX11_bestHourToReverse_156 (lv_at hl 0 rfl) ?_
        refine lv_iconst (v := 2) hx hb dX11_bestHourToReverse_158 (by decide) ?_
        refine lv_idiv hx hb dX11_bestHourToReverse_159 (by decide) ?_
        refine lv_isub hx hb dX11_bestHourToReverse_160 ?_
        refine lv_isub hx hb dX11_bestHourToReverse_161 ?_
        obtain ⟨y33, ey33, hsp⟩ := hk_l hsp
        refine hk_top ey33 ?_
        refine lv_istore_n (lv' := [(3, .int y33), (8, .int r32.1), (0, .ref (g.1 + a0)), (1, .ref (g.1 + a1)), (2, .int x2), (4, .int z24), (5, .int z25), (6, .int z26), (7, .int z27)]) hx hb dX11_bestHourToReverse_162 rfl hl (by decide) rfl (fun ls hl => ?_)
        refine lv_iload hx hb dX11_bestHourToReverse_163 (lv_at hl 5 rfl) ?_
        refine lv_iload hx hb dX11_bestHourToReverse_165 (lv_at hl 1 rfl) ?_
        refine lv_iload hx hb dX11_bestHourToReverse_167 (lv_at hl 1 rfl) ?_
        refine lv_iconst (v := 2) hx hb dX11_bestHourToReverse_169 (by decide) ?_
        refine lv_idiv hx hb dX11_bestHourToReverse_170 (by decide) ?_
        refine lv_isub hx hb dX11_bestHourToReverse_171 ?_
        refine lv_iadd hx hb dX11_bestHourToReverse_172 ?_
        obtain ⟨y34, ey34, hsp⟩ := hk_l hsp
        refine hk_top ey34 ?_
        refine lv_istore (lv' := [(4, .int y34), (3, .int y33), (8, .int r32.1), (0, .ref (g.1 + a0)), (1, .ref (g.1 + a1)), (2, .int x2), (5, .int z25), (6, .int z26), (7, .int z27)]) hx hb dX11_bestHourToReverse_173  hl (by decide) rfl (fun ls hl => ?_)
        refine lv_iload_n hx hb dX11_bestHourToReverse_175 rfl (lv_at hl 1 rfl) ?_
        obtain ⟨r35, er35, hsp⟩ := hk_b hsp
        refine hk_callSi (As := [.int y33]) (rest := []) F9 G (kX11_notBelowLowest l g E F n r32.2 y33 r35  er35) qv_RX11_347 ⟨rfl, rfl, (Nat.le_of_ble_eq_true rfl), (Nat.le_of_ble_eq_true rfl)⟩ rfl hl.1 rfl (Nat.le_of_ble_eq_true rfl) ⟨Nat.zero_le _, Nat.zero_le _⟩ dX11_bestHourToReverse_176 (fun H locs G => ?_)
        refine lv_iload hx hb dX11_bestHourToReverse_179 (lv_at hl 0 rfl) ?_
        obtain ⟨r36, er36, hsp⟩ := hk_b hsp
        refine hk_callSi (As := [.int y34]) (rest := [.int r35.1]) F9 G (kX11_notBelowLowest l g E F n r35.2 y34 r36  er36) qv_RX11_347 ⟨rfl, rfl, (Nat.le_of_ble_eq_true rfl), (Nat.le_of_ble_eq_true rfl)⟩ rfl hl.1 rfl (Nat.le_of_ble_eq_true rfl) ⟨Nat.zero_le _, Nat.zero_le _⟩ dX11_bestHourToReverse_181 (fun H locs G => ?_)
        refine lv_isub hx hb dX11_bestHourToReverse_184 ?_
        obtain ⟨r37, er37, hsp⟩ := hk_b hsp
        refine hk_callSi (As := [.int (r35.1 - r36.1)]) (rest := []) F9 G (kJ9_abs_0f7a4 l g E F n r36.2 (r35.1 - r36.1) r37  er37) qv_RX11_350 ⟨rfl, rfl, (Nat.le_of_ble_eq_true rfl), (Nat.le_of_ble_eq_true rfl)⟩ rfl hl.1 rfl (Nat.le_of_ble_eq_true rfl) ⟨Nat.zero_le _, Nat.zero_le _⟩ dX11_bestHourToReverse_185 (fun H locs G => ?_)
        refine lv_istore (lv' := [(9, .int r37.1), (4, .int y34), (3, .int y33), (8, .int r32.1), (0, .ref (g.1 + a0)), (1, .ref (g.1 + a1)), (2, .int x2), (5, .int z25), (6, .int z26), (7, .int z27)]) hx hb dX11_bestHourToReverse_188  hl (by decide) rfl (fun ls hl => ?_)
        refine lv_iload hx hb dX11_bestHourToReverse_190 (lv_at hl 0 rfl) ?_
        refine lv_iload hx hb dX11_bestHourToReverse_192 (lv_at hl 8 rfl) ?_
        refine lv_icmp_ge (tgt := 207) hx hb dX11_bestHourToReverse_194 (by decide) (fun c38 => ?_) (fun c38 => ?_)
        · have hsp := hk_t c38 hsp
          obtain ⟨y39, ey39, hsp⟩ := hk_l hsp
          refine lv_iinc (v := y39) (lv' := [(7, .int y39), (9, .int r37.1), (4, .int y34), (3, .int y33), (8, .int r32.1), (0, .ref (g.1 + a0)), (1, .ref (g.1 + a1)), (2, .int x2), (5, .int z25), (6, .int z26)]) hx hb dX11_bestHourToReverse_207 hl (k := 9) rfl (by rw [← ey39]; rfl) (by decide) rfl (fun ls hl => ?_)
          refine lv_goto (tgt := 118) hx hb dX11_bestHourToReverse_210 (by decide) ?_
          exact ih r37.2 y33 y34 z25 z26 y39 _ _ _ hsp G (lv_sub hl [5, 6, 7, 3, 2, 8, 9, 0] rfl)
        · have hsp := hk_f c38 hsp
          refine lv_iload hx hb dX11_bestHourToReverse_197 (lv_at hl 0 rfl) ?_
          refine lv_istore (lv' := [(6, .int r37.1), (9, .int r37.1), (4, .int y34), (3, .int y33), (8, .int r32.1), (0, .ref (g.1 + a0)), (1, .ref (g.1 + a1)), (2, .int x2), (5, .int z25), (7, .int z27)]) hx hb dX11_bestHourToReverse_199  hl (by decide) rfl (fun ls hl => ?_)
          refine lv_iload hx hb dX11_bestHourToReverse_201 (lv_at hl 9 rfl) ?_
          refine lv_iconst (v := 1) hx hb dX11_bestHourToReverse_203 (by decide) ?_
          refine lv_iadd hx hb dX11_bestHourToReverse_204 ?_
          obtain ⟨y40, ey40, hsp⟩ := hk_l hsp
          refine hk_top ey40 ?_
          refine lv_istore (lv' := [(5, .int y40), (6, .int r37.1), (9, .int r37.1), (4, .int y34), (3, .int y33), (8, .int r32.1), (0, .ref (g.1 + a0)), (1, .ref (g.1 + a1)), (2, .int x2), (7, .int z27)]) hx hb dX11_bestHourToReverse_205  hl (by decide) rfl (fun ls hl => ?_)
          obtain ⟨y41, ey41, hsp⟩ := hk_l hsp
          refine lv_iinc (v := y41) (lv' := [(7, .int y41), (5, .int y40), (6, .int r37.1), (9, .int r37.1), (4, .int y34), (3, .int y33), (8, .int r32.1), (0, .ref (g.1 + a0)), (1, .ref (g.1 + a1)), (2, .int x2)]) hx hb dX11_bestHourToReverse_207 hl (k := 9) rfl (by rw [← ey41]; rfl) (by decide) rfl (fun ls hl => ?_)
          refine lv_goto (tgt := 118) hx hb dX11_bestHourToReverse_210 (by decide) ?_
          exact ih r37.2 y33 y34 y40 r37.1 y41 _ _ _ hsp G (lv_sub hl [7, 8, 9, 5, 4, 1, 2, 0] rfl)
  refine lv_aload_n hx hb dX11_bestHourToReverse_0 rfl (lv_at hl 1 rfl) ?_
  refine hk_getI F9 G h1 hkc_7 (k := 2) (by decide) qw_88 rfl dX11_bestHourToReverse_1 ?_
  refine lv_if_eq (tgt := 14) hx hb dX11_bestHourToReverse_4 (by decide) (fun c1 => ?_) (fun c1 => ?_)
  · have hsp := hk_t c1 hsp
    refine lv_aload_n hx hb dX11_bestHourToReverse_14 rfl (lv_at hl 1 rfl) ?_
    refine hk_getI F9 G h1 hkc_7 (k := 7) (by decide) qw_106 rfl dX11_bestHourToReverse_15 ?_
    obtain ⟨y2, ey2, hsp⟩ := hk_l hsp
    refine hk_top ey2 ?_
    refine lv_istore_n (lv' := [(3, .int y2), (0, .ref (g.1 + a0)), (1, .ref (g.1 + a1)), (2, .int x2)]) hx hb dX11_bestHourToReverse_18 rfl hl (by decide) rfl (fun ls hl => ?_)
    refine lv_aload_n hx hb dX11_bestHourToReverse_19 rfl (lv_at hl 2 rfl) ?_
    refine hk_getI F9 G h1 hkc_7 (k := 2) (by decide) qw_88 rfl dX11_bestHourToReverse_20 ?_
    refine lv_if_eq (tgt := 33) hx hb dX11_bestHourToReverse_23 (by decide) (fun c3 => ?_) (fun c3 => ?_)
    · have hsp := hk_t c3 hsp
      refine lv_aload_n hx hb dX11_bestHourToReverse_33 rfl (lv_at hl 2 rfl) ?_
      refine hk_getI F9 G h1 hkc_7 (k := 6) (by decide) qw_103 rfl dX11_bestHourToReverse_34 ?_
      obtain ⟨y4, ey4, hsp⟩ := hk_l hsp
      refine hk_top ey4 ?_
      refine lv_istore (lv' := [(4, .int y4), (3, .int y2), (0, .ref (g.1 + a0)), (1, .ref (g.1 + a1)), (2, .int x2)]) hx hb dX11_bestHourToReverse_37  hl (by decide) rfl (fun ls hl => ?_)
      refine lv_iconst (v := 0) hx hb dX11_bestHourToReverse_39 (by decide) ?_
      refine lv_istore (lv' := [(5, .int 0), (4, .int y4), (3, .int y2), (0, .ref (g.1 + a0)), (1, .ref (g.1 + a1)), (2, .int x2)]) hx hb dX11_bestHourToReverse_40  hl (by decide) rfl (fun ls hl => ?_)
      refine L_42   _ ?_ F S y2 y4 0 _ _ _ hsp G (lv_sub hl [3, 4, 5, 2, 1, 0] rfl)
      intro S16 z17 z18 z19 H locs ls hsp G hl
      refine lv_iconst (v := 0) hx hb dX11_bestHourToReverse_97 (by decide) ?_
      refine lv_istore (lv' := [(5, .int 0), (0, .ref (g.1 + a0)), (1, .ref (g.1 + a1)), (2, .int x2), (3, .int z17), (4, .int z18)]) hx hb dX11_bestHourToReverse_98  hl (by decide) rfl (fun ls hl => ?_)
      refine lv_iload_n hx hb dX11_bestHourToReverse_100 rfl (lv_at hl 4 rfl) ?_
      obtain ⟨r20, er20, hsp⟩ := hk_b hsp
      refine hk_callSi (As := [.int z17]) (rest := []) F9 G (kX11_notBelowLowest l g E F n S16 z17 r20  er20) qv_RX11_347 ⟨rfl, rfl, (Nat.le_of_ble_eq_true rfl), (Nat.le_of_ble_eq_true rfl)⟩ rfl hl.1 rfl (Nat.le_of_ble_eq_true rfl) ⟨Nat.zero_le _, Nat.zero_le _⟩ dX11_bestHourToReverse_101 (fun H locs G => ?_)
      refine lv_iload hx hb dX11_bestHourToReverse_104 (lv_at hl 5 rfl) ?_
      obtain ⟨r21, er21, hsp⟩ := hk_b hsp
      refine hk_callSi (As := [.int z18]) (rest := [.int r20.1]) F9 G (kX11_notBelowLowest l g E F n r20.2 z18 r21  er21) qv_RX11_347 ⟨rfl, rfl, (Nat.le_of_ble_eq_true rfl), (Nat.le_of_ble_eq_true rfl)⟩ rfl hl.1 rfl (Nat.le_of_ble_eq_true rfl) ⟨Nat.zero_le _, Nat.zero_le _⟩ dX11_bestHourToReverse_106 (fun H locs G => ?_)
      refine lv_isub hx hb dX11_bestHourToReverse_109 ?_
      obtain ⟨r22, er22, hsp⟩ := hk_b hsp
      refine hk_callSi (As := [.int (r20.1 - r21.1)]) (rest := []) F9 G (kJ9_abs_0f7a4 l g E F n r21.2 (r20.1 - r21.1) r22  er22) qv_RX11_350 ⟨rfl, rfl, (Nat.le_of_ble_eq_true rfl), (Nat.le_of_ble_eq_true rfl)⟩ rfl hl.1 rfl (Nat.le_of_ble_eq_true rfl) ⟨Nat.zero_le _, Nat.zero_le _⟩ dX11_bestHourToReverse_110 (fun H locs G => ?_)
      refine lv_istore (lv' := [(6, .int r22.1), (5, .int 0), (0, .ref (g.1 + a0)), (1, .ref (g.1 + a1)), (2, .int x2), (3, .int z17), (4, .int z18)]) hx hb dX11_bestHourToReverse_113  hl (by decide) rfl (fun ls hl => ?_)
      refine lv_iconst (v := 0) hx hb dX11_bestHourToReverse_115 (by decide) ?_
      refine lv_istore (lv' := [(7, .int 0), (6, .int r22.1), (5, .int 0), (0, .ref (g.1 + a0)), (1, .ref (g.1 + a1)), (2, .int x2), (3, .int z17), (4, .int z18)]) hx hb dX11_bestHourToReverse_116  hl (by decide) rfl (fun ls hl => ?_)
      refine L_118   _ ?_ F r22.2 z17 z18 0 r22.1 0 _ _ _ hsp G (lv_sub hl [3, 4, 5, 6, 7, 2, 1, 0] rfl)
      intro S42 z43 z44 z45 z46 z47 H locs ls hsp G hl
      refine lv_iload hx hb dX11_bestHourToReverse_213 (lv_at hl 5 rfl) ?_
      obtain rfl := hk_s hsp
      exact W.iret (v := z45) hx hb hr (fun t ht hW => hk_end G ht hW) G.2.1.2.2 dX11_bestHourToReverse_215
    · have hsp := hk_f c3 hsp
      refine lv_aload_n hx hb dX11_bestHourToReverse_26 rfl (lv_at hl 2 rfl) ?_
      refine hk_getI F9 G h1 hkc_7 (k := 7) (by decide) qw_106 rfl dX11_bestHourToReverse_27 ?_
      refine lv_goto (tgt := 37) hx hb dX11_bestHourToReverse_30 (by decide) ?_
      obtain ⟨y48, ey48, hsp⟩ := hk_l hsp
      refine hk_top ey48 ?_
      refine lv_istore (lv' := [(4, .int y48), (3, .int y2), (0, .ref (g.1 + a0)), (1, .ref (g.1 + a1)), (2, .int x2)]) hx hb dX11_bestHourToReverse_37  hl (by decide) rfl (fun ls hl => ?_)
      refine lv_iconst (v := 0) hx hb dX11_bestHourToReverse_39 (by decide) ?_
      refine lv_istore (lv' := [(5, .int 0), (4, .int y48), (3, .int y2), (0, .ref (g.1 + a0)), (1, .ref (g.1 + a1)), (2, .int x2)]) hx hb dX11_bestHourToReverse_40  hl (by decide) rfl (fun ls hl => ?_)
      refine L_42   _ ?_ F S y2 y48 0 _ _ _ hsp G (lv_sub hl [3, 4, 5, 2, 1, 0] rfl)
      intro S49 z50 z51 z52 H locs ls hsp G hl
      refine lv_iconst (v := 0) hx hb dX11_bestHourToReverse_97 (by decide) ?_
      refine lv_istore (lv' := [(5, .int 0), (0, .ref (g.1 + a0)), (1, .ref (g.1 + a1)), (2, .int x2), (3, .int z50), (4, .int z51)]) hx hb dX11_bestHourToReverse_98  hl (by decide) rfl (fun ls hl => ?_)
      refine lv_iload_n hx hb dX11_bestHourToReverse_100 rfl (lv_at hl 4 rfl) ?_
      obtain ⟨r53, er53, hsp⟩ := hk_b hsp
      refine hk_callSi (As := [.int z50]) (rest := []) F9 G (kX11_notBelowLowest l g E F n S49 z50 r53  er53) qv_RX11_347 ⟨rfl, rfl, (Nat.le_of_ble_eq_true rfl), (Nat.le_of_ble_eq_true rfl)⟩ rfl hl.1 rfl (Nat.le_of_ble_eq_true rfl) ⟨Nat.zero_le _, Nat.zero_le _⟩ dX11_bestHourToReverse_101 (fun H locs G => ?_)
      refine lv_iload hx hb dX11_bestHourToReverse_104 (lv_at hl 5 rfl) ?_
      obtain ⟨r54, er54, hsp⟩ := hk_b hsp
      refine hk_callSi (As := [.int z51]) (rest := [.int r53.1]) F9 G (kX11_notBelowLowest l g E F n r53.2 z51 r54  er54) qv_RX11_347 ⟨rfl, rfl, (Nat.le_of_ble_eq_true rfl), (Nat.le_of_ble_eq_true rfl)⟩ rfl hl.1 rfl (Nat.le_of_ble_eq_true rfl) ⟨Nat.zero_le _, Nat.zero_le _⟩ dX11_bestHourToReverse_106 (fun H locs G => ?_)
      refine lv_isub hx hb dX11_bestHourToReverse_109 ?_
      obtain ⟨r55, er55, hsp⟩ := hk_b hsp
      refine hk_callSi (As := [.int (r53.1 - r54.1)]) (rest := []) F9 G (kJ9_abs_0f7a4 l g E F n r54.2 (r53.1 - r54.1) r55  er55) qv_RX11_350 ⟨rfl, rfl, (Nat.le_of_ble_eq_true rfl), (Nat.le_of_ble_eq_true rfl)⟩ rfl hl.1 rfl (Nat.le_of_ble_eq_true rfl) ⟨Nat.zero_le _, Nat.zero_le _⟩ dX11_bestHourToReverse_110 (fun H locs G => ?_)
      refine lv_istore (lv' := [(6, .int r55.1), (5, .int 0), (0, .ref (g.1 + a0)), (1, .ref (g.1 + a1)), (2, .int x2), (3, .int z50), (4, .int z51)]) hx hb dX11_bestHourToReverse_113  hl (by decide) rfl (fun ls hl => ?_)
      refine lv_iconst (v := 0) hx hb dX11_bestHourToReverse_115 (by decide) ?_
      refine lv_istore (lv' := [(7, .int 0), (6, .int r55.1), (5, .int 0), (0, .ref (g.1 + a0)), (1, .ref (g.1 + a1)), (2, .int x2), (3, .int z50), (4, .int z51)]) hx hb dX11_bestHourToReverse_116  hl (by decide) rfl (fun ls hl => ?_)
      refine L_118   _ ?_ F r55.2 z50 z51 0 r55.1 0 _ _ _ hsp G (lv_sub hl [3, 4, 5, 6, 7, 2, 1, 0] rfl)
      intro S56 z57 z58 z59 z60 z61 H locs ls hsp G hl
      refine lv_iload hx hb dX11_bestHourToReverse_213 (lv_at hl 5 rfl) ?_
      obtain rfl := hk_s hsp
      exact W.iret (v := z59) hx hb hr (fun t ht hW => hk_end G ht hW) G.2.1.2.2 dX11_bestHourToReverse_215
  · have hsp := hk_f c1 hsp
    refine lv_aload_n hx hb dX11_bestHourToReverse_7 rfl (lv_at hl 1 rfl) ?_
    refine hk_getI F9 G h1 hkc_7 (k := 6) (by decide) qw_103 rfl dX11_bestHourToReverse_8 ?_
    refine lv_goto (tgt := 18) hx hb dX11_bestHourToReverse_11 (by decide) ?_
    obtain ⟨y62, ey62, hsp⟩ := hk_l hsp
    refine hk_top ey62 ?_
    refine lv_istore_n (lv' := [(3, .int y62), (0, .ref (g.1 + a0)), (1, .ref (g.1 + a1)), (2, .int x2)]) hx hb dX11_bestHourToReverse_18 rfl hl (by decide) rfl (fun ls hl => ?_)
    refine lv_aload_n hx hb dX11_bestHourToReverse_19 rfl (lv_at hl 2 rfl) ?_
    refine hk_getI F9 G h1 hkc_7 (k := 2) (by decide) qw_88 rfl dX11_bestHourToReverse_20 ?_
    refine lv_if_eq (tgt := 33) hx hb dX11_bestHourToReverse_23 (by decide) (fun c63 => ?_) (fun c63 => ?_)
    · have hsp := hk_t c63 hsp
      refine lv_aload_n hx hb dX11_bestHourToReverse_33 rfl (lv_at hl 2 rfl) ?_
      refine hk_getI F9 G h1 hkc_7 (k := 6) (by decide) qw_103 rfl dX11_bestHourToReverse_34 ?_
      obtain ⟨y64, ey64, hsp⟩ := hk_l hsp
      refine hk_top ey64 ?_
      refine lv_istore (lv' := [(4, .int y64), (3, .int y62), (0, .ref (g.1 + a0)), (1, .ref (g.1 + a1)), (2, .int x2)]) hx hb dX11_bestHourToReverse_37  hl (by decide) rfl (fun ls hl => ?_)
      refine lv_iconst (v := 0) hx hb dX11_bestHourToReverse_39 (by decide) ?_
      refine lv_istore (lv' := [(5, .int 0), (4, .int y64), (3, .int y62), (0, .ref (g.1 + a0)), (1, .ref (g.1 + a1)), (2, .int x2)]) hx hb dX11_bestHourToReverse_40  hl (by decide) rfl (fun ls hl => ?_)
      refine L_42   _ ?_ F S y62 y64 0 _ _ _ hsp G (lv_sub hl [3, 4, 5, 2, 1, 0] rfl)
      intro S65 z66 z67 z68 H locs ls hsp G hl
      refine lv_iconst (v := 0) hx hb dX11_bestHourToReverse_97 (by decide) ?_
      refine lv_istore (lv' := [(5, .int 0), (0, .ref (g.1 + a0)), (1, .ref (g.1 + a1)), (2, .int x2), (3, .int z66), (4, .int z67)]) hx hb dX11_bestHourToReverse_98  hl (by decide) rfl (fun ls hl => ?_)
      refine lv_iload_n hx hb dX11_bestHourToReverse_100 rfl (lv_at hl 4 rfl) ?_
      obtain ⟨r69, er69, hsp⟩ := hk_b hsp
      refine hk_callSi (As := [.int z66]) (rest := []) F9 G (kX11_notBelowLowest l g E F n S65 z66 r69  er69) qv_RX11_347 ⟨rfl, rfl, (Nat.le_of_ble_eq_true rfl), (Nat.le_of_ble_eq_true rfl)⟩ rfl hl.1 rfl (Nat.le_of_ble_eq_true rfl) ⟨Nat.zero_le _, Nat.zero_le _⟩ dX11_bestHourToReverse_101 (fun H locs G => ?_)
      refine lv_iload hx hb dX11_bestHourToReverse_104 (lv_at hl 5 rfl) ?_
      obtain ⟨r70, er70, hsp⟩ := hk_b hsp
      refine hk_callSi (As := [.int z67]) (rest := [.int r69.1]) F9 G (kX11_notBelowLowest l g E F n r69.2 z67 r70  er70) qv_RX11_347 ⟨rfl, rfl, (Nat.le_of_ble_eq_true rfl), (Nat.le_of_ble_eq_true rfl)⟩ rfl hl.1 rfl (Nat.le_of_ble_eq_true rfl) ⟨Nat.zero_le _, Nat.zero_le _⟩ dX11_bestHourToReverse_106 (fun H locs G => ?_)
      refine lv_isub hx hb dX11_bestHourToReverse_109 ?_
      obtain ⟨r71, er71, hsp⟩ := hk_b hsp
      refine hk_callSi (As := [.int (r69.1 - r70.1)]) (rest := []) F9 G (kJ9_abs_0f7a4 l g E F n r70.2 (r69.1 - r70.1) r71  er71) qv_RX11_350 ⟨rfl, rfl, (Nat.le_of_ble_eq_true rfl), (Nat.le_of_ble_eq_true rfl)⟩ rfl hl.1 rfl (Nat.le_of_ble_eq_true rfl) ⟨Nat.zero_le _, Nat.zero_le _⟩ dX11_bestHourToReverse_110 (fun H locs G => ?_)
      refine lv_istore (lv' := [(6, .int r71.1), (5, .int 0), (0, .ref (g.1 + a0)), (1, .ref (g.1 + a1)), (2, .int x2), (3, .int z66), (4, .int z67)]) hx hb dX11_bestHourToReverse_113  hl (by decide) rfl (fun ls hl => ?_)
      refine lv_iconst (v := 0) hx hb dX11_bestHourToReverse_115 (by decide) ?_
      refine lv_istore (lv' := [(7, .int 0), (6, .int r71.1), (5, .int 0), (0, .ref (g.1 + a0)), (1, .ref (g.1 + a1)), (2, .int x2), (3, .int z66), (4, .int z67)]) hx hb dX11_bestHourToReverse_116  hl (by decide) rfl (fun ls hl => ?_)
      refine L_118   _ ?_ F r71.2 z66 z67 0 r71.1 0 _ _ _ hsp G (lv_sub hl [3, 4, 5, 6, 7, 2, 1, 0] rfl)
      intro S72 z73 z74 z75 z76 z77 H locs ls hsp G hl
      refine lv_iload hx hb dX11_bestHourToReverse_213 (lv_at hl 5 rfl) ?_
      obtain rfl := hk_s hsp
      exact W.iret (v := z75) hx hb hr (fun t ht hW => hk_end G ht hW) G.2.1.2.2 dX11_bestHourToReverse_215
    · have hsp := hk_f c63 hsp
      refine lv_aload_n hx hb dX11_bestHourToReverse_26 rfl (lv_at hl 2 rfl) ?_
      refine hk_getI F9 G h1 hkc_7 (k := 7) (by decide) qw_106 rfl dX11_bestHourToReverse_27 ?_
      refine lv_goto (tgt := 37) hx hb dX11_bestHourToReverse_30 (by decide) ?_
      obtain ⟨y78, ey78, hsp⟩ := hk_l hsp
      refine hk_top ey78 ?_
      refine lv_istore (lv' := [(4, .int y78), (3, .int y62), (0, .ref (g.1 + a0)), (1, .ref (g.1 + a1)), (2, .int x2)]) hx hb dX11_bestHourToReverse_37  hl (by decide) rfl (fun ls hl => ?_)
      refine lv_iconst (v := 0) hx hb dX11_bestHourToReverse_39 (by decide) ?_
      refine lv_istore (lv' := [(5, .int 0), (4, .int y78), (3, .int y62), (0, .ref (g.1 + a0)), (1, .ref (g.1 + a1)), (2, .int x2)]) hx hb dX11_bestHourToReverse_40  hl (by decide) rfl (fun ls hl => ?_)
      refine L_42   _ ?_ F S y62 y78 0 _ _ _ hsp G (lv_sub hl [3, 4, 5, 2, 1, 0] rfl)
      intro S79 z80 z81 z82 H locs ls hsp G hl
      refine lv_iconst (v := 0) hx hb dX11_bestHourToReverse_97 (by decide) ?_
      refine lv_istore (lv' := [(5, .int 0), (0, .ref (g.1 + a0)), (1, .ref (g.1 + a1)), (2, .int x2), (3, .int z80), (4, .int z81)]) hx hb dX11_bestHourToReverse_98  hl (by decide) rfl (fun ls hl => ?_)
      refine lv_iload_n hx hb dX11_bestHourToReverse_100 rfl (lv_at hl 4 rfl) ?_
      obtain ⟨r83, er83, hsp⟩ := hk_b hsp
      refine hk_callSi (As := [.int z80]) (rest := []) F9 G (kX11_notBelowLowest l g E F n S79 z80 r83  er83) qv_RX11_347 ⟨rfl, rfl, (Nat.le_of_ble_eq_true rfl), (Nat.le_of_ble_eq_true rfl)⟩ rfl hl.1 rfl (Nat.le_of_ble_eq_true rfl) ⟨Nat.zero_le _, Nat.zero_le _⟩ dX11_bestHourToReverse_101 (fun H locs G => ?_)
      refine lv_iload hx hb dX11_bestHourToReverse_104 (lv_at hl 5 rfl) ?_
      obtain ⟨r84, er84, hsp⟩ := hk_b hsp
      refine hk_callSi (As := [.int z81]) (rest := [.int r83.1]) F9 G (kX11_notBelowLowest l g E F n r83.2 z81 r84  er84) qv_RX11_347 ⟨rfl, rfl, (Nat.le_of_ble_eq_true rfl), (Nat.le_of_ble_eq_true rfl)⟩ rfl hl.1 rfl (Nat.le_of_ble_eq_true rfl) ⟨Nat.zero_le _, Nat.zero_le _⟩ dX11_bestHourToReverse_106 (fun H locs G => ?_)
      refine lv_isub hx hb dX11_bestHourToReverse_109 ?_
      obtain ⟨r85, er85, hsp⟩ := hk_b hsp
      refine hk_callSi (As := [.int (r83.1 - r84.1)]) (rest := []) F9 G (kJ9_abs_0f7a4 l g E F n r84.2 (r83.1 - r84.1) r85  er85) qv_RX11_350 ⟨rfl, rfl, (Nat.le_of_ble_eq_true rfl), (Nat.le_of_ble_eq_true rfl)⟩ rfl hl.1 rfl (Nat.le_of_ble_eq_true rfl) ⟨Nat.zero_le _, Nat.zero_le _⟩ dX11_bestHourToReverse_110 (fun H locs G => ?_)
      refine lv_istore (lv' := [(6, .int r85.1), (5, .int 0), (0, .ref (g.1 + a0)), (1, .ref (g.1 + a1)), (2, .int x2), (3, .int z80), (4, .int z81)]) hx hb dX11_bestHourToReverse_113  hl (by decide) rfl (fun ls hl => ?_)
      refine lv_iconst (v := 0) hx hb dX11_bestHourToReverse_115 (by decide) ?_
      refine lv_istore (lv' := [(7, .int 0), (6, .int r85.1), (5, .int 0), (0, .ref (g.1 + a0)), (1, .ref (g.1 + a1)), (2, .int x2), (3, .int z80), (4, .int z81)]) hx hb dX11_bestHourToReverse_116  hl (by decide) rfl (fun ls hl => ?_)
      refine L_118   _ ?_ F r85.2 z80 z81 0 r85.1 0 _ _ _ hsp G (lv_sub hl [3, 4, 5, 6, 7, 2, 1, 0] rfl)
      intro S86 z87 z88 z89 z90 z91 H locs ls hsp G hl
      refine lv_iload hx hb dX11_bestHourToReverse_213 (lv_at hl 5 rfl) ?_
      obtain rfl := hk_s hsp
      exact W.iret (v := z89) hx hb hr (fun t ht hW => hk_end G ht hW) G.2.1.2.2 dX11_bestHourToReverse_215
def mX11_undo (E : hk_E) (F : Nat) (S : hk_S) (a0 : Nat) : Option (Int32 × hk_S) :=
(E.2.2.2 a0 3).bind (fun r1 => if E.2.1 r1 = 2 then (if ¬ (S r1 2) = 0 then ((E.2.2.2 a0 0).bind (fun r3 => if E.2.1 r3 = 4 then ((mX3_takeBack E F S r1 r3).bind (fun r4 => some ((r4 r1 2), r4))) else none)) else (some ((-1), S))) else none)
set_option maxHeartbeats 4000000 in
set_option maxRecDepth 100000 in
theorem kX11_undo (l : Launch) (g : hk_G) (E : hk_E) (F n : Nat) (S : hk_S) (a0 : Nat) (o : Int32 × hk_S) (h0 : E.2.1 a0 = 9) (hsp : mX11_undo E F S a0 = some o) : Met l yX11_undo (hk_ws yX11_undo cX11_undo 1 (Option.some Jvm.ClassFile.FieldType.int)) ({ frames := 3, cells := 0, slots := 0, locals := 65 }) (hk_Pc g E S n [.ref (g.1 + a0)]) (hk_Q g E o.2 n (some (.int o.1))) 0 0 (hk_A g) := by
  refine Met.ofW (cc := cX11_undo) (maxL := 1) (ret := (Option.some Jvm.ClassFile.FieldType.int)) (by decide) rfl ?_
  intro p e s m args below meth c s₁ B hml hv
  obtain ⟨rfl, G⟩ := hk_begin hv
  have F9 : CallFix p m c cX11_undo 1 s [.ref (g.1 + a0)].toArray hk_W RX11 := ⟨B.exec, B.bytes, hml, findClass_of_methodNamed B.named, fun w h => atoms_spec (ws := hk_ws yX11_undo cX11_undo 1 (Option.some Jvm.ClassFile.FieldType.int)) B.pre w (hk_in h)⟩
  have hx := B.exec
  have hb := B.bytes
  have hr := B.returns
  have hlocks := B.notSynchronized
  have hl := lv_entry ([.ref (g.1 + a0)]) (n := 1) (Nat.le_of_ble_eq_true rfl)
  rw [lg_entry_eq]
  generalize (lg_sl ([.ref (g.1 + a0)]) ++ List.replicate (1 - (lg_sl ([.ref (g.1 + a0)])).length) Slot.unset).toArray = ls at hl ⊢
  have hl : lv_has ls 1 [(0, .ref (g.1 + a0))] := hl
  unfold mX11_undo at hsp
  have G : hk_GG g E S n s s.heap [] := G
  refine lv_aload_n hx hb dX11_undo_0 rfl (lv_at hl 0 rfl) ?_
  obtain ⟨r1, er1, hsp⟩ := hk_b hsp
  obtain ⟨kr1, hsp⟩ := hk_k hsp
  refine hk_getR F9 G h0 hkc_8 (k := 3) (by decide) qw_402 rfl er1 dX11_undo_1 ?_
  refine hk_getI F9 G kr1 hkc_1 (k := 2) (by decide) qw_234 rfl dX11_undo_4 ?_
  refine lv_if_ne (tgt := 12) hx hb dX11_undo_7 (by decide) (fun c2 => ?_) (fun c2 => ?_)
  · have hsp := hk_t c2 hsp
    refine lv_aload_n hx hb dX11_undo_12 rfl (lv_at hl 0 rfl) ?_
    refine hk_getR F9 G h0 hkc_8 (k := 3) (by decide) qw_402 rfl er1 dX11_undo_13 ?_
    refine lv_aload_n hx hb dX11_undo_16 rfl (lv_at hl 0 rfl) ?_
    obtain ⟨r3, er3, hsp⟩ := hk_b hsp
    obtain ⟨kr3, hsp⟩ := hk_k hsp
    refine hk_getR F9 G h0 hkc_8 (k := 0) (by decide) qw_399 rfl er3 dX11_undo_17 ?_
    obtain ⟨r4, er4, hsp⟩ := hk_b hsp
    refine hk_callVv (As := [.ref (g.1 + r3)]) (rest := []) F9 G kr1 hkc_1 rfl (kX3_takeBack l g E F n S r1 r3 r4 kr1 kr3 er4) qv_RX11_208 ⟨rfl, rfl, (Nat.le_of_ble_eq_true rfl), (Nat.le_of_ble_eq_true rfl)⟩ rfl hl.1 rfl (Nat.le_of_ble_eq_true rfl) ⟨Nat.zero_le _, Nat.zero_le _⟩ dX11_undo_20 (fun H locs G => ?_)
    refine lv_aload_n hx hb dX11_undo_23 rfl (lv_at hl 0 rfl) ?_
    refine hk_getR F9 G h0 hkc_8 (k := 3) (by decide) qw_402 rfl er1 dX11_undo_24 ?_
    refine hk_getI F9 G kr1 hkc_1 (k := 2) (by decide) qw_234 rfl dX11_undo_27 ?_
    obtain rfl := hk_s hsp
    exact W.iret (v := (r4 r1 2)) hx hb hr (fun t ht hW => hk_end G ht hW) G.2.1.2.2 dX11_undo_30
  · have hsp := hk_g c2 hsp
    refine lv_iconst (v := (-1)) hx hb dX11_undo_10 (by decide) ?_
    obtain rfl := hk_s hsp
    exact W.iret (v := (-1)) hx hb hr (fun t ht hW => hk_end G ht hW) G.2.1.2.2 dX11_undo_11
def mX11_letTrialPass_2 (E : hk_E) (F : Nat) (a0 : Nat) (x1 : Int32)  (k : hk_S → Int32 → Option (hk_S)) : Nat → hk_S → Int32 → Option (hk_S)
  | 0 => fun _ _ => none
  | f + 1 => fun S z1 =>
    if x1 ≤ z1 then (k S z1) else ((E.2.2.2 a0 6).bind (fun r3 => if E.2.1 r3 = 8 then ((E.2.2.2 a0 0).bind (fun r4 => if E.2.1 r4 = 4 then ((E.2.2.2 r4 0).bind (fun r5 => if E.2.1 r5 = 1 then ((mX1_drynessOf E F S r5 ((S r5 0) + z1)).bind (fun r6 => (mX10_passHour E F r6.2 r3 r6.1).bind (fun r7 => hk_let (z1 + 1) (fun y8 => mX11_letTrialPass_2 E F a0 x1 k f r7.2 y8)))) else none)) else none)) else none))
def mX11_letTrialPass (E : hk_E) (F : Nat) (S : hk_S) (a0 : Nat) (x1 : Int32) : Option (hk_S) :=
mX11_letTrialPass_2 E F a0 x1  (fun S9 z10 => some (S9)) F S 0
set_option maxHeartbeats 4000000 in
set_option maxRecDepth 100000 in
theorem kX11_letTrialPass (l : Launch) (g : hk_G) (E : hk_E) (F n : Nat) (S : hk_S) (a0 : Nat) (x1 : Int32) (o : hk_S) (h0 : E.2.1 a0 = 9) (hsp : mX11_letTrialPass E F S a0 x1 = some o) : Met l yX11_letTrialPass (hk_ws yX11_letTrialPass cX11_letTrialPass 3 (Option.none : Option Jvm.ClassFile.FieldType)) ({ frames := 3, cells := 0, slots := 0, locals := 65 }) (hk_Pc g E S n [.ref (g.1 + a0), .int x1]) (hk_Q g E o n none) 0 0 (hk_A g) := by
  refine Met.ofW (cc := cX11_letTrialPass) (maxL := 3) (ret := (Option.none : Option Jvm.ClassFile.FieldType)) (by decide) rfl ?_
  intro p e s m args below meth c s₁ B hml hv
  obtain ⟨rfl, G⟩ := hk_begin hv
  have F9 : CallFix p m c cX11_letTrialPass 3 s [.ref (g.1 + a0), .int x1].toArray hk_W RX11 := ⟨B.exec, B.bytes, hml, findClass_of_methodNamed B.named, fun w h => atoms_spec (ws := hk_ws yX11_letTrialPass cX11_letTrialPass 3 (Option.none : Option Jvm.ClassFile.FieldType)) B.pre w (hk_in h)⟩
  have hx := B.exec
  have hb := B.bytes
  have hr := B.returns
  have hlocks := B.notSynchronized
  have hl := lv_entry ([.ref (g.1 + a0), .int x1]) (n := 3) (Nat.le_of_ble_eq_true rfl)
  rw [lg_entry_eq]
  generalize (lg_sl ([.ref (g.1 + a0), .int x1]) ++ List.replicate (3 - (lg_sl ([.ref (g.1 + a0), .int x1])).length) Slot.unset).toArray = ls at hl ⊢
  have hl : lv_has ls 3 [(0, .ref (g.1 + a0)), (1, .int x1)] := hl
  unfold mX11_letTrialPass at hsp
  have G : hk_GG g E S n s s.heap [] := G
  have L_2 : ∀   (k : hk_S → Int32 → Option (hk_S)) (_ : ∀ (S : hk_S) (z1 : Int32) (H : Heap) (locs : List Loc) (ls : Array Slot), k S z1 = some o → hk_GG g E S n s H locs → lv_has ls 3 [(0, .ref (g.1 + a0)), (1, .int x1), (2, .int z1)] → W p l e (headSpec (hk_ws yX11_letTrialPass cX11_letTrialPass 3 (Option.none : Option Jvm.ClassFile.FieldType)) ({ frames := 3, cells := 0, slots := 0, locals := 65 })).room s m [.ref (g.1 + a0), .int x1].toArray below meth c H locs 0 0 (MQ below (hk_Q g E o n none) [.ref (g.1 + a0), .int x1].toArray s 0 0 (hk_A g)) (F0 m 43 ls [])) (f : Nat) (S : hk_S) (z1 : Int32) (H : Heap) (locs : List Loc) (ls : Array Slot), mX11_letTrialPass_2 E F a0 x1 k f S z1 = some o → hk_GG g E S n s H locs → lv_has ls 3 [(0, .ref (g.1 + a0)), (1, .int x1), (2, .int z1)] → W p l e (headSpec (hk_ws yX11_letTrialPass cX11_letTrialPass 3 (Option.none : Option Jvm.ClassFile.FieldType)) ({ frames := 3, cells := 0, slots := 0, locals := 65 })).room s m [.ref (g.1 + a0), .int x1].toArray below meth c H locs 0 0 (MQ below (hk_Q g E o n none) [.ref (g.1 + a0), .int x1].toArray s 0 0 (hk_A g)) (F0 m 2 ls []) := by
    intro   k hk f
    induction f with
    | zero =>
      intro S z1 H locs ls hsp
      exact nomatch hsp
    | succ f ih =>
      intro S z1 H locs ls hsp G hl
      rw [mX11_letTrialPass_2] at hsp
      refine lv_iload_n hx hb dX11_letTrialPass_2 rfl (lv_at hl 2 rfl) ?_
      refine lv_iload_n hx hb dX11_letTrialPass_3 rfl (lv_at hl 1 rfl) ?_
      refine lv_icmp_ge (tgt := 43) hx hb dX11_letTrialPass_4 (by decide) (fun c2 => ?_) (fun c2 => ?_)
      · have hsp := hk_t c2 hsp
        exact hk S z1 _ _ _ hsp G (lv_sub hl [0, 1, 2] rfl)
      · have hsp := hk_f c2 hsp
        refine lv_aload_n hx hb dX11_letTrialPass_7 rfl (lv_at hl 0 rfl) ?_
        obtain ⟨r3, er3, hsp⟩ := hk_b hsp
        obtain ⟨kr3, hsp⟩ := hk_k hsp
        refine hk_getR F9 G h0 hkc_8 (k := 6) (by decide) qw_405 rfl er3 dX11_letTrialPass_8 ?_
        refine lv_aload_n hx hb dX11_letTrialPass_11 rfl (lv_at hl 0 rfl) ?_
        obtain ⟨r4, er4, hsp⟩ := hk_b hsp
        obtain ⟨kr4, hsp⟩ := hk_k hsp
        refine hk_getR F9 G h0 hkc_8 (k := 0) (by decide) qw_399 rfl er4 dX11_letTrialPass_12 ?_
        obtain ⟨r5, er5, hsp⟩ := hk_b hsp
        obtain ⟨kr5, hsp⟩ := hk_k hsp
        refine hk_getR F9 G kr4 hkc_3 (k := 0) (by decide) qw_172 rfl er5 dX11_letTrialPass_15 ?_
        refine lv_aload_n hx hb dX11_letTrialPass_18 rfl (lv_at hl 0 rfl) ?_
        refine hk_getR F9 G h0 hkc_8 (k := 0) (by decide) qw_399 rfl er4 dX11_letTrialPass_19 ?_
        refine hk_getR F9 G kr4 hkc_3 (k := 0) (by decide) qw_172 rfl er5 dX11_letTrialPass_22 ?_
        refine hk_getI F9 G kr5 hkc_0 (k := 0) (by decide) qw_50 rfl dX11_letTrialPass_25 ?_
        refine lv_iload_n hx hb dX11_letTrialPass_28 rfl (lv_at hl 2 rfl) ?_
        refine lv_iadd hx hb dX11_letTrialPass_29 ?_
        obtain ⟨r6, er6, hsp⟩ := hk_b hsp
        refine hk_callVi (As := [.int ((S r5 0) + z1)]) (rest := [.ref (g.1 + r3)]) F9 G kr5 hkc_0 rfl (kX1_drynessOf l g E F n S r5 ((S r5 0) + z1) r6 kr5 er6) qv_RX11_230 ⟨rfl, rfl, (Nat.le_of_ble_eq_true rfl), (Nat.le_of_ble_eq_true rfl)⟩ rfl hl.1 rfl (Nat.le_of_ble_eq_true rfl) ⟨Nat.zero_le _, Nat.zero_le _⟩ dX11_letTrialPass_30 (fun H locs G => ?_)
        obtain ⟨r7, er7, hsp⟩ := hk_b hsp
        refine hk_callVi (As := [.int r6.1]) (rest := []) F9 G kr3 hkc_7 rfl (kX10_passHour l g E F n r6.2 r3 r6.1 r7 kr3 er7) qv_RX11_283 ⟨rfl, rfl, (Nat.le_of_ble_eq_true rfl), (Nat.le_of_ble_eq_true rfl)⟩ rfl hl.1 rfl (Nat.le_of_ble_eq_true rfl) ⟨Nat.zero_le _, Nat.zero_le _⟩ dX11_letTrialPass_33 (fun H locs G => ?_)
        refine lv_pop hx hb dX11_letTrialPass_36 rfl ?_
        obtain ⟨y8, ey8, hsp⟩ := hk_l hsp
        refine lv_iinc (v := y8) (lv' := [(2, .int y8), (0, .ref (g.1 + a0)), (1, .int x1)]) hx hb dX11_letTrialPass_37 hl (k := 2) rfl (by rw [← ey8]; rfl) (by decide) rfl (fun ls hl => ?_)
        refine lv_goto (tgt := 2) hx hb dX11_letTrialPass_40 (by decide) ?_
        exact ih r7.2 y8 _ _ _ hsp G (lv_sub hl [1, 2, 0] rfl)
  refine lv_iconst (v := 0) hx hb dX11_letTrialPass_0 (by decide) ?_
  refine lv_istore_n (lv' := [(2, .int 0), (0, .ref (g.1 + a0)), (1, .int x1)]) hx hb dX11_letTrialPass_1 rfl hl (by decide) rfl (fun ls hl => ?_)
  refine L_2   _ ?_ F S 0 _ _ _ hsp G (lv_sub hl [1, 2, 0] rfl)
  intro S9 z10 H locs ls hsp G hl
  obtain rfl := hk_s hsp
  exact W.vret hx hb hr (fun t ht hW => hk_end G ht hW) G.2.1.2.2 dX11_letTrialPass_43
def mX11_writeTroughs (E : hk_E) (F : Nat) (S : hk_S) (a0 : Nat) : Option (Int32 × hk_S) :=
(E.2.2.2 a0 5).bind (fun r1 => if E.2.1 r1 = 6 then ((E.2.2.2 a0 0).bind (fun r2 => if E.2.1 r2 = 4 then ((mX7_writeAll E F S r1 r2).bind (fun r3 => some ((r3 r1 1), r3))) else none)) else none)
set_option maxHeartbeats 4000000 in
set_option maxRecDepth 100000 in
theorem kX11_writeTroughs (l : Launch) (g : hk_G) (E : hk_E) (F n : Nat) (S : hk_S) (a0 : Nat) (o : Int32 × hk_S) (h0 : E.2.1 a0 = 9) (hsp : mX11_writeTroughs E F S a0 = some o) : Met l yX11_writeTroughs (hk_ws yX11_writeTroughs cX11_writeTroughs 1 (Option.some Jvm.ClassFile.FieldType.int)) ({ frames := 4, cells := 0, slots := 0, locals := 86 }) (hk_Pc g E S n [.ref (g.1 + a0)]) (hk_Q g E o.2 n (some (.int o.1))) 0 0 (hk_A g) := by
  refine Met.ofW (cc := cX11_writeTroughs) (maxL := 1) (ret := (Option.some Jvm.ClassFile.FieldType.int)) (by decide) rfl ?_
  intro p e s m args below meth c s₁ B hml hv
  obtain ⟨rfl, G⟩ := hk_begin hv
  have F9 : CallFix p m c cX11_writeTroughs 1 s [.ref (g.1 + a0)].toArray hk_W RX11 := ⟨B.exec, B.bytes, hml, findClass_of_methodNamed B.named, fun w h => atoms_spec (ws := hk_ws yX11_writeTroughs cX11_writeTroughs 1 (Option.some Jvm.ClassFile.FieldType.int)) B.pre w (hk_in h)⟩
  have hx := B.exec
  have hb := B.bytes
  have hr := B.returns
  have hlocks := B.notSynchronized
  have hl := lv_entry ([.ref (g.1 + a0)]) (n := 1) (Nat.le_of_ble_eq_true rfl)
  rw [lg_entry_eq]
  generalize (lg_sl ([.ref (g.1 + a0)]) ++ List.replicate (1 - (lg_sl ([.ref (g.1 + a0)])).length) Slot.unset).toArray = ls at hl ⊢
  have hl : lv_has ls 1 [(0, .ref (g.1 + a0))] := hl
  unfold mX11_writeTroughs at hsp
  have G : hk_GG g E S n s s.heap [] := G
  refine lv_aload_n hx hb dX11_writeTroughs_0 rfl (lv_at hl 0 rfl) ?_
  obtain ⟨r1, er1, hsp⟩ := hk_b hsp
  obtain ⟨kr1, hsp⟩ := hk_k hsp
  refine hk_getR F9 G h0 hkc_8 (k := 5) (by decide) qw_404 rfl er1 dX11_writeTroughs_1 ?_
  refine lv_aload_n hx hb dX11_writeTroughs_4 rfl (lv_at hl 0 rfl) ?_
  obtain ⟨r2, er2, hsp⟩ := hk_b hsp
  obtain ⟨kr2, hsp⟩ := hk_k hsp
  refine hk_getR F9 G h0 hkc_8 (k := 0) (by decide) qw_399 rfl er2 dX11_writeTroughs_5 ?_
  obtain ⟨r3, er3, hsp⟩ := hk_b hsp
  refine hk_callVv (As := [.ref (g.1 + r2)]) (rest := []) F9 G kr1 hkc_5 rfl (kX7_writeAll l g E F n S r1 r2 r3 kr1 kr2 er3) qv_RX11_311 ⟨rfl, rfl, (Nat.le_of_ble_eq_true rfl), (Nat.le_of_ble_eq_true rfl)⟩ rfl hl.1 rfl (Nat.le_of_ble_eq_true rfl) ⟨Nat.zero_le _, Nat.zero_le _⟩ dX11_writeTroughs_8 (fun H locs G => ?_)
  refine lv_aload_n hx hb dX11_writeTroughs_11 rfl (lv_at hl 0 rfl) ?_
  refine hk_getR F9 G h0 hkc_8 (k := 5) (by decide) qw_404 rfl er1 dX11_writeTroughs_12 ?_
  refine hk_getI F9 G kr1 hkc_5 (k := 1) (by decide) qw_323 rfl dX11_writeTroughs_15 ?_
  obtain rfl := hk_s hsp
  exact W.iret (v := (r3 r1 1)) hx hb hr (fun t ht hW => hk_end G ht hW) G.2.1.2.2 dX11_writeTroughs_18
def mX11_runScript (E : hk_E) (F : Nat) (S : hk_S) (a0 : Nat) : Option (Int32 × hk_S) :=
(E.2.2.2 a0 4).bind (fun r1 => if E.2.1 r1 = 7 then ((mX8_run E F S r1).bind (fun r2 => (E.2.2.2 r1 0).bind (fun r3 => if E.2.1 r3 = 3 then (hk_let (hk_up r2.2 r3 1 0) (fun S4 => if ¬ r2.1 = 0 then ((E.2.2.2 a0 3).bind (fun r6 => if E.2.1 r6 = 2 then ((E.2.2.2 a0 0).bind (fun r7 => if E.2.1 r7 = 4 then ((mX3_remember E F S4 r6 r7).bind (fun r8 => (E.2.2.2 r1 1).bind (fun r9 => if E.2.1 r9 = 4 then ((mX5_become E F r8 r7 r9).bind (fun r10 => some ((r10 r7 2), r10))) else none))) else none)) else none)) else (some ((-1), S4)))) else none))) else none)
set_option maxHeartbeats 4000000 in
set_option maxRecDepth 100000 in
theorem kX11_runScript (l : Launch) (g : hk_G) (E : hk_E) (F n : Nat) (S : hk_S) (a0 : Nat) (o : Int32 × hk_S) (h0 : E.2.1 a0 = 9) (hsp : mX11_runScript E F S a0 = some o) : Met l yX11_runScript (hk_ws yX11_runScript cX11_runScript 2 (Option.some Jvm.ClassFile.FieldType.int)) ({ frames := 9, cells := 0, slots := 0, locals := 195 }) (hk_Pc g E S n [.ref (g.1 + a0)]) (hk_Q g E o.2 n (some (.int o.1))) 0 0 (hk_A g) := by
  refine Met.ofW (cc := cX11_runScript) (maxL := 2) (ret := (Option.some Jvm.ClassFile.FieldType.int)) (by decide) rfl ?_
  intro p e s m args below meth c s₁ B hml hv
  obtain ⟨rfl, G⟩ := hk_begin hv
  have F9 : CallFix p m c cX11_runScript 2 s [.ref (g.1 + a0)].toArray hk_W RX11 := ⟨B.exec, B.bytes, hml, findClass_of_methodNamed B.named, fun w h => atoms_spec (ws := hk_ws yX11_runScript cX11_runScript 2 (Option.some Jvm.ClassFile.FieldType.int)) B.pre w (hk_in h)⟩
  have hx := B.exec
  have hb := B.bytes
  have hr := B.returns
  have hlocks := B.notSynchronized
  have hl := lv_entry ([.ref (g.1 + a0)]) (n := 2) (Nat.le_of_ble_eq_true rfl)
  rw [lg_entry_eq]
  generalize (lg_sl ([.ref (g.1 + a0)]) ++ List.replicate (2 - (lg_sl ([.ref (g.1 + a0)])).length) Slot.unset).toArray = ls at hl ⊢
  have hl : lv_has ls 2 [(0, .ref (g.1 + a0))] := hl
  unfold mX11_runScript at hsp
  have G : hk_GG g E S n s s.heap [] := G
  refine lv_aload_n hx hb dX11_runScript_0 rfl (lv_at hl 0 rfl) ?_
  obtain ⟨r1, er1, hsp⟩ := hk_b hsp
  obtain ⟨kr1, hsp⟩ := hk_k hsp
  refine hk_getR F9 G h0 hkc_8 (k := 4) (by decide) qw_403 rfl er1 dX11_runScript_1 ?_
  obtain ⟨r2, er2, hsp⟩ := hk_b hsp
  refine hk_callVi (As := []) (rest := []) F9 G kr1 hkc_6 rfl (kX8_run l g E F n S r1 r2 kr1 er2) qv_RX11_100 ⟨rfl, rfl, (Nat.le_of_ble_eq_true rfl), (Nat.le_of_ble_eq_true rfl)⟩ rfl hl.1 rfl (Nat.le_of_ble_eq_true rfl) ⟨Nat.zero_le _, Nat.zero_le _⟩ dX11_runScript_4 (fun H locs G => ?_)
  refine lv_istore_n (lv' := [(1, .int r2.1), (0, .ref (g.1 + a0))]) hx hb dX11_runScript_7 rfl hl (by decide) rfl (fun ls hl => ?_)
  refine lv_aload_n hx hb dX11_runScript_8 rfl (lv_at hl 1 rfl) ?_
  refine hk_getR F9 G h0 hkc_8 (k := 4) (by decide) qw_403 rfl er1 dX11_runScript_9 ?_
  obtain ⟨r3, er3, hsp⟩ := hk_b hsp
  obtain ⟨kr3, hsp⟩ := hk_k hsp
  refine hk_getR F9 G kr1 hkc_6 (k := 0) (by decide) qw_269 rfl er3 dX11_runScript_12 ?_
  refine lv_iconst (v := 0) hx hb dX11_runScript_15 (by decide) ?_
  obtain ⟨S4, eS4, hsp⟩ := hk_l hsp
  refine hk_putI F9 G kr3 hkc_2 (k := 1) (by decide) qw_256 rfl rfl (tyX4_ok 1 (by decide)) rfl rfl dX11_runScript_16 (fun H locs G => ?_)
  rw [eS4] at G
  refine lv_iload_n hx hb dX11_runScript_19 rfl (lv_at hl 0 rfl) ?_
  refine lv_if_ne (tgt := 25) hx hb dX11_runScript_20 (by decide) (fun c5 => ?_) (fun c5 => ?_)
  · have hsp := hk_t c5 hsp
    refine lv_aload_n hx hb dX11_runScript_25 rfl (lv_at hl 1 rfl) ?_
    obtain ⟨r6, er6, hsp⟩ := hk_b hsp
    obtain ⟨kr6, hsp⟩ := hk_k hsp
    refine hk_getR F9 G h0 hkc_8 (k := 3) (by decide) qw_402 rfl er6 dX11_runScript_26 ?_
    refine lv_aload_n hx hb dX11_runScript_29 rfl (lv_at hl 1 rfl) ?_
    obtain ⟨r7, er7, hsp⟩ := hk_b hsp
    obtain ⟨kr7, hsp⟩ := hk_k hsp
    refine hk_getR F9 G h0 hkc_8 (k := 0) (by decide) qw_399 rfl er7 dX11_runScript_30 ?_
    obtain ⟨r8, er8, hsp⟩ := hk_b hsp
    refine hk_callVv (As := [.ref (g.1 + r7)]) (rest := []) F9 G kr6 hkc_1 rfl (kX3_remember l g E F n S4 r6 r7 r8 kr6 kr7 er8) qv_RX11_104 ⟨rfl, rfl, (Nat.le_of_ble_eq_true rfl), (Nat.le_of_ble_eq_true rfl)⟩ rfl hl.1 rfl (Nat.le_of_ble_eq_true rfl) ⟨Nat.zero_le _, Nat.zero_le _⟩ dX11_runScript_33 (fun H locs G => ?_)
    refine lv_aload_n hx hb dX11_runScript_36 rfl (lv_at hl 1 rfl) ?_
    refine hk_getR F9 G h0 hkc_8 (k := 0) (by decide) qw_399 rfl er7 dX11_runScript_37 ?_
    refine lv_aload_n hx hb dX11_runScript_40 rfl (lv_at hl 1 rfl) ?_
    refine hk_getR F9 G h0 hkc_8 (k := 4) (by decide) qw_403 rfl er1 dX11_runScript_41 ?_
    obtain ⟨r9, er9, hsp⟩ := hk_b hsp
    obtain ⟨kr9, hsp⟩ := hk_k hsp
    refine hk_getR F9 G kr1 hkc_6 (k := 1) (by decide) qw_271 rfl er9 dX11_runScript_44 ?_
    obtain ⟨r10, er10, hsp⟩ := hk_b hsp
    refine hk_callVv (As := [.ref (g.1 + r9)]) (rest := []) F9 G kr7 hkc_3 rfl (kX5_become l g E F n r8 r7 r9 r10 kr7 kr9 er10) qv_RX11_111 ⟨rfl, rfl, (Nat.le_of_ble_eq_true rfl), (Nat.le_of_ble_eq_true rfl)⟩ rfl hl.1 rfl (Nat.le_of_ble_eq_true rfl) ⟨Nat.zero_le _, Nat.zero_le _⟩ dX11_runScript_47 (fun H locs G => ?_)
    refine lv_aload_n hx hb dX11_runScript_50 rfl (lv_at hl 1 rfl) ?_
    refine hk_getR F9 G h0 hkc_8 (k := 0) (by decide) qw_399 rfl er7 dX11_runScript_51 ?_
    refine hk_getI F9 G kr7 hkc_3 (k := 2) (by decide) qw_177 rfl dX11_runScript_54 ?_
    obtain rfl := hk_s hsp
    exact W.iret (v := (r10 r7 2)) hx hb hr (fun t ht hW => hk_end G ht hW) G.2.1.2.2 dX11_runScript_57
  · have hsp := hk_g c5 hsp
    refine lv_iconst (v := (-1)) hx hb dX11_runScript_23 (by decide) ?_
    obtain rfl := hk_s hsp
    exact W.iret (v := (-1)) hx hb hr (fun t ht hW => hk_end G ht hW) G.2.1.2.2 dX11_runScript_24
