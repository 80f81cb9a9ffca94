def mX12_readsCommand (E : hk_E) (F : Nat) (rr : hk_S → Nat → Int32 → Option (Int32 × hk_S)) (S : hk_S) (a0 : Nat) (x1 : Int32) : Option (Int32 × hk_S) :=
(mX12_wordAhead E F S a0).bind (fun r1 => if ¬ r1.1 = (-1) then (if ¬ r1.1 = 14 then (if ¬ (r1.2 a0 20) = 200 then (hk_let (hk_up r1.2 a0 20 ((r1.2 a0 20) + 1)) (fun S5 => (mX12_next E F S5 a0).bind (fun r6 => (mX12_readsWord E F r6 a0 r1.1).bind (fun r7 => if r7.1 = 0 ∨ r7.1 = 1 then (some (r7.1, r7.2)) else none)))) else ((mX12_fail E F r1.2 a0 5).bind (fun r9 => if r9.1 = 0 ∨ r9.1 = 1 then (some (r9.1, r9.2)) else none))) else (if ¬ x1 = 2 then ((mX12_next E F r1.2 a0).bind (fun r12 => (rr r12 a0 x1).bind (fun r13 => if r13.1 = 0 ∨ r13.1 = 1 then (some (r13.1, r13.2)) else none))) else ((mX12_fail E F r1.2 a0 4).bind (fun r15 => if r15.1 = 0 ∨ r15.1 = 1 then (some (r15.1, r15.2)) else none)))) else ((mX12_fail E F r1.2 a0 1).bind (fun r17 => if r17.1 = 0 ∨ r17.1 = 1 then (some (r17.1, r17.2)) else none)))
set_option maxHeartbeats 4000000 in
set_option maxRecDepth 100000 in
theorem kX12_readsCommand_X12_rC2 (l : Launch) (g : hk_G) (E : hk_E) (F n : Nat) (rr : hk_S → Nat → Int32 → Option (Int32 × hk_S)) (hrr : ∀ (S : hk_S) (a0 : Nat) (x1 : Int32) (o : Int32 × hk_S), E.2.1 a0 = 10 → rr S a0 x1 = some o → Met l yX12_readsRepeat (hk_ws yX12_readsRepeat cX12_readsRepeat 5 (Option.some Jvm.ClassFile.FieldType.boolean)) ({ frames := 0, cells := 0, slots := 0, locals := 0 }) (hk_Pc g E S n [.ref (g.1 + a0), .int x1]) (hk_Q g E o.2 n (some (.int o.1))) 0 0 (hk_A g)) (S : hk_S) (a0 : Nat) (x1 : Int32) (o : Int32 × hk_S) (h0 : E.2.1 a0 = 10) (hsp : mX12_readsCommand E F rr S a0 x1 = some o) : Met l yX12_readsCommand (hk_ws yX12_readsCommand cX12_readsCommand 3 (Option.some Jvm.ClassFile.FieldType.boolean)) ({ frames := 9, cells := 0, slots := 0, locals := 196 }) (hk_Pc g E S n [.ref (g.1 + a0), .int x1]) (hk_Q g E o.2 n (some (.int o.1))) 0 0 (hk_A g) := by
  refine Met.ofW (cc := cX12_readsCommand) (maxL := 3) (ret := (Option.some Jvm.ClassFile.FieldType.boolean)) (by decide) rfl ?_
  intro p e s m args below meth c s₁ B hml hv
  obtain ⟨rfl, G⟩ := hk_begin hv
  have F9 : CallFix p m c cX12_readsCommand 3 s [.ref (g.1 + a0), .int x1].toArray hk_W RX12 := ⟨B.exec, B.bytes, hml, findClass_of_methodNamed B.named, fun w h => atoms_spec (ws := hk_ws yX12_readsCommand cX12_readsCommand 3 (Option.some Jvm.ClassFile.FieldType.boolean)) B.pre w (hk_in h)⟩
  have hx := B.exec
  have hb := B.bytes
  have hr := B.returns
  have hlocks := B.notSynchronized
  have hl := lv_entry ([.ref (g.1 + a0), .int x1]) (n := 3) (Nat.le_of_ble_eq_true rfl)
  rw [lg_entry_eq]
  generalize (lg_sl ([.ref (g.1 + a0), .int x1]) ++ List.replicate (3 - (lg_sl ([.ref (g.1 + a0), .int x1])).length) Slot.unset).toArray = ls at hl ⊢
  have hl : lv_has ls 3 [(0, .ref (g.1 + a0)), (1, .int x1)] := hl
  unfold mX12_readsCommand at hsp
  have G : hk_GG g E S n s s.heap [] := G
  refine lv_aload_n hx hb dX12_readsCommand_0 rfl (lv_at hl 0 rfl) ?_
  obtain ⟨r1, er1, hsp⟩ := hk_b hsp
  refine hk_callVi (As := []) (rest := []) F9 G h0 hkc_9 rfl (kX12_wordAhead l g E F n S a0 r1 h0 er1) qv_RX12_270 ⟨rfl, rfl, (Nat.le_of_ble_eq_true rfl), (Nat.le_of_ble_eq_true rfl)⟩ rfl hl.1 rfl (Nat.le_of_ble_eq_true rfl) ⟨Nat.zero_le _, Nat.zero_le _⟩ dX12_readsCommand_1 (fun H locs G => ?_)
  refine lv_istore_n (lv' := [(2, .int r1.1), (0, .ref (g.1 + a0)), (1, .int x1)]) hx hb dX12_readsCommand_4 rfl hl (by decide) rfl (fun ls hl => ?_)
  refine lv_iload_n hx hb dX12_readsCommand_5 rfl (lv_at hl 0 rfl) ?_
  refine lv_iconst (v := (-1)) hx hb dX12_readsCommand_6 (by decide) ?_
  refine lv_icmp_ne (tgt := 16) hx hb dX12_readsCommand_7 (by decide) (fun c2 => ?_) (fun c2 => ?_)
  · have hsp := hk_t c2 hsp
    refine lv_iload_n hx hb dX12_readsCommand_16 rfl (lv_at hl 0 rfl) ?_
    refine lv_bipush (v := 14) hx hb dX12_readsCommand_17 (by decide) ?_
    refine lv_icmp_ne (tgt := 43) hx hb dX12_readsCommand_19 (by decide) (fun c3 => ?_) (fun c3 => ?_)
    · have hsp := hk_t c3 hsp
      refine lv_aload_n hx hb dX12_readsCommand_43 rfl (lv_at hl 1 rfl) ?_
      refine hk_getI F9 G h0 hkc_9 (k := 20) (by decide) qw_1604 rfl dX12_readsCommand_44 ?_
      refine lv_sipush (v := 200) hx hb dX12_readsCommand_47 (by decide) ?_
      refine lv_icmp_ne (tgt := 59) hx hb dX12_readsCommand_50 (by decide) (fun c4 => ?_) (fun c4 => ?_)
      · have hsp := hk_t c4 hsp
        refine lv_aload_n hx hb dX12_readsCommand_59 rfl (lv_at hl 1 rfl) ?_
        refine lv_dup hx hb dX12_readsCommand_60 rfl ?_
        refine hk_getI F9 G h0 hkc_9 (k := 20) (by decide) qw_1604 rfl dX12_readsCommand_61 ?_
        refine lv_iconst (v := 1) hx hb dX12_readsCommand_64 (by decide) ?_
        refine lv_iadd hx hb dX12_readsCommand_65 ?_
        obtain ⟨S5, eS5, hsp⟩ := hk_l hsp
        refine hk_putI F9 G h0 hkc_9 (k := 20) (by decide) qw_1604 rfl rfl (tyX12_ok 20 (by decide)) rfl rfl dX12_readsCommand_66 (fun H locs G => ?_)
        rw [eS5] at G
        refine lv_aload_n hx hb dX12_readsCommand_69 rfl (lv_at hl 1 rfl) ?_
        obtain ⟨r6, er6, hsp⟩ := hk_b hsp
        refine hk_callVv (As := []) (rest := []) F9 G h0 hkc_9 rfl (kX12_next l g E F n S5 a0 r6 h0 er6) qv_RX12_174 ⟨rfl, rfl, (Nat.le_of_ble_eq_true rfl), (Nat.le_of_ble_eq_true rfl)⟩ rfl hl.1 rfl (Nat.le_of_ble_eq_true rfl) ⟨Nat.zero_le _, Nat.zero_le _⟩ dX12_readsCommand_70 (fun H locs G => ?_)
        refine lv_aload_n hx hb dX12_readsCommand_73 rfl (lv_at hl 1 rfl) ?_
        refine lv_iload_n hx hb dX12_readsCommand_74 rfl (lv_at hl 0 rfl) ?_
        obtain ⟨r7, er7, hsp⟩ := hk_b hsp
        refine hk_callVi (As := [.int r1.1]) (rest := []) F9 G h0 hkc_9 rfl (kX12_readsWord l g E F n r6 a0 r1.1 r7 h0 er7) qv_RX12_279 ⟨rfl, rfl, (Nat.le_of_ble_eq_true rfl), (Nat.le_of_ble_eq_true rfl)⟩ rfl hl.1 rfl (Nat.le_of_ble_eq_true rfl) ⟨Nat.zero_le _, Nat.zero_le _⟩ dX12_readsCommand_75 (fun H locs G => ?_)
        obtain ⟨q8, hsp⟩ := hk_k hsp
        obtain rfl := hk_s hsp
        exact W.zret (v := r7.1) hx hb hr (hk_z q8).1 (fun t ht hW => hk_end G ht hW) G.2.1.2.2 dX12_readsCommand_78
      · have hsp := hk_g c4 hsp
        refine lv_aload_n hx hb dX12_readsCommand_53 rfl (lv_at hl 1 rfl) ?_
        refine lv_iconst (v := 5) hx hb dX12_readsCommand_54 (by decide) ?_
        obtain ⟨r9, er9, hsp⟩ := hk_b hsp
        refine hk_callVi (As := [.int 5]) (rest := []) F9 G h0 hkc_9 rfl (kX12_fail l g E F n r1.2 a0 5 r9 h0 er9) qv_RX12_168 ⟨rfl, rfl, (Nat.le_of_ble_eq_true rfl), (Nat.le_of_ble_eq_true rfl)⟩ rfl hl.1 rfl (Nat.le_of_ble_eq_true rfl) ⟨Nat.zero_le _, Nat.zero_le _⟩ dX12_readsCommand_55 (fun H locs G => ?_)
        obtain ⟨q10, hsp⟩ := hk_k hsp
        obtain rfl := hk_s hsp
        exact W.zret (v := r9.1) hx hb hr (hk_z q10).1 (fun t ht hW => hk_end G ht hW) G.2.1.2.2 dX12_readsCommand_58
    · have hsp := hk_g c3 hsp
      refine lv_iload_n hx hb dX12_readsCommand_22 rfl (lv_at hl 2 rfl) ?_
      refine lv_iconst (v := 2) hx hb dX12_readsCommand_23 (by decide) ?_
      refine lv_icmp_ne (tgt := 33) hx hb dX12_readsCommand_24 (by decide) (fun c11 => ?_) (fun c11 => ?_)
      · have hsp := hk_t c11 hsp
        refine lv_aload_n hx hb dX12_readsCommand_33 rfl (lv_at hl 1 rfl) ?_
        obtain ⟨r12, er12, hsp⟩ := hk_b hsp
        refine hk_callVv (As := []) (rest := []) F9 G h0 hkc_9 rfl (kX12_next l g E F n r1.2 a0 r12 h0 er12) qv_RX12_174 ⟨rfl, rfl, (Nat.le_of_ble_eq_true rfl), (Nat.le_of_ble_eq_true rfl)⟩ rfl hl.1 rfl (Nat.le_of_ble_eq_true rfl) ⟨Nat.zero_le _, Nat.zero_le _⟩ dX12_readsCommand_34 (fun H locs G => ?_)
        refine lv_aload_n hx hb dX12_readsCommand_37 rfl (lv_at hl 1 rfl) ?_
        refine lv_iload_n hx hb dX12_readsCommand_38 rfl (lv_at hl 2 rfl) ?_
        obtain ⟨r13, er13, hsp⟩ := hk_b hsp
        refine hk_callVi (As := [.int x1]) (rest := []) F9 G h0 hkc_9 rfl (hrr r12 a0 x1 r13 h0 er13) qv_RX12_273 ⟨rfl, rfl, (Nat.le_of_ble_eq_true rfl), (Nat.le_of_ble_eq_true rfl)⟩ rfl hl.1 rfl (Nat.le_of_ble_eq_true rfl) ⟨Nat.zero_le _, Nat.zero_le _⟩ dX12_readsCommand_39 (fun H locs G => ?_)
        obtain ⟨q14, hsp⟩ := hk_k hsp
        obtain rfl := hk_s hsp
        exact W.zret (v := r13.1) hx hb hr (hk_z q14).1 (fun t ht hW => hk_end G ht hW) G.2.1.2.2 dX12_readsCommand_42
      · have hsp := hk_g c11 hsp
        refine lv_aload_n hx hb dX12_readsCommand_27 rfl (lv_at hl 1 rfl) ?_
        refine lv_iconst (v := 4) hx hb dX12_readsCommand_28 (by decide) ?_
        obtain ⟨r15, er15, hsp⟩ := hk_b hsp
        refine hk_callVi (As := [.int 4]) (rest := []) F9 G h0 hkc_9 rfl (kX12_fail l g E F n r1.2 a0 4 r15 h0 er15) qv_RX12_168 ⟨rfl, rfl, (Nat.le_of_ble_eq_true rfl), (Nat.le_of_ble_eq_true rfl)⟩ rfl hl.1 rfl (Nat.le_of_ble_eq_true rfl) ⟨Nat.zero_le _, Nat.zero_le _⟩ dX12_readsCommand_29 (fun H locs G => ?_)
        obtain ⟨q16, hsp⟩ := hk_k hsp
        obtain rfl := hk_s hsp
        exact W.zret (v := r15.1) hx hb hr (hk_z q16).1 (fun t ht hW => hk_end G ht hW) G.2.1.2.2 dX12_readsCommand_32
  · have hsp := hk_g c2 hsp
    refine lv_aload_n hx hb dX12_readsCommand_10 rfl (lv_at hl 1 rfl) ?_
    refine lv_iconst (v := 1) hx hb dX12_readsCommand_11 (by decide) ?_
    obtain ⟨r17, er17, hsp⟩ := hk_b hsp
    refine hk_callVi (As := [.int 1]) (rest := []) F9 G h0 hkc_9 rfl (kX12_fail l g E F n r1.2 a0 1 r17 h0 er17) qv_RX12_168 ⟨rfl, rfl, (Nat.le_of_ble_eq_true rfl), (Nat.le_of_ble_eq_true rfl)⟩ rfl hl.1 rfl (Nat.le_of_ble_eq_true rfl) ⟨Nat.zero_le _, Nat.zero_le _⟩ dX12_readsCommand_12 (fun H locs G => ?_)
    obtain ⟨q18, hsp⟩ := hk_k hsp
    obtain rfl := hk_s hsp
    exact W.zret (v := r17.1) hx hb hr (hk_z q18).1 (fun t ht hW => hk_end G ht hW) G.2.1.2.2 dX12_readsCommand_15
def mX12_rC2 (E : hk_E) (F : Nat) (S : hk_S) (a0 : Nat) (x1 : Int32) : Option (Int32 × hk_S) := mX12_readsCommand E F (fun _ _ _ => none) S a0 x1
theorem kX12_rC2 (l : Launch) (g : hk_G) (E : hk_E) (F n : Nat) (S : hk_S) (a0 : Nat) (x1 : Int32) (o : Int32 × hk_S) (h0 : E.2.1 a0 = 10) (hsp : mX12_rC2 E F S a0 x1 = some o) : Met l yX12_readsCommand (hk_ws yX12_readsCommand cX12_readsCommand 3 (Option.some Jvm.ClassFile.FieldType.boolean)) ({ frames := 9, cells := 0, slots := 0, locals := 196 }) (hk_Pc g E S n [.ref (g.1 + a0), .int x1]) (hk_Q g E o.2 n (some (.int o.1))) 0 0 (hk_A g) := kX12_readsCommand_X12_rC2 l g E F n (fun _ _ _ => none) (fun _ _ _ _ _ h => nomatch h) S a0 x1 o h0 hsp
def mX12_readsRepeat_51 (E : hk_E) (F : Nat) (rc : hk_S → Nat → Int32 → Option (Int32 × hk_S)) (a0 : Nat) (x1 : Int32) (c15 : Int32) (c16 : Int32) (c17 : Int32) (k : hk_S → Option (Int32 × hk_S)) : Nat → hk_S → Option (Int32 × hk_S)
  | 0 => fun _ => none
  | f + 1 => fun S  =>
    if (S a0 16) = 5 then (k S ) else ((rc S a0 (x1 + 1)).bind (fun r19 => if ¬ r19.1 = 0 then ((mX12_next E F r19.2 a0).bind (fun r21 => mX12_readsRepeat_51 E F rc a0 x1 c15 c16 c17 k f r21 )) else (some (0, r19.2))))
def mX12_readsRepeat_36 (E : hk_E) (F : Nat) (rc : hk_S → Nat → Int32 → Option (Int32 × hk_S)) (a0 : Nat) (x1 : Int32) (c9 : Int32) (c10 : Int32) (k : hk_S → Int32 → Option (Int32 × hk_S)) : Nat → hk_S → Int32 → Option (Int32 × hk_S)
  | 0 => fun _ _ => none
  | f + 1 => fun S z11 =>
    if c9 ≤ z11 then (k S z11) else (hk_let (hk_up S a0 18 c10) (fun S13 => (mX12_next E F S13 a0).bind (fun r14 => mX12_readsRepeat_51 E F rc a0 x1 c9 c10 z11 (fun S22  => hk_let (z11 + 1) (fun y23 => mX12_readsRepeat_36 E F rc a0 x1 c9 c10 k f S22 y23)) F r14 )))
def mX12_readsRepeat (E : hk_E) (F : Nat) (rc : hk_S → Nat → Int32 → Option (Int32 × hk_S)) (S : hk_S) (a0 : Nat) (x1 : Int32) : Option (Int32 × hk_S) :=
(mX12_number E F S a0 0 1 20).bind (fun r1 => if r1.1 = 0 then (some (0, r1.2)) else ((mX12_is E F r1.2 a0 4).bind (fun r3 => if ¬ r3.1 = 0 then ((E.2.2.2 a0 21).bind (fun r5 => if E.2.1 r5 = 13 then (if hk_ok 0 (E.2.2.1 r5) then (hk_let (r3.2 r5 0) (fun y7 => hk_let (r3.2 a0 18) (fun y8 => mX12_readsRepeat_36 E F rc a0 x1 y7 y8 (fun S24 z25 => (mX12_next E F S24 a0).bind (fun r26 => (mX12_is E F r26 a0 1).bind (fun r27 => if r27.1 = 0 ∨ r27.1 = 1 then (some (r27.1, r27.2)) else none))) F r3.2 0))) else none) else none)) else (some (0, r3.2)))))
set_option maxHeartbeats 4000000 in
set_option maxRecDepth 100000 in
theorem kX12_readsRepeat_X12_rR2 (l : Launch) (g : hk_G) (E : hk_E) (F n : Nat) (rc : hk_S → Nat → Int32 → Option (Int32 × hk_S)) (hrc : ∀ (S : hk_S) (a0 : Nat) (x1 : Int32) (o : Int32 × hk_S), E.2.1 a0 = 10 → rc S a0 x1 = some o → Met l yX12_readsCommand (hk_ws yX12_readsCommand cX12_readsCommand 3 (Option.some Jvm.ClassFile.FieldType.boolean)) ({ frames := 9, cells := 0, slots := 0, locals := 196 }) (hk_Pc g E S n [.ref (g.1 + a0), .int x1]) (hk_Q g E o.2 n (some (.int o.1))) 0 0 (hk_A g)) (S : hk_S) (a0 : Nat) (x1 : Int32) (o : Int32 × hk_S) (h0 : E.2.1 a0 = 10) (hsp : mX12_readsRepeat E F rc S a0 x1 = some o) : Met l yX12_readsRepeat (hk_ws yX12_readsRepeat cX12_readsRepeat 5 (Option.some Jvm.ClassFile.FieldType.boolean)) ({ frames := 10, cells := 0, slots := 0, locals := 218 }) (hk_Pc g E S n [.ref (g.1 + a0), .int x1]) (hk_Q g E o.2 n (some (.int o.1))) 0 0 (hk_A g) := by
  refine Met.ofW (cc := cX12_readsRepeat) (maxL := 5) (ret := (Option.some Jvm.ClassFile.FieldType.boolean)) (by decide) rfl ?_
  intro p e s m args below meth c s₁ B hml hv
  obtain ⟨rfl, G⟩ := hk_begin hv
  have F9 : CallFix p m c cX12_readsRepeat 5 s [.ref (g.1 + a0), .int x1].toArray hk_W RX12 := ⟨B.exec, B.bytes, hml, findClass_of_methodNamed B.named, fun w h => atoms_spec (ws := hk_ws yX12_readsRepeat cX12_readsRepeat 5 (Option.some Jvm.ClassFile.FieldType.boolean)) B.pre w (hk_in h)⟩
  have hx := B.exec
  have hb := B.bytes
  have hr := B.returns
  have hlocks := B.notSynchronized
  have hl := lv_entry ([.ref (g.1 + a0), .int x1]) (n := 5) (Nat.le_of_ble_eq_true rfl)
  rw [lg_entry_eq]
  generalize (lg_sl ([.ref (g.1 + a0), .int x1]) ++ List.replicate (5 - (lg_sl ([.ref (g.1 + a0), .int x1])).length) Slot.unset).toArray = ls at hl ⊢
  have hl : lv_has ls 5 [(0, .ref (g.1 + a0)), (1, .int x1)] := hl
  unfold mX12_readsRepeat at hsp
  have G : hk_GG g E S n s s.heap [] := G
  have L_51 : ∀ (c15 : Int32) (c16 : Int32) (c17 : Int32)  (k : hk_S → Option (Int32 × hk_S)) (_ : ∀ (S : hk_S) (H : Heap) (locs : List Loc) (ls : Array Slot), k S  = some o → hk_GG g E S n s H locs → lv_has ls 5 [(0, .ref (g.1 + a0)), (1, .int x1), (2, .int c15), (3, .int c16), (4, .int c17)] → W p l e (headSpec (hk_ws yX12_readsRepeat cX12_readsRepeat 5 (Option.some Jvm.ClassFile.FieldType.boolean)) ({ frames := 10, cells := 0, slots := 0, locals := 218 })).room s m [.ref (g.1 + a0), .int x1].toArray below meth c H locs 0 0 (MQ below (hk_Q g E o.2 n (some (.int o.1))) [.ref (g.1 + a0), .int x1].toArray s 0 0 (hk_A g)) (F0 m 78 ls [])) (f : Nat) (S : hk_S) (H : Heap) (locs : List Loc) (ls : Array Slot), mX12_readsRepeat_51 E F rc a0 x1 c15 c16 c17 k f S  = some o → hk_GG g E S n s H locs → lv_has ls 5 [(0, .ref (g.1 + a0)), (1, .int x1), (2, .int c15), (3, .int c16), (4, .int c17)] → W p l e (headSpec (hk_ws yX12_readsRepeat cX12_readsRepeat 5 (Option.some Jvm.ClassFile.FieldType.boolean)) ({ frames := 10, cells := 0, slots := 0, locals := 218 })).room s m [.ref (g.1 + a0), .int x1].toArray below meth c H locs 0 0 (MQ below (hk_Q g E o.2 n (some (.int o.1))) [.ref (g.1 + a0), .int x1].toArray s 0 0 (hk_A g)) (F0 m 51 ls []) := by
    intro c15 c16 c17  k hk f
    induction f with
    | zero =>
      intro S  H locs ls hsp
      exact nomatch hsp
    | succ f ih =>
      intro S  H locs ls hsp G hl
      rw [mX12_readsRepeat_51] at hsp
      refine lv_aload_n hx hb dX12_readsRepeat_51 rfl (lv_at hl 0 rfl) ?_
      refine hk_getI F9 G h0 hkc_9 (k := 16) (by decide) qw_1600 rfl dX12_readsRepeat_52 ?_
      refine lv_iconst (v := 5) hx hb dX12_readsRepeat_55 (by decide) ?_
      refine lv_icmp_eq (tgt := 78) hx hb dX12_readsRepeat_56 (by decide) (fun c18 => ?_) (fun c18 => ?_)
      · have hsp := hk_t c18 hsp
        exact hk S  _ _ _ hsp G (lv_sub hl [0, 1, 2, 3, 4] rfl)
      · have hsp := hk_f c18 hsp
        refine lv_aload_n hx hb dX12_readsRepeat_59 rfl (lv_at hl 0 rfl) ?_
        refine lv_iload_n hx hb dX12_readsRepeat_60 rfl (lv_at hl 1 rfl) ?_
        refine lv_iconst (v := 1) hx hb dX12_readsRepeat_61 (by decide) ?_
        refine lv_iadd hx hb dX12_readsRepeat_62 ?_
        obtain ⟨r19, er19, hsp⟩ := hk_b hsp
        refine hk_callVi (As := [.int (x1 + 1)]) (rest := []) F9 G h0 hkc_9 rfl (hrc S a0 (x1 + 1) r19 h0 er19) qv_RX12_234 ⟨rfl, rfl, (Nat.le_of_ble_eq_true rfl), (Nat.le_of_ble_eq_true rfl)⟩ rfl hl.1 rfl (Nat.le_of_ble_eq_true rfl) ⟨Nat.zero_le _, Nat.zero_le _⟩ dX12_readsRepeat_63 (fun H locs G => ?_)
        refine lv_if_ne (tgt := 71) hx hb dX12_readsRepeat_66 (by decide) (fun c20 => ?_) (fun c20 => ?_)
        · have hsp := hk_t c20 hsp
          refine lv_aload_n hx hb dX12_readsRepeat_71 rfl (lv_at hl 0 rfl) ?_
          obtain ⟨r21, er21, hsp⟩ := hk_b hsp
          refine hk_callVv (As := []) (rest := []) F9 G h0 hkc_9 rfl (kX12_next l g E F n r19.2 a0 r21 h0 er21) qv_RX12_174 ⟨rfl, rfl, (Nat.le_of_ble_eq_true rfl), (Nat.le_of_ble_eq_true rfl)⟩ rfl hl.1 rfl (Nat.le_of_ble_eq_true rfl) ⟨Nat.zero_le _, Nat.zero_le _⟩ dX12_readsRepeat_72 (fun H locs G => ?_)
          refine lv_goto (tgt := 51) hx hb dX12_readsRepeat_75 (by decide) ?_
          exact ih r21  _ _ _ hsp G (lv_sub hl [0, 1, 2, 3, 4] rfl)
        · have hsp := hk_g c20 hsp
          refine lv_iconst (v := 0) hx hb dX12_readsRepeat_69 (by decide) ?_
          obtain rfl := hk_s hsp
          exact W.zret (v := 0) hx hb hr (hk_z (by decide)).1 (fun t ht hW => hk_end G ht hW) G.2.1.2.2 dX12_readsRepeat_70
  have L_36 : ∀ (c9 : Int32) (c10 : Int32)  (k : hk_S → Int32 → Option (Int32 × hk_S)) (_ : ∀ (S : hk_S) (z11 : Int32) (H : Heap) (locs : List Loc) (ls : Array Slot), k S z11 = some o → hk_GG g E S n s H locs → lv_has ls 5 [(0, .ref (g.1 + a0)), (1, .int x1), (2, .int c9), (3, .int c10), (4, .int z11)] → W p l e (headSpec (hk_ws yX12_readsRepeat cX12_readsRepeat 5 (Option.some Jvm.ClassFile.FieldType.boolean)) ({ frames := 10, cells := 0, slots := 0, locals := 218 })).room s m [.ref (g.1 + a0), .int x1].toArray below meth c H locs 0 0 (MQ below (hk_Q g E o.2 n (some (.int o.1))) [.ref (g.1 + a0), .int x1].toArray s 0 0 (hk_A g)) (F0 m 84 ls [])) (f : Nat) (S : hk_S) (z11 : Int32) (H : Heap) (locs : List Loc) (ls : Array Slot), mX12_readsRepeat_36 E F rc a0 x1 c9 c10 k f S z11 = some o → hk_GG g E S n s H locs → lv_has ls 5 [(0, .ref (g.1 + a0)), (1, .int x1), (2, .int c9), (3, .int c10), (4, .int z11)] → W p l e (headSpec (hk_ws yX12_readsRepeat cX12_readsRepeat 5 (Option.some Jvm.ClassFile.FieldType.boolean)) ({ frames := 10, cells := 0, slots := 0, locals := 218 })).room s m [.ref (g.1 + a0), .int x1].toArray below meth c H locs 0 0 (MQ below (hk_Q g E o.2 n (some (.int o.1))) [.ref (g.1 + a0), .int x1].toArray s 0 0 (hk_A g)) (F0 m 36 ls []) := by
    intro c9 c10  k hk f
    induction f with
    | zero =>
      intro S z11 H locs ls hsp
      exact nomatch hsp
    | succ f ih =>
      intro S z11 H locs ls hsp G hl
      rw [mX12_readsRepeat_36] at hsp
      refine lv_iload hx hb dX12_readsRepeat_36 (lv_at hl 4 rfl) ?_
      refine lv_iload_n hx hb dX12_readsRepeat_38 rfl (lv_at hl 2 rfl) ?_
      refine lv_icmp_ge (tgt := 84) hx hb dX12_readsRepeat_39 (by decide) (fun c12 => ?_) (fun c12 => ?_)
      · have hsp := hk_t c12 hsp
        exact hk S z11 _ _ _ hsp G (lv_sub hl [0, 1, 2, 3, 4] rfl)
      · have hsp := hk_f c12 hsp
        refine lv_aload_n hx hb dX12_readsRepeat_42 rfl (lv_at hl 0 rfl) ?_
        refine lv_iload_n hx hb dX12_readsRepeat_43 rfl (lv_at hl 3 rfl) ?_
        obtain ⟨S13, eS13, hsp⟩ := hk_l hsp
        refine hk_putI F9 G h0 hkc_9 (k := 18) (by decide) qw_1602 rfl rfl (tyX12_ok 18 (by decide)) rfl rfl dX12_readsRepeat_44 (fun H locs G => ?_)
        rw [eS13] at G
        refine lv_aload_n hx hb dX12_readsRepeat_47 rfl (lv_at hl 0 rfl) ?_
        obtain ⟨r14, er14, hsp⟩ := hk_b hsp
        refine hk_callVv (As := []) (rest := []) F9 G h0 hkc_9 rfl (kX12_next l g E F n S13 a0 r14 h0 er14) qv_RX12_174 ⟨rfl, rfl, (Nat.le_of_ble_eq_true rfl), (Nat.le_of_ble_eq_true rfl)⟩ rfl hl.1 rfl (Nat.le_of_ble_eq_true rfl) ⟨Nat.zero_le _, Nat.zero_le _⟩ dX12_readsRepeat_48 (fun H locs G => ?_)
        refine L_51 c9 c10 z11  _ ?_ F r14  _ _ _ hsp G (lv_sub hl [0, 1, 2, 3, 4] rfl)
        intro S22  H locs ls hsp G hl
        obtain ⟨y23, ey23, hsp⟩ := hk_l hsp
        refine lv_iinc (v := y23) (lv' := [(4, .int y23), (0, .ref (g.1 + a0)), (1, .int x1), (2, .int c9), (3, .int c10)]) hx hb dX12_readsRepeat_78 hl (k := 4) rfl (by rw [← ey23]; rfl) (by decide) rfl (fun ls hl => ?_)
        refine lv_goto (tgt := 36) hx hb dX12_readsRepeat_81 (by decide) ?_
        exact ih S22 y23 _ _ _ hsp G (lv_sub hl [1, 2, 3, 4, 0] rfl)
  refine lv_aload_n hx hb dX12_readsRepeat_0 rfl (lv_at hl 0 rfl) ?_
  refine lv_iconst (v := 0) hx hb dX12_readsRepeat_1 (by decide) ?_
  refine lv_iconst (v := 1) hx hb dX12_readsRepeat_2 (by decide) ?_
  refine lv_bipush (v := 20) hx hb dX12_readsRepeat_3 (by decide) ?_
  obtain ⟨r1, er1, hsp⟩ := hk_b hsp
  refine hk_callVi (As := [.int 0, .int 1, .int 20]) (rest := []) F9 G h0 hkc_9 rfl (kX12_number l g E F n S a0 0 1 20 r1 h0 er1) qv_RX12_177 ⟨rfl, rfl, (Nat.le_of_ble_eq_true rfl), (Nat.le_of_ble_eq_true rfl)⟩ rfl hl.1 rfl (Nat.le_of_ble_eq_true rfl) ⟨Nat.zero_le _, Nat.zero_le _⟩ dX12_readsRepeat_5 (fun H locs G => ?_)
  refine lv_if_eq (tgt := 19) hx hb dX12_readsRepeat_8 (by decide) (fun c2 => ?_) (fun c2 => ?_)
  · have hsp := hk_t c2 hsp
    refine lv_iconst (v := 0) hx hb dX12_readsRepeat_19 (by decide) ?_
    obtain rfl := hk_s hsp
    exact W.zret (v := 0) hx hb hr (hk_z (by decide)).1 (fun t ht hW => hk_end G ht hW) G.2.1.2.2 dX12_readsRepeat_20
  · have hsp := hk_f c2 hsp
    refine lv_aload_n hx hb dX12_readsRepeat_11 rfl (lv_at hl 0 rfl) ?_
    refine lv_iconst (v := 4) hx hb dX12_readsRepeat_12 (by decide) ?_
    obtain ⟨r3, er3, hsp⟩ := hk_b hsp
    refine hk_callVi (As := [.int 4]) (rest := []) F9 G h0 hkc_9 rfl (kX12_is l g E F n r1.2 a0 4 r3 h0 er3) qv_RX12_171 ⟨rfl, rfl, (Nat.le_of_ble_eq_true rfl), (Nat.le_of_ble_eq_true rfl)⟩ rfl hl.1 rfl (Nat.le_of_ble_eq_true rfl) ⟨Nat.zero_le _, Nat.zero_le _⟩ dX12_readsRepeat_13 (fun H locs G => ?_)
    refine lv_if_ne (tgt := 21) hx hb dX12_readsRepeat_16 (by decide) (fun c4 => ?_) (fun c4 => ?_)
    · have hsp := hk_t c4 hsp
      refine lv_aload_n hx hb dX12_readsRepeat_21 rfl (lv_at hl 0 rfl) ?_
      obtain ⟨r5, er5, hsp⟩ := hk_b hsp
      obtain ⟨kr5, hsp⟩ := hk_k hsp
      refine hk_getR F9 G h0 hkc_9 (k := 21) (by decide) qw_1605 rfl er5 dX12_readsRepeat_22 ?_
      refine lv_iconst (v := 0) hx hb dX12_readsRepeat_25 (by decide) ?_
      obtain ⟨q6, hsp⟩ := hk_k hsp
      refine hk_iald (j := 0) F9 G kr5 rfl q6 (by decide) dX12_readsRepeat_26 ?_
      obtain ⟨y7, ey7, hsp⟩ := hk_l hsp
      refine hk_top ey7 ?_
      refine lv_istore_n (lv' := [(2, .int y7), (0, .ref (g.1 + a0)), (1, .int x1)]) hx hb dX12_readsRepeat_27 rfl hl (by decide) rfl (fun ls hl => ?_)
      refine lv_aload_n hx hb dX12_readsRepeat_28 rfl (lv_at hl 1 rfl) ?_
      refine hk_getI F9 G h0 hkc_9 (k := 18) (by decide) qw_1602 rfl dX12_readsRepeat_29 ?_
      obtain ⟨y8, ey8, hsp⟩ := hk_l hsp
      refine hk_top ey8 ?_
      refine lv_istore_n (lv' := [(3, .int y8), (2, .int y7), (0, .ref (g.1 + a0)), (1, .int x1)]) hx hb dX12_readsRepeat_32 rfl hl (by decide) rfl (fun ls hl => ?_)
      refine lv_iconst (v := 0) hx hb dX12_readsRepeat_33 (by decide) ?_
      refine lv_istore (lv' := [(4, .int 0), (3, .int y8), (2, .int y7), (0, .ref (g.1 + a0)), (1, .int x1)]) hx hb dX12_readsRepeat_34  hl (by decide) rfl (fun ls hl => ?_)
      refine L_36 y7 y8  _ ?_ F r3.2 0 _ _ _ hsp G (lv_sub hl [3, 4, 2, 1, 0] rfl)
      intro S24 z25 H locs ls hsp G hl
      refine lv_aload_n hx hb dX12_readsRepeat_84 rfl (lv_at hl 0 rfl) ?_
      obtain ⟨r26, er26, hsp⟩ := hk_b hsp
      refine hk_callVv (As := []) (rest := []) F9 G h0 hkc_9 rfl (kX12_next l g E F n S24 a0 r26 h0 er26) qv_RX12_174 ⟨rfl, rfl, (Nat.le_of_ble_eq_true rfl), (Nat.le_of_ble_eq_true rfl)⟩ rfl hl.1 rfl (Nat.le_of_ble_eq_true rfl) ⟨Nat.zero_le _, Nat.zero_le _⟩ dX12_readsRepeat_85 (fun H locs G => ?_)
      refine lv_aload_n hx hb dX12_readsRepeat_88 rfl (lv_at hl 0 rfl) ?_
      refine lv_iconst (v := 1) hx hb dX12_readsRepeat_89 (by decide) ?_
      obtain ⟨r27, er27, hsp⟩ := hk_b hsp
      refine hk_callVi (As := [.int 1]) (rest := []) F9 G h0 hkc_9 rfl (kX12_is l g E F n r26 a0 1 r27 h0 er27) qv_RX12_171 ⟨rfl, rfl, (Nat.le_of_ble_eq_true rfl), (Nat.le_of_ble_eq_true rfl)⟩ rfl hl.1 rfl (Nat.le_of_ble_eq_true rfl) ⟨Nat.zero_le _, Nat.zero_le _⟩ dX12_readsRepeat_90 (fun H locs G => ?_)
      obtain ⟨q28, hsp⟩ := hk_k hsp
      obtain rfl := hk_s hsp
      exact W.zret (v := r27.1) hx hb hr (hk_z q28).1 (fun t ht hW => hk_end G ht hW) G.2.1.2.2 dX12_readsRepeat_93
    · have hsp := hk_g c4 hsp
      refine lv_iconst (v := 0) hx hb dX12_readsRepeat_19 (by decide) ?_
      obtain rfl := hk_s hsp
      exact W.zret (v := 0) hx hb hr (hk_z (by decide)).1 (fun t ht hW => hk_end G ht hW) G.2.1.2.2 dX12_readsRepeat_20
def mX12_rR2 (E : hk_E) (F : Nat) (S : hk_S) (a0 : Nat) (x1 : Int32) : Option (Int32 × hk_S) := mX12_readsRepeat E F (mX12_rC2 E F) S a0 x1
theorem kX12_rR2 (l : Launch) (g : hk_G) (E : hk_E) (F n : Nat) (S : hk_S) (a0 : Nat) (x1 : Int32) (o : Int32 × hk_S) (h0 : E.2.1 a0 = 10) (hsp : mX12_rR2 E F S a0 x1 = some o) : Met l yX12_readsRepeat (hk_ws yX12_readsRepeat cX12_readsRepeat 5 (Option.some Jvm.ClassFile.FieldType.boolean)) ({ frames := 10, cells := 0, slots := 0, locals := 218 }) (hk_Pc g E S n [.ref (g.1 + a0), .int x1]) (hk_Q g E o.2 n (some (.int o.1))) 0 0 (hk_A g) := kX12_readsRepeat_X12_rR2 l g E F n (mX12_rC2 E F) (fun S a0 x1 o h0 h => kX12_rC2 l g E F n S a0 x1 o h0 h) S a0 x1 o h0 hsp
set_option maxHeartbeats 4000000 in
set_option maxRecDepth 100000 in
theorem kX12_readsCommand_X12_rC1 (l : Launch) (g : hk_G) (E : hk_E) (F n : Nat) (rr : hk_S → Nat → Int32 → Option (Int32 × hk_S)) (hrr : ∀ (S : hk_S) (a0 : Nat) (x1 : Int32) (o : Int32 × hk_S), E.2.1 a0 = 10 → rr S a0 x1 = some o → Met l yX12_readsRepeat (hk_ws yX12_readsRepeat cX12_readsRepeat 5 (Option.some Jvm.ClassFile.FieldType.boolean)) ({ frames := 10, cells := 0, slots := 0, locals := 218 }) (hk_Pc g E S n [.ref (g.1 + a0), .int x1]) (hk_Q g E o.2 n (some (.int o.1))) 0 0 (hk_A g)) (S : hk_S) (a0 : Nat) (x1 : Int32) (o : Int32 × hk_S) (h0 : E.2.1 a0 = 10) (hsp : mX12_readsCommand E F rr S a0 x1 = some o) : Met l yX12_readsCommand (hk_ws yX12_readsCommand cX12_readsCommand 3 (Option.some Jvm.ClassFile.FieldType.boolean)) ({ frames := 11, cells := 0, slots := 0, locals := 242 }) (hk_Pc g E S n [.ref (g.1 + a0), .int x1]) (hk_Q g E o.2 n (some (.int o.1))) 0 0 (hk_A g) := by
  refine Met.ofW (cc := cX12_readsCommand) (maxL := 3) (ret := (Option.some Jvm.ClassFile.FieldType.boolean)) (by decide) rfl ?_
  intro p e s m args below meth c s₁ B hml hv
  obtain ⟨rfl, G⟩ := hk_begin hv
  have F9 : CallFix p m c cX12_readsCommand 3 s [.ref (g.1 + a0), .int x1].toArray hk_W RX12 := ⟨B.exec, B.bytes, hml, findClass_of_methodNamed B.named, fun w h => atoms_spec (ws := hk_ws yX12_readsCommand cX12_readsCommand 3 (Option.some Jvm.ClassFile.FieldType.boolean)) B.pre w (hk_in h)⟩
  have hx := B.exec
  have hb := B.bytes
  have hr := B.returns
  have hlocks := B.notSynchronized
  have hl := lv_entry ([.ref (g.1 + a0), .int x1]) (n := 3) (Nat.le_of_ble_eq_true rfl)
  rw [lg_entry_eq]
  generalize (lg_sl ([.ref (g.1 + a0), .int x1]) ++ List.replicate (3 - (lg_sl ([.ref (g.1 + a0), .int x1])).length) Slot.unset).toArray = ls at hl ⊢
  have hl : lv_has ls 3 [(0, .ref (g.1 + a0)), (1, .int x1)] := hl
  unfold mX12_readsCommand at hsp
  have G : hk_GG g E S n s s.heap [] := G
  refine lv_aload_n hx hb dX12_readsCommand_0 rfl (lv_at hl 0 rfl) ?_
  obtain ⟨r1, er1, hsp⟩ := hk_b hsp
  refine hk_callVi (As := []) (rest := []) F9 G h0 hkc_9 rfl (kX12_wordAhead l g E F n S a0 r1 h0 er1) qv_RX12_270 ⟨rfl, rfl, (Nat.le_of_ble_eq_true rfl), (Nat.le_of_ble_eq_true rfl)⟩ rfl hl.1 rfl (Nat.le_of_ble_eq_true rfl) ⟨Nat.zero_le _, Nat.zero_le _⟩ dX12_readsCommand_1 (fun H locs G => ?_)
  refine lv_istore_n (lv' := [(2, .int r1.1), (0, .ref (g.1 + a0)), (1, .int x1)]) hx hb dX12_readsCommand_4 rfl hl (by decide) rfl (fun ls hl => ?_)
  refine lv_iload_n hx hb dX12_readsCommand_5 rfl (lv_at hl 0 rfl) ?_
  refine lv_iconst (v := (-1)) hx hb dX12_readsCommand_6 (by decide) ?_
  refine lv_icmp_ne (tgt := 16) hx hb dX12_readsCommand_7 (by decide) (fun c2 => ?_) (fun c2 => ?_)
  · have hsp := hk_t c2 hsp
    refine lv_iload_n hx hb dX12_readsCommand_16 rfl (lv_at hl 0 rfl) ?_
    refine lv_bipush (v := 14) hx hb dX12_readsCommand_17 (by decide) ?_
    refine lv_icmp_ne (tgt := 43) hx hb dX12_readsCommand_19 (by decide) (fun c3 => ?_) (fun c3 => ?_)
    · have hsp := hk_t c3 hsp
      refine lv_aload_n hx hb dX12_readsCommand_43 rfl (lv_at hl 1 rfl) ?_
      refine hk_getI F9 G h0 hkc_9 (k := 20) (by decide) qw_1604 rfl dX12_readsCommand_44 ?_
      refine lv_sipush (v := 200) hx hb dX12_readsCommand_47 (by decide) ?_
      refine lv_icmp_ne (tgt := 59) hx hb dX12_readsCommand_50 (by decide) (fun c4 => ?_) (fun c4 => ?_)
      · have hsp := hk_t c4 hsp
        refine lv_aload_n hx hb dX12_readsCommand_59 rfl (lv_at hl 1 rfl) ?_
        refine lv_dup hx hb dX12_readsCommand_60 rfl ?_
        refine hk_getI F9 G h0 hkc_9 (k := 20) (by decide) qw_1604 rfl dX12_readsCommand_61 ?_
        refine lv_iconst (v := 1) hx hb dX12_readsCommand_64 (by decide) ?_
        refine lv_iadd hx hb dX12_readsCommand_65 ?_
        obtain ⟨S5, eS5, hsp⟩ := hk_l hsp
        refine hk_putI F9 G h0 hkc_9 (k := 20) (by decide) qw_1604 rfl rfl (tyX12_ok 20 (by decide)) rfl rfl dX12_readsCommand_66 (fun H locs G => ?_)
        rw [eS5] at G
        refine lv_aload_n hx hb dX12_readsCommand_69 rfl (lv_at hl 1 rfl) ?_
        obtain ⟨r6, er6, hsp⟩ := hk_b hsp
        refine hk_callVv (As := []) (rest := []) F9 G h0 hkc_9 rfl (kX12_next l g E F n S5 a0 r6 h0 er6) qv_RX12_174 ⟨rfl, rfl, (Nat.le_of_ble_eq_true rfl), (Nat.le_of_ble_eq_true rfl)⟩ rfl hl.1 rfl (Nat.le_of_ble_eq_true rfl) ⟨Nat.zero_le _, Nat.zero_le _⟩ dX12_readsCommand_70 (fun H locs G => ?_)
        refine lv_aload_n hx hb dX12_readsCommand_73 rfl (lv_at hl 1 rfl) ?_
        refine lv_iload_n hx hb dX12_readsCommand_74 rfl (lv_at hl 0 rfl) ?_
        obtain ⟨r7, er7, hsp⟩ := hk_b hsp
        refine hk_callVi (As := [.int r1.1]) (rest := []) F9 G h0 hkc_9 rfl (kX12_readsWord l g E F n r6 a0 r1.1 r7 h0 er7) qv_RX12_279 ⟨rfl, rfl, (Nat.le_of_ble_eq_true rfl), (Nat.le_of_ble_eq_true rfl)⟩ rfl hl.1 rfl (Nat.le_of_ble_eq_true rfl) ⟨Nat.zero_le _, Nat.zero_le _⟩ dX12_readsCommand_75 (fun H locs G => ?_)
        obtain ⟨q8, hsp⟩ := hk_k hsp
        obtain rfl := hk_s hsp
        exact W.zret (v := r7.1) hx hb hr (hk_z q8).1 (fun t ht hW => hk_end G ht hW) G.2.1.2.2 dX12_readsCommand_78
      · have hsp := hk_g c4 hsp
        refine lv_aload_n hx hb dX12_readsCommand_53 rfl (lv_at hl 1 rfl) ?_
        refine lv_iconst (v := 5) hx hb dX12_readsCommand_54 (by decide) ?_
        obtain ⟨r9, er9, hsp⟩ := hk_b hsp
        refine hk_callVi (As := [.int 5]) (rest := []) F9 G h0 hkc_9 rfl (kX12_fail l g E F n r1.2 a0 5 r9 h0 er9) qv_RX12_168 ⟨rfl, rfl, (Nat.le_of_ble_eq_true rfl), (Nat.le_of_ble_eq_true rfl)⟩ rfl hl.1 rfl (Nat.le_of_ble_eq_true rfl) ⟨Nat.zero_le _, Nat.zero_le _⟩ dX12_readsCommand_55 (fun H locs G => ?_)
        obtain ⟨q10, hsp⟩ := hk_k hsp
        obtain rfl := hk_s hsp
        exact W.zret (v := r9.1) hx hb hr (hk_z q10).1 (fun t ht hW => hk_end G ht hW) G.2.1.2.2 dX12_readsCommand_58
    · have hsp := hk_g c3 hsp
      refine lv_iload_n hx hb dX12_readsCommand_22 rfl (lv_at hl 2 rfl) ?_
      refine lv_iconst (v := 2) hx hb dX12_readsCommand_23 (by decide) ?_
      refine lv_icmp_ne (tgt := 33) hx hb dX12_readsCommand_24 (by decide) (fun c11 => ?_) (fun c11 => ?_)
      · have hsp := hk_t c11 hsp
        refine lv_aload_n hx hb dX12_readsCommand_33 rfl (lv_at hl 1 rfl) ?_
        obtain ⟨r12, er12, hsp⟩ := hk_b hsp
        refine hk_callVv (As := []) (rest := []) F9 G h0 hkc_9 rfl (kX12_next l g E F n r1.2 a0 r12 h0 er12) qv_RX12_174 ⟨rfl, rfl, (Nat.le_of_ble_eq_true rfl), (Nat.le_of_ble_eq_true rfl)⟩ rfl hl.1 rfl (Nat.le_of_ble_eq_true rfl) ⟨Nat.zero_le _, Nat.zero_le _⟩ dX12_readsCommand_34 (fun H locs G => ?_)
        refine lv_aload_n hx hb dX12_readsCommand_37 rfl (lv_at hl 1 rfl) ?_
        refine lv_iload_n hx hb dX12_readsCommand_38 rfl (lv_at hl 2 rfl) ?_
        obtain ⟨r13, er13, hsp⟩ := hk_b hsp
        refine hk_callVi (As := [.int x1]) (rest := []) F9 G h0 hkc_9 rfl (hrr r12 a0 x1 r13 h0 er13) qv_RX12_273 ⟨rfl, rfl, (Nat.le_of_ble_eq_true rfl), (Nat.le_of_ble_eq_true rfl)⟩ rfl hl.1 rfl (Nat.le_of_ble_eq_true rfl) ⟨Nat.zero_le _, Nat.zero_le _⟩ dX12_readsCommand_39 (fun H locs G => ?_)
        obtain ⟨q14, hsp⟩ := hk_k hsp
        obtain rfl := hk_s hsp
        exact W.zret (v := r13.1) hx hb hr (hk_z q14).1 (fun t ht hW => hk_end G ht hW) G.2.1.2.2 dX12_readsCommand_42
      · have hsp := hk_g c11 hsp
        refine lv_aload_n hx hb dX12_readsCommand_27 rfl (lv_at hl 1 rfl) ?_
        refine lv_iconst (v := 4) hx hb dX12_readsCommand_28 (by decide) ?_
        obtain ⟨r15, er15, hsp⟩ := hk_b hsp
        refine hk_callVi (As := [.int 4]) (rest := []) F9 G h0 hkc_9 rfl (kX12_fail l g E F n r1.2 a0 4 r15 h0 er15) qv_RX12_168 ⟨rfl, rfl, (Nat.le_of_ble_eq_true rfl), (Nat.le_of_ble_eq_true rfl)⟩ rfl hl.1 rfl (Nat.le_of_ble_eq_true rfl) ⟨Nat.zero_le _, Nat.zero_le _⟩ dX12_readsCommand_29 (fun H locs G => ?_)
        obtain ⟨q16, hsp⟩ := hk_k hsp
        obtain rfl := hk_s hsp
        exact W.zret (v := r15.1) hx hb hr (hk_z q16).1 (fun t ht hW => hk_end G ht hW) G.2.1.2.2 dX12_readsCommand_32
  · have hsp := hk_g c2 hsp
    refine lv_aload_n hx hb dX12_readsCommand_10 rfl (lv_at hl 1 rfl) ?_
    refine lv_iconst (v := 1) hx hb dX12_readsCommand_11 (by decide) ?_
    obtain ⟨r17, er17, hsp⟩ := hk_b hsp
    refine hk_callVi (As := [.int 1]) (rest := []) F9 G h0 hkc_9 rfl (kX12_fail l g E F n r1.2 a0 1 r17 h0 er17) qv_RX12_168 ⟨rfl, rfl, (Nat.le_of_ble_eq_true rfl), (Nat.le_of_ble_eq_true rfl)⟩ rfl hl.1 rfl (Nat.le_of_ble_eq_true rfl) ⟨Nat.zero_le _, Nat.zero_le _⟩ dX12_readsCommand_12 (fun H locs G => ?_)
    obtain ⟨q18, hsp⟩ := hk_k hsp
    obtain rfl := hk_s hsp
    exact W.zret (v := r17.1) hx hb hr (hk_z q18).1 (fun t ht hW => hk_end G ht hW) G.2.1.2.2 dX12_readsCommand_15
def mX12_rC1 (E : hk_E) (F : Nat) (S : hk_S) (a0 : Nat) (x1 : Int32) : Option (Int32 × hk_S) := mX12_readsCommand E F (mX12_rR2 E F) S a0 x1
theorem kX12_rC1 (l : Launch) (g : hk_G) (E : hk_E) (F n : Nat) (S : hk_S) (a0 : Nat) (x1 : Int32) (o : Int32 × hk_S) (h0 : E.2.1 a0 = 10) (hsp : mX12_rC1 E F S a0 x1 = some o) : Met l yX12_readsCommand (hk_ws yX12_readsCommand cX12_readsCommand 3 (Option.some Jvm.ClassFile.FieldType.boolean)) ({ frames := 11, cells := 0, slots := 0, locals := 242 }) (hk_Pc g E S n [.ref (g.1 + a0), .int x1]) (hk_Q g E o.2 n (some (.int o.1))) 0 0 (hk_A g) := kX12_readsCommand_X12_rC1 l g E F n (mX12_rR2 E F) (fun S a0 x1 o h0 h => kX12_rR2 l g E F n S a0 x1 o h0 h) S a0 x1 o h0 hsp
set_option maxHeartbeats 4000000 in
set_option maxRecDepth 100000 in
theorem kX12_readsRepeat_X12_rR1 (l : Launch) (g : hk_G) (E : hk_E) (F n : Nat) (rc : hk_S → Nat → Int32 → Option (Int32 × hk_S)) (hrc : ∀ (S : hk_S) (a0 : Nat) (x1 : Int32) (o : Int32 × hk_S), E.2.1 a0 = 10 → rc S a0 x1 = some o → Met l yX12_readsCommand (hk_ws yX12_readsCommand cX12_readsCommand 3 (Option.some Jvm.ClassFile.FieldType.boolean)) ({ frames := 11, cells := 0, slots := 0, locals := 242 }) (hk_Pc g E S n [.ref (g.1 + a0), .int x1]) (hk_Q g E o.2 n (some (.int o.1))) 0 0 (hk_A g)) (S : hk_S) (a0 : Nat) (x1 : Int32) (o : Int32 × hk_S) (h0 : E.2.1 a0 = 10) (hsp : mX12_readsRepeat E F rc S a0 x1 = some o) : Met l yX12_readsRepeat (hk_ws yX12_readsRepeat cX12_readsRepeat 5 (Option.some Jvm.ClassFile.FieldType.boolean)) ({ frames := 12, cells := 0, slots := 0, locals := 264 }) (hk_Pc g E S n [.ref (g.1 + a0), .int x1]) (hk_Q g E o.2 n (some (.int o.1))) 0 0 (hk_A g) := by
  refine Met.ofW (cc := cX12_readsRepeat) (maxL := 5) (ret := (Option.some Jvm.ClassFile.FieldType.boolean)) (by decide) rfl ?_
  intro p e s m args below meth c s₁ B hml hv
  obtain ⟨rfl, G⟩ := hk_begin hv
  have F9 : CallFix p m c cX12_readsRepeat 5 s [.ref (g.1 + a0), .int x1].toArray hk_W RX12 := ⟨B.exec, B.bytes, hml, findClass_of_methodNamed B.named, fun w h => atoms_spec (ws := hk_ws yX12_readsRepeat cX12_readsRepeat 5 (Option.some Jvm.ClassFile.FieldType.boolean)) B.pre w (hk_in h)⟩
  have hx := B.exec
  have hb := B.bytes
  have hr := B.returns
  have hlocks := B.notSynchronized
  have hl := lv_entry ([.ref (g.1 + a0), .int x1]) (n := 5) (Nat.le_of_ble_eq_true rfl)
  rw [lg_entry_eq]
  generalize (lg_sl ([.ref (g.1 + a0), .int x1]) ++ List.replicate (5 - (lg_sl ([.ref (g.1 + a0), .int x1])).length) Slot.unset).toArray = ls at hl ⊢
  have hl : lv_has ls 5 [(0, .ref (g.1 + a0)), (1, .int x1)] := hl
  unfold mX12_readsRepeat at hsp
  have G : hk_GG g E S n s s.heap [] := G
  have L_51 : ∀ (c15 : Int32) (c16 : Int32) (c17 : Int32)  (k : hk_S → Option (Int32 × hk_S)) (_ : ∀ (S : hk_S) (H : Heap) (locs : List Loc) (ls : Array Slot), k S  = some o → hk_GG g E S n s H locs → lv_has ls 5 [(0, .ref (g.1 + a0)), (1, .int x1), (2, .int c15), (3, .int c16), (4, .int c17)] → W p l e (headSpec (hk_ws yX12_readsRepeat cX12_readsRepeat 5 (Option.some Jvm.ClassFile.FieldType.boolean)) ({ frames := 12, cells := 0, slots := 0, locals := 264 })).room s m [.ref (g.1 + a0), .int x1].toArray below meth c H locs 0 0 (MQ below (hk_Q g E o.2 n (some (.int o.1))) [.ref (g.1 + a0), .int x1].toArray s 0 0 (hk_A g)) (F0 m 78 ls [])) (f : Nat) (S : hk_S) (H : Heap) (locs : List Loc) (ls : Array Slot), mX12_readsRepeat_51 E F rc a0 x1 c15 c16 c17 k f S  = some o → hk_GG g E S n s H locs → lv_has ls 5 [(0, .ref (g.1 + a0)), (1, .int x1), (2, .int c15), (3, .int c16), (4, .int c17)] → W p l e (headSpec (hk_ws yX12_readsRepeat cX12_readsRepeat 5 (Option.some Jvm.ClassFile.FieldType.boolean)) ({ frames := 12, cells := 0, slots := 0, locals := 264 })).room s m [.ref (g.1 + a0), .int x1].toArray below meth c H locs 0 0 (MQ below (hk_Q g E o.2 n (some (.int o.1))) [.ref (g.1 + a0), .int x1].toArray s 0 0 (hk_A g)) (F0 m 51 ls []) := by
    intro c15 c16 c17  k hk f
    induction f with
    | zero =>
      intro S  H locs ls hsp
      exact nomatch hsp
    | succ f ih =>
      intro S  H locs ls hsp G hl
      rw [mX12_readsRepeat_51] at hsp
      refine lv_aload_n hx hb dX12_readsRepeat_51 rfl (lv_at hl 0 rfl) ?_
      refine hk_getI F9 G h0 hkc_9 (k := 16) (by decide) qw_1600 rfl dX12_readsRepeat_52 ?_
      refine lv_iconst (v := 5) hx hb dX12_readsRepeat_55 (by decide) ?_
      refine lv_icmp_eq (tgt := 78) hx hb dX12_readsRepeat_56 (by decide) (fun c18 => ?_) (fun c18 => ?_)
      · have hsp := hk_t c18 hsp
        exact hk S  _ _ _ hsp G (lv_sub hl [0, 1, 2, 3, 4] rfl)
      · have hsp := hk_f c18 hsp
        refine lv_aload_n hx hb dX12_readsRepeat_59 rfl (lv_at hl 0 rfl) ?_
        refine lv_iload_n hx hb dX12_readsRepeat_60 rfl (lv_at hl 1 rfl) ?_
        refine lv_iconst (v := 1) hx hb dX12_readsRepeat_61 (by decide) ?_
        refine lv_iadd hx hb dX12_readsRepeat_62 ?_
        obtain ⟨r19, er19, hsp⟩ := hk_b hsp
        refine hk_callVi (As := [.int (x1 + 1)]) (rest := []) F9 G h0 hkc_9 rfl (hrc S a0 (x1 + 1) r19 h0 er19) qv_RX12_234 ⟨rfl, rfl, (Nat.le_of_ble_eq_true rfl), (Nat.le_of_ble_eq_true rfl)⟩ rfl hl.1 rfl (Nat.le_of_ble_eq_true rfl) ⟨Nat.zero_le _, Nat.zero_le _⟩ dX12_readsRepeat_63 (fun H locs G => ?_)
        refine lv_if_ne (tgt := 71) hx hb dX12_readsRepeat_66 (by decide) (fun c20 => ?_) (fun c20 => ?_)
        · have hsp := hk_t c20 hsp
          refine lv_aload_n hx hb dX12_readsRepeat_71 rfl (lv_at hl 0 rfl) ?_
          obtain ⟨r21, er21, hsp⟩ := hk_b hsp
          refine hk_callVv (As := []) (rest := []) F9 G h0 hkc_9 rfl (kX12_next l g E F n r19.2 a0 r21 h0 er21) qv_RX12_174 ⟨rfl, rfl, (Nat.le_of_ble_eq_true rfl), (Nat.le_of_ble_eq_true rfl)⟩ rfl hl.1 rfl (Nat.le_of_ble_eq_true rfl) ⟨Nat.zero_le _, Nat.zero_le _⟩ dX12_readsRepeat_72 (fun H locs G => ?_)
          refine lv_goto (tgt := 51) hx hb dX12_readsRepeat_75 (by decide) ?_
          exact ih r21  _ _ _ hsp G (lv_sub hl [0, 1, 2, 3, 4] rfl)
        · have hsp := hk_g c20 hsp
          refine lv_iconst (v := 0) hx hb dX12_readsRepeat_69 (by decide) ?_
          obtain rfl := hk_s hsp
          exact W.zret (v := 0) hx hb hr (hk_z (by decide)).1 (fun t ht hW => hk_end G ht hW) G.2.1.2.2 dX12_readsRepeat_70
  have L_36 : ∀ (c9 : Int32) (c10 : Int32)  (k : hk_S → Int32 → Option (Int32 × hk_S)) (_ : ∀ (S : hk_S) (z11 : Int32) (H : Heap) (locs : List Loc) (ls : Array Slot), k S z11 = some o → hk_GG g E S n s H locs → lv_has ls 5 [(0, .ref (g.1 + a0)), (1, .int x1), (2, .int c9), (3, .int c10), (4, .int z11)] → W p l e (headSpec (hk_ws yX12_readsRepeat cX12_readsRepeat 5 (Option.some Jvm.ClassFile.FieldType.boolean)) ({ frames := 12, cells := 0, slots := 0, locals := 264 })).room s m [.ref (g.1 + a0), .int x1].toArray below meth c H locs 0 0 (MQ below (hk_Q g E o.2 n (some (.int o.1))) [.ref (g.1 + a0), .int x1].toArray s 0 0 (hk_A g)) (F0 m 84 ls [])) (f : Nat) (S : hk_S) (z11 : Int32) (H : Heap) (locs : List Loc) (ls : Array Slot), mX12_readsRepeat_36 E F rc a0 x1 c9 c10 k f S z11 = some o → hk_GG g E S n s H locs → lv_has ls 5 [(0, .ref (g.1 + a0)), (1, .int x1), (2, .int c9), (3, .int c10), (4, .int z11)] → W p l e (headSpec (hk_ws yX12_readsRepeat cX12_readsRepeat 5 (Option.some Jvm.ClassFile.FieldType.boolean)) ({ frames := 12, cells := 0, slots := 0, locals := 264 })).room s m [.ref (g.1 + a0), .int x1].toArray below meth c H locs 0 0 (MQ below (hk_Q g E o.2 n (some (.int o.1))) [.ref (g.1 + a0), .int x1].toArray s 0 0 (hk_A g)) (F0 m 36 ls []) := by
    intro c9 c10  k hk f
    induction f with
    | zero =>
      intro S z11 H locs ls hsp
      exact nomatch hsp
    | succ f ih =>
      intro S z11 H locs ls hsp G hl
      rw [mX12_readsRepeat_36] at hsp
      refine lv_iload hx hb dX12_readsRepeat_36 (lv_at hl 4 rfl) ?_
      refine lv_iload_n hx hb dX12_readsRepeat_38 rfl (lv_at hl 2 rfl) ?_
      refine lv_icmp_ge (tgt := 84) hx hb dX12_readsRepeat_39 (by decide) (fun c12 => ?_) (fun c12 => ?_)
      · have hsp := hk_t c12 hsp
        exact hk S z11 _ _ _ hsp G (lv_sub hl [0, 1, 2, 3, 4] rfl)
      · have hsp := hk_f c12 hsp
        refine lv_aload_n hx hb dX12_readsRepeat_42 rfl (lv_at hl 0 rfl) ?_
        refine lv_iload_n hx hb dX12_readsRepeat_43 rfl (lv_at hl 3 rfl) ?_
        obtain ⟨S13, eS13, hsp⟩ := hk_l hsp
        refine hk_putI F9 G h0 hkc_9 (k := 18) (by decide) qw_1602 rfl rfl (tyX12_ok 18 (by decide)) rfl rfl dX12_readsRepeat_44 (fun H locs G => ?_)
        rw [eS13] at G
        refine lv_aload_n hx hb dX12_readsRepeat_47 rfl (lv_at hl 0 rfl) ?_
        obtain ⟨r14, er14, hsp⟩ := hk_b hsp
        refine hk_callVv (As := []) (rest := []) F9 G h0 hkc_9 rfl (kX12_next l g E F n S13 a0 r14 h0 er14) qv_RX12_174 ⟨rfl, rfl, (Nat.le_of_ble_eq_true rfl), (Nat.le_of_ble_eq_true rfl)⟩ rfl hl.1 rfl (Nat.le_of_ble_eq_true rfl) ⟨Nat.zero_le _, Nat.zero_le _⟩ dX12_readsRepeat_48 (fun H locs G => ?_)
        refine L_51 c9 c10 z11  _ ?_ F r14  _ _ _ hsp G (lv_sub hl [0, 1, 2, 3, 4] rfl)
        intro S22  H locs ls hsp G hl
        obtain ⟨y23, ey23, hsp⟩ := hk_l hsp
        refine lv_iinc (v := y23) (lv' := [(4, .int y23), (0, .ref (g.1 + a0)), (1, .int x1), (2, .int c9), (3, .int c10)]) hx hb dX12_readsRepeat_78 hl (k := 4) rfl (by rw [← ey23]; rfl) (by decide) rfl (fun ls hl => ?_)
        refine lv_goto (tgt := 36) hx hb dX12_readsRepeat_81 (by decide) ?_
        exact ih S22 y23 _ _ _ hsp G (lv_sub hl [1, 2, 3, 4, 0] rfl)
  refine lv_aload_n hx hb dX12_readsRepeat_0 rfl (lv_at hl 0 rfl) ?_
  refine lv_iconst (v := 0) hx hb dX12_readsRepeat_1 (by decide) ?_
  refine lv_iconst (v := 1) hx hb dX12_readsRepeat_2 (by decide) ?_
  refine lv_bipush (v := 20) hx hb dX12_readsRepeat_3 (by decide) ?_
  obtain ⟨r1, er1, hsp⟩ := hk_b hsp
  refine hk_callVi (As := [.int 0, .int 1, .int 20]) (rest := []) F9 G h0 hkc_9 rfl (kX12_number l g E F n S a0 0 1 20 r1 h0 er1) qv_RX12_177 ⟨rfl, rfl, (Nat.le_of_ble_eq_true rfl), (Nat.le_of_ble_eq_true rfl)⟩ rfl hl.1 rfl (Nat.le_of_ble_eq_true rfl) ⟨Nat.zero_le _, Nat.zero_le _⟩ dX12_readsRepeat_5 (fun H locs G => ?_)
  refine lv_if_eq (tgt := 19) hx hb dX12_readsRepeat_8 (by decide) (fun c2 => ?_) (fun c2 => ?_)
  · have hsp := hk_t c2 hsp
    refine lv_iconst (v := 0) hx hb dX12_readsRepeat_19 (by decide) ?_
    obtain rfl := hk_s hsp
    exact W.zret (v := 0) hx hb hr (hk_z (by decide)).1 (fun t ht hW => hk_end G ht hW) G.2.1.2.2 dX12_readsRepeat_20
  · have hsp := hk_f c2 hsp
    refine lv_aload_n hx hb dX12_readsRepeat_11 rfl (lv_at hl 0 rfl) ?_
    refine lv_iconst (v := 4) hx hb dX12_readsRepeat_12 (by decide) ?_
    obtain ⟨r3, er3, hsp⟩ := hk_b hsp
    refine hk_callVi (As := [.int 4]) (rest := []) F9 G h0 hkc_9 rfl (kX12_is l g E F n r1.2 a0 4 r3 h0 er3) qv_RX12_171 ⟨rfl, rfl, (Nat.le_of_ble_eq_true rfl), (Nat.le_of_ble_eq_true rfl)⟩ rfl hl.1 rfl (Nat.le_of_ble_eq_true rfl) ⟨Nat.zero_le _, Nat.zero_le _⟩ dX12_readsRepeat_13 (fun H locs G => ?_)
    refine lv_if_ne (tgt := 21) hx hb dX12_readsRepeat_16 (by decide) (fun c4 => ?_) (fun c4 => ?_)
    · have hsp := hk_t c4 hsp
      refine lv_aload_n hx hb dX12_readsRepeat_21 rfl (lv_at hl 0 rfl) ?_
      obtain ⟨r5, er5, hsp⟩ := hk_b hsp
      obtain ⟨kr5, hsp⟩ := hk_k hsp
      refine hk_getR F9 G h0 hkc_9 (k := 21) (by decide) qw_1605 rfl er5 dX12_readsRepeat_22 ?_
      refine lv_iconst (v := 0) hx hb dX12_readsRepeat_25 (by decide) ?_
      obtain ⟨q6, hsp⟩ := hk_k hsp
      refine hk_iald (j := 0) F9 G kr5 rfl q6 (by decide) dX12_readsRepeat_26 ?_
      obtain ⟨y7, ey7, hsp⟩ := hk_l hsp
      refine hk_top ey7 ?_
      refine lv_istore_n (lv' := [(2, .int y7), (0, .ref (g.1 + a0)), (1, .int x1)]) hx hb dX12_readsRepeat_27 rfl hl (by decide) rfl (fun ls hl => ?_)
      refine lv_aload_n hx hb dX12_readsRepeat_28 rfl (lv_at hl 1 rfl) ?_
      refine hk_getI F9 G h0 hkc_9 (k := 18) (by decide) qw_1602 rfl dX12_readsRepeat_29 ?_
      obtain ⟨y8, ey8, hsp⟩ := hk_l hsp
      refine hk_top ey8 ?_
      refine lv_istore_n (lv' := [(3, .int y8), (2, .int y7), (0, .ref (g.1 + a0)), (1, .int x1)]) hx hb dX12_readsRepeat_32 rfl hl (by decide) rfl (fun ls hl => ?_)
      refine lv_iconst (v := 0) hx hb dX12_readsRepeat_33 (by decide) ?_
      refine lv_istore (lv' := [(4, .int 0), (3, .int y8), (2, .int y7), (0, .ref (g.1 + a0)), (1, .int x1)]) hx hb dX12_readsRepeat_34  hl (by decide) rfl (fun ls hl => ?_)
      refine L_36 y7 y8  _ ?_ F r3.2 0 _ _ _ hsp G (lv_sub hl [3, 4, 2, 1, 0] rfl)
      intro S24 z25 H locs ls hsp G hl
      refine lv_aload_n hx hb dX12_readsRepeat_84 rfl (lv_at hl 0 rfl) ?_
      obtain ⟨r26, er26, hsp⟩ := hk_b hsp
      refine hk_callVv (As := []) (rest := []) F9 G h0 hkc_9 rfl (kX12_next l g E F n S24 a0 r26 h0 er26) qv_RX12_174 ⟨rfl, rfl, (Nat.le_of_ble_eq_true rfl), (Nat.le_of_ble_eq_true rfl)⟩ rfl hl.1 rfl (Nat.le_of_ble_eq_true rfl) ⟨Nat.zero_le _, Nat.zero_le _⟩ dX12_readsRepeat_85 (fun H locs G => ?_)
      refine lv_aload_n hx hb dX12_readsRepeat_88 rfl (lv_at hl 0 rfl) ?_
      refine lv_iconst (v := 1) hx hb dX12_readsRepeat_89 (by decide) ?_
      obtain ⟨r27, er27, hsp⟩ := hk_b hsp
      refine hk_callVi (As := [.int 1]) (rest := []) F9 G h0 hkc_9 rfl (kX12_is l g E F n r26 a0 1 r27 h0 er27) qv_RX12_171 ⟨rfl, rfl, (Nat.le_of_ble_eq_true rfl), (Nat.le_of_ble_eq_true rfl)⟩ rfl hl.1 rfl (Nat.le_of_ble_eq_true rfl) ⟨Nat.zero_le _, Nat.zero_le _⟩ dX12_readsRepeat_90 (fun H locs G => ?_)
      obtain ⟨q28, hsp⟩ := hk_k hsp
      obtain rfl := hk_s hsp
      exact W.zret (v := r27.1) hx hb hr (hk_z q28).1 (fun t ht hW => hk_end G ht hW) G.2.1.2.2 dX12_readsRepeat_93
    · have hsp := hk_g c4 hsp
      refine lv_iconst (v := 0) hx hb dX12_readsRepeat_19 (by decide) ?_
      obtain rfl := hk_s hsp
      exact W.zret (v := 0) hx hb hr (hk_z (by decide)).1 (fun t ht hW => hk_end G ht hW) G.2.1.2.2 dX12_readsRepeat_20
def mX12_rR1 (E : hk_E) (F : Nat) (S : hk_S) (a0 : Nat) (x1 : Int32) : Option (Int32 × hk_S) := mX12_readsRepeat E F (mX12_rC1 E F) S a0 x1
theorem kX12_rR1 (l : Launch) (g : hk_G) (E : hk_E) (F n : Nat) (S : hk_S) (a0 : Nat) (x1 : Int32) (o : Int32 × hk_S) (h0 : E.2.1 a0 = 10) (hsp : mX12_rR1 E F S a0 x1 = some o) : Met l yX12_readsRepeat (hk_ws yX12_readsRepeat cX12_readsRepeat 5 (Option.some Jvm.ClassFile.FieldType.boolean)) ({ frames := 12, cells := 0, slots := 0, locals := 264 }) (hk_Pc g E S n [.ref (g.1 + a0), .int x1]) (hk_Q g E o.2 n (some (.int o.1))) 0 0 (hk_A g) := kX12_readsRepeat_X12_rR1 l g E F n (mX12_rC1 E F) (fun S a0 x1 o h0 h => kX12_rC1 l g E F n S a0 x1 o h0 h) S a0 x1 o h0 hsp
set_option maxHeartbeats 4000000 in
set_option maxRecDepth 100000 in
theorem kX12_readsCommand_X12_rC0 (l : Launch) (g : hk_G) (E : hk_E) (F n : Nat) (rr : hk_S → Nat → Int32 → Option (Int32 × hk_S)) (hrr : ∀ (S : hk_S) (a0 : Nat) (x1 : Int32) (o : Int32 × hk_S), E.2.1 a0 = 10 → rr S a0 x1 = some o → Met l yX12_readsRepeat (hk_ws yX12_readsRepeat cX12_readsRepeat 5 (Option.some Jvm.ClassFile.FieldType.boolean)) ({ frames := 12, cells := 0, slots := 0, locals := 264 }) (hk_Pc g E S n [.ref (g.1 + a0), .int x1]) (hk_Q g E o.2 n (some (.int o.1))) 0 0 (hk_A g)) (S : hk_S) (a0 : Nat) (x1 : Int32) (o : Int32 × hk_S) (h0 : E.2.1 a0 = 10) (hsp : mX12_readsCommand E F rr S a0 x1 = some o) : Met l yX12_readsCommand (hk_ws yX12_readsCommand cX12_readsCommand 3 (Option.some Jvm.ClassFile.FieldType.boolean)) ({ frames := 13, cells := 0, slots := 0, locals := 288 }) (hk_Pc g E S n [.ref (g.1 + a0), .int x1]) (hk_Q g E o.2 n (some (.int o.1))) 0 0 (hk_A g) := by
  refine Met.ofW (cc := cX12_readsCommand) (maxL := 3) (ret := (Option.some Jvm.ClassFile.FieldType.boolean)) (by decide) rfl ?_
  intro p e s m args below meth c s₁ B hml hv
  obtain ⟨rfl, G⟩ := hk_begin hv
  have F9 : CallFix p m c cX12_readsCommand 3 s [.ref (g.1 + a0), .int x1].toArray hk_W RX12 := ⟨B.exec, B.bytes, hml, findClass_of_methodNamed B.named, fun w h => atoms_spec (ws := hk_ws yX12_readsCommand cX12_readsCommand 3 (Option.some Jvm.ClassFile.FieldType.boolean)) B.pre w (hk_in h)⟩
  have hx := B.exec
  have hb := B.bytes
  have hr := B.returns
  have hlocks := B.notSynchronized
  have hl := lv_entry ([.ref (g.1 + a0), .int x1]) (n := 3) (Nat.le_of_ble_eq_true rfl)
  rw [lg_entry_eq]
  generalize (lg_sl ([.ref (g.1 + a0), .int x1]) ++ List.replicate (3 - (lg_sl ([.ref (g.1 + a0), .int x1])).length) Slot.unset).toArray = ls at hl ⊢
  have hl : lv_has ls 3 [(0, .ref (g.1 + a0)), (1, .int x1)] := hl
  unfold mX12_readsCommand at hsp
  have G : hk_GG g E S n s s.heap [] := G
  refine lv_aload_n hx hb dX12_readsCommand_0 rfl (lv_at hl 0 rfl) ?_
  obtain ⟨r1, er1, hsp⟩ := hk_b hsp
  refine hk_callVi (As := []) (rest := []) F9 G h0 hkc_9 rfl (kX12_wordAhead l g E F n S a0 r1 h0 er1) qv_RX12_270 ⟨rfl, rfl, (Nat.le_of_ble_eq_true rfl), (Nat.le_of_ble_eq_true rfl)⟩ rfl hl.1 rfl (Nat.le_of_ble_eq_true rfl) ⟨Nat.zero_le _, Nat.zero_le _⟩ dX12_readsCommand_1 (fun H locs G => ?_)
  refine lv_istore_n (lv' := [(2, .int r1.1), (0, .ref (g.1 + a0)), (1, .int x1)]) hx hb dX12_readsCommand_4 rfl hl (by decide) rfl (fun ls hl => ?_)
  refine lv_iload_n hx hb dX12_readsCommand_5 rfl (lv_at hl 0 rfl) ?_
  refine lv_iconst (v := (-1)) hx hb dX12_readsCommand_6 (by decide) ?_
  refine lv_icmp_ne (tgt := 16) hx hb dX12_readsCommand_7 (by decide) (fun c2 => ?_) (fun c2 => ?_)
  · have hsp := hk_t c2 hsp
    refine lv_iload_n hx hb dX12_readsCommand_16 rfl (lv_at hl 0 rfl) ?_
    refine lv_bipush (v := 14) hx hb dX12_readsCommand_17 (by decide) ?_
    refine lv_icmp_ne (tgt := 43) hx hb dX12_readsCommand_19 (by decide) (fun c3 => ?_) (fun c3 => ?_)
    · have hsp := hk_t c3 hsp
      refine lv_aload_n hx hb dX12_readsCommand_43 rfl (lv_at hl 1 rfl) ?_
      refine hk_getI F9 G h0 hkc_9 (k := 20) (by decide) qw_1604 rfl dX12_readsCommand_44 ?_
      refine lv_sipush (v := 200) hx hb dX12_readsCommand_47 (by decide) ?_
      refine lv_icmp_ne (tgt := 59) hx hb dX12_readsCommand_50 (by decide) (fun c4 => ?_) (fun c4 => ?_)
      · have hsp := hk_t c4 hsp
        refine lv_aload_n hx hb dX12_readsCommand_59 rfl (lv_at hl 1 rfl) ?_
        refine lv_dup hx hb dX12_readsCommand_60 rfl ?_
        refine hk_getI F9 G h0 hkc_9 (k := 20) (by decide) qw_1604 rfl dX12_readsCommand_61 ?_
        refine lv_iconst (v := 1) hx hb dX12_readsCommand_64 (by decide) ?_
        refine lv_iadd hx hb dX12_readsCommand_65 ?_
        obtain ⟨S5, eS5, hsp⟩ := hk_l hsp
        refine hk_putI F9 G h0 hkc_9 (k := 20) (by decide) qw_1604 rfl rfl (tyX12_ok 20 (by decide)) rfl rfl dX12_readsCommand_66 (fun H locs G => ?_)
        rw [eS5] at G
        refine lv_aload_n hx hb dX12_readsCommand_69 rfl (lv_at hl 1 rfl) ?_
        obtain ⟨r6, er6, hsp⟩ := hk_b hsp
        refine hk_callVv (As := []) (rest := []) F9 G h0 hkc_9 rfl (kX12_next l g E F n S5 a0 r6 h0 er6) qv_RX12_174 ⟨rfl, rfl, (Nat.le_of_ble_eq_true rfl), (Nat.le_of_ble_eq_true rfl)⟩ rfl hl.1 rfl (Nat.le_of_ble_eq_true rfl) ⟨Nat.zero_le _, Nat.zero_le _⟩ dX12_readsCommand_70 (fun H locs G => ?_)
        refine lv_aload_n hx hb dX12_readsCommand_73 rfl (lv_at hl 1 rfl) ?_
        refine lv_iload_n hx hb dX12_readsCommand_74 rfl (lv_at hl 0 rfl) ?_
        obtain ⟨r7, er7, hsp⟩ := hk_b hsp
        refine hk_callVi (As := [.int r1.1]) (rest := []) F9 G h0 hkc_9 rfl (kX12_readsWord l g E F n r6 a0 r1.1 r7 h0 er7) qv_RX12_279 ⟨rfl, rfl, (Nat.le_of_ble_eq_true rfl), (Nat.le_of_ble_eq_true rfl)⟩ rfl hl.1 rfl (Nat.le_of_ble_eq_true rfl) ⟨Nat.zero_le _, Nat.zero_le _⟩ dX12_readsCommand_75 (fun H locs G => ?_)
        obtain ⟨q8, hsp⟩ := hk_k hsp
        obtain rfl := hk_s hsp
        exact W.zret (v := r7.1) hx hb hr (hk_z q8).1 (fun t ht hW => hk_end G ht hW) G.2.1.2.2 dX12_readsCommand_78
      · have hsp := hk_g c4 hsp
        refine lv_aload_n hx hb dX12_readsCommand_53 rfl (lv_at hl 1 rfl) ?_
        refine lv_iconst (v := 5) hx hb dX12_readsCommand_54 (by decide) ?_
        obtain ⟨r9, er9, hsp⟩ := hk_b hsp
        refine hk_callVi (As := [.int 5]) (rest := []) F9 G h0 hkc_9 rfl (kX12_fail l g E F n r1.2 a0 5 r9 h0 er9) qv_RX12_168 ⟨rfl, rfl, (Nat.le_of_ble_eq_true rfl), (Nat.le_of_ble_eq_true rfl)⟩ rfl hl.1 rfl (Nat.le_of_ble_eq_true rfl) ⟨Nat.zero_le _, Nat.zero_le _⟩ dX12_readsCommand_55 (fun H locs G => ?_)
        obtain ⟨q10, hsp⟩ := hk_k hsp
        obtain rfl := hk_s hsp
        exact W.zret (v := r9.1) hx hb hr (hk_z q10).1 (fun t ht hW => hk_end G ht hW) G.2.1.2.2 dX12_readsCommand_58
    · have hsp := hk_g c3 hsp
      refine lv_iload_n hx hb dX12_readsCommand_22 rfl (lv_at hl 2 rfl) ?_
      refine lv_iconst (v := 2) hx hb dX12_readsCommand_23 (by decide) ?_
      refine lv_icmp_ne (tgt := 33) hx hb dX12_readsCommand_24 (by decide) (fun c11 => ?_) (fun c11 => ?_)
      · have hsp := hk_t c11 hsp
        refine lv_aload_n hx hb dX12_readsCommand_33 rfl (lv_at hl 1 rfl) ?_
        obtain ⟨r12, er12, hsp⟩ := hk_b hsp
        refine hk_callVv (As := []) (rest := []) F9 G h0 hkc_9 rfl (kX12_next l g E F n r1.2 a0 r12 h0 er12) qv_RX12_174 ⟨rfl, rfl, (Nat.le_of_ble_eq_true rfl), (Nat.le_of_ble_eq_true rfl)⟩ rfl hl.1 rfl (Nat.le_of_ble_eq_true rfl) ⟨Nat.zero_le _, Nat.zero_le _⟩ dX12_readsCommand_34 (fun H locs G => ?_)
        refine lv_aload_n hx hb dX12_readsCommand_37 rfl (lv_at hl 1 rfl) ?_
        refine lv_iload_n hx hb dX12_readsCommand_38 rfl (lv_at hl 2 rfl) ?_
        obtain ⟨r13, er13, hsp⟩ := hk_b hsp
        refine hk_callVi (As := [.int x1]) (rest := []) F9 G h0 hkc_9 rfl (hrr r12 a0 x1 r13 h0 er13) qv_RX12_273 ⟨rfl, rfl, (Nat.le_of_ble_eq_true rfl), (Nat.le_of_ble_eq_true rfl)⟩ rfl hl.1 rfl (Nat.le_of_ble_eq_true rfl) ⟨Nat.zero_le _, Nat.zero_le _⟩ dX12_readsCommand_39 (fun H locs G => ?_)
        obtain ⟨q14, hsp⟩ := hk_k hsp
        obtain rfl := hk_s hsp
        exact W.zret (v := r13.1) hx hb hr (hk_z q14).1 (fun t ht hW => hk_end G ht hW) G.2.1.2.2 dX12_readsCommand_42
      · have hsp := hk_g c11 hsp
        refine lv_aload_n hx hb dX12_readsCommand_27 rfl (lv_at hl 1 rfl) ?_
        refine lv_iconst (v := 4) hx hb dX12_readsCommand_28 (by decide) ?_
        obtain ⟨r15, er15, hsp⟩ := hk_b hsp
        refine hk_callVi (As := [.int 4]) (rest := []) F9 G h0 hkc_9 rfl (kX12_fail l g E F n r1.2 a0 4 r15 h0 er15) qv_RX12_168 ⟨rfl, rfl, (Nat.le_of_ble_eq_true rfl), (Nat.le_of_ble_eq_true rfl)⟩ rfl hl.1 rfl (Nat.le_of_ble_eq_true rfl) ⟨Nat.zero_le _, Nat.zero_le _⟩ dX12_readsCommand_29 (fun H locs G => ?_)
        obtain ⟨q16, hsp⟩ := hk_k hsp
        obtain rfl := hk_s hsp
        exact W.zret (v := r15.1) hx hb hr (hk_z q16).1 (fun t ht hW => hk_end G ht hW) G.2.1.2.2 dX12_readsCommand_32
  · have hsp := hk_g c2 hsp
    refine lv_aload_n hx hb dX12_readsCommand_10 rfl (lv_at hl 1 rfl) ?_
    refine lv_iconst (v := 1) hx hb dX12_readsCommand_11 (by decide) ?_
    obtain ⟨r17, er17, hsp⟩ := hk_b hsp
    refine hk_callVi (As := [.int 1]) (rest := []) F9 G h0 hkc_9 rfl (kX12_fail l g E F n r1.2 a0 1 r17 h0 er17) qv_RX12_168 ⟨rfl, rfl, (Nat.le_of_ble_eq_true rfl), (Nat.le_of_ble_eq_true rfl)⟩ rfl hl.1 rfl (Nat.le_of_ble_eq_true rfl) ⟨Nat.zero_le _, Nat.zero_le _⟩ dX12_readsCommand_12 (fun H locs G => ?_)
    obtain ⟨q18, hsp⟩ := hk_k hsp
    obtain rfl := hk_s hsp
    exact W.zret (v := r17.1) hx hb hr (hk_z q18).1 (fun t ht hW => hk_end G ht hW) G.2.1.2.2 dX12_readsCommand_15
def mX12_rC0 (E : hk_E) (F : Nat) (S : hk_S) (a0 : Nat) (x1 : Int32) : Option (Int32 × hk_S) := mX12_readsCommand E F (mX12_rR1 E F) S a0 x1
theorem kX12_rC0 (l : Launch) (g : hk_G) (E : hk_E) (F n : Nat) (S : hk_S) (a0 : Nat) (x1 : Int32) (o : Int32 × hk_S) (h0 : E.2.1 a0 = 10) (hsp : mX12_rC0 E F S a0 x1 = some o) : Met l yX12_readsCommand (hk_ws yX12_readsCommand cX12_readsCommand 3 (Option.some Jvm.ClassFile.FieldType.boolean)) ({ frames := 13, cells := 0, slots := 0, locals := 288 }) (hk_Pc g E S n [.ref (g.1 + a0), .int x1]) (hk_Q g E o.2 n (some (.int o.1))) 0 0 (hk_A g) := kX12_readsCommand_X12_rC0 l g E F n (mX12_rR1 E F) (fun S a0 x1 o h0 h => kX12_rR1 l g E F n S a0 x1 o h0 h) S a0 x1 o h0 hsp
def mX12_writeNumber (E : hk_E) (F : Nat) (rc : hk_S → Nat → Int32 → Option (hk_S)) (S : hk_S) (a0 : Nat) (x1 : Int32) : Option (hk_S) :=
if x1 ≤ 9 then ((mX12_write E F S a0 (48 + (x1 - x1 / 10 * 10))).bind (fun r2 => some (r2))) else ((rc S a0 (x1 / 10)).bind (fun r3 => (mX12_write E F r3 a0 (48 + (x1 - x1 / 10 * 10))).bind (fun r4 => some (r4))))
set_option maxHeartbeats 4000000 in
set_option maxRecDepth 100000 in
theorem kX12_writeNumber_X12_wN0 (l : Launch) (g : hk_G) (E : hk_E) (F n : Nat) (rc : hk_S → Nat → Int32 → Option (hk_S)) (hrc : ∀ (S : hk_S) (a0 : Nat) (x1 : Int32) (o : hk_S), E.2.1 a0 = 10 → rc S a0 x1 = some o → Met l yX12_writeNumber (hk_ws yX12_writeNumber cX12_writeNumber 2 (Option.none : Option Jvm.ClassFile.FieldType)) ({ frames := 0, cells := 0, slots := 0, locals := 0 }) (hk_Pc g E S n [.ref (g.1 + a0), .int x1]) (hk_Q g E o n none) 0 0 (hk_A g)) (S : hk_S) (a0 : Nat) (x1 : Int32) (o : hk_S) (h0 : E.2.1 a0 = 10) (hsp : mX12_writeNumber E F rc S a0 x1 = some o) : Met l yX12_writeNumber (hk_ws yX12_writeNumber cX12_writeNumber 2 (Option.none : Option Jvm.ClassFile.FieldType)) ({ frames := 1, cells := 0, slots := 0, locals := 21 }) (hk_Pc g E S n [.ref (g.1 + a0), .int x1]) (hk_Q g E o n none) 0 0 (hk_A g) := by
  refine Met.ofW (cc := cX12_writeNumber) (maxL := 2) (ret := (Option.none : Option Jvm.ClassFile.FieldType)) (by decide) rfl ?_
  intro p e s m args below meth c s₁ B hml hv
  obtain ⟨rfl, G⟩ := hk_begin hv
  have F9 : CallFix p m c cX12_writeNumber 2 s [.ref (g.1 + a0), .int x1].toArray hk_W RX12 := ⟨B.exec, B.bytes, hml, findClass_of_methodNamed B.named, fun w h => atoms_spec (ws := hk_ws yX12_writeNumber cX12_writeNumber 2 (Option.none : Option Jvm.ClassFile.FieldType)) B.pre w (hk_in h)⟩
  have hx := B.exec
  have hb := B.bytes
  have hr := B.returns
  have hlocks := B.notSynchronized
  have hl := lv_entry ([.ref (g.1 + a0), .int x1]) (n := 2) (Nat.le_of_ble_eq_true rfl)
  rw [lg_entry_eq]
  generalize (lg_sl ([.ref (g.1 + a0), .int x1]) ++ List.replicate (2 - (lg_sl ([.ref (g.1 + a0), .int x1])).length) Slot.unset).toArray = ls at hl ⊢
  have hl : lv_has ls 2 [(0, .ref (g.1 + a0)), (1, .int x1)] := hl
  unfold mX12_writeNumber at hsp
  have G : hk_GG g E S n s s.heap [] := G
  refine lv_iload_n hx hb dX12_writeNumber_0 rfl (lv_at hl 1 rfl) ?_
  refine lv_bipush (v := 9) hx hb dX12_writeNumber_1 (by decide) ?_
  refine lv_icmp_le (tgt := 14) hx hb dX12_writeNumber_3 (by decide) (fun c1 => ?_) (fun c1 => ?_)
  · have hsp := hk_t c1 hsp
    refine lv_aload_n hx hb dX12_writeNumber_14 rfl (lv_at hl 0 rfl) ?_
    refine lv_bipush (v := 48) hx hb dX12_writeNumber_15 (by decide) ?_
    refine lv_iload_n hx hb dX12_writeNumber_17 rfl (lv_at hl 1 rfl) ?_
    refine lv_bipush (v := 10) hx hb dX12_writeNumber_18 (by decide) ?_
    refine lv_irem hx hb dX12_writeNumber_20 (by decide) ?_
    refine lv_iadd hx hb dX12_writeNumber_21 ?_
    obtain ⟨r2, er2, hsp⟩ := hk_b hsp
    refine hk_callVv (As := [.int (48 + (x1 - x1 / 10 * 10))]) (rest := []) F9 G h0 hkc_9 rfl (kX12_write l g E F n S a0 (48 + (x1 - x1 / 10 * 10)) r2 h0 er2) qv_RX12_402 ⟨rfl, rfl, (Nat.le_of_ble_eq_true rfl), (Nat.le_of_ble_eq_true rfl)⟩ rfl hl.1 rfl (Nat.le_of_ble_eq_true rfl) ⟨Nat.zero_le _, Nat.zero_le _⟩ dX12_writeNumber_22 (fun H locs G => ?_)
    obtain rfl := hk_s hsp
    exact W.vret hx hb hr (fun t ht hW => hk_end G ht hW) G.2.1.2.2 dX12_writeNumber_25
  · have hsp := hk_f c1 hsp
    refine lv_aload_n hx hb dX12_writeNumber_6 rfl (lv_at hl 0 rfl) ?_
    refine lv_iload_n hx hb dX12_writeNumber_7 rfl (lv_at hl 1 rfl) ?_
    refine lv_bipush (v := 10) hx hb dX12_writeNumber_8 (by decide) ?_
    refine lv_idiv hx hb dX12_writeNumber_10 (by decide) ?_
    obtain ⟨r3, er3, hsp⟩ := hk_b hsp
    refine hk_callVv (As := [.int (x1 / 10)]) (rest := []) F9 G h0 hkc_9 rfl (hrc S a0 (x1 / 10) r3 h0 er3) qv_RX12_399 ⟨rfl, rfl, (Nat.le_of_ble_eq_true rfl), (Nat.le_of_ble_eq_true rfl)⟩ rfl hl.1 rfl (Nat.le_of_ble_eq_true rfl) ⟨Nat.zero_le _, Nat.zero_le _⟩ dX12_writeNumber_11 (fun H locs G => ?_)
    refine lv_aload_n hx hb dX12_writeNumber_14 rfl (lv_at hl 0 rfl) ?_
    refine lv_bipush (v := 48) hx hb dX12_writeNumber_15 (by decide) ?_
    refine lv_iload_n hx hb dX12_writeNumber_17 rfl (lv_at hl 1 rfl) ?_
    refine lv_bipush (v := 10) hx hb dX12_writeNumber_18 (by decide) ?_
    refine lv_irem hx hb dX12_writeNumber_20 (by decide) ?_
    refine lv_iadd hx hb dX12_writeNumber_21 ?_
    obtain ⟨r4, er4, hsp⟩ := hk_b hsp
    refine hk_callVv (As := [.int (48 + (x1 - x1 / 10 * 10))]) (rest := []) F9 G h0 hkc_9 rfl (kX12_write l g E F n r3 a0 (48 + (x1 - x1 / 10 * 10)) r4 h0 er4) qv_RX12_402 ⟨rfl, rfl, (Nat.le_of_ble_eq_true rfl), (Nat.le_of_ble_eq_true rfl)⟩ rfl hl.1 rfl (Nat.le_of_ble_eq_true rfl) ⟨Nat.zero_le _, Nat.zero_le _⟩ dX12_writeNumber_22 (fun H locs G => ?_)
    obtain rfl := hk_s hsp
    exact W.vret hx hb hr (fun t ht hW => hk_end G ht hW) G.2.1.2.2 dX12_writeNumber_25
def mX12_wN0 (E : hk_E) (F : Nat) (S : hk_S) (a0 : Nat) (x1 : Int32) : Option (hk_S) := mX12_writeNumber E F (fun _ _ _ => none) S a0 x1
theorem kX12_wN0 (l : Launch) (g : hk_G) (E : hk_E) (F n : Nat) (S : hk_S) (a0 : Nat) (x1 : Int32) (o : hk_S) (h0 : E.2.1 a0 = 10) (hsp : mX12_wN0 E F S a0 x1 = some o) : Met l yX12_writeNumber (hk_ws yX12_writeNumber cX12_writeNumber 2 (Option.none : Option Jvm.ClassFile.FieldType)) ({ frames := 1, cells := 0, slots := 0, locals := 21 }) (hk_Pc g E S n [.ref (g.1 + a0), .int x1]) (hk_Q g E o n none) 0 0 (hk_A g) := kX12_writeNumber_X12_wN0 l g E F n (fun _ _ _ => none) (fun _ _ _ _ _ h => nomatch h) S a0 x1 o h0 hsp
set_option maxHeartbeats 4000000 in
set_option maxRecDepth 100000 in
theorem kX12_writeNumber_X12_wN1 (l : Launch) (g : hk_G) (E : hk_E) (F n : Nat) (rc : hk_S → Nat → Int32 → Option (hk_S)) (hrc : ∀ (S : hk_S) (a0 : Nat) (x1 : Int32) (o : hk_S), E.2.1 a0 = 10 → rc S a0 x1 = some o → Met l yX12_writeNumber (hk_ws yX12_writeNumber cX12_writeNumber 2 (Option.none : Option Jvm.ClassFile.FieldType)) ({ frames := 1, cells := 0, slots := 0, locals := 21 }) (hk_Pc g E S n [.ref (g.1 + a0), .int x1]) (hk_Q g E o n none) 0 0 (hk_A g)) (S : hk_S) (a0 : Nat) (x1 : Int32) (o : hk_S) (h0 : E.2.1 a0 = 10) (hsp : mX12_writeNumber E F rc S a0 x1 = some o) : Met l yX12_writeNumber (hk_ws yX12_writeNumber cX12_writeNumber 2 (Option.none : Option Jvm.ClassFile.FieldType)) ({ frames := 2, cells := 0, slots := 0, locals := 42 }) (hk_Pc g E S n [.ref (g.1 + a0), .int x1]) (hk_Q g E o n none) 0 0 (hk_A g) := by
  refine Met.ofW (cc := cX12_writeNumber) (maxL := 2) (ret := (Option.none : Option Jvm.ClassFile.FieldType)) (by decide) rfl ?_
  intro p e s m args below meth c s₁ B hml hv
  obtain ⟨rfl, G⟩ := hk_begin hv
  have F9 : CallFix p m c cX12_writeNumber 2 s [.ref (g.1 + a0), .int x1].toArray hk_W RX12 := ⟨B.exec, B.bytes, hml, findClass_of_methodNamed B.named, fun w h => atoms_spec (ws := hk_ws yX12_writeNumber cX12_writeNumber 2 (Option.none : Option Jvm.ClassFile.FieldType)) B.pre w (hk_in h)⟩
  have hx := B.exec
  have hb := B.bytes
  have hr := B.returns
  have hlocks := B.notSynchronized
  have hl := lv_entry ([.ref (g.1 + a0), .int x1]) (n := 2) (Nat.le_of_ble_eq_true rfl)
  rw [lg_entry_eq]
  generalize (lg_sl ([.ref (g.1 + a0), .int x1]) ++ List.replicate (2 - (lg_sl ([.ref (g.1 + a0), .int x1])).length) Slot.unset).toArray = ls at hl ⊢
  have hl : lv_has ls 2 [(0, .ref (g.1 + a0)), (1, .int x1)] := hl
  unfold mX12_writeNumber at hsp
  have G : hk_GG g E S n s s.heap [] := G
  refine lv_iload_n hx hb dX12_writeNumber_0 rfl (lv_at hl 1 rfl) ?_
  refine lv_bipush (v := 9) hx hb dX12_writeNumber_1 (by decide) ?_
  refine lv_icmp_le (tgt := 14) hx hb dX12_writeNumber_3 (by decide) (fun c1 => ?_) (fun c1 => ?_)
  · have hsp := hk_t c1 hsp
    refine lv_aload_n hx hb dX12_writeNumber_14 rfl (lv_at hl 0 rfl) ?_
    refine lv_bipush (v := 48) hx hb dX12_writeNumber_15 (by decide) ?_
    refine lv_iload_n hx hb dX12_writeNumber_17 rfl (lv_at hl 1 rfl) ?_
    refine lv_bipush (v := 10) hx hb dX12_writeNumber_18 (by decide) ?_
    refine lv_irem hx hb dX12_writeNumber_20 (by decide) ?_
    refine lv_iadd hx hb dX12_writeNumber_21 ?_
    obtain ⟨r2, er2, hsp⟩ := hk_b hsp
    refine hk_callVv (As := [.int (48 + (x1 - x1 / 10 * 10))]) (rest := []) F9 G h0 hkc_9 rfl (kX12_write l g E F n S a0 (48 + (x1 - x1 / 10 * 10)) r2 h0 er2) qv_RX12_402 ⟨rfl, rfl, (Nat.le_of_ble_eq_true rfl), (Nat.le_of_ble_eq_true rfl)⟩ rfl hl.1 rfl (Nat.le_of_ble_eq_true rfl) ⟨Nat.zero_le _, Nat.zero_le _⟩ dX12_writeNumber_22 (fun H locs G => ?_)
    obtain rfl := hk_s hsp
    exact W.vret hx hb hr (fun t ht hW => hk_end G ht hW) G.2.1.2.2 dX12_writeNumber_25
  · have hsp := hk_f c1 hsp
    refine lv_aload_n hx hb dX12_writeNumber_6 rfl (lv_at hl 0 rfl) ?_
    refine lv_iload_n hx hb dX12_writeNumber_7 rfl (lv_at hl 1 rfl) ?_
    refine lv_bipush (v := 10) hx hb dX12_writeNumber_8 (by decide) ?_
    refine lv_idiv hx hb dX12_writeNumber_10 (by decide) ?_
    obtain ⟨r3, er3, hsp⟩ := hk_b hsp
    refine hk_callVv (As := [.int (x1 / 10)]) (rest := []) F9 G h0 hkc_9 rfl (hrc S a0 (x1 / 10) r3 h0 er3) qv_RX12_399 ⟨rfl, rfl, (Nat.le_of_ble_eq_true rfl), (Nat.le_of_ble_eq_true rfl)⟩ rfl hl.1 rfl (Nat.le_of_ble_eq_true rfl) ⟨Nat.zero_le _, Nat.zero_le _⟩ dX12_writeNumber_11 (fun H locs G => ?_)
    refine lv_aload_n hx hb dX12_writeNumber_14 rfl (lv_at hl 0 rfl) ?_
    refine lv_bipush (v := 48) hx hb dX12_writeNumber_15 (by decide) ?_
    refine lv_iload_n hx hb dX12_writeNumber_17 rfl (lv_at hl 1 rfl) ?_
    refine lv_bipush (v := 10) hx hb dX12_writeNumber_18 (by decide) ?_
    refine lv_irem hx hb dX12_writeNumber_20 (by decide) ?_
    refine lv_iadd hx hb dX12_writeNumber_21 ?_
    obtain ⟨r4, er4, hsp⟩ := hk_b hsp
    refine hk_callVv (As := [.int (48 + (x1 - x1 / 10 * 10))]) (rest := []) F9 G h0 hkc_9 rfl (kX12_write l g E F n r3 a0 (48 + (x1 - x1 / 10 * 10)) r4 h0 er4) qv_RX12_402 ⟨rfl, rfl, (Nat.le_of_ble_eq_true rfl), (Nat.le_of_ble_eq_true rfl)⟩ rfl hl.1 rfl (Nat.le_of_ble_eq_true rfl) ⟨Nat.zero_le _, Nat.zero_le _⟩ dX12_writeNumber_22 (fun H locs G => ?_)
    obtain rfl := hk_s hsp
    exact W.vret hx hb hr (fun t ht hW => hk_end G ht hW) G.2.1.2.2 dX12_writeNumber_25
def mX12_wN1 (E : hk_E) (F : Nat) (S : hk_S) (a0 : Nat) (x1 : Int32) : Option (hk_S) := mX12_writeNumber E F (mX12_wN0 E F) S a0 x1
theorem kX12_wN1 (l : Launch) (g : hk_G) (E : hk_E) (F n : Nat) (S : hk_S) (a0 : Nat) (x1 : Int32) (o : hk_S) (h0 : E.2.1 a0 = 10) (hsp : mX12_wN1 E F S a0 x1 = some o) : Met l yX12_writeNumber (hk_ws yX12_writeNumber cX12_writeNumber 2 (Option.none : Option Jvm.ClassFile.FieldType)) ({ frames := 2, cells := 0, slots := 0, locals := 42 }) (hk_Pc g E S n [.ref (g.1 + a0), .int x1]) (hk_Q g E o n none) 0 0 (hk_A g) := kX12_writeNumber_X12_wN1 l g E F n (mX12_wN0 E F) (fun S a0 x1 o h0 h => kX12_wN0 l g E F n S a0 x1 o h0 h) S a0 x1 o h0 hsp
set_option maxHeartbeats 4000000 in
set_option maxRecDepth 100000 in
theorem kX12_writeNumber_X12_wN2 (l : Launch) (g : hk_G) (E : hk_E) (F n : Nat) (rc : hk_S → Nat → Int32 → Option (hk_S)) (hrc : ∀ (S : hk_S) (a0 : Nat) (x1 : Int32) (o : hk_S), E.2.1 a0 = 10 → rc S a0 x1 = some o → Met l yX12_writeNumber (hk_ws yX12_writeNumber cX12_writeNumber 2 (Option.none : Option Jvm.ClassFile.FieldType)) ({ frames := 2, cells := 0, slots := 0, locals := 42 }) (hk_Pc g E S n [.ref (g.1 + a0), .int x1]) (hk_Q g E o n none) 0 0 (hk_A g)) (S : hk_S) (a0 : Nat) (x1 : Int32) (o : hk_S) (h0 : E.2.1 a0 = 10) (hsp : mX12_writeNumber E F rc S a0 x1 = some o) : Met l yX12_writeNumber (hk_ws yX12_writeNumber cX12_writeNumber 2 (Option.none : Option Jvm.ClassFile.FieldType)) ({ frames := 3, cells := 0, slots := 0, locals := 63 }) (hk_Pc g E S n [.ref (g.1 + a0), .int x1]) (hk_Q g E o n none) 0 0 (hk_A g) := by
  refine Met.ofW (cc := cX12_writeNumber) (maxL := 2) (ret := (Option.none : Option Jvm.ClassFile.FieldType)) (by decide) rfl ?_
  intro p e s m args below meth c s₁ B hml hv
  obtain ⟨rfl, G⟩ := hk_begin hv
  have F9 : CallFix p m c cX12_writeNumber 2 s [.ref (g.1 + a0), .int x1].toArray hk_W RX12 := ⟨B.exec, B.bytes, hml, findClass_of_methodNamed B.named, fun w h => atoms_spec (ws := hk_ws yX12_writeNumber cX12_writeNumber 2 (Option.none : Option Jvm.ClassFile.FieldType)) B.pre w (hk_in h)⟩
  have hx := B.exec
  have hb := B.bytes
  have hr := B.returns
  have hlocks := B.notSynchronized
  have hl := lv_entry ([.ref (g.1 + a0), .int x1]) (n := 2) (Nat.le_of_ble_eq_true rfl)
  rw [lg_entry_eq]
  generalize (lg_sl ([.ref (g.1 + a0), .int x1]) ++ List.replicate (2 - (lg_sl ([.ref (g.1 + a0), .int x1])).length) Slot.unset).toArray = ls at hl ⊢
  have hl : lv_has ls 2 [(0, .ref (g.1 + a0)), (1, .int x1)] := hl
  unfold mX12_writeNumber at hsp
  have G : hk_GG g E S n s s.heap [] := G
  refine lv_iload_n hx hb dX12_writeNumber_0 rfl (lv_at hl 1 rfl) ?_
  refine lv_bipush (v := 9) hx hb dX12_writeNumber_1 (by decide) ?_
  refine lv_icmp_le (tgt := 14) hx hb dX12_writeNumber_3 (by decide) (fun c1 => ?_) (fun c1 => ?_)
  · have hsp := hk_t c1 hsp
    refine lv_aload_n hx hb dX12_writeNumber_14 rfl (lv_at hl 0 rfl) ?_
    refine lv_bipush (v := 48) hx hb dX12_writeNumber_15 (by decide) ?_
    refine lv_iload_n hx hb dX12_writeNumber_17 rfl (lv_at hl 1 rfl) ?_
    refine lv_bipush (v := 10) hx hb dX12_writeNumber_18 (by decide) ?_
    refine lv_irem hx hb dX12_writeNumber_20 (by decide) ?_
    refine lv_iadd hx hb dX12_writeNumber_21 ?_
    obtain ⟨r2, er2, hsp⟩ := hk_b hsp
    refine hk_callVv (As := [.int (48 + (x1 - x1 / 10 * 10))]) (rest := []) F9 G h0 hkc_9 rfl (kX12_write l g E F n S a0 (48 + (x1 - x1 / 10 * 10)) r2 h0 er2) qv_RX12_402 ⟨rfl, rfl, (Nat.le_of_ble_eq_true rfl), (Nat.le_of_ble_eq_true rfl)⟩ rfl hl.1 rfl (Nat.le_of_ble_eq_true rfl) ⟨Nat.zero_le _, Nat.zero_le _⟩ dX12_writeNumber_22 (fun H locs G => ?_)
    obtain rfl := hk_s hsp
    exact W.vret hx hb hr (fun t ht hW => hk_end G ht hW) G.2.1.2.2 dX12_writeNumber_25
  · have hsp := hk_f c1 hsp
    refine lv_aload_n hx hb dX12_writeNumber_6 rfl (lv_at hl 0 rfl) ?_
    refine lv_iload_n hx hb dX12_writeNumber_7 rfl (lv_at hl 1 rfl) ?_
    refine lv_bipush (v := 10) hx hb dX12_writeNumber_8 (by decide) ?_
    refine lv_idiv hx hb dX12_writeNumber_10 (by decide) ?_
    obtain ⟨r3, er3, hsp⟩ := hk_b hsp
    refine hk_callVv (As := [.int (x1 / 10)]) (rest := []) F9 G h0 hkc_9 rfl (hrc S a0 (x1 / 10) r3 h0 er3) qv_RX12_399 ⟨rfl, rfl, (Nat.le_of_ble_eq_true rfl), (Nat.le_of_ble_eq_true rfl)⟩ rfl hl.1 rfl (Nat.le_of_ble_eq_true rfl) ⟨Nat.zero_le _, Nat.zero_le _⟩ dX12_writeNumber_11 (fun H locs G => ?_)
    refine lv_aload_n hx hb dX12_writeNumber_14 rfl (lv_at hl 0 rfl) ?_
    refine lv_bipush (v := 48) hx hb dX12_writeNumber_15 (by decide) ?_
    refine lv_iload_n hx hb dX12_writeNumber_17 rfl (lv_at hl 1 rfl) ?_
    refine lv_bipush (v := 10) hx hb dX12_writeNumber_18 (by decide) ?_
    refine lv_irem hx hb dX12_writeNumber_20 (by decide) ?_
    refine lv_iadd hx hb dX12_writeNumber_21 ?_
    obtain ⟨r4, er4, hsp⟩ := hk_b hsp
    refine hk_callVv (As := [.int (48 + (x1 - x1 / 10 * 10))]) (rest := []) F9 G h0 hkc_9 rfl (kX12_write l g E F n r3 a0 (48 + (x1 - x1 / 10 * 10)) r4 h0 er4) qv_RX12_402 ⟨rfl, rfl, (Nat.le_of_ble_eq_true rfl), (Nat.le_of_ble_eq_true rfl)⟩ rfl hl.1 rfl (Nat.le_of_ble_eq_true rfl) ⟨Nat.zero_le _, Nat.zero_le _⟩ dX12_writeNumber_22 (fun H locs G => ?_)
    obtain rfl := hk_s hsp
    exact W.vret hx hb hr (fun t ht hW => hk_end G ht hW) G.2.1.2.2 dX12_writeNumber_25
def mX12_wN2 (E : hk_E) (F : Nat) (S : hk_S) (a0 : Nat) (x1 : Int32) : Option (hk_S) := mX12_writeNumber E F (mX12_wN1 E F) S a0 x1
theorem kX12_wN2 (l : Launch) (g : hk_G) (E : hk_E) (F n : Nat) (S : hk_S) (a0 : Nat) (x1 : Int32) (o : hk_S) (h0 : E.2.1 a0 = 10) (hsp : mX12_wN2 E F S a0 x1 = some o) : Met l yX12_writeNumber (hk_ws yX12_writeNumber cX12_writeNumber 2 (Option.none : Option Jvm.ClassFile.FieldType)) ({ frames := 3, cells := 0, slots := 0, locals := 63 }) (hk_Pc g E S n [.ref (g.1 + a0), .int x1]) (hk_Q g E o n none) 0 0 (hk_A g) := kX12_writeNumber_X12_wN2 l g E F n (mX12_wN1 E F) (fun S a0 x1 o h0 h => kX12_wN1 l g E F n S a0 x1 o h0 h) S a0 x1 o h0 hsp
def mX12_readsAll_34 (E : hk_E) (F : Nat) (a0 : Nat)  (k : hk_S → Option (Int32 × hk_S)) : Nat → hk_S → Option (Int32 × hk_S)
  | 0 => fun _ => none
  | f + 1 => fun S  =>
    if (S a0 16) = 0 then (k S ) else ((mX12_rC0 E F S a0 0).bind (fun r8 => if ¬ r8.1 = 0 then ((mX12_next E F r8.2 a0).bind (fun r10 => mX12_readsAll_34 E F a0 k f r10 )) else (some (0, r8.2))))
def mX12_readsAll (E : hk_E) (F : Nat) (S : hk_S) (a0 : Nat) : Option (Int32 × hk_S) :=
(mX12_says E F S a0 12).bind (fun r1 => if ¬ r1.1 = 0 then ((mX12_next E F r1.2 a0).bind (fun r3 => (mX12_is E F r3 a0 1).bind (fun r4 => if ¬ r4.1 = 0 then ((mX12_next E F r4.2 a0).bind (fun r6 => mX12_readsAll_34 E F a0  (fun S11  => some (1, S11)) F r6 )) else (some (0, r4.2))))) else ((mX12_fail E F r1.2 a0 1).bind (fun r12 => if r12.1 = 0 ∨ r12.1 = 1 then (some (r12.1, r12.2)) else none)))
set_option maxHeartbeats 4000000 in
set_option maxRecDepth 100000 in
theorem kX12_readsAll (l : Launch) (g : hk_G) (E : hk_E) (F n : Nat) (S : hk_S) (a0 : Nat) (o : Int32 × hk_S) (h0 : E.2.1 a0 = 10) (hsp : mX12_readsAll E F S a0 = some o) : Met l yX12_readsAll (hk_ws yX12_readsAll cX12_readsAll 1 (Option.some Jvm.ClassFile.FieldType.boolean)) ({ frames := 14, cells := 0, slots := 0, locals := 310 }) (hk_Pc g E S n [.ref (g.1 + a0)]) (hk_Q g E o.2 n (some (.int o.1))) 0 0 (hk_A g) := by
  refine Met.ofW (cc := cX12_readsAll) (maxL := 1) (ret := (Option.some Jvm.ClassFile.FieldType.boolean)) (by decide) rfl ?_
  intro p e s m args below meth c s₁ B hml hv
  obtain ⟨rfl, G⟩ := hk_begin hv
  have F9 : CallFix p m c cX12_readsAll 1 s [.ref (g.1 + a0)].toArray hk_W RX12 := ⟨B.exec, B.bytes, hml, findClass_of_methodNamed B.named, fun w h => atoms_spec (ws := hk_ws yX12_readsAll cX12_readsAll 1 (Option.some Jvm.ClassFile.FieldType.boolean)) B.pre w (hk_in h)⟩
  have hx := B.exec
  have hb := B.bytes
  have hr := B.returns
  have hlocks := B.notSynchronized
  have hl := lv_entry ([.ref (g.1 + a0)]) (n := 1) (Nat.le_of_ble_eq_true rfl)
  rw [lg_entry_eq]
  generalize (lg_sl ([.ref (g.1 + a0)]) ++ List.replicate (1 - (lg_sl ([.ref (g.1 + a0)])).length) Slot.unset).toArray = ls at hl ⊢
  have hl : lv_has ls 1 [(0, .ref (g.1 + a0))] := hl
  unfold mX12_readsAll at hsp
  have G : hk_GG g E S n s s.heap [] := G
  have L_34 : ∀   (k : hk_S → Option (Int32 × hk_S)) (_ : ∀ (S : hk_S) (H : Heap) (locs : List Loc) (ls : Array Slot), k S  = some o → hk_GG g E S n s H locs → lv_has ls 1 [(0, .ref (g.1 + a0))] → W p l e (headSpec (hk_ws yX12_readsAll cX12_readsAll 1 (Option.some Jvm.ClassFile.FieldType.boolean)) ({ frames := 14, cells := 0, slots := 0, locals := 310 })).room s m [.ref (g.1 + a0)].toArray below meth c H locs 0 0 (MQ below (hk_Q g E o.2 n (some (.int o.1))) [.ref (g.1 + a0)].toArray s 0 0 (hk_A g)) (F0 m 58 ls [])) (f : Nat) (S : hk_S) (H : Heap) (locs : List Loc) (ls : Array Slot), mX12_readsAll_34 E F a0 k f S  = some o → hk_GG g E S n s H locs → lv_has ls 1 [(0, .ref (g.1 + a0))] → W p l e (headSpec (hk_ws yX12_readsAll cX12_readsAll 1 (Option.some Jvm.ClassFile.FieldType.boolean)) ({ frames := 14, cells := 0, slots := 0, locals := 310 })).room s m [.ref (g.1 + a0)].toArray below meth c H locs 0 0 (MQ below (hk_Q g E o.2 n (some (.int o.1))) [.ref (g.1 + a0)].toArray s 0 0 (hk_A g)) (F0 m 34 ls []) := by
    intro   k hk f
    induction f with
    | zero =>
      intro S  H locs ls hsp
      exact nomatch hsp
    | succ f ih =>
      intro S  H locs ls hsp G hl
      rw [mX12_readsAll_34] at hsp
      refine lv_aload_n hx hb dX12_readsAll_34 rfl (lv_at hl 0 rfl) ?_
      refine hk_getI F9 G h0 hkc_9 (k := 16) (by decide) qw_1600 rfl dX12_readsAll_35 ?_
      refine lv_if_eq (tgt := 58) hx hb dX12_readsAll_38 (by decide) (fun c7 => ?_) (fun c7 => ?_)
      · have hsp := hk_t c7 hsp
        exact hk S  _ _ _ hsp G (lv_sub hl [0] rfl)
      · have hsp := hk_f c7 hsp
        refine lv_aload_n hx hb dX12_readsAll_41 rfl (lv_at hl 0 rfl) ?_
        refine lv_iconst (v := 0) hx hb dX12_readsAll_42 (by decide) ?_
        obtain ⟨r8, er8, hsp⟩ := hk_b hsp
        refine hk_callVi (As := [.int 0]) (rest := []) F9 G h0 hkc_9 rfl (kX12_rC0 l g E F n S a0 0 r8 h0 er8) qv_RX12_234 ⟨rfl, rfl, (Nat.le_of_ble_eq_true rfl), (Nat.le_of_ble_eq_true rfl)⟩ rfl hl.1 rfl (Nat.le_of_ble_eq_true rfl) ⟨Nat.zero_le _, Nat.zero_le _⟩ dX12_readsAll_43 (fun H locs G => ?_)
        refine lv_if_ne (tgt := 51) hx hb dX12_readsAll_46 (by decide) (fun c9 => ?_) (fun c9 => ?_)
        · have hsp := hk_t c9 hsp
          refine lv_aload_n hx hb dX12_readsAll_51 rfl (lv_at hl 0 rfl) ?_
          obtain ⟨r10, er10, hsp⟩ := hk_b hsp
          refine hk_callVv (As := []) (rest := []) F9 G h0 hkc_9 rfl (kX12_next l g E F n r8.2 a0 r10 h0 er10) qv_RX12_174 ⟨rfl, rfl, (Nat.le_of_ble_eq_true rfl), (Nat.le_of_ble_eq_true rfl)⟩ rfl hl.1 rfl (Nat.le_of_ble_eq_true rfl) ⟨Nat.zero_le _, Nat.zero_le _⟩ dX12_readsAll_52 (fun H locs G => ?_)
          refine lv_goto (tgt := 34) hx hb dX12_readsAll_55 (by decide) ?_
          exact ih r10  _ _ _ hsp G (lv_sub hl [0] rfl)
        · have hsp := hk_g c9 hsp
          refine lv_iconst (v := 0) hx hb dX12_readsAll_49 (by decide) ?_
          obtain rfl := hk_s hsp
          exact W.zret (v := 0) hx hb hr (hk_z (by decide)).1 (fun t ht hW => hk_end G ht hW) G.2.1.2.2 dX12_readsAll_50
  refine lv_aload_n hx hb dX12_readsAll_0 rfl (lv_at hl 0 rfl) ?_
  refine hk_ldcw F9 G 12 rfl rfl rfl dX12_readsAll_1 ?_
  obtain ⟨r1, er1, hsp⟩ := hk_b hsp
  refine hk_callVi (As := [.ref (g.2.2.2 0 12)]) (rest := []) F9 G h0 hkc_9 rfl (kX12_says l g E F n S a0 12 r1 h0 (by decide) er1) qv_RX12_180 ⟨rfl, rfl, (Nat.le_of_ble_eq_true rfl), (Nat.le_of_ble_eq_true rfl)⟩ rfl hl.1 rfl (Nat.le_of_ble_eq_true rfl) ⟨Nat.zero_le _, Nat.zero_le _⟩ dX12_readsAll_4 (fun H locs G => ?_)
  refine lv_if_ne (tgt := 16) hx hb dX12_readsAll_7 (by decide) (fun c2 => ?_) (fun c2 => ?_)
  · have hsp := hk_t c2 hsp
    refine lv_aload_n hx hb dX12_readsAll_16 rfl (lv_at hl 0 rfl) ?_
    obtain ⟨r3, er3, hsp⟩ := hk_b hsp
    refine hk_callVv (As := []) (rest := []) F9 G h0 hkc_9 rfl (kX12_next l g E F n r1.2 a0 r3 h0 er3) qv_RX12_174 ⟨rfl, rfl, (Nat.le_of_ble_eq_true rfl), (Nat.le_of_ble_eq_true rfl)⟩ rfl hl.1 rfl (Nat.le_of_ble_eq_true rfl) ⟨Nat.zero_le _, Nat.zero_le _⟩ dX12_readsAll_17 (fun H locs G => ?_)
    refine lv_aload_n hx hb dX12_readsAll_20 rfl (lv_at hl 0 rfl) ?_
    refine lv_iconst (v := 1) hx hb dX12_readsAll_21 (by decide) ?_
    obtain ⟨r4, er4, hsp⟩ := hk_b hsp
    refine hk_callVi (As := [.int 1]) (rest := []) F9 G h0 hkc_9 rfl (kX12_is l g E F n r3 a0 1 r4 h0 er4) qv_RX12_171 ⟨rfl, rfl, (Nat.le_of_ble_eq_true rfl), (Nat.le_of_ble_eq_true rfl)⟩ rfl hl.1 rfl (Nat.le_of_ble_eq_true rfl) ⟨Nat.zero_le _, Nat.zero_le _⟩ dX12_readsAll_22 (fun H locs G => ?_)
    refine lv_if_ne (tgt := 30) hx hb dX12_readsAll_25 (by decide) (fun c5 => ?_) (fun c5 => ?_)
    · have hsp := hk_t c5 hsp
      refine lv_aload_n hx hb dX12_readsAll_30 rfl (lv_at hl 0 rfl) ?_
      obtain ⟨r6, er6, hsp⟩ := hk_b hsp
      refine hk_callVv (As := []) (rest := []) F9 G h0 hkc_9 rfl (kX12_next l g E F n r4.2 a0 r6 h0 er6) qv_RX12_174 ⟨rfl, rfl, (Nat.le_of_ble_eq_true rfl), (Nat.le_of_ble_eq_true rfl)⟩ rfl hl.1 rfl (Nat.le_of_ble_eq_true rfl) ⟨Nat.zero_le _, Nat.zero_le _⟩ dX12_readsAll_31 (fun H locs G => ?_)
      refine L_34   _ ?_ F r6  _ _ _ hsp G (lv_sub hl [0] rfl)
      intro S11  H locs ls hsp G hl
      refine lv_iconst (v := 1) hx hb dX12_readsAll_58 (by decide) ?_
      obtain rfl := hk_s hsp
      exact W.zret (v := 1) hx hb hr (hk_z (by decide)).1 (fun t ht hW => hk_end G ht hW) G.2.1.2.2 dX12_readsAll_59
    · have hsp := hk_g c5 hsp
      refine lv_iconst (v := 0) hx hb dX12_readsAll_28 (by decide) ?_
      obtain rfl := hk_s hsp
      exact W.zret (v := 0) hx hb hr (hk_z (by decide)).1 (fun t ht hW => hk_end G ht hW) G.2.1.2.2 dX12_readsAll_29
  · have hsp := hk_g c2 hsp
    refine lv_aload_n hx hb dX12_readsAll_10 rfl (lv_at hl 0 rfl) ?_
    refine lv_iconst (v := 1) hx hb dX12_readsAll_11 (by decide) ?_
    obtain ⟨r12, er12, hsp⟩ := hk_b hsp
    refine hk_callVi (As := [.int 1]) (rest := []) F9 G h0 hkc_9 rfl (kX12_fail l g E F n r1.2 a0 1 r12 h0 er12) qv_RX12_168 ⟨rfl, rfl, (Nat.le_of_ble_eq_true rfl), (Nat.le_of_ble_eq_true rfl)⟩ rfl hl.1 rfl (Nat.le_of_ble_eq_true rfl) ⟨Nat.zero_le _, Nat.zero_le _⟩ dX12_readsAll_12 (fun H locs G => ?_)
    obtain ⟨q13, hsp⟩ := hk_k hsp
    obtain rfl := hk_s hsp
    exact W.zret (v := r12.1) hx hb hr (hk_z q13).1 (fun t ht hW => hk_end G ht hW) G.2.1.2.2 dX12_readsAll_15
def mX12_parses_2 (E : hk_E) (F : Nat) (a0 : Nat)  (k : hk_S → Int32 → Option (Int32 × hk_S)) : Nat → hk_S → Int32 → Option (Int32 × hk_S)
  | 0 => fun _ _ => none
  | f + 1 => fun S z1 =>
    if 107 ≤ z1 then (k S z1) else ((E.2.2.2 a0 0).bind (fun r3 => if E.2.1 r3 = 13 then (if hk_ok z1 (E.2.2.1 r3) then (hk_let (hk_up S r3 ((z1).toNatClampNeg) 0) (fun S5 => hk_let (z1 + 1) (fun y6 => mX12_parses_2 E F a0 k f S5 y6))) else none) else none))
def mX12_parses (E : hk_E) (F : Nat) (S : hk_S) (a0 : Nat) : Option (Int32 × hk_S) :=
mX12_parses_2 E F a0  (fun S7 z8 => (E.2.2.2 a0 0).bind (fun r9 => if E.2.1 r9 = 13 then (if hk_ok 2 (E.2.2.1 r9) then (hk_let (hk_up S7 r9 2 60) (fun S11 => if hk_ok 3 (E.2.2.1 r9) then (hk_let (hk_up S11 r9 3 580) (fun S13 => if hk_ok 4 (E.2.2.1 r9) then (hk_let (hk_up S13 r9 4 20) (fun S15 => hk_let (hk_up S15 a0 11 0) (fun S16 => hk_let (hk_up S16 a0 12 (-1)) (fun S17 => hk_let (hk_up S17 a0 20 0) (fun S18 => hk_let (hk_up S18 a0 18 0) (fun S19 => (mX12_next E F S19 a0).bind (fun r20 => (mX12_readsAll E F r20 a0).bind (fun r21 => if r21.1 = 0 ∨ r21.1 = 1 then (some (r21.1, r21.2)) else none)))))))) else none)) else none)) else none) else none)) F S 0
set_option maxHeartbeats 4000000 in
set_option maxRecDepth 100000 in
theorem kX12_parses (l : Launch) (g : hk_G) (E : hk_E) (F n : Nat) (S : hk_S) (a0 : Nat) (o : Int32 × hk_S) (h0 : E.2.1 a0 = 10) (hsp : mX12_parses E F S a0 = some o) : Met l yX12_parses (hk_ws yX12_parses cX12_parses 2 (Option.some Jvm.ClassFile.FieldType.boolean)) ({ frames := 15, cells := 0, slots := 0, locals := 330 }) (hk_Pc g E S n [.ref (g.1 + a0)]) (hk_Q g E o.2 n (some (.int o.1))) 0 0 (hk_A g) := by
  refine Met.ofW (cc := cX12_parses) (maxL := 2) (ret := (Option.some Jvm.ClassFile.FieldType.boolean)) (by decide) rfl ?_
  intro p e s m args below meth c s₁ B hml hv
  obtain ⟨rfl, G⟩ := hk_begin hv
  have F9 : CallFix p m c cX12_parses 2 s [.ref (g.1 + a0)].toArray hk_W RX12 := ⟨B.exec, B.bytes, hml, findClass_of_methodNamed B.named, fun w h => atoms_spec (ws := hk_ws yX12_parses cX12_parses 2 (Option.some Jvm.ClassFile.FieldType.boolean)) B.pre w (hk_in h)⟩
  have hx := B.exec
  have hb := B.bytes
  have hr := B.returns
  have hlocks := B.notSynchronized
  have hl := lv_entry ([.ref (g.1 + a0)]) (n := 2) (Nat.le_of_ble_eq_true rfl)
  rw [lg_entry_eq]
  generalize (lg_sl ([.ref (g.1 + a0)]) ++ List.replicate (2 - (lg_sl ([.ref (g.1 + a0)])).length) Slot.unset).toArray = ls at hl ⊢
  have hl : lv_has ls 2 [(0, .ref (g.1 + a0))] := hl
  unfold mX12_parses at hsp
  have G : hk_GG g E S n s s.heap [] := G
  have L_2 : ∀   (k : hk_S → Int32 → Option (Int32 × hk_S)) (_ : ∀ (S : hk_S) (z1 : Int32) (H : Heap) (locs : List Loc) (ls : Array Slot), k S z1 = some o → hk_GG g E S n s H locs → lv_has ls 2 [(0, .ref (g.1 + a0)), (1, .int z1)] → W p l e (headSpec (hk_ws yX12_parses cX12_parses 2 (Option.some Jvm.ClassFile.FieldType.boolean)) ({ frames := 15, cells := 0, slots := 0, locals := 330 })).room s m [.ref (g.1 + a0)].toArray below meth c H locs 0 0 (MQ below (hk_Q g E o.2 n (some (.int o.1))) [.ref (g.1 + a0)].toArray s 0 0 (hk_A g)) (F0 m 21 ls [])) (f : Nat) (S : hk_S) (z1 : Int32) (H : Heap) (locs : List Loc) (ls : Array Slot), mX12_parses_2 E F a0 k f S z1 = some o → hk_GG g E S n s H locs → lv_has ls 2 [(0, .ref (g.1 + a0)), (1, .int z1)] → W p l e (headSpec (hk_ws yX12_parses cX12_parses 2 (Option.some Jvm.ClassFile.FieldType.boolean)) ({ frames := 15, cells := 0, slots := 0, locals := 330 })).room s m [.ref (g.1 + a0)].toArray below meth c H locs 0 0 (MQ below (hk_Q g E o.2 n (some (.int o.1))) [.ref (g.1 + a0)].toArray s 0 0 (hk_A g)) (F0 m 2 ls []) := by
    intro   k hk f
    induction f with
    | zero =>
      intro S z1 H locs ls hsp
      exact nomatch hsp
    | succ f ih =>
      intro S z1 H locs ls hsp G hl
      rw [mX12_parses_2] at hsp
      refine lv_iload_n hx hb dX12_parses_2 rfl (lv_at hl 1 rfl) ?_
      refine lv_bipush (v := 107) hx hb dX12_parses_3 (by decide) ?_
      refine lv_icmp_ge (tgt := 21) hx hb dX12_parses_5 (by decide) (fun c2 => ?_) (fun c2 => ?_)
      · have hsp := hk_t c2 hsp
        exact hk S z1 _ _ _ hsp G (lv_sub hl [0, 1] rfl)
      · have hsp := hk_f c2 hsp
        refine lv_aload_n hx hb dX12_parses_8 rfl (lv_at hl 0 rfl) ?_
        obtain ⟨r3, er3, hsp⟩ := hk_b hsp
        obtain ⟨kr3, hsp⟩ := hk_k hsp
        refine hk_getR F9 G h0 hkc_9 (k := 0) (by decide) qw_1584 rfl er3 dX12_parses_9 ?_
        refine lv_iload_n hx hb dX12_parses_12 rfl (lv_at hl 1 rfl) ?_
        refine lv_iconst (v := 0) hx hb dX12_parses_13 (by decide) ?_
        obtain ⟨q4, hsp⟩ := hk_k hsp
        obtain ⟨S5, eS5, hsp⟩ := hk_l hsp
        refine hk_iast (j := (z1).toNatClampNeg) F9 G kr3 rfl q4 rfl dX12_parses_14 (fun H locs G => ?_)
        rw [eS5] at G
        obtain ⟨y6, ey6, hsp⟩ := hk_l hsp
        refine lv_iinc (v := y6) (lv' := [(1, .int y6), (0, .ref (g.1 + a0))]) hx hb dX12_parses_15 hl (k := 1) rfl (by rw [← ey6]; rfl) (by decide) rfl (fun ls hl => ?_)
        refine lv_goto (tgt := 2) hx hb dX12_parses_18 (by decide) ?_
        exact ih S5 y6 _ _ _ hsp G (lv_sub hl [1, 0] rfl)
  refine lv_iconst (v := 0) hx hb dX12_parses_0 (by decide) ?_
  refine lv_istore_n (lv' := [(1, .int 0), (0, .ref (g.1 + a0))]) hx hb dX12_parses_1 rfl hl (by decide) rfl (fun ls hl => ?_)
  refine L_2   _ ?_ F S 0 _ _ _ hsp G (lv_sub hl [1, 0] rfl)
  intro S7 z8 H locs ls hsp G hl
  refine lv_aload_n hx hb dX12_parses_21 rfl (lv_at hl 0 rfl) ?_
  obtain ⟨r9, er9, hsp⟩ := hk_b hsp
  obtain ⟨kr9, hsp⟩ := hk_k hsp
  refine hk_getR F9 G h0 hkc_9 (k := 0) (by decide) qw_1584 rfl er9 dX12_parses_22 ?_
  refine lv_iconst (v := 2) hx hb dX12_parses_25 (by decide) ?_
  refine lv_bipush (v := 60) hx hb dX12_parses_26 (by decide) ?_
  obtain ⟨q10, hsp⟩ := hk_k hsp
  obtain ⟨S11, eS11, hsp⟩ := hk_l hsp
  refine hk_iast (j := 2) F9 G kr9 rfl q10 (by decide) dX12_parses_28 (fun H locs G => ?_)
  rw [eS11] at G
  refine lv_aload_n hx hb dX12_parses_29 rfl (lv_at hl 0 rfl) ?_
  refine hk_getR F9 G h0 hkc_9 (k := 0) (by decide) qw_1584 rfl er9 dX12_parses_30 ?_
  refine lv_iconst (v := 3) hx hb dX12_parses_33 (by decide) ?_
  refine lv_sipush (v := 580) hx hb dX12_parses_34 (by decide) ?_
  obtain ⟨q12, hsp⟩ := hk_k hsp
  obtain ⟨S13, eS13, hsp⟩ := hk_l hsp
  refine hk_iast (j := 3) F9 G kr9 rfl q12 (by decide) dX12_parses_37 (fun H locs G => ?_)
  rw [eS13] at G
  refine lv_aload_n hx hb dX12_parses_38 rfl (lv_at hl 0 rfl) ?_
  refine hk_getR F9 G h0 hkc_9 (k := 0) (by decide) qw_1584 rfl er9 dX12_parses_39 ?_
  refine lv_iconst (v := 4) hx hb dX12_parses_42 (by decide) ?_
  refine lv_bipush (v := 20) hx hb dX12_parses_43 (by decide) ?_
  obtain ⟨q14, hsp⟩ := hk_k hsp
  obtain ⟨S15, eS15, hsp⟩ := hk_l hsp
  refine hk_iast (j := 4) F9 G kr9 rfl q14 (by decide) dX12_parses_45 (fun H locs G => ?_)
  rw [eS15] at G
  refine lv_aload_n hx hb dX12_parses_46 rfl (lv_at hl 0 rfl) ?_
  refine lv_iconst (v := 0) hx hb dX12_parses_47 (by decide) ?_
  obtain ⟨S16, eS16, hsp⟩ := hk_l hsp
  refine hk_putI F9 G h0 hkc_9 (k := 11) (by decide) qw_1595 rfl rfl (tyX12_ok 11 (by decide)) rfl rfl dX12_parses_48 (fun H locs G => ?_)
  rw [eS16] at G
  refine lv_aload_n hx hb dX12_parses_51 rfl (lv_at hl 0 rfl) ?_
  refine lv_iconst (v := (-1)) hx hb dX12_parses_52 (by decide) ?_
  obtain ⟨S17, eS17, hsp⟩ := hk_l hsp
  refine hk_putI F9 G h0 hkc_9 (k := 12) (by decide) qw_1596 rfl rfl (tyX12_ok 12 (by decide)) rfl rfl dX12_parses_53 (fun H locs G => ?_)
  rw [eS17] at G
  refine lv_aload_n hx hb dX12_parses_56 rfl (lv_at hl 0 rfl) ?_
  refine lv_iconst (v := 0) hx hb dX12_parses_57 (by decide) ?_
  obtain ⟨S18, eS18, hsp⟩ := hk_l hsp
  refine hk_putI F9 G h0 hkc_9 (k := 20) (by decide) qw_1604 rfl rfl (tyX12_ok 20 (by decide)) rfl rfl dX12_parses_58 (fun H locs G => ?_)
  rw [eS18] at G
  refine lv_aload_n hx hb dX12_parses_61 rfl (lv_at hl 0 rfl) ?_
  refine lv_iconst (v := 0) hx hb dX12_parses_62 (by decide) ?_
  obtain ⟨S19, eS19, hsp⟩ := hk_l hsp
  refine hk_putI F9 G h0 hkc_9 (k := 18) (by decide) qw_1602 rfl rfl (tyX12_ok 18 (by decide)) rfl rfl dX12_parses_63 (fun H locs G => ?_)
  rw [eS19] at G
  refine lv_aload_n hx hb dX12_parses_66 rfl (lv_at hl 0 rfl) ?_
  obtain ⟨r20, er20, hsp⟩ := hk_b hsp
  refine hk_callVv (As := []) (rest := []) F9 G h0 hkc_9 rfl (kX12_next l g E F n S19 a0 r20 h0 er20) qv_RX12_174 ⟨rfl, rfl, (Nat.le_of_ble_eq_true rfl), (Nat.le_of_ble_eq_true rfl)⟩ rfl hl.1 rfl (Nat.le_of_ble_eq_true rfl) ⟨Nat.zero_le _, Nat.zero_le _⟩ dX12_parses_67 (fun H locs G => ?_)
  refine lv_aload_n hx hb dX12_parses_70 rfl (lv_at hl 0 rfl) ?_
  obtain ⟨r21, er21, hsp⟩ := hk_b hsp
  refine hk_callVi (As := []) (rest := []) F9 G h0 hkc_9 rfl (kX12_readsAll l g E F n r20 a0 r21 h0 er21) qv_RX12_323 ⟨rfl, rfl, (Nat.le_of_ble_eq_true rfl), (Nat.le_of_ble_eq_true rfl)⟩ rfl hl.1 rfl (Nat.le_of_ble_eq_true rfl) ⟨Nat.zero_le _, Nat.zero_le _⟩ dX12_parses_71 (fun H locs G => ?_)
  obtain ⟨q22, hsp⟩ := hk_k hsp
  obtain rfl := hk_s hsp
  exact W.zret (v := r21.1) hx hb hr (hk_z q22).1 (fun t ht hW => hk_end G ht hW) G.2.1.2.2 dX12_parses_74
def mX12_runScript_7 (E : hk_E) (F : Nat) (a0 : Nat)  (k : hk_S → Int32 → Option (Int32 × hk_S)) : Nat → hk_S → Int32 → Option (Int32 × hk_S)
  | 0 => fun _ _ => none
  | f + 1 => fun S z2 =>
    if (S a0 9) ≤ z2 then (k S z2) else ((E.2.2.2 a0 8).bind (fun r4 => if E.2.1 r4 = 13 then ((E.2.2.2 a0 7).bind (fun r5 => if E.2.1 r5 = 13 then (if hk_ok z2 (E.2.2.1 r5) then (if hk_ok z2 (E.2.2.1 r4) then (hk_let (hk_up S r4 ((z2).toNatClampNeg) (S r5 ((z2).toNatClampNeg))) (fun S8 => hk_let (z2 + 1) (fun y9 => mX12_runScript_7 E F a0 k f S8 y9))) else none) else none) else none)) else none))
def mX12_runScript_59 (E : hk_E) (F : Nat) (a0 : Nat)  (k : hk_S → Int32 → Option (Int32 × hk_S)) : Nat → hk_S → Int32 → Option (Int32 × hk_S)
  | 0 => fun _ _ => none
  | f + 1 => fun S z20 =>
    if 107 ≤ z20 then (k S z20) else ((E.2.2.2 a0 0).bind (fun r22 => if E.2.1 r22 = 13 then ((E.2.2.2 a0 1).bind (fun r23 => if E.2.1 r23 = 13 then (if hk_ok z20 (E.2.2.1 r23) then (if hk_ok z20 (E.2.2.1 r22) then (hk_let (hk_up S r22 ((z20).toNatClampNeg) (S r23 ((z20).toNatClampNeg))) (fun S26 => hk_let (z20 + 1) (fun y27 => mX12_runScript_59 E F a0 k f S26 y27))) else none) else none) else none)) else none))
def mX12_runScript (E : hk_E) (F : Nat) (S : hk_S) (a0 : Nat) : Option (Int32 × hk_S) :=
hk_let (hk_up S a0 15 0) (fun S1 => mX12_runScript_7 E F a0  (fun S10 z11 => hk_let (hk_up S10 a0 10 (S10 a0 9)) (fun S12 => hk_let (hk_up S12 a0 9 0) (fun S13 => (mX12_begins E F S13 a0).bind (fun r14 => (mX12_parses E F r14 a0).bind (fun r15 => if ¬ r15.1 = 0 then ((E.2.2.2 a0 0).bind (fun r17 => if E.2.1 r17 = 13 then (if hk_ok 9 (E.2.2.1 r17) then ((mX12_remember E F r15.2 a0 (r15.2 r17 9)).bind (fun r19 => some (r19.1, r19.2))) else none) else none)) else (mX12_runScript_59 E F a0  (fun S28 z29 => some ((-1), S28)) F r15.2 0)))))) F S1 0)
set_option maxHeartbeats 4000000 in
set_option maxRecDepth 100000 in
theorem kX12_runScript (l : Launch) (g : hk_G) (E : hk_E) (F n : Nat) (S : hk_S) (a0 : Nat) (o : Int32 × hk_S) (h0 : E.2.1 a0 = 10) (hsp : mX12_runScript E F S a0 = some o) : Met l yX12_runScript (hk_ws yX12_runScript cX12_runScript 2 (Option.some Jvm.ClassFile.FieldType.int)) ({ frames := 16, cells := 0, slots := 0, locals := 351 }) (hk_Pc g E S n [.ref (g.1 + a0)]) (hk_Q g E o.2 n (some (.int o.1))) 0 0 (hk_A g) := by
  refine Met.ofW (cc := cX12_runScript) (maxL := 2) (ret := (Option.some Jvm.ClassFile.FieldType.int)) (by decide) rfl ?_
  intro p e s m args below meth c s₁ B hml hv
  obtain ⟨rfl, G⟩ := hk_begin hv
  have F9 : CallFix p m c cX12_runScript 2 s [.ref (g.1 + a0)].toArray hk_W RX12 := ⟨B.exec, B.bytes, hml, findClass_of_methodNamed B.named, fun w h => atoms_spec (ws := hk_ws yX12_runScript cX12_runScript 2 (Option.some Jvm.ClassFile.FieldType.int)) B.pre w (hk_in h)⟩
  have hx := B.exec
  have hb := B.bytes
  have hr := B.returns
  have hlocks := B.notSynchronized
  have hl := lv_entry ([.ref (g.1 + a0)]) (n := 2) (Nat.le_of_ble_eq_true rfl)
  rw [lg_entry_eq]
  generalize (lg_sl ([.ref (g.1 + a0)]) ++ List.replicate (2 - (lg_sl ([.ref (g.1 + a0)])).length) Slot.unset).toArray = ls at hl ⊢
  have hl : lv_has ls 2 [(0, .ref (g.1 + a0))] := hl
  unfold mX12_runScript at hsp
  have G : hk_GG g E S n s s.heap [] := G
  have L_7 : ∀   (k : hk_S → Int32 → Option (Int32 × hk_S)) (_ : ∀ (S : hk_S) (z2 : Int32) (H : Heap) (locs : List Loc) (ls : Array Slot), k S z2 = some o → hk_GG g E S n s H locs → lv_has ls 2 [(0, .ref (g.1 + a0)), (1, .int z2)] → W p l e (headSpec (hk_ws yX12_runScript cX12_runScript 2 (Option.some Jvm.ClassFile.FieldType.int)) ({ frames := 16, cells := 0, slots := 0, locals := 351 })).room s m [.ref (g.1 + a0)].toArray below meth c H locs 0 0 (MQ below (hk_Q g E o.2 n (some (.int o.1))) [.ref (g.1 + a0)].toArray s 0 0 (hk_A g)) (F0 m 33 ls [])) (f : Nat) (S : hk_S) (z2 : Int32) (H : Heap) (locs : List Loc) (ls : Array Slot), mX12_runScript_7 E F a0 k f S z2 = some o → hk_GG g E S n s H locs → lv_has ls 2 [(0, .ref (g.1 + a0)), (1, .int z2)] → W p l e (headSpec (hk_ws yX12_runScript cX12_runScript 2 (Option.some Jvm.ClassFile.FieldType.int)) ({ frames := 16, cells := 0, slots := 0, locals := 351 })).room s m [.ref (g.1 + a0)].toArray below meth c H locs 0 0 (MQ below (hk_Q g E o.2 n (some (.int o.1))) [.ref (g.1 + a0)].toArray s 0 0 (hk_A g)) (F0 m 7 ls []) := by
    intro   k hk f
    induction f with
    | zero =>
      intro S z2 H locs ls hsp
      exact nomatch hsp
    | succ f ih =>
      intro S z2 H locs ls hsp G hl
      rw [mX12_runScript_7] at hsp
      refine lv_iload_n hx hb dX12_runScript_7 rfl (lv_at hl 1 rfl) ?_
      refine lv_aload_n hx hb dX12_runScript_8 rfl (lv_at hl 0 rfl) ?_
      refine hk_getI F9 G h0 hkc_9 (k := 9) (by decide) qw_1593 rfl dX12_runScript_9 ?_
      refine lv_icmp_ge (tgt := 33) hx hb dX12_runScript_12 (by decide) (fun c3 => ?_) (fun c3 => ?_)
      · have hsp := hk_t c3 hsp
        exact hk S z2 _ _ _ hsp G (lv_sub hl [0, 1] rfl)
      · have hsp := hk_f c3 hsp
        refine lv_aload_n hx hb dX12_runScript_15 rfl (lv_at hl 0 rfl) ?_
        obtain ⟨r4, er4, hsp⟩ := hk_b hsp
        obtain ⟨kr4, hsp⟩ := hk_k hsp
        refine hk_getR F9 G h0 hkc_9 (k := 8) (by decide) qw_1592 rfl er4 dX12_runScript_16 ?_
        refine lv_iload_n hx hb dX12_runScript_19 rfl (lv_at hl 1 rfl) ?_
        refine lv_aload_n hx hb dX12_runScript_20 rfl (lv_at hl 0 rfl) ?_
        obtain ⟨r5, er5, hsp⟩ := hk_b hsp
        obtain ⟨kr5, hsp⟩ := hk_k hsp
        refine hk_getR F9 G h0 hkc_9 (k := 7) (by decide) qw_1591 rfl er5 dX12_runScript_21 ?_
        refine lv_iload_n hx hb dX12_runScript_24 rfl (lv_at hl 1 rfl) ?_
        obtain ⟨q6, hsp⟩ := hk_k hsp
        refine hk_iald (j := (z2).toNatClampNeg) F9 G kr5 rfl q6 rfl dX12_runScript_25 ?_
        obtain ⟨q7, hsp⟩ := hk_k hsp
        obtain ⟨S8, eS8, hsp⟩ := hk_l hsp
        refine hk_iast (j := (z2).toNatClampNeg) F9 G kr4 rfl q7 rfl dX12_runScript_26 (fun H locs G => ?_)
        rw [eS8] at G
        obtain ⟨y9, ey9, hsp⟩ := hk_l hsp
        refine lv_iinc (v := y9) (lv' := [(1, .int y9), (0, .ref (g.1 + a0))]) hx hb dX12_runScript_27 hl (k := 1) rfl (by rw [← ey9]; rfl) (by decide) rfl (fun ls hl => ?_)
        refine lv_goto (tgt := 7) hx hb dX12_runScript_30 (by decide) ?_
        exact ih S8 y9 _ _ _ hsp G (lv_sub hl [1, 0] rfl)
  have L_59 : ∀   (k : hk_S → Int32 → Option (Int32 × hk_S)) (_ : ∀ (S : hk_S) (z20 : Int32) (H : Heap) (locs : List Loc) (ls : Array Slot), k S z20 = some o → hk_GG g E S n s H locs → lv_has ls 2 [(0, .ref (g.1 + a0)), (1, .int z20)] → W p l e (headSpec (hk_ws yX12_runScript cX12_runScript 2 (Option.some Jvm.ClassFile.FieldType.int)) ({ frames := 16, cells := 0, slots := 0, locals := 351 })).room s m [.ref (g.1 + a0)].toArray below meth c H locs 0 0 (MQ below (hk_Q g E o.2 n (some (.int o.1))) [.ref (g.1 + a0)].toArray s 0 0 (hk_A g)) (F0 m 83 ls [])) (f : Nat) (S : hk_S) (z20 : Int32) (H : Heap) (locs : List Loc) (ls : Array Slot), mX12_runScript_59 E F a0 k f S z20 = some o → hk_GG g E S n s H locs → lv_has ls 2 [(0, .ref (g.1 + a0)), (1, .int z20)] → W p l e (headSpec (hk_ws yX12_runScript cX12_runScript 2 (Option.some Jvm.ClassFile.FieldType.int)) ({ frames := 16, cells := 0, slots := 0, locals := 351 })).room s m [.ref (g.1 + a0)].toArray below meth c H locs 0 0 (MQ below (hk_Q g E o.2 n (some (.int o.1))) [.ref (g.1 + a0)].toArray s 0 0 (hk_A g)) (F0 m 59 ls []) := by
    intro   k hk f
    induction f with
    | zero =>
      intro S z20 H locs ls hsp
      exact nomatch hsp
    | succ f ih =>
      intro S z20 H locs ls hsp G hl
      rw [mX12_runScript_59] at hsp
      refine lv_iload_n hx hb dX12_runScript_59 rfl (lv_at hl 1 rfl) ?_
      refine lv_bipush (v := 107) hx hb dX12_runScript_60 (by decide) ?_
      refine lv_icmp_ge (tgt := 83) hx hb dX12_runScript_62 (by decide) (fun c21 => ?_) (fun c21 => ?_)
      · have hsp := hk_t c21 hsp
        exact hk S z20 _ _ _ hsp G (lv_sub hl [0, 1] rfl)
      · have hsp := hk_f c21 hsp
        refine lv_aload_n hx hb dX12_runScript_65 rfl (lv_at hl 0 rfl) ?_
        obtain ⟨r22, er22, hsp⟩ := hk_b hsp
        obtain ⟨kr22, hsp⟩ := hk_k hsp
        refine hk_getR F9 G h0 hkc_9 (k := 0) (by decide) qw_1584 rfl er22 dX12_runScript_66 ?_
        refine lv_iload_n hx hb dX12_runScript_69 rfl (lv_at hl 1 rfl) ?_
        refine lv_aload_n hx hb dX12_runScript_70 rfl (lv_at hl 0 rfl) ?_
        obtain ⟨r23, er23, hsp⟩ := hk_b hsp
        obtain ⟨kr23, hsp⟩ := hk_k hsp
        refine hk_getR F9 G h0 hkc_9 (k := 1) (by decide) qw_1585 rfl er23 dX12_runScript_71 ?_
        refine lv_iload_n hx hb dX12_runScript_74 rfl (lv_at hl 1 rfl) ?_
        obtain ⟨q24, hsp⟩ := hk_k hsp
        refine hk_iald (j := (z20).toNatClampNeg) F9 G kr23 rfl q24 rfl dX12_runScript_75 ?_
        obtain ⟨q25, hsp⟩ := hk_k hsp
        obtain ⟨S26, eS26, hsp⟩ := hk_l hsp
        refine hk_iast (j := (z20).toNatClampNeg) F9 G kr22 rfl q25 rfl dX12_runScript_76 (fun H locs G => ?_)
        rw [eS26] at G
        obtain ⟨y27, ey27, hsp⟩ := hk_l hsp
        refine lv_iinc (v := y27) (lv' := [(1, .int y27), (0, .ref (g.1 + a0))]) hx hb dX12_runScript_77 hl (k := 1) rfl (by rw [← ey27]; rfl) (by decide) rfl (fun ls hl => ?_)
        refine lv_goto (tgt := 59) hx hb dX12_runScript_80 (by decide) ?_
        exact ih S26 y27 _ _ _ hsp G (lv_sub hl [1, 0] rfl)
  refine lv_aload_n hx hb dX12_runScript_0 rfl (lv_at hl 0 rfl) ?_
  refine lv_iconst (v := 0) hx hb dX12_runScript_1 (by decide) ?_
  obtain ⟨S1, eS1, hsp⟩ := hk_l hsp
  refine hk_putI F9 G h0 hkc_9 (k := 15) (by decide) qw_1599 rfl rfl (tyX12_ok 15 (by decide)) rfl rfl dX12_runScript_2 (fun H locs G => ?_)
  rw [eS1] at G
  refine lv_iconst (v := 0) hx hb dX12_runScript_5 (by decide) ?_
  refine lv_istore_n (lv' := [(1, .int 0), (0, .ref (g.1 + a0))]) hx hb dX12_runScript_6 rfl hl (by decide) rfl (fun ls hl => ?_)
  refine L_7   _ ?_ F S1 0 _ _ _ hsp G (lv_sub hl [1, 0] rfl)
  intro S10 z11 H locs ls hsp G hl
  refine lv_aload_n hx hb dX12_runScript_33 rfl (lv_at hl 0 rfl) ?_
  refine lv_aload_n hx hb dX12_runScript_34 rfl (lv_at hl 0 rfl) ?_
  refine hk_getI F9 G h0 hkc_9 (k := 9) (by decide) qw_1593 rfl dX12_runScript_35 ?_
  obtain ⟨S12, eS12, hsp⟩ := hk_l hsp
  refine hk_putI F9 G h0 hkc_9 (k := 10) (by decide) qw_1594 rfl rfl (tyX12_ok 10 (by decide)) rfl rfl dX12_runScript_38 (fun H locs G => ?_)
  rw [eS12] at G
  refine lv_aload_n hx hb dX12_runScript_41 rfl (lv_at hl 0 rfl) ?_
  refine lv_iconst (v := 0) hx hb dX12_runScript_42 (by decide) ?_
  obtain ⟨S13, eS13, hsp⟩ := hk_l hsp
  refine hk_putI F9 G h0 hkc_9 (k := 9) (by decide) qw_1593 rfl rfl (tyX12_ok 9 (by decide)) rfl rfl dX12_runScript_43 (fun H locs G => ?_)
  rw [eS13] at G
  refine lv_aload_n hx hb dX12_runScript_46 rfl (lv_at hl 0 rfl) ?_
  obtain ⟨r14, er14, hsp⟩ := hk_b hsp
  refine hk_callVv (As := []) (rest := []) F9 G h0 hkc_9 rfl (kX12_begins l g E F n S13 a0 r14 h0 er14) qv_RX12_339 ⟨rfl, rfl, (Nat.le_of_ble_eq_true rfl), (Nat.le_of_ble_eq_true rfl)⟩ rfl hl.1 rfl (Nat.le_of_ble_eq_true rfl) ⟨Nat.zero_le _, Nat.zero_le _⟩ dX12_runScript_47 (fun H locs G => ?_)
  refine lv_aload_n hx hb dX12_runScript_50 rfl (lv_at hl 0 rfl) ?_
  obtain ⟨r15, er15, hsp⟩ := hk_b hsp
  refine hk_callVi (As := []) (rest := []) F9 G h0 hkc_9 rfl (kX12_parses l g E F n r14 a0 r15 h0 er15) qv_RX12_50 ⟨rfl, rfl, (Nat.le_of_ble_eq_true rfl), (Nat.le_of_ble_eq_true rfl)⟩ rfl hl.1 rfl (Nat.le_of_ble_eq_true rfl) ⟨Nat.zero_le _, Nat.zero_le _⟩ dX12_runScript_51 (fun H locs G => ?_)
  refine lv_if_ne (tgt := 85) hx hb dX12_runScript_54 (by decide) (fun c16 => ?_) (fun c16 => ?_)
  · have hsp := hk_t c16 hsp
    refine lv_aload_n hx hb dX12_runScript_85 rfl (lv_at hl 0 rfl) ?_
    refine lv_aload_n hx hb dX12_runScript_86 rfl (lv_at hl 0 rfl) ?_
    obtain ⟨r17, er17, hsp⟩ := hk_b hsp
    obtain ⟨kr17, hsp⟩ := hk_k hsp
    refine hk_getR F9 G h0 hkc_9 (k := 0) (by decide) qw_1584 rfl er17 dX12_runScript_87 ?_
    refine lv_bipush (v := 9) hx hb dX12_runScript_90 (by decide) ?_
    obtain ⟨q18, hsp⟩ := hk_k hsp
    refine hk_iald (j := 9) F9 G kr17 rfl q18 (by decide) dX12_runScript_92 ?_
    obtain ⟨r19, er19, hsp⟩ := hk_b hsp
    refine hk_callVi (As := [.int (r15.2 r17 9)]) (rest := []) F9 G h0 hkc_9 rfl (kX12_remember l g E F n r15.2 a0 (r15.2 r17 9) r19 h0 er19) qv_RX12_342 ⟨rfl, rfl, (Nat.le_of_ble_eq_true rfl), (Nat.le_of_ble_eq_true rfl)⟩ rfl hl.1 rfl (Nat.le_of_ble_eq_true rfl) ⟨Nat.zero_le _, Nat.zero_le _⟩ dX12_runScript_93 (fun H locs G => ?_)
    obtain rfl := hk_s hsp
    exact W.iret (v := r19.1) hx hb hr (fun t ht hW => hk_end G ht hW) G.2.1.2.2 dX12_runScript_96
  · have hsp := hk_g c16 hsp
    refine lv_iconst (v := 0) hx hb dX12_runScript_57 (by decide) ?_
    refine lv_istore_n (lv' := [(1, .int 0), (0, .ref (g.1 + a0))]) hx hb dX12_runScript_58 rfl hl (by decide) rfl (fun ls hl => ?_)
    refine L_59   _ ?_ F r15.2 0 _ _ _ hsp G (lv_sub hl [1, 0] rfl)
    intro S28 z29 H locs ls hsp G hl
    refine lv_iconst (v := (-1)) hx hb dX12_runScript_83 (by decide) ?_
    obtain rfl := hk_s hsp
    exact W.iret (v := (-1)) hx hb hr (fun t ht hW => hk_end G ht hW) G.2.1.2.2 dX12_runScript_84
def mX12_writeTrough (E : hk_E) (F : Nat) (S : hk_S) (a0 : Nat) (x1 : Int32) : Option (hk_S) :=
(mX12_of E F S a0 x1 1).bind (fun r1 => (mX12_wN2 E F r1.2 a0 r1.1).bind (fun r2 => (mX12_of E F r2 a0 x1 2).bind (fun r3 => if ¬ r3.1 = 0 then ((mX12_write E F r3.2 a0 100).bind (fun r5 => (mX12_isEmpty E F r5 a0 x1).bind (fun r6 => if ¬ r6.1 = 0 then ((mX12_isReady E F r6.2 a0 x1).bind (fun r8 => if r8.1 = 0 then (some (r8.2)) else ((mX12_write E F r8.2 a0 33).bind (fun r10 => some (r10))))) else ((mX12_of E F r6.2 a0 x1 4).bind (fun r11 => (mX12_wN2 E F r11.2 a0 r11.1).bind (fun r12 => (mX12_write E F r12 a0 47).bind (fun r13 => (mX12_of E F r13 a0 x1 5).bind (fun r14 => (mX12_wN2 E F r14.2 a0 r14.1).bind (fun r15 => (mX12_isReady E F r15 a0 x1).bind (fun r16 => if r16.1 = 0 then (some (r16.2)) else ((mX12_write E F r16.2 a0 33).bind (fun r18 => some (r18))))))))))))) else ((mX12_write E F r3.2 a0 117).bind (fun r19 => (mX12_isEmpty E F r19 a0 x1).bind (fun r20 => if ¬ r20.1 = 0 then ((mX12_isReady E F r20.2 a0 x1).bind (fun r22 => if r22.1 = 0 then (some (r22.2)) else ((mX12_write E F r22.2 a0 33).bind (fun r24 => some (r24))))) else ((mX12_of E F r20.2 a0 x1 4).bind (fun r25 => (mX12_wN2 E F r25.2 a0 r25.1).bind (fun r26 => (mX12_write E F r26 a0 47).bind (fun r27 => (mX12_of E F r27 a0 x1 5).bind (fun r28 => (mX12_wN2 E F r28.2 a0 r28.1).bind (fun r29 => (mX12_isReady E F r29 a0 x1).bind (fun r30 => if r30.1 = 0 then (some (r30.2)) else ((mX12_write E F r30.2 a0 33).bind (fun r32 => some (r32))))))))))))))))
set_option maxHeartbeats 4000000 in
set_option maxRecDepth 100000 in
theorem kX12_writeTrough (l : Launch) (g : hk_G) (E : hk_E) (F n : Nat) (S : hk_S) (a0 : Nat) (x1 : Int32) (o : hk_S) (h0 : E.2.1 a0 = 10) (hsp : mX12_writeTrough E F S a0 x1 = some o) : Met l yX12_writeTrough (hk_ws yX12_writeTrough cX12_writeTrough 2 (Option.none : Option Jvm.ClassFile.FieldType)) ({ frames := 4, cells := 0, slots := 0, locals := 84 }) (hk_Pc g E S n [.ref (g.1 + a0), .int x1]) (hk_Q g E o n none) 0 0 (hk_A g) := by
  refine Met.ofW (cc := cX12_writeTrough) (maxL := 2) (ret := (Option.none : Option Jvm.ClassFile.FieldType)) (by decide) rfl ?_
  intro p e s m args below meth c s₁ B hml hv
  obtain ⟨rfl, G⟩ := hk_begin hv
  have F9 : CallFix p m c cX12_writeTrough 2 s [.ref (g.1 + a0), .int x1].toArray hk_W RX12 := ⟨B.exec, B.bytes, hml, findClass_of_methodNamed B.named, fun w h => atoms_spec (ws := hk_ws yX12_writeTrough cX12_writeTrough 2 (Option.none : Option Jvm.ClassFile.FieldType)) B.pre w (hk_in h)⟩
  have hx := B.exec
  have hb := B.bytes
  have hr := B.returns
  have hlocks := B.notSynchronized
  have hl := lv_entry ([.ref (g.1 + a0), .int x1]) (n := 2) (Nat.le_of_ble_eq_true rfl)
  rw [lg_entry_eq]
  generalize (lg_sl ([.ref (g.1 + a0), .int x1]) ++ List.replicate (2 - (lg_sl ([.ref (g.1 + a0), .int x1])).length) Slot.unset).toArray = ls at hl ⊢
  have hl : lv_has ls 2 [(0, .ref (g.1 + a0)), (1, .int x1)] := hl
  unfold mX12_writeTrough at hsp
  have G : hk_GG g E S n s s.heap [] := G
  refine lv_aload_n hx hb dX12_writeTrough_0 rfl (lv_at hl 0 rfl) ?_
  refine lv_aload_n hx hb dX12_writeTrough_1 rfl (lv_at hl 0 rfl) ?_
  refine lv_iload_n hx hb dX12_writeTrough_2 rfl (lv_at hl 1 rfl) ?_
  refine lv_iconst (v := 1) hx hb dX12_writeTrough_3 (by decide) ?_
  obtain ⟨r1, er1, hsp⟩ := hk_b hsp
  refine hk_callVi (As := [.int x1, .int 1]) (rest := [.ref (g.1 + a0)]) F9 G h0 hkc_9 rfl (kX12_of l g E F n S a0 x1 1 r1 h0 er1) qv_RX12_61 ⟨rfl, rfl, (Nat.le_of_ble_eq_true rfl), (Nat.le_of_ble_eq_true rfl)⟩ rfl hl.1 rfl (Nat.le_of_ble_eq_true rfl) ⟨Nat.zero_le _, Nat.zero_le _⟩ dX12_writeTrough_4 (fun H locs G => ?_)
  obtain ⟨r2, er2, hsp⟩ := hk_b hsp
  refine hk_callVv (As := [.int r1.1]) (rest := []) F9 G h0 hkc_9 rfl (kX12_wN2 l g E F n r1.2 a0 r1.1 r2 h0 er2) qv_RX12_399 ⟨rfl, rfl, (Nat.le_of_ble_eq_true rfl), (Nat.le_of_ble_eq_true rfl)⟩ rfl hl.1 rfl (Nat.le_of_ble_eq_true rfl) ⟨Nat.zero_le _, Nat.zero_le _⟩ dX12_writeTrough_7 (fun H locs G => ?_)
  refine lv_aload_n hx hb dX12_writeTrough_10 rfl (lv_at hl 0 rfl) ?_
  refine lv_aload_n hx hb dX12_writeTrough_11 rfl (lv_at hl 0 rfl) ?_
  refine lv_iload_n hx hb dX12_writeTrough_12 rfl (lv_at hl 1 rfl) ?_
  refine lv_iconst (v := 2) hx hb dX12_writeTrough_13 (by decide) ?_
  obtain ⟨r3, er3, hsp⟩ := hk_b hsp
  refine hk_callVi (As := [.int x1, .int 2]) (rest := [.ref (g.1 + a0)]) F9 G h0 hkc_9 rfl (kX12_of l g E F n r2 a0 x1 2 r3 h0 er3) qv_RX12_61 ⟨rfl, rfl, (Nat.le_of_ble_eq_true rfl), (Nat.le_of_ble_eq_true rfl)⟩ rfl hl.1 rfl (Nat.le_of_ble_eq_true rfl) ⟨Nat.zero_le _, Nat.zero_le _⟩ dX12_writeTrough_14 (fun H locs G => ?_)
  refine lv_if_ne (tgt := 25) hx hb dX12_writeTrough_17 (by decide) (fun c4 => ?_) (fun c4 => ?_)
  · have hsp := hk_t c4 hsp
    refine lv_bipush (v := 100) hx hb dX12_writeTrough_25 (by decide) ?_
    obtain ⟨r5, er5, hsp⟩ := hk_b hsp
    refine hk_callVv (As := [.int 100]) (rest := []) F9 G h0 hkc_9 rfl (kX12_write l g E F n r3.2 a0 100 r5 h0 er5) qv_RX12_402 ⟨rfl, rfl, (Nat.le_of_ble_eq_true rfl), (Nat.le_of_ble_eq_true rfl)⟩ rfl hl.1 rfl (Nat.le_of_ble_eq_true rfl) ⟨Nat.zero_le _, Nat.zero_le _⟩ dX12_writeTrough_27 (fun H locs G => ?_)
    refine lv_aload_n hx hb dX12_writeTrough_30 rfl (lv_at hl 0 rfl) ?_
    refine lv_iload_n hx hb dX12_writeTrough_31 rfl (lv_at hl 1 rfl) ?_
    obtain ⟨r6, er6, hsp⟩ := hk_b hsp
    refine hk_callVi (As := [.int x1]) (rest := []) F9 G h0 hkc_9 rfl (kX12_isEmpty l g E F n r5 a0 x1 r6 h0 er6) qv_RX12_73 ⟨rfl, rfl, (Nat.le_of_ble_eq_true rfl), (Nat.le_of_ble_eq_true rfl)⟩ rfl hl.1 rfl (Nat.le_of_ble_eq_true rfl) ⟨Nat.zero_le _, Nat.zero_le _⟩ dX12_writeTrough_32 (fun H locs G => ?_)
    refine lv_if_ne (tgt := 64) hx hb dX12_writeTrough_35 (by decide) (fun c7 => ?_) (fun c7 => ?_)
    · have hsp := hk_t c7 hsp
      refine lv_aload_n hx hb dX12_writeTrough_64 rfl (lv_at hl 0 rfl) ?_
      refine lv_iload_n hx hb dX12_writeTrough_65 rfl (lv_at hl 1 rfl) ?_
      obtain ⟨r8, er8, hsp⟩ := hk_b hsp
      refine hk_callVi (As := [.int x1]) (rest := []) F9 G h0 hkc_9 rfl (kX12_isReady l g E F n r6.2 a0 x1 r8 h0 er8) qv_RX12_99 ⟨rfl, rfl, (Nat.le_of_ble_eq_true rfl), (Nat.le_of_ble_eq_true rfl)⟩ rfl hl.1 rfl (Nat.le_of_ble_eq_true rfl) ⟨Nat.zero_le _, Nat.zero_le _⟩ dX12_writeTrough_66 (fun H locs G => ?_)
      refine lv_if_eq (tgt := 78) hx hb dX12_writeTrough_69 (by decide) (fun c9 => ?_) (fun c9 => ?_)
      · have hsp := hk_t c9 hsp
        obtain rfl := hk_s hsp
        exact W.vret hx hb hr (fun t ht hW => hk_end G ht hW) G.2.1.2.2 dX12_writeTrough_78
      · have hsp := hk_f c9 hsp
        refine lv_aload_n hx hb dX12_writeTrough_72 rfl (lv_at hl 0 rfl) ?_
        refine lv_bipush (v := 33) hx hb dX12_writeTrough_73 (by decide) ?_
        obtain ⟨r10, er10, hsp⟩ := hk_b hsp
        refine hk_callVv (As := [.int 33]) (rest := []) F9 G h0 hkc_9 rfl (kX12_write l g E F n r8.2 a0 33 r10 h0 er10) qv_RX12_402 ⟨rfl, rfl, (Nat.le_of_ble_eq_true rfl), (Nat.le_of_ble_eq_true rfl)⟩ rfl hl.1 rfl (Nat.le_of_ble_eq_true rfl) ⟨Nat.zero_le _, Nat.zero_le _⟩ dX12_writeTrough_75 (fun H locs G => ?_)
        obtain rfl := hk_s hsp
        exact W.vret hx hb hr (fun t ht hW => hk_end G ht hW) G.2.1.2.2 dX12_writeTrough_78
    · have hsp := hk_g c7 hsp
      refine lv_aload_n hx hb dX12_writeTrough_38 rfl (lv_at hl 0 rfl) ?_
      refine lv_aload_n hx hb dX12_writeTrough_39 rfl (lv_at hl 0 rfl) ?_
      refine lv_iload_n hx hb dX12_writeTrough_40 rfl (lv_at hl 1 rfl) ?_
      refine lv_iconst (v := 4) hx hb dX12_writeTrough_41 (by decide) ?_
      obtain ⟨r11, er11, hsp⟩ := hk_b hsp
      refine hk_callVi (As := [.int x1, .int 4]) (rest := [.ref (g.1 + a0)]) F9 G h0 hkc_9 rfl (kX12_of l g E F n r6.2 a0 x1 4 r11 h0 er11) qv_RX12_61 ⟨rfl, rfl, (Nat.le_of_ble_eq_true rfl), (Nat.le_of_ble_eq_true rfl)⟩ rfl hl.1 rfl (Nat.le_of_ble_eq_true rfl) ⟨Nat.zero_le _, Nat.zero_le _⟩ dX12_writeTrough_42 (fun H locs G => ?_)
      obtain ⟨r12, er12, hsp⟩ := hk_b hsp
      refine hk_callVv (As := [.int r11.1]) (rest := []) F9 G h0 hkc_9 rfl (kX12_wN2 l g E F n r11.2 a0 r11.1 r12 h0 er12) qv_RX12_399 ⟨rfl, rfl, (Nat.le_of_ble_eq_true rfl), (Nat.le_of_ble_eq_true rfl)⟩ rfl hl.1 rfl (Nat.le_of_ble_eq_true rfl) ⟨Nat.zero_le _, Nat.zero_le _⟩ dX12_writeTrough_45 (fun H locs G => ?_)
      refine lv_aload_n hx hb dX12_writeTrough_48 rfl (lv_at hl 0 rfl) ?_
      refine lv_bipush (v := 47) hx hb dX12_writeTrough_49 (by decide) ?_
      obtain ⟨r13, er13, hsp⟩ := hk_b hsp
      refine hk_callVv (As := [.int 47]) (rest := []) F9 G h0 hkc_9 rfl (kX12_write l g E F n r12 a0 47 r13 h0 er13) qv_RX12_402 ⟨rfl, rfl, (Nat.le_of_ble_eq_true rfl), (Nat.le_of_ble_eq_true rfl)⟩ rfl hl.1 rfl (Nat.le_of_ble_eq_true rfl) ⟨Nat.zero_le _, Nat.zero_le _⟩ dX12_writeTrough_51 (fun H locs G => ?_)
      refine lv_aload_n hx hb dX12_writeTrough_54 rfl (lv_at hl 0 rfl) ?_
      refine lv_aload_n hx hb dX12_writeTrough_55 rfl (lv_at hl 0 rfl) ?_
      refine lv_iload_n hx hb dX12_writeTrough_56 rfl (lv_at hl 1 rfl) ?_
      refine lv_iconst (v := 5) hx hb dX12_writeTrough_57 (by decide) ?_
      obtain ⟨r14, er14, hsp⟩ := hk_b hsp
      refine hk_callVi (As := [.int x1, .int 5]) (rest := [.ref (g.1 + a0)]) F9 G h0 hkc_9 rfl (kX12_of l g E F n r13 a0 x1 5 r14 h0 er14) qv_RX12_61 ⟨rfl, rfl, (Nat.le_of_ble_eq_true rfl), (Nat.le_of_ble_eq_true rfl)⟩ rfl hl.1 rfl (Nat.le_of_ble_eq_true rfl) ⟨Nat.zero_le _, Nat.zero_le _⟩ dX12_writeTrough_58 (fun H locs G => ?_)
      obtain ⟨r15, er15, hsp⟩ := hk_b hsp
      refine hk_callVv (As := [.int r14.1]) (rest := []) F9 G h0 hkc_9 rfl (kX12_wN2 l g E F n r14.2 a0 r14.1 r15 h0 er15) qv_RX12_399 ⟨rfl, rfl, (Nat.le_of_ble_eq_true rfl), (Nat.le_of_ble_eq_true rfl)⟩ rfl hl.1 rfl (Nat.le_of_ble_eq_true rfl) ⟨Nat.zero_le _, Nat.zero_le _⟩ dX12_writeTrough_61 (fun H locs G => ?_)
      refine lv_aload_n hx hb dX12_writeTrough_64 rfl (lv_at hl 0 rfl) ?_
      refine lv_iload_n hx hb dX12_writeTrough_65 rfl (lv_at hl 1 rfl) ?_
      obtain ⟨r16, er16, hsp⟩ := hk_b hsp
      refine hk_callVi (As := [.int x1]) (rest := []) F9 G h0 hkc_9 rfl (kX12_isReady l g E F n r15 a0 x1 r16 h0 er16) qv_RX12_99 ⟨rfl, rfl, (Nat.le_of_ble_eq_true rfl), (Nat.le_of_ble_eq_true rfl)⟩ rfl hl.1 rfl (Nat.le_of_ble_eq_true rfl) ⟨Nat.zero_le _, Nat.zero_le _⟩ dX12_writeTrough_66 (fun H locs G => ?_)
      refine lv_if_eq (tgt := 78) hx hb dX12_writeTrough_69 (by decide) (fun c17 => ?_) (fun c17 => ?_)
      · have hsp := hk_t c17 hsp
        obtain rfl := hk_s hsp
        exact W.vret hx hb hr (fun t ht hW => hk_end G ht hW) G.2.1.2.2 dX12_writeTrough_78
      · have hsp := hk_f c17 hsp
        refine lv_aload_n hx hb dX12_writeTrough_72 rfl (lv_at hl 0 rfl) ?_
        refine lv_bipush (v := 33) hx hb dX12_writeTrough_73 (by decide) ?_
        obtain ⟨r18, er18, hsp⟩ := hk_b hsp
        refine hk_callVv (As := [.int 33]) (rest := []) F9 G h0 hkc_9 rfl (kX12_write l g E F n r16.2 a0 33 r18 h0 er18) qv_RX12_402 ⟨rfl, rfl, (Nat.le_of_ble_eq_true rfl), (Nat.le_of_ble_eq_true rfl)⟩ rfl hl.1 rfl (Nat.le_of_ble_eq_true rfl) ⟨Nat.zero_le _, Nat.zero_le _⟩ dX12_writeTrough_75 (fun H locs G => ?_)
        obtain rfl := hk_s hsp
        exact W.vret hx hb hr (fun t ht hW => hk_end G ht hW) G.2.1.2.2 dX12_writeTrough_78
  · have hsp := hk_g c4 hsp
    refine lv_bipush (v := 117) hx hb dX12_writeTrough_20 (by decide) ?_
    refine lv_goto (tgt := 27) hx hb dX12_writeTrough_22 (by decide) ?_
    obtain ⟨r19, er19, hsp⟩ := hk_b hsp
    refine hk_callVv (As := [.int 117]) (rest := []) F9 G h0 hkc_9 rfl (kX12_write l g E F n r3.2 a0 117 r19 h0 er19) qv_RX12_402 ⟨rfl, rfl, (Nat.le_of_ble_eq_true rfl), (Nat.le_of_ble_eq_true rfl)⟩ rfl hl.1 rfl (Nat.le_of_ble_eq_true rfl) ⟨Nat.zero_le _, Nat.zero_le _⟩ dX12_writeTrough_27 (fun H locs G => ?_)
    refine lv_aload_n hx hb dX12_writeTrough_30 rfl (lv_at hl 0 rfl) ?_
    refine lv_iload_n hx hb dX12_writeTrough_31 rfl (lv_at hl 1 rfl) ?_
    obtain ⟨r20, er20, hsp⟩ := hk_b hsp
    refine hk_callVi (As := [.int x1]) (rest := []) F9 G h0 hkc_9 rfl (kX12_isEmpty l g E F n r19 a0 x1 r20 h0 er20) qv_RX12_73 ⟨rfl, rfl, (Nat.le_of_ble_eq_true rfl), (Nat.le_of_ble_eq_true rfl)⟩ rfl hl.1 rfl (Nat.le_of_ble_eq_true rfl) ⟨Nat.zero_le _, Nat.zero_le _⟩ dX12_writeTrough_32 (fun H locs G => ?_)
    refine lv_if_ne (tgt := 64) hx hb dX12_writeTrough_35 (by decide) (fun c21 => ?_) (fun c21 => ?_)
    · have hsp := hk_t c21 hsp
      refine lv_aload_n hx hb dX12_writeTrough_64 rfl (lv_at hl 0 rfl) ?_
      refine lv_iload_n hx hb dX12_writeTrough_65 rfl (lv_at hl 1 rfl) ?_
      obtain ⟨r22, er22, hsp⟩ := hk_b hsp
      refine hk_callVi (As := [.int x1]) (rest := []) F9 G h0 hkc_9 rfl (kX12_isReady l g E F n r20.2 a0 x1 r22 h0 er22) qv_RX12_99 ⟨rfl, rfl, (Nat.le_of_ble_eq_true rfl), (Nat.le_of_ble_eq_true rfl)⟩ rfl hl.1 rfl (Nat.le_of_ble_eq_true rfl) ⟨Nat.zero_le _, Nat.zero_le _⟩ dX12_writeTrough_66 (fun H locs G => ?_)
      refine lv_if_eq (tgt := 78) hx hb dX12_writeTrough_69 (by decide) (fun c23 => ?_) (fun c23 => ?_)
      · have hsp := hk_t c23 hsp
        obtain rfl := hk_s hsp
        exact W.vret hx hb hr (fun t ht hW => hk_end G ht hW) G.2.1.2.2 dX12_writeTrough_78
      · have hsp := hk_f c23 hsp
        refine lv_aload_n hx hb dX12_writeTrough_72 rfl (lv_at hl 0 rfl) ?_
        refine lv_bipush (v := 33) hx hb dX12_writeTrough_73 (by decide) ?_
        obtain ⟨r24, er24, hsp⟩ := hk_b hsp
        refine hk_callVv (As := [.int 33]) (rest := []) F9 G h0 hkc_9 rfl (kX12_write l g E F n r22.2 a0 33 r24 h0 er24) qv_RX12_402 ⟨rfl, rfl, (Nat.le_of_ble_eq_true rfl), (Nat.le_of_ble_eq_true rfl)⟩ rfl hl.1 rfl (Nat.le_of_ble_eq_true rfl) ⟨Nat.zero_le _, Nat.zero_le _⟩ dX12_writeTrough_75 (fun H locs G => ?_)
        obtain rfl := hk_s hsp
        exact W.vret hx hb hr (fun t ht hW => hk_end G ht hW) G.2.1.2.2 dX12_writeTrough_78
    · have hsp := hk_g c21 hsp
      refine lv_aload_n hx hb dX12_writeTrough_38 rfl (lv_at hl 0 rfl) ?_
      refine lv_aload_n hx hb dX12_writeTrough_39 rfl (lv_at hl 0 rfl) ?_
      refine lv_iload_n hx hb dX12_writeTrough_40 rfl (lv_at hl 1 rfl) ?_
      refine lv_iconst (v := 4) hx hb dX12_writeTrough_41 (by decide) ?_
      obtain ⟨r25, er25, hsp⟩ := hk_b hsp
      refine hk_callVi (As := [.int x1, .int 4]) (rest := [.ref (g.1 + a0)]) F9 G h0 hkc_9 rfl (kX12_of l g E F n r20.2 a0 x1 4 r25 h0 er25) qv_RX12_61 ⟨rfl, rfl, (Nat.le_of_ble_eq_true rfl), (Nat.le_of_ble_eq_true rfl)⟩ rfl hl.1 rfl (Nat.le_of_ble_eq_true rfl) ⟨Nat.zero_le _, Nat.zero_le _⟩ dX12_writeTrough_42 (fun H locs G => ?_)
      obtain ⟨r26, er26, hsp⟩ := hk_b hsp
      refine hk_callVv (As := [.int r25.1]) (rest := []) F9 G h0 hkc_9 rfl (kX12_wN2 l g E F n r25.2 a0 r25.1 r26 h0 er26) qv_RX12_399 ⟨rfl, rfl, (Nat.le_of_ble_eq_true rfl), (Nat.le_of_ble_eq_true rfl)⟩ rfl hl.1 rfl (Nat.le_of_ble_eq_true rfl) ⟨Nat.zero_le _, Nat.zero_le _⟩ dX12_writeTrough_45 (fun H locs G => ?_)
      refine lv_aload_n hx hb dX12_writeTrough_48 rfl (lv_at hl 0 rfl) ?_
      refine lv_bipush (v := 47) hx hb dX12_writeTrough_49 (by decide) ?_
      obtain ⟨r27, er27, hsp⟩ := hk_b hsp
      refine hk_callVv (As := [.int 47]) (rest := []) F9 G h0 hkc_9 rfl (kX12_write l g E F n r26 a0 47 r27 h0 er27) qv_RX12_402 ⟨rfl, rfl, (Nat.le_of_ble_eq_true rfl), (Nat.le_of_ble_eq_true rfl)⟩ rfl hl.1 rfl (Nat.le_of_ble_eq_true rfl) ⟨Nat.zero_le _, Nat.zero_le _⟩ dX12_writeTrough_51 (fun H locs G => ?_)
      refine lv_aload_n hx hb dX12_writeTrough_54 rfl (lv_at hl 0 rfl) ?_
      refine lv_aload_n hx hb dX12_writeTrough_55 rfl (lv_at hl 0 rfl) ?_
      refine lv_iload_n hx hb dX12_writeTrough_56 rfl (lv_at hl 1 rfl) ?_
      refine lv_iconst (v := 5) hx hb dX12_writeTrough_57 (by decide) ?_
      obtain ⟨r28, er28, hsp⟩ := hk_b hsp
      refine hk_callVi (As := [.int x1, .int 5]) (rest := [.ref (g.1 + a0)]) F9 G h0 hkc_9 rfl (kX12_of l g E F n r27 a0 x1 5 r28 h0 er28) qv_RX12_61 ⟨rfl, rfl, (Nat.le_of_ble_eq_true rfl), (Nat.le_of_ble_eq_true rfl)⟩ rfl hl.1 rfl (Nat.le_of_ble_eq_true rfl) ⟨Nat.zero_le _, Nat.zero_le _⟩ dX12_writeTrough_58 (fun H locs G => ?_)
      obtain ⟨r29, er29, hsp⟩ := hk_b hsp
      refine hk_callVv (As := [.int r28.1]) (rest := []) F9 G h0 hkc_9 rfl (kX12_wN2 l g E F n r28.2 a0 r28.1 r29 h0 er29) qv_RX12_399 ⟨rfl, rfl, (Nat.le_of_ble_eq_true rfl), (Nat.le_of_ble_eq_true rfl)⟩ rfl hl.1 rfl (Nat.le_of_ble_eq_true rfl) ⟨Nat.zero_le _, Nat.zero_le _⟩ dX12_writeTrough_61 (fun H locs G => ?_)
      refine lv_aload_n hx hb dX12_writeTrough_64 rfl (lv_at hl 0 rfl) ?_
      refine lv_iload_n hx hb dX12_writeTrough_65 rfl (lv_at hl 1 rfl) ?_
      obtain ⟨r30, er30, hsp⟩ := hk_b hsp
      refine hk_callVi (As := [.int x1]) (rest := []) F9 G h0 hkc_9 rfl (kX12_isReady l g E F n r29 a0 x1 r30 h0 er30) qv_RX12_99 ⟨rfl, rfl, (Nat.le_of_ble_eq_true rfl), (Nat.le_of_ble_eq_true rfl)⟩ rfl hl.1 rfl (Nat.le_of_ble_eq_true rfl) ⟨Nat.zero_le _, Nat.zero_le _⟩ dX12_writeTrough_66 (fun H locs G => ?_)
      refine lv_if_eq (tgt := 78) hx hb dX12_writeTrough_69 (by decide) (fun c31 => ?_) (fun c31 => ?_)
      · have hsp := hk_t c31 hsp
        obtain rfl := hk_s hsp
        exact W.vret hx hb hr (fun t ht hW => hk_end G ht hW) G.2.1.2.2 dX12_writeTrough_78
      · have hsp := hk_f c31 hsp
        refine lv_aload_n hx hb dX12_writeTrough_72 rfl (lv_at hl 0 rfl) ?_
        refine lv_bipush (v := 33) hx hb dX12_writeTrough_73 (by decide) ?_
        obtain ⟨r32, er32, hsp⟩ := hk_b hsp
        refine hk_callVv (As := [.int 33]) (rest := []) F9 G h0 hkc_9 rfl (kX12_write l g E F n r30.2 a0 33 r32 h0 er32) qv_RX12_402 ⟨rfl, rfl, (Nat.le_of_ble_eq_true rfl), (Nat.le_of_ble_eq_true rfl)⟩ rfl hl.1 rfl (Nat.le_of_ble_eq_true rfl) ⟨Nat.zero_le _, Nat.zero_le _⟩ dX12_writeTrough_75 (fun H locs G => ?_)
        obtain rfl := hk_s hsp
        exact W.vret hx hb hr (fun t ht hW => hk_end G ht hW) G.2.1.2.2 dX12_writeTrough_78
def mX12_writeTroughs_12 (E : hk_E) (F : Nat) (a0 : Nat)  (k : hk_S → Int32 → Option (Int32 × hk_S)) : Nat → hk_S → Int32 → Option (Int32 × hk_S)
  | 0 => fun _ _ => none
  | f + 1 => fun S z3 =>
    (E.2.2.2 a0 0).bind (fun r4 => if E.2.1 r4 = 13 then (if hk_ok 9 (E.2.2.1 r4) then (if (S r4 9) ≤ z3 then (k S z3) else (if z3 ≤ 0 then ((mX12_writeTrough E F S a0 z3).bind (fun r8 => hk_let (z3 + 1) (fun y9 => mX12_writeTroughs_12 E F a0 k f r8 y9))) else ((mX12_write E F S a0 32).bind (fun r10 => (mX12_writeTrough E F r10 a0 z3).bind (fun r11 => hk_let (z3 + 1) (fun y12 => mX12_writeTroughs_12 E F a0 k f r11 y12)))))) else none) else none)
def mX12_writeTroughs (E : hk_E) (F : Nat) (S : hk_S) (a0 : Nat) : Option (Int32 × hk_S) :=
hk_let (hk_up S a0 15 0) (fun S1 => hk_let (hk_up S1 a0 14 0) (fun S2 => mX12_writeTroughs_12 E F a0  (fun S13 z14 => some ((S13 a0 14), S13)) F S2 0))
set_option maxHeartbeats 4000000 in
set_option maxRecDepth 100000 in
theorem kX12_writeTroughs (l : Launch) (g : hk_G) (E : hk_E) (F n : Nat) (S : hk_S) (a0 : Nat) (o : Int32 × hk_S) (h0 : E.2.1 a0 = 10) (hsp : mX12_writeTroughs E F S a0 = some o) : Met l yX12_writeTroughs (hk_ws yX12_writeTroughs cX12_writeTroughs 2 (Option.some Jvm.ClassFile.FieldType.int)) ({ frames := 5, cells := 0, slots := 0, locals := 105 }) (hk_Pc g E S n [.ref (g.1 + a0)]) (hk_Q g E o.2 n (some (.int o.1))) 0 0 (hk_A g) := by
  refine Met.ofW (cc := cX12_writeTroughs) (maxL := 2) (ret := (Option.some Jvm.ClassFile.FieldType.int)) (by decide) rfl ?_
  intro p e s m args below meth c s₁ B hml hv
  obtain ⟨rfl, G⟩ := hk_begin hv
  have F9 : CallFix p m c cX12_writeTroughs 2 s [.ref (g.1 + a0)].toArray hk_W RX12 := ⟨B.exec, B.bytes, hml, findClass_of_methodNamed B.named, fun w h => atoms_spec (ws := hk_ws yX12_writeTroughs cX12_writeTroughs 2 (Option.some Jvm.ClassFile.FieldType.int)) B.pre w (hk_in h)⟩
  have hx := B.exec
  have hb := B.bytes
  have hr := B.returns
  have hlocks := B.notSynchronized
  have hl := lv_entry ([.ref (g.1 + a0)]) (n := 2) (Nat.le_of_ble_eq_true rfl)
  rw [lg_entry_eq]
  generalize (lg_sl ([.ref (g.1 + a0)]) ++ List.replicate (2 - (lg_sl ([.ref (g.1 + a0)])).length) Slot.unset).toArray = ls at hl ⊢
  have hl : lv_has ls 2 [(0, .ref (g.1 + a0))] := hl
  unfold mX12_writeTroughs at hsp
  have G : hk_GG g E S n s s.heap [] := G
  have L_12 : ∀   (k : hk_S → Int32 → Option (Int32 × hk_S)) (_ : ∀ (S : hk_S) (z3 : Int32) (H : Heap) (locs : List Loc) (ls : Array Slot), k S z3 = some o → hk_GG g E S n s H locs → lv_has ls 2 [(0, .ref (g.1 + a0)), (1, .int z3)] → W p l e (headSpec (hk_ws yX12_writeTroughs cX12_writeTroughs 2 (Option.some Jvm.ClassFile.FieldType.int)) ({ frames := 5, cells := 0, slots := 0, locals := 105 })).room s m [.ref (g.1 + a0)].toArray below meth c H locs 0 0 (MQ below (hk_Q g E o.2 n (some (.int o.1))) [.ref (g.1 + a0)].toArray s 0 0 (hk_A g)) (F0 m 44 ls [])) (f : Nat) (S : hk_S) (z3 : Int32) (H : Heap) (locs : List Loc) (ls : Array Slot), mX12_writeTroughs_12 E F a0 k f S z3 = some o → hk_GG g E S n s H locs → lv_has ls 2 [(0, .ref (g.1 + a0)), (1, .int z3)] → W p l e (headSpec (hk_ws yX12_writeTroughs cX12_writeTroughs 2 (Option.some Jvm.ClassFile.FieldType.int)) ({ frames := 5, cells := 0, slots := 0, locals := 105 })).room s m [.ref (g.1 + a0)].toArray below meth c H locs 0 0 (MQ below (hk_Q g E o.2 n (some (.int o.1))) [.ref (g.1 + a0)].toArray s 0 0 (hk_A g)) (F0 m 12 ls []) := by
    intro   k hk f
    induction f with
    | zero =>
      intro S z3 H locs ls hsp
      exact nomatch hsp
    | succ f ih =>
      intro S z3 H locs ls hsp G hl
      rw [mX12_writeTroughs_12] at hsp
      refine lv_iload_n hx hb dX12_writeTroughs_12 rfl (lv_at hl 1 rfl) ?_
      refine lv_aload_n hx hb dX12_writeTroughs_13 rfl (lv_at hl 0 rfl) ?_
      obtain ⟨r4, er4, hsp⟩ := hk_b hsp
      obtain ⟨kr4, hsp⟩ := hk_k hsp
      refine hk_getR F9 G h0 hkc_9 (k := 0) (by decide) qw_1584 rfl er4 dX12_writeTroughs_14 ?_
      refine lv_bipush (v := 9) hx hb dX12_writeTroughs_17 (by decide) ?_
      obtain ⟨q5, hsp⟩ := hk_k hsp
      refine hk_iald (j := 9) F9 G kr4 rfl q5 (by decide) dX12_writeTroughs_19 ?_
      refine lv_icmp_ge (tgt := 44) hx hb dX12_writeTroughs_20 (by decide) (fun c6 => ?_) (fun c6 => ?_)
      · have hsp := hk_t c6 hsp
        exact hk S z3 _ _ _ hsp G (lv_sub hl [0, 1] rfl)
      · have hsp := hk_f c6 hsp
        refine lv_iload_n hx hb dX12_writeTroughs_23 rfl (lv_at hl 1 rfl) ?_
        refine lv_if_le (tgt := 33) hx hb dX12_writeTroughs_24 (by decide) (fun c7 => ?_) (fun c7 => ?_)
        · have hsp := hk_t c7 hsp
          refine lv_aload_n hx hb dX12_writeTroughs_33 rfl (lv_at hl 0 rfl) ?_
          refine lv_iload_n hx hb dX12_writeTroughs_34 rfl (lv_at hl 1 rfl) ?_
          obtain ⟨r8, er8, hsp⟩ := hk_b hsp
          refine hk_callVv (As := [.int z3]) (rest := []) F9 G h0 hkc_9 rfl (kX12_writeTrough l g E F n S a0 z3 r8 h0 er8) qv_RX12_405 ⟨rfl, rfl, (Nat.le_of_ble_eq_true rfl), (Nat.le_of_ble_eq_true rfl)⟩ rfl hl.1 rfl (Nat.le_of_ble_eq_true rfl) ⟨Nat.zero_le _, Nat.zero_le _⟩ dX12_writeTroughs_35 (fun H locs G => ?_)
          obtain ⟨y9, ey9, hsp⟩ := hk_l hsp
          refine lv_iinc (v := y9) (lv' := [(1, .int y9), (0, .ref (g.1 + a0))]) hx hb dX12_writeTroughs_38 hl (k := 1) rfl (by rw [← ey9]; rfl) (by decide) rfl (fun ls hl => ?_)
          refine lv_goto (tgt := 12) hx hb dX12_writeTroughs_41 (by decide) ?_
          exact ih r8 y9 _ _ _ hsp G (lv_sub hl [1, 0] rfl)
        · have hsp := hk_f c7 hsp
          refine lv_aload_n hx hb dX12_writeTroughs_27 rfl (lv_at hl 0 rfl) ?_
          refine lv_bipush (v := 32) hx hb dX12_writeTroughs_28 (by decide) ?_
          obtain ⟨r10, er10, hsp⟩ := hk_b hsp
          refine hk_callVv (As := [.int 32]) (rest := []) F9 G h0 hkc_9 rfl (kX12_write l g E F n S a0 32 r10 h0 er10) qv_RX12_402 ⟨rfl, rfl, (Nat.le_of_ble_eq_true rfl), (Nat.le_of_ble_eq_true rfl)⟩ rfl hl.1 rfl (Nat.le_of_ble_eq_true rfl) ⟨Nat.zero_le _, Nat.zero_le _⟩ dX12_writeTroughs_30 (fun H locs G => ?_)
          refine lv_aload_n hx hb dX12_writeTroughs_33 rfl (lv_at hl 0 rfl) ?_
          refine lv_iload_n hx hb dX12_writeTroughs_34 rfl (lv_at hl 1 rfl) ?_
          obtain ⟨r11, er11, hsp⟩ := hk_b hsp
          refine hk_callVv (As := [.int z3]) (rest := []) F9 G h0 hkc_9 rfl (kX12_writeTrough l g E F n r10 a0 z3 r11 h0 er11) qv_RX12_405 ⟨rfl, rfl, (Nat.le_of_ble_eq_true rfl), (Nat.le_of_ble_eq_true rfl)⟩ rfl hl.1 rfl (Nat.le_of_ble_eq_true rfl) ⟨Nat.zero_le _, Nat.zero_le _⟩ dX12_writeTroughs_35 (fun H locs G => ?_)
          obtain ⟨y12, ey12, hsp⟩ := hk_l hsp
          refine lv_iinc (v := y12) (lv' := [(1, .int y12), (0, .ref (g.1 + a0))]) hx hb dX12_writeTroughs_38 hl (k := 1) rfl (by rw [← ey12]; rfl) (by decide) rfl (fun ls hl => ?_)
          refine lv_goto (tgt := 12) hx hb dX12_writeTroughs_41 (by decide) ?_
          exact ih r11 y12 _ _ _ hsp G (lv_sub hl [1, 0] rfl)
  refine lv_aload_n hx hb dX12_writeTroughs_0 rfl (lv_at hl 0 rfl) ?_
  refine lv_iconst (v := 0) hx hb dX12_writeTroughs_1 (by decide) ?_
  obtain ⟨S1, eS1, hsp⟩ := hk_l hsp
  refine hk_putI F9 G h0 hkc_9 (k := 15) (by decide) qw_1599 rfl rfl (tyX12_ok 15 (by decide)) rfl rfl dX12_writeTroughs_2 (fun H locs G => ?_)
  rw [eS1] at G
  refine lv_aload_n hx hb dX12_writeTroughs_5 rfl (lv_at hl 0 rfl) ?_
  refine lv_iconst (v := 0) hx hb dX12_writeTroughs_6 (by decide) ?_
  obtain ⟨S2, eS2, hsp⟩ := hk_l hsp
  refine hk_putI F9 G h0 hkc_9 (k := 14) (by decide) qw_1598 rfl rfl (tyX12_ok 14 (by decide)) rfl rfl dX12_writeTroughs_7 (fun H locs G => ?_)
  rw [eS2] at G
  refine lv_iconst (v := 0) hx hb dX12_writeTroughs_10 (by decide) ?_
  refine lv_istore_n (lv' := [(1, .int 0), (0, .ref (g.1 + a0))]) hx hb dX12_writeTroughs_11 rfl hl (by decide) rfl (fun ls hl => ?_)
  refine L_12   _ ?_ F S2 0 _ _ _ hsp G (lv_sub hl [1, 0] rfl)
  intro S13 z14 H locs ls hsp G hl
  refine lv_aload_n hx hb dX12_writeTroughs_44 rfl (lv_at hl 0 rfl) ?_
  refine hk_getI F9 G h0 hkc_9 (k := 14) (by decide) qw_1598 rfl dX12_writeTroughs_45 ?_
  obtain rfl := hk_s hsp
  exact W.iret (v := (S13 a0 14)) hx hb hr (fun t ht hW => hk_end G ht hW) G.2.1.2.2 dX12_writeTroughs_48
