def mX1_clear (E : hk_E) (F : Nat) (S : hk_S) (a0 : Nat) : Option (hk_S) :=
hk_let (hk_up S a0 0 0) (fun S1 => hk_let (hk_up S1 a0 1 60) (fun S2 => hk_let (hk_up S2 a0 2 0) (fun S3 => hk_let (hk_up S3 a0 3 0) (fun S4 => some (S4)))))
set_option maxHeartbeats 4000000 in
set_option maxRecDepth 100000 in
theorem kX1_clear (l : Launch) (g : hk_G) (E : hk_E) (F n : Nat) (S : hk_S) (a0 : Nat) (o : hk_S) (h0 : E.2.1 a0 = 1) (hsp : mX1_clear E F S a0 = some o) : Met l yX1_clear (hk_ws yX1_clear cX1_clear 1 (Option.none : Option Jvm.ClassFile.FieldType)) ({ frames := 0, cells := 0, slots := 0, locals := 0 }) (hk_Pc g E S n [.ref (g.1 + a0)]) (hk_Q g E o n none) 0 0 (hk_A g) := by
  refine Met.ofW (cc := cX1_clear) (maxL := 1) (ret := (Option.none : Option Jvm.ClassFile.FieldType)) (by decide) rfl ?_
  intro p e s m args below meth c s₁ B hml hv
  obtain ⟨rfl, G⟩ := hk_begin hv
  have F9 : CallFix p m c cX1_clear 1 s [.ref (g.1 + a0)].toArray hk_W RX1 := ⟨B.exec, B.bytes, hml, findClass_of_methodNamed B.named, fun w h => atoms_spec (ws := hk_ws yX1_clear cX1_clear 1 (Option.none : Option Jvm.ClassFile.FieldType)) B.pre w (hk_in h)⟩
  have hx := B.exec
  have hb := B.bytes
  have hr := B.returns
  have hlocks := B.notSynchronized
  have hl := lv_entry ([.ref (g.1 + a0)]) (n := 1) (Nat.le_of_ble_eq_true rfl)
  rw [lg_entry_eq]
  generalize (lg_sl ([.ref (g.1 + a0)]) ++ List.replicate (1 - (lg_sl ([.ref (g.1 + a0)])).length) Slot.unset).toArray = ls at hl ⊢
  have hl : lv_has ls 1 [(0, .ref (g.1 + a0))] := hl
  unfold mX1_clear at hsp
  have G : hk_GG g E S n s s.heap [] := G
  refine lv_aload_n hx hb dX1_clear_0 rfl (lv_at hl 0 rfl) ?_
  refine lv_iconst (v := 0) hx hb dX1_clear_1 (by decide) ?_
  obtain ⟨S1, eS1, hsp⟩ := hk_l hsp
  refine hk_putI F9 G h0 hkc_0 (k := 0) (by decide) qw_41 rfl rfl (tyX1_ok 0 (by decide)) rfl rfl dX1_clear_2 (fun H locs G => ?_)
  rw [eS1] at G
  refine lv_aload_n hx hb dX1_clear_5 rfl (lv_at hl 0 rfl) ?_
  refine lv_bipush (v := 60) hx hb dX1_clear_6 (by decide) ?_
  obtain ⟨S2, eS2, hsp⟩ := hk_l hsp
  refine hk_putI F9 G h0 hkc_0 (k := 1) (by decide) qw_44 rfl rfl (tyX1_ok 1 (by decide)) rfl rfl dX1_clear_8 (fun H locs G => ?_)
  rw [eS2] at G
  refine lv_aload_n hx hb dX1_clear_11 rfl (lv_at hl 0 rfl) ?_
  refine lv_iconst (v := 0) hx hb dX1_clear_12 (by decide) ?_
  obtain ⟨S3, eS3, hsp⟩ := hk_l hsp
  refine hk_putI F9 G h0 hkc_0 (k := 2) (by decide) qw_46 rfl rfl (tyX1_ok 2 (by decide)) rfl rfl dX1_clear_13 (fun H locs G => ?_)
  rw [eS3] at G
  refine lv_aload_n hx hb dX1_clear_16 rfl (lv_at hl 0 rfl) ?_
  refine lv_iconst (v := 0) hx hb dX1_clear_17 (by decide) ?_
  obtain ⟨S4, eS4, hsp⟩ := hk_l hsp
  refine hk_putI F9 G h0 hkc_0 (k := 3) (by decide) qw_48 rfl rfl (tyX1_ok 3 (by decide)) rfl rfl dX1_clear_18 (fun H locs G => ?_)
  rw [eS4] at G
  obtain rfl := hk_s hsp
  exact W.vret hx hb hr (fun t ht hW => hk_end G ht hW) G.2.1.2.2 dX1_clear_21
def mX1_become_34 (E : hk_E) (F : Nat) (a0 : Nat) (a1 : Nat)  (k : hk_S → Int32 → Option (hk_S)) : Nat → hk_S → Int32 → Option (hk_S)
  | 0 => fun _ _ => none
  | f + 1 => fun S z5 =>
    if 3 ≤ z5 then (k S z5) else ((E.2.2.2 a0 4).bind (fun r7 => if E.2.1 r7 = 13 then ((E.2.2.2 a1 4).bind (fun r8 => if E.2.1 r8 = 13 then (if hk_ok z5 (E.2.2.1 r8) then (if hk_ok z5 (E.2.2.1 r7) then (hk_let (hk_up S r7 ((z5).toNatClampNeg) (S r8 ((z5).toNatClampNeg))) (fun S11 => hk_let (z5 + 1) (fun y12 => mX1_become_34 E F a0 a1 k f S11 y12))) else none) else none) else none)) else none))
def mX1_become (E : hk_E) (F : Nat) (S : hk_S) (a0 : Nat) (a1 : Nat) : Option (hk_S) :=
hk_let (hk_up S a0 0 (S a1 0)) (fun S1 => hk_let (hk_up S1 a0 1 (S1 a1 1)) (fun S2 => hk_let (hk_up S2 a0 2 (S2 a1 2)) (fun S3 => hk_let (hk_up S3 a0 3 (S3 a1 3)) (fun S4 => mX1_become_34 E F a0 a1  (fun S13 z14 => some (S13)) F S4 0))))
set_option maxHeartbeats 4000000 in
set_option maxRecDepth 100000 in
theorem kX1_become (l : Launch) (g : hk_G) (E : hk_E) (F n : Nat) (S : hk_S) (a0 : Nat) (a1 : Nat) (o : hk_S) (h0 : E.2.1 a0 = 1) (h1 : E.2.1 a1 = 1) (hsp : mX1_become E F S a0 a1 = some o) : Met l yX1_become (hk_ws yX1_become cX1_become 3 (Option.none : Option Jvm.ClassFile.FieldType)) ({ frames := 0, cells := 0, slots := 0, locals := 0 }) (hk_Pc g E S n [.ref (g.1 + a0), .ref (g.1 + a1)]) (hk_Q g E o n none) 0 0 (hk_A g) := by
  refine Met.ofW (cc := cX1_become) (maxL := 3) (ret := (Option.none : Option Jvm.ClassFile.FieldType)) (by decide) rfl ?_
  intro p e s m args below meth c s₁ B hml hv
  obtain ⟨rfl, G⟩ := hk_begin hv
  have F9 : CallFix p m c cX1_become 3 s [.ref (g.1 + a0), .ref (g.1 + a1)].toArray hk_W RX1 := ⟨B.exec, B.bytes, hml, findClass_of_methodNamed B.named, fun w h => atoms_spec (ws := hk_ws yX1_become cX1_become 3 (Option.none : Option Jvm.ClassFile.FieldType)) B.pre w (hk_in h)⟩
  have hx := B.exec
  have hb := B.bytes
  have hr := B.returns
  have hlocks := B.notSynchronized
  have hl := lv_entry ([.ref (g.1 + a0), .ref (g.1 + a1)]) (n := 3) (Nat.le_of_ble_eq_true rfl)
  rw [lg_entry_eq]
  generalize (lg_sl ([.ref (g.1 + a0), .ref (g.1 + a1)]) ++ List.replicate (3 - (lg_sl ([.ref (g.1 + a0), .ref (g.1 + a1)])).length) Slot.unset).toArray = ls at hl ⊢
  have hl : lv_has ls 3 [(0, .ref (g.1 + a0)), (1, .ref (g.1 + a1))] := hl
  unfold mX1_become at hsp
  have G : hk_GG g E S n s s.heap [] := G
  have L_34 : ∀   (k : hk_S → Int32 → Option (hk_S)) (_ : ∀ (S : hk_S) (z5 : Int32) (H : Heap) (locs : List Loc) (ls : Array Slot), k S z5 = some o → hk_GG g E S n s H locs → lv_has ls 3 [(0, .ref (g.1 + a0)), (1, .ref (g.1 + a1)), (2, .int z5)] → W p l e (headSpec (hk_ws yX1_become cX1_become 3 (Option.none : Option Jvm.ClassFile.FieldType)) ({ frames := 0, cells := 0, slots := 0, locals := 0 })).room s m [.ref (g.1 + a0), .ref (g.1 + a1)].toArray below meth c H locs 0 0 (MQ below (hk_Q g E o n none) [.ref (g.1 + a0), .ref (g.1 + a1)].toArray s 0 0 (hk_A g)) (F0 m 57 ls [])) (f : Nat) (S : hk_S) (z5 : Int32) (H : Heap) (locs : List Loc) (ls : Array Slot), mX1_become_34 E F a0 a1 k f S z5 = some o → hk_GG g E S n s H locs → lv_has ls 3 [(0, .ref (g.1 + a0)), (1, .ref (g.1 + a1)), (2, .int z5)] → W p l e (headSpec (hk_ws yX1_become cX1_become 3 (Option.none : Option Jvm.ClassFile.FieldType)) ({ frames := 0, cells := 0, slots := 0, locals := 0 })).room s m [.ref (g.1 + a0), .ref (g.1 + a1)].toArray below meth c H locs 0 0 (MQ below (hk_Q g E o n none) [.ref (g.1 + a0), .ref (g.1 + a1)].toArray s 0 0 (hk_A g)) (F0 m 34 ls []) := by
    intro   k hk f
    induction f with
    | zero =>
      intro S z5 H locs ls hsp
      exact nomatch hsp
    | succ f ih =>
      intro S z5 H locs ls hsp G hl
      rw [mX1_become_34] at hsp
      refine lv_iload_n hx hb dX1_become_34 rfl (lv_at hl 2 rfl) ?_
      refine lv_iconst (v := 3) hx hb dX1_become_35 (by decide) ?_
      refine lv_icmp_ge (tgt := 57) hx hb dX1_become_36 (by decide) (fun c6 => ?_) (fun c6 => ?_)
      · have hsp := hk_t c6 hsp
        exact hk S z5 _ _ _ hsp G (lv_sub hl [0, 1, 2] rfl)
      · have hsp := hk_f c6 hsp
        refine lv_aload_n hx hb dX1_become_39 rfl (lv_at hl 0 rfl) ?_
        obtain ⟨r7, er7, hsp⟩ := hk_b hsp
        obtain ⟨kr7, hsp⟩ := hk_k hsp
        refine hk_getR F9 G h0 hkc_0 (k := 4) (by decide) qw_50 rfl er7 dX1_become_40 ?_
        refine lv_iload_n hx hb dX1_become_43 rfl (lv_at hl 2 rfl) ?_
        refine lv_aload_n hx hb dX1_become_44 rfl (lv_at hl 1 rfl) ?_
        obtain ⟨r8, er8, hsp⟩ := hk_b hsp
        obtain ⟨kr8, hsp⟩ := hk_k hsp
        refine hk_getR F9 G h1 hkc_0 (k := 4) (by decide) qw_50 rfl er8 dX1_become_45 ?_
        refine lv_iload_n hx hb dX1_become_48 rfl (lv_at hl 2 rfl) ?_
        obtain ⟨q9, hsp⟩ := hk_k hsp
        refine hk_iald (j := (z5).toNatClampNeg) F9 G kr8 rfl q9 rfl dX1_become_49 ?_
        obtain ⟨q10, hsp⟩ := hk_k hsp
        obtain ⟨S11, eS11, hsp⟩ := hk_l hsp
        refine hk_iast (j := (z5).toNatClampNeg) F9 G kr7 rfl q10 rfl dX1_become_50 (fun H locs G => ?_)
        rw [eS11] at G
        obtain ⟨y12, ey12, hsp⟩ := hk_l hsp
        refine lv_iinc (v := y12) (lv' := [(2, .int y12), (0, .ref (g.1 + a0)), (1, .ref (g.1 + a1))]) hx hb dX1_become_51 hl (k := 2) rfl (by rw [← ey12]; rfl) (by decide) rfl (fun ls hl => ?_)
        refine lv_goto (tgt := 34) hx hb dX1_become_54 (by decide) ?_
        exact ih S11 y12 _ _ _ hsp G (lv_sub hl [1, 2, 0] rfl)
  refine lv_aload_n hx hb dX1_become_0 rfl (lv_at hl 0 rfl) ?_
  refine lv_aload_n hx hb dX1_become_1 rfl (lv_at hl 1 rfl) ?_
  refine hk_getI F9 G h1 hkc_0 (k := 0) (by decide) qw_41 rfl dX1_become_2 ?_
  obtain ⟨S1, eS1, hsp⟩ := hk_l hsp
  refine hk_putI F9 G h0 hkc_0 (k := 0) (by decide) qw_41 rfl rfl (tyX1_ok 0 (by decide)) rfl rfl dX1_become_5 (fun H locs G => ?_)
  rw [eS1] at G
  refine lv_aload_n hx hb dX1_become_8 rfl (lv_at hl 0 rfl) ?_
  refine lv_aload_n hx hb dX1_become_9 rfl (lv_at hl 1 rfl) ?_
  refine hk_getI F9 G h1 hkc_0 (k := 1) (by decide) qw_44 rfl dX1_become_10 ?_
  obtain ⟨S2, eS2, hsp⟩ := hk_l hsp
  refine hk_putI F9 G h0 hkc_0 (k := 1) (by decide) qw_44 rfl rfl (tyX1_ok 1 (by decide)) rfl rfl dX1_become_13 (fun H locs G => ?_)
  rw [eS2] at G
  refine lv_aload_n hx hb dX1_become_16 rfl (lv_at hl 0 rfl) ?_
  refine lv_aload_n hx hb dX1_become_17 rfl (lv_at hl 1 rfl) ?_
  refine hk_getI F9 G h1 hkc_0 (k := 2) (by decide) qw_46 rfl dX1_become_18 ?_
  obtain ⟨S3, eS3, hsp⟩ := hk_l hsp
  refine hk_putI F9 G h0 hkc_0 (k := 2) (by decide) qw_46 rfl rfl (tyX1_ok 2 (by decide)) rfl rfl dX1_become_21 (fun H locs G => ?_)
  rw [eS3] at G
  refine lv_aload_n hx hb dX1_become_24 rfl (lv_at hl 0 rfl) ?_
  refine lv_aload_n hx hb dX1_become_25 rfl (lv_at hl 1 rfl) ?_
  refine hk_getI F9 G h1 hkc_0 (k := 3) (by decide) qw_48 rfl dX1_become_26 ?_
  obtain ⟨S4, eS4, hsp⟩ := hk_l hsp
  refine hk_putI F9 G h0 hkc_0 (k := 3) (by decide) qw_48 rfl rfl (tyX1_ok 3 (by decide)) rfl rfl dX1_become_29 (fun H locs G => ?_)
  rw [eS4] at G
  refine lv_iconst (v := 0) hx hb dX1_become_32 (by decide) ?_
  refine lv_istore_n (lv' := [(2, .int 0), (0, .ref (g.1 + a0)), (1, .ref (g.1 + a1))]) hx hb dX1_become_33 rfl hl (by decide) rfl (fun ls hl => ?_)
  refine L_34   _ ?_ F S4 0 _ _ _ hsp G (lv_sub hl [1, 2, 0] rfl)
  intro S13 z14 H locs ls hsp G hl
  obtain rfl := hk_s hsp
  exact W.vret hx hb hr (fun t ht hW => hk_end G ht hW) G.2.1.2.2 dX1_become_57
def mX1_presentDay (E : hk_E) (F : Nat) (S : hk_S) (a0 : Nat) : Option (Int32 × hk_S) :=
some (((S a0 0) / 24), S)
set_option maxHeartbeats 4000000 in
set_option maxRecDepth 100000 in
theorem kX1_presentDay (l : Launch) (g : hk_G) (E : hk_E) (F n : Nat) (S : hk_S) (a0 : Nat) (o : Int32 × hk_S) (h0 : E.2.1 a0 = 1) (hsp : mX1_presentDay E F S a0 = some o) : Met l yX1_presentDay (hk_ws yX1_presentDay cX1_presentDay 1 (Option.some Jvm.ClassFile.FieldType.int)) ({ frames := 0, cells := 0, slots := 0, locals := 0 }) (hk_Pc g E S n [.ref (g.1 + a0)]) (hk_Q g E o.2 n (some (.int o.1))) 0 0 (hk_A g) := by
  refine Met.ofW (cc := cX1_presentDay) (maxL := 1) (ret := (Option.some Jvm.ClassFile.FieldType.int)) (by decide) rfl ?_
  intro p e s m args below meth c s₁ B hml hv
  obtain ⟨rfl, G⟩ := hk_begin hv
  have F9 : CallFix p m c cX1_presentDay 1 s [.ref (g.1 + a0)].toArray hk_W RX1 := ⟨B.exec, B.bytes, hml, findClass_of_methodNamed B.named, fun w h => atoms_spec (ws := hk_ws yX1_presentDay cX1_presentDay 1 (Option.some Jvm.ClassFile.FieldType.int)) B.pre w (hk_in h)⟩
  have hx := B.exec
  have hb := B.bytes
  have hr := B.returns
  have hlocks := B.notSynchronized
  have hl := lv_entry ([.ref (g.1 + a0)]) (n := 1) (Nat.le_of_ble_eq_true rfl)
  rw [lg_entry_eq]
  generalize (lg_sl ([.ref (g.1 + a0)]) ++ List.replicate (1 - (lg_sl ([.ref (g.1 + a0)])).length) Slot.unset).toArray = ls at hl ⊢
  have hl : lv_has ls 1 [(0, .ref (g.1 + a0))] := hl
  unfold mX1_presentDay at hsp
  have G : hk_GG g E S n s s.heap [] := G
  refine lv_aload_n hx hb dX1_presentDay_0 rfl (lv_at hl 0 rfl) ?_
  refine hk_getI F9 G h0 hkc_0 (k := 0) (by decide) qw_41 rfl dX1_presentDay_1 ?_
  refine lv_bipush (v := 24) hx hb dX1_presentDay_4 (by decide) ?_
  refine lv_idiv hx hb dX1_presentDay_6 (by decide) ?_
  obtain rfl := hk_s hsp
  exact W.iret (v := ((S a0 0) / 24)) hx hb hr (fun t ht hW => hk_end G ht hW) G.2.1.2.2 dX1_presentDay_7
def mX1_hasHoursLeft (E : hk_E) (F : Nat) (S : hk_S) (a0 : Nat) (x1 : Int32) : Option (Int32 × hk_S) :=
if (2000 - (S a0 0)) < x1 then (some (0, S)) else (some (1, S))
set_option maxHeartbeats 4000000 in
set_option maxRecDepth 100000 in
theorem kX1_hasHoursLeft (l : Launch) (g : hk_G) (E : hk_E) (F n : Nat) (S : hk_S) (a0 : Nat) (x1 : Int32) (o : Int32 × hk_S) (h0 : E.2.1 a0 = 1) (hsp : mX1_hasHoursLeft E F S a0 x1 = some o) : Met l yX1_hasHoursLeft (hk_ws yX1_hasHoursLeft cX1_hasHoursLeft 2 (Option.some Jvm.ClassFile.FieldType.boolean)) ({ frames := 0, cells := 0, slots := 0, locals := 0 }) (hk_Pc g E S n [.ref (g.1 + a0), .int x1]) (hk_Q g E o.2 n (some (.int o.1))) 0 0 (hk_A g) := by
  refine Met.ofW (cc := cX1_hasHoursLeft) (maxL := 2) (ret := (Option.some Jvm.ClassFile.FieldType.boolean)) (by decide) rfl ?_
  intro p e s m args below meth c s₁ B hml hv
  obtain ⟨rfl, G⟩ := hk_begin hv
  have F9 : CallFix p m c cX1_hasHoursLeft 2 s [.ref (g.1 + a0), .int x1].toArray hk_W RX1 := ⟨B.exec, B.bytes, hml, findClass_of_methodNamed B.named, fun w h => atoms_spec (ws := hk_ws yX1_hasHoursLeft cX1_hasHoursLeft 2 (Option.some Jvm.ClassFile.FieldType.boolean)) B.pre w (hk_in h)⟩
  have hx := B.exec
  have hb := B.bytes
  have hr := B.returns
  have hlocks := B.notSynchronized
  have hl := lv_entry ([.ref (g.1 + a0), .int x1]) (n := 2) (Nat.le_of_ble_eq_true rfl)
  rw [lg_entry_eq]
  generalize (lg_sl ([.ref (g.1 + a0), .int x1]) ++ List.replicate (2 - (lg_sl ([.ref (g.1 + a0), .int x1])).length) Slot.unset).toArray = ls at hl ⊢
  have hl : lv_has ls 2 [(0, .ref (g.1 + a0)), (1, .int x1)] := hl
  unfold mX1_hasHoursLeft at hsp
  have G : hk_GG g E S n s s.heap [] := G
  refine lv_iload_n hx hb dX1_hasHoursLeft_0 rfl (lv_at hl 1 rfl) ?_
  refine lv_sipush (v := 2000) hx hb dX1_hasHoursLeft_1 (by decide) ?_
  refine lv_aload_n hx hb dX1_hasHoursLeft_4 rfl (lv_at hl 0 rfl) ?_
  refine hk_getI F9 G h0 hkc_0 (k := 0) (by decide) qw_41 rfl dX1_hasHoursLeft_5 ?_
  refine lv_isub hx hb dX1_hasHoursLeft_8 ?_
  refine lv_icmp_gt (tgt := 16) hx hb dX1_hasHoursLeft_9 (by decide) (fun c1 => ?_) (fun c1 => ?_)
  · have hsp := hk_t c1 hsp
    refine lv_iconst (v := 0) hx hb dX1_hasHoursLeft_16 (by decide) ?_
    obtain rfl := hk_s hsp
    exact W.zret (v := 0) hx hb hr (hk_z (by decide)).1 (fun t ht hW => hk_end G ht hW) G.2.1.2.2 dX1_hasHoursLeft_17
  · have hsp := hk_f c1 hsp
    refine lv_iconst (v := 1) hx hb dX1_hasHoursLeft_12 (by decide) ?_
    refine lv_goto (tgt := 17) hx hb dX1_hasHoursLeft_13 (by decide) ?_
    obtain rfl := hk_s hsp
    exact W.zret (v := 1) hx hb hr (hk_z (by decide)).1 (fun t ht hW => hk_end G ht hW) G.2.1.2.2 dX1_hasHoursLeft_17
def mX1_hasRoomForMonsoon (E : hk_E) (F : Nat) (S : hk_S) (a0 : Nat) : Option (Int32 × hk_S) :=
if 3 ≤ (S a0 3) then (some (0, S)) else (some (1, S))
set_option maxHeartbeats 4000000 in
set_option maxRecDepth 100000 in
theorem kX1_hasRoomForMonsoon (l : Launch) (g : hk_G) (E : hk_E) (F n : Nat) (S : hk_S) (a0 : Nat) (o : Int32 × hk_S) (h0 : E.2.1 a0 = 1) (hsp : mX1_hasRoomForMonsoon E F S a0 = some o) : Met l yX1_hasRoomForMonsoon (hk_ws yX1_hasRoomForMonsoon cX1_hasRoomForMonsoon 1 (Option.some Jvm.ClassFile.FieldType.boolean)) ({ frames := 0, cells := 0, slots := 0, locals := 0 }) (hk_Pc g E S n [.ref (g.1 + a0)]) (hk_Q g E o.2 n (some (.int o.1))) 0 0 (hk_A g) := by
  refine Met.ofW (cc := cX1_hasRoomForMonsoon) (maxL := 1) (ret := (Option.some Jvm.ClassFile.FieldType.boolean)) (by decide) rfl ?_
  intro p e s m args below meth c s₁ B hml hv
  obtain ⟨rfl, G⟩ := hk_begin hv
  have F9 : CallFix p m c cX1_hasRoomForMonsoon 1 s [.ref (g.1 + a0)].toArray hk_W RX1 := ⟨B.exec, B.bytes, hml, findClass_of_methodNamed B.named, fun w h => atoms_spec (ws := hk_ws yX1_hasRoomForMonsoon cX1_hasRoomForMonsoon 1 (Option.some Jvm.ClassFile.FieldType.boolean)) B.pre w (hk_in h)⟩
  have hx := B.exec
  have hb := B.bytes
  have hr := B.returns
  have hlocks := B.notSynchronized
  have hl := lv_entry ([.ref (g.1 + a0)]) (n := 1) (Nat.le_of_ble_eq_true rfl)
  rw [lg_entry_eq]
  generalize (lg_sl ([.ref (g.1 + a0)]) ++ List.replicate (1 - (lg_sl ([.ref (g.1 + a0)])).length) Slot.unset).toArray = ls at hl ⊢
  have hl : lv_has ls 1 [(0, .ref (g.1 + a0))] := hl
  unfold mX1_hasRoomForMonsoon at hsp
  have G : hk_GG g E S n s s.heap [] := G
  refine lv_aload_n hx hb dX1_hasRoomForMonsoon_0 rfl (lv_at hl 0 rfl) ?_
  refine hk_getI F9 G h0 hkc_0 (k := 3) (by decide) qw_48 rfl dX1_hasRoomForMonsoon_1 ?_
  refine lv_iconst (v := 3) hx hb dX1_hasRoomForMonsoon_4 (by decide) ?_
  refine lv_icmp_ge (tgt := 12) hx hb dX1_hasRoomForMonsoon_5 (by decide) (fun c1 => ?_) (fun c1 => ?_)
  · have hsp := hk_t c1 hsp
    refine lv_iconst (v := 0) hx hb dX1_hasRoomForMonsoon_12 (by decide) ?_
    obtain rfl := hk_s hsp
    exact W.zret (v := 0) hx hb hr (hk_z (by decide)).1 (fun t ht hW => hk_end G ht hW) G.2.1.2.2 dX1_hasRoomForMonsoon_13
  · have hsp := hk_f c1 hsp
    refine lv_iconst (v := 1) hx hb dX1_hasRoomForMonsoon_8 (by decide) ?_
    refine lv_goto (tgt := 13) hx hb dX1_hasRoomForMonsoon_9 (by decide) ?_
    obtain rfl := hk_s hsp
    exact W.zret (v := 1) hx hb hr (hk_z (by decide)).1 (fun t ht hW => hk_end G ht hW) G.2.1.2.2 dX1_hasRoomForMonsoon_13
def mX1_addMonsoon (E : hk_E) (F : Nat) (S : hk_S) (a0 : Nat) (x1 : Int32) : Option (hk_S) :=
if (S a0 3) < 0 then (some (S)) else (if 3 ≤ (S a0 3) then (some (S)) else ((E.2.2.2 a0 4).bind (fun r3 => if E.2.1 r3 = 13 then (if hk_ok (S a0 3) (E.2.2.1 r3) then (hk_let (hk_up S r3 (((S a0 3)).toNatClampNeg) x1) (fun S5 => hk_let (hk_up S5 a0 3 ((S5 a0 3) + 1)) (fun S6 => some (S6)))) else none) else none)))
set_option maxHeartbeats 4000000 in
set_option maxRecDepth 100000 in
theorem kX1_addMonsoon (l : Launch) (g : hk_G) (E : hk_E) (F n : Nat) (S : hk_S) (a0 : Nat) (x1 : Int32) (o : hk_S) (h0 : E.2.1 a0 = 1) (hsp : mX1_addMonsoon E F S a0 x1 = some o) : Met l yX1_addMonsoon (hk_ws yX1_addMonsoon cX1_addMonsoon 2 (Option.none : Option Jvm.ClassFile.FieldType)) ({ frames := 0, cells := 0, slots := 0, locals := 0 }) (hk_Pc g E S n [.ref (g.1 + a0), .int x1]) (hk_Q g E o n none) 0 0 (hk_A g) := by
  refine Met.ofW (cc := cX1_addMonsoon) (maxL := 2) (ret := (Option.none : Option Jvm.ClassFile.FieldType)) (by decide) rfl ?_
  intro p e s m args below meth c s₁ B hml hv
  obtain ⟨rfl, G⟩ := hk_begin hv
  have F9 : CallFix p m c cX1_addMonsoon 2 s [.ref (g.1 + a0), .int x1].toArray hk_W RX1 := ⟨B.exec, B.bytes, hml, findClass_of_methodNamed B.named, fun w h => atoms_spec (ws := hk_ws yX1_addMonsoon cX1_addMonsoon 2 (Option.none : Option Jvm.ClassFile.FieldType)) B.pre w (hk_in h)⟩
  have hx := B.exec
  have hb := B.bytes
  have hr := B.returns
  have hlocks := B.notSynchronized
  have hl := lv_entry ([.ref (g.1 + a0), .int x1]) (n := 2) (Nat.le_of_ble_eq_true rfl)
  rw [lg_entry_eq]
  generalize (lg_sl ([.ref (g.1 + a0), .int x1]) ++ List.replicate (2 - (lg_sl ([.ref (g.1 + a0), .int x1])).length) Slot.unset).toArray = ls at hl ⊢
  have hl : lv_has ls 2 [(0, .ref (g.1 + a0)), (1, .int x1)] := hl
  unfold mX1_addMonsoon at hsp
  have G : hk_GG g E S n s s.heap [] := G
  refine lv_aload_n hx hb dX1_addMonsoon_0 rfl (lv_at hl 0 rfl) ?_
  refine hk_getI F9 G h0 hkc_0 (k := 3) (by decide) qw_48 rfl dX1_addMonsoon_1 ?_
  refine lv_if_lt (tgt := 35) hx hb dX1_addMonsoon_4 (by decide) (fun c1 => ?_) (fun c1 => ?_)
  · have hsp := hk_t c1 hsp
    obtain rfl := hk_s hsp
    exact W.vret hx hb hr (fun t ht hW => hk_end G ht hW) G.2.1.2.2 dX1_addMonsoon_35
  · have hsp := hk_f c1 hsp
    refine lv_aload_n hx hb dX1_addMonsoon_7 rfl (lv_at hl 0 rfl) ?_
    refine hk_getI F9 G h0 hkc_0 (k := 3) (by decide) qw_48 rfl dX1_addMonsoon_8 ?_
    refine lv_iconst (v := 3) hx hb dX1_addMonsoon_11 (by decide) ?_
    refine lv_icmp_ge (tgt := 35) hx hb dX1_addMonsoon_12 (by decide) (fun c2 => ?_) (fun c2 => ?_)
    · have hsp := hk_t c2 hsp
      obtain rfl := hk_s hsp
      exact W.vret hx hb hr (fun t ht hW => hk_end G ht hW) G.2.1.2.2 dX1_addMonsoon_35
    · have hsp := hk_f c2 hsp
      refine lv_aload_n hx hb dX1_addMonsoon_15 rfl (lv_at hl 0 rfl) ?_
      obtain ⟨r3, er3, hsp⟩ := hk_b hsp
      obtain ⟨kr3, hsp⟩ := hk_k hsp
      refine hk_getR F9 G h0 hkc_0 (k := 4) (by decide) qw_50 rfl er3 dX1_addMonsoon_16 ?_
      refine lv_aload_n hx hb dX1_addMonsoon_19 rfl (lv_at hl 0 rfl) ?_
      refine hk_getI F9 G h0 hkc_0 (k := 3) (by decide) qw_48 rfl dX1_addMonsoon_20 ?_
      refine lv_iload_n hx hb dX1_addMonsoon_23 rfl (lv_at hl 1 rfl) ?_
      obtain ⟨q4, hsp⟩ := hk_k hsp
      obtain ⟨S5, eS5, hsp⟩ := hk_l hsp
      refine hk_iast (j := ((S a0 3)).toNatClampNeg) F9 G kr3 rfl q4 rfl dX1_addMonsoon_24 (fun H locs G => ?_)
      rw [eS5] at G
      refine lv_aload_n hx hb dX1_addMonsoon_25 rfl (lv_at hl 0 rfl) ?_
      refine lv_dup hx hb dX1_addMonsoon_26 rfl ?_
      refine hk_getI F9 G h0 hkc_0 (k := 3) (by decide) qw_48 rfl dX1_addMonsoon_27 ?_
      refine lv_iconst (v := 1) hx hb dX1_addMonsoon_30 (by decide) ?_
      refine lv_iadd hx hb dX1_addMonsoon_31 ?_
      obtain ⟨S6, eS6, hsp⟩ := hk_l hsp
      refine hk_putI F9 G h0 hkc_0 (k := 3) (by decide) qw_48 rfl rfl (tyX1_ok 3 (by decide)) rfl rfl dX1_addMonsoon_32 (fun H locs G => ?_)
      rw [eS6] at G
      obtain rfl := hk_s hsp
      exact W.vret hx hb hr (fun t ht hW => hk_end G ht hW) G.2.1.2.2 dX1_addMonsoon_35
def mX1_hasMonsoonAt_2 (E : hk_E) (F : Nat) (a0 : Nat) (x1 : Int32)  (k : hk_S → Int32 → Option (Int32 × hk_S)) : Nat → hk_S → Int32 → Option (Int32 × hk_S)
  | 0 => fun _ _ => none
  | f + 1 => fun S z1 =>
    if (S a0 3) ≤ z1 then (k S z1) else (if 3 ≤ z1 then (k S z1) else ((E.2.2.2 a0 4).bind (fun r4 => if E.2.1 r4 = 13 then (if hk_ok z1 (E.2.2.1 r4) then (hk_let (x1 - ((S r4 ((z1).toNatClampNeg)) * 24)) (fun y6 => if y6 < 0 then (hk_let (z1 + 1) (fun y8 => mX1_hasMonsoonAt_2 E F a0 x1 k f S y8)) else (if 168 ≤ y6 then (hk_let (z1 + 1) (fun y10 => mX1_hasMonsoonAt_2 E F a0 x1 k f S y10)) else (some (1, S))))) else none) else none)))
def mX1_hasMonsoonAt (E : hk_E) (F : Nat) (S : hk_S) (a0 : Nat) (x1 : Int32) : Option (Int32 × hk_S) :=
mX1_hasMonsoonAt_2 E F a0 x1  (fun S11 z12 => some (0, S11)) F S 0
set_option maxHeartbeats 4000000 in
set_option maxRecDepth 100000 in
theorem kX1_hasMonsoonAt (l : Launch) (g : hk_G) (E : hk_E) (F n : Nat) (S : hk_S) (a0 : Nat) (x1 : Int32) (o : Int32 × hk_S) (h0 : E.2.1 a0 = 1) (hsp : mX1_hasMonsoonAt E F S a0 x1 = some o) : Met l yX1_hasMonsoonAt (hk_ws yX1_hasMonsoonAt cX1_hasMonsoonAt 4 (Option.some Jvm.ClassFile.FieldType.boolean)) ({ frames := 0, cells := 0, slots := 0, locals := 0 }) (hk_Pc g E S n [.ref (g.1 + a0), .int x1]) (hk_Q g E o.2 n (some (.int o.1))) 0 0 (hk_A g) := by
  refine Met.ofW (cc := cX1_hasMonsoonAt) (maxL := 4) (ret := (Option.some Jvm.ClassFile.FieldType.boolean)) (by decide) rfl ?_
  intro p e s m args below meth c s₁ B hml hv
  obtain ⟨rfl, G⟩ := hk_begin hv
  have F9 : CallFix p m c cX1_hasMonsoonAt 4 s [.ref (g.1 + a0), .int x1].toArray hk_W RX1 := ⟨B.exec, B.bytes, hml, findClass_of_methodNamed B.named, fun w h => atoms_spec (ws := hk_ws yX1_hasMonsoonAt cX1_hasMonsoonAt 4 (Option.some Jvm.ClassFile.FieldType.boolean)) B.pre w (hk_in h)⟩
  have hx := B.exec
  have hb := B.bytes
  have hr := B.returns
  have hlocks := B.notSynchronized
  have hl := lv_entry ([.ref (g.1 + a0), .int x1]) (n := 4) (Nat.le_of_ble_eq_true rfl)
  rw [lg_entry_eq]
  generalize (lg_sl ([.ref (g.1 + a0), .int x1]) ++ List.replicate (4 - (lg_sl ([.ref (g.1 + a0), .int x1])).length) Slot.unset).toArray = ls at hl ⊢
  have hl : lv_has ls 4 [(0, .ref (g.1 + a0)), (1, .int x1)] := hl
  unfold mX1_hasMonsoonAt at hsp
  have G : hk_GG g E S n s s.heap [] := G
  have L_2 : ∀   (k : hk_S → Int32 → Option (Int32 × hk_S)) (_ : ∀ (S : hk_S) (z1 : Int32) (H : Heap) (locs : List Loc) (ls : Array Slot), k S z1 = some o → hk_GG g E S n s H locs → lv_has ls 4 [(0, .ref (g.1 + a0)), (1, .int x1), (2, .int z1)] → W p l e (headSpec (hk_ws yX1_hasMonsoonAt cX1_hasMonsoonAt 4 (Option.some Jvm.ClassFile.FieldType.boolean)) ({ frames := 0, cells := 0, slots := 0, locals := 0 })).room s m [.ref (g.1 + a0), .int x1].toArray below meth c H locs 0 0 (MQ below (hk_Q g E o.2 n (some (.int o.1))) [.ref (g.1 + a0), .int x1].toArray s 0 0 (hk_A g)) (F0 m 46 ls [])) (f : Nat) (S : hk_S) (z1 : Int32) (H : Heap) (locs : List Loc) (ls : Array Slot), mX1_hasMonsoonAt_2 E F a0 x1 k f S z1 = some o → hk_GG g E S n s H locs → lv_has ls 4 [(0, .ref (g.1 + a0)), (1, .int x1), (2, .int z1)] → W p l e (headSpec (hk_ws yX1_hasMonsoonAt cX1_hasMonsoonAt 4 (Option.some Jvm.ClassFile.FieldType.boolean)) ({ frames := 0, cells := 0, slots := 0, locals := 0 })).room s m [.ref (g.1 + a0), .int x1].toArray below meth c H locs 0 0 (MQ below (hk_Q g E o.2 n (some (.int o.1))) [.ref (g.1 + a0), .int x1].toArray s 0 0 (hk_A g)) (F0 m 2 ls []) := by
    intro   k hk f
    induction f with
    | zero =>
      intro S z1 H locs ls hsp
      exact nomatch hsp
    | succ f ih =>
      intro S z1 H locs ls hsp G hl
      rw [mX1_hasMonsoonAt_2] at hsp
      refine lv_iload_n hx hb dX1_hasMonsoonAt_2 rfl (lv_at hl 2 rfl) ?_
      refine lv_aload_n hx hb dX1_hasMonsoonAt_3 rfl (lv_at hl 0 rfl) ?_
      refine hk_getI F9 G h0 hkc_0 (k := 3) (by decide) qw_48 rfl dX1_hasMonsoonAt_4 ?_
      refine lv_icmp_ge (tgt := 46) hx hb dX1_hasMonsoonAt_7 (by decide) (fun c2 => ?_) (fun c2 => ?_)
      · have hsp := hk_t c2 hsp
        exact hk S z1 _ _ _ hsp G (lv_sub hl [0, 1, 2] rfl)
      · have hsp := hk_f c2 hsp
        refine lv_iload_n hx hb dX1_hasMonsoonAt_10 rfl (lv_at hl 2 rfl) ?_
        refine lv_iconst (v := 3) hx hb dX1_hasMonsoonAt_11 (by decide) ?_
        refine lv_icmp_ge (tgt := 46) hx hb dX1_hasMonsoonAt_12 (by decide) (fun c3 => ?_) (fun c3 => ?_)
        · have hsp := hk_t c3 hsp
          exact hk S z1 _ _ _ hsp G (lv_sub hl [0, 1, 2] rfl)
        · have hsp := hk_f c3 hsp
          refine lv_iload_n hx hb dX1_hasMonsoonAt_15 rfl (lv_at hl 1 rfl) ?_
          refine lv_aload_n hx hb dX1_hasMonsoonAt_16 rfl (lv_at hl 0 rfl) ?_
          obtain ⟨r4, er4, hsp⟩ := hk_b hsp
          obtain ⟨kr4, hsp⟩ := hk_k hsp
          refine hk_getR F9 G h0 hkc_0 (k := 4) (by decide) qw_50 rfl er4 dX1_hasMonsoonAt_17 ?_
          refine lv_iload_n hx hb dX1_hasMonsoonAt_20 rfl (lv_at hl 2 rfl) ?_
          obtain ⟨q5, hsp⟩ := hk_k hsp
          refine hk_iald (j := (z1).toNatClampNeg) F9 G kr4 rfl q5 rfl dX1_hasMonsoonAt_21 ?_
          refine lv_bipush (v := 24) hx hb dX1_hasMonsoonAt_22 (by decide) ?_
          refine lv_imul hx hb dX1_hasMonsoonAt_24 ?_
          refine lv_isub hx hb dX1_hasMonsoonAt_25 ?_
          obtain ⟨y6, ey6, hsp⟩ := hk_l hsp
          refine hk_top ey6 ?_
          refine lv_istore_n (lv' := [(3, .int y6), (0, .ref (g.1 + a0)), (1, .int x1), (2, .int z1)]) hx hb dX1_hasMonsoonAt_26 rfl hl (by decide) rfl (fun ls hl => ?_)
          refine lv_iload_n hx hb dX1_hasMonsoonAt_27 rfl (lv_at hl 0 rfl) ?_
          refine lv_if_lt (tgt := 40) hx hb dX1_hasMonsoonAt_28 (by decide) (fun c7 => ?_) (fun c7 => ?_)
          · have hsp := hk_t c7 hsp
            obtain ⟨y8, ey8, hsp⟩ := hk_l hsp
            refine lv_iinc (v := y8) (lv' := [(2, .int y8), (3, .int y6), (0, .ref (g.1 + a0)), (1, .int x1)]) hx hb dX1_hasMonsoonAt_40 hl (k := 3) rfl (by rw [← ey8]; rfl) (by decide) rfl (fun ls hl => ?_)
            refine lv_goto (tgt := 2) hx hb dX1_hasMonsoonAt_43 (by decide) ?_
            exact ih S y8 _ _ _ hsp G (lv_sub hl [2, 3, 0] rfl)
          · have hsp := hk_f c7 hsp
            refine lv_iload_n hx hb dX1_hasMonsoonAt_31 rfl (lv_at hl 0 rfl) ?_
            refine lv_sipush (v := 168) hx hb dX1_hasMonsoonAt_32 (by decide) ?_
            refine lv_icmp_ge (tgt := 40) hx hb dX1_hasMonsoonAt_35 (by decide) (fun c9 => ?_) (fun c9 => ?_)
            · have hsp := hk_t c9 hsp
              obtain ⟨y10, ey10, hsp⟩ := hk_l hsp
              refine lv_iinc (v := y10) (lv' := [(2, .int y10), (3, .int y6), (0, .ref (g.1 + a0)), (1, .int x1)]) hx hb dX1_hasMonsoonAt_40 hl (k := 3) rfl (by rw [← ey10]; rfl) (by decide) rfl (fun ls hl => ?_)
              refine lv_goto (tgt := 2) hx hb dX1_hasMonsoonAt_43 (by decide) ?_
              exact ih S y10 _ _ _ hsp G (lv_sub hl [2, 3, 0] rfl)
            · have hsp := hk_f c9 hsp
              refine lv_iconst (v := 1) hx hb dX1_hasMonsoonAt_38 (by decide) ?_
              obtain rfl := hk_s hsp
              exact W.zret (v := 1) hx hb hr (hk_z (by decide)).1 (fun t ht hW => hk_end G ht hW) G.2.1.2.2 dX1_hasMonsoonAt_39
  refine lv_iconst (v := 0) hx hb dX1_hasMonsoonAt_0 (by decide) ?_
  refine lv_istore_n (lv' := [(2, .int 0), (0, .ref (g.1 + a0)), (1, .int x1)]) hx hb dX1_hasMonsoonAt_1 rfl hl (by decide) rfl (fun ls hl => ?_)
  refine L_2   _ ?_ F S 0 _ _ _ hsp G (lv_sub hl [1, 2, 0] rfl)
  intro S11 z12 H locs ls hsp G hl
  refine lv_iconst (v := 0) hx hb dX1_hasMonsoonAt_46 (by decide) ?_
  obtain rfl := hk_s hsp
  exact W.zret (v := 0) hx hb hr (hk_z (by decide)).1 (fun t ht hW => hk_end G ht hW) G.2.1.2.2 dX1_hasMonsoonAt_47
def mX1_hoursToNextMonsoon_4 (E : hk_E) (F : Nat) (a0 : Nat)  (k : hk_S → Int32 → Int32 → Option (Int32 × hk_S)) : Nat → hk_S → Int32 → Int32 → Option (Int32 × hk_S)
  | 0 => fun _ _ _ => none
  | f + 1 => fun S z1 z2 =>
    if (S a0 3) ≤ z2 then (k S z1 z2) else (if 3 ≤ z2 then (k S z1 z2) else ((E.2.2.2 a0 4).bind (fun r5 => if E.2.1 r5 = 13 then (if hk_ok z2 (E.2.2.1 r5) then (hk_let (((S r5 ((z2).toNatClampNeg)) * 24) - (S a0 0)) (fun y7 => if y7 ≤ 0 then (hk_let (z2 + 1) (fun y9 => mX1_hoursToNextMonsoon_4 E F a0 k f S z1 y9)) else (if z1 = (-1) then (hk_let (z2 + 1) (fun y11 => mX1_hoursToNextMonsoon_4 E F a0 k f S y7 y11)) else (if z1 ≤ y7 then (hk_let (z2 + 1) (fun y13 => mX1_hoursToNextMonsoon_4 E F a0 k f S z1 y13)) else (hk_let (z2 + 1) (fun y14 => mX1_hoursToNextMonsoon_4 E F a0 k f S y7 y14)))))) else none) else none)))
def mX1_hoursToNextMonsoon (E : hk_E) (F : Nat) (S : hk_S) (a0 : Nat) : Option (Int32 × hk_S) :=
mX1_hoursToNextMonsoon_4 E F a0  (fun S15 z16 z17 => some (z16, S15)) F S (-1) 0
set_option maxHeartbeats 4000000 in
set_option maxRecDepth 100000 in
theorem kX1_hoursToNextMonsoon (l : Launch) (g : hk_G) (E : hk_E) (F n : Nat) (S : hk_S) (a0 : Nat) (o : Int32 × hk_S) (h0 : E.2.1 a0 = 1) (hsp : mX1_hoursToNextMonsoon E F S a0 = some o) : Met l yX1_hoursToNextMonsoon (hk_ws yX1_hoursToNextMonsoon cX1_hoursToNextMonsoon 4 (Option.some Jvm.ClassFile.FieldType.int)) ({ frames := 0, cells := 0, slots := 0, locals := 0 }) (hk_Pc g E S n [.ref (g.1 + a0)]) (hk_Q g E o.2 n (some (.int o.1))) 0 0 (hk_A g) := by
  refine Met.ofW (cc := cX1_hoursToNextMonsoon) (maxL := 4) (ret := (Option.some Jvm.ClassFile.FieldType.int)) (by decide) rfl ?_
  intro p e s m args below meth c s₁ B hml hv
  obtain ⟨rfl, G⟩ := hk_begin hv
  have F9 : CallFix p m c cX1_hoursToNextMonsoon 4 s [.ref (g.1 + a0)].toArray hk_W RX1 := ⟨B.exec, B.bytes, hml, findClass_of_methodNamed B.named, fun w h => atoms_spec (ws := hk_ws yX1_hoursToNextMonsoon cX1_hoursToNextMonsoon 4 (Option.some Jvm.ClassFile.FieldType.int)) B.pre w (hk_in h)⟩
  have hx := B.exec
  have hb := B.bytes
  have hr := B.returns
  have hlocks := B.notSynchronized
  have hl := lv_entry ([.ref (g.1 + a0)]) (n := 4) (Nat.le_of_ble_eq_true rfl)
  rw [lg_entry_eq]
  generalize (lg_sl ([.ref (g.1 + a0)]) ++ List.replicate (4 - (lg_sl ([.ref (g.1 + a0)])).length) Slot.unset).toArray = ls at hl ⊢
  have hl : lv_has ls 4 [(0, .ref (g.1 + a0))] := hl
  unfold mX1_hoursToNextMonsoon at hsp
  have G : hk_GG g E S n s s.heap [] := G
  have L_4 : ∀   (k : hk_S → Int32 → Int32 → Option (Int32 × hk_S)) (_ : ∀ (S : hk_S) (z1 : Int32) (z2 : Int32) (H : Heap) (locs : List Loc) (ls : Array Slot), k S z1 z2 = some o → hk_GG g E S n s H locs → lv_has ls 4 [(0, .ref (g.1 + a0)), (1, .int z1), (2, .int z2)] → W p l e (headSpec (hk_ws yX1_hoursToNextMonsoon cX1_hoursToNextMonsoon 4 (Option.some Jvm.ClassFile.FieldType.int)) ({ frames := 0, cells := 0, slots := 0, locals := 0 })).room s m [.ref (g.1 + a0)].toArray below meth c H locs 0 0 (MQ below (hk_Q g E o.2 n (some (.int o.1))) [.ref (g.1 + a0)].toArray s 0 0 (hk_A g)) (F0 m 54 ls [])) (f : Nat) (S : hk_S) (z1 : Int32) (z2 : Int32) (H : Heap) (locs : List Loc) (ls : Array Slot), mX1_hoursToNextMonsoon_4 E F a0 k f S z1 z2 = some o → hk_GG g E S n s H locs → lv_has ls 4 [(0, .ref (g.1 + a0)), (1, .int z1), (2, .int z2)] → W p l e (headSpec (hk_ws yX1_hoursToNextMonsoon cX1_hoursToNextMonsoon 4 (Option.some Jvm.ClassFile.FieldType.int)) ({ frames := 0, cells := 0, slots := 0, locals := 0 })).room s m [.ref (g.1 + a0)].toArray below meth c H locs 0 0 (MQ below (hk_Q g E o.2 n (some (.int o.1))) [.ref (g.1 + a0)].toArray s 0 0 (hk_A g)) (F0 m 4 ls []) := by
    intro   k hk f
    induction f with
    | zero =>
      intro S z1 z2 H locs ls hsp
      exact nomatch hsp
    | succ f ih =>
      intro S z1 z2 H locs ls hsp G hl
      rw [mX1_hoursToNextMonsoon_4] at hsp
      refine lv_iload_n hx hb dX1_hoursToNextMonsoon_4 rfl (lv_at hl 2 rfl) ?_
      refine lv_aload_n hx hb dX1_hoursToNextMonsoon_5 rfl (lv_at hl 0 rfl) ?_
      refine hk_getI F9 G h0 hkc_0 (k := 3) (by decide) qw_48 rfl dX1_hoursToNextMonsoon_6 ?_
      refine lv_icmp_ge (tgt := 54) hx hb dX1_hoursToNextMonsoon_9 (by decide) (fun c3 => ?_) (fun c3 => ?_)
      · have hsp := hk_t c3 hsp
        exact hk S z1 z2 _ _ _ hsp G (lv_sub hl [0, 1, 2] rfl)
      · have hsp := hk_f c3 hsp
        refine lv_iload_n hx hb dX1_hoursToNextMonsoon_12 rfl (lv_at hl 2 rfl) ?_
        refine lv_iconst (v := 3) hx hb dX1_hoursToNextMonsoon_13 (by decide) ?_
        refine lv_icmp_ge (tgt := 54) hx hb dX1_hoursToNextMonsoon_14 (by decide) (fun c4 => ?_) (fun c4 => ?_)
        · have hsp := hk_t c4 hsp
          exact hk S z1 z2 _ _ _ hsp G (lv_sub hl [0, 1, 2] rfl)
        · have hsp := hk_f c4 hsp
          refine lv_aload_n hx hb dX1_hoursToNextMonsoon_17 rfl (lv_at hl 0 rfl) ?_
          obtain ⟨r5, er5, hsp⟩ := hk_b hsp
          obtain ⟨kr5, hsp⟩ := hk_k hsp
          refine hk_getR F9 G h0 hkc_0 (k := 4) (by decide) qw_50 rfl er5 dX1_hoursToNextMonsoon_18 ?_
          refine lv_iload_n hx hb dX1_hoursToNextMonsoon_21 rfl (lv_at hl 2 rfl) ?_
          obtain ⟨q6, hsp⟩ := hk_k hsp
          refine hk_iald (j := (z2).toNatClampNeg) F9 G kr5 rfl q6 rfl dX1_hoursToNextMonsoon_22 ?_
          refine lv_bipush (v := 24) hx hb dX1_hoursToNextMonsoon_23 (by decide) ?_
          refine lv_imul hx hb dX1_hoursToNextMonsoon_25 ?_
          refine lv_aload_n hx hb dX1_hoursToNextMonsoon_26 rfl (lv_at hl 0 rfl) ?_
          refine hk_getI F9 G h0 hkc_0 (k := 0) (by decide) qw_41 rfl dX1_hoursToNextMonsoon_27 ?_
          refine lv_isub hx hb dX1_hoursToNextMonsoon_30 ?_
          obtain ⟨y7, ey7, hsp⟩ := hk_l hsp
          refine hk_top ey7 ?_
          refine lv_istore_n (lv' := [(3, .int y7), (0, .ref (g.1 + a0)), (1, .int z1), (2, .int z2)]) hx hb dX1_hoursToNextMonsoon_31 rfl hl (by decide) rfl (fun ls hl => ?_)
          refine lv_iload_n hx hb dX1_hoursToNextMonsoon_32 rfl (lv_at hl 0 rfl) ?_
          refine lv_if_le (tgt := 48) hx hb dX1_hoursToNextMonsoon_33 (by decide) (fun c8 => ?_) (fun c8 => ?_)
          · have hsp := hk_t c8 hsp
            obtain ⟨y9, ey9, hsp⟩ := hk_l hsp
            refine lv_iinc (v := y9) (lv' := [(2, .int y9), (3, .int y7), (0, .ref (g.1 + a0)), (1, .int z1)]) hx hb dX1_hoursToNextMonsoon_48 hl (k := 3) rfl (by rw [← ey9]; rfl) (by decide) rfl (fun ls hl => ?_)
            refine lv_goto (tgt := 4) hx hb dX1_hoursToNextMonsoon_51 (by decide) ?_
            exact ih S z1 y9 _ _ _ hsp G (lv_sub hl [2, 3, 0] rfl)
          · have hsp := hk_f c8 hsp
            refine lv_iload_n hx hb dX1_hoursToNextMonsoon_36 rfl (lv_at hl 2 rfl) ?_
            refine lv_iconst (v := (-1)) hx hb dX1_hoursToNextMonsoon_37 (by decide) ?_
            refine lv_icmp_eq (tgt := 46) hx hb dX1_hoursToNextMonsoon_38 (by decide) (fun c10 => ?_) (fun c10 => ?_)
            · have hsp := hk_t c10 hsp
              refine lv_iload_n hx hb dX1_hoursToNextMonsoon_46 rfl (lv_at hl 0 rfl) ?_
              refine lv_istore_n (lv' := [(1, .int y7), (3, .int y7), (0, .ref (g.1 + a0)), (2, .int z2)]) hx hb dX1_hoursToNextMonsoon_47 rfl hl (by decide) rfl (fun ls hl => ?_)
              obtain ⟨y11, ey11, hsp⟩ := hk_l hsp
              refine lv_iinc (v := y11) (lv' := [(2, .int y11), (1, .int y7), (3, .int y7), (0, .ref (g.1 + a0))]) hx hb dX1_hoursToNextMonsoon_48 hl (k := 3) rfl (by rw [← ey11]; rfl) (by decide) rfl (fun ls hl => ?_)
              refine lv_goto (tgt := 4) hx hb dX1_hoursToNextMonsoon_51 (by decide) ?_
              exact ih S y7 y11 _ _ _ hsp G (lv_sub hl [3, 1, 0] rfl)
            · have hsp := hk_f c10 hsp
              refine lv_iload_n hx hb dX1_hoursToNextMonsoon_41 rfl (lv_at hl 0 rfl) ?_
              refine lv_iload_n hx hb dX1_hoursToNextMonsoon_42 rfl (lv_at hl 2 rfl) ?_
              refine lv_icmp_ge (tgt := 48) hx hb dX1_hoursToNextMonsoon_43 (by decide) (fun c12 => ?_) (fun c12 => ?_)
              · have hsp := hk_t c12 hsp
                obtain ⟨y13, ey13, hsp⟩ := hk_l hsp
                refine lv_iinc (v := y13) (lv' := [(2, .int y13), (3, .int y7), (0, .ref (g.1 + a0)), (1, .int z1)]) hx hb dX1_hoursToNextMonsoon_48 hl (k := 3) rfl (by rw [← ey13]; rfl) (by decide) rfl (fun ls hl => ?_)
                refine lv_goto (tgt := 4) hx hb dX1_hoursToNextMonsoon_51 (by decide) ?_
                exact ih S z1 y13 _ _ _ hsp G (lv_sub hl [2, 3, 0] rfl)
              · have hsp := hk_f c12 hsp
                refine lv_iload_n hx hb dX1_hoursToNextMonsoon_46 rfl (lv_at hl 0 rfl) ?_
                refine lv_istore_n (lv' := [(1, .int y7), (3, .int y7), (0, .ref (g.1 + a0)), (2, .int z2)]) hx hb dX1_hoursToNextMonsoon_47 rfl hl (by decide) rfl (fun ls hl => ?_)
                obtain ⟨y14, ey14, hsp⟩ := hk_l hsp
                refine lv_iinc (v := y14) (lv' := [(2, .int y14), (1, .int y7), (3, .int y7), (0, .ref (g.1 + a0))]) hx hb dX1_hoursToNextMonsoon_48 hl (k := 3) rfl (by rw [← ey14]; rfl) (by decide) rfl (fun ls hl => ?_)
                refine lv_goto (tgt := 4) hx hb dX1_hoursToNextMonsoon_51 (by decide) ?_
                exact ih S y7 y14 _ _ _ hsp G (lv_sub hl [3, 1, 0] rfl)
  refine lv_iconst (v := (-1)) hx hb dX1_hoursToNextMonsoon_0 (by decide) ?_
  refine lv_istore_n (lv' := [(1, .int (-1)), (0, .ref (g.1 + a0))]) hx hb dX1_hoursToNextMonsoon_1 rfl hl (by decide) rfl (fun ls hl => ?_)
  refine lv_iconst (v := 0) hx hb dX1_hoursToNextMonsoon_2 (by decide) ?_
  refine lv_istore_n (lv' := [(2, .int 0), (1, .int (-1)), (0, .ref (g.1 + a0))]) hx hb dX1_hoursToNextMonsoon_3 rfl hl (by decide) rfl (fun ls hl => ?_)
  refine L_4   _ ?_ F S (-1) 0 _ _ _ hsp G (lv_sub hl [2, 1, 0] rfl)
  intro S15 z16 z17 H locs ls hsp G hl
  refine lv_iload_n hx hb dX1_hoursToNextMonsoon_54 rfl (lv_at hl 1 rfl) ?_
  obtain rfl := hk_s hsp
  exact W.iret (v := z16) hx hb hr (fun t ht hW => hk_end G ht hW) G.2.1.2.2 dX1_hoursToNextMonsoon_55
def mX1_humidityOf (E : hk_E) (F : Nat) (S : hk_S) (a0 : Nat) (x1 : Int32) : Option (Int32 × hk_S) :=
(mX1_hasMonsoonAt E F S a0 x1).bind (fun r1 => if r1.1 = 0 then (some ((r1.2 a0 1), r1.2)) else (some (95, r1.2)))
set_option maxHeartbeats 4000000 in
set_option maxRecDepth 100000 in
theorem kX1_humidityOf (l : Launch) (g : hk_G) (E : hk_E) (F n : Nat) (S : hk_S) (a0 : Nat) (x1 : Int32) (o : Int32 × hk_S) (h0 : E.2.1 a0 = 1) (hsp : mX1_humidityOf E F S a0 x1 = some o) : Met l yX1_humidityOf (hk_ws yX1_humidityOf cX1_humidityOf 2 (Option.some Jvm.ClassFile.FieldType.int)) ({ frames := 1, cells := 0, slots := 0, locals := 23 }) (hk_Pc g E S n [.ref (g.1 + a0), .int x1]) (hk_Q g E o.2 n (some (.int o.1))) 0 0 (hk_A g) := by
  refine Met.ofW (cc := cX1_humidityOf) (maxL := 2) (ret := (Option.some Jvm.ClassFile.FieldType.int)) (by decide) rfl ?_
  intro p e s m args below meth c s₁ B hml hv
  obtain ⟨rfl, G⟩ := hk_begin hv
  have F9 : CallFix p m c cX1_humidityOf 2 s [.ref (g.1 + a0), .int x1].toArray hk_W RX1 := ⟨B.exec, B.bytes, hml, findClass_of_methodNamed B.named, fun w h => atoms_spec (ws := hk_ws yX1_humidityOf cX1_humidityOf 2 (Option.some Jvm.ClassFile.FieldType.int)) B.pre w (hk_in h)⟩
  have hx := B.exec
  have hb := B.bytes
  have hr := B.returns
  have hlocks := B.notSynchronized
  have hl := lv_entry ([.ref (g.1 + a0), .int x1]) (n := 2) (Nat.le_of_ble_eq_true rfl)
  rw [lg_entry_eq]
  generalize (lg_sl ([.ref (g.1 + a0), .int x1]) ++ List.replicate (2 - (lg_sl ([.ref (g.1 + a0), .int x1])).length) Slot.unset).toArray = ls at hl ⊢
  have hl : lv_has ls 2 [(0, .ref (g.1 + a0)), (1, .int x1)] := hl
  unfold mX1_humidityOf at hsp
  have G : hk_GG g E S n s s.heap [] := G
  refine lv_aload_n hx hb dX1_humidityOf_0 rfl (lv_at hl 0 rfl) ?_
  refine lv_iload_n hx hb dX1_humidityOf_1 rfl (lv_at hl 1 rfl) ?_
  obtain ⟨r1, er1, hsp⟩ := hk_b hsp
  refine hk_callVi (As := [.int x1]) (rest := []) F9 G h0 hkc_0 rfl (kX1_hasMonsoonAt l g E F n S a0 x1 r1 h0 er1) qv_RX1_28 ⟨rfl, rfl, (Nat.le_of_ble_eq_true rfl), (Nat.le_of_ble_eq_true rfl)⟩ rfl hl.1 rfl (Nat.le_of_ble_eq_true rfl) ⟨Nat.zero_le _, Nat.zero_le _⟩ dX1_humidityOf_2 (fun H locs G => ?_)
  refine lv_if_eq (tgt := 13) hx hb dX1_humidityOf_5 (by decide) (fun c2 => ?_) (fun c2 => ?_)
  · have hsp := hk_t c2 hsp
    refine lv_aload_n hx hb dX1_humidityOf_13 rfl (lv_at hl 0 rfl) ?_
    refine hk_getI F9 G h0 hkc_0 (k := 1) (by decide) qw_44 rfl dX1_humidityOf_14 ?_
    obtain rfl := hk_s hsp
    exact W.iret (v := (r1.2 a0 1)) hx hb hr (fun t ht hW => hk_end G ht hW) G.2.1.2.2 dX1_humidityOf_17
  · have hsp := hk_f c2 hsp
    refine lv_bipush (v := 95) hx hb dX1_humidityOf_8 (by decide) ?_
    refine lv_goto (tgt := 17) hx hb dX1_humidityOf_10 (by decide) ?_
    obtain rfl := hk_s hsp
    exact W.iret (v := 95) hx hb hr (fun t ht hW => hk_end G ht hW) G.2.1.2.2 dX1_humidityOf_17
def mX1_drynessOf (E : hk_E) (F : Nat) (S : hk_S) (a0 : Nat) (x1 : Int32) : Option (Int32 × hk_S) :=
(mX1_humidityOf E F S a0 x1).bind (fun r1 => some (((100 - r1.1) + (5 * (r1.2 a0 2))), r1.2))
set_option maxHeartbeats 4000000 in
set_option maxRecDepth 100000 in
theorem kX1_drynessOf (l : Launch) (g : hk_G) (E : hk_E) (F n : Nat) (S : hk_S) (a0 : Nat) (x1 : Int32) (o : Int32 × hk_S) (h0 : E.2.1 a0 = 1) (hsp : mX1_drynessOf E F S a0 x1 = some o) : Met l yX1_drynessOf (hk_ws yX1_drynessOf cX1_drynessOf 2 (Option.some Jvm.ClassFile.FieldType.int)) ({ frames := 2, cells := 0, slots := 0, locals := 44 }) (hk_Pc g E S n [.ref (g.1 + a0), .int x1]) (hk_Q g E o.2 n (some (.int o.1))) 0 0 (hk_A g) := by
  refine Met.ofW (cc := cX1_drynessOf) (maxL := 2) (ret := (Option.some Jvm.ClassFile.FieldType.int)) (by decide) rfl ?_
  intro p e s m args below meth c s₁ B hml hv
  obtain ⟨rfl, G⟩ := hk_begin hv
  have F9 : CallFix p m c cX1_drynessOf 2 s [.ref (g.1 + a0), .int x1].toArray hk_W RX1 := ⟨B.exec, B.bytes, hml, findClass_of_methodNamed B.named, fun w h => atoms_spec (ws := hk_ws yX1_drynessOf cX1_drynessOf 2 (Option.some Jvm.ClassFile.FieldType.int)) B.pre w (hk_in h)⟩
  have hx := B.exec
  have hb := B.bytes
  have hr := B.returns
  have hlocks := B.notSynchronized
  have hl := lv_entry ([.ref (g.1 + a0), .int x1]) (n := 2) (Nat.le_of_ble_eq_true rfl)
  rw [lg_entry_eq]
  generalize (lg_sl ([.ref (g.1 + a0), .int x1]) ++ List.replicate (2 - (lg_sl ([.ref (g.1 + a0), .int x1])).length) Slot.unset).toArray = ls at hl ⊢
  have hl : lv_has ls 2 [(0, .ref (g.1 + a0)), (1, .int x1)] := hl
  unfold mX1_drynessOf at hsp
  have G : hk_GG g E S n s s.heap [] := G
  refine lv_bipush (v := 100) hx hb dX1_drynessOf_0 (by decide) ?_
  refine lv_aload_n hx hb dX1_drynessOf_2 rfl (lv_at hl 0 rfl) ?_
  refine lv_iload_n hx hb dX1_drynessOf_3 rfl (lv_at hl 1 rfl) ?_
  obtain ⟨r1, er1, hsp⟩ := hk_b hsp
  refine hk_callVi (As := [.int x1]) (rest := [.int 100]) F9 G h0 hkc_0 rfl (kX1_humidityOf l g E F n S a0 x1 r1 h0 er1) qv_RX1_32 ⟨rfl, rfl, (Nat.le_of_ble_eq_true rfl), (Nat.le_of_ble_eq_true rfl)⟩ rfl hl.1 rfl (Nat.le_of_ble_eq_true rfl) ⟨Nat.zero_le _, Nat.zero_le _⟩ dX1_drynessOf_4 (fun H locs G => ?_)
  refine lv_isub hx hb dX1_drynessOf_7 ?_
  refine lv_iconst (v := 5) hx hb dX1_drynessOf_8 (by decide) ?_
  refine lv_aload_n hx hb dX1_drynessOf_9 rfl (lv_at hl 0 rfl) ?_
  refine hk_getI F9 G h0 hkc_0 (k := 2) (by decide) qw_46 rfl dX1_drynessOf_10 ?_
  refine lv_imul hx hb dX1_drynessOf_13 ?_
  refine lv_iadd hx hb dX1_drynessOf_14 ?_
  obtain rfl := hk_s hsp
  exact W.iret (v := ((100 - r1.1) + (5 * (r1.2 a0 2)))) hx hb hr (fun t ht hW => hk_end G ht hW) G.2.1.2.2 dX1_drynessOf_15
def mX6_init (E : hk_E) (F : Nat) (S : hk_S) (a0 : Nat) : Option (hk_S) :=
some (S)
set_option maxHeartbeats 4000000 in
set_option maxRecDepth 100000 in
theorem kX6_init (l : Launch) (g : hk_G) (E : hk_E) (F n : Nat) (S : hk_S) (a0 : Nat) (o : hk_S) (h0 : E.2.1 a0 = 5) (hsp : mX6_init E F S a0 = some o) : Met l yX6_init (hk_ws yX6_init cX6_init 1 (Option.none : Option Jvm.ClassFile.FieldType)) ({ frames := 1, cells := 0, slots := 0, locals := 12 }) (hk_Pc g E S n [.ref (g.1 + a0)]) (hk_Q g E o n none) 0 0 (hk_A g) := by
  refine Met.ofW (cc := cX6_init) (maxL := 1) (ret := (Option.none : Option Jvm.ClassFile.FieldType)) (by decide) rfl ?_
  intro p e s m args below meth c s₁ B hml hv
  obtain ⟨rfl, G⟩ := hk_begin hv
  have F9 : CallFix p m c cX6_init 1 s [.ref (g.1 + a0)].toArray hk_W RX6 := ⟨B.exec, B.bytes, hml, findClass_of_methodNamed B.named, fun w h => atoms_spec (ws := hk_ws yX6_init cX6_init 1 (Option.none : Option Jvm.ClassFile.FieldType)) B.pre w (hk_in h)⟩
  have hx := B.exec
  have hb := B.bytes
  have hr := B.returns
  have hlocks := B.notSynchronized
  have hl := lv_entry ([.ref (g.1 + a0)]) (n := 1) (Nat.le_of_ble_eq_true rfl)
  rw [lg_entry_eq]
  generalize (lg_sl ([.ref (g.1 + a0)]) ++ List.replicate (1 - (lg_sl ([.ref (g.1 + a0)])).length) Slot.unset).toArray = ls at hl ⊢
  have hl : lv_has ls 1 [(0, .ref (g.1 + a0))] := hl
  unfold mX6_init at hsp
  have G : hk_GG g E S n s s.heap [] := G
  refine lv_aload_n hx hb dX6_init_0 rfl (lv_at hl 0 rfl) ?_
  refine hk_obj F9 qw_120 qw_27 qw_28 hl.1 ⟨(Nat.le_of_ble_eq_true rfl), (Nat.le_of_ble_eq_true rfl)⟩ dX6_init_1 ?_
  obtain rfl := hk_s hsp
  exact W.vret hx hb hr (fun t ht hW => hk_end G ht hW) G.2.1.2.2 dX6_init_4
def mX6_become (E : hk_E) (F : Nat) (S : hk_S) (a0 : Nat) (a1 : Nat) : Option (hk_S) :=
hk_let (hk_up S a0 0 (S a1 0)) (fun S1 => hk_let (hk_up S1 a0 1 (S1 a1 1)) (fun S2 => hk_let (hk_up S2 a0 2 (S2 a1 2)) (fun S3 => some (S3))))
set_option maxHeartbeats 4000000 in
set_option maxRecDepth 100000 in
theorem kX6_become (l : Launch) (g : hk_G) (E : hk_E) (F n : Nat) (S : hk_S) (a0 : Nat) (a1 : Nat) (o : hk_S) (h0 : E.2.1 a0 = 5) (h1 : E.2.1 a1 = 5) (hsp : mX6_become E F S a0 a1 = some o) : Met l yX6_become (hk_ws yX6_become cX6_become 2 (Option.none : Option Jvm.ClassFile.FieldType)) ({ frames := 0, cells := 0, slots := 0, locals := 0 }) (hk_Pc g E S n [.ref (g.1 + a0), .ref (g.1 + a1)]) (hk_Q g E o n none) 0 0 (hk_A g) := by
  refine Met.ofW (cc := cX6_become) (maxL := 2) (ret := (Option.none : Option Jvm.ClassFile.FieldType)) (by decide) rfl ?_
  intro p e s m args below meth c s₁ B hml hv
  obtain ⟨rfl, G⟩ := hk_begin hv
  have F9 : CallFix p m c cX6_become 2 s [.ref (g.1 + a0), .ref (g.1 + a1)].toArray hk_W RX6 := ⟨B.exec, B.bytes, hml, findClass_of_methodNamed B.named, fun w h => atoms_spec (ws := hk_ws yX6_become cX6_become 2 (Option.none : Option Jvm.ClassFile.FieldType)) B.pre w (hk_in h)⟩
  have hx := B.exec
  have hb := B.bytes
  have hr := B.returns
  have hlocks := B.notSynchronized
  have hl := lv_entry ([.ref (g.1 + a0), .ref (g.1 + a1)]) (n := 2) (Nat.le_of_ble_eq_true rfl)
  rw [lg_entry_eq]
  generalize (lg_sl ([.ref (g.1 + a0), .ref (g.1 + a1)]) ++ List.replicate (2 - (lg_sl ([.ref (g.1 + a0), .ref (g.1 + a1)])).length) Slot.unset).toArray = ls at hl ⊢
  have hl : lv_has ls 2 [(0, .ref (g.1 + a0)), (1, .ref (g.1 + a1))] := hl
  unfold mX6_become at hsp
  have G : hk_GG g E S n s s.heap [] := G
  refine lv_aload_n hx hb dX6_become_0 rfl (lv_at hl 0 rfl) ?_
  refine lv_aload_n hx hb dX6_become_1 rfl (lv_at hl 1 rfl) ?_
  refine hk_getI F9 G h1 hkc_4 (k := 0) (by decide) qw_121 rfl dX6_become_2 ?_
  obtain ⟨S1, eS1, hsp⟩ := hk_l hsp
  refine hk_putI F9 G h0 hkc_4 (k := 0) (by decide) qw_121 rfl rfl (tyX6_ok 0 (by decide)) rfl rfl dX6_become_5 (fun H locs G => ?_)
  rw [eS1] at G
  refine lv_aload_n hx hb dX6_become_8 rfl (lv_at hl 0 rfl) ?_
  refine lv_aload_n hx hb dX6_become_9 rfl (lv_at hl 1 rfl) ?_
  refine hk_getI F9 G h1 hkc_4 (k := 1) (by decide) qw_124 rfl dX6_become_10 ?_
  obtain ⟨S2, eS2, hsp⟩ := hk_l hsp
  refine hk_putI F9 G h0 hkc_4 (k := 1) (by decide) qw_124 rfl rfl (tyX6_ok 1 (by decide)) rfl rfl dX6_become_13 (fun H locs G => ?_)
  rw [eS2] at G
  refine lv_aload_n hx hb dX6_become_16 rfl (lv_at hl 0 rfl) ?_
  refine lv_aload_n hx hb dX6_become_17 rfl (lv_at hl 1 rfl) ?_
  refine hk_getI F9 G h1 hkc_4 (k := 2) (by decide) qw_127 rfl dX6_become_18 ?_
  obtain ⟨S3, eS3, hsp⟩ := hk_l hsp
  refine hk_putI F9 G h0 hkc_4 (k := 2) (by decide) qw_127 rfl rfl (tyX6_ok 2 (by decide)) rfl rfl dX6_become_21 (fun H locs G => ?_)
  rw [eS3] at G
  obtain rfl := hk_s hsp
  exact W.vret hx hb hr (fun t ht hW => hk_end G ht hW) G.2.1.2.2 dX6_become_24
def mX10_init (E : hk_E) (F : Nat) (S : hk_S) (a0 : Nat) : Option (hk_S) :=
some (S)
set_option maxHeartbeats 4000000 in
set_option maxRecDepth 100000 in
theorem kX10_init (l : Launch) (g : hk_G) (E : hk_E) (F n : Nat) (S : hk_S) (a0 : Nat) (o : hk_S) (h0 : E.2.1 a0 = 8) (hsp : mX10_init E F S a0 = some o) : Met l yX10_init (hk_ws yX10_init cX10_init 1 (Option.none : Option Jvm.ClassFile.FieldType)) ({ frames := 1, cells := 0, slots := 0, locals := 12 }) (hk_Pc g E S n [.ref (g.1 + a0)]) (hk_Q g E o n none) 0 0 (hk_A g) := by
  refine Met.ofW (cc := cX10_init) (maxL := 1) (ret := (Option.none : Option Jvm.ClassFile.FieldType)) (by decide) rfl ?_
  intro p e s m args below meth c s₁ B hml hv
  obtain ⟨rfl, G⟩ := hk_begin hv
  have F9 : CallFix p m c cX10_init 1 s [.ref (g.1 + a0)].toArray hk_W RX10 := ⟨B.exec, B.bytes, hml, findClass_of_methodNamed B.named, fun w h => atoms_spec (ws := hk_ws yX10_init cX10_init 1 (Option.none : Option Jvm.ClassFile.FieldType)) B.pre w (hk_in h)⟩
  have hx := B.exec
  have hb := B.bytes
  have hr := B.returns
  have hlocks := B.notSynchronized
  have hl := lv_entry ([.ref (g.1 + a0)]) (n := 1) (Nat.le_of_ble_eq_true rfl)
  rw [lg_entry_eq]
  generalize (lg_sl ([.ref (g.1 + a0)]) ++ List.replicate (1 - (lg_sl ([.ref (g.1 + a0)])).length) Slot.unset).toArray = ls at hl ⊢
  have hl : lv_has ls 1 [(0, .ref (g.1 + a0))] := hl
  unfold mX10_init at hsp
  have G : hk_GG g E S n s s.heap [] := G
  refine lv_aload_n hx hb dX10_init_0 rfl (lv_at hl 0 rfl) ?_
  refine hk_obj F9 qw_71 qw_27 qw_28 hl.1 ⟨(Nat.le_of_ble_eq_true rfl), (Nat.le_of_ble_eq_true rfl)⟩ dX10_init_1 ?_
  obtain rfl := hk_s hsp
  exact W.vret hx hb hr (fun t ht hW => hk_end G ht hW) G.2.1.2.2 dX10_init_4
def mX10_become (E : hk_E) (F : Nat) (S : hk_S) (a0 : Nat) (a1 : Nat) : Option (hk_S) :=
hk_let (hk_up S a0 0 (S a1 0)) (fun S1 => hk_let (hk_up S1 a0 1 (S1 a1 1)) (fun S2 => if (S2 a1 2) = 0 ∨ (S2 a1 2) = 1 then (hk_let (hk_up S2 a0 2 (S2 a1 2)) (fun S4 => hk_let (hk_up S4 a0 3 (S4 a1 3)) (fun S5 => hk_let (hk_up S5 a0 4 (S5 a1 4)) (fun S6 => hk_let (hk_up S6 a0 5 (S6 a1 5)) (fun S7 => hk_let (hk_up S7 a0 6 (S7 a1 6)) (fun S8 => hk_let (hk_up S8 a0 7 (S8 a1 7)) (fun S9 => hk_let (hk_up S9 a0 8 (S9 a1 8)) (fun S10 => hk_let (hk_up S10 a0 9 (S10 a1 9)) (fun S11 => some (S11)))))))))) else none))
set_option maxHeartbeats 4000000 in
set_option maxRecDepth 100000 in
theorem kX10_become (l : Launch) (g : hk_G) (E : hk_E) (F n : Nat) (S : hk_S) (a0 : Nat) (a1 : Nat) (o : hk_S) (h0 : E.2.1 a0 = 8) (h1 : E.2.1 a1 = 8) (hsp : mX10_become E F S a0 a1 = some o) : Met l yX10_become (hk_ws yX10_become cX10_become 2 (Option.none : Option Jvm.ClassFile.FieldType)) ({ frames := 0, cells := 0, slots := 0, locals := 0 }) (hk_Pc g E S n [.ref (g.1 + a0), .ref (g.1 + a1)]) (hk_Q g E o n none) 0 0 (hk_A g) := by
  refine Met.ofW (cc := cX10_become) (maxL := 2) (ret := (Option.none : Option Jvm.ClassFile.FieldType)) (by decide) rfl ?_
  intro p e s m args below meth c s₁ B hml hv
  obtain ⟨rfl, G⟩ := hk_begin hv
  have F9 : CallFix p m c cX10_become 2 s [.ref (g.1 + a0), .ref (g.1 + a1)].toArray hk_W RX10 := ⟨B.exec, B.bytes, hml, findClass_of_methodNamed B.named, fun w h => atoms_spec (ws := hk_ws yX10_become cX10_become 2 (Option.none : Option Jvm.ClassFile.FieldType)) B.pre w (hk_in h)⟩
  have hx := B.exec
  have hb := B.bytes
  have hr := B.returns
  have hlocks := B.notSynchronized
  have hl := lv_entry ([.ref (g.1 + a0), .ref (g.1 + a1)]) (n := 2) (Nat.le_of_ble_eq_true rfl)
  rw [lg_entry_eq]
  generalize (lg_sl ([.ref (g.1 + a0), .ref (g.1 + a1)]) ++ List.replicate (2 - (lg_sl ([.ref (g.1 + a0), .ref (g.1 + a1)])).length) Slot.unset).toArray = ls at hl ⊢
  have hl : lv_has ls 2 [(0, .ref (g.1 + a0)), (1, .ref (g.1 + a1))] := hl
  unfold mX10_become at hsp
  have G : hk_GG g E S n s s.heap [] := G
  refine lv_aload_n hx hb dX10_become_0 rfl (lv_at hl 0 rfl) ?_
  refine lv_aload_n hx hb dX10_become_1 rfl (lv_at hl 1 rfl) ?_
  refine hk_getI F9 G h1 hkc_7 (k := 0) (by decide) qw_72 rfl dX10_become_2 ?_
  obtain ⟨S1, eS1, hsp⟩ := hk_l hsp
  refine hk_putI F9 G h0 hkc_7 (k := 0) (by decide) qw_72 rfl rfl (tyX10_ok 0 (by decide)) rfl rfl dX10_become_5 (fun H locs G => ?_)
  rw [eS1] at G
  refine lv_aload_n hx hb dX10_become_8 rfl (lv_at hl 0 rfl) ?_
  refine lv_aload_n hx hb dX10_become_9 rfl (lv_at hl 1 rfl) ?_
  refine hk_getI F9 G h1 hkc_7 (k := 1) (by decide) qw_75 rfl dX10_become_10 ?_
  obtain ⟨S2, eS2, hsp⟩ := hk_l hsp
  refine hk_putI F9 G h0 hkc_7 (k := 1) (by decide) qw_75 rfl rfl (tyX10_ok 1 (by decide)) rfl rfl dX10_become_13 (fun H locs G => ?_)
  rw [eS2] at G
  refine lv_aload_n hx hb dX10_become_16 rfl (lv_at hl 0 rfl) ?_
  refine lv_aload_n hx hb dX10_become_17 rfl (lv_at hl 1 rfl) ?_
  refine hk_getI F9 G h1 hkc_7 (k := 2) (by decide) qw_77 rfl dX10_become_18 ?_
  obtain ⟨q3, hsp⟩ := hk_k hsp
  obtain ⟨S4, eS4, hsp⟩ := hk_l hsp
  refine hk_putI F9 G h0 hkc_7 (k := 2) (by decide) qw_77 rfl rfl (tyX10_ok 2 (by decide)) (hk_z q3).1 (hk_z q3).2 dX10_become_21 (fun H locs G => ?_)
  rw [eS4] at G
  refine lv_aload_n hx hb dX10_become_24 rfl (lv_at hl 0 rfl) ?_
  refine lv_aload_n hx hb dX10_become_25 rfl (lv_at hl 1 rfl) ?_
  refine hk_getI F9 G h1 hkc_7 (k := 3) (by decide) qw_78 rfl dX10_become_26 ?_
  obtain ⟨S5, eS5, hsp⟩ := hk_l hsp
  refine hk_putI F9 G h0 hkc_7 (k := 3) (by decide) qw_78 rfl rfl (tyX10_ok 3 (by decide)) rfl rfl dX10_become_29 (fun H locs G => ?_)
  rw [eS5] at G
  refine lv_aload_n hx hb dX10_become_32 rfl (lv_at hl 0 rfl) ?_
  refine lv_aload_n hx hb dX10_become_33 rfl (lv_at hl 1 rfl) ?_
  refine hk_getI F9 G h1 hkc_7 (k := 4) (by decide) qw_81 rfl dX10_become_34 ?_
  obtain ⟨S6, eS6, hsp⟩ := hk_l hsp
  refine hk_putI F9 G h0 hkc_7 (k := 4) (by decide) qw_81 rfl rfl (tyX10_ok 4 (by decide)) rfl rfl dX10_become_37 (fun H locs G => ?_)
  rw [eS6] at G
  refine lv_aload_n hx hb dX10_become_40 rfl (lv_at hl 0 rfl) ?_
  refine lv_aload_n hx hb dX10_become_41 rfl (lv_at hl 1 rfl) ?_
  refine hk_getI F9 G h1 hkc_7 (k := 5) (by decide) qw_83 rfl dX10_become_42 ?_
  obtain ⟨S7, eS7, hsp⟩ := hk_l hsp
  refine hk_putI F9 G h0 hkc_7 (k := 5) (by decide) qw_83 rfl rfl (tyX10_ok 5 (by decide)) rfl rfl dX10_become_45 (fun H locs G => ?_)
  rw [eS7] at G
  refine lv_aload_n hx hb dX10_become_48 rfl (lv_at hl 0 rfl) ?_
  refine lv_aload_n hx hb dX10_become_49 rfl (lv_at hl 1 rfl) ?_
  refine hk_getI F9 G h1 hkc_7 (k := 6) (by decide) qw_86 rfl dX10_become_50 ?_
  obtain ⟨S8, eS8, hsp⟩ := hk_l hsp
  refine hk_putI F9 G h0 hkc_7 (k := 6) (by decide) qw_86 rfl rfl (tyX10_ok 6 (by decide)) rfl rfl dX10_become_53 (fun H locs G => ?_)
  rw [eS8] at G
  refine lv_aload_n hx hb dX10_become_56 rfl (lv_at hl 0 rfl) ?_
  refine lv_aload_n hx hb dX10_become_57 rfl (lv_at hl 1 rfl) ?_
  refine hk_getI F9 G h1 hkc_7 (k := 7) (by decide) qw_88 rfl dX10_become_58 ?_
  obtain ⟨S9, eS9, hsp⟩ := hk_l hsp
  refine hk_putI F9 G h0 hkc_7 (k := 7) (by decide) qw_88 rfl rfl (tyX10_ok 7 (by decide)) rfl rfl dX10_become_61 (fun H locs G => ?_)
  rw [eS9] at G
  refine lv_aload_n hx hb dX10_become_64 rfl (lv_at hl 0 rfl) ?_
  refine lv_aload_n hx hb dX10_become_65 rfl (lv_at hl 1 rfl) ?_
  refine hk_getI F9 G h1 hkc_7 (k := 8) (by decide) qw_91 rfl dX10_become_66 ?_
  obtain ⟨S10, eS10, hsp⟩ := hk_l hsp
  refine hk_putI F9 G h0 hkc_7 (k := 8) (by decide) qw_91 rfl rfl (tyX10_ok 8 (by decide)) rfl rfl dX10_become_69 (fun H locs G => ?_)
  rw [eS10] at G
  refine lv_aload_n hx hb dX10_become_72 rfl (lv_at hl 0 rfl) ?_
  refine lv_aload_n hx hb dX10_become_73 rfl (lv_at hl 1 rfl) ?_
  refine hk_getI F9 G h1 hkc_7 (k := 9) (by decide) qw_93 rfl dX10_become_74 ?_
  obtain ⟨S11, eS11, hsp⟩ := hk_l hsp
  refine hk_putI F9 G h0 hkc_7 (k := 9) (by decide) qw_93 rfl rfl (tyX10_ok 9 (by decide)) rfl rfl dX10_become_77 (fun H locs G => ?_)
  rw [eS11] at G
  obtain rfl := hk_s hsp
  exact W.vret hx hb hr (fun t ht hW => hk_end G ht hW) G.2.1.2.2 dX10_become_80
def mX10_hasLeaf (E : hk_E) (F : Nat) (S : hk_S) (a0 : Nat) : Option (Int32 × hk_S) :=
if (S a0 3) ≤ 0 then (some (0, S)) else (some (1, S))
set_option maxHeartbeats 4000000 in
set_option maxRecDepth 100000 in
theorem kX10_hasLeaf (l : Launch) (g : hk_G) (E : hk_E) (F n : Nat) (S : hk_S) (a0 : Nat) (o : Int32 × hk_S) (h0 : E.2.1 a0 = 8) (hsp : mX10_hasLeaf E F S a0 = some o) : Met l yX10_hasLeaf (hk_ws yX10_hasLeaf cX10_hasLeaf 1 (Option.some Jvm.ClassFile.FieldType.boolean)) ({ frames := 0, cells := 0, slots := 0, locals := 0 }) (hk_Pc g E S n [.ref (g.1 + a0)]) (hk_Q g E o.2 n (some (.int o.1))) 0 0 (hk_A g) := by
  refine Met.ofW (cc := cX10_hasLeaf) (maxL := 1) (ret := (Option.some Jvm.ClassFile.FieldType.boolean)) (by decide) rfl ?_
  intro p e s m args below meth c s₁ B hml hv
  obtain ⟨rfl, G⟩ := hk_begin hv
  have F9 : CallFix p m c cX10_hasLeaf 1 s [.ref (g.1 + a0)].toArray hk_W RX10 := ⟨B.exec, B.bytes, hml, findClass_of_methodNamed B.named, fun w h => atoms_spec (ws := hk_ws yX10_hasLeaf cX10_hasLeaf 1 (Option.some Jvm.ClassFile.FieldType.boolean)) B.pre w (hk_in h)⟩
  have hx := B.exec
  have hb := B.bytes
  have hr := B.returns
  have hlocks := B.notSynchronized
  have hl := lv_entry ([.ref (g.1 + a0)]) (n := 1) (Nat.le_of_ble_eq_true rfl)
  rw [lg_entry_eq]
  generalize (lg_sl ([.ref (g.1 + a0)]) ++ List.replicate (1 - (lg_sl ([.ref (g.1 + a0)])).length) Slot.unset).toArray = ls at hl ⊢
  have hl : lv_has ls 1 [(0, .ref (g.1 + a0))] := hl
  unfold mX10_hasLeaf at hsp
  have G : hk_GG g E S n s s.heap [] := G
  refine lv_aload_n hx hb dX10_hasLeaf_0 rfl (lv_at hl 0 rfl) ?_
  refine hk_getI F9 G h0 hkc_7 (k := 3) (by decide) qw_78 rfl dX10_hasLeaf_1 ?_
  refine lv_if_le (tgt := 11) hx hb dX10_hasLeaf_4 (by decide) (fun c1 => ?_) (fun c1 => ?_)
  · have hsp := hk_t c1 hsp
    refine lv_iconst (v := 0) hx hb dX10_hasLeaf_11 (by decide) ?_
    obtain rfl := hk_s hsp
    exact W.zret (v := 0) hx hb hr (hk_z (by decide)).1 (fun t ht hW => hk_end G ht hW) G.2.1.2.2 dX10_hasLeaf_12
  · have hsp := hk_f c1 hsp
    refine lv_iconst (v := 1) hx hb dX10_hasLeaf_7 (by decide) ?_
    refine lv_goto (tgt := 12) hx hb dX10_hasLeaf_8 (by decide) ?_
    obtain rfl := hk_s hsp
    exact W.zret (v := 1) hx hb hr (hk_z (by decide)).1 (fun t ht hW => hk_end G ht hW) G.2.1.2.2 dX10_hasLeaf_12
def mX10_takeLeaf (E : hk_E) (F : Nat) (S : hk_S) (a0 : Nat) (x1 : Int32) (x2 : Int32) : Option (hk_S) :=
hk_let (hk_up S a0 3 x1) (fun S1 => if 0 < (S1 a0 0) then (if ¬ (S1 a0 0) = 0 then (hk_let (hk_up S1 a0 4 ((x1 * 100) / (S1 a0 0))) (fun S4 => hk_let (hk_up S4 a0 5 (x1 * 2000)) (fun S5 => hk_let (hk_up S5 a0 6 x2) (fun S6 => hk_let (hk_up S6 a0 7 x2) (fun S7 => hk_let (hk_up S7 a0 8 0) (fun S8 => hk_let (hk_up S8 a0 9 0) (fun S9 => some (S9)))))))) else none) else (hk_let (hk_up S1 a0 4 0) (fun S10 => hk_let (hk_up S10 a0 5 (x1 * 2000)) (fun S11 => hk_let (hk_up S11 a0 6 x2) (fun S12 => hk_let (hk_up S12 a0 7 x2) (fun S13 => hk_let (hk_up S13 a0 8 0) (fun S14 => hk_let (hk_up S14 a0 9 0) (fun S15 => some (S15)))))))))
set_option maxHeartbeats 4000000 in
set_option maxRecDepth 100000 in
theorem kX10_takeLeaf (l : Launch) (g : hk_G) (E : hk_E) (F n : Nat) (S : hk_S) (a0 : Nat) (x1 : Int32) (x2 : Int32) (o : hk_S) (h0 : E.2.1 a0 = 8) (hsp : mX10_takeLeaf E F S a0 x1 x2 = some o) : Met l yX10_takeLeaf (hk_ws yX10_takeLeaf cX10_takeLeaf 3 (Option.none : Option Jvm.ClassFile.FieldType)) ({ frames := 0, cells := 0, slots := 0, locals := 0 }) (hk_Pc g E S n [.ref (g.1 + a0), .int x1, .int x2]) (hk_Q g E o n none) 0 0 (hk_A g) := by
  refine Met.ofW (cc := cX10_takeLeaf) (maxL := 3) (ret := (Option.none : Option Jvm.ClassFile.FieldType)) (by decide) rfl ?_
  intro p e s m args below meth c s₁ B hml hv
  obtain ⟨rfl, G⟩ := hk_begin hv
  have F9 : CallFix p m c cX10_takeLeaf 3 s [.ref (g.1 + a0), .int x1, .int x2].toArray hk_W RX10 := ⟨B.exec, B.bytes, hml, findClass_of_methodNamed B.named, fun w h => atoms_spec (ws := hk_ws yX10_takeLeaf cX10_takeLeaf 3 (Option.none : Option Jvm.ClassFile.FieldType)) B.pre w (hk_in h)⟩
  have hx := B.exec
  have hb := B.bytes
  have hr := B.returns
  have hlocks := B.notSynchronized
  have hl := lv_entry ([.ref (g.1 + a0), .int x1, .int x2]) (n := 3) (Nat.le_of_ble_eq_true rfl)
  rw [lg_entry_eq]
  generalize (lg_sl ([.ref (g.1 + a0), .int x1, .int x2]) ++ List.replicate (3 - (lg_sl ([.ref (g.1 + a0), .int x1, .int x2])).length) Slot.unset).toArray = ls at hl ⊢
  have hl : lv_has ls 3 [(0, .ref (g.1 + a0)), (1, .int x1), (2, .int x2)] := hl
  unfold mX10_takeLeaf at hsp
  have G : hk_GG g E S n s s.heap [] := G
  refine lv_aload_n hx hb dX10_takeLeaf_0 rfl (lv_at hl 0 rfl) ?_
  refine lv_iload_n hx hb dX10_takeLeaf_1 rfl (lv_at hl 1 rfl) ?_
  obtain ⟨S1, eS1, hsp⟩ := hk_l hsp
  refine hk_putI F9 G h0 hkc_7 (k := 3) (by decide) qw_78 rfl rfl (tyX10_ok 3 (by decide)) rfl rfl dX10_takeLeaf_2 (fun H locs G => ?_)
  rw [eS1] at G
  refine lv_aload_n hx hb dX10_takeLeaf_5 rfl (lv_at hl 0 rfl) ?_
  refine lv_aload_n hx hb dX10_takeLeaf_6 rfl (lv_at hl 0 rfl) ?_
  refine hk_getI F9 G h0 hkc_7 (k := 0) (by decide) qw_72 rfl dX10_takeLeaf_7 ?_
  refine lv_if_gt (tgt := 17) hx hb dX10_takeLeaf_10 (by decide) (fun c2 => ?_) (fun c2 => ?_)
  · have hsp := hk_t c2 hsp
    refine lv_iload_n hx hb dX10_takeLeaf_17 rfl (lv_at hl 1 rfl) ?_
    refine lv_bipush (v := 100) hx hb dX10_takeLeaf_18 (by decide) ?_
    refine lv_imul hx hb dX10_takeLeaf_20 ?_
    refine lv_aload_n hx hb dX10_takeLeaf_21 rfl (lv_at hl 0 rfl) ?_
    refine hk_getI F9 G h0 hkc_7 (k := 0) (by decide) qw_72 rfl dX10_takeLeaf_22 ?_
    obtain ⟨q3, hsp⟩ := hk_k hsp
    refine lv_idiv hx hb dX10_takeLeaf_25 q3 ?_
    obtain ⟨S4, eS4, hsp⟩ := hk_l hsp
    refine hk_putI F9 G h0 hkc_7 (k := 4) (by decide) qw_81 rfl rfl (tyX10_ok 4 (by decide)) rfl rfl dX10_takeLeaf_26 (fun H locs G => ?_)
    rw [eS4] at G
    refine lv_aload_n hx hb dX10_takeLeaf_29 rfl (lv_at hl 0 rfl) ?_
    refine lv_iload_n hx hb dX10_takeLeaf_30 rfl (lv_at hl 1 rfl) ?_
    refine lv_sipush (v := 2000) hx hb dX10_takeLeaf_31 (by decide) ?_
    refine lv_imul hx hb dX10_takeLeaf_34 ?_
    obtain ⟨S5, eS5, hsp⟩ := hk_l hsp
    refine hk_putI F9 G h0 hkc_7 (k := 5) (by decide) qw_83 rfl rfl (tyX10_ok 5 (by decide)) rfl rfl dX10_takeLeaf_35 (fun H locs G => ?_)
    rw [eS5] at G
    refine lv_aload_n hx hb dX10_takeLeaf_38 rfl (lv_at hl 0 rfl) ?_
    refine lv_iload_n hx hb dX10_takeLeaf_39 rfl (lv_at hl 2 rfl) ?_
    obtain ⟨S6, eS6, hsp⟩ := hk_l hsp
    refine hk_putI F9 G h0 hkc_7 (k := 6) (by decide) qw_86 rfl rfl (tyX10_ok 6 (by decide)) rfl rfl dX10_takeLeaf_40 (fun H locs G => ?_)
    rw [eS6] at G
    refine lv_aload_n hx hb dX10_takeLeaf_43 rfl (lv_at hl 0 rfl) ?_
    refine lv_iload_n hx hb dX10_takeLeaf_44 rfl (lv_at hl 2 rfl) ?_
    obtain ⟨S7, eS7, hsp⟩ := hk_l hsp
    refine hk_putI F9 G h0 hkc_7 (k := 7) (by decide) qw_88 rfl rfl (tyX10_ok 7 (by decide)) rfl rfl dX10_takeLeaf_45 (fun H locs G => ?_)
    rw [eS7] at G
    refine lv_aload_n hx hb dX10_takeLeaf_48 rfl (lv_at hl 0 rfl) ?_
    refine lv_iconst (v := 0) hx hb dX10_takeLeaf_49 (by decide) ?_
    obtain ⟨S8, eS8, hsp⟩ := hk_l hsp
    refine hk_putI F9 G h0 hkc_7 (k := 8) (by decide) qw_91 rfl rfl (tyX10_ok 8 (by decide)) rfl rfl dX10_takeLeaf_50 (fun H locs G => ?_)
    rw [eS8] at G
    refine lv_aload_n hx hb dX10_takeLeaf_53 rfl (lv_at hl 0 rfl) ?_
    refine lv_iconst (v := 0) hx hb dX10_takeLeaf_54 (by decide) ?_
    obtain ⟨S9, eS9, hsp⟩ := hk_l hsp
    refine hk_putI F9 G h0 hkc_7 (k := 9) (by decide) qw_93 rfl rfl (tyX10_ok 9 (by decide)) rfl rfl dX10_takeLeaf_55 (fun H locs G => ?_)
    rw [eS9] at G
    obtain rfl := hk_s hsp
    exact W.vret hx hb hr (fun t ht hW => hk_end G ht hW) G.2.1.2.2 dX10_takeLeaf_58
  · have hsp := hk_f c2 hsp
    refine lv_iconst (v := 0) hx hb dX10_takeLeaf_13 (by decide) ?_
    refine lv_goto (tgt := 26) hx hb dX10_takeLeaf_14 (by decide) ?_
    obtain ⟨S10, eS10, hsp⟩ := hk_l hsp
    refine hk_putI F9 G h0 hkc_7 (k := 4) (by decide) qw_81 rfl rfl (tyX10_ok 4 (by decide)) rfl rfl dX10_takeLeaf_26 (fun H locs G => ?_)
    rw [eS10] at G
    refine lv_aload_n hx hb dX10_takeLeaf_29 rfl (lv_at hl 0 rfl) ?_
    refine lv_iload_n hx hb dX10_takeLeaf_30 rfl (lv_at hl 1 rfl) ?_
    refine lv_sipush (v := 2000) hx hb dX10_takeLeaf_31 (by decide) ?_
    refine lv_imul hx hb dX10_takeLeaf_34 ?_
    obtain ⟨S11, eS11, hsp⟩ := hk_l hsp
    refine hk_putI F9 G h0 hkc_7 (k := 5) (by decide) qw_83 rfl rfl (tyX10_ok 5 (by decide)) rfl rfl dX10_takeLeaf_35 (fun H locs G => ?_)
    rw [eS11] at G
    refine lv_aload_n hx hb dX10_takeLeaf_38 rfl (lv_at hl 0 rfl) ?_
    refine lv_iload_n hx hb dX10_takeLeaf_39 rfl (lv_at hl 2 rfl) ?_
    obtain ⟨S12, eS12, hsp⟩ := hk_l hsp
    refine hk_putI F9 G h0 hkc_7 (k := 6) (by decide) qw_86 rfl rfl (tyX10_ok 6 (by decide)) rfl rfl dX10_takeLeaf_40 (fun H locs G => ?_)
    rw [eS12] at G
    refine lv_aload_n hx hb dX10_takeLeaf_43 rfl (lv_at hl 0 rfl) ?_
    refine lv_iload_n hx hb dX10_takeLeaf_44 rfl (lv_at hl 2 rfl) ?_
    obtain ⟨S13, eS13, hsp⟩ := hk_l hsp
    refine hk_putI F9 G h0 hkc_7 (k := 7) (by decide) qw_88 rfl rfl (tyX10_ok 7 (by decide)) rfl rfl dX10_takeLeaf_45 (fun H locs G => ?_)
    rw [eS13] at G
    refine lv_aload_n hx hb dX10_takeLeaf_48 rfl (lv_at hl 0 rfl) ?_
    refine lv_iconst (v := 0) hx hb dX10_takeLeaf_49 (by decide) ?_
    obtain ⟨S14, eS14, hsp⟩ := hk_l hsp
    refine hk_putI F9 G h0 hkc_7 (k := 8) (by decide) qw_91 rfl rfl (tyX10_ok 8 (by decide)) rfl rfl dX10_takeLeaf_50 (fun H locs G => ?_)
    rw [eS14] at G
    refine lv_aload_n hx hb dX10_takeLeaf_53 rfl (lv_at hl 0 rfl) ?_
    refine lv_iconst (v := 0) hx hb dX10_takeLeaf_54 (by decide) ?_
    obtain ⟨S15, eS15, hsp⟩ := hk_l hsp
    refine hk_putI F9 G h0 hkc_7 (k := 9) (by decide) qw_93 rfl rfl (tyX10_ok 9 (by decide)) rfl rfl dX10_takeLeaf_55 (fun H locs G => ?_)
    rw [eS15] at G
    obtain rfl := hk_s hsp
    exact W.vret hx hb hr (fun t ht hW => hk_end G ht hW) G.2.1.2.2 dX10_takeLeaf_58
def mX10_removeLeaf (E : hk_E) (F : Nat) (S : hk_S) (a0 : Nat) : Option (hk_S) :=
hk_let (hk_up S a0 3 0) (fun S1 => hk_let (hk_up S1 a0 4 0) (fun S2 => hk_let (hk_up S2 a0 5 0) (fun S3 => hk_let (hk_up S3 a0 6 0) (fun S4 => hk_let (hk_up S4 a0 7 0) (fun S5 => hk_let (hk_up S5 a0 8 0) (fun S6 => hk_let (hk_up S6 a0 9 0) (fun S7 => some (S7))))))))
set_option maxHeartbeats 4000000 in
set_option maxRecDepth 100000 in
theorem kX10_removeLeaf (l : Launch) (g : hk_G) (E : hk_E) (F n : Nat) (S : hk_S) (a0 : Nat) (o : hk_S) (h0 : E.2.1 a0 = 8) (hsp : mX10_removeLeaf E F S a0 = some o) : Met l yX10_removeLeaf (hk_ws yX10_removeLeaf cX10_removeLeaf 1 (Option.none : Option Jvm.ClassFile.FieldType)) ({ frames := 0, cells := 0, slots := 0, locals := 0 }) (hk_Pc g E S n [.ref (g.1 + a0)]) (hk_Q g E o n none) 0 0 (hk_A g) := by
  refine Met.ofW (cc := cX10_removeLeaf) (maxL := 1) (ret := (Option.none : Option Jvm.ClassFile.FieldType)) (by decide) rfl ?_
  intro p e s m args below meth c s₁ B hml hv
  obtain ⟨rfl, G⟩ := hk_begin hv
  have F9 : CallFix p m c cX10_removeLeaf 1 s [.ref (g.1 + a0)].toArray hk_W RX10 := ⟨B.exec, B.bytes, hml, findClass_of_methodNamed B.named, fun w h => atoms_spec (ws := hk_ws yX10_removeLeaf cX10_removeLeaf 1 (Option.none : Option Jvm.ClassFile.FieldType)) B.pre w (hk_in h)⟩
  have hx := B.exec
  have hb := B.bytes
  have hr := B.returns
  have hlocks := B.notSynchronized
  have hl := lv_entry ([.ref (g.1 + a0)]) (n := 1) (Nat.le_of_ble_eq_true rfl)
  rw [lg_entry_eq]
  generalize (lg_sl ([.ref (g.1 + a0)]) ++ List.replicate (1 - (lg_sl ([.ref (g.1 + a0)])).length) Slot.unset).toArray = ls at hl ⊢
  have hl : lv_has ls 1 [(0, .ref (g.1 + a0))] := hl
  unfold mX10_removeLeaf at hsp
  have G : hk_GG g E S n s s.heap [] := G
  refine lv_aload_n hx hb dX10_removeLeaf_0 rfl (lv_at hl 0 rfl) ?_
  refine lv_iconst (v := 0) hx hb dX10_removeLeaf_1 (by decide) ?_
  obtain ⟨S1, eS1, hsp⟩ := hk_l hsp
  refine hk_putI F9 G h0 hkc_7 (k := 3) (by decide) qw_78 rfl rfl (tyX10_ok 3 (by decide)) rfl rfl dX10_removeLeaf_2 (fun H locs G => ?_)
  rw [eS1] at G
  refine lv_aload_n hx hb dX10_removeLeaf_5 rfl (lv_at hl 0 rfl) ?_
  refine lv_iconst (v := 0) hx hb dX10_removeLeaf_6 (by decide) ?_
  obtain ⟨S2, eS2, hsp⟩ := hk_l hsp
  refine hk_putI F9 G h0 hkc_7 (k := 4) (by decide) qw_81 rfl rfl (tyX10_ok 4 (by decide)) rfl rfl dX10_removeLeaf_7 (fun H locs G => ?_)
  rw [eS2] at G
  refine lv_aload_n hx hb dX10_removeLeaf_10 rfl (lv_at hl 0 rfl) ?_
  refine lv_iconst (v := 0) hx hb dX10_removeLeaf_11 (by decide) ?_
  obtain ⟨S3, eS3, hsp⟩ := hk_l hsp
  refine hk_putI F9 G h0 hkc_7 (k := 5) (by decide) qw_83 rfl rfl (tyX10_ok 5 (by decide)) rfl rfl dX10_removeLeaf_12 (fun H locs G => ?_)
  rw [eS3] at G
  refine lv_aload_n hx hb dX10_removeLeaf_15 rfl (lv_at hl 0 rfl) ?_
  refine lv_iconst (v := 0) hx hb dX10_removeLeaf_16 (by decide) ?_
  obtain ⟨S4, eS4, hsp⟩ := hk_l hsp
  refine hk_putI F9 G h0 hkc_7 (k := 6) (by decide) qw_86 rfl rfl (tyX10_ok 6 (by decide)) rfl rfl dX10_removeLeaf_17 (fun H locs G => ?_)
  rw [eS4] at G
  refine lv_aload_n hx hb dX10_removeLeaf_20 rfl (lv_at hl 0 rfl) ?_
  refine lv_iconst (v := 0) hx hb dX10_removeLeaf_21 (by decide) ?_
  obtain ⟨S5, eS5, hsp⟩ := hk_l hsp
  refine hk_putI F9 G h0 hkc_7 (k := 7) (by decide) qw_88 rfl rfl (tyX10_ok 7 (by decide)) rfl rfl dX10_removeLeaf_22 (fun H locs G => ?_)
  rw [eS5] at G
  refine lv_aload_n hx hb dX10_removeLeaf_25 rfl (lv_at hl 0 rfl) ?_
  refine lv_iconst (v := 0) hx hb dX10_removeLeaf_26 (by decide) ?_
  obtain ⟨S6, eS6, hsp⟩ := hk_l hsp
  refine hk_putI F9 G h0 hkc_7 (k := 8) (by decide) qw_91 rfl rfl (tyX10_ok 8 (by decide)) rfl rfl dX10_removeLeaf_27 (fun H locs G => ?_)
  rw [eS6] at G
  refine lv_aload_n hx hb dX10_removeLeaf_30 rfl (lv_at hl 0 rfl) ?_
  refine lv_iconst (v := 0) hx hb dX10_removeLeaf_31 (by decide) ?_
  obtain ⟨S7, eS7, hsp⟩ := hk_l hsp
  refine hk_putI F9 G h0 hkc_7 (k := 9) (by decide) qw_93 rfl rfl (tyX10_ok 9 (by decide)) rfl rfl dX10_removeLeaf_32 (fun H locs G => ?_)
  rw [eS7] at G
  obtain rfl := hk_s hsp
  exact W.vret hx hb hr (fun t ht hW => hk_end G ht hW) G.2.1.2.2 dX10_removeLeaf_35
def mX10_mixLayers (E : hk_E) (F : Nat) (S : hk_S) (a0 : Nat) : Option (hk_S) :=
hk_let ((S a0 6) + (S a0 7)) (fun y1 => hk_let (hk_up S a0 6 (y1 / 2)) (fun S2 => hk_let (hk_up S2 a0 7 (y1 - (S2 a0 6))) (fun S3 => hk_let (hk_up S3 a0 9 ((S3 a0 9) + 2)) (fun S4 => some (S4)))))
set_option maxHeartbeats 4000000 in
set_option maxRecDepth 100000 in
theorem kX10_mixLayers (l : Launch) (g : hk_G) (E : hk_E) (F n : Nat) (S : hk_S) (a0 : Nat) (o : hk_S) (h0 : E.2.1 a0 = 8) (hsp : mX10_mixLayers E F S a0 = some o) : Met l yX10_mixLayers (hk_ws yX10_mixLayers cX10_mixLayers 2 (Option.none : Option Jvm.ClassFile.FieldType)) ({ frames := 0, cells := 0, slots := 0, locals := 0 }) (hk_Pc g E S n [.ref (g.1 + a0)]) (hk_Q g E o n none) 0 0 (hk_A g) := by
  refine Met.ofW (cc := cX10_mixLayers) (maxL := 2) (ret := (Option.none : Option Jvm.ClassFile.FieldType)) (by decide) rfl ?_
  intro p e s m args below meth c s₁ B hml hv
  obtain ⟨rfl, G⟩ := hk_begin hv
  have F9 : CallFix p m c cX10_mixLayers 2 s [.ref (g.1 + a0)].toArray hk_W RX10 := ⟨B.exec, B.bytes, hml, findClass_of_methodNamed B.named, fun w h => atoms_spec (ws := hk_ws yX10_mixLayers cX10_mixLayers 2 (Option.none : Option Jvm.ClassFile.FieldType)) B.pre w (hk_in h)⟩
  have hx := B.exec
  have hb := B.bytes
  have hr := B.returns
  have hlocks := B.notSynchronized
  have hl := lv_entry ([.ref (g.1 + a0)]) (n := 2) (Nat.le_of_ble_eq_true rfl)
  rw [lg_entry_eq]
  generalize (lg_sl ([.ref (g.1 + a0)]) ++ List.replicate (2 - (lg_sl ([.ref (g.1 + a0)])).length) Slot.unset).toArray = ls at hl ⊢
  have hl : lv_has ls 2 [(0, .ref (g.1 + a0))] := hl
  unfold mX10_mixLayers at hsp
  have G : hk_GG g E S n s s.heap [] := G
  refine lv_aload_n hx hb dX10_mixLayers_0 rfl (lv_at hl 0 rfl) ?_
  refine hk_getI F9 G h0 hkc_7 (k := 6) (by decide) qw_86 rfl dX10_mixLayers_1 ?_
  refine lv_aload_n hx hb dX10_mixLayers_4 rfl (lv_at hl 0 rfl) ?_
  refine hk_getI F9 G h0 hkc_7 (k := 7) (by decide) qw_88 rfl dX10_mixLayers_5 ?_
  refine lv_iadd hx hb dX10_mixLayers_8 ?_
  obtain ⟨y1, ey1, hsp⟩ := hk_l hsp
  refine hk_top ey1 ?_
  refine lv_istore_n (lv' := [(1, .int y1), (0, .ref (g.1 + a0))]) hx hb dX10_mixLayers_9 rfl hl (by decide) rfl (fun ls hl => ?_)
  refine lv_aload_n hx hb dX10_mixLayers_10 rfl (lv_at hl 1 rfl) ?_
  refine lv_iload_n hx hb dX10_mixLayers_11 rfl (lv_at hl 0 rfl) ?_
  refine lv_iconst (v := 2) hx hb dX10_mixLayers_12 (by decide) ?_
  refine lv_idiv hx hb dX10_mixLayers_13 (by decide) ?_
  obtain ⟨S2, eS2, hsp⟩ := hk_l hsp
  refine hk_putI F9 G h0 hkc_7 (k := 6) (by decide) qw_86 rfl rfl (tyX10_ok 6 (by decide)) rfl rfl dX10_mixLayers_14 (fun H locs G => ?_)
  rw [eS2] at G
  refine lv_aload_n hx hb dX10_mixLayers_17 rfl (lv_at hl 1 rfl) ?_
  refine lv_iload_n hx hb dX10_mixLayers_18 rfl (lv_at hl 0 rfl) ?_
  refine lv_aload_n hx hb dX10_mixLayers_19 rfl (lv_at hl 1 rfl) ?_
  refine hk_getI F9 G h0 hkc_7 (k := 6) (by decide) qw_86 rfl dX10_mixLayers_20 ?_
  refine lv_isub hx hb dX10_mixLayers_23 ?_
  obtain ⟨S3, eS3, hsp⟩ := hk_l hsp
  refine hk_putI F9 G h0 hkc_7 (k := 7) (by decide) qw_88 rfl rfl (tyX10_ok 7 (by decide)) rfl rfl dX10_mixLayers_24 (fun H locs G => ?_)
  rw [eS3] at G
  refine lv_aload_n hx hb dX10_mixLayers_27 rfl (lv_at hl 1 rfl) ?_
  refine lv_dup hx hb dX10_mixLayers_28 rfl ?_
  refine hk_getI F9 G h0 hkc_7 (k := 9) (by decide) qw_93 rfl dX10_mixLayers_29 ?_
  refine lv_iconst (v := 2) hx hb dX10_mixLayers_32 (by decide) ?_
  refine lv_iadd hx hb dX10_mixLayers_33 ?_
  obtain ⟨S4, eS4, hsp⟩ := hk_l hsp
  refine hk_putI F9 G h0 hkc_7 (k := 9) (by decide) qw_93 rfl rfl (tyX10_ok 9 (by decide)) rfl rfl dX10_mixLayers_34 (fun H locs G => ?_)
  rw [eS4] at G
  obtain rfl := hk_s hsp
  exact W.vret hx hb hr (fun t ht hW => hk_end G ht hW) G.2.1.2.2 dX10_mixLayers_37
def mX10_moistureOf (E : hk_E) (F : Nat) (S : hk_S) (a0 : Nat) (x1 : Int32) : Option (Int32 × hk_S) :=
if ¬ x1 = 0 then (some ((S a0 7), S)) else (some ((S a0 6), S))
set_option maxHeartbeats 4000000 in
set_option maxRecDepth 100000 in
theorem kX10_moistureOf (l : Launch) (g : hk_G) (E : hk_E) (F n : Nat) (S : hk_S) (a0 : Nat) (x1 : Int32) (o : Int32 × hk_S) (h0 : E.2.1 a0 = 8) (hsp : mX10_moistureOf E F S a0 x1 = some o) : Met l yX10_moistureOf (hk_ws yX10_moistureOf cX10_moistureOf 2 (Option.some Jvm.ClassFile.FieldType.int)) ({ frames := 0, cells := 0, slots := 0, locals := 0 }) (hk_Pc g E S n [.ref (g.1 + a0), .int x1]) (hk_Q g E o.2 n (some (.int o.1))) 0 0 (hk_A g) := by
  refine Met.ofW (cc := cX10_moistureOf) (maxL := 2) (ret := (Option.some Jvm.ClassFile.FieldType.int)) (by decide) rfl ?_
  intro p e s m args below meth c s₁ B hml hv
  obtain ⟨rfl, G⟩ := hk_begin hv
  have F9 : CallFix p m c cX10_moistureOf 2 s [.ref (g.1 + a0), .int x1].toArray hk_W RX10 := ⟨B.exec, B.bytes, hml, findClass_of_methodNamed B.named, fun w h => atoms_spec (ws := hk_ws yX10_moistureOf cX10_moistureOf 2 (Option.some Jvm.ClassFile.FieldType.int)) B.pre w (hk_in h)⟩
  have hx := B.exec
  have hb := B.bytes
  have hr := B.returns
  have hlocks := B.notSynchronized
  have hl := lv_entry ([.ref (g.1 + a0), .int x1]) (n := 2) (Nat.le_of_ble_eq_true rfl)
  rw [lg_entry_eq]
  generalize (lg_sl ([.ref (g.1 + a0), .int x1]) ++ List.replicate (2 - (lg_sl ([.ref (g.1 + a0), .int x1])).length) Slot.unset).toArray = ls at hl ⊢
  have hl : lv_has ls 2 [(0, .ref (g.1 + a0)), (1, .int x1)] := hl
  unfold mX10_moistureOf at hsp
  have G : hk_GG g E S n s s.heap [] := G
  refine lv_iload_n hx hb dX10_moistureOf_0 rfl (lv_at hl 1 rfl) ?_
  refine lv_if_ne (tgt := 11) hx hb dX10_moistureOf_1 (by decide) (fun c1 => ?_) (fun c1 => ?_)
  · have hsp := hk_t c1 hsp
    refine lv_aload_n hx hb dX10_moistureOf_11 rfl (lv_at hl 0 rfl) ?_
    refine hk_getI F9 G h0 hkc_7 (k := 7) (by decide) qw_88 rfl dX10_moistureOf_12 ?_
    obtain rfl := hk_s hsp
    exact W.iret (v := (S a0 7)) hx hb hr (fun t ht hW => hk_end G ht hW) G.2.1.2.2 dX10_moistureOf_15
  · have hsp := hk_g c1 hsp
    refine lv_aload_n hx hb dX10_moistureOf_4 rfl (lv_at hl 0 rfl) ?_
    refine hk_getI F9 G h0 hkc_7 (k := 6) (by decide) qw_86 rfl dX10_moistureOf_5 ?_
    refine lv_goto (tgt := 15) hx hb dX10_moistureOf_8 (by decide) ?_
    obtain rfl := hk_s hsp
    exact W.iret (v := (S a0 6)) hx hb hr (fun t ht hW => hk_end G ht hW) G.2.1.2.2 dX10_moistureOf_15
def mX10_lossAt (E : hk_E) (F : Nat) (S : hk_S) (a0 : Nat) (x1 : Int32) : Option (Int32 × hk_S) :=
hk_let (100 + (S a0 4)) (fun y1 => (mX10_hasLeaf E F S a0).bind (fun r2 => if r2.1 = 0 then (some (0, r2.2)) else (if 0 < y1 then (if ¬ y1 = 0 then (some (((((r2.2 a0 1) * x1) * 60) / y1), r2.2)) else none) else (some (0, r2.2)))))
set_option maxHeartbeats 4000000 in
set_option maxRecDepth 100000 in
theorem kX10_lossAt (l : Launch) (g : hk_G) (E : hk_E) (F n : Nat) (S : hk_S) (a0 : Nat) (x1 : Int32) (o : Int32 × hk_S) (h0 : E.2.1 a0 = 8) (hsp : mX10_lossAt E F S a0 x1 = some o) : Met l yX10_lossAt (hk_ws yX10_lossAt cX10_lossAt 3 (Option.some Jvm.ClassFile.FieldType.int)) ({ frames := 1, cells := 0, slots := 0, locals := 20 }) (hk_Pc g E S n [.ref (g.1 + a0), .int x1]) (hk_Q g E o.2 n (some (.int o.1))) 0 0 (hk_A g) := by
  refine Met.ofW (cc := cX10_lossAt) (maxL := 3) (ret := (Option.some Jvm.ClassFile.FieldType.int)) (by decide) rfl ?_
  intro p e s m args below meth c s₁ B hml hv
  obtain ⟨rfl, G⟩ := hk_begin hv
  have F9 : CallFix p m c cX10_lossAt 3 s [.ref (g.1 + a0), .int x1].toArray hk_W RX10 := ⟨B.exec, B.bytes, hml, findClass_of_methodNamed B.named, fun w h => atoms_spec (ws := hk_ws yX10_lossAt cX10_lossAt 3 (Option.some Jvm.ClassFile.FieldType.int)) B.pre w (hk_in h)⟩
  have hx := B.exec
  have hb := B.bytes
  have hr := B.returns
  have hlocks := B.notSynchronized
  have hl := lv_entry ([.ref (g.1 + a0), .int x1]) (n := 3) (Nat.le_of_ble_eq_true rfl)
  rw [lg_entry_eq]
  generalize (lg_sl ([.ref (g.1 + a0), .int x1]) ++ List.replicate (3 - (lg_sl ([.ref (g.1 + a0), .int x1])).length) Slot.unset).toArray = ls at hl ⊢
  have hl : lv_has ls 3 [(0, .ref (g.1 + a0)), (1, .int x1)] := hl
  unfold mX10_lossAt at hsp
  have G : hk_GG g E S n s s.heap [] := G
  refine lv_bipush (v := 100) hx hb dX10_lossAt_0 (by decide) ?_
  refine lv_aload_n hx hb dX10_lossAt_2 rfl (lv_at hl 0 rfl) ?_
  refine hk_getI F9 G h0 hkc_7 (k := 4) (by decide) qw_81 rfl dX10_lossAt_3 ?_
  refine lv_iadd hx hb dX10_lossAt_6 ?_
  obtain ⟨y1, ey1, hsp⟩ := hk_l hsp
  refine hk_top ey1 ?_
  refine lv_istore_n (lv' := [(2, .int y1), (0, .ref (g.1 + a0)), (1, .int x1)]) hx hb dX10_lossAt_7 rfl hl (by decide) rfl (fun ls hl => ?_)
  refine lv_aload_n hx hb dX10_lossAt_8 rfl (lv_at hl 1 rfl) ?_
  obtain ⟨r2, er2, hsp⟩ := hk_b hsp
  refine hk_callVi (As := []) (rest := []) F9 G h0 hkc_7 rfl (kX10_hasLeaf l g E F n S a0 r2 h0 er2) qv_RX10_56 ⟨rfl, rfl, (Nat.le_of_ble_eq_true rfl), (Nat.le_of_ble_eq_true rfl)⟩ rfl hl.1 rfl (Nat.le_of_ble_eq_true rfl) ⟨Nat.zero_le _, Nat.zero_le _⟩ dX10_lossAt_9 (fun H locs G => ?_)
  refine lv_if_eq (tgt := 19) hx hb dX10_lossAt_12 (by decide) (fun c3 => ?_) (fun c3 => ?_)
  · have hsp := hk_t c3 hsp
    refine lv_iconst (v := 0) hx hb dX10_lossAt_19 (by decide) ?_
    refine lv_goto (tgt := 34) hx hb dX10_lossAt_20 (by decide) ?_
    obtain rfl := hk_s hsp
    exact W.iret (v := 0) hx hb hr (fun t ht hW => hk_end G ht hW) G.2.1.2.2 dX10_lossAt_34
  · have hsp := hk_f c3 hsp
    refine lv_iload_n hx hb dX10_lossAt_15 rfl (lv_at hl 0 rfl) ?_
    refine lv_if_gt (tgt := 23) hx hb dX10_lossAt_16 (by decide) (fun c4 => ?_) (fun c4 => ?_)
    · have hsp := hk_t c4 hsp
      refine lv_aload_n hx hb dX10_lossAt_23 rfl (lv_at hl 1 rfl) ?_
      refine hk_getI F9 G h0 hkc_7 (k := 1) (by decide) qw_75 rfl dX10_lossAt_24 ?_
      refine lv_iload_n hx hb dX10_lossAt_27 rfl (lv_at hl 2 rfl) ?_
      refine lv_imul hx hb dX10_lossAt_28 ?_
      refine lv_bipush (v := 60) hx hb dX10_lossAt_29 (by decide) ?_
      refine lv_imul hx hb dX10_lossAt_31 ?_
      refine lv_iload_n hx hb dX10_lossAt_32 rfl (lv_at hl 0 rfl) ?_
      obtain ⟨q5, hsp⟩ := hk_k hsp
      refine lv_idiv hx hb dX10_lossAt_33 q5 ?_
      obtain rfl := hk_s hsp
      exact W.iret (v := ((((r2.2 a0 1) * x1) * 60) / y1)) hx hb hr (fun t ht hW => hk_end G ht hW) G.2.1.2.2 dX10_lossAt_34
    · have hsp := hk_f c4 hsp
      refine lv_iconst (v := 0) hx hb dX10_lossAt_19 (by decide) ?_
      refine lv_goto (tgt := 34) hx hb dX10_lossAt_20 (by decide) ?_
      obtain rfl := hk_s hsp
      exact W.iret (v := 0) hx hb hr (fun t ht hW => hk_end G ht hW) G.2.1.2.2 dX10_lossAt_34
def mX10_countViolations (E : hk_E) (F : Nat) (S : hk_S) (a0 : Nat) : Option (Int32 × hk_S) :=
(mX10_hasLeaf E F S a0).bind (fun r1 => if ¬ r1.1 = 0 then (if (r1.2 a0 3) ≤ (r1.2 a0 0) then (if (r1.2 a0 6) < 300 then (hk_let (0 + 1) (fun y5 => if (r1.2 a0 7) < 300 then (hk_let (y5 + 1) (fun y7 => if (r1.2 a0 8) < 0 then (hk_let (y7 + 1) (fun y9 => some (y9, r1.2))) else (if (r1.2 a0 8) ≤ 20 then (hk_let (y7 + 0) (fun y11 => some (y11, r1.2))) else (hk_let (y7 + 1) (fun y12 => some (y12, r1.2)))))) else (if (r1.2 a0 7) ≤ 900 then (hk_let (y5 + 0) (fun y14 => if (r1.2 a0 8) < 0 then (hk_let (y14 + 1) (fun y16 => some (y16, r1.2))) else (if (r1.2 a0 8) ≤ 20 then (hk_let (y14 + 0) (fun y18 => some (y18, r1.2))) else (hk_let (y14 + 1) (fun y19 => some (y19, r1.2)))))) else (hk_let (y5 + 1) (fun y20 => if (r1.2 a0 8) < 0 then (hk_let (y20 + 1) (fun y22 => some (y22, r1.2))) else (if (r1.2 a0 8) ≤ 20 then (hk_let (y20 + 0) (fun y24 => some (y24, r1.2))) else (hk_let (y20 + 1) (fun y25 => some (y25, r1.2))))))))) else (if (r1.2 a0 6) ≤ 900 then (hk_let (0 + 0) (fun y27 => if (r1.2 a0 7) < 300 then (hk_let (y27 + 1) (fun y29 => if (r1.2 a0 8) < 0 then (hk_let (y29 + 1) (fun y31 => some (y31, r1.2))) else (if (r1.2 a0 8) ≤ 20 then (hk_let (y29 + 0) (fun y33 => some (y33, r1.2))) else (hk_let (y29 + 1) (fun y34 => some (y34, r1.2)))))) else (if (r1.2 a0 7) ≤ 900 then (hk_let (y27 + 0) (fun y36 => if (r1.2 a0 8) < 0 then (hk_let (y36 + 1) (fun y38 => some (y38, r1.2))) else (if (r1.2 a0 8) ≤ 20 then (hk_let (y36 + 0) (fun y40 => some (y40, r1.2))) else (hk_let (y36 + 1) (fun y41 => some (y41, r1.2)))))) else (hk_let (y27 + 1) (fun y42 => if (r1.2 a0 8) < 0 then (hk_let (y42 + 1) (fun y44 => some (y44, r1.2))) else (if (r1.2 a0 8) ≤ 20 then (hk_let (y42 + 0) (fun y46 => some (y46, r1.2))) else (hk_let (y42 + 1) (fun y47 => some (y47, r1.2))))))))) else (hk_let (0 + 1) (fun y48 => if (r1.2 a0 7) < 300 then (hk_let (y48 + 1) (fun y50 => if (r1.2 a0 8) < 0 then (hk_let (y50 + 1) (fun y52 => some (y52, r1.2))) else (if (r1.2 a0 8) ≤ 20 then (hk_let (y50 + 0) (fun y54 => some (y54, r1.2))) else (hk_let (y50 + 1) (fun y55 => some (y55, r1.2)))))) else (if (r1.2 a0 7) ≤ 900 then (hk_let (y48 + 0) (fun y57 => if (r1.2 a0 8) < 0 then (hk_let (y57 + 1) (fun y59 => some (y59, r1.2))) else (if (r1.2 a0 8) ≤ 20 then (hk_let (y57 + 0) (fun y61 => some (y61, r1.2))) else (hk_let (y57 + 1) (fun y62 => some (y62, r1.2)))))) else (hk_let (y48 + 1) (fun y63 => if (r1.2 a0 8) < 0 then (hk_let (y63 + 1) (fun y65 => some (y65, r1.2))) else (if (r1.2 a0 8) ≤ 20 then (hk_let (y63 + 0) (fun y67 => some (y67, r1.2))) else (hk_let (y63 + 1) (fun y68 => some (y68, r1.2))))))))))) else (if (r1.2 a0 6) < 300 then (hk_let (1 + 1) (fun y70 => if (r1.2 a0 7) < 300 then (hk_let (y70 + 1) (fun y72 => if (r1.2 a0 8) < 0 then (hk_let (y72 + 1) (fun y74 => some (y74, r1.2))) else (if (r1.2 a0 8) ≤ 20 then (hk_let (y72 + 0) (fun y76 => some (y76, r1.2))) else (hk_let (y72 + 1) (fun y77 => some (y77, r1.2)))))) else (if (r1.2 a0 7) ≤ 900 then (hk_let (y70 + 0) (fun y79 => if (r1.2 a0 8) < 0 then (hk_let (y79 + 1) (fun y81 => some (y81, r1.2))) else (if (r1.2 a0 8) ≤ 20 then (hk_let (y79 + 0) (fun y83 => some (y83, r1.2))) else (hk_let (y79 + 1) (fun y84 => some (y84, r1.2)))))) else (hk_let (y70 + 1) (fun y85 => if (r1.2 a0 8) < 0 then (hk_let (y85 + 1) (fun y87 => some (y87, r1.2))) else (if (r1.2 a0 8) ≤ 20 then (hk_let (y85 + 0) (fun y89 => some (y89, r1.2))) else (hk_let (y85 + 1) (fun y90 => some (y90, r1.2))))))))) else (if (r1.2 a0 6) ≤ 900 then (hk_let (1 + 0) (fun y92 => if (r1.2 a0 7) < 300 then (hk_let (y92 + 1) (fun y94 => if (r1.2 a0 8) < 0 then (hk_let (y94 + 1) (fun y96 => some (y96, r1.2))) else (if (r1.2 a0 8) ≤ 20 then (hk_let (y94 + 0) (fun y98 => some (y98, r1.2))) else (hk_let (y94 + 1) (fun y99 => some (y99, r1.2)))))) else (if (r1.2 a0 7) ≤ 900 then (hk_let (y92 + 0) (fun y101 => if (r1.2 a0 8) < 0 then (hk_let (y101 + 1) (fun y103 => some (y103, r1.2))) else (if (r1.2 a0 8) ≤ 20 then (hk_let (y101 + 0) (fun y105 => some (y105, r1.2))) else (hk_let (y101 + 1) (fun y106 => some (y106, r1.2)))))) else (hk_let (y92 + 1) (fun y107 => if (r1.2 a0 8) < 0 then (hk_let (y107 + 1) (fun y109 => some (y109, r1.2))) else (if (r1.2 a0 8) ≤ 20 then (hk_let (y107 + 0) (fun y111 => some (y111, r1.2))) else (hk_let (y107 + 1) (fun y112 => some (y112, r1.2))))))))) else (hk_let (1 + 1) (fun y113 => if (r1.2 a0 7) < 300 then (hk_let (y113 + 1) (fun y115 => if (r1.2 a0 8) < 0 then (hk_let (y115 + 1) (fun y117 => some (y117, r1.2))) else (if (r1.2 a0 8) ≤ 20 then (hk_let (y115 + 0) (fun y119 => some (y119, r1.2))) else (hk_let (y115 + 1) (fun y120 => some (y120, r1.2)))))) else (if (r1.2 a0 7) ≤ 900 then (hk_let (y113 + 0) (fun y122 => if (r1.2 a0 8) < 0 then (hk_let (y122 + 1) (fun y124 => some (y124, r1.2))) else (if (r1.2 a0 8) ≤ 20 then (hk_let (y122 + 0) (fun y126 => some (y126, r1.2))) else (hk_let (y122 + 1) (fun y127 => some (y127, r1.2)))))) else (hk_let (y113 + 1) (fun y128 => if (r1.2 a0 8) < 0 then (hk_let (y128 + 1) (fun y130 => some (y130, r1.2))) else (if (r1.2 a0 8) ≤ 20 then (hk_let (y128 + 0) (fun y132 => some (y132, r1.2))) else (hk_let (y128 + 1) (fun y133 => some (y133, r1.2)))))))))))) else (some (0, r1.2)))
set_option maxHeartbeats 4000000 in
set_option maxRecDepth 100000 in
theorem kX10_countViolations (l : Launch) (g : hk_G) (E : hk_E) (F n : Nat) (S : hk_S) (a0 : Nat) (o : Int32 × hk_S) (h0 : E.2.1 a0 = 8) (hsp : mX10_countViolations E F S a0 = some o) : Met l yX10_countViolations (hk_ws yX10_countViolations cX10_countViolations 2 (Option.some Jvm.ClassFile.FieldType.int)) ({ frames := 1, cells := 0, slots := 0, locals := 20 }) (hk_Pc g E S n [.ref (g.1 + a0)]) (hk_Q g E o.2 n (some (.int o.1))) 0 0 (hk_A g) := by
  refine Met.ofW (cc := cX10_countViolations) (maxL := 2) (ret := (Option.some Jvm.ClassFile.FieldType.int)) (by decide) rfl ?_
  intro p e s m args below meth c s₁ B hml hv
  obtain ⟨rfl, G⟩ := hk_begin hv
  have F9 : CallFix p m c cX10_countViolations 2 s [.ref (g.1 + a0)].toArray hk_W RX10 := ⟨B.exec, B.bytes, hml, findClass_of_methodNamed B.named, fun w h => atoms_spec (ws := hk_ws yX10_countViolations cX10_countViolations 2 (Option.some Jvm.ClassFile.FieldType.int)) B.pre w (hk_in h)⟩
  have hx := B.exec
  have hb := B.bytes
  have hr := B.returns
  have hlocks := B.notSynchronized
  have hl := lv_entry ([.ref (g.1 + a0)]) (n := 2) (Nat.le_of_ble_eq_true rfl)
  rw [lg_entry_eq]
  generalize (lg_sl ([.ref (g.1 + a0)]) ++ List.replicate (2 - (lg_sl ([.ref (g.1 + a0)])).length) Slot.unset).toArray = ls at hl ⊢
  have hl : lv_has ls 2 [(0, .ref (g.1 + a0))] := hl
  unfold mX10_countViolations at hsp
  have G : hk_GG g E S n s s.heap [] := G
  refine lv_aload_n hx hb dX10_countViolations_0 rfl (lv_at hl 0 rfl) ?_
  obtain ⟨r1, er1, hsp⟩ := hk_b hsp
  refine hk_callVi (As := []) (rest := []) F9 G h0 hkc_7 rfl (kX10_hasLeaf l g E F n S a0 r1 h0 er1) qv_RX10_56 ⟨rfl, rfl, (Nat.le_of_ble_eq_true rfl), (Nat.le_of_ble_eq_true rfl)⟩ rfl hl.1 rfl (Nat.le_of_ble_eq_true rfl) ⟨Nat.zero_le _, Nat.zero_le _⟩ dX10_countViolations_1 (fun H locs G => ?_)
  refine lv_if_ne (tgt := 9) hx hb dX10_countViolations_4 (by decide) (fun c2 => ?_) (fun c2 => ?_)
  · have hsp := hk_t c2 hsp
    refine lv_aload_n hx hb dX10_countViolations_9 rfl (lv_at hl 0 rfl) ?_
    refine hk_getI F9 G h0 hkc_7 (k := 3) (by decide) qw_78 rfl dX10_countViolations_10 ?_
    refine lv_aload_n hx hb dX10_countViolations_13 rfl (lv_at hl 0 rfl) ?_
    refine hk_getI F9 G h0 hkc_7 (k := 0) (by decide) qw_72 rfl dX10_countViolations_14 ?_
    refine lv_icmp_le (tgt := 24) hx hb dX10_countViolations_17 (by decide) (fun c3 => ?_) (fun c3 => ?_)
    · have hsp := hk_t c3 hsp
      refine lv_iconst (v := 0) hx hb dX10_countViolations_24 (by decide) ?_
      refine lv_istore_n (lv' := [(1, .int 0), (0, .ref (g.1 + a0))]) hx hb dX10_countViolations_25 rfl hl (by decide) rfl (fun ls hl => ?_)
      refine lv_iload_n hx hb dX10_countViolations_26 rfl (lv_at hl 0 rfl) ?_
      refine lv_aload_n hx hb dX10_countViolations_27 rfl (lv_at hl 1 rfl) ?_
      refine hk_getI F9 G h0 hkc_7 (k := 6) (by decide) qw_86 rfl dX10_countViolations_28 ?_
      refine lv_sipush (v := 300) hx hb dX10_countViolations_31 (by decide) ?_
      refine lv_icmp_lt (tgt := 47) hx hb dX10_countViolations_34 (by decide) (fun c4 => ?_) (fun c4 => ?_)
      · have hsp := hk_t c4 hsp
        refine lv_iconst (v := 1) hx hb dX10_countViolations_47 (by decide) ?_
        refine lv_goto (tgt := 52) hx hb dX10_countViolations_48 (by decide) ?_
        refine lv_iadd hx hb dX10_countViolations_52 ?_
        obtain ⟨y5, ey5, hsp⟩ := hk_l hsp
        refine hk_top ey5 ?_
        refine lv_istore_n (lv' := [(1, .int y5), (0, .ref (g.1 + a0))]) hx hb dX10_countViolations_53 rfl hl (by decide) rfl (fun ls hl => ?_)
        refine lv_iload_n hx hb dX10_countViolations_54 rfl (lv_at hl 0 rfl) ?_
        refine lv_aload_n hx hb dX10_countViolations_55 rfl (lv_at hl 1 rfl) ?_
        refine hk_getI F9 G h0 hkc_7 (k := 7) (by decide) qw_88 rfl dX10_countViolations_56 ?_
        refine lv_sipush (v := 300) hx hb dX10_countViolations_59 (by decide) ?_
        refine lv_icmp_lt (tgt := 75) hx hb dX10_countViolations_62 (by decide) (fun c6 => ?_) (fun c6 => ?_)
        · have hsp := hk_t c6 hsp
          refine lv_iconst (v := 1) hx hb dX10_countViolations_75 (by decide) ?_
          refine lv_goto (tgt := 80) hx hb dX10_countViolations_76 (by decide) ?_
          refine lv_iadd hx hb dX10_countViolations_80 ?_
          obtain ⟨y7, ey7, hsp⟩ := hk_l hsp
          refine hk_top ey7 ?_
          refine lv_istore_n (lv' := [(1, .int y7), (0, .ref (g.1 + a0))]) hx hb dX10_countViolations_81 rfl hl (by decide) rfl (fun ls hl => ?_)
          refine lv_iload_n hx hb dX10_countViolations_82 rfl (lv_at hl 0 rfl) ?_
          refine lv_aload_n hx hb dX10_countViolations_83 rfl (lv_at hl 1 rfl) ?_
          refine hk_getI F9 G h0 hkc_7 (k := 8) (by decide) qw_91 rfl dX10_countViolations_84 ?_
          refine lv_if_lt (tgt := 99) hx hb dX10_countViolations_87 (by decide) (fun c8 => ?_) (fun c8 => ?_)
          · have hsp := hk_t c8 hsp
            refine lv_iconst (v := 1) hx hb dX10_countViolations_99 (by decide) ?_
            refine lv_goto (tgt := 104) hx hb dX10_countViolations_100 (by decide) ?_
            refine lv_iadd hx hb dX10_countViolations_104 ?_
            obtain ⟨y9, ey9, hsp⟩ := hk_l hsp
            refine hk_top ey9 ?_
            refine lv_istore_n (lv' := [(1, .int y9), (0, .ref (g.1 + a0))]) hx hb dX10_countViolations_105 rfl hl (by decide) rfl (fun ls hl => ?_)
            refine lv_iload_n hx hb dX10_countViolations_106 rfl (lv_at hl 0 rfl) ?_
            obtain rfl := hk_s hsp
            exact W.iret (v := y9) hx hb hr (fun t ht hW => hk_end G ht hW) G.2.1.2.2 dX10_countViolations_107
          · have hsp := hk_f c8 hsp
            refine lv_aload_n hx hb dX10_countViolations_90 rfl (lv_at hl 1 rfl) ?_
            refine hk_getI F9 G h0 hkc_7 (k := 8) (by decide) qw_91 rfl dX10_countViolations_91 ?_
            refine lv_bipush (v := 20) hx hb dX10_countViolations_94 (by decide) ?_
            refine lv_icmp_le (tgt := 103) hx hb dX10_countViolations_96 (by decide) (fun c10 => ?_) (fun c10 => ?_)
            · have hsp := hk_t c10 hsp
              refine lv_iconst (v := 0) hx hb dX10_countViolations_103 (by decide) ?_
              refine lv_iadd hx hb dX10_countViolations_104 ?_
              obtain ⟨y11, ey11, hsp⟩ := hk_l hsp
              refine hk_top ey11 ?_
              refine lv_istore_n (lv' := [(1, .int y11), (0, .ref (g.1 + a0))]) hx hb dX10_countViolations_105 rfl hl (by decide) rfl (fun ls hl => ?_)
              refine lv_iload_n hx hb dX10_countViolations_106 rfl (lv_at hl 0 rfl) ?_
              obtain rfl := hk_s hsp
              exact W.iret (v := y11) hx hb hr (fun t ht hW => hk_end G ht hW) G.2.1.2.2 dX10_countViolations_107
            · have hsp := hk_f c10 hsp
              refine lv_iconst (v := 1) hx hb dX10_countViolations_99 (by decide) ?_
              refine lv_goto (tgt := 104) hx hb dX10_countViolations_100 (by decide) ?_
              refine lv_iadd hx hb dX10_countViolations_104 ?_
              obtain ⟨y12, ey12, hsp⟩ := hk_l hsp
              refine hk_top ey12 ?_
              refine lv_istore_n (lv' := [(1, .int y12), (0, .ref (g.1 + a0))]) hx hb dX10_countViolations_105 rfl hl (by decide) rfl (fun ls hl => ?_)
              refine lv_iload_n hx hb dX10_countViolations_106 rfl (lv_at hl 0 rfl) ?_
              obtain rfl := hk_s hsp
              exact W.iret (v := y12) hx hb hr (fun t ht hW => hk_end G ht hW) G.2.1.2.2 dX10_countViolations_107
        · have hsp := hk_f c6 hsp
          refine lv_aload_n hx hb dX10_countViolations_65 rfl (lv_at hl 1 rfl) ?_
          refine hk_getI F9 G h0 hkc_7 (k := 7) (by decide) qw_88 rfl dX10_countViolations_66 ?_
          refine lv_sipush (v := 900) hx hb dX10_countViolations_69 (by decide) ?_
          refine lv_icmp_le (tgt := 79) hx hb dX10_countViolations_72 (by decide) (fun c13 => ?_) (fun c13 => ?_)
          · have hsp := hk_t c13 hsp
            refine lv_iconst (v := 0) hx hb dX10_countViolations_79 (by decide) ?_
            refine lv_iadd hx hb dX10_countViolations_80 ?_
            obtain ⟨y14, ey14, hsp⟩ := hk_l hsp
            refine hk_top ey14 ?_
            refine lv_istore_n (lv' := [(1, .int y14), (0, .ref (g.1 + a0))]) hx hb dX10_countViolations_81 rfl hl (by decide) rfl (fun ls hl => ?_)
            refine lv_iload_n hx hb dX10_countViolations_82 rfl (lv_at hl 0 rfl) ?_
            refine lv_aload_n hx hb dX10_countViolations_83 rfl (lv_at hl 1 rfl) ?_
            refine hk_getI F9 G h0 hkc_7 (k := 8) (by decide) qw_91 rfl dX10_countViolations_84 ?_
            refine lv_if_lt (tgt := 99) hx hb dX10_countViolations_87 (by decide) (fun c15 => ?_) (fun c15 => ?_)
            · have hsp := hk_t c15 hsp
              refine lv_iconst (v := 1) hx hb dX10_countViolations_99 (by decide) ?_
              refine lv_goto (tgt := 104) hx hb dX10_countViolations_100 (by decide) ?_
              refine lv_iadd hx hb dX10_countViolations_104 ?_
              obtain ⟨y16, ey16, hsp⟩ := hk_l hsp
              refine hk_top ey16 ?_
              refine lv_istore_n (lv' := [(1, .int y16), (0, .ref (g.1 + a0))]) hx hb dX10_countViolations_105 rfl hl (by decide) rfl (fun ls hl => ?_)
              refine lv_iload_n hx hb dX10_countViolations_106 rfl (lv_at hl 0 rfl) ?_
              obtain rfl := hk_s hsp
              exact W.iret (v := y16) hx hb hr (fun t ht hW => hk_end G ht hW) G.2.1.2.2 dX10_countViolations_107
            · have hsp := hk_f c15 hsp
              refine lv_aload_n hx hb dX10_countViolations_90 rfl (lv_at hl 1 rfl) ?_
              refine hk_getI F9 G h0 hkc_7 (k := 8) (by decide) qw_91 rfl dX10_countViolations_91 ?_
              refine lv_bipush (v := 20) hx hb dX10_countViolations_94 (by decide) ?_
              refine lv_icmp_le (tgt := 103) hx hb dX10_countViolations_96 (by decide) (fun c17 => ?_) (fun c17 => ?_)
              · have hsp := hk_t c17 hsp
                refine lv_iconst (v := 0) hx hb dX10_countViolations_103 (by decide) ?_
                refine lv_iadd hx hb dX10_countViolations_104 ?_
                obtain ⟨y18, ey18, hsp⟩ := hk_l hsp
                refine hk_top ey18 ?_
                refine lv_istore_n (lv' := [(1, .int y18), (0, .ref (g.1 + a0))]) hx hb dX10_countViolations_105 rfl hl (by decide) rfl (fun ls hl => ?_)
                refine lv_iload_n hx hb dX10_countViolations_106 rfl (lv_at hl 0 rfl) ?_
                obtain rfl := hk_s hsp
                exact W.iret (v := y18) hx hb hr (fun t ht hW => hk_end G ht hW) G.2.1.2.2 dX10_countViolations_107
              · have hsp := hk_f c17 hsp
                refine lv_iconst (v := 1) hx hb dX10_countViolations_99 (by decide) ?_
                refine lv_goto (tgt := 104) hx hb dX10_countViolations_100 (by decide) ?_
                refine lv_iadd hx hb dX10_countViolations_104 ?_
                obtain ⟨y19, ey19, hsp⟩ := hk_l hsp
                refine hk_top ey19 ?_
                refine lv_istore_n (lv' := [(1, .int y19), (0, .ref (g.1 + a0))]) hx hb dX10_countViolations_105 rfl hl (by decide) rfl (fun ls hl => ?_)
                refine lv_iload_n hx hb dX10_countViolations_106 rfl (lv_at hl 0 rfl) ?_
                obtain rfl := hk_s hsp
                exact W.iret (v := y19) hx hb hr (fun t ht hW => hk_end G ht hW) G.2.1.2.2 dX10_countViolations_107
          · have hsp := hk_f c13 hsp
            refine lv_iconst (v := 1) hx hb dX10_countViolations_75 (by decide) ?_
            refine lv_goto (tgt := 80) hx hb dX10_countViolations_76 (by decide) ?_
            refine lv_iadd hx hb dX10_countViolations_80 ?_
            obtain ⟨y20, ey20, hsp⟩ := hk_l hsp
            refine hk_top ey20 ?_
            refine lv_istore_n (lv' := [(1, .int y20), (0, .ref (g.1 + a0))]) hx hb dX10_countViolations_81 rfl hl (by decide) rfl (fun ls hl => ?_)
            refine lv_iload_n hx hb dX10_countViolations_82 rfl (lv_at hl 0 rfl) ?_
            refine lv_aload_n hx hb dX10_countViolations_83 rfl (lv_at hl 1 rfl) ?_
            refine hk_getI F9 G h0 hkc_7 (k := 8) (by decide) qw_91 rfl dX10_countViolations_84 ?_
            refine lv_if_lt (tgt := 99) hx hb dX10_countViolations_87 (by decide) (fun c21 => ?_) (fun c21 => ?_)
            · have hsp := hk_t c21 hsp
              refine lv_iconst (v := 1) hx hb dX10_countViolations_99 (by decide) ?_
              refine lv_goto (tgt := 104) hx hb dX10_countViolations_100 (by decide) ?_
              refine lv_iadd hx hb dX10_countViolations_104 ?_
              obtain ⟨y22, ey22, hsp⟩ := hk_l hsp
              refine hk_top ey22 ?_
              refine lv_istore_n (lv' := [(1, .int y22), (0, .ref (g.1 + a0))]) hx hb dX10_countViolations_105 rfl hl (by decide) rfl (fun ls hl => ?_)
              refine lv_iload_n hx hb dX10_countViolations_106 rfl (lv_at hl 0 rfl) ?_
              obtain rfl := hk_s hsp
              exact W.iret (v := y22) hx hb hr (fun t ht hW => hk_end G ht hW) G.2.1.2.2 dX10_countViolations_107
            · have hsp := hk_f c21 hsp
              refine lv_aload_n hx hb dX10_countViolations_90 rfl (lv_at hl 1 rfl) ?_
              refine hk_getI F9 G h0 hkc_7 (k := 8) (by decide) qw_91 rfl dX10_countViolations_91 ?_
              refine lv_bipush (v := 20) hx hb dX10_countViolations_94 (by decide) ?_
              refine lv_icmp_le (tgt := 103) hx hb dX10_countViolations_96 (by decide) (fun c23 => ?_) (fun c23 => ?_)
              · have hsp := hk_t c23 hsp
                refine lv_iconst (v := 0) hx hb dX10_countViolations_103 (by decide) ?_
                refine lv_iadd hx hb dX10_countViolations_104 ?_
                obtain ⟨y24, ey24, hsp⟩ := hk_l hsp
                refine hk_top ey24 ?_
                refine lv_istore_n (lv' := [(1, .int y24), (0, .ref (g.1 + a0))]) hx hb dX10_countViolations_105 rfl hl (by decide) rfl (fun ls hl => ?_)
                refine lv_iload_n hx hb dX10_countViolations_106 rfl (lv_at hl 0 rfl) ?_
                obtain rfl := hk_s hsp
                exact W.iret (v := y24) hx hb hr (fun t ht hW => hk_end G ht hW) G.2.1.2.2 dX10_countViolations_107
              · have hsp := hk_f c23 hsp
                refine lv_iconst (v := 1) hx hb dX10_countViolations_99 (by decide) ?_
                refine lv_goto (tgt := 104) hx hb dX10_countViolations_100 (by decide) ?_
                refine lv_iadd hx hb dX10_countViolations_104 ?_
                obtain ⟨y25, ey25, hsp⟩ := hk_l hsp
                refine hk_top ey25 ?_
                refine lv_istore_n (lv' := [(1, .int y25), (0, .ref (g.1 + a0))]) hx hb dX10_countViolations_105 rfl hl (by decide) rfl (fun ls hl => ?_)
                refine lv_iload_n hx hb dX10_countViolations_106 rfl (lv_at hl 0 rfl) ?_
                obtain rfl := hk_s hsp
                exact W.iret (v := y25) hx hb hr (fun t ht hW => hk_end G ht hW) G.2.1.2.2 dX10_countViolations_107
      · have hsp := hk_f c4 hsp
        refine lv_aload_n hx hb dX10_countViolations_37 rfl (lv_at hl 1 rfl) ?_
        refine hk_getI F9 G h0 hkc_7 (k := 6) (by decide) qw_86 rfl dX10_countViolations_38 ?_
        refine lv_sipush (v := 900) hx hb dX10_countViolations_41 (by decide) ?_
        refine lv_icmp_le (tgt := 51) hx hb dX10_countViolations_44 (by decide) (fun c26 => ?_) (fun c26 => ?_)
        · have hsp := hk_t c26 hsp
          refine lv_iconst (v := 0) hx hb dX10_countViolations_51 (by decide) ?_
          refine lv_iadd hx hb dX10_countViolations_52 ?_
          obtain ⟨y27, ey27, hsp⟩ := hk_l hsp
          refine hk_top ey27 ?_
          refine lv_istore_n (lv' := [(1, .int y27), (0, .ref (g.1 + a0))]) hx hb dX10_countViolations_53 rfl hl (by decide) rfl (fun ls hl => ?_)
          refine lv_iload_n hx hb dX10_countViolations_54 rfl (lv_at hl 0 rfl) ?_
          refine lv_aload_n hx hb dX10_countViolations_55 rfl (lv_at hl 1 rfl) ?_
          refine hk_getI F9 G h0 hkc_7 (k := 7) (by decide) qw_88 rfl dX10_countViolations_56 ?_
          refine lv_sipush (v := 300) hx hb dX10_countViolations_59 (by decide) ?_
          refine lv_icmp_lt (tgt := 75) hx hb dX10_countViolations_62 (by decide) (fun c28 => ?_) (fun c28 => ?_)
          · have hsp := hk_t c28 hsp
            refine lv_iconst (v := 1) hx hb dX10_countViolations_75 (by decide) ?_
            refine lv_goto (tgt := 80) hx hb dX10_countViolations_76 (by decide) ?_
            refine lv_iadd hx hb dX10_countViolations_80 ?_
            obtain ⟨y29, ey29, hsp⟩ := hk_l hsp
            refine hk_top ey29 ?_
            refine lv_istore_n (lv' := [(1, .int y29), (0, .ref (g.1 + a0))]) hx hb dX10_countViolations_81 rfl hl (by decide) rfl (fun ls hl => ?_)
            refine lv_iload_n hx hb dX10_countViolations_82 rfl (lv_at hl 0 rfl) ?_
            refine lv_aload_n hx hb dX10_countViolations_83 rfl (lv_at hl 1 rfl) ?_
            refine hk_getI F9 G h0 hkc_7 (k := 8) (by decide) qw_91 rfl dX10_countViolations_84 ?_
            refine lv_if_lt (tgt := 99) hx hb dX10_countViolations_87 (by decide) (fun c30 => ?_) (fun c30 => ?_)
            · have hsp := hk_t c30 hsp
              refine lv_iconst (v := 1) hx hb dX10_countViolations_99 (by decide) ?_
              refine lv_goto (tgt := 104) hx hb dX10_countViolations_100 (by decide) ?_
              refine lv_iadd hx hb dX10_countViolations_104 ?_
              obtain ⟨y31, ey31, hsp⟩ := hk_l hsp
              refine hk_top ey31 ?_
              refine lv_istore_n (lv' := [(1, .int y31), (0, .ref (g.1 + a0))]) hx hb dX10_countViolations_105 rfl hl (by decide) rfl (fun ls hl => ?_)
              refine lv_iload_n hx hb dX10_countViolations_106 rfl (lv_at hl 0 rfl) ?_
              obtain rfl := hk_s hsp
              exact W.iret (v := y31) hx hb hr (fun t ht hW => hk_end G ht hW) G.2.1.2.2 dX10_countViolations_107
            · have hsp := hk_f c30 hsp
              refine lv_aload_n hx hb dX10_countViolations_90 rfl (lv_at hl 1 rfl) ?_
              refine hk_getI F9 G h0 hkc_7 (k := 8) (by decide) qw_91 rfl dX10_countViolations_91 ?_
              refine lv_bipush (v := 20) hx hb dX10_countViolations_94 (by decide) ?_
              refine lv_icmp_le (tgt := 103) hx hb dX10_countViolations_96 (by decide) (fun c32 => ?_) (fun c32 => ?_)
              · have hsp := hk_t c32 hsp
                refine lv_iconst (v := 0) hx hb dX10_countViolations_103 (by decide) ?_
                refine lv_iadd hx hb dX10_countViolations_104 ?_
                obtain ⟨y33, ey33, hsp⟩ := hk_l hsp
                refine hk_top ey33 ?_
                refine lv_istore_n (lv' := [(1, .int y33), (0, .ref (g.1 + a0))]) hx hb dX10_countViolations_105 rfl hl (by decide) rfl (fun ls hl => ?_)
                refine lv_iload_n hx hb dX10_countViolations_106 rfl (lv_at hl 0 rfl) ?_
                obtain rfl := hk_s hsp
                exact W.iret (v := y33) hx hb hr (fun t ht hW => hk_end G ht hW) G.2.1.2.2 dX10_countViolations_107
              · have hsp := hk_f c32 hsp
                refine lv_iconst (v := 1) hx hb dX10_countViolations_99 (by decide) ?_
                refine lv_goto (tgt := 104) hx hb dX10_countViolations_100 (by decide) ?_
                refine lv_iadd hx hb dX10_countViolations_104 ?_
                obtain ⟨y34, ey34, hsp⟩ := hk_l hsp
                refine hk_top ey34 ?_
                refine lv_istore_n (lv' := [(1, .int y34), (0, .ref (g.1 + a0))]) hx hb dX10_countViolations_105 rfl hl (by decide) rfl (fun ls hl => ?_)
                refine lv_iload_n hx hb dX10_countViolations_106 rfl (lv_at hl 0 rfl) ?_
                obtain rfl := hk_s hsp
                exact W.iret (v := y34) hx hb hr (fun t ht hW => hk_end G ht hW) G.2.1.2.2 dX10_countViolations_107
          · have hsp := hk_f c28 hsp
            refine lv_aload_n hx hb dX10_countViolations_65 rfl (lv_at hl 1 rfl) ?_
            refine hk_getI F9 G h0 hkc_7 (k := 7) (by decide) qw_88 rfl dX10_countViolations_66 ?_
            refine lv_sipush (v := 900) hx hb dX10_countViolations_69 (by decide) ?_
            refine lv_icmp_le (tgt := 79) hx hb dX10_countViolations_72 (by decide) (fun c35 => ?_) (fun c35 => ?_)
            · have hsp := hk_t c35 hsp
              refine lv_iconst (v := 0) hx hb dX10_countViolations_79 (by decide) ?_
              refine lv_iadd hx hb dX10_countViolations_80 ?_
              obtain ⟨y36, ey36, hsp⟩ := hk_l hsp
              refine hk_top ey36 ?_
              refine lv_istore_n (lv' := [(1, .int y36), (0, .ref (g.1 + a0))]) hx hb dX10_countViolations_81 rfl hl (by decide) rfl (fun ls hl => ?_)
              refine lv_iload_n hx hb dX10_countViolations_82 rfl (lv_at hl 0 rfl) ?_
              refine lv_aload_n hx hb dX10_countViolations_83 rfl (lv_at hl 1 rfl) ?_
              refine hk_getI F9 G h0 hkc_7 (k := 8) (by decide) qw_91 rfl dX10_countViolations_84 ?_
              refine lv_if_lt (tgt := 99) hx hb dX10_countViolations_87 (by decide) (fun c37 => ?_) (fun c37 => ?_)
              · have hsp := hk_t c37 hsp
                refine lv_iconst (v := 1) hx hb dX10_countViolations_99 (by decide) ?_
                refine lv_goto (tgt := 104) hx hb dX10_countViolations_100 (by decide) ?_
                refine lv_iadd hx hb dX10_countViolations_104 ?_
                obtain ⟨y38, ey38, hsp⟩ := hk_l hsp
                refine hk_top ey38 ?_
                refine lv_istore_n (lv' := [(1, .int y38), (0, .ref (g.1 + a0))]) hx hb dX10_countViolations_105 rfl hl (by decide) rfl (fun ls hl => ?_)
                refine lv_iload_n hx hb dX10_countViolations_106 rfl (lv_at hl 0 rfl) ?_
                obtain rfl := hk_s hsp
                exact W.iret (v := y38) hx hb hr (fun t ht hW => hk_end G ht hW) G.2.1.2.2 dX10_countViolations_107
              · have hsp := hk_f c37 hsp
                refine lv_aload_n hx hb dX10_countViolations_90 rfl (lv_at hl 1 rfl) ?_
                refine hk_getI F9 G h0 hkc_7 (k := 8) (by decide) qw_91 rfl dX10_countViolations_91 ?_
                refine lv_bipush (v := 20) hx hb dX10_countViolations_94 (by decide) ?_
                refine lv_icmp_le (tgt := 103) hx hb dX10_countViolations_96 (by decide) (fun c39 => ?_) (fun c39 => ?_)
                · have hsp := hk_t c39 hsp
                  refine lv_iconst (v := 0) hx hb dX10_countViolations_103 (by decide) ?_
                  refine lv_iadd hx hb dX10_countViolations_104 ?_
                  obtain ⟨y40, ey40, hsp⟩ := hk_l hsp
                  refine hk_top ey40 ?_
                  refine lv_istore_n (lv' := [(1, .int y40), (0, .ref (g.1 + a0))]) hx hb dX10_countViolations_105 rfl hl (by decide) rfl (fun ls hl => ?_)
                  refine lv_iload_n hx hb dX10_countViolations_106 rfl (lv_at hl 0 rfl) ?_
                  obtain rfl := hk_s hsp
                  exact W.iret (v := y40) hx hb hr (fun t ht hW => hk_end G ht hW) G.2.1.2.2 dX10_countViolations_107
                · have hsp := hk_f c39 hsp
                  refine lv_iconst (v := 1) hx hb dX10_countViolations_99 (by decide) ?_
                  refine lv_goto (tgt := 104) hx hb dX10_countViolations_100 (by decide) ?_
                  refine lv_iadd hx hb dX10_countViolations_104 ?_
                  obtain ⟨y41, ey41, hsp⟩ := hk_l hsp
                  refine hk_top ey41 ?_
                  refine lv_istore_n (lv' := [(1, .int y41), (0, .ref (g.1 + a0))]) hx hb dX10_countViolations_105 rfl hl (by decide) rfl (fun ls hl => ?_)
                  refine lv_iload_n hx hb dX10_countViolations_106 rfl (lv_at hl 0 rfl) ?_
                  obtain rfl := hk_s hsp
                  exact W.iret (v := y41) hx hb hr (fun t ht hW => hk_end G ht hW) G.2.1.2.2 dX10_countViolations_107
            · have hsp := hk_f c35 hsp
              refine lv_iconst (v := 1) hx hb dX10_countViolations_75 (by decide) ?_
              refine lv_goto (tgt := 80) hx hb dX10_countViolations_76 (by decide) ?_
              refine lv_iadd hx hb dX10_countViolations_80 ?_
              obtain ⟨y42, ey42, hsp⟩ := hk_l hsp
              refine hk_top ey42 ?_
              refine lv_istore_n (lv' := [(1, .int y42), (0, .ref (g.1 + a0))]) hx hb dX10_countViolations_81 rfl hl (by decide) rfl (fun ls hl => ?_)
              refine lv_iload_n hx hb dX10_countViolations_82 rfl (lv_at hl 0 rfl) ?_
              refine lv_aload_n hx hb dX10_countViolations_83 rfl (lv_at hl 1 rfl) ?_
              refine hk_getI F9 G h0 hkc_7 (k := 8) (by decide) qw_91 rfl dX10_countViolations_84 ?_
              refine lv_if_lt (tgt := 99) hx hb dX10_countViolations_87 (by decide) (fun c43 => ?_) (fun c43 => ?_)
              · have hsp := hk_t c43 hsp
                refine lv_iconst (v := 1) hx hb dX10_countViolations_99 (by decide) ?_
                refine lv_goto (tgt := 104) hx hb dX10_countViolations_100 (by decide) ?_
                refine lv_iadd hx hb dX10_countViolations_104 ?_
                obtain ⟨y44, ey44, hsp⟩ := hk_l hsp
                refine hk_top ey44 ?_
                refine lv_istore_n (lv' := [(1, .int y44), (0, .ref (g.1 + a0))]) hx hb dX10_countViolations_105 rfl hl (by decide) rfl (fun ls hl => ?_)
                refine lv_iload_n hx hb dX10_countViolations_106 rfl (lv_at hl 0 rfl) ?_
                obtain rfl := hk_s hsp
                exact W.iret (v := y44) hx hb hr (fun t ht hW => hk_end G ht hW) G.2.1.2.2 dX10_countViolations_107
              · have hsp := hk_f c43 hsp
                refine lv_aload_n hx hb dX10_countViolations_90 rfl (lv_at hl 1 rfl) ?_
                refine hk_getI F9 G h0 hkc_7 (k := 8) (by decide) qw_91 rfl dX10_countViolations_91 ?_
                refine lv_bipush (v := 20) hx hb dX10_countViolations_94 (by decide) ?_
                refine lv_icmp_le (tgt := 103) hx hb dX10_countViolations_96 (by decide) (fun c45 => ?_) (fun c45 => ?_)
                · have hsp := hk_t c45 hsp
                  refine lv_iconst (v := 0) hx hb dX10_countViolations_103 (by decide) ?_
                  refine lv_iadd hx hb dX10_countViolations_104 ?_
                  obtain ⟨y46, ey46, hsp⟩ := hk_l hsp
                  refine hk_top ey46 ?_
                  refine lv_istore_n (lv' := [(1, .int y46), (0, .ref (g.1 + a0))]) hx hb dX10_countViolations_105 rfl hl (by decide) rfl (fun ls hl => ?_)
                  refine lv_iload_n hx hb dX10_countViolations_106 rfl (lv_at hl 0 rfl) ?_
                  obtain rfl := hk_s hsp
                  exact W.iret (v := y46) hx hb hr (fun t ht hW => hk_end G ht hW) G.2.1.2.2 dX10_countViolations_107
                · have hsp := hk_f c45 hsp
                  refine lv_iconst (v := 1) hx hb dX10_countViolations_99 (by decide) ?_
                  refine lv_goto (tgt := 104) hx hb dX10_countViolations_100 (by decide) ?_
                  refine lv_iadd hx hb dX10_countViolations_104 ?_
                  obtain ⟨y47, ey47, hsp⟩ := hk_l hsp
                  refine hk_top ey47 ?_
                  refine lv_istore_n (lv' := [(1, .int y47), (0, .ref (g.1 + a0))]) hx hb dX10_countViolations_105 rfl hl (by decide) rfl (fun ls hl => ?_)
                  refine lv_iload_n hx hb dX10_countViolations_106 rfl (lv_at hl 0 rfl) ?_
                  obtain rfl := hk_s hsp
                  exact W.iret (v := y47) hx hb hr (fun t ht hW => hk_end G ht hW) G.2.1.2.2 dX10_countViolations_107
        · have hsp := hk_f c26 hsp
          refine lv_iconst (v := 1) hx hb dX10_countViolations_47 (by decide) ?_
          refine lv_goto (tgt := 52) hx hb dX10_countViolations_48 (by decide) ?_
          refine lv_iadd hx hb dX10_countViolations_52 ?_
          obtain ⟨y48, ey48, hsp⟩ := hk_l hsp
          refine hk_top ey48 ?_
          refine lv_istore_n (lv' := [(1, .int y48), (0, .ref (g.1 + a0))]) hx hb dX10_countViolations_53 rfl hl (by decide) rfl (fun ls hl => ?_)
          refine lv_iload_n hx hb dX10_countViolations_54 rfl (lv_at hl 0 rfl) ?_
          refine lv_aload_n hx hb dX10_countViolations_55 rfl (lv_at hl 1 rfl) ?_
          refine hk_getI F9 G h0 hkc_7 (k := 7) (by decide) qw_88 rfl dX10_countViolations_56 ?_
          refine lv_sipush (v := 300) hx hb dX10_countViolations_59 (by decide) ?_
          refine lv_icmp_lt (tgt := 75) hx hb dX10_countViolations_62 (by decide) (fun c49 => ?_) (fun c49 => ?_)
          · have hsp := hk_t c49 hsp
            refine lv_iconst (v := 1) hx hb dX10_countViolations_75 (by decide) ?_
            refine lv_goto (tgt := 80) hx hb dX10_countViolations_76 (by decide) ?_
            refine lv_iadd hx hb dX10_countViolations_80 ?_
            obtain ⟨y50, ey50, hsp⟩ := hk_l hsp
            refine hk_top ey50 ?_
            refine lv_istore_n (lv' := [(1, .int y50), (0, .ref (g.1 + a0))]) hx hb dX10_countViolations_81 rfl hl (by decide) rfl (fun ls hl => ?_)
            refine lv_iload_n hx hb dX10_countViolations_82 rfl (lv_at hl 0 rfl) ?_
            refine lv_aload_n hx hb dX10_countViolations_83 rfl (lv_at hl 1 rfl) ?_
            refine hk_getI F9 G h0 hkc_7 (k := 8) (by decide) qw_91 rfl dX10_countViolations_84 ?_
            refine lv_if_lt (tgt := 99) hx hb dX10_countViolations_87 (by decide) (fun c51 => ?_) (fun c51 => ?_)
            · have hsp := hk_t c51 hsp
              refine lv_iconst (v := 1) hx hb dX10_countViolations_99 (by decide) ?_
              refine lv_goto (tgt := 104) hx hb dX10_countViolations_100 (by decide) ?_
              refine lv_iadd hx hb dX10_countViolations_104 ?_
              obtain ⟨y52, ey52, hsp⟩ := hk_l hsp
              refine hk_top ey52 ?_
              refine lv_istore_n (lv' := [(1, .int y52), (0, .ref (g.1 + a0))]) hx hb dX10_countViolations_105 rfl hl (by decide) rfl (fun ls hl => ?_)
              refine lv_iload_n hx hb dX10_countViolations_106 rfl (lv_at hl 0 rfl) ?_
              obtain rfl := hk_s hsp
              exact W.iret (v := y52) hx hb hr (fun t ht hW => hk_end G ht hW) G.2.1.2.2 dX10_countViolations_107
            · have hsp := hk_f c51 hsp
              refine lv_aload_n hx hb dX10_countViolations_90 rfl (lv_at hl 1 rfl) ?_
              refine hk_getI F9 G h0 hkc_7 (k := 8) (by decide) qw_91 rfl dX10_countViolations_91 ?_
              refine lv_bipush (v := 20) hx hb dX10_countViolations_94 (by decide) ?_
              refine lv_icmp_le (tgt := 103) hx hb dX10_countViolations_96 (by decide) (fun c53 => ?_) (fun c53 => ?_)
              · have hsp := hk_t c53 hsp
                refine lv_iconst (v := 0) hx hb dX10_countViolations_103 (by decide) ?_
                refine lv_iadd hx hb dX10_countViolations_104 ?_
                obtain ⟨y54, ey54, hsp⟩ := hk_l hsp
                refine hk_top ey54 ?_
                refine lv_istore_n (lv' := [(1, .int y54), (0, .ref (g.1 + a0))]) hx hb dX10_countViolations_105 rfl hl (by decide) rfl (fun ls hl => ?_)
                refine lv_iload_n hx hb dX10_countViolations_106 rfl (lv_at hl 0 rfl) ?_
                obtain rfl := hk_s hsp
                exact W.iret (v := y54) hx hb hr (fun t ht hW => hk_end G ht hW) G.2.1.2.2 dX10_countViolations_107
              · have hsp := hk_f c53 hsp
                refine lv_iconst (v := 1) hx hb dX10_countViolations_99 (by decide) ?_
                refine lv_goto (tgt := 104) hx hb dX10_countViolations_100 (by decide) ?_
                refine lv_iadd hx hb dX10_countViolations_104 ?_
                obtain ⟨y55, ey55, hsp⟩ := hk_l hsp
                refine hk_top ey55 ?_
                refine lv_istore_n (lv' := [(1, .int y55), (0, .ref (g.1 + a0))]) hx hb dX10_countViolations_105 rfl hl (by decide) rfl (fun ls hl => ?_)
                refine lv_iload_n hx hb dX10_countViolations_106 rfl (lv_at hl 0 rfl) ?_
                obtain rfl := hk_s hsp
                exact W.iret (v := y55) hx hb hr (fun t ht hW => hk_end G ht hW) G.2.1.2.2 dX10_countViolations_107
          · have hsp := hk_f c49 hsp
            refine lv_aload_n hx hb dX10_countViolations_65 rfl (lv_at hl 1 rfl) ?_
            refine hk_getI F9 G h0 hkc_7 (k := 7) (by decide) qw_88 rfl dX10_countViolations_66 ?_
            refine lv_sipush (v := 900) hx hb dX10_countViolations_69 (by decide) ?_
            refine lv_icmp_le (tgt := 79) hx hb dX10_countViolations_72 (by decide) (fun c56 => ?_) (fun c56 => ?_)
            · have hsp := hk_t c56 hsp
              refine lv_iconst (v := 0) hx hb dX10_countViolations_79 (by decide) ?_
              refine lv_iadd hx hb dX10_countViolations_80 ?_
              obtain ⟨y57, ey57, hsp⟩ := hk_l hsp
              refine hk_top ey57 ?_
              refine lv_istore_n (lv' := [(1, .int y57), (0, .ref (g.1 + a0))]) hx hb dX10_countViolations_81 rfl hl (by decide) rfl (fun ls hl => ?_)
              refine lv_iload_n hx hb dX10_countViolations_82 rfl (lv_at hl 0 rfl) ?_
              refine lv_aload_n hx hb dX10_countViolations_83 rfl (lv_at hl 1 rfl) ?_
              refine hk_getI F9 G h0 hkc_7 (k := 8) (by decide) qw_91 rfl dX10_countViolations_84 ?_
              refine lv_if_lt (tgt := 99) hx hb dX10_countViolations_87 (by decide) (fun c58 => ?_) (fun c58 => ?_)
              · have hsp := hk_t c58 hsp
                refine lv_iconst (v := 1) hx hb dX10_countViolations_99 (by decide) ?_
                refine lv_goto (tgt := 104) hx hb dX10_countViolations_100 (by decide) ?_
                refine lv_iadd hx hb dX10_countViolations_104 ?_
                obtain ⟨y59, ey59, hsp⟩ := hk_l hsp
                refine hk_top ey59 ?_
                refine lv_istore_n (lv' := [(1, .int y59), (0, .ref (g.1 + a0))]) hx hb dX10_countViolations_105 rfl hl (by decide) rfl (fun ls hl => ?_)
                refine lv_iload_n hx hb dX10_countViolations_106 rfl (lv_at hl 0 rfl) ?_
                obtain rfl := hk_s hsp
                exact W.iret (v := y59) hx hb hr (fun t ht hW => hk_end G ht hW) G.2.1.2.2 dX10_countViolations_107
              · have hsp := hk_f c58 hsp
                refine lv_aload_n hx hb dX10_countViolations_90 rfl (lv_at hl 1 rfl) ?_
                refine hk_getI F9 G h0 hkc_7 (k := 8) (by decide) qw_91 rfl dX10_countViolations_91 ?_
                refine lv_bipush (v := 20) hx hb dX10_countViolations_94 (by decide) ?_
                refine lv_icmp_le (tgt := 103) hx hb dX10_countViolations_96 (by decide) (fun c60 => ?_) (fun c60 => ?_)
                · have hsp := hk_t c60 hsp
                  refine lv_iconst (v := 0) hx hb dX10_countViolations_103 (by decide) ?_
                  refine lv_iadd hx hb dX10_countViolations_104 ?_
                  obtain ⟨y61, ey61, hsp⟩ := hk_l hsp
                  refine hk_top ey61 ?_
                  refine lv_istore_n (lv' := [(1, .int y61), (0, .ref (g.1 + a0))]) hx hb dX10_countViolations_105 rfl hl (by decide) rfl (fun ls hl => ?_)
                  refine lv_iload_n hx hb dX10_countViolations_106 rfl (lv_at hl 0 rfl) ?_
                  obtain rfl := hk_s hsp
                  exact W.iret (v := y61) hx hb hr (fun t ht hW => hk_end G ht hW) G.2.1.2.2 dX10_countViolations_107
                · have hsp := hk_f c60 hsp
                  refine lv_iconst (v := 1) hx hb dX10_countViolations_99 (by decide) ?_
                  refine lv_goto (tgt := 104) hx hb dX10_countViolations_100 (by decide) ?_
                  refine lv_iadd hx hb dX10_countViolations_104 ?_
                  obtain ⟨y62, ey62, hsp⟩ := hk_l hsp
                  refine hk_top ey62 ?_
                  refine lv_istore_n (lv' := [(1, .int y62), (0, .ref (g.1 + a0))]) hx hb dX10_countViolations_105 rfl hl (by decide) rfl (fun ls hl => ?_)
                  refine lv_iload_n hx hb dX10_countViolations_106 rfl (lv_at hl 0 rfl) ?_
                  obtain rfl := hk_s hsp
                  exact W.iret (v := y62) hx hb hr (fun t ht hW => hk_end G ht hW) G.2.1.2.2 dX10_countViolations_107
            · have hsp := hk_f c56 hsp
              refine lv_iconst (v := 1) hx hb dX10_countViolations_75 (by decide) ?_
              refine lv_goto (tgt := 80) hx hb dX10_countViolations_76 (by decide) ?_
              refine lv_iadd hx hb dX10_countViolations_80 ?_
              obtain ⟨y63, ey63, hsp⟩ := hk_l hsp
              refine hk_top ey63 ?_
              refine lv_istore_n (lv' := [(1, .int y63), (0, .ref (g.1 + a0))]) hx hb dX10_countViolations_81 rfl hl (by decide) rfl (fun ls hl => ?_)
              refine lv_iload_n hx hb dX10_countViolations_82 rfl (lv_at hl 0 rfl) ?_
              refine lv_aload_n hx hb dX10_countViolations_83 rfl (lv_at hl 1 rfl) ?_
              refine hk_getI F9 G h0 hkc_7 (k := 8) (by decide) qw_91 rfl dX10_countViolations_84 ?_
              refine lv_if_lt (tgt := 99) hx hb dX10_countViolations_87 (by decide) (fun c64 => ?_) (fun c64 => ?_)
              · have hsp := hk_t c64 hsp
                refine lv_iconst (v := 1) hx hb dX10_countViolations_99 (by decide) ?_
                refine lv_goto (tgt := 104) hx hb dX10_countViolations_100 (by decide) ?_
                refine lv_iadd hx hb dX10_countViolations_104 ?_
                obtain ⟨y65, ey65, hsp⟩ := hk_l hsp
                refine hk_top ey65 ?_
                refine lv_istore_n (lv' := [(1, .int y65), (0, .ref (g.1 + a0))]) hx hb dX10_countViolations_105 rfl hl (by decide) rfl (fun ls hl => ?_)
                refine lv_iload_n hx hb dX10_countViolations_106 rfl (lv_at hl 0 rfl) ?_
                obtain rfl := hk_s hsp
                exact W.iret (v := y65) hx hb hr (fun t ht hW => hk_end G ht hW) G.2.1.2.2 dX10_countViolations_107
              · have hsp := hk_f c64 hsp
                refine lv_aload_n hx hb dX10_countViolations_90 rfl (lv_at hl 1 rfl) ?_
                refine hk_getI F9 G h0 hkc_7 (k := 8) (by decide) qw_91 rfl dX10_countViolations_91 ?_
                refine lv_bipush (v := 20) hx hb dX10_countViolations_94 (by decide) ?_
                refine lv_icmp_le (tgt := 103) hx hb dX10_countViolations_96 (by decide) (fun c66 => ?_) (fun c66 => ?_)
                · have hsp := hk_t c66 hsp
                  refine lv_iconst (v := 0) hx hb dX10_countViolations_103 (by decide) ?_
                  refine lv_iadd hx hb dX10_countViolations_104 ?_
                  obtain ⟨y67, ey67, hsp⟩ := hk_l hsp
                  refine hk_top ey67 ?_
                  refine lv_istore_n (lv' := [(1, .int y67), (0, .ref (g.1 + a0))]) hx hb dX10_countViolations_105 rfl hl (by decide) rfl (fun ls hl => ?_)
                  refine lv_iload_n hx hb dX10_countViolations_106 rfl (lv_at hl 0 rfl) ?_
                  obtain rfl := hk_s hsp
                  exact W.iret (v := y67) hx hb hr (fun t ht hW => hk_end G ht hW) G.2.1.2.2 dX10_countViolations_107
                · have hsp := hk_f c66 hsp
                  refine lv_iconst (v := 1) hx hb dX10_countViolations_99 (by decide) ?_
                  refine lv_goto (tgt := 104) hx hb dX10_countViolations_100 (by decide) ?_
                  refine lv_iadd hx hb dX10_countViolations_104 ?_
                  obtain ⟨y68, ey68, hsp⟩ := hk_l hsp
                  refine hk_top ey68 ?_
                  refine lv_istore_n (lv' := [(1, .int y68), (0, .ref (g.1 + a0))]) hx hb dX10_countViolations_105 rfl hl (by decide) rfl (fun ls hl => ?_)
                  refine lv_iload_n hx hb dX10_countViolations_106 rfl (lv_at hl 0 rfl) ?_
                  obtain rfl := hk_s hsp
                  exact W.iret (v := y68) hx hb hr (fun t ht hW => hk_end G ht hW) G.2.1.2.2 dX10_countViolations_107
    · have hsp := hk_f c3 hsp
      refine lv_iconst (v := 1) hx hb dX10_countViolations_20 (by decide) ?_
      refine lv_goto (tgt := 25) hx hb dX10_countViolations_21 (by decide) ?_
      refine lv_istore_n (lv' := [(1, .int 1), (0, .ref (g.1 + a0))]) hx hb dX10_countViolations_25 rfl hl (by decide) rfl (fun ls hl => ?_)
      refine lv_iload_n hx hb dX10_countViolations_26 rfl (lv_at hl 0 rfl) ?_
      refine lv_aload_n hx hb dX10_countViolations_27 rfl (lv_at hl 1 rfl) ?_
      refine hk_getI F9 G h0 hkc_7 (k := 6) (by decide) qw_86 rfl dX10_countViolations_28 ?_
      refine lv_sipush (v := 300) hx hb dX10_countViolations_31 (by decide) ?_
      refine lv_icmp_lt (tgt := 47) hx hb dX10_countViolations_34 (by decide) (fun c69 => ?_) (fun c69 => ?_)
      · have hsp := hk_t c69 hsp
        refine lv_iconst (v := 1) hx hb dX10_countViolations_47 (by decide) ?_
        refine lv_goto (tgt := 52) hx hb dX10_countViolations_48 (by decide) ?_
        refine lv_iadd hx hb dX10_countViolations_52 ?_
        obtain ⟨y70, ey70, hsp⟩ := hk_l hsp
        refine hk_top ey70 ?_
        refine lv_istore_n (lv' := [(1, .int y70), (0, .ref (g.1 + a0))]) hx hb dX10_countViolations_53 rfl hl (by decide) rfl (fun ls hl => ?_)
        refine lv_iload_n hx hb dX10_countViolations_54 rfl (lv_at hl 0 rfl) ?_
        refine lv_aload_n hx hb dX10_countViolations_55 rfl (lv_at hl 1 rfl) ?_
        refine hk_getI F9 G h0 hkc_7 (k := 7) (by decide) qw_88 rfl dX10_countViolations_56 ?_
        refine lv_sipush (v := 300) hx hb dX10_countViolations_59 (by decide) ?_
        refine lv_icmp_lt (tgt := 75) hx hb dX10_countViolations_62 (by decide) (fun c71 => ?_) (fun c71 => ?_)
        · have hsp := hk_t c71 hsp
          refine lv_iconst (v := 1) hx hb dX10_countViolations_75 (by decide) ?_
          refine lv_goto (tgt := 80) hx hb dX10_countViolations_76 (by decide) ?_
          refine lv_iadd hx hb dX10_countViolations_80 ?_
          obtain ⟨y72, ey72, hsp⟩ := hk_l hsp
          refine hk_top ey72 ?_
          refine lv_istore_n (lv' := [(1, .int y72), (0, .ref (g.1 + a0))]) hx hb dX10_countViolations_81 rfl hl (by decide) rfl (fun ls hl => ?_)
          refine lv_iload_n hx hb dX10_countViolations_82 rfl (lv_at hl 0 rfl) ?_
          refine lv_aload_n hx hb dX10_countViolations_83 rfl (lv_at hl 1 rfl) ?_
          refine hk_getI F9 G h0 hkc_7 (k := 8) (by decide) qw_91 rfl dX10_countViolations_84 ?_
          refine lv_if_lt (tgt := 99) hx hb dX10_countViolations_87 (by decide) (fun c73 => ?_) (fun c73 => ?_)
          · have hsp := hk_t c73 hsp
            refine lv_iconst (v := 1) hx hb dX10_countViolations_99 (by decide) ?_
            refine lv_goto (tgt := 104) hx hb dX10_countViolations_100 (by decide) ?_
            refine lv_iadd hx hb dX10_countViolations_104 ?_
            obtain ⟨y74, ey74, hsp⟩ := hk_l hsp
            refine hk_top ey74 ?_
            refine lv_istore_n (lv' := [(1, .int y74), (0, .ref (g.1 + a0))]) hx hb dX10_countViolations_105 rfl hl (by decide) rfl (fun ls hl => ?_)
            refine lv_iload_n hx hb dX10_countViolations_106 rfl (lv_at hl 0 rfl) ?_
            obtain rfl := hk_s hsp
            exact W.iret (v := y74) hx hb hr (fun t ht hW => hk_end G ht hW) G.2.1.2.2 dX10_countViolations_107
          · have hsp := hk_f c73 hsp
            refine lv_aload_n hx hb dX10_countViolations_90 rfl (lv_at hl 1 rfl) ?_
            refine hk_getI F9 G h0 hkc_7 (k := 8) (by decide) qw_91 rfl dX10_countViolations_91 ?_
            refine lv_bipush (v := 20) hx hb dX10_countViolations_94 (by decide) ?_
            refine lv_icmp_le (tgt := 103) hx hb dX10_countViolations_96 (by decide) (fun c75 => ?_) (fun c75 => ?_)
            · have hsp := hk_t c75 hsp
              refine lv_iconst (v := 0) hx hb dX10_countViolations_103 (by decide) ?_
              refine lv_iadd hx hb dX10_countViolations_104 ?_
              obtain ⟨y76, ey76, hsp⟩ := hk_l hsp
              refine hk_top ey76 ?_
              refine lv_istore_n (lv' := [(1, .int y76), (0, .ref (g.1 + a0))]) hx hb dX10_countViolations_105 rfl hl (by decide) rfl (fun ls hl => ?_)
              refine lv_iload_n hx hb dX10_countViolations_106 rfl (lv_at hl 0 rfl) ?_
              obtain rfl := hk_s hsp
              exact W.iret (v := y76) hx hb hr (fun t ht hW => hk_end G ht hW) G.2.1.2.2 dX10_countViolations_107
            · have hsp := hk_f c75 hsp
              refine lv_iconst (v := 1) hx hb dX10_countViolations_99 (by decide) ?_
              refine lv_goto (tgt := 104) hx hb dX10_countViolations_100 (by decide) ?_
              refine lv_iadd hx hb dX10_countViolations_104 ?_
              obtain ⟨y77, ey77, hsp⟩ := hk_l hsp
              refine hk_top ey77 ?_
              refine lv_istore_n (lv' := [(1, .int y77), (0, .ref (g.1 + a0))]) hx hb dX10_countViolations_105 rfl hl (by decide) rfl (fun ls hl => ?_)
              refine lv_iload_n hx hb dX10_countViolations_106 rfl (lv_at hl 0 rfl) ?_
              obtain rfl := hk_s hsp
              exact W.iret (v := y77) hx hb hr (fun t ht hW => hk_end G ht hW) G.2.1.2.2 dX10_countViolations_107
        · have hsp := hk_f c71 hsp
          refine lv_aload_n hx hb dX10_countViolations_65 rfl (lv_at hl 1 rfl) ?_
          refine hk_getI F9 G h0 hkc_7 (k := 7) (by decide) qw_88 rfl dX10_countViolations_66 ?_
          refine lv_sipush (v := 900) hx hb dX10_countViolations_69 (by decide) ?_
          refine lv_icmp_le (tgt := 79) hx hb dX10_countViolations_72 (by decide) (fun c78 => ?_) (fun c78 => ?_)
          · have hsp := hk_t c78 hsp
            refine lv_iconst (v := 0) hx hb dX10_countViolations_79 (by decide) ?_
            refine lv_iadd hx hb dX10_countViolations_80 ?_
            obtain ⟨y79, ey79, hsp⟩ := hk_l hsp
            refine hk_top ey79 ?_
            refine lv_istore_n (lv' := [(1, .int y79), (0, .ref (g.1 + a0))]) hx hb dX10_countViolations_81 rfl hl (by decide) rfl (fun ls hl => ?_)
            refine lv_iload_n hx hb dX10_countViolations_82 rfl (lv_at hl 0 rfl) ?_
            refine lv_aload_n hx hb dX10_countViolations_83 rfl (lv_at hl 1 rfl) ?_
            refine hk_getI F9 G h0 hkc_7 (k := 8) (by decide) qw_91 rfl dX10_countViolations_84 ?_
            refine lv_if_lt (tgt := 99) hx hb dX10_countViolations_87 (by decide) (fun c80 => ?_) (fun c80 => ?_)
            · have hsp := hk_t c80 hsp
              refine lv_iconst (v := 1) hx hb dX10_countViolations_99 (by decide) ?_
              refine lv_goto (tgt := 104) hx hb dX10_countViolations_100 (by decide) ?_
              refine lv_iadd hx hb dX10_countViolations_104 ?_
              obtain ⟨y81, ey81, hsp⟩ := hk_l hsp
              refine hk_top ey81 ?_
              refine lv_istore_n (lv' := [(1, .int y81), (0, .ref (g.1 + a0))]) hx hb dX10_countViolations_105 rfl hl (by decide) rfl (fun ls hl => ?_)
              refine lv_iload_n hx hb dX10_countViolations_106 rfl (lv_at hl 0 rfl) ?_
              obtain rfl := hk_s hsp
              exact W.iret (v := y81) hx hb hr (fun t ht hW => hk_end G ht hW) G.2.1.2.2 dX10_countViolations_107
            · have hsp := hk_f c80 hsp
              refine lv_aload_n hx hb dX10_countViolations_90 rfl (lv_at hl 1 rfl) ?_
              refine hk_getI F9 G h0 hkc_7 (k := 8) (by decide) qw_91 rfl dX10_countViolations_91 ?_
              refine lv_bipush (v := 20) hx hb dX10_countViolations_94 (by decide) ?_
              refine lv_icmp_le (tgt := 103) hx hb dX10_countViolations_96 (by decide) (fun c82 => ?_) (fun c82 => ?_)
              · have hsp := hk_t c82 hsp
                refine lv_iconst (v := 0) hx hb dX10_countViolations_103 (by decide) ?_
                refine lv_iadd hx hb dX10_countViolations_104 ?_
                obtain ⟨y83, ey83, hsp⟩ := hk_l hsp
                refine hk_top ey83 ?_
                refine lv_istore_n (lv' := [(1, .int y83), (0, .ref (g.1 + a0))]) hx hb dX10_countViolations_105 rfl hl (by decide) rfl (fun ls hl => ?_)
                refine lv_iload_n hx hb dX10_countViolations_106 rfl (lv_at hl 0 rfl) ?_
                obtain rfl := hk_s hsp
                exact W.iret (v := y83) hx hb hr (fun t ht hW => hk_end G ht hW) G.2.1.2.2 dX10_countViolations_107
              · have hsp := hk_f c82 hsp
                refine lv_iconst (v := 1) hx hb dX10_countViolations_99 (by decide) ?_
                refine lv_goto (tgt := 104) hx hb dX10_countViolations_100 (by decide) ?_
                refine lv_iadd hx hb dX10_countViolations_104 ?_
                obtain ⟨y84, ey84, hsp⟩ := hk_l hsp
                refine hk_top ey84 ?_
                refine lv_istore_n (lv' := [(1, .int y84), (0, .ref (g.1 + a0))]) hx hb dX10_countViolations_105 rfl hl (by decide) rfl (fun ls hl => ?_)
                refine lv_iload_n hx hb dX10_countViolations_106 rfl (lv_at hl 0 rfl) ?_
                obtain rfl := hk_s hsp
                exact W.iret (v := y84) hx hb hr (fun t ht hW => hk_end G ht hW) G.2.1.2.2 dX10_countViolations_107
          · have hsp := hk_f c78 hsp
            refine lv_iconst (v := 1) hx hb dX10_countViolations_75 (by decide) ?_
            refine lv_goto (tgt := 80) hx hb dX10_countViolations_76 (by decide) ?_
            refine lv_iadd hx hb dX10_countViolations_80 ?_
            obtain ⟨y85, ey85, hsp⟩ := hk_l hsp
            refine hk_top ey85 ?_
            refine lv_istore_n (lv' := [(1, .int y85), (0, .ref (g.1 + a0))]) hx hb dX10_countViolations_81 rfl hl (by decide) rfl (fun ls hl => ?_)
            refine lv_iload_n hx hb dX10_countViolations_82 rfl (lv_at hl 0 rfl) ?_
            refine lv_aload_n hx hb dX10_countViolations_83 rfl (lv_at hl 1 rfl) ?_
            refine hk_getI F9 G h0 hkc_7 (k := 8) (by decide) qw_91 rfl dX10_countViolations_84 ?_
            refine lv_if_lt (tgt := 99) hx hb dX10_countViolations_87 (by decide) (fun c86 => ?_) (fun c86 => ?_)
            · have hsp := hk_t c86 hsp
              refine lv_iconst (v := 1) hx hb dX10_countViolations_99 (by decide) ?_
              refine lv_goto (tgt := 104) hx hb dX10_countViolations_100 (by decide) ?_
              refine lv_iadd hx hb dX10_countViolations_104 ?_
              obtain ⟨y87, ey87, hsp⟩ := hk_l hsp
              refine hk_top ey87 ?_
              refine lv_istore_n (lv' := [(1, .int y87), (0, .ref (g.1 + a0))]) hx hb dX10_countViolations_105 rfl hl (by decide) rfl (fun ls hl => ?_)
              refine lv_iload_n hx hb dX10_countViolations_106 rfl (lv_at hl 0 rfl) ?_
              obtain rfl := hk_s hsp
              exact W.iret (v := y87) hx hb hr (fun t ht hW => hk_end G ht hW) G.2.1.2.2 dX10_countViolations_107
            · have hsp := hk_f c86 hsp
              refine lv_aload_n hx hb dX10_countViolations_90 rfl (lv_at hl 1 rfl) ?_
              refine hk_getI F9 G h0 hkc_7 (k := 8) (by decide) qw_91 rfl dX10_countViolations_91 ?_
              refine lv_bipush (v := 20) hx hb dX10_countViolations_94 (by decide) ?_
              refine lv_icmp_le (tgt := 103) hx hb dX10_countViolations_96 (by decide) (fun c88 => ?_) (fun c88 => ?_)
              · have hsp := hk_t c88 hsp
                refine lv_iconst (v := 0) hx hb dX10_countViolations_103 (by decide) ?_
                refine lv_iadd hx hb dX10_countViolations_104 ?_
                obtain ⟨y89, ey89, hsp⟩ := hk_l hsp
                refine hk_top ey89 ?_
                refine lv_istore_n (lv' := [(1, .int y89), (0, .ref (g.1 + a0))]) hx hb dX10_countViolations_105 rfl hl (by decide) rfl (fun ls hl => ?_)
                refine lv_iload_n hx hb dX10_countViolations_106 rfl (lv_at hl 0 rfl) ?_
                obtain rfl := hk_s hsp
                exact W.iret (v := y89) hx hb hr (fun t ht hW => hk_end G ht hW) G.2.1.2.2 dX10_countViolations_107
              · have hsp := hk_f c88 hsp
                refine lv_iconst (v := 1) hx hb dX10_countViolations_99 (by decide) ?_
                refine lv_goto (tgt := 104) hx hb dX10_countViolations_100 (by decide) ?_
                refine lv_iadd hx hb dX10_countViolations_104 ?_
                obtain ⟨y90, ey90, hsp⟩ := hk_l hsp
                refine hk_top ey90 ?_
                refine lv_istore_n (lv' := [(1, .int y90), (0, .ref (g.1 + a0))]) hx hb dX10_countViolations_105 rfl hl (by decide) rfl (fun ls hl => ?_)
                refine lv_iload_n hx hb dX10_countViolations_106 rfl (lv_at hl 0 rfl) ?_
                obtain rfl := hk_s hsp
                exact W.iret (v := y90) hx hb hr (fun t ht hW => hk_end G ht hW) G.2.1.2.2 dX10_countViolations_107
      · have hsp := hk_f c69 hsp
        refine lv_aload_n hx hb dX10_countViolations_37 rfl (lv_at hl 1 rfl) ?_
        refine hk_getI F9 G h0 hkc_7 (k := 6) (by decide) qw_86 rfl dX10_countViolations_38 ?_
        refine lv_sipush (v := 900) hx hb dX10_countViolations_41 (by decide) ?_
        refine lv_icmp_le (tgt := 51) hx hb dX10_countViolations_44 (by decide) (fun c91 => ?_) (fun c91 => ?_)
        · have hsp := hk_t c91 hsp
          refine lv_iconst (v := 0) hx hb dX10_countViolations_51 (by decide) ?_
          refine lv_iadd hx hb dX10_countViolations_52 ?_
          obtain ⟨y92, ey92, hsp⟩ := hk_l hsp
          refine hk_top ey92 ?_
          refine lv_istore_n (lv' := [(1, .int y92), (0, .ref (g.1 + a0))]) hx hb dX10_countViolations_53 rfl hl (by decide) rfl (fun ls hl => ?_)
          refine lv_iload_n hx hb dX10_countViolations_54 rfl (lv_at hl 0 rfl) ?_
          refine lv_aload_n hx hb dX10_countViolations_55 rfl (lv_at hl 1 rfl) ?_
          refine hk_getI F9 G h0 hkc_7 (k := 7) (by decide) qw_88 rfl dX10_countViolations_56 ?_
          refine lv_sipush (v := 300) hx hb dX10_countViolations_59 (by decide) ?_
          refine lv_icmp_lt (tgt := 75) hx hb dX10_countViolations_62 (by decide) (fun c93 => ?_) (fun c93 => ?_)
          · have hsp := hk_t c93 hsp
            refine lv_iconst (v := 1) hx hb dX10_countViolations_75 (by decide) ?_
            refine lv_goto (tgt := 80) hx hb dX10_countViolations_76 (by decide) ?_
            refine lv_iadd hx hb dX10_countViolations_80 ?_
            obtain ⟨y94, ey94, hsp⟩ := hk_l hsp
            refine hk_top ey94 ?_
            refine lv_istore_n (lv' := [(1, .int y94), (0, .ref (g.1 + a0))]) hx hb dX10_countViolations_81 rfl hl (by decide) rfl (fun ls hl => ?_)
            refine lv_iload_n hx hb dX10_countViolations_82 rfl (lv_at hl 0 rfl) ?_
            refine lv_aload_n hx hb dX10_countViolations_83 rfl (lv_at hl 1 rfl) ?_
            refine hk_getI F9 G h0 hkc_7 (k := 8) (by decide) qw_91 rfl dX10_countViolations_84 ?_
            refine lv_if_lt (tgt := 99) hx hb dX10_countViolations_87 (by decide) (fun c95 => ?_) (fun c95 => ?_)
            · have hsp := hk_t c95 hsp
              refine lv_iconst (v := 1) hx hb dX10_countViolations_99 (by decide) ?_
              refine lv_goto (tgt := 104) hx hb dX10_countViolations_100 (by decide) ?_
              refine lv_iadd hx hb dX10_countViolations_104 ?_
              obtain ⟨y96, ey96, hsp⟩ := hk_l hsp
              refine hk_top ey96 ?_
              refine lv_istore_n (lv' := [(1, .int y96), (0, .ref (g.1 + a0))]) hx hb dX10_countViolations_105 rfl hl (by decide) rfl (fun ls hl => ?_)
              refine lv_iload_n hx hb dX10_countViolations_106 rfl (lv_at hl 0 rfl) ?_
              obtain rfl := hk_s hsp
              exact W.iret (v := y96) hx hb hr (fun t ht hW => hk_end G ht hW) G.2.1.2.2 dX10_countViolations_107
            · have hsp := hk_f c95 hsp
              refine lv_aload_n hx hb dX10_countViolations_90 rfl (lv_at hl 1 rfl) ?_
              refine hk_getI F9 G h0 hkc_7 (k := 8) (by decide) qw_91 rfl dX10_countViolations_91 ?_
              refine lv_bipush (v := 20) hx hb dX10_countViolations_94 (by decide) ?_
              refine lv_icmp_le (tgt := 103) hx hb dX10_countViolations_96 (by decide) (fun c97 => ?_) (fun c97 => ?_)
              · have hsp := hk_t c97 hsp
                refine lv_iconst (v := 0) hx hb dX10_countViolations_103 (by decide) ?_
                refine lv_iadd hx hb dX10_countViolations_104 ?_
                obtain ⟨y98, ey98, hsp⟩ := hk_l hsp
                refine hk_top ey98 ?_
                refine lv_istore_n (lv' := [(1, .int y98), (0, .ref (g.1 + a0))]) hx hb dX10_countViolations_105 rfl hl (by decide) rfl (fun ls hl => ?_)
                refine lv_iload_n hx hb dX10_countViolations_106 rfl (lv_at hl 0 rfl) ?_
                obtain rfl := hk_s hsp
                exact W.iret (v := y98) hx hb hr (fun t ht hW => hk_end G ht hW) G.2.1.2.2 dX10_countViolations_107
              · have hsp := hk_f c97 hsp
                refine lv_iconst (v := 1) hx hb dX10_countViolations_99 (by decide) ?_
                refine lv_goto (tgt := 104) hx hb dX10_countViolations_100 (by decide) ?_
                refine lv_iadd hx hb dX10_countViolations_104 ?_
                obtain ⟨y99, ey99, hsp⟩ := hk_l hsp
                refine hk_top ey99 ?_
                refine lv_istore_n (lv' := [(1, .int y99), (0, .ref (g.1 + a0))]) hx hb dX10_countViolations_105 rfl hl (by decide) rfl (fun ls hl => ?_)
                refine lv_iload_n hx hb dX10_countViolations_106 rfl (lv_at hl 0 rfl) ?_
                obtain rfl := hk_s hsp
                exact W.iret (v := y99) hx hb hr (fun t ht hW => hk_end G ht hW) G.2.1.2.2 dX10_countViolations_107
          · have hsp := hk_f c93 hsp
            refine lv_aload_n hx hb dX10_countViolations_65 rfl (lv_at hl 1 rfl) ?_
            refine hk_getI F9 G h0 hkc_7 (k := 7) (by decide) qw_88 rfl dX10_countViolations_66 ?_
            refine lv_sipush (v := 900) hx hb dX10_countViolations_69 (by decide) ?_
            refine lv_icmp_le (tgt := 79) hx hb dX10_countViolations_72 (by decide) (fun c100 => ?_) (fun c100 => ?_)
            · have hsp := hk_t c100 hsp
              refine lv_iconst (v := 0) hx hb dX10_countViolations_79 (by decide) ?_
              refine lv_iadd hx hb dX10_countViolations_80 ?_
              obtain ⟨y101, ey101, hsp⟩ := hk_l hsp
              refine hk_top ey101 ?_
              refine lv_istore_n (lv' := [(1, .int y101), (0, .ref (g.1 + a0))]) hx hb dX10_countViolations_81 rfl hl (by decide) rfl (fun ls hl => ?_)
              refine lv_iload_n hx hb dX10_countViolations_82 rfl (lv_at hl 0 rfl) ?_
              refine lv_aload_n hx hb dX10_countViolations_83 rfl (lv_at hl 1 rfl) ?_
              refine hk_getI F9 G h0 hkc_7 (k := 8) (by decide) qw_91 rfl dX10_countViolations_84 ?_
              refine lv_if_lt (tgt := 99) hx hb dX10_countViolations_87 (by decide) (fun c102 => ?_) (fun c102 => ?_)
              · have hsp := hk_t c102 hsp
                refine lv_iconst (v := 1) hx hb dX10_countViolations_99 (by decide) ?_
                refine lv_goto (tgt := 104) hx hb dX10_countViolations_100 (by decide) ?_
                refine lv_iadd hx hb dX10_countViolations_104 ?_
                obtain ⟨y103, ey103, hsp⟩ := hk_l hsp
                refine hk_top ey103 ?_
                refine lv_istore_n (lv' := [(1, .int y103), (0, .ref (g.1 + a0))]) hx hb dX10_countViolations_105 rfl hl (by decide) rfl (fun ls hl => ?_)
                refine lv_iload_n hx hb dX10_countViolations_106 rfl (lv_at hl 0 rfl) ?_
                obtain rfl := hk_s hsp
                exact W.iret (v := y103) hx hb hr (fun t ht hW => hk_end G ht hW) G.2.1.2.2 dX10_countViolations_107
              · have hsp := hk_f c102 hsp
                refine lv_aload_n hx hb dX10_countViolations_90 rfl (lv_at hl 1 rfl) ?_
                refine hk_getI F9 G h0 hkc_7 (k := 8) (by decide) qw_91 rfl dX10_countViolations_91 ?_
                refine lv_bipush (v := 20) hx hb dX10_countViolations_94 (by decide) ?_
                refine lv_icmp_le (tgt := 103) hx hb dX10_countViolations_96 (by decide) (fun c104 => ?_) (fun c104 => ?_)
                · have hsp := hk_t c104 hsp
                  refine lv_iconst (v := 0) hx hb dX10_countViolations_103 (by decide) ?_
                  refine lv_iadd hx hb dX10_countViolations_104 ?_
                  obtain ⟨y105, ey105, hsp⟩ := hk_l hsp
                  refine hk_top ey105 ?_
                  refine lv_istore_n (lv' := [(1, .int y105), (0, .ref (g.1 + a0))]) hx hb dX10_countViolations_105 rfl hl (by decide) rfl (fun ls hl => ?_)
                  refine lv_iload_n hx hb dX10_countViolations_106 rfl (lv_at hl 0 rfl) ?_
                  obtain rfl := hk_s hsp
                  exact W.iret (v := y105) hx hb hr (fun t ht hW => hk_end G ht hW) G.2.1.2.2 dX10_countViolations_107
                · have hsp := hk_f c104 hsp
                  refine lv_iconst (v := 1) hx hb dX10_countViolations_99 (by decide) ?_
                  refine lv_goto (tgt := 104) hx hb dX10_countViolations_100 (by decide) ?_
                  refine lv_iadd hx hb dX10_countViolations_104 ?_
                  obtain ⟨y106, ey106, hsp⟩ := hk_l hsp
                  refine hk_top ey106 ?_
                  refine lv_istore_n (lv' := [(1, .int y106), (0, .ref (g.1 + a0))]) hx hb dX10_countViolations_105 rfl hl (by decide) rfl (fun ls hl => ?_)
                  refine lv_iload_n hx hb dX10_countViolations_106 rfl (lv_at hl 0 rfl) ?_
                  obtain rfl := hk_s hsp
                  exact W.iret (v := y106) hx hb hr (fun t ht hW => hk_end G ht hW) G.2.1.2.2 dX10_countViolations_107
            · have hsp := hk_f c100 hsp
              refine lv_iconst (v := 1) hx hb dX10_countViolations_75 (by decide) ?_
              refine lv_goto (tgt := 80) hx hb dX10_countViolations_76 (by decide) ?_
              refine lv_iadd hx hb dX10_countViolations_80 ?_
              obtain ⟨y107, ey107, hsp⟩ := hk_l hsp
              refine hk_top ey107 ?_
              refine lv_istore_n (lv' := [(1, .int y107), (0, .ref (g.1 + a0))]) hx hb dX10_countViolations_81 rfl hl (by decide) rfl (fun ls hl => ?_)
              refine lv_iload_n hx hb dX10_countViolations_82 rfl (lv_at hl 0 rfl) ?_
              refine lv_aload_n hx hb dX10_countViolations_83 rfl (lv_at hl 1 rfl) ?_
              refine hk_getI F9 G h0 hkc_7 (k := 8) (by decide) qw_91 rfl dX10_countViolations_84 ?_
              refine lv_if_lt (tgt := 99) hx hb dX10_countViolations_87 (by decide) (fun c108 => ?_) (fun c108 => ?_)
              · have hsp := hk_t c108 hsp
                refine lv_iconst (v := 1) hx hb dX10_countViolations_99 (by decide) ?_
                refine lv_goto (tgt := 104) hx hb dX10_countViolations_100 (by decide) ?_
                refine lv_iadd hx hb dX10_countViolations_104 ?_
                obtain ⟨y109, ey109, hsp⟩ := hk_l hsp
                refine hk_top ey109 ?_
                refine lv_istore_n (lv' := [(1, .int y109), (0, .ref (g.1 + a0))]) hx hb dX10_countViolations_105 rfl hl (by decide) rfl (fun ls hl => ?_)
                refine lv_iload_n hx hb dX10_countViolations_106 rfl (lv_at hl 0 rfl) ?_
                obtain rfl := hk_s hsp
                exact W.iret (v := y109) hx hb hr (fun t ht hW => hk_end G ht hW) G.2.1.2.2 dX10_countViolations_107
              · have hsp := hk_f c108 hsp
                refine lv_aload_n hx hb dX10_countViolations_90 rfl (lv_at hl 1 rfl) ?_
                refine hk_getI F9 G h0 hkc_7 (k := 8) (by decide) qw_91 rfl dX10_countViolations_91 ?_
                refine lv_bipush (v := 20) hx hb dX10_countViolations_94 (by decide) ?_
                refine lv_icmp_le (tgt := 103) hx hb dX10_countViolations_96 (by decide) (fun c110 => ?_) (fun c110 => ?_)
                · have hsp := hk_t c110 hsp
                  refine lv_iconst (v := 0) hx hb dX10_countViolations_103 (by decide) ?_
                  refine lv_iadd hx hb dX10_countViolations_104 ?_
                  obtain ⟨y111, ey111, hsp⟩ := hk_l hsp
                  refine hk_top ey111 ?_
                  refine lv_istore_n (lv' := [(1, .int y111), (0, .ref (g.1 + a0))]) hx hb dX10_countViolations_105 rfl hl (by decide) rfl (fun ls hl => ?_)
                  refine lv_iload_n hx hb dX10_countViolations_106 rfl (lv_at hl 0 rfl) ?_
                  obtain rfl := hk_s hsp
                  exact W.iret (v := y111) hx hb hr (fun t ht hW => hk_end G ht hW) G.2.1.2.2 dX10_countViolations_107
                · have hsp := hk_f c110 hsp
                  refine lv_iconst (v := 1) hx hb dX10_countViolations_99 (by decide) ?_
                  refine lv_goto (tgt := 104) hx hb dX10_countViolations_100 (by decide) ?_
                  refine lv_iadd hx hb dX10_countViolations_104 ?_
                  obtain ⟨y112, ey112, hsp⟩ := hk_l hsp
                  refine hk_top ey112 ?_
                  refine lv_istore_n (lv' := [(1, .int y112), (0, .ref (g.1 + a0))]) hx hb dX10_countViolations_105 rfl hl (by decide) rfl (fun ls hl => ?_)
                  refine lv_iload_n hx hb dX10_countViolations_106 rfl (lv_at hl 0 rfl) ?_
                  obtain rfl := hk_s hsp
                  exact W.iret (v := y112) hx hb hr (fun t ht hW => hk_end G ht hW) G.2.1.2.2 dX10_countViolations_107
        · have hsp := hk_f c91 hsp
          refine lv_iconst (v := 1) hx hb dX10_countViolations_47 (by decide) ?_
          refine lv_goto (tgt := 52) hx hb dX10_countViolations_48 (by decide) ?_
          refine lv_iadd hx hb dX10_countViolations_52 ?_
          obtain ⟨y113, ey113, hsp⟩ := hk_l hsp
          refine hk_top ey113 ?_
          refine lv_istore_n (lv' := [(1, .int y113), (0, .ref (g.1 + a0))]) hx hb dX10_countViolations_53 rfl hl (by decide) rfl (fun ls hl => ?_)
          refine lv_iload_n hx hb dX10_countViolations_54 rfl (lv_at hl 0 rfl) ?_
          refine lv_aload_n hx hb dX10_countViolations_55 rfl (lv_at hl 1 rfl) ?_
          refine hk_getI F9 G h0 hkc_7 (k := 7) (by decide) qw_88 rfl dX10_countViolations_56 ?_
          refine lv_sipush (v := 300) hx hb dX10_countViolations_59 (by decide) ?_
          refine lv_icmp_lt (tgt := 75) hx hb dX10_countViolations_62 (by decide) (fun c114 => ?_) (fun c114 => ?_)
          · have hsp := hk_t c114 hsp
            refine lv_iconst (v := 1) hx hb dX10_countViolations_75 (by decide) ?_
            refine lv_goto (tgt := 80) hx hb dX10_countViolations_76 (by decide) ?_
            refine lv_iadd hx hb dX10_countViolations_80 ?_
            obtain ⟨y115, ey115, hsp⟩ := hk_l hsp
            refine hk_top ey115 ?_
            refine lv_istore_n (lv' := [(1, .int y115), (0, .ref (g.1 + a0))]) hx hb dX10_countViolations_81 rfl hl (by decide) rfl (fun ls hl => ?_)
            refine lv_iload_n hx hb dX10_countViolations_82 rfl (lv_at hl 0 rfl) ?_
            refine lv_aload_n hx hb dX10_countViolations_83 rfl (lv_at hl 1 rfl) ?_
            refine hk_getI F9 G h0 hkc_7 (k := 8) (by decide) qw_91 rfl dX10_countViolations_84 ?_
            refine lv_if_lt (tgt := 99) hx hb dX10_countViolations_87 (by decide) (fun c116 => ?_) (fun c116 => ?_)
            · have hsp := hk_t c116 hsp
              refine lv_iconst (v := 1) hx hb dX10_countViolations_99 (by decide) ?_
              refine lv_goto (tgt := 104) hx hb dX10_countViolations_100 (by decide) ?_
              refine lv_iadd hx hb dX10_countViolations_104 ?_
              obtain ⟨y117, ey117, hsp⟩ := hk_l hsp
              refine hk_top ey117 ?_
              refine lv_istore_n (lv' := [(1, .int y117), (0, .ref (g.1 + a0))]) hx hb dX10_countViolations_105 rfl hl (by decide) rfl (fun ls hl => ?_)
              refine lv_iload_n hx hb dX10_countViolations_106 rfl (lv_at hl 0 rfl) ?_
              obtain rfl := hk_s hsp
              exact W.iret (v := y117) hx hb hr (fun t ht hW => hk_end G ht hW) G.2.1.2.2 dX10_countViolations_107
            · have hsp := hk_f c116 hsp
              refine lv_aload_n hx hb dX10_countViolations_90 rfl (lv_at hl 1 rfl) ?_
              refine hk_getI F9 G h0 hkc_7 (k := 8) (by decide) qw_91 rfl dX10_countViolations_91 ?_
              refine lv_bipush (v := 20) hx hb dX10_countViolations_94 (by decide) ?_
              refine lv_icmp_le (tgt := 103) hx hb dX10_countViolations_96 (by decide) (fun c118 => ?_) (fun c118 => ?_)
              · have hsp := hk_t c118 hsp
                refine lv_iconst (v := 0) hx hb dX10_countViolations_103 (by decide) ?_
                refine lv_iadd hx hb dX10_countViolations_104 ?_
                obtain ⟨y119, ey119, hsp⟩ := hk_l hsp
                refine hk_top ey119 ?_
                refine lv_istore_n (lv' := [(1, .int y119), (0, .ref (g.1 + a0))]) hx hb dX10_countViolations_105 rfl hl (by decide) rfl (fun ls hl => ?_)
                refine lv_iload_n hx hb dX10_countViolations_106 rfl (lv_at hl 0 rfl) ?_
                obtain rfl := hk_s hsp
                exact W.iret (v := y119) hx hb hr (fun t ht hW => hk_end G ht hW) G.2.1.2.2 dX10_countViolations_107
              · have hsp := hk_f c118 hsp
                refine lv_iconst (v := 1) hx hb dX10_countViolations_99 (by decide) ?_
                refine lv_goto (tgt := 104) hx hb dX10_countViolations_100 (by decide) ?_
                refine lv_iadd hx hb dX10_countViolations_104 ?_
                obtain ⟨y120, ey120, hsp⟩ := hk_l hsp
                refine hk_top ey120 ?_
                refine lv_istore_n (lv' := [(1, .int y120), (0, .ref (g.1 + a0))]) hx hb dX10_countViolations_105 rfl hl (by decide) rfl (fun ls hl => ?_)
                refine lv_iload_n hx hb dX10_countViolations_106 rfl (lv_at hl 0 rfl) ?_
                obtain rfl := hk_s hsp
                exact W.iret (v := y120) hx hb hr (fun t ht hW => hk_end G ht hW) G.2.1.2.2 dX10_countViolations_107
          · have hsp := hk_f c114 hsp
            refine lv_aload_n hx hb dX10_countViolations_65 rfl (lv_at hl 1 rfl) ?_
            refine hk_getI F9 G h0 hkc_7 (k := 7) (by decide) qw_88 rfl dX10_countViolations_66 ?_
            refine lv_sipush (v := 900) hx hb dX10_countViolations_69 (by decide) ?_
            refine lv_icmp_le (tgt := 79) hx hb dX10_countViolations_72 (by decide) (fun c121 => ?_) (fun c121 => ?_)
            · have hsp := hk_t c121 hsp
              refine lv_iconst (v := 0) hx hb dX10_countViolations_79 (by decide) ?_
              refine lv_iadd hx hb dX10_countViolations_80 ?_
              obtain ⟨y122, ey122, hsp⟩ := hk_l hsp
              refine hk_top ey122 ?_
              refine lv_istore_n (lv' := [(1, .int y122), (0, .ref (g.1 + a0))]) hx hb dX10_countViolations_81 rfl hl (by decide) rfl (fun ls hl => ?_)
              refine lv_iload_n hx hb dX10_countViolations_82 rfl (lv_at hl 0 rfl) ?_
              refine lv_aload_n hx hb dX10_countViolations_83 rfl (lv_at hl 1 rfl) ?_
              refine hk_getI F9 G h0 hkc_7 (k := 8) (by decide) qw_91 rfl dX10_countViolations_84 ?_
              refine lv_if_lt (tgt := 99) hx hb dX10_countViolations_87 (by decide) (fun c123 => ?_) (fun c123 => ?_)
              · have hsp := hk_t c123 hsp
                refine lv_iconst (v := 1) hx hb dX10_countViolations_99 (by decide) ?_
                refine lv_goto (tgt := 104) hx hb dX10_countViolations_100 (by decide) ?_
                refine lv_iadd hx hb dX10_countViolations_104 ?_
                obtain ⟨y124, ey124, hsp⟩ := hk_l hsp
                refine hk_top ey124 ?_
                refine lv_istore_n (lv' := [(1, .int y124), (0, .ref (g.1 + a0))]) hx hb dX10_countViolations_105 rfl hl (by decide) rfl (fun ls hl => ?_)
                refine lv_iload_n hx hb dX10_countViolations_106 rfl (lv_at hl 0 rfl) ?_
                obtain rfl := hk_s hsp
                exact W.iret (v := y124) hx hb hr (fun t ht hW => hk_end G ht hW) G.2.1.2.2 dX10_countViolations_107
              · have hsp := hk_f c123 hsp
                refine lv_aload_n hx hb dX10_countViolations_90 rfl (lv_at hl 1 rfl) ?_
                refine hk_getI F9 G h0 hkc_7 (k := 8) (by decide) qw_91 rfl dX10_countViolations_91 ?_
                refine lv_bipush (v := 20) hx hb dX10_countViolations_94 (by decide) ?_
                refine lv_icmp_le (tgt := 103) hx hb dX10_countViolations_96 (by decide) (fun c125 => ?_) (fun c125 => ?_)
                · have hsp := hk_t c125 hsp
                  refine lv_iconst (v := 0) hx hb dX10_countViolations_103 (by decide) ?_
                  refine lv_iadd hx hb dX10_countViolations_104 ?_
                  obtain ⟨y126, ey126, hsp⟩ := hk_l hsp
                  refine hk_top ey126 ?_
                  refine lv_istore_n (lv' := [(1, .int y126), (0, .ref (g.1 + a0))]) hx hb dX10_countViolations_105 rfl hl (by decide) rfl (fun ls hl => ?_)
                  refine lv_iload_n hx hb dX10_countViolations_106 rfl (lv_at hl 0 rfl) ?_
                  obtain rfl := hk_s hsp
                  exact W.iret (v := y126) hx hb hr (fun t ht hW => hk_end G ht hW) G.2.1.2.2 dX10_countViolations_107
                · have hsp := hk_f c125 hsp
                  refine lv_iconst (v := 1) hx hb dX10_countViolations_99 (by decide) ?_
                  refine lv_goto (tgt := 104) hx hb dX10_countViolations_100 (by decide) ?_
                  refine lv_iadd hx hb dX10_countViolations_104 ?_
                  obtain ⟨y127, ey127, hsp⟩ := hk_l hsp
                  refine hk_top ey127 ?_
                  refine lv_istore_n (lv' := [(1, .int y127), (0, .ref (g.1 + a0))]) hx hb dX10_countViolations_105 rfl hl (by decide) rfl (fun ls hl => ?_)
                  refine lv_iload_n hx hb dX10_countViolations_106 rfl (lv_at hl 0 rfl) ?_
                  obtain rfl := hk_s hsp
                  exact W.iret (v := y127) hx hb hr (fun t ht hW => hk_end G ht hW) G.2.1.2.2 dX10_countViolations_107
            · have hsp := hk_f c121 hsp
              refine lv_iconst (v := 1) hx hb dX10_countViolations_75 (by decide) ?_
              refine lv_goto (tgt := 80) hx hb dX10_countViolations_76 (by decide) ?_
              refine lv_iadd hx hb dX10_countViolations_80 ?_
              obtain ⟨y128, ey128, hsp⟩ := hk_l hsp
              refine hk_top ey128 ?_
              refine lv_istore_n (lv' := [(1, .int y128), (0, .ref (g.1 + a0))]) hx hb dX10_countViolations_81 rfl hl (by decide) rfl (fun ls hl => ?_)
              refine lv_iload_n hx hb dX10_countViolations_82 rfl (lv_at hl 0 rfl) ?_
              refine lv_aload_n hx hb dX10_countViolations_83 rfl (lv_at hl 1 rfl) ?_
              refine hk_getI F9 G h0 hkc_7 (k := 8) (by decide) qw_91 rfl dX10_countViolations_84 ?_
              refine lv_if_lt (tgt := 99) hx hb dX10_countViolations_87 (by decide) (fun c129 => ?_) (fun c129 => ?_)
              · have hsp := hk_t c129 hsp
                refine lv_iconst (v := 1) hx hb dX10_countViolations_99 (by decide) ?_
                refine lv_goto (tgt := 104) hx hb dX10_countViolations_100 (by decide) ?_
                refine lv_iadd hx hb dX10_countViolations_104 ?_
                obtain ⟨y130, ey130, hsp⟩ := hk_l hsp
                refine hk_top ey130 ?_
                refine lv_istore_n (lv' := [(1, .int y130), (0, .ref (g.1 + a0))]) hx hb dX10_countViolations_105 rfl hl (by decide) rfl (fun ls hl => ?_)
                refine lv_iload_n hx hb dX10_countViolations_106 rfl (lv_at hl 0 rfl) ?_
                obtain rfl := hk_s hsp
                exact W.iret (v := y130) hx hb hr (fun t ht hW => hk_end G ht hW) G.2.1.2.2 dX10_countViolations_107
              · have hsp := hk_f c129 hsp
                refine lv_aload_n hx hb dX10_countViolations_90 rfl (lv_at hl 1 rfl) ?_
                refine hk_getI F9 G h0 hkc_7 (k := 8) (by decide) qw_91 rfl dX10_countViolations_91 ?_
                refine lv_bipush (v := 20) hx hb dX10_countViolations_94 (by decide) ?_
                refine lv_icmp_le (tgt := 103) hx hb dX10_countViolations_96 (by decide) (fun c131 => ?_) (fun c131 => ?_)
                · have hsp := hk_t c131 hsp
                  refine lv_iconst (v := 0) hx hb dX10_countViolations_103 (by decide) ?_
                  refine lv_iadd hx hb dX10_countViolations_104 ?_
                  obtain ⟨y132, ey132, hsp⟩ := hk_l hsp
                  refine hk_top ey132 ?_
                  refine lv_istore_n (lv' := [(1, .int y132), (0, .ref (g.1 + a0))]) hx hb dX10_countViolations_105 rfl hl (by decide) rfl (fun ls hl => ?_)
                  refine lv_iload_n hx hb dX10_countViolations_106 rfl (lv_at hl 0 rfl) ?_
                  obtain rfl := hk_s hsp
                  exact W.iret (v := y132) hx hb hr (fun t ht hW => hk_end G ht hW) G.2.1.2.2 dX10_countViolations_107
                · have hsp := hk_f c131 hsp
                  refine lv_iconst (v := 1) hx hb dX10_countViolations_99 (by decide) ?_
                  refine lv_goto (tgt := 104) hx hb dX10_countViolations_100 (by decide) ?_
                  refine lv_iadd hx hb dX10_countViolations_104 ?_
                  obtain ⟨y133, ey133, hsp⟩ := hk_l hsp
                  refine hk_top ey133 ?_
                  refine lv_istore_n (lv' := [(1, .int y133), (0, .ref (g.1 + a0))]) hx hb dX10_countViolations_105 rfl hl (by decide) rfl (fun ls hl => ?_)
                  refine lv_iload_n hx hb dX10_countViolations_106 rfl (lv_at hl 0 rfl) ?_
                  obtain rfl := hk_s hsp
                  exact W.iret (v := y133) hx hb hr (fun t ht hW => hk_end G ht hW) G.2.1.2.2 dX10_countViolations_107
  · have hsp := hk_g c2 hsp
    refine lv_iconst (v := 0) hx hb dX10_countViolations_7 (by decide) ?_
    obtain rfl := hk_s hsp
    exact W.iret (v := 0) hx hb hr (fun t ht hW => hk_end G ht hW) G.2.1.2.2 dX10_countViolations_8
def mX11_notBelowLowest (E : hk_E) (F : Nat) (S : hk_S) (x0 : Int32) : Option (Int32 × hk_S) :=
if 300 ≤ x0 then (some (x0, S)) else (some (300, S))
set_option maxHeartbeats 4000000 in
set_option maxRecDepth 100000 in
theorem kX11_notBelowLowest (l : Launch) (g : hk_G) (E : hk_E) (F n : Nat) (S : hk_S) (x0 : Int32) (o : Int32 × hk_S)  (hsp : mX11_notBelowLowest E F S x0 = some o) : Met l yX11_notBelowLowest (hk_ws yX11_notBelowLowest cX11_notBelowLowest 1 (Option.some Jvm.ClassFile.FieldType.int)) ({ frames := 0, cells := 0, slots := 0, locals := 0 }) (hk_Pc g E S n [.int x0]) (hk_Q g E o.2 n (some (.int o.1))) 0 0 (hk_A g) := by
  refine Met.ofW (cc := cX11_notBelowLowest) (maxL := 1) (ret := (Option.some Jvm.ClassFile.FieldType.int)) (by decide) rfl ?_
  intro p e s m args below meth c s₁ B hml hv
  obtain ⟨rfl, G⟩ := hk_begin hv
  have F9 : CallFix p m c cX11_notBelowLowest 1 s [.int x0].toArray hk_W RX11 := ⟨B.exec, B.bytes, hml, findClass_of_methodNamed B.named, fun w h => atoms_spec (ws := hk_ws yX11_notBelowLowest cX11_notBelowLowest 1 (Option.some Jvm.ClassFile.FieldType.int)) B.pre w (hk_in h)⟩
  have hx := B.exec
  have hb := B.bytes
  have hr := B.returns
  have hlocks := B.notSynchronized
  have hl := lv_entry ([.int x0]) (n := 1) (Nat.le_of_ble_eq_true rfl)
  rw [lg_entry_eq]
  generalize (lg_sl ([.int x0]) ++ List.replicate (1 - (lg_sl ([.int x0])).length) Slot.unset).toArray = ls at hl ⊢
  have hl : lv_has ls 1 [(0, .int x0)] := hl
  unfold mX11_notBelowLowest at hsp
  have G : hk_GG g E S n s s.heap [] := G
  refine lv_iload_n hx hb dX11_notBelowLowest_0 rfl (lv_at hl 0 rfl) ?_
  refine lv_sipush (v := 300) hx hb dX11_notBelowLowest_1 (by decide) ?_
  refine lv_icmp_ge (tgt := 13) hx hb dX11_notBelowLowest_4 (by decide) (fun c1 => ?_) (fun c1 => ?_)
  · have hsp := hk_t c1 hsp
    refine lv_iload_n hx hb dX11_notBelowLowest_13 rfl (lv_at hl 0 rfl) ?_
    obtain rfl := hk_s hsp
    exact W.iret (v := x0) hx hb hr (fun t ht hW => hk_end G ht hW) G.2.1.2.2 dX11_notBelowLowest_14
  · have hsp := hk_f c1 hsp
    refine lv_sipush (v := 300) hx hb dX11_notBelowLowest_7 (by decide) ?_
    refine lv_goto (tgt := 14) hx hb dX11_notBelowLowest_10 (by decide) ?_
    obtain rfl := hk_s hsp
    exact W.iret (v := 300) hx hb hr (fun t ht hW => hk_end G ht hW) G.2.1.2.2 dX11_notBelowLowest_14
def mX10_build (E : hk_E) (F : Nat) (S : hk_S) (a0 : Nat) (x1 : Int32) : Option (hk_S) :=
hk_let (hk_up S a0 0 x1) (fun S1 => hk_let (hk_up S1 a0 1 0) (fun S2 => hk_let (hk_up S2 a0 2 1) (fun S3 => (mX10_removeLeaf E F S3 a0).bind (fun r4 => some (r4)))))
set_option maxHeartbeats 4000000 in
set_option maxRecDepth 100000 in
theorem kX10_build (l : Launch) (g : hk_G) (E : hk_E) (F n : Nat) (S : hk_S) (a0 : Nat) (x1 : Int32) (o : hk_S) (h0 : E.2.1 a0 = 8) (hsp : mX10_build E F S a0 x1 = some o) : Met l yX10_build (hk_ws yX10_build cX10_build 2 (Option.none : Option Jvm.ClassFile.FieldType)) ({ frames := 1, cells := 0, slots := 0, locals := 20 }) (hk_Pc g E S n [.ref (g.1 + a0), .int x1]) (hk_Q g E o n none) 0 0 (hk_A g) := by
  refine Met.ofW (cc := cX10_build) (maxL := 2) (ret := (Option.none : Option Jvm.ClassFile.FieldType)) (by decide) rfl ?_
  intro p e s m args below meth c s₁ B hml hv
  obtain ⟨rfl, G⟩ := hk_begin hv
  have F9 : CallFix p m c cX10_build 2 s [.ref (g.1 + a0), .int x1].toArray hk_W RX10 := ⟨B.exec, B.bytes, hml, findClass_of_methodNamed B.named, fun w h => atoms_spec (ws := hk_ws yX10_build cX10_build 2 (Option.none : Option Jvm.ClassFile.FieldType)) B.pre w (hk_in h)⟩
  have hx := B.exec
  have hb := B.bytes
  have hr := B.returns
  have hlocks := B.notSynchronized
  have hl := lv_entry ([.ref (g.1 + a0), .int x1]) (n := 2) (Nat.le_of_ble_eq_true rfl)
  rw [lg_entry_eq]
  generalize (lg_sl ([.ref (g.1 + a0), .int x1]) ++ List.replicate (2 - (lg_sl ([.ref (g.1 + a0), .int x1])).length) Slot.unset).toArray = ls at hl ⊢
  have hl : lv_has ls 2 [(0, .ref (g.1 + a0)), (1, .int x1)] := hl
  unfold mX10_build at hsp
  have G : hk_GG g E S n s s.heap [] := G
  refine lv_aload_n hx hb dX10_build_0 rfl (lv_at hl 0 rfl) ?_
  refine lv_iload_n hx hb dX10_build_1 rfl (lv_at hl 1 rfl) ?_
  obtain ⟨S1, eS1, hsp⟩ := hk_l hsp
  refine hk_putI F9 G h0 hkc_7 (k := 0) (by decide) qw_72 rfl rfl (tyX10_ok 0 (by decide)) rfl rfl dX10_build_2 (fun H locs G => ?_)
  rw [eS1] at G
  refine lv_aload_n hx hb dX10_build_5 rfl (lv_at hl 0 rfl) ?_
  refine lv_iconst (v := 0) hx hb dX10_build_6 (by decide) ?_
  obtain ⟨S2, eS2, hsp⟩ := hk_l hsp
  refine hk_putI F9 G h0 hkc_7 (k := 1) (by decide) qw_75 rfl rfl (tyX10_ok 1 (by decide)) rfl rfl dX10_build_7 (fun H locs G => ?_)
  rw [eS2] at G
  refine lv_aload_n hx hb dX10_build_10 rfl (lv_at hl 0 rfl) ?_
  refine lv_iconst (v := 1) hx hb dX10_build_11 (by decide) ?_
  obtain ⟨S3, eS3, hsp⟩ := hk_l hsp
  refine hk_putI F9 G h0 hkc_7 (k := 2) (by decide) qw_77 rfl rfl (tyX10_ok 2 (by decide)) (hk_z (by decide)).1 (hk_z (by decide)).2 dX10_build_12 (fun H locs G => ?_)
  rw [eS3] at G
  refine lv_aload_n hx hb dX10_build_15 rfl (lv_at hl 0 rfl) ?_
  obtain ⟨r4, er4, hsp⟩ := hk_b hsp
  refine hk_callVv (As := []) (rest := []) F9 G h0 hkc_7 rfl (kX10_removeLeaf l g E F n S3 a0 r4 h0 er4) qv_RX10_22 ⟨rfl, rfl, (Nat.le_of_ble_eq_true rfl), (Nat.le_of_ble_eq_true rfl)⟩ rfl hl.1 rfl (Nat.le_of_ble_eq_true rfl) ⟨Nat.zero_le _, Nat.zero_le _⟩ dX10_build_16 (fun H locs G => ?_)
  obtain rfl := hk_s hsp
  exact W.vret hx hb hr (fun t ht hW => hk_end G ht hW) G.2.1.2.2 dX10_build_19
def mX10_gap (E : hk_E) (F : Nat) (S : hk_S) (a0 : Nat) : Option (Int32 × hk_S) :=
(mJ9_abs_0f7a4 E F S ((S a0 6) - (S a0 7))).bind (fun r1 => some (r1.1, r1.2))
set_option maxHeartbeats 4000000 in
set_option maxRecDepth 100000 in
theorem kX10_gap (l : Launch) (g : hk_G) (E : hk_E) (F n : Nat) (S : hk_S) (a0 : Nat) (o : Int32 × hk_S) (h0 : E.2.1 a0 = 8) (hsp : mX10_gap E F S a0 = some o) : Met l yX10_gap (hk_ws yX10_gap cX10_gap 1 (Option.some Jvm.ClassFile.FieldType.int)) ({ frames := 1, cells := 0, slots := 0, locals := 20 }) (hk_Pc g E S n [.ref (g.1 + a0)]) (hk_Q g E o.2 n (some (.int o.1))) 0 0 (hk_A g) := by
  refine Met.ofW (cc := cX10_gap) (maxL := 1) (ret := (Option.some Jvm.ClassFile.FieldType.int)) (by decide) rfl ?_
  intro p e s m args below meth c s₁ B hml hv
  obtain ⟨rfl, G⟩ := hk_begin hv
  have F9 : CallFix p m c cX10_gap 1 s [.ref (g.1 + a0)].toArray hk_W RX10 := ⟨B.exec, B.bytes, hml, findClass_of_methodNamed B.named, fun w h => atoms_spec (ws := hk_ws yX10_gap cX10_gap 1 (Option.some Jvm.ClassFile.FieldType.int)) B.pre w (hk_in h)⟩
  have hx := B.exec
  have hb := B.bytes
  have hr := B.returns
  have hlocks := B.notSynchronized
  have hl := lv_entry ([.ref (g.1 + a0)]) (n := 1) (Nat.le_of_ble_eq_true rfl)
  rw [lg_entry_eq]
  generalize (lg_sl ([.ref (g.1 + a0)]) ++ List.replicate (1 - (lg_sl ([.ref (g.1 + a0)])).length) Slot.unset).toArray = ls at hl ⊢
  have hl : lv_has ls 1 [(0, .ref (g.1 + a0))] := hl
  unfold mX10_gap at hsp
  have G : hk_GG g E S n s s.heap [] := G
  refine lv_aload_n hx hb dX10_gap_0 rfl (lv_at hl 0 rfl) ?_
  refine hk_getI F9 G h0 hkc_7 (k := 6) (by decide) qw_86 rfl dX10_gap_1 ?_
  refine lv_aload_n hx hb dX10_gap_4 rfl (lv_at hl 0 rfl) ?_
  refine hk_getI F9 G h0 hkc_7 (k := 7) (by decide) qw_88 rfl dX10_gap_5 ?_
  refine lv_isub hx hb dX10_gap_8 ?_
  obtain ⟨r1, er1, hsp⟩ := hk_b hsp
  refine hk_callSi (As := [.int ((S a0 6) - (S a0 7))]) (rest := []) F9 G (kJ9_abs_0f7a4 l g E F n S ((S a0 6) - (S a0 7)) r1  er1) qv_RX10_46 ⟨rfl, rfl, (Nat.le_of_ble_eq_true rfl), (Nat.le_of_ble_eq_true rfl)⟩ rfl hl.1 rfl (Nat.le_of_ble_eq_true rfl) ⟨Nat.zero_le _, Nat.zero_le _⟩ dX10_gap_9 (fun H locs G => ?_)
  obtain rfl := hk_s hsp
  exact W.iret (v := r1.1) hx hb hr (fun t ht hW => hk_end G ht hW) G.2.1.2.2 dX10_gap_12
def mX10_quality (E : hk_E) (F : Nat) (S : hk_S) (a0 : Nat) : Option (Int32 × hk_S) :=
(mX10_gap E F S a0).bind (fun r1 => hk_let ((100 - r1.1) - (2 * (r1.2 a0 9))) (fun y2 => if 0 ≤ y2 then (some (y2, r1.2)) else (some (0, r1.2))))
set_option maxHeartbeats 4000000 in
set_option maxRecDepth 100000 in
theorem kX10_quality (l : Launch) (g : hk_G) (E : hk_E) (F n : Nat) (S : hk_S) (a0 : Nat) (o : Int32 × hk_S) (h0 : E.2.1 a0 = 8) (hsp : mX10_quality E F S a0 = some o) : Met l yX10_quality (hk_ws yX10_quality cX10_quality 2 (Option.some Jvm.ClassFile.FieldType.int)) ({ frames := 2, cells := 0, slots := 0, locals := 40 }) (hk_Pc g E S n [.ref (g.1 + a0)]) (hk_Q g E o.2 n (some (.int o.1))) 0 0 (hk_A g) := by
  refine Met.ofW (cc := cX10_quality) (maxL := 2) (ret := (Option.some Jvm.ClassFile.FieldType.int)) (by decide) rfl ?_
  intro p e s m args below meth c s₁ B hml hv
  obtain ⟨rfl, G⟩ := hk_begin hv
  have F9 : CallFix p m c cX10_quality 2 s [.ref (g.1 + a0)].toArray hk_W RX10 := ⟨B.exec, B.bytes, hml, findClass_of_methodNamed B.named, fun w h => atoms_spec (ws := hk_ws yX10_quality cX10_quality 2 (Option.some Jvm.ClassFile.FieldType.int)) B.pre w (hk_in h)⟩
  have hx := B.exec
  have hb := B.bytes
  have hr := B.returns
  have hlocks := B.notSynchronized
  have hl := lv_entry ([.ref (g.1 + a0)]) (n := 2) (Nat.le_of_ble_eq_true rfl)
  rw [lg_entry_eq]
  generalize (lg_sl ([.ref (g.1 + a0)]) ++ List.replicate (2 - (lg_sl ([.ref (g.1 + a0)])).length) Slot.unset).toArray = ls at hl ⊢
  have hl : lv_has ls 2 [(0, .ref (g.1 + a0))] := hl
  unfold mX10_quality at hsp
  have G : hk_GG g E S n s s.heap [] := G
  refine lv_bipush (v := 100) hx hb dX10_quality_0 (by decide) ?_
  refine lv_aload_n hx hb dX10_quality_2 rfl (lv_at hl 0 rfl) ?_
  obtain ⟨r1, er1, hsp⟩ := hk_b hsp
  refine hk_callVi (As := []) (rest := [.int 100]) F9 G h0 hkc_7 rfl (kX10_gap l g E F n S a0 r1 h0 er1) qv_RX10_52 ⟨rfl, rfl, (Nat.le_of_ble_eq_true rfl), (Nat.le_of_ble_eq_true rfl)⟩ rfl hl.1 rfl (Nat.le_of_ble_eq_true rfl) ⟨Nat.zero_le _, Nat.zero_le _⟩ dX10_quality_3 (fun H locs G => ?_)
  refine lv_isub hx hb dX10_quality_6 ?_
  refine lv_iconst (v := 2) hx hb dX10_quality_7 (by decide) ?_
  refine lv_aload_n hx hb dX10_quality_8 rfl (lv_at hl 0 rfl) ?_
  refine hk_getI F9 G h0 hkc_7 (k := 9) (by decide) qw_93 rfl dX10_quality_9 ?_
  refine lv_imul hx hb dX10_quality_12 ?_
  refine lv_isub hx hb dX10_quality_13 ?_
  obtain ⟨y2, ey2, hsp⟩ := hk_l hsp
  refine hk_top ey2 ?_
  refine lv_istore_n (lv' := [(1, .int y2), (0, .ref (g.1 + a0))]) hx hb dX10_quality_14 rfl hl (by decide) rfl (fun ls hl => ?_)
  refine lv_iload_n hx hb dX10_quality_15 rfl (lv_at hl 0 rfl) ?_
  refine lv_if_ge (tgt := 23) hx hb dX10_quality_16 (by decide) (fun c3 => ?_) (fun c3 => ?_)
  · have hsp := hk_t c3 hsp
    refine lv_iload_n hx hb dX10_quality_23 rfl (lv_at hl 0 rfl) ?_
    obtain rfl := hk_s hsp
    exact W.iret (v := y2) hx hb hr (fun t ht hW => hk_end G ht hW) G.2.1.2.2 dX10_quality_24
  · have hsp := hk_f c3 hsp
    refine lv_iconst (v := 0) hx hb dX10_quality_19 (by decide) ?_
    refine lv_goto (tgt := 24) hx hb dX10_quality_20 (by decide) ?_
    obtain rfl := hk_s hsp
    exact W.iret (v := 0) hx hb hr (fun t ht hW => hk_end G ht hW) G.2.1.2.2 dX10_quality_24
def mX10_loseMoisture (E : hk_E) (F : Nat) (S : hk_S) (a0 : Nat) (x1 : Int32) : Option (Int32 × hk_S) :=
hk_let ((S a0 6) + (S a0 7)) (fun y1 => if (S a0 2) = 0 then ((mX11_notBelowLowest E F S ((S a0 6) - (x1 / 2))).bind (fun r3 => hk_let (hk_up r3.2 a0 6 r3.1) (fun S4 => if (S4 a0 2) = 0 then ((mX11_notBelowLowest E F S4 ((S4 a0 7) - x1)).bind (fun r6 => hk_let (hk_up r6.2 a0 7 r6.1) (fun S7 => hk_let (((y1 - (S7 a0 6)) - (S7 a0 7)) * (S7 a0 3)) (fun y8 => hk_let (hk_up S7 a0 5 ((S7 a0 5) - y8)) (fun S9 => some (y8, S9)))))) else ((mX11_notBelowLowest E F S4 ((S4 a0 7) - (x1 / 2))).bind (fun r10 => hk_let (hk_up r10.2 a0 7 r10.1) (fun S11 => hk_let (((y1 - (S11 a0 6)) - (S11 a0 7)) * (S11 a0 3)) (fun y12 => hk_let (hk_up S11 a0 5 ((S11 a0 5) - y12)) (fun S13 => some (y12, S13))))))))) else ((mX11_notBelowLowest E F S ((S a0 6) - x1)).bind (fun r14 => hk_let (hk_up r14.2 a0 6 r14.1) (fun S15 => if (S15 a0 2) = 0 then ((mX11_notBelowLowest E F S15 ((S15 a0 7) - x1)).bind (fun r17 => hk_let (hk_up r17.2 a0 7 r17.1) (fun S18 => hk_let (((y1 - (S18 a0 6)) - (S18 a0 7)) * (S18 a0 3)) (fun y19 => hk_let (hk_up S18 a0 5 ((S18 a0 5) - y19)) (fun S20 => some (y19, S20)))))) else ((mX11_notBelowLowest E F S15 ((S15 a0 7) - (x1 / 2))).bind (fun r21 => hk_let (hk_up r21.2 a0 7 r21.1) (fun S22 => hk_let (((y1 - (S22 a0 6)) - (S22 a0 7)) * (S22 a0 3)) (fun y23 => hk_let (hk_up S22 a0 5 ((S22 a0 5) - y23)) (fun S24 => some (y23, S24))))))))))
set_option maxHeartbeats 4000000 in
set_option maxRecDepth 100000 in
theorem kX10_loseMoisture (l : Launch) (g : hk_G) (E : hk_E) (F n : Nat) (S : hk_S) (a0 : Nat) (x1 : Int32) (o : Int32 × hk_S) (h0 : E.2.1 a0 = 8) (hsp : mX10_loseMoisture E F S a0 x1 = some o) : Met l yX10_loseMoisture (hk_ws yX10_loseMoisture cX10_loseMoisture 4 (Option.some Jvm.ClassFile.FieldType.int)) ({ frames := 1, cells := 0, slots := 0, locals := 20 }) (hk_Pc g E S n [.ref (g.1 + a0), .int x1]) (hk_Q g E o.2 n (some (.int o.1))) 0 0 (hk_A g) := by
  refine Met.ofW (cc := cX10_loseMoisture) (maxL := 4) (ret := (Option.some Jvm.ClassFile.FieldType.int)) (by decide) rfl ?_
  intro p e s m args below meth c s₁ B hml hv
  obtain ⟨rfl, G⟩ := hk_begin hv
  have F9 : CallFix p m c cX10_loseMoisture 4 s [.ref (g.1 + a0), .int x1].toArray hk_W RX10 := ⟨B.exec, B.bytes, hml, findClass_of_methodNamed B.named, fun w h => atoms_spec (ws := hk_ws yX10_loseMoisture cX10_loseMoisture 4 (Option.some Jvm.ClassFile.FieldType.int)) B.pre w (hk_in h)⟩
  have hx := B.exec
  have hb := B.bytes
  have hr := B.returns
  have hlocks := B.notSynchronized
  have hl := lv_entry ([.ref (g.1 + a0), .int x1]) (n := 4) (Nat.le_of_ble_eq_true rfl)
  rw [lg_entry_eq]
  generalize (lg_sl ([.ref (g.1 + a0), .int x1]) ++ List.replicate (4 - (lg_sl ([.ref (g.1 + a0), .int x1])).length) Slot.unset).toArray = ls at hl ⊢
  have hl : lv_has ls 4 [(0, .ref (g.1 + a0)), (1, .int x1)] := hl
  unfold mX10_loseMoisture at hsp
  have G : hk_GG g E S n s s.heap [] := G
  refine lv_aload_n hx hb dX10_loseMoisture_0 rfl (lv_at hl 0 rfl) ?_
  refine hk_getI F9 G h0 hkc_7 (k := 6) (by decide) qw_86 rfl dX10_loseMoisture_1 ?_
  refine lv_aload_n hx hb dX10_loseMoisture_4 rfl (lv_at hl 0 rfl) ?_
  refine hk_getI F9 G h0 hkc_7 (k := 7) (by decide) qw_88 rfl dX10_loseMoisture_5 ?_
  refine lv_iadd hx hb dX10_loseMoisture_8 ?_
  obtain ⟨y1, ey1, hsp⟩ := hk_l hsp
  refine hk_top ey1 ?_
  refine lv_istore_n (lv' := [(2, .int y1), (0, .ref (g.1 + a0)), (1, .int x1)]) hx hb dX10_loseMoisture_9 rfl hl (by decide) rfl (fun ls hl => ?_)
  refine lv_aload_n hx hb dX10_loseMoisture_10 rfl (lv_at hl 1 rfl) ?_
  refine lv_aload_n hx hb dX10_loseMoisture_11 rfl (lv_at hl 1 rfl) ?_
  refine hk_getI F9 G h0 hkc_7 (k := 6) (by decide) qw_86 rfl dX10_loseMoisture_12 ?_
  refine lv_aload_n hx hb dX10_loseMoisture_15 rfl (lv_at hl 1 rfl) ?_
  refine hk_getI F9 G h0 hkc_7 (k := 2) (by decide) qw_77 rfl dX10_loseMoisture_16 ?_
  refine lv_if_eq (tgt := 26) hx hb dX10_loseMoisture_19 (by decide) (fun c2 => ?_) (fun c2 => ?_)
  · have hsp := hk_t c2 hsp
    refine lv_iload_n hx hb dX10_loseMoisture_26 rfl (lv_at hl 2 rfl) ?_
    refine lv_iconst (v := 2) hx hb dX10_loseMoisture_27 (by decide) ?_
    refine lv_idiv hx hb dX10_loseMoisture_28 (by decide) ?_
    refine lv_isub hx hb dX10_loseMoisture_29 ?_
    obtain ⟨r3, er3, hsp⟩ := hk_b hsp
    refine hk_callSNi (As := [.int ((S a0 6) - (x1 / 2))]) (rest := [.ref (g.1 + a0)]) F9 G (kX11_notBelowLowest l g E F n S ((S a0 6) - (x1 / 2)) r3  er3) qn_RX10_66 ⟨rfl, rfl, (Nat.le_of_ble_eq_true rfl), (Nat.le_of_ble_eq_true rfl)⟩ rfl hl.1 rfl (Nat.le_of_ble_eq_true rfl) ⟨Nat.zero_le _, Nat.zero_le _⟩ dX10_loseMoisture_30 (fun H locs G => ?_)
    obtain ⟨S4, eS4, hsp⟩ := hk_l hsp
    refine hk_putI F9 G h0 hkc_7 (k := 6) (by decide) qw_86 rfl rfl (tyX10_ok 6 (by decide)) rfl rfl dX10_loseMoisture_33 (fun H locs G => ?_)
    rw [eS4] at G
    refine lv_aload_n hx hb dX10_loseMoisture_36 rfl (lv_at hl 1 rfl) ?_
    refine lv_aload_n hx hb dX10_loseMoisture_37 rfl (lv_at hl 1 rfl) ?_
    refine hk_getI F9 G h0 hkc_7 (k := 7) (by decide) qw_88 rfl dX10_loseMoisture_38 ?_
    refine lv_aload_n hx hb dX10_loseMoisture_41 rfl (lv_at hl 1 rfl) ?_
    refine hk_getI F9 G h0 hkc_7 (k := 2) (by decide) qw_77 rfl dX10_loseMoisture_42 ?_
    refine lv_if_eq (tgt := 54) hx hb dX10_loseMoisture_45 (by decide) (fun c5 => ?_) (fun c5 => ?_)
    · have hsp := hk_t c5 hsp
      refine lv_iload_n hx hb dX10_loseMoisture_54 rfl (lv_at hl 2 rfl) ?_
      refine lv_isub hx hb dX10_loseMoisture_55 ?_
      obtain ⟨r6, er6, hsp⟩ := hk_b hsp
      refine hk_callSNi (As := [.int ((S4 a0 7) - x1)]) (rest := [.ref (g.1 + a0)]) F9 G (kX11_notBelowLowest l g E F n S4 ((S4 a0 7) - x1) r6  er6) qn_RX10_66 ⟨rfl, rfl, (Nat.le_of_ble_eq_true rfl), (Nat.le_of_ble_eq_true rfl)⟩ rfl hl.1 rfl (Nat.le_of_ble_eq_true rfl) ⟨Nat.zero_le _, Nat.zero_le _⟩ dX10_loseMoisture_56 (fun H locs G => ?_)
      obtain ⟨S7, eS7, hsp⟩ := hk_l hsp
      refine hk_putI F9 G h0 hkc_7 (k := 7) (by decide) qw_88 rfl rfl (tyX10_ok 7 (by decide)) rfl rfl dX10_loseMoisture_59 (fun H locs G => ?_)
      rw [eS7] at G
      refine lv_iload_n hx hb dX10_loseMoisture_62 rfl (lv_at hl 0 rfl) ?_
      refine lv_aload_n hx hb dX10_loseMoisture_63 rfl (lv_at hl 1 rfl) ?_
      refine hk_getI F9 G h0 hkc_7 (k := 6) (by decide) qw_86 rfl dX10_loseMoisture_64 ?_
      refine lv_isub hx hb dX10_loseMoisture_67 ?_
      refine lv_aload_n hx hb dX10_loseMoisture_68 rfl (lv_at hl 1 rfl) ?_
      refine hk_getI F9 G h0 hkc_7 (k := 7) (by decide) qw_88 rfl dX10_loseMoisture_69 ?_
      refine lv_isub hx hb dX10_loseMoisture_72 ?_
      refine lv_aload_n hx hb dX10_loseMoisture_73 rfl (lv_at hl 1 rfl) ?_
      refine hk_getI F9 G h0 hkc_7 (k := 3) (by decide) qw_78 rfl dX10_loseMoisture_74 ?_
      refine lv_imul hx hb dX10_loseMoisture_77 ?_
      obtain ⟨y8, ey8, hsp⟩ := hk_l hsp
      refine hk_top ey8 ?_
      refine lv_istore_n (lv' := [(3, .int y8), (2, .int y1), (0, .ref (g.1 + a0)), (1, .int x1)]) hx hb dX10_loseMoisture_78 rfl hl (by decide) rfl (fun ls hl => ?_)
      refine lv_aload_n hx hb dX10_loseMoisture_79 rfl (lv_at hl 2 rfl) ?_
      refine lv_dup hx hb dX10_loseMoisture_80 rfl ?_
      refine hk_getI F9 G h0 hkc_7 (k := 5) (by decide) qw_83 rfl dX10_loseMoisture_81 ?_
      refine lv_iload_n hx hb dX10_loseMoisture_84 rfl (lv_at hl 0 rfl) ?_
      refine lv_isub hx hb dX10_loseMoisture_85 ?_
      obtain ⟨S9, eS9, hsp⟩ := hk_l hsp
      refine hk_putI F9 G h0 hkc_7 (k := 5) (by decide) qw_83 rfl rfl (tyX10_ok 5 (by decide)) rfl rfl dX10_loseMoisture_86 (fun H locs G => ?_)
      rw [eS9] at G
      refine lv_iload_n hx hb dX10_loseMoisture_89 rfl (lv_at hl 0 rfl) ?_
      obtain rfl := hk_s hsp
      exact W.iret (v := y8) hx hb hr (fun t ht hW => hk_end G ht hW) G.2.1.2.2 dX10_loseMoisture_90
    · have hsp := hk_f c5 hsp
      refine lv_iload_n hx hb dX10_loseMoisture_48 rfl (lv_at hl 2 rfl) ?_
      refine lv_iconst (v := 2) hx hb dX10_loseMoisture_49 (by decide) ?_
      refine lv_idiv hx hb dX10_loseMoisture_50 (by decide) ?_
      refine lv_goto (tgt := 55) hx hb dX10_loseMoisture_51 (by decide) ?_
      refine lv_isub hx hb dX10_loseMoisture_55 ?_
      obtain ⟨r10, er10, hsp⟩ := hk_b hsp
      refine hk_callSNi (As := [.int ((S4 a0 7) - (x1 / 2))]) (rest := [.ref (g.1 + a0)]) F9 G (kX11_notBelowLowest l g E F n S4 ((S4 a0 7) - (x1 / 2)) r10  er10) qn_RX10_66 ⟨rfl, rfl, (Nat.le_of_ble_eq_true rfl), (Nat.le_of_ble_eq_true rfl)⟩ rfl hl.1 rfl (Nat.le_of_ble_eq_true rfl) ⟨Nat.zero_le _, Nat.zero_le _⟩ dX10_loseMoisture_56 (fun H locs G => ?_)
      obtain ⟨S11, eS11, hsp⟩ := hk_l hsp
      refine hk_putI F9 G h0 hkc_7 (k := 7) (by decide) qw_88 rfl rfl (tyX10_ok 7 (by decide)) rfl rfl dX10_loseMoisture_59 (fun H locs G => ?_)
      rw [eS11] at G
      refine lv_iload_n hx hb dX10_loseMoisture_62 rfl (lv_at hl 0 rfl) ?_
      refine lv_aload_n hx hb dX10_loseMoisture_63 rfl (lv_at hl 1 rfl) ?_
      refine hk_getI F9 G h0 hkc_7 (k := 6) (by decide) qw_86 rfl dX10_loseMoisture_64 ?_
      refine lv_isub hx hb dX10_loseMoisture_67 ?_
      refine lv_aload_n hx hb dX10_loseMoisture_68 rfl (lv_at hl 1 rfl) ?_
      refine hk_getI F9 G h0 hkc_7 (k := 7) (by decide) qw_88 rfl dX10_loseMoisture_69 ?_
      refine lv_isub hx hb dX10_loseMoisture_72 ?_
      refine lv_aload_n hx hb dX10_loseMoisture_73 rfl (lv_at hl 1 rfl) ?_
      refine hk_getI F9 G h0 hkc_7 (k := 3) (by decide) qw_78 rfl dX10_loseMoisture_74 ?_
      refine lv_imul hx hb dX10_loseMoisture_77 ?_
      obtain ⟨y12, ey12, hsp⟩ := hk_l hsp
      refine hk_top ey12 ?_
      refine lv_istore_n (lv' := [(3, .int y12), (2, .int y1), (0, .ref (g.1 + a0)), (1, .int x1)]) hx hb dX10_loseMoisture_78 rfl hl (by decide) rfl (fun ls hl => ?_)
      refine lv_aload_n hx hb dX10_loseMoisture_79 rfl (lv_at hl 2 rfl) ?_
      refine lv_dup hx hb dX10_loseMoisture_80 rfl ?_
      refine hk_getI F9 G h0 hkc_7 (k := 5) (by decide) qw_83 rfl dX10_loseMoisture_81 ?_
      refine lv_iload_n hx hb dX10_loseMoisture_84 rfl (lv_at hl 0 rfl) ?_
      refine lv_isub hx hb dX10_loseMoisture_85 ?_
      obtain ⟨S13, eS13, hsp⟩ := hk_l hsp
      refine hk_putI F9 G h0 hkc_7 (k := 5) (by decide) qw_83 rfl rfl (tyX10_ok 5 (by decide)) rfl rfl dX10_loseMoisture_86 (fun H locs G => ?_)
      rw [eS13] at G
      refine lv_iload_n hx hb dX10_loseMoisture_89 rfl (lv_at hl 0 rfl) ?_
      obtain rfl := hk_s hsp
      exact W.iret (v := y12) hx hb hr (fun t ht hW => hk_end G ht hW) G.2.1.2.2 dX10_loseMoisture_90
  · have hsp := hk_f c2 hsp
    refine lv_iload_n hx hb dX10_loseMoisture_22 rfl (lv_at hl 2 rfl) ?_
    refine lv_goto (tgt := 29) hx hb dX10_loseMoisture_23 (by decide) ?_
    refine lv_isub hx hb dX10_loseMoisture_29 ?_
    obtain ⟨r14, er14, hsp⟩ := hk_b hsp
    refine hk_callSNi (As := [.int ((S a0 6) - x1)]) (rest := [.ref (g.1 + a0)]) F9 G (kX11_notBelowLowest l g E F n S ((S a0 6) - x1) r14  er14) qn_RX10_66 ⟨rfl, rfl, (Nat.le_of_ble_eq_true rfl), (Nat.le_of_ble_eq_true rfl)⟩ rfl hl.1 rfl (Nat.le_of_ble_eq_true rfl) ⟨Nat.zero_le _, Nat.zero_le _⟩ dX10_loseMoisture_30 (fun H locs G => ?_)
    obtain ⟨S15, eS15, hsp⟩ := hk_l hsp
    refine hk_putI F9 G h0 hkc_7 (k := 6) (by decide) qw_86 rfl rfl (tyX10_ok 6 (by decide)) rfl rfl dX10_loseMoisture_33 (fun H locs G => ?_)
    rw [eS15] at G
    refine lv_aload_n hx hb dX10_loseMoisture_36 rfl (lv_at hl 1 rfl) ?_
    refine lv_aload_n hx hb dX10_loseMoisture_37 rfl (lv_at hl 1 rfl) ?_
    refine hk_getI F9 G h0 hkc_7 (k := 7) (by decide) qw_88 rfl dX10_loseMoisture_38 ?_
    refine lv_aload_n hx hb dX10_loseMoisture_41 rfl (lv_at hl 1 rfl) ?_
    refine hk_getI F9 G h0 hkc_7 (k := 2) (by decide) qw_77 rfl dX10_loseMoisture_42 ?_
    refine lv_if_eq (tgt := 54) hx hb dX10_loseMoisture_45 (by decide) (fun c16 => ?_) (fun c16 => ?_)
    · have hsp := hk_t c16 hsp
      refine lv_iload_n hx hb dX10_loseMoisture_54 rfl (lv_at hl 2 rfl) ?_
      refine lv_isub hx hb dX10_loseMoisture_55 ?_
      obtain ⟨r17, er17, hsp⟩ := hk_b hsp
      refine hk_callSNi (As := [.int ((S15 a0 7) - x1)]) (rest := [.ref (g.1 + a0)]) F9 G (kX11_notBelowLowest l g E F n S15 ((S15 a0 7) - x1) r17  er17) qn_RX10_66 ⟨rfl, rfl, (Nat.le_of_ble_eq_true rfl), (Nat.le_of_ble_eq_true rfl)⟩ rfl hl.1 rfl (Nat.le_of_ble_eq_true rfl) ⟨Nat.zero_le _, Nat.zero_le _⟩ dX10_loseMoisture_56 (fun H locs G => ?_)
      obtain ⟨S18, eS18, hsp⟩ := hk_l hsp
      refine hk_putI F9 G h0 hkc_7 (k := 7) (by decide) qw_88 rfl rfl (tyX10_ok 7 (by decide)) rfl rfl dX10_loseMoisture_59 (fun H locs G => ?_)
      rw [eS18] at G
      refine lv_iload_n hx hb dX10_loseMoisture_62 rfl (lv_at hl 0 rfl) ?_
      refine lv_aload_n hx hb dX10_loseMoisture_63 rfl (lv_at hl 1 rfl) ?_
      refine hk_getI F9 G h0 hkc_7 (k := 6) (by decide) qw_86 rfl dX10_loseMoisture_64 ?_
      refine lv_isub hx hb dX10_loseMoisture_67 ?_
      refine lv_aload_n hx hb dX10_loseMoisture_68 rfl (lv_at hl 1 rfl) ?_
      refine hk_getI F9 G h0 hkc_7 (k := 7) (by decide) qw_88 rfl dX10_loseMoisture_69 ?_
      refine lv_isub hx hb dX10_loseMoisture_72 ?_
      refine lv_aload_n hx hb dX10_loseMoisture_73 rfl (lv_at hl 1 rfl) ?_
      refine hk_getI F9 G h0 hkc_7 (k := 3) (by decide) qw_78 rfl dX10_loseMoisture_74 ?_
      refine lv_imul hx hb dX10_loseMoisture_77 ?_
      obtain ⟨y19, ey19, hsp⟩ := hk_l hsp
      refine hk_top ey19 ?_
      refine lv_istore_n (lv' := [(3, .int y19), (2, .int y1), (0, .ref (g.1 + a0)), (1, .int x1)]) hx hb dX10_loseMoisture_78 rfl hl (by decide) rfl (fun ls hl => ?_)
      refine lv_aload_n hx hb dX10_loseMoisture_79 rfl (lv_at hl 2 rfl) ?_
      refine lv_dup hx hb dX10_loseMoisture_80 rfl ?_
      refine hk_getI F9 G h0 hkc_7 (k := 5) (by decide) qw_83 rfl dX10_loseMoisture_81 ?_
      refine lv_iload_n hx hb dX10_loseMoisture_84 rfl (lv_at hl 0 rfl) ?_
      refine lv_isub hx hb dX10_loseMoisture_85 ?_
      obtain ⟨S20, eS20, hsp⟩ := hk_l hsp
      refine hk_putI F9 G h0 hkc_7 (k := 5) (by decide) qw_83 rfl rfl (tyX10_ok 5 (by decide)) rfl rfl dX10_loseMoisture_86 (fun H locs G => ?_)
      rw [eS20] at G
      refine lv_iload_n hx hb dX10_loseMoisture_89 rfl (lv_at hl 0 rfl) ?_
      obtain rfl := hk_s hsp
      exact W.iret (v := y19) hx hb hr (fun t ht hW => hk_end G ht hW) G.2.1.2.2 dX10_loseMoisture_90
    · have hsp := hk_f c16 hsp
      refine lv_iload_n hx hb dX10_loseMoisture_48 rfl (lv_at hl 2 rfl) ?_
      refine lv_iconst (v := 2) hx hb dX10_loseMoisture_49 (by decide) ?_
      refine lv_idiv hx hb dX10_loseMoisture_50 (by decide) ?_
      refine lv_goto (tgt := 55) hx hb dX10_loseMoisture_51 (by decide) ?_
      refine lv_isub hx hb dX10_loseMoisture_55 ?_
      obtain ⟨r21, er21, hsp⟩ := hk_b hsp
      refine hk_callSNi (As := [.int ((S15 a0 7) - (x1 / 2))]) (rest := [.ref (g.1 + a0)]) F9 G (kX11_notBelowLowest l g E F n S15 ((S15 a0 7) - (x1 / 2)) r21  er21) qn_RX10_66 ⟨rfl, rfl, (Nat.le_of_ble_eq_true rfl), (Nat.le_of_ble_eq_true rfl)⟩ rfl hl.1 rfl (Nat.le_of_ble_eq_true rfl) ⟨Nat.zero_le _, Nat.zero_le _⟩ dX10_loseMoisture_56 (fun H locs G => ?_)
      obtain ⟨S22, eS22, hsp⟩ := hk_l hsp
      refine hk_putI F9 G h0 hkc_7 (k := 7) (by decide) qw_88 rfl rfl (tyX10_ok 7 (by decide)) rfl rfl dX10_loseMoisture_59 (fun H locs G => ?_)
      rw [eS22] at G
      refine lv_iload_n hx hb dX10_loseMoisture_62 rfl (lv_at hl 0 rfl) ?_
      refine lv_aload_n hx hb dX10_loseMoisture_63 rfl (lv_at hl 1 rfl) ?_
      refine hk_getI F9 G h0 hkc_7 (k := 6) (by decide) qw_86 rfl dX10_loseMoisture_64 ?_
      refine lv_isub hx hb dX10_loseMoisture_67 ?_
      refine lv_aload_n hx hb dX10_loseMoisture_68 rfl (lv_at hl 1 rfl) ?_
      refine hk_getI F9 G h0 hkc_7 (k := 7) (by decide) qw_88 rfl dX10_loseMoisture_69 ?_
      refine lv_isub hx hb dX10_loseMoisture_72 ?_
      refine lv_aload_n hx hb dX10_loseMoisture_73 rfl (lv_at hl 1 rfl) ?_
      refine hk_getI F9 G h0 hkc_7 (k := 3) (by decide) qw_78 rfl dX10_loseMoisture_74 ?_
      refine lv_imul hx hb dX10_loseMoisture_77 ?_
      obtain ⟨y23, ey23, hsp⟩ := hk_l hsp
      refine hk_top ey23 ?_
      refine lv_istore_n (lv' := [(3, .int y23), (2, .int y1), (0, .ref (g.1 + a0)), (1, .int x1)]) hx hb dX10_loseMoisture_78 rfl hl (by decide) rfl (fun ls hl => ?_)
      refine lv_aload_n hx hb dX10_loseMoisture_79 rfl (lv_at hl 2 rfl) ?_
      refine lv_dup hx hb dX10_loseMoisture_80 rfl ?_
      refine hk_getI F9 G h0 hkc_7 (k := 5) (by decide) qw_83 rfl dX10_loseMoisture_81 ?_
      refine lv_iload_n hx hb dX10_loseMoisture_84 rfl (lv_at hl 0 rfl) ?_
      refine lv_isub hx hb dX10_loseMoisture_85 ?_
      obtain ⟨S24, eS24, hsp⟩ := hk_l hsp
      refine hk_putI F9 G h0 hkc_7 (k := 5) (by decide) qw_83 rfl rfl (tyX10_ok 5 (by decide)) rfl rfl dX10_loseMoisture_86 (fun H locs G => ?_)
      rw [eS24] at G
      refine lv_iload_n hx hb dX10_loseMoisture_89 rfl (lv_at hl 0 rfl) ?_
      obtain rfl := hk_s hsp
      exact W.iret (v := y23) hx hb hr (fun t ht hW => hk_end G ht hW) G.2.1.2.2 dX10_loseMoisture_90
def mX10_passHour (E : hk_E) (F : Nat) (S : hk_S) (a0 : Nat) (x1 : Int32) : Option (Int32 × hk_S) :=
(mX10_hasLeaf E F S a0).bind (fun r1 => if ¬ r1.1 = 0 then ((mX10_lossAt E F r1.2 a0 x1).bind (fun r3 => (mX10_loseMoisture E F r3.2 a0 r3.1).bind (fun r4 => if (r4.2 a0 1) ≤ 0 then (if 20 ≤ (r4.2 a0 8) then (if (r4.2 a0 8) < 10 then (some (r4.1, r4.2)) else (hk_let (hk_up r4.2 a0 9 ((r4.2 a0 9) + 1)) (fun S8 => some (r4.1, S8)))) else (hk_let (hk_up r4.2 a0 8 ((r4.2 a0 8) + 1)) (fun S9 => if (S9 a0 8) < 10 then (some (r4.1, S9)) else (hk_let (hk_up S9 a0 9 ((S9 a0 9) + 1)) (fun S11 => some (r4.1, S11)))))) else (if (r4.2 a0 1) ≤ (r4.2 a0 8) then (hk_let (hk_up r4.2 a0 8 ((r4.2 a0 8) - (r4.2 a0 1))) (fun S13 => if (S13 a0 8) < 10 then (some (r4.1, S13)) else (hk_let (hk_up S13 a0 9 ((S13 a0 9) + 1)) (fun S15 => some (r4.1, S15))))) else (hk_let (hk_up r4.2 a0 8 0) (fun S16 => if (S16 a0 8) < 10 then (some (r4.1, S16)) else (hk_let (hk_up S16 a0 9 ((S16 a0 9) + 1)) (fun S18 => some (r4.1, S18))))))))) else (some (0, r1.2)))
set_option maxHeartbeats 4000000 in
set_option maxRecDepth 100000 in
theorem kX10_passHour (l : Launch) (g : hk_G) (E : hk_E) (F n : Nat) (S : hk_S) (a0 : Nat) (x1 : Int32) (o : Int32 × hk_S) (h0 : E.2.1 a0 = 8) (hsp : mX10_passHour E F S a0 x1 = some o) : Met l yX10_passHour (hk_ws yX10_passHour cX10_passHour 3 (Option.some Jvm.ClassFile.FieldType.int)) ({ frames := 2, cells := 0, slots := 0, locals := 43 }) (hk_Pc g E S n [.ref (g.1 + a0), .int x1]) (hk_Q g E o.2 n (some (.int o.1))) 0 0 (hk_A g) := by
  refine Met.ofW (cc := cX10_passHour) (maxL := 3) (ret := (Option.some Jvm.ClassFile.FieldType.int)) (by decide) rfl ?_
  intro p e s m args below meth c s₁ B hml hv
  obtain ⟨rfl, G⟩ := hk_begin hv
  have F9 : CallFix p m c cX10_passHour 3 s [.ref (g.1 + a0), .int x1].toArray hk_W RX10 := ⟨B.exec, B.bytes, hml, findClass_of_methodNamed B.named, fun w h => atoms_spec (ws := hk_ws yX10_passHour cX10_passHour 3 (Option.some Jvm.ClassFile.FieldType.int)) B.pre w (hk_in h)⟩
  have hx := B.exec
  have hb := B.bytes
  have hr := B.returns
  have hlocks := B.notSynchronized
  have hl := lv_entry ([.ref (g.1 + a0), .int x1]) (n := 3) (Nat.le_of_ble_eq_true rfl)
  rw [lg_entry_eq]
  generalize (lg_sl ([.ref (g.1 + a0), .int x1]) ++ List.replicate (3 - (lg_sl ([.ref (g.1 + a0), .int x1])).length) Slot.unset).toArray = ls at hl ⊢
  have hl : lv_has ls 3 [(0, .ref (g.1 + a0)), (1, .int x1)] := hl
  unfold mX10_passHour at hsp
  have G : hk_GG g E S n s s.heap [] := G
  refine lv_aload_n hx hb dX10_passHour_0 rfl (lv_at hl 0 rfl) ?_
  obtain ⟨r1, er1, hsp⟩ := hk_b hsp
  refine hk_callVi (As := []) (rest := []) F9 G h0 hkc_7 rfl (kX10_hasLeaf l g E F n S a0 r1 h0 er1) qv_RX10_56 ⟨rfl, rfl, (Nat.le_of_ble_eq_true rfl), (Nat.le_of_ble_eq_true rfl)⟩ rfl hl.1 rfl (Nat.le_of_ble_eq_true rfl) ⟨Nat.zero_le _, Nat.zero_le _⟩ dX10_passHour_1 (fun H locs G => ?_)
  refine lv_if_ne (tgt := 9) hx hb dX10_passHour_4 (by decide) (fun c2 => ?_) (fun c2 => ?_)
  · have hsp := hk_t c2 hsp
    refine lv_aload_n hx hb dX10_passHour_9 rfl (lv_at hl 0 rfl) ?_
    refine lv_aload_n hx hb dX10_passHour_10 rfl (lv_at hl 0 rfl) ?_
    refine lv_iload_n hx hb dX10_passHour_11 rfl (lv_at hl 1 rfl) ?_
    obtain ⟨r3, er3, hsp⟩ := hk_b hsp
    refine hk_callVi (As := [.int x1]) (rest := [.ref (g.1 + a0)]) F9 G h0 hkc_7 rfl (kX10_lossAt l g E F n r1.2 a0 x1 r3 h0 er3) qv_RX10_60 ⟨rfl, rfl, (Nat.le_of_ble_eq_true rfl), (Nat.le_of_ble_eq_true rfl)⟩ rfl hl.1 rfl (Nat.le_of_ble_eq_true rfl) ⟨Nat.zero_le _, Nat.zero_le _⟩ dX10_passHour_12 (fun H locs G => ?_)
    obtain ⟨r4, er4, hsp⟩ := hk_b hsp
    refine hk_callVi (As := [.int r3.1]) (rest := []) F9 G h0 hkc_7 rfl (kX10_loseMoisture l g E F n r3.2 a0 r3.1 r4 h0 er4) qv_RX10_63 ⟨rfl, rfl, (Nat.le_of_ble_eq_true rfl), (Nat.le_of_ble_eq_true rfl)⟩ rfl hl.1 rfl (Nat.le_of_ble_eq_true rfl) ⟨Nat.zero_le _, Nat.zero_le _⟩ dX10_passHour_15 (fun H locs G => ?_)
    refine lv_istore_n (lv' := [(2, .int r4.1), (0, .ref (g.1 + a0)), (1, .int x1)]) hx hb dX10_passHour_18 rfl hl (by decide) rfl (fun ls hl => ?_)
    refine lv_aload_n hx hb dX10_passHour_19 rfl (lv_at hl 1 rfl) ?_
    refine hk_getI F9 G h0 hkc_7 (k := 1) (by decide) qw_75 rfl dX10_passHour_20 ?_
    refine lv_if_le (tgt := 57) hx hb dX10_passHour_23 (by decide) (fun c5 => ?_) (fun c5 => ?_)
    · have hsp := hk_t c5 hsp
      refine lv_aload_n hx hb dX10_passHour_57 rfl (lv_at hl 1 rfl) ?_
      refine hk_getI F9 G h0 hkc_7 (k := 8) (by decide) qw_91 rfl dX10_passHour_58 ?_
      refine lv_bipush (v := 20) hx hb dX10_passHour_61 (by decide) ?_
      refine lv_icmp_ge (tgt := 76) hx hb dX10_passHour_63 (by decide) (fun c6 => ?_) (fun c6 => ?_)
      · have hsp := hk_t c6 hsp
        refine lv_aload_n hx hb dX10_passHour_76 rfl (lv_at hl 1 rfl) ?_
        refine hk_getI F9 G h0 hkc_7 (k := 8) (by decide) qw_91 rfl dX10_passHour_77 ?_
        refine lv_bipush (v := 10) hx hb dX10_passHour_80 (by decide) ?_
        refine lv_icmp_lt (tgt := 95) hx hb dX10_passHour_82 (by decide) (fun c7 => ?_) (fun c7 => ?_)
        · have hsp := hk_t c7 hsp
          refine lv_iload_n hx hb dX10_passHour_95 rfl (lv_at hl 0 rfl) ?_
          obtain rfl := hk_s hsp
          exact W.iret (v := r4.1) hx hb hr (fun t ht hW => hk_end G ht hW) G.2.1.2.2 dX10_passHour_96
        · have hsp := hk_f c7 hsp
          refine lv_aload_n hx hb dX10_passHour_85 rfl (lv_at hl 1 rfl) ?_
          refine lv_dup hx hb dX10_passHour_86 rfl ?_
          refine hk_getI F9 G h0 hkc_7 (k := 9) (by decide) qw_93 rfl dX10_passHour_87 ?_
          refine lv_iconst (v := 1) hx hb dX10_passHour_90 (by decide) ?_
          refine lv_iadd hx hb dX10_passHour_91 ?_
          obtain ⟨S8, eS8, hsp⟩ := hk_l hsp
          refine hk_putI F9 G h0 hkc_7 (k := 9) (by decide) qw_93 rfl rfl (tyX10_ok 9 (by decide)) rfl rfl dX10_passHour_92 (fun H locs G => ?_)
          rw [eS8] at G
          refine lv_iload_n hx hb dX10_passHour_95 rfl (lv_at hl 0 rfl) ?_
          obtain rfl := hk_s hsp
          exact W.iret (v := r4.1) hx hb hr (fun t ht hW => hk_end G ht hW) G.2.1.2.2 dX10_passHour_96
      · have hsp := hk_f c6 hsp
        refine lv_aload_n hx hb dX10_passHour_66 rfl (lv_at hl 1 rfl) ?_
        refine lv_dup hx hb dX10_passHour_67 rfl ?_
        refine hk_getI F9 G h0 hkc_7 (k := 8) (by decide) qw_91 rfl dX10_passHour_68 ?_
        refine lv_iconst (v := 1) hx hb dX10_passHour_71 (by decide) ?_
        refine lv_iadd hx hb dX10_passHour_72 ?_
        obtain ⟨S9, eS9, hsp⟩ := hk_l hsp
        refine hk_putI F9 G h0 hkc_7 (k := 8) (by decide) qw_91 rfl rfl (tyX10_ok 8 (by decide)) rfl rfl dX10_passHour_73 (fun H locs G => ?_)
        rw [eS9] at G
        refine lv_aload_n hx hb dX10_passHour_76 rfl (lv_at hl 1 rfl) ?_
        refine hk_getI F9 G h0 hkc_7 (k := 8) (by decide) qw_91 rfl dX10_passHour_77 ?_
        refine lv_bipush (v := 10) hx hb dX10_passHour_80 (by decide) ?_
        refine lv_icmp_lt (tgt := 95) hx hb dX10_passHour_82 (by decide) (fun c10 => ?_) (fun c10 => ?_)
        · have hsp := hk_t c10 hsp
          refine lv_iload_n hx hb dX10_passHour_95 rfl (lv_at hl 0 rfl) ?_
          obtain rfl := hk_s hsp
          exact W.iret (v := r4.1) hx hb hr (fun t ht hW => hk_end G ht hW) G.2.1.2.2 dX10_passHour_96
        · have hsp := hk_f c10 hsp
          refine lv_aload_n hx hb dX10_passHour_85 rfl (lv_at hl 1 rfl) ?_
          refine lv_dup hx hb dX10_passHour_86 rfl ?_
          refine hk_getI F9 G h0 hkc_7 (k := 9) (by decide) qw_93 rfl dX10_passHour_87 ?_
          refine lv_iconst (v := 1) hx hb dX10_passHour_90 (by decide) ?_
          refine lv_iadd hx hb dX10_passHour_91 ?_
          obtain ⟨S11, eS11, hsp⟩ := hk_l hsp
          refine hk_putI F9 G h0 hkc_7 (k := 9) (by decide) qw_93 rfl rfl (tyX10_ok 9 (by decide)) rfl rfl dX10_passHour_92 (fun H locs G => ?_)
          rw [eS11] at G
          refine lv_iload_n hx hb dX10_passHour_95 rfl (lv_at hl 0 rfl) ?_
          obtain rfl := hk_s hsp
          exact W.iret (v := r4.1) hx hb hr (fun t ht hW => hk_end G ht hW) G.2.1.2.2 dX10_passHour_96
    · have hsp := hk_f c5 hsp
      refine lv_aload_n hx hb dX10_passHour_26 rfl (lv_at hl 1 rfl) ?_
      refine lv_aload_n hx hb dX10_passHour_27 rfl (lv_at hl 1 rfl) ?_
      refine hk_getI F9 G h0 hkc_7 (k := 8) (by decide) qw_91 rfl dX10_passHour_28 ?_
      refine lv_aload_n hx hb dX10_passHour_31 rfl (lv_at hl 1 rfl) ?_
      refine hk_getI F9 G h0 hkc_7 (k := 1) (by decide) qw_75 rfl dX10_passHour_32 ?_
      refine lv_icmp_ge (tgt := 42) hx hb dX10_passHour_35 (by decide) (fun c12 => ?_) (fun c12 => ?_)
      · have hsp := hk_t c12 hsp
        refine lv_aload_n hx hb dX10_passHour_42 rfl (lv_at hl 1 rfl) ?_
        refine hk_getI F9 G h0 hkc_7 (k := 8) (by decide) qw_91 rfl dX10_passHour_43 ?_
        refine lv_aload_n hx hb dX10_passHour_46 rfl (lv_at hl 1 rfl) ?_
        refine hk_getI F9 G h0 hkc_7 (k := 1) (by decide) qw_75 rfl dX10_passHour_47 ?_
        refine lv_isub hx hb dX10_passHour_50 ?_
        obtain ⟨S13, eS13, hsp⟩ := hk_l hsp
        refine hk_putI F9 G h0 hkc_7 (k := 8) (by decide) qw_91 rfl rfl (tyX10_ok 8 (by decide)) rfl rfl dX10_passHour_51 (fun H locs G => ?_)
        rw [eS13] at G
        refine lv_goto (tgt := 76) hx hb dX10_passHour_54 (by decide) ?_
        refine lv_aload_n hx hb dX10_passHour_76 rfl (lv_at hl 1 rfl) ?_
        refine hk_getI F9 G h0 hkc_7 (k := 8) (by decide) qw_91 rfl dX10_passHour_77 ?_
        refine lv_bipush (v := 10) hx hb dX10_passHour_80 (by decide) ?_
        refine lv_icmp_lt (tgt := 95) hx hb dX10_passHour_82 (by decide) (fun c14 => ?_) (fun c14 => ?_)
        · have hsp := hk_t c14 hsp
          refine lv_iload_n hx hb dX10_passHour_95 rfl (lv_at hl 0 rfl) ?_
          obtain rfl := hk_s hsp
          exact W.iret (v := r4.1) hx hb hr (fun t ht hW => hk_end G ht hW) G.2.1.2.2 dX10_passHour_96
        · have hsp := hk_f c14 hsp
          refine lv_aload_n hx hb dX10_passHour_85 rfl (lv_at hl 1 rfl) ?_
          refine lv_dup hx hb dX10_passHour_86 rfl ?_
          refine hk_getI F9 G h0 hkc_7 (k := 9) (by decide) qw_93 rfl dX10_passHour_87 ?_
          refine lv_iconst (v := 1) hx hb dX10_passHour_90 (by decide) ?_
          refine lv_iadd hx hb dX10_passHour_91 ?_
          obtain ⟨S15, eS15, hsp⟩ := hk_l hsp
          refine hk_putI F9 G h0 hkc_7 (k := 9) (by decide) qw_93 rfl rfl (tyX10_ok 9 (by decide)) rfl rfl dX10_passHour_92 (fun H locs G => ?_)
          rw [eS15] at G
          refine lv_iload_n hx hb dX10_passHour_95 rfl (lv_at hl 0 rfl) ?_
          obtain rfl := hk_s hsp
          exact W.iret (v := r4.1) hx hb hr (fun t ht hW => hk_end G ht hW) G.2.1.2.2 dX10_passHour_96
      · have hsp := hk_f c12 hsp
        refine lv_iconst (v := 0) hx hb dX10_passHour_38 (by decide) ?_
        refine lv_goto (tgt := 51) hx hb dX10_passHour_39 (by decide) ?_
        obtain ⟨S16, eS16, hsp⟩ := hk_l hsp
        refine hk_putI F9 G h0 hkc_7 (k := 8) (by decide) qw_91 rfl rfl (tyX10_ok 8 (by decide)) rfl rfl dX10_passHour_51 (fun H locs G => ?_)
        rw [eS16] at G
        refine lv_goto (tgt := 76) hx hb dX10_passHour_54 (by decide) ?_
        refine lv_aload_n hx hb dX10_passHour_76 rfl (lv_at hl 1 rfl) ?_
        refine hk_getI F9 G h0 hkc_7 (k := 8) (by decide) qw_91 rfl dX10_passHour_77 ?_
        refine lv_bipush (v := 10) hx hb dX10_passHour_80 (by decide) ?_
        refine lv_icmp_lt (tgt := 95) hx hb dX10_passHour_82 (by decide) (fun c17 => ?_) (fun c17 => ?_)
        · have hsp := hk_t c17 hsp
          refine lv_iload_n hx hb dX10_passHour_95 rfl (lv_at hl 0 rfl) ?_
          obtain rfl := hk_s hsp
          exact W.iret (v := r4.1) hx hb hr (fun t ht hW => hk_end G ht hW) G.2.1.2.2 dX10_passHour_96
        · have hsp := hk_f c17 hsp
          refine lv_aload_n hx hb dX10_passHour_85 rfl (lv_at hl 1 rfl) ?_
          refine lv_dup hx hb dX10_passHour_86 rfl ?_
          refine hk_getI F9 G h0 hkc_7 (k := 9) (by decide) qw_93 rfl dX10_passHour_87 ?_
          refine lv_iconst (v := 1) hx hb dX10_passHour_90 (by decide) ?_
          refine lv_iadd hx hb dX10_passHour_91 ?_
          obtain ⟨S18, eS18, hsp⟩ := hk_l hsp
          refine hk_putI F9 G h0 hkc_7 (k := 9) (by decide) qw_93 rfl rfl (tyX10_ok 9 (by decide)) rfl rfl dX10_passHour_92 (fun H locs G => ?_)
          rw [eS18] at G
          refine lv_iload_n hx hb dX10_passHour_95 rfl (lv_at hl 0 rfl) ?_
          obtain rfl := hk_s hsp
          exact W.iret (v := r4.1) hx hb hr (fun t ht hW => hk_end G ht hW) G.2.1.2.2 dX10_passHour_96
  · have hsp := hk_g c2 hsp
    refine lv_iconst (v := 0) hx hb dX10_passHour_7 (by decide) ?_
    obtain rfl := hk_s hsp
    exact W.iret (v := 0) hx hb hr (fun t ht hW => hk_end G ht hW) G.2.1.2.2 dX10_passHour_8
