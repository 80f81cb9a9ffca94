def mX1_init_2 (F : Nat) (S : hk_S) : Option (hk_S) :=
hk_let (va_up S 3 (fun _ => 0)) (fun S1 => some (S1))
set_option maxHeartbeats 4000000 in
set_option maxRecDepth 100000 in
theorem kX1_init_2 (l : Launch) (g : hk_G) (F : Nat) (S : hk_S) (o : hk_S) (hsp : mX1_init_2 F S = some o) : Met l yX1_init (hk_ws yX1_init cX1_init 1 (Option.none : Option Jvm.ClassFile.FieldType)) ({ frames := 1, cells := 1, slots := 3, locals := 12 }) (hk_Pc g (hk_EE 3 0) S (g.1 + 3) [.ref (g.1 + 2)]) (hk_Q g (hk_EE 4 1) o (g.1 + 4) none) 1 3 (hk_A g) := by
  refine Met.ofW (cc := cX1_init) (maxL := 1) (ret := (Option.none : Option Jvm.ClassFile.FieldType)) (by decide) rfl ?_
  intro p e s m args below meth c s₁ B hml hv
  obtain ⟨rfl, G⟩ := hk_begin hv
  have F9 : CallFix p m c cX1_init 1 s [.ref (g.1 + 2)].toArray hk_W RX1 := ⟨B.exec, B.bytes, hml, findClass_of_methodNamed B.named, fun w h => atoms_spec (ws := hk_ws yX1_init cX1_init 1 (Option.none : Option Jvm.ClassFile.FieldType)) B.pre w (hk_in h)⟩
  have hin : meth.name = "<init>" := (name_of_methodNamed B.named B.method).1
  have hx := B.exec
  have hb := B.bytes
  have hr := B.returns
  have hlocks := B.notSynchronized
  have hl := lv_entry ([.ref (g.1 + 2)]) (n := 1) (Nat.le_of_ble_eq_true rfl)
  rw [lg_entry_eq]
  generalize (lg_sl ([.ref (g.1 + 2)]) ++ List.replicate (1 - (lg_sl ([.ref (g.1 + 2)])).length) Slot.unset).toArray = ls at hl ⊢
  have hl : lv_has ls 1 [(0, .ref (g.1 + 2))] := hl
  unfold mX1_init_2 at hsp
  have G : hk_GG g (hk_EE 3 0) S (g.1 + 3) s s.heap [] := G
  refine lv_aload_n hx hb dX1_init_0 rfl (lv_at hl 0 rfl) ?_
  refine hk_obj F9 qw_40 qw_27 qw_28 hl.1 ⟨(Nat.le_of_ble_eq_true rfl), (Nat.le_of_ble_eq_true rfl)⟩ dX1_init_1 ?_
  refine lv_aload_n hx hb dX1_init_4 rfl (lv_at hl 0 rfl) ?_
  refine lv_iconst (v := 3) hx hb dX1_init_5 (by decide) ?_
  refine hk_newA (E1 := (hk_EE 4 0)) (a := 3) (b := 4) (ft := .int) (t := 2) (ln := 3) (kd := 13) F9 G rfl ⟨rfl, rfl⟩ rfl (fun _ h => nomatch h) rfl (fun I _ => hk_cell_i (t := 2) (by decide)) rfl (hk_growE (kd := 13) (ln := 3) (by decide +kernel) (by decide +kernel) (by decide +kernel)) qw_62 (by decide) (by decide) (by decide) ⟨(Nat.le_of_ble_eq_true rfl), (Nat.le_of_ble_eq_true rfl)⟩ dX1_init_6 (fun H G => ?_)
  obtain ⟨S1, eS1, hsp⟩ := hk_l hsp
  rw [eS1] at G
  refine hk_putR (E1 := (hk_EE 4 1)) (a := 2) (r := 3) (k := 4) F9 G (by decide +kernel) hkc_0 (by decide) qw_50 rfl rfl hin rfl (tyX1_ok 4 (by decide)) (fun _ => rfl) (fun _ => rfl) (hk_setE (by decide +kernel) (by decide +kernel)) dX1_init_8 (fun H locs G => ?_)
  obtain rfl := hk_s hsp
  exact W.vret hx hb hr (fun t ht hW => hk_end G ht hW) G.2.1.2.2 dX1_init_11
def mX5_init_1 (F : Nat) (S : hk_S) : Option (hk_S) :=
hk_let (va_up S 2 (hk_i0 0)) (fun S1 => (mX1_init_2 F S1).bind (fun r2 => hk_let (va_up r2 4 (fun _ => 0)) (fun S3 => hk_let (va_up S3 5 (fun _ => 0)) (fun S4 => hk_let (va_up S4 6 (hk_i0 7)) (fun S6 => (mX10_init (hk_EE 7 4) F S6 6).bind (fun r7 => hk_let (va_up r7 7 (hk_i0 7)) (fun S9 => (mX10_init (hk_EE 8 5) F S9 7).bind (fun r10 => hk_let (va_up r10 8 (hk_i0 7)) (fun S12 => (mX10_init (hk_EE 9 6) F S12 8).bind (fun r13 => hk_let (va_up r13 9 (hk_i0 7)) (fun S15 => (mX10_init (hk_EE 10 7) F S15 9).bind (fun r16 => hk_let (va_up r16 10 (hk_i0 7)) (fun S18 => (mX10_init (hk_EE 11 8) F S18 10).bind (fun r19 => hk_let (va_up r19 11 (hk_i0 7)) (fun S21 => (mX10_init (hk_EE 12 9) F S21 11).bind (fun r22 => hk_let (va_up r22 12 (hk_i0 7)) (fun S24 => (mX10_init (hk_EE 13 10) F S24 12).bind (fun r25 => hk_let (va_up r25 13 (hk_i0 7)) (fun S27 => (mX10_init (hk_EE 14 11) F S27 13).bind (fun r28 => hk_let (va_up r28 14 (hk_i0 4)) (fun S31 => (mX6_init (hk_EE 15 12) F S31 14).bind (fun r32 => hk_let (va_up r32 15 (hk_i0 4)) (fun S34 => (mX6_init (hk_EE 16 13) F S34 15).bind (fun r35 => hk_let (va_up r35 16 (hk_i0 4)) (fun S37 => (mX6_init (hk_EE 17 14) F S37 16).bind (fun r38 => hk_let (va_up r38 17 (hk_i0 4)) (fun S40 => (mX6_init (hk_EE 18 15) F S40 17).bind (fun r41 => hk_let (va_up r41 18 (hk_i0 4)) (fun S43 => (mX6_init (hk_EE 19 16) F S43 18).bind (fun r44 => hk_let (va_up r44 19 (hk_i0 4)) (fun S46 => (mX6_init (hk_EE 20 17) F S46 19).bind (fun r47 => (mX5_clear (hk_EE 20 18) F r47 1).bind (fun r49 => some (r49))))))))))))))))))))))))))))))))))
set_option maxHeartbeats 4000000 in
set_option maxRecDepth 100000 in
theorem kX5_init_1 (l : Launch) (g : hk_G) (F : Nat) (S : hk_S) (o : hk_S) (hsp : mX5_init_1 F S = some o) : Met l yX5_init (hk_ws yX5_init cX5_init 2 (Option.none : Option Jvm.ClassFile.FieldType)) ({ frames := 3, cells := 18, slots := 120, locals := 62 }) (hk_Pc g (hk_EE 2 0) S (g.1 + 2) [.ref (g.1 + 1)]) (hk_Q g (hk_EE 20 18) o (g.1 + 20) none) 18 120 (hk_A g) := by
  refine Met.ofW (cc := cX5_init) (maxL := 2) (ret := (Option.none : Option Jvm.ClassFile.FieldType)) (by decide) rfl ?_
  intro p e s m args below meth c s₁ B hml hv
  obtain ⟨rfl, G⟩ := hk_begin hv
  have F9 : CallFix p m c cX5_init 2 s [.ref (g.1 + 1)].toArray hk_W RX5 := ⟨B.exec, B.bytes, hml, findClass_of_methodNamed B.named, fun w h => atoms_spec (ws := hk_ws yX5_init cX5_init 2 (Option.none : Option Jvm.ClassFile.FieldType)) B.pre w (hk_in h)⟩
  have hin : meth.name = "<init>" := (name_of_methodNamed B.named B.method).1
  have hx := B.exec
  have hb := B.bytes
  have hr := B.returns
  have hlocks := B.notSynchronized
  have hl := lv_entry ([.ref (g.1 + 1)]) (n := 2) (Nat.le_of_ble_eq_true rfl)
  rw [lg_entry_eq]
  generalize (lg_sl ([.ref (g.1 + 1)]) ++ List.replicate (2 - (lg_sl ([.ref (g.1 + 1)])).length) Slot.unset).toArray = ls at hl ⊢
  have hl : lv_has ls 2 [(0, .ref (g.1 + 1))] := hl
  unfold mX5_init_1 at hsp
  have G : hk_GG g (hk_EE 2 0) S (g.1 + 2) s s.heap [] := G
  refine lv_aload_n hx hb dX5_init_0 rfl (lv_at hl 0 rfl) ?_
  refine hk_obj F9 qw_34 qw_27 qw_28 hl.1 ⟨(Nat.le_of_ble_eq_true rfl), (Nat.le_of_ble_eq_true rfl)⟩ dX5_init_1 ?_
  refine lv_aload_n hx hb dX5_init_4 rfl (lv_at hl 0 rfl) ?_
  refine hk_new (E1 := (hk_EE 3 0)) (a := 2) (b := 3) F9 G rfl ⟨rfl, rfl⟩ hkc_0 hkd_0 (hk_growE (kd := 1) (ln := 0) (by decide +kernel) (by decide +kernel) (by decide +kernel)) qw_35 qw_36 qw_3 ⟨(Nat.le_of_ble_eq_true rfl), (Nat.le_of_ble_eq_true rfl)⟩ dX5_init_5 (fun H G => ?_)
  obtain ⟨S1, eS1, hsp⟩ := hk_l hsp
  rw [eS1] at G
  refine lv_dup hx hb dX5_init_8 rfl ?_
  obtain ⟨r2, er2, hsp⟩ := hk_b hsp
  refine hk_callIN (rest := [.ref (g.1 + 2), .ref (g.1 + 1)]) F9 G (kX1_init_2 l g F S1 r2 er2) qin_RX5_11 ⟨rfl, rfl, (Nat.le_of_ble_eq_true rfl), (Nat.le_of_ble_eq_true rfl)⟩ hl.1 (Nat.le_of_ble_eq_true rfl) ⟨(Nat.le_of_ble_eq_true rfl), (Nat.le_of_ble_eq_true rfl)⟩ dX5_init_9 (fun H locs G => ?_)
  refine hk_putR (E1 := (hk_EE 4 2)) (a := 1) (r := 2) (k := 0) F9 G (by decide +kernel) hkc_3 (by decide) qw_153 rfl rfl hin rfl (tyX5_ok 0 (by decide)) (fun _ => rfl) (fun _ => rfl) (hk_setE (by decide +kernel) (by decide +kernel)) dX5_init_12 (fun H locs G => ?_)
  refine lv_aload_n hx hb dX5_init_15 rfl (lv_at hl 0 rfl) ?_
  refine lv_bipush (v := 8) hx hb dX5_init_16 (by decide) ?_
  refine hk_newQ (E1 := (hk_EE 5 2)) (a := 4) (b := 5) (t := 2) (ln := 8) F9 G rfl ⟨rfl, rfl⟩ (by decide) rfl G.2.2.1.2.2.2.2 (hk_growE (kd := 16) (ln := 8) (by decide +kernel) (by decide +kernel) (by decide +kernel)) qw_63 (by decide) (by decide) (by decide) ⟨(Nat.le_of_ble_eq_true rfl), (Nat.le_of_ble_eq_true rfl)⟩ dX5_init_18 (fun H G => ?_)
  obtain ⟨S3, eS3, hsp⟩ := hk_l hsp
  rw [eS3] at G
  refine hk_putR (E1 := (hk_EE 5 3)) (a := 1) (r := 4) (k := 1) F9 G (by decide +kernel) hkc_3 (by decide) qw_155 rfl rfl hin rfl (tyX5_ok 1 (by decide)) (fun _ => rfl) (fun _ => rfl) (hk_setE (by decide +kernel) (by decide +kernel)) dX5_init_21 (fun H locs G => ?_)
  refine lv_aload_n hx hb dX5_init_24 rfl (lv_at hl 0 rfl) ?_
  refine lv_bipush (v := 6) hx hb dX5_init_25 (by decide) ?_
  refine hk_newQ (E1 := (hk_EE 6 3)) (a := 5) (b := 6) (t := 1) (ln := 6) F9 G rfl ⟨rfl, rfl⟩ (by decide) rfl G.2.2.1.2.2.2.1 (hk_growE (kd := 15) (ln := 6) (by decide +kernel) (by decide +kernel) (by decide +kernel)) qw_65 (by decide) (by decide) (by decide) ⟨(Nat.le_of_ble_eq_true rfl), (Nat.le_of_ble_eq_true rfl)⟩ dX5_init_27 (fun H G => ?_)
  obtain ⟨S4, eS4, hsp⟩ := hk_l hsp
  rw [eS4] at G
  refine hk_putR (E1 := (hk_EE 6 4)) (a := 1) (r := 5) (k := 3) F9 G (by decide +kernel) hkc_3 (by decide) qw_158 rfl rfl hin rfl (tyX5_ok 3 (by decide)) (fun _ => rfl) (fun _ => rfl) (hk_setE (by decide +kernel) (by decide +kernel)) dX5_init_30 (fun H locs G => ?_)
  refine lv_iconst (v := 0) hx hb dX5_init_33 (by decide) ?_
  refine lv_istore_n (lv' := [(1, .int 0), (0, .ref (g.1 + 1))]) hx hb dX5_init_34 rfl hl (by decide) rfl (fun ls hl => ?_)
  refine lv_iload_n hx hb dX5_init_35 rfl (lv_at hl 0 rfl) ?_
  refine lv_bipush (v := 8) hx hb dX5_init_36 (by decide) ?_
  refine lv_icmp_ge (tgt := 60) hx hb dX5_init_38 (by decide) (fun c5 => ?_) (fun c5 => ?_)
  · exact absurd c5 (by decide)
  · refine lv_aload_n hx hb dX5_init_41 rfl (lv_at hl 1 rfl) ?_
    refine hk_getR (r := 4) F9 G (by decide +kernel) hkc_3 (k := 1) (by decide) qw_155 rfl (by decide +kernel) dX5_init_42 ?_
    refine lv_iload_n hx hb dX5_init_45 rfl (lv_at hl 0 rfl) ?_
    refine hk_new (E1 := (hk_EE 7 4)) (a := 6) (b := 7) F9 G rfl ⟨rfl, rfl⟩ hkc_7 hkd_7 (hk_growE (kd := 8) (ln := 0) (by decide +kernel) (by decide +kernel) (by decide +kernel)) qw_63 qw_67 qw_4 ⟨(Nat.le_of_ble_eq_true rfl), (Nat.le_of_ble_eq_true rfl)⟩ dX5_init_46 (fun H G => ?_)
    obtain ⟨S6, eS6, hsp⟩ := hk_l hsp
    rw [eS6] at G
    refine lv_dup hx hb dX5_init_49 rfl ?_
    obtain ⟨r7, er7, hsp⟩ := hk_b hsp
    refine hk_callIN (rest := [.ref (g.1 + 6), .int 0, .ref (g.1 + 4)]) F9 G (kX10_init l g (hk_EE 7 4) F (g.1 + 7) S6 6 r7 (by decide +kernel) er7) qin_RX5_30 ⟨rfl, rfl, (Nat.le_of_ble_eq_true rfl), (Nat.le_of_ble_eq_true rfl)⟩ hl.1 (Nat.le_of_ble_eq_true rfl) ⟨(Nat.le_of_ble_eq_true rfl), (Nat.le_of_ble_eq_true rfl)⟩ dX5_init_50 (fun H locs G => ?_)
    refine hk_aast (E1 := (hk_EE 7 5)) (a := 4) (r := 6) (j := 0) (t := 2) (ci := 7) (ln := 8) F9 G (by decide) (by decide +kernel) (by decide +kernel) (by decide) rfl rfl (by decide +kernel) (by decide) (by decide) (by decide) (hk_setE (by decide +kernel) (by decide +kernel)) dX5_init_53 (fun H locs G => ?_)
    refine lv_iinc (v := 1) (lv' := [(1, .int 1), (0, .ref (g.1 + 1))]) hx hb dX5_init_54 hl (k := 0) rfl (by decide) (by decide) rfl (fun ls hl => ?_)
    refine lv_goto (tgt := 35) hx hb dX5_init_57 (by decide) ?_
    refine lv_iload_n hx hb dX5_init_35 rfl (lv_at hl 0 rfl) ?_
    refine lv_bipush (v := 8) hx hb dX5_init_36 (by decide) ?_
    refine lv_icmp_ge (tgt := 60) hx hb dX5_init_38 (by decide) (fun c8 => ?_) (fun c8 => ?_)
    · exact absurd c8 (by decide)
    · refine lv_aload_n hx hb dX5_init_41 rfl (lv_at hl 1 rfl) ?_
      refine hk_getR (r := 4) F9 G (by decide +kernel) hkc_3 (k := 1) (by decide) qw_155 rfl (by decide +kernel) dX5_init_42 ?_
      refine lv_iload_n hx hb dX5_init_45 rfl (lv_at hl 0 rfl) ?_
      refine hk_new (E1 := (hk_EE 8 5)) (a := 7) (b := 8) F9 G rfl ⟨rfl, rfl⟩ hkc_7 hkd_7 (hk_growE (kd := 8) (ln := 0) (by decide +kernel) (by decide +kernel) (by decide +kernel)) qw_63 qw_67 qw_4 ⟨(Nat.le_of_ble_eq_true rfl), (Nat.le_of_ble_eq_true rfl)⟩ dX5_init_46 (fun H G => ?_)
      obtain ⟨S9, eS9, hsp⟩ := hk_l hsp
      rw [eS9] at G
      refine lv_dup hx hb dX5_init_49 rfl ?_
      obtain ⟨r10, er10, hsp⟩ := hk_b hsp
      refine hk_callIN (rest := [.ref (g.1 + 7), .int 1, .ref (g.1 + 4)]) F9 G (kX10_init l g (hk_EE 8 5) F (g.1 + 8) S9 7 r10 (by decide +kernel) er10) qin_RX5_30 ⟨rfl, rfl, (Nat.le_of_ble_eq_true rfl), (Nat.le_of_ble_eq_true rfl)⟩ hl.1 (Nat.le_of_ble_eq_true rfl) ⟨(Nat.le_of_ble_eq_true rfl), (Nat.le_of_ble_eq_true rfl)⟩ dX5_init_50 (fun H locs G => ?_)
      refine hk_aast (E1 := (hk_EE 8 6)) (a := 4) (r := 7) (j := 1) (t := 2) (ci := 7) (ln := 8) F9 G (by decide) (by decide +kernel) (by decide +kernel) (by decide) rfl rfl (by decide +kernel) (by decide) (by decide) (by decide) (hk_setE (by decide +kernel) (by decide +kernel)) dX5_init_53 (fun H locs G => ?_)
      refine lv_iinc (v := 2) (lv' := [(1, .int 2), (0, .ref (g.1 + 1))]) hx hb dX5_init_54 hl (k := 0) rfl (by decide) (by decide) rfl (fun ls hl => ?_)
      refine lv_goto (tgt := 35) hx hb dX5_init_57 (by decide) ?_
      refine lv_iload_n hx hb dX5_init_35 rfl (lv_at hl 0 rfl) ?_
      refine lv_bipush (v := 8) hx hb dX5_init_36 (by decide) ?_
      refine lv_icmp_ge (tgt := 60) hx hb dX5_init_38 (by decide) (fun c11 => ?_) (fun c11 => ?_)
      · exact absurd c11 (by decide)
      · refine lv_aload_n hx hb dX5_init_41 rfl (lv_at hl 1 rfl) ?_
        refine hk_getR (r := 4) F9 G (by decide +kernel) hkc_3 (k := 1) (by decide) qw_155 rfl (by decide +kernel) dX5_init_42 ?_
        refine lv_iload_n hx hb dX5_init_45 rfl (lv_at hl 0 rfl) ?_
        refine hk_new (E1 := (hk_EE 9 6)) (a := 8) (b := 9) F9 G rfl ⟨rfl, rfl⟩ hkc_7 hkd_7 (hk_growE (kd := 8) (ln := 0) (by decide +kernel) (by decide +kernel) (by decide +kernel)) qw_63 qw_67 qw_4 ⟨(Nat.le_of_ble_eq_true rfl), (Nat.le_of_ble_eq_true rfl)⟩ dX5_init_46 (fun H G => ?_)
        obtain ⟨S12, eS12, hsp⟩ := hk_l hsp
        rw [eS12] at G
        refine lv_dup hx hb dX5_init_49 rfl ?_
        obtain ⟨r13, er13, hsp⟩ := hk_b hsp
        refine hk_callIN (rest := [.ref (g.1 + 8), .int 2, .ref (g.1 + 4)]) F9 G (kX10_init l g (hk_EE 9 6) F (g.1 + 9) S12 8 r13 (by decide +kernel) er13) qin_RX5_30 ⟨rfl, rfl, (Nat.le_of_ble_eq_true rfl), (Nat.le_of_ble_eq_true rfl)⟩ hl.1 (Nat.le_of_ble_eq_true rfl) ⟨(Nat.le_of_ble_eq_true rfl), (Nat.le_of_ble_eq_true rfl)⟩ dX5_init_50 (fun H locs G => ?_)
        refine hk_aast (E1 := (hk_EE 9 7)) (a := 4) (r := 8) (j := 2) (t := 2) (ci := 7) (ln := 8) F9 G (by decide) (by decide +kernel) (by decide +kernel) (by decide) rfl rfl (by decide +kernel) (by decide) (by decide) (by decide) (hk_setE (by decide +kernel) (by decide +kernel)) dX5_init_53 (fun H locs G => ?_)
        refine lv_iinc (v := 3) (lv' := [(1, .int 3), (0, .ref (g.1 + 1))]) hx hb dX5_init_54 hl (k := 0) rfl (by decide) (by decide) rfl (fun ls hl => ?_)
        refine lv_goto (tgt := 35) hx hb dX5_init_57 (by decide) ?_
        refine lv_iload_n hx hb dX5_init_35 rfl (lv_at hl 0 rfl) ?_
        refine lv_bipush (v := 8) hx hb dX5_init_36 (by decide) ?_
        refine lv_icmp_ge (tgt := 60) hx hb dX5_init_38 (by decide) (fun c14 => ?_) (fun c14 => ?_)
        · exact absurd c14 (by decide)
        · refine lv_aload_n hx hb dX5_init_41 rfl (lv_at hl 1 rfl) ?_
          refine hk_getR (r := 4) F9 G (by decide +kernel) hkc_3 (k := 1) (by decide) qw_155 rfl (by decide +kernel) dX5_init_42 ?_
          refine lv_iload_n hx hb dX5_init_45 rfl (lv_at hl 0 rfl) ?_
          refine hk_new (E1 := (hk_EE 10 7)) (a := 9) (b := 10) F9 G rfl ⟨rfl, rfl⟩ hkc_7 hkd_7 (hk_growE (kd := 8) (ln := 0) (by decide +kernel) (by decide +kernel) (by decide +kernel)) qw_63 qw_67 qw_4 ⟨(Nat.le_of_ble_eq_true rfl), (Nat.le_of_ble_eq_true rfl)⟩ dX5_init_46 (fun H G => ?_)
          obtain ⟨S15, eS15, hsp⟩ := hk_l hsp
          rw [eS15] at G
          refine lv_dup hx hb dX5_init_49 rfl ?_
          obtain ⟨r16, er16, hsp⟩ := hk_b hsp
          refine hk_callIN (rest := [.ref (g.1 + 9), .int 3, .ref (g.1 + 4)]) F9 G (kX10_init l g (hk_EE 10 7) F (g.1 + 10) S15 9 r16 (by decide +kernel) er16) qin_RX5_30 ⟨rfl, rfl, (Nat.le_of_ble_eq_true rfl), (Nat.le_of_ble_eq_true rfl)⟩ hl.1 (Nat.le_of_ble_eq_true rfl) ⟨(Nat.le_of_ble_eq_true rfl), (Nat.le_of_ble_eq_true rfl)⟩ dX5_init_50 (fun H locs G => ?_)
          refine hk_aast (E1 := (hk_EE 10 8)) (a := 4) (r := 9) (j := 3) (t := 2) (ci := 7) (ln := 8) F9 G (by decide) (by decide +kernel) (by decide +kernel) (by decide) rfl rfl (by decide +kernel) (by decide) (by decide) (by decide) (hk_setE (by decide +kernel) (by decide +kernel)) dX5_init_53 (fun H locs G => ?_)
          refine lv_iinc (v := 4) (lv' := [(1, .int 4), (0, .ref (g.1 + 1))]) hx hb dX5_init_54 hl (k := 0) rfl (by decide) (by decide) rfl (fun ls hl => ?_)
          refine lv_goto (tgt := 35) hx hb dX5_init_57 (by decide) ?_
          refine lv_iload_n hx hb dX5_init_35 rfl (lv_at hl 0 rfl) ?_
          refine lv_bipush (v := 8) hx hb dX5_init_36 (by decide) ?_
          refine lv_icmp_ge (tgt := 60) hx hb dX5_init_38 (by decide) (fun c17 => ?_) (fun c17 => ?_)
          · exact absurd c17 (by decide)
          · refine lv_aload_n hx hb dX5_init_41 rfl (lv_at hl 1 rfl) ?_
            refine hk_getR (r := 4) F9 G (by decide +kernel) hkc_3 (k := 1) (by decide) qw_155 rfl (by decide +kernel) dX5_init_42 ?_
            refine lv_iload_n hx hb dX5_init_45 rfl (lv_at hl 0 rfl) ?_
            refine hk_new (E1 := (hk_EE 11 8)) (a := 10) (b := 11) F9 G rfl ⟨rfl, rfl⟩ hkc_7 hkd_7 (hk_growE (kd := 8) (ln := 0) (by decide +kernel) (by decide +kernel) (by decide +kernel)) qw_63 qw_67 qw_4 ⟨(Nat.le_of_ble_eq_true rfl), (Nat.le_of_ble_eq_true rfl)⟩ dX5_init_46 (fun H G => ?_)
            obtain ⟨S18, eS18, hsp⟩ := hk_l hsp
            rw [eS18] at G
            refine lv_dup hx hb dX5_init_49 rfl ?_
            obtain ⟨r19, er19, hsp⟩ := hk_b hsp
            refine hk_callIN (rest := [.ref (g.1 + 10), .int 4, .ref (g.1 + 4)]) F9 G (kX10_init l g (hk_EE 11 8) F (g.1 + 11) S18 10 r19 (by decide +kernel) er19) qin_RX5_30 ⟨rfl, rfl, (Nat.le_of_ble_eq_true rfl), (Nat.le_of_ble_eq_true rfl)⟩ hl.1 (Nat.le_of_ble_eq_true rfl) ⟨(Nat.le_of_ble_eq_true rfl), (Nat.le_of_ble_eq_true rfl)⟩ dX5_init_50 (fun H locs G => ?_)
            refine hk_aast (E1 := (hk_EE 11 9)) (a := 4) (r := 10) (j := 4) (t := 2) (ci := 7) (ln := 8) F9 G (by decide) (by decide +kernel) (by decide +kernel) (by decide) rfl rfl (by decide +kernel) (by decide) (by decide) (by decide) (hk_setE (by decide +kernel) (by decide +kernel)) dX5_init_53 (fun H locs G => ?_)
            refine lv_iinc (v := 5) (lv' := [(1, .int 5), (0, .ref (g.1 + 1))]) hx hb dX5_init_54 hl (k := 0) rfl (by decide) (by decide) rfl (fun ls hl => ?_)
            refine lv_goto (tgt := 35) hx hb dX5_init_57 (by decide) ?_
            refine lv_iload_n hx hb dX5_init_35 rfl (lv_at hl 0 rfl) ?_
            refine lv_bipush (v := 8) hx hb dX5_init_36 (by decide) ?_
            refine lv_icmp_ge (tgt := 60) hx hb dX5_init_38 (by decide) (fun c20 => ?_) (fun c20 => ?_)
            · exact absurd c20 (by decide)
            · refine lv_aload_n hx hb dX5_init_41 rfl (lv_at hl 1 rfl) ?_
              refine hk_getR (r := 4) F9 G (by decide +kernel) hkc_3 (k := 1) (by decide) qw_155 rfl (by decide +kernel) dX5_init_42 ?_
              refine lv_iload_n hx hb dX5_init_45 rfl (lv_at hl 0 rfl) ?_
              refine hk_new (E1 := (hk_EE 12 9)) (a := 11) (b := 12) F9 G rfl ⟨rfl, rfl⟩ hkc_7 hkd_7 (hk_growE (kd := 8) (ln := 0) (by decide +kernel) (by decide +kernel) (by decide +kernel)) qw_63 qw_67 qw_4 ⟨(Nat.le_of_ble_eq_true rfl), (Nat.le_of_ble_eq_true rfl)⟩ dX5_init_46 (fun H G => ?_)
              obtain ⟨S21, eS21, hsp⟩ := hk_l hsp
              rw [eS21] at G
              refine lv_dup hx hb dX5_init_49 rfl ?_
              obtain ⟨r22, er22, hsp⟩ := hk_b hsp
              refine hk_callIN (rest := [.ref (g.1 + 11), .int 5, .ref (g.1 + 4)]) F9 G (kX10_init l g (hk_EE 12 9) F (g.1 + 12) S21 11 r22 (by decide +kernel) er22) qin_RX5_30 ⟨rfl, rfl, (Nat.le_of_ble_eq_true rfl), (Nat.le_of_ble_eq_true rfl)⟩ hl.1 (Nat.le_of_ble_eq_true rfl) ⟨(Nat.le_of_ble_eq_true rfl), (Nat.le_of_ble_eq_true rfl)⟩ dX5_init_50 (fun H locs G => ?_)
              refine hk_aast (E1 := (hk_EE 12 10)) (a := 4) (r := 11) (j := 5) (t := 2) (ci := 7) (ln := 8) F9 G (by decide) (by decide +kernel) (by decide +kernel) (by decide) rfl rfl (by decide +kernel) (by decide) (by decide) (by decide) (hk_setE (by decide +kernel) (by decide +kernel)) dX5_init_53 (fun H locs G => ?_)
              refine lv_iinc (v := 6) (lv' := [(1, .int 6), (0, .ref (g.1 + 1))]) hx hb dX5_init_54 hl (k := 0) rfl (by decide) (by decide) rfl (fun ls hl => ?_)
              refine lv_goto (tgt := 35) hx hb dX5_init_57 (by decide) ?_
              refine lv_iload_n hx hb dX5_init_35 rfl (lv_at hl 0 rfl) ?_
              refine lv_bipush (v := 8) hx hb dX5_init_36 (by decide) ?_
              refine lv_icmp_ge (tgt := 60) hx hb dX5_init_38 (by decide) (fun c23 => ?_) (fun c23 => ?_)
              · exact absurd c23 (by decide)
              · refine lv_aload_n hx hb dX5_init_41 rfl (lv_at hl 1 rfl) ?_
                refine hk_getR (r := 4) F9 G (by decide +kernel) hkc_3 (k := 1) (by decide) qw_155 rfl (by decide +kernel) dX5_init_42 ?_
                refine lv_iload_n hx hb dX5_init_45 rfl (lv_at hl 0 rfl) ?_
                refine hk_new (E1 := (hk_EE 13 10)) (a := 12) (b := 13) F9 G rfl ⟨rfl, rfl⟩ hkc_7 hkd_7 (hk_growE (kd := 8) (ln := 0) (by decide +kernel) (by decide +kernel) (by decide +kernel)) qw_63 qw_67 qw_4 ⟨(Nat.le_of_ble_eq_true rfl), (Nat.le_of_ble_eq_true rfl)⟩ dX5_init_46 (fun H G => ?_)
                obtain ⟨S24, eS24, hsp⟩ := hk_l hsp
                rw [eS24] at G
                refine lv_dup hx hb dX5_init_49 rfl ?_
                obtain ⟨r25, er25, hsp⟩ := hk_b hsp
                refine hk_callIN (rest := [.ref (g.1 + 12), .int 6, .ref (g.1 + 4)]) F9 G (kX10_init l g (hk_EE 13 10) F (g.1 + 13) S24 12 r25 (by decide +kernel) er25) qin_RX5_30 ⟨rfl, rfl, (Nat.le_of_ble_eq_true rfl), (Nat.le_of_ble_eq_true rfl)⟩ hl.1 (Nat.le_of_ble_eq_true rfl) ⟨(Nat.le_of_ble_eq_true rfl), (Nat.le_of_ble_eq_true rfl)⟩ dX5_init_50 (fun H locs G => ?_)
                refine hk_aast (E1 := (hk_EE 13 11)) (a := 4) (r := 12) (j := 6) (t := 2) (ci := 7) (ln := 8) F9 G (by decide) (by decide +kernel) (by decide +kernel) (by decide) rfl rfl (by decide +kernel) (by decide) (by decide) (by decide) (hk_setE (by decide +kernel) (by decide +kernel)) dX5_init_53 (fun H locs G => ?_)
                refine lv_iinc (v := 7) (lv' := [(1, .int 7), (0, .ref (g.1 + 1))]) hx hb dX5_init_54 hl (k := 0) rfl (by decide) (by decide) rfl (fun ls hl => ?_)
                refine lv_goto (tgt := 35) hx hb dX5_init_57 (by decide) ?_
                refine lv_iload_n hx hb dX5_init_35 rfl (lv_at hl 0 rfl) ?_
                refine lv_bipush (v := 8) hx hb dX5_init_36 (by decide) ?_
                refine lv_icmp_ge (tgt := 60) hx hb dX5_init_38 (by decide) (fun c26 => ?_) (fun c26 => ?_)
                · exact absurd c26 (by decide)
                · refine lv_aload_n hx hb dX5_init_41 rfl (lv_at hl 1 rfl) ?_
                  refine hk_getR (r := 4) F9 G (by decide +kernel) hkc_3 (k := 1) (by decide) qw_155 rfl (by decide +kernel) dX5_init_42 ?_
                  refine lv_iload_n hx hb dX5_init_45 rfl (lv_at hl 0 rfl) ?_
                  refine hk_new (E1 := (hk_EE 14 11)) (a := 13) (b := 14) F9 G rfl ⟨rfl, rfl⟩ hkc_7 hkd_7 (hk_growE (kd := 8) (ln := 0) (by decide +kernel) (by decide +kernel) (by decide +kernel)) qw_63 qw_67 qw_4 ⟨(Nat.le_of_ble_eq_true rfl), (Nat.le_of_ble_eq_true rfl)⟩ dX5_init_46 (fun H G => ?_)
                  obtain ⟨S27, eS27, hsp⟩ := hk_l hsp
                  rw [eS27] at G
                  refine lv_dup hx hb dX5_init_49 rfl ?_
                  obtain ⟨r28, er28, hsp⟩ := hk_b hsp
                  refine hk_callIN (rest := [.ref (g.1 + 13), .int 7, .ref (g.1 + 4)]) F9 G (kX10_init l g (hk_EE 14 11) F (g.1 + 14) S27 13 r28 (by decide +kernel) er28) qin_RX5_30 ⟨rfl, rfl, (Nat.le_of_ble_eq_true rfl), (Nat.le_of_ble_eq_true rfl)⟩ hl.1 (Nat.le_of_ble_eq_true rfl) ⟨(Nat.le_of_ble_eq_true rfl), (Nat.le_of_ble_eq_true rfl)⟩ dX5_init_50 (fun H locs G => ?_)
                  refine hk_aast (E1 := (hk_EE 14 12)) (a := 4) (r := 13) (j := 7) (t := 2) (ci := 7) (ln := 8) F9 G (by decide) (by decide +kernel) (by decide +kernel) (by decide) rfl rfl (by decide +kernel) (by decide) (by decide) (by decide) (hk_setE (by decide +kernel) (by decide +kernel)) dX5_init_53 (fun H locs G => ?_)
                  refine lv_iinc (v := 8) (lv' := [(1, .int 8), (0, .ref (g.1 + 1))]) hx hb dX5_init_54 hl (k := 0) rfl (by decide) (by decide) rfl (fun ls hl => ?_)
                  refine lv_goto (tgt := 35) hx hb dX5_init_57 (by decide) ?_
                  refine lv_iload_n hx hb dX5_init_35 rfl (lv_at hl 0 rfl) ?_
                  refine lv_bipush (v := 8) hx hb dX5_init_36 (by decide) ?_
                  refine lv_icmp_ge (tgt := 60) hx hb dX5_init_38 (by decide) (fun c29 => ?_) (fun c29 => ?_)
                  · refine lv_iconst (v := 0) hx hb dX5_init_60 (by decide) ?_
                    refine lv_istore_n (lv' := [(1, .int 0), (0, .ref (g.1 + 1))]) hx hb dX5_init_61 rfl hl (by decide) rfl (fun ls hl => ?_)
                    refine lv_iload_n hx hb dX5_init_62 rfl (lv_at hl 0 rfl) ?_
                    refine lv_bipush (v := 6) hx hb dX5_init_63 (by decide) ?_
                    refine lv_icmp_ge (tgt := 87) hx hb dX5_init_65 (by decide) (fun c30 => ?_) (fun c30 => ?_)
                    · exact absurd c30 (by decide)
                    · refine lv_aload_n hx hb dX5_init_68 rfl (lv_at hl 1 rfl) ?_
                      refine hk_getR (r := 5) F9 G (by decide +kernel) hkc_3 (k := 3) (by decide) qw_158 rfl (by decide +kernel) dX5_init_69 ?_
                      refine lv_iload_n hx hb dX5_init_72 rfl (lv_at hl 0 rfl) ?_
                      refine hk_new (E1 := (hk_EE 15 12)) (a := 14) (b := 15) F9 G rfl ⟨rfl, rfl⟩ hkc_4 hkd_4 (hk_growE (kd := 5) (ln := 0) (by decide +kernel) (by decide +kernel) (by decide +kernel)) qw_65 qw_116 qw_5 ⟨(Nat.le_of_ble_eq_true rfl), (Nat.le_of_ble_eq_true rfl)⟩ dX5_init_73 (fun H G => ?_)
                      obtain ⟨S31, eS31, hsp⟩ := hk_l hsp
                      rw [eS31] at G
                      refine lv_dup hx hb dX5_init_76 rfl ?_
                      obtain ⟨r32, er32, hsp⟩ := hk_b hsp
                      refine hk_callIN (rest := [.ref (g.1 + 14), .int 0, .ref (g.1 + 5)]) F9 G (kX6_init l g (hk_EE 15 12) F (g.1 + 15) S31 14 r32 (by decide +kernel) er32) qin_RX5_31 ⟨rfl, rfl, (Nat.le_of_ble_eq_true rfl), (Nat.le_of_ble_eq_true rfl)⟩ hl.1 (Nat.le_of_ble_eq_true rfl) ⟨(Nat.le_of_ble_eq_true rfl), (Nat.le_of_ble_eq_true rfl)⟩ dX5_init_77 (fun H locs G => ?_)
                      refine hk_aast (E1 := (hk_EE 15 13)) (a := 5) (r := 14) (j := 0) (t := 1) (ci := 4) (ln := 6) F9 G (by decide) (by decide +kernel) (by decide +kernel) (by decide) rfl rfl (by decide +kernel) (by decide) (by decide) (by decide) (hk_setE (by decide +kernel) (by decide +kernel)) dX5_init_80 (fun H locs G => ?_)
                      refine lv_iinc (v := 1) (lv' := [(1, .int 1), (0, .ref (g.1 + 1))]) hx hb dX5_init_81 hl (k := 0) rfl (by decide) (by decide) rfl (fun ls hl => ?_)
                      refine lv_goto (tgt := 62) hx hb dX5_init_84 (by decide) ?_
                      refine lv_iload_n hx hb dX5_init_62 rfl (lv_at hl 0 rfl) ?_
                      refine lv_bipush (v := 6) hx hb dX5_init_63 (by decide) ?_
                      refine lv_icmp_ge (tgt := 87) hx hb dX5_init_65 (by decide) (fun c33 => ?_) (fun c33 => ?_)
                      · exact absurd c33 (by decide)
                      · refine lv_aload_n hx hb dX5_init_68 rfl (lv_at hl 1 rfl) ?_
                        refine hk_getR (r := 5) F9 G (by decide +kernel) hkc_3 (k := 3) (by decide) qw_158 rfl (by decide +kernel) dX5_init_69 ?_
                        refine lv_iload_n hx hb dX5_init_72 rfl (lv_at hl 0 rfl) ?_
                        refine hk_new (E1 := (hk_EE 16 13)) (a := 15) (b := 16) F9 G rfl ⟨rfl, rfl⟩ hkc_4 hkd_4 (hk_growE (kd := 5) (ln := 0) (by decide +kernel) (by decide +kernel) (by decide +kernel)) qw_65 qw_116 qw_5 ⟨(Nat.le_of_ble_eq_true rfl), (Nat.le_of_ble_eq_true rfl)⟩ dX5_init_73 (fun H G => ?_)
                        obtain ⟨S34, eS34, hsp⟩ := hk_l hsp
                        rw [eS34] at G
                        refine lv_dup hx hb dX5_init_76 rfl ?_
                        obtain ⟨r35, er35, hsp⟩ := hk_b hsp
                        refine hk_callIN (rest := [.ref (g.1 + 15), .int 1, .ref (g.1 + 5)]) F9 G (kX6_init l g (hk_EE 16 13) F (g.1 + 16) S34 15 r35 (by decide +kernel) er35) qin_RX5_31 ⟨rfl, rfl, (Nat.le_of_ble_eq_true rfl), (Nat.le_of_ble_eq_true rfl)⟩ hl.1 (Nat.le_of_ble_eq_true rfl) ⟨(Nat.le_of_ble_eq_true rfl), (Nat.le_of_ble_eq_true rfl)⟩ dX5_init_77 (fun H locs G => ?_)
                        refine hk_aast (E1 := (hk_EE 16 14)) (a := 5) (r := 15) (j := 1) (t := 1) (ci := 4) (ln := 6) F9 G (by decide) (by decide +kernel) (by decide +kernel) (by decide) rfl rfl (by decide +kernel) (by decide) (by decide) (by decide) (hk_setE (by decide +kernel) (by decide +kernel)) dX5_init_80 (fun H locs G => ?_)
                        refine lv_iinc (v := 2) (lv' := [(1, .int 2), (0, .ref (g.1 + 1))]) hx hb dX5_init_81 hl (k := 0) rfl (by decide) (by decide) rfl (fun ls hl => ?_)
                        refine lv_goto (tgt := 62) hx hb dX5_init_84 (by decide) ?_
                        refine lv_iload_n hx hb dX5_init_62 rfl (lv_at hl 0 rfl) ?_
                        refine lv_bipush (v := 6) hx hb dX5_init_63 (by decide) ?_
                        refine lv_icmp_ge (tgt := 87) hx hb dX5_init_65 (by decide) (fun c36 => ?_) (fun c36 => ?_)
                        · exact absurd c36 (by decide)
                        · refine lv_aload_n hx hb dX5_init_68 rfl (lv_at hl 1 rfl) ?_
                          refine hk_getR (r := 5) F9 G (by decide +kernel) hkc_3 (k := 3) (by decide) qw_158 rfl (by decide +kernel) dX5_init_69 ?_
                          refine lv_iload_n hx hb dX5_init_72 rfl (lv_at hl 0 rfl) ?_
                          refine hk_new (E1 := (hk_EE 17 14)) (a := 16) (b := 17) F9 G rfl ⟨rfl, rfl⟩ hkc_4 hkd_4 (hk_growE (kd := 5) (ln := 0) (by decide +kernel) (by decide +kernel) (by decide +kernel)) qw_65 qw_116 qw_5 ⟨(Nat.le_of_ble_eq_true rfl), (Nat.le_of_ble_eq_true rfl)⟩ dX5_init_73 (fun H G => ?_)
                          obtain ⟨S37, eS37, hsp⟩ := hk_l hsp
                          rw [eS37] at G
                          refine lv_dup hx hb dX5_init_76 rfl ?_
                          obtain ⟨r38, er38, hsp⟩ := hk_b hsp
                          refine hk_callIN (rest := [.ref (g.1 + 16), .int 2, .ref (g.1 + 5)]) F9 G (kX6_init l g (hk_EE 17 14) F (g.1 + 17) S37 16 r38 (by decide +kernel) er38) qin_RX5_31 ⟨rfl, rfl, (Nat.le_of_ble_eq_true rfl), (Nat.le_of_ble_eq_true rfl)⟩ hl.1 (Nat.le_of_ble_eq_true rfl) ⟨(Nat.le_of_ble_eq_true rfl), (Nat.le_of_ble_eq_true rfl)⟩ dX5_init_77 (fun H locs G => ?_)
                          refine hk_aast (E1 := (hk_EE 17 15)) (a := 5) (r := 16) (j := 2) (t := 1) (ci := 4) (ln := 6) F9 G (by decide) (by decide +kernel) (by decide +kernel) (by decide) rfl rfl (by decide +kernel) (by decide) (by decide) (by decide) (hk_setE (by decide +kernel) (by decide +kernel)) dX5_init_80 (fun H locs G => ?_)
                          refine lv_iinc (v := 3) (lv' := [(1, .int 3), (0, .ref (g.1 + 1))]) hx hb dX5_init_81 hl (k := 0) rfl (by decide) (by decide) rfl (fun ls hl => ?_)
                          refine lv_goto (tgt := 62) hx hb dX5_init_84 (by decide) ?_
                          refine lv_iload_n hx hb dX5_init_62 rfl (lv_at hl 0 rfl) ?_
                          refine lv_bipush (v := 6) hx hb dX5_init_63 (by decide) ?_
                          refine lv_icmp_ge (tgt := 87) hx hb dX5_init_65 (by decide) (fun c39 => ?_) (fun c39 => ?_)
                          · exact absurd c39 (by decide)
                          · refine lv_aload_n hx hb dX5_init_68 rfl (lv_at hl 1 rfl) ?_
                            refine hk_getR (r := 5) F9 G (by decide +kernel) hkc_3 (k := 3) (by decide) qw_158 rfl (by decide +kernel) dX5_init_69 ?_
                            refine lv_iload_n hx hb dX5_init_72 rfl (lv_at hl 0 rfl) ?_
                            refine hk_new (E1 := (hk_EE 18 15)) (a := 17) (b := 18) F9 G rfl ⟨rfl, rfl⟩ hkc_4 hkd_4 (hk_growE (kd := 5) (ln := 0) (by decide +kernel) (by decide +kernel) (by decide +kernel)) qw_65 qw_116 qw_5 ⟨(Nat.le_of_ble_eq_true rfl), (Nat.le_of_ble_eq_true rfl)⟩ dX5_init_73 (fun H G => ?_)
                            obtain ⟨S40, eS40, hsp⟩ := hk_l hsp
                            rw [eS40] at G
                            refine lv_dup hx hb dX5_init_76 rfl ?_
                            obtain ⟨r41, er41, hsp⟩ := hk_b hsp
                            refine hk_callIN (rest := [.ref (g.1 + 17), .int 3, .ref (g.1 + 5)]) F9 G (kX6_init l g (hk_EE 18 15) F (g.1 + 18) S40 17 r41 (by decide +kernel) er41) qin_RX5_31 ⟨rfl, rfl, (Nat.le_of_ble_eq_true rfl), (Nat.le_of_ble_eq_true rfl)⟩ hl.1 (Nat.le_of_ble_eq_true rfl) ⟨(Nat.le_of_ble_eq_true rfl), (Nat.le_of_ble_eq_true rfl)⟩ dX5_init_77 (fun H locs G => ?_)
                            refine hk_aast (E1 := (hk_EE 18 16)) (a := 5) (r := 17) (j := 3) (t := 1) (ci := 4) (ln := 6) F9 G (by decide) (by decide +kernel) (by decide +kernel) (by decide) rfl rfl (by decide +kernel) (by decide) (by decide) (by decide) (hk_setE (by decide +kernel) (by decide +kernel)) dX5_init_80 (fun H locs G => ?_)
                            refine lv_iinc (v := 4) (lv' := [(1, .int 4), (0, .ref (g.1 + 1))]) hx hb dX5_init_81 hl (k := 0) rfl (by decide) (by decide) rfl (fun ls hl => ?_)
                            refine lv_goto (tgt := 62) hx hb dX5_init_84 (by decide) ?_
                            refine lv_iload_n hx hb dX5_init_62 rfl (lv_at hl 0 rfl) ?_
                            refine lv_bipush (v := 6) hx hb dX5_init_63 (by decide) ?_
                            refine lv_icmp_ge (tgt := 87) hx hb dX5_init_65 (by decide) (fun c42 => ?_) (fun c42 => ?_)
                            · exact absurd c42 (by decide)
                            · refine lv_aload_n hx hb dX5_init_68 rfl (lv_at hl 1 rfl) ?_
                              refine hk_getR (r := 5) F9 G (by decide +kernel) hkc_3 (k := 3) (by decide) qw_158 rfl (by decide +kernel) dX5_init_69 ?_
                              refine lv_iload_n hx hb dX5_init_72 rfl (lv_at hl 0 rfl) ?_
                              refine hk_new (E1 := (hk_EE 19 16)) (a := 18) (b := 19) F9 G rfl ⟨rfl, rfl⟩ hkc_4 hkd_4 (hk_growE (kd := 5) (ln := 0) (by decide +kernel) (by decide +kernel) (by decide +kernel)) qw_65 qw_116 qw_5 ⟨(Nat.le_of_ble_eq_true rfl), (Nat.le_of_ble_eq_true rfl)⟩ dX5_init_73 (fun H G => ?_)
                              obtain ⟨S43, eS43, hsp⟩ := hk_l hsp
                              rw [eS43] at G
                              refine lv_dup hx hb dX5_init_76 rfl ?_
                              obtain ⟨r44, er44, hsp⟩ := hk_b hsp
                              refine hk_callIN (rest := [.ref (g.1 + 18), .int 4, .ref (g.1 + 5)]) F9 G (kX6_init l g (hk_EE 19 16) F (g.1 + 19) S43 18 r44 (by decide +kernel) er44) qin_RX5_31 ⟨rfl, rfl, (Nat.le_of_ble_eq_true rfl), (Nat.le_of_ble_eq_true rfl)⟩ hl.1 (Nat.le_of_ble_eq_true rfl) ⟨(Nat.le_of_ble_eq_true rfl), (Nat.le_of_ble_eq_true rfl)⟩ dX5_init_77 (fun H locs G => ?_)
                              refine hk_aast (E1 := (hk_EE 19 17)) (a := 5) (r := 18) (j := 4) (t := 1) (ci := 4) (ln := 6) F9 G (by decide) (by decide +kernel) (by decide +kernel) (by decide) rfl rfl (by decide +kernel) (by decide) (by decide) (by decide) (hk_setE (by decide +kernel) (by decide +kernel)) dX5_init_80 (fun H locs G => ?_)
                              refine lv_iinc (v := 5) (lv' := [(1, .int 5), (0, .ref (g.1 + 1))]) hx hb dX5_init_81 hl (k := 0) rfl (by decide) (by decide) rfl (fun ls hl => ?_)
                              refine lv_goto (tgt := 62) hx hb dX5_init_84 (by decide) ?_
                              refine lv_iload_n hx hb dX5_init_62 rfl (lv_at hl 0 rfl) ?_
                              refine lv_bipush (v := 6) hx hb dX5_init_63 (by decide) ?_
                              refine lv_icmp_ge (tgt := 87) hx hb dX5_init_65 (by decide) (fun c45 => ?_) (fun c45 => ?_)
                              · exact absurd c45 (by decide)
                              · refine lv_aload_n hx hb dX5_init_68 rfl (lv_at hl 1 rfl) ?_
                                refine hk_getR (r := 5) F9 G (by decide +kernel) hkc_3 (k := 3) (by decide) qw_158 rfl (by decide +kernel) dX5_init_69 ?_
                                refine lv_iload_n hx hb dX5_init_72 rfl (lv_at hl 0 rfl) ?_
                                refine hk_new (E1 := (hk_EE 20 17)) (a := 19) (b := 20) F9 G rfl ⟨rfl, rfl⟩ hkc_4 hkd_4 (hk_growE (kd := 5) (ln := 0) (by decide +kernel) (by decide +kernel) (by decide +kernel)) qw_65 qw_116 qw_5 ⟨(Nat.le_of_ble_eq_true rfl), (Nat.le_of_ble_eq_true rfl)⟩ dX5_init_73 (fun H G => ?_)
                                obtain ⟨S46, eS46, hsp⟩ := hk_l hsp
                                rw [eS46] at G
                                refine lv_dup hx hb dX5_init_76 rfl ?_
                                obtain ⟨r47, er47, hsp⟩ := hk_b hsp
                                refine hk_callIN (rest := [.ref (g.1 + 19), .int 5, .ref (g.1 + 5)]) F9 G (kX6_init l g (hk_EE 20 17) F (g.1 + 20) S46 19 r47 (by decide +kernel) er47) qin_RX5_31 ⟨rfl, rfl, (Nat.le_of_ble_eq_true rfl), (Nat.le_of_ble_eq_true rfl)⟩ hl.1 (Nat.le_of_ble_eq_true rfl) ⟨(Nat.le_of_ble_eq_true rfl), (Nat.le_of_ble_eq_true rfl)⟩ dX5_init_77 (fun H locs G => ?_)
                                refine hk_aast (E1 := (hk_EE 20 18)) (a := 5) (r := 19) (j := 5) (t := 1) (ci := 4) (ln := 6) F9 G (by decide) (by decide +kernel) (by decide +kernel) (by decide) rfl rfl (by decide +kernel) (by decide) (by decide) (by decide) (hk_setE (by decide +kernel) (by decide +kernel)) dX5_init_80 (fun H locs G => ?_)
                                refine lv_iinc (v := 6) (lv' := [(1, .int 6), (0, .ref (g.1 + 1))]) hx hb dX5_init_81 hl (k := 0) rfl (by decide) (by decide) rfl (fun ls hl => ?_)
                                refine lv_goto (tgt := 62) hx hb dX5_init_84 (by decide) ?_
                                refine lv_iload_n hx hb dX5_init_62 rfl (lv_at hl 0 rfl) ?_
                                refine lv_bipush (v := 6) hx hb dX5_init_63 (by decide) ?_
                                refine lv_icmp_ge (tgt := 87) hx hb dX5_init_65 (by decide) (fun c48 => ?_) (fun c48 => ?_)
                                · refine lv_aload_n hx hb dX5_init_87 rfl (lv_at hl 1 rfl) ?_
                                  obtain ⟨r49, er49, hsp⟩ := hk_b hsp
                                  refine hk_callVv (As := []) (rest := []) F9 G (by decide +kernel) hkc_3 rfl (kX5_clear l g (hk_EE 20 18) F (g.1 + 20) r47 1 r49 (by decide +kernel) er49) qv_RX5_32 ⟨rfl, rfl, (Nat.le_of_ble_eq_true rfl), (Nat.le_of_ble_eq_true rfl)⟩ rfl hl.1 rfl (Nat.le_of_ble_eq_true rfl) ⟨(Nat.le_of_ble_eq_true rfl), (Nat.le_of_ble_eq_true rfl)⟩ dX5_init_88 (fun H locs G => ?_)
                                  obtain rfl := hk_s hsp
                                  exact W.vret hx hb hr (fun t ht hW => hk_end G ht hW) G.2.1.2.2 dX5_init_91
                                · exact absurd c48 (by decide)
                  · exact absurd c29 (by decide)
def mX1_init_21 (F : Nat) (S : hk_S) : Option (hk_S) :=
hk_let (va_up S 22 (fun _ => 0)) (fun S1 => some (S1))
set_option maxHeartbeats 4000000 in
set_option maxRecDepth 100000 in
theorem kX1_init_21 (l : Launch) (g : hk_G) (F : Nat) (S : hk_S) (o : hk_S) (hsp : mX1_init_21 F S = some o) : Met l yX1_init (hk_ws yX1_init cX1_init 1 (Option.none : Option Jvm.ClassFile.FieldType)) ({ frames := 1, cells := 1, slots := 3, locals := 12 }) (hk_Pc g (hk_EE 22 19) S (g.1 + 22) [.ref (g.1 + 21)]) (hk_Q g (hk_EE 23 20) o (g.1 + 23) none) 1 3 (hk_A g) := by
  refine Met.ofW (cc := cX1_init) (maxL := 1) (ret := (Option.none : Option Jvm.ClassFile.FieldType)) (by decide) rfl ?_
  intro p e s m args below meth c s₁ B hml hv
  obtain ⟨rfl, G⟩ := hk_begin hv
  have F9 : CallFix p m c cX1_init 1 s [.ref (g.1 + 21)].toArray hk_W RX1 := ⟨B.exec, B.bytes, hml, findClass_of_methodNamed B.named, fun w h => atoms_spec (ws := hk_ws yX1_init cX1_init 1 (Option.none : Option Jvm.ClassFile.FieldType)) B.pre w (hk_in h)⟩
  have hin : meth.name = "<init>" := (name_of_methodNamed B.named B.method).1
  have hx := B.exec
  have hb := B.bytes
  have hr := B.returns
  have hlocks := B.notSynchronized
  have hl := lv_entry ([.ref (g.1 + 21)]) (n := 1) (Nat.le_of_ble_eq_true rfl)
  rw [lg_entry_eq]
  generalize (lg_sl ([.ref (g.1 + 21)]) ++ List.replicate (1 - (lg_sl ([.ref (g.1 + 21)])).length) Slot.unset).toArray = ls at hl ⊢
  have hl : lv_has ls 1 [(0, .ref (g.1 + 21))] := hl
  unfold mX1_init_21 at hsp
  have G : hk_GG g (hk_EE 22 19) S (g.1 + 22) s s.heap [] := G
  refine lv_aload_n hx hb dX1_init_0 rfl (lv_at hl 0 rfl) ?_
  refine hk_obj F9 qw_40 qw_27 qw_28 hl.1 ⟨(Nat.le_of_ble_eq_true rfl), (Nat.le_of_ble_eq_true rfl)⟩ dX1_init_1 ?_
  refine lv_aload_n hx hb dX1_init_4 rfl (lv_at hl 0 rfl) ?_
  refine lv_iconst (v := 3) hx hb dX1_init_5 (by decide) ?_
  refine hk_newA (E1 := (hk_EE 23 19)) (a := 22) (b := 23) (ft := .int) (t := 2) (ln := 3) (kd := 13) F9 G rfl ⟨rfl, rfl⟩ rfl (fun _ h => nomatch h) rfl (fun I _ => hk_cell_i (t := 2) (by decide)) rfl (hk_growE (kd := 13) (ln := 3) (by decide +kernel) (by decide +kernel) (by decide +kernel)) qw_62 (by decide) (by decide) (by decide) ⟨(Nat.le_of_ble_eq_true rfl), (Nat.le_of_ble_eq_true rfl)⟩ dX1_init_6 (fun H G => ?_)
  obtain ⟨S1, eS1, hsp⟩ := hk_l hsp
  rw [eS1] at G
  refine hk_putR (E1 := (hk_EE 23 20)) (a := 21) (r := 22) (k := 4) F9 G (by decide +kernel) hkc_0 (by decide) qw_50 rfl rfl hin rfl (tyX1_ok 4 (by decide)) (fun _ => rfl) (fun _ => rfl) (hk_setE (by decide +kernel) (by decide +kernel)) dX1_init_8 (fun H locs G => ?_)
  obtain rfl := hk_s hsp
  exact W.vret hx hb hr (fun t ht hW => hk_end G ht hW) G.2.1.2.2 dX1_init_11
def mX5_init_20 (F : Nat) (S : hk_S) : Option (hk_S) :=
hk_let (va_up S 21 (hk_i0 0)) (fun S1 => (mX1_init_21 F S1).bind (fun r2 => hk_let (va_up r2 23 (fun _ => 0)) (fun S3 => hk_let (va_up S3 24 (fun _ => 0)) (fun S4 => hk_let (va_up S4 25 (hk_i0 7)) (fun S6 => (mX10_init (hk_EE 26 23) F S6 25).bind (fun r7 => hk_let (va_up r7 26 (hk_i0 7)) (fun S9 => (mX10_init (hk_EE 27 24) F S9 26).bind (fun r10 => hk_let (va_up r10 27 (hk_i0 7)) (fun S12 => (mX10_init (hk_EE 28 25) F S12 27).bind (fun r13 => hk_let (va_up r13 28 (hk_i0 7)) (fun S15 => (mX10_init (hk_EE 29 26) F S15 28).bind (fun r16 => hk_let (va_up r16 29 (hk_i0 7)) (fun S18 => (mX10_init (hk_EE 30 27) F S18 29).bind (fun r19 => hk_let (va_up r19 30 (hk_i0 7)) (fun S21 => (mX10_init (hk_EE 31 28) F S21 30).bind (fun r22 => hk_let (va_up r22 31 (hk_i0 7)) (fun S24 => (mX10_init (hk_EE 32 29) F S24 31).bind (fun r25 => hk_let (va_up r25 32 (hk_i0 7)) (fun S27 => (mX10_init (hk_EE 33 30) F S27 32).bind (fun r28 => hk_let (va_up r28 33 (hk_i0 4)) (fun S31 => (mX6_init (hk_EE 34 31) F S31 33).bind (fun r32 => hk_let (va_up r32 34 (hk_i0 4)) (fun S34 => (mX6_init (hk_EE 35 32) F S34 34).bind (fun r35 => hk_let (va_up r35 35 (hk_i0 4)) (fun S37 => (mX6_init (hk_EE 36 33) F S37 35).bind (fun r38 => hk_let (va_up r38 36 (hk_i0 4)) (fun S40 => (mX6_init (hk_EE 37 34) F S40 36).bind (fun r41 => hk_let (va_up r41 37 (hk_i0 4)) (fun S43 => (mX6_init (hk_EE 38 35) F S43 37).bind (fun r44 => hk_let (va_up r44 38 (hk_i0 4)) (fun S46 => (mX6_init (hk_EE 39 36) F S46 38).bind (fun r47 => (mX5_clear (hk_EE 39 37) F r47 20).bind (fun r49 => some (r49))))))))))))))))))))))))))))))))))
set_option maxHeartbeats 4000000 in
set_option maxRecDepth 100000 in
theorem kX5_init_20 (l : Launch) (g : hk_G) (F : Nat) (S : hk_S) (o : hk_S) (hsp : mX5_init_20 F S = some o) : Met l yX5_init (hk_ws yX5_init cX5_init 2 (Option.none : Option Jvm.ClassFile.FieldType)) ({ frames := 3, cells := 18, slots := 120, locals := 62 }) (hk_Pc g (hk_EE 21 19) S (g.1 + 21) [.ref (g.1 + 20)]) (hk_Q g (hk_EE 39 37) o (g.1 + 39) none) 18 120 (hk_A g) := by
  refine Met.ofW (cc := cX5_init) (maxL := 2) (ret := (Option.none : Option Jvm.ClassFile.FieldType)) (by decide) rfl ?_
  intro p e s m args below meth c s₁ B hml hv
  obtain ⟨rfl, G⟩ := hk_begin hv
  have F9 : CallFix p m c cX5_init 2 s [.ref (g.1 + 20)].toArray hk_W RX5 := ⟨B.exec, B.bytes, hml, findClass_of_methodNamed B.named, fun w h => atoms_spec (ws := hk_ws yX5_init cX5_init 2 (Option.none : Option Jvm.ClassFile.FieldType)) B.pre w (hk_in h)⟩
  have hin : meth.name = "<init>" := (name_of_methodNamed B.named B.method).1
  have hx := B.exec
  have hb := B.bytes
  have hr := B.returns
  have hlocks := B.notSynchronized
  have hl := lv_entry ([.ref (g.1 + 20)]) (n := 2) (Nat.le_of_ble_eq_true rfl)
  rw [lg_entry_eq]
  generalize (lg_sl ([.ref (g.1 + 20)]) ++ List.replicate (2 - (lg_sl ([.ref (g.1 + 20)])).length) Slot.unset).toArray = ls at hl ⊢
  have hl : lv_has ls 2 [(0, .ref (g.1 + 20))] := hl
  unfold mX5_init_20 at hsp
  have G : hk_GG g (hk_EE 21 19) S (g.1 + 21) s s.heap [] := G
  refine lv_aload_n hx hb dX5_init_0 rfl (lv_at hl 0 rfl) ?_
  refine hk_obj F9 qw_34 qw_27 qw_28 hl.1 ⟨(Nat.le_of_ble_eq_true rfl), (Nat.le_of_ble_eq_true rfl)⟩ dX5_init_1 ?_
  refine lv_aload_n hx hb dX5_init_4 rfl (lv_at hl 0 rfl) ?_
  refine hk_new (E1 := (hk_EE 22 19)) (a := 21) (b := 22) F9 G rfl ⟨rfl, rfl⟩ hkc_0 hkd_0 (hk_growE (kd := 1) (ln := 0) (by decide +kernel) (by decide +kernel) (by decide +kernel)) qw_35 qw_36 qw_3 ⟨(Nat.le_of_ble_eq_true rfl), (Nat.le_of_ble_eq_true rfl)⟩ dX5_init_5 (fun H G => ?_)
  obtain ⟨S1, eS1, hsp⟩ := hk_l hsp
  rw [eS1] at G
  refine lv_dup hx hb dX5_init_8 rfl ?_
  obtain ⟨r2, er2, hsp⟩ := hk_b hsp
  refine hk_callIN (rest := [.ref (g.1 + 21), .ref (g.1 + 20)]) F9 G (kX1_init_21 l g F S1 r2 er2) qin_RX5_11 ⟨rfl, rfl, (Nat.le_of_ble_eq_true rfl), (Nat.le_of_ble_eq_true rfl)⟩ hl.1 (Nat.le_of_ble_eq_true rfl) ⟨(Nat.le_of_ble_eq_true rfl), (Nat.le_of_ble_eq_true rfl)⟩ dX5_init_9 (fun H locs G => ?_)
  refine hk_putR (E1 := (hk_EE 23 21)) (a := 20) (r := 21) (k := 0) F9 G (by decide +kernel) hkc_3 (by decide) qw_153 rfl rfl hin rfl (tyX5_ok 0 (by decide)) (fun _ => rfl) (fun _ => rfl) (hk_setE (by decide +kernel) (by decide +kernel)) dX5_init_12 (fun H locs G => ?_)
  refine lv_aload_n hx hb dX5_init_15 rfl (lv_at hl 0 rfl) ?_
  refine lv_bipush (v := 8) hx hb dX5_init_16 (by decide) ?_
  refine hk_newQ (E1 := (hk_EE 24 21)) (a := 23) (b := 24) (t := 2) (ln := 8) F9 G rfl ⟨rfl, rfl⟩ (by decide) rfl G.2.2.1.2.2.2.2 (hk_growE (kd := 16) (ln := 8) (by decide +kernel) (by decide +kernel) (by decide +kernel)) qw_63 (by decide) (by decide) (by decide) ⟨(Nat.le_of_ble_eq_true rfl), (Nat.le_of_ble_eq_true rfl)⟩ dX5_init_18 (fun H G => ?_)
  obtain ⟨S3, eS3, hsp⟩ := hk_l hsp
  rw [eS3] at G
  refine hk_putR (E1 := (hk_EE 24 22)) (a := 20) (r := 23) (k := 1) F9 G (by decide +kernel) hkc_3 (by decide) qw_155 rfl rfl hin rfl (tyX5_ok 1 (by decide)) (fun _ => rfl) (fun _ => rfl) (hk_setE (by decide +kernel) (by decide +kernel)) dX5_init_21 (fun H locs G => ?_)
  refine lv_aload_n hx hb dX5_init_24 rfl (lv_at hl 0 rfl) ?_
  refine lv_bipush (v := 6) hx hb dX5_init_25 (by decide) ?_
  refine hk_newQ (E1 := (hk_EE 25 22)) (a := 24) (b := 25) (t := 1) (ln := 6) F9 G rfl ⟨rfl, rfl⟩ (by decide) rfl G.2.2.1.2.2.2.1 (hk_growE (kd := 15) (ln := 6) (by decide +kernel) (by decide +kernel) (by decide +kernel)) qw_65 (by decide) (by decide) (by decide) ⟨(Nat.le_of_ble_eq_true rfl), (Nat.le_of_ble_eq_true rfl)⟩ dX5_init_27 (fun H G => ?_)
  obtain ⟨S4, eS4, hsp⟩ := hk_l hsp
  rw [eS4] at G
  refine hk_putR (E1 := (hk_EE 25 23)) (a := 20) (r := 24) (k := 3) F9 G (by decide +kernel) hkc_3 (by decide) qw_158 rfl rfl hin rfl (tyX5_ok 3 (by decide)) (fun _ => rfl) (fun _ => rfl) (hk_setE (by decide +kernel) (by decide +kernel)) dX5_init_30 (fun H locs G => ?_)
  refine lv_iconst (v := 0) hx hb dX5_init_33 (by decide) ?_
  refine lv_istore_n (lv' := [(1, .int 0), (0, .ref (g.1 + 20))]) hx hb dX5_init_34 rfl hl (by decide) rfl (fun ls hl => ?_)
  refine lv_iload_n hx hb dX5_init_35 rfl (lv_at hl 0 rfl) ?_
  refine lv_bipush (v := 8) hx hb dX5_init_36 (by decide) ?_
  refine lv_icmp_ge (tgt := 60) hx hb dX5_init_38 (by decide) (fun c5 => ?_) (fun c5 => ?_)
  · exact absurd c5 (by decide)
  · refine lv_aload_n hx hb dX5_init_41 rfl (lv_at hl 1 rfl) ?_
    refine hk_getR (r := 23) F9 G (by decide +kernel) hkc_3 (k := 1) (by decide) qw_155 rfl (by decide +kernel) dX5_init_42 ?_
    refine lv_iload_n hx hb dX5_init_45 rfl (lv_at hl 0 rfl) ?_
    refine hk_new (E1 := (hk_EE 26 23)) (a := 25) (b := 26) F9 G rfl ⟨rfl, rfl⟩ hkc_7 hkd_7 (hk_growE (kd := 8) (ln := 0) (by decide +kernel) (by decide +kernel) (by decide +kernel)) qw_63 qw_67 qw_4 ⟨(Nat.le_of_ble_eq_true rfl), (Nat.le_of_ble_eq_true rfl)⟩ dX5_init_46 (fun H G => ?_)
    obtain ⟨S6, eS6, hsp⟩ := hk_l hsp
    rw [eS6] at G
    refine lv_dup hx hb dX5_init_49 rfl ?_
    obtain ⟨r7, er7, hsp⟩ := hk_b hsp
    refine hk_callIN (rest := [.ref (g.1 + 25), .int 0, .ref (g.1 + 23)]) F9 G (kX10_init l g (hk_EE 26 23) F (g.1 + 26) S6 25 r7 (by decide +kernel) er7) qin_RX5_30 ⟨rfl, rfl, (Nat.le_of_ble_eq_true rfl), (Nat.le_of_ble_eq_true rfl)⟩ hl.1 (Nat.le_of_ble_eq_true rfl) ⟨(Nat.le_of_ble_eq_true rfl), (Nat.le_of_ble_eq_true rfl)⟩ dX5_init_50 (fun H locs G => ?_)
    refine hk_aast (E1 := (hk_EE 26 24)) (a := 23) (r := 25) (j := 0) (t := 2) (ci := 7) (ln := 8) F9 G (by decide) (by decide +kernel) (by decide +kernel) (by decide) rfl rfl (by decide +kernel) (by decide) (by decide) (by decide) (hk_setE (by decide +kernel) (by decide +kernel)) dX5_init_53 (fun H locs G => ?_)
    refine lv_iinc (v := 1) (lv' := [(1, .int 1), (0, .ref (g.1 + 20))]) hx hb dX5_init_54 hl (k := 0) rfl (by decide) (by decide) rfl (fun ls hl => ?_)
    refine lv_goto (tgt := 35) hx hb dX5_init_57 (by decide) ?_
    refine lv_iload_n hx hb dX5_init_35 rfl (lv_at hl 0 rfl) ?_
    refine lv_bipush (v := 8) hx hb dX5_init_36 (by decide) ?_
    refine lv_icmp_ge (tgt := 60) hx hb dX5_init_38 (by decide) (fun c8 => ?_) (fun c8 => ?_)
    · exact absurd c8 (by decide)
    · refine lv_aload_n hx hb dX5_init_41 rfl (lv_at hl 1 rfl) ?_
      refine hk_getR (r := 23) F9 G (by decide +kernel) hkc_3 (k := 1) (by decide) qw_155 rfl (by decide +kernel) dX5_init_42 ?_
      refine lv_iload_n hx hb dX5_init_45 rfl (lv_at hl 0 rfl) ?_
      refine hk_new (E1 := (hk_EE 27 24)) (a := 26) (b := 27) F9 G rfl ⟨rfl, rfl⟩ hkc_7 hkd_7 (hk_growE (kd := 8) (ln := 0) (by decide +kernel) (by decide +kernel) (by decide +kernel)) qw_63 qw_67 qw_4 ⟨(Nat.le_of_ble_eq_true rfl), (Nat.le_of_ble_eq_true rfl)⟩ dX5_init_46 (fun H G => ?_)
      obtain ⟨S9, eS9, hsp⟩ := hk_l hsp
      rw [eS9] at G
      refine lv_dup hx hb dX5_init_49 rfl ?_
      obtain ⟨r10, er10, hsp⟩ := hk_b hsp
      refine hk_callIN (rest := [.ref (g.1 + 26), .int 1, .ref (g.1 + 23)]) F9 G (kX10_init l g (hk_EE 27 24) F (g.1 + 27) S9 26 r10 (by decide +kernel) er10) qin_RX5_30 ⟨rfl, rfl, (Nat.le_of_ble_eq_true rfl), (Nat.le_of_ble_eq_true rfl)⟩ hl.1 (Nat.le_of_ble_eq_true rfl) ⟨(Nat.le_of_ble_eq_true rfl), (Nat.le_of_ble_eq_true rfl)⟩ dX5_init_50 (fun H locs G => ?_)
      refine hk_aast (E1 := (hk_EE 27 25)) (a := 23) (r := 26) (j := 1) (t := 2) (ci := 7) (ln := 8) F9 G (by decide) (by decide +kernel) (by decide +kernel) (by decide) rfl rfl (by decide +kernel) (by decide) (by decide) (by decide) (hk_setE (by decide +kernel) (by decide +kernel)) dX5_init_53 (fun H locs G => ?_)
      refine lv_iinc (v := 2) (lv' := [(1, .int 2), (0, .ref (g.1 + 20))]) hx hb dX5_init_54 hl (k := 0) rfl (by decide) (by decide) rfl (fun ls hl => ?_)
      refine lv_goto (tgt := 35) hx hb dX5_init_57 (by decide) ?_
      refine lv_iload_n hx hb dX5_init_35 rfl (lv_at hl 0 rfl) ?_
      refine lv_bipush (v := 8) hx hb dX5_init_36 (by decide) ?_
      refine lv_icmp_ge (tgt := 60) hx hb dX5_init_38 (by decide) (fun c11 => ?_) (fun c11 => ?_)
      · exact absurd c11 (by decide)
      · refine lv_aload_n hx hb dX5_init_41 rfl (lv_at hl 1 rfl) ?_
        refine hk_getR (r := 23) F9 G (by decide +kernel) hkc_3 (k := 1) (by decide) qw_155 rfl (by decide +kernel) dX5_init_42 ?_
        refine lv_iload_n hx hb dX5_init_45 rfl (lv_at hl 0 rfl) ?_
        refine hk_new (E1 := (hk_EE 28 25)) (a := 27) (b := 28) F9 G rfl ⟨rfl, rfl⟩ hkc_7 hkd_7 (hk_growE (kd := 8) (ln := 0) (by decide +kernel) (by decide +kernel) (by decide +kernel)) qw_63 qw_67 qw_4 ⟨(Nat.le_of_ble_eq_true rfl), (Nat.le_of_ble_eq_true rfl)⟩ dX5_init_46 (fun H G => ?_)
        obtain ⟨S12, eS12, hsp⟩ := hk_l hsp
        rw [eS12] at G
        refine lv_dup hx hb dX5_init_49 rfl ?_
        obtain ⟨r13, er13, hsp⟩ := hk_b hsp
        refine hk_callIN (rest := [.ref (g.1 + 27), .int 2, .ref (g.1 + 23)]) F9 G (kX10_init l g (hk_EE 28 25) F (g.1 + 28) S12 27 r13 (by decide +kernel) er13) qin_RX5_30 ⟨rfl, rfl, (Nat.le_of_ble_eq_true rfl), (Nat.le_of_ble_eq_true rfl)⟩ hl.1 (Nat.le_of_ble_eq_true rfl) ⟨(Nat.le_of_ble_eq_true rfl), (Nat.le_of_ble_eq_true rfl)⟩ dX5_init_50 (fun H locs G => ?_)
        refine hk_aast (E1 := (hk_EE 28 26)) (a := 23) (r := 27) (j := 2) (t := 2) (ci := 7) (ln := 8) F9 G (by decide) (by decide +kernel) (by decide +kernel) (by decide) rfl rfl (by decide +kernel) (by decide) (by decide) (by decide) (hk_setE (by decide +kernel) (by decide +kernel)) dX5_init_53 (fun H locs G => ?_)
        refine lv_iinc (v := 3) (lv' := [(1, .int 3), (0, .ref (g.1 + 20))]) hx hb dX5_init_54 hl (k := 0) rfl (by decide) (by decide) rfl (fun ls hl => ?_)
        refine lv_goto (tgt := 35) hx hb dX5_init_57 (by decide) ?_
        refine lv_iload_n hx hb dX5_init_35 rfl (lv_at hl 0 rfl) ?_
        refine lv_bipush (v := 8) hx hb dX5_init_36 (by decide) ?_
        refine lv_icmp_ge (tgt := 60) hx hb dX5_init_38 (by decide) (fun c14 => ?_) (fun c14 => ?_)
        · exact absurd c14 (by decide)
        · refine lv_aload_n hx hb dX5_init_41 rfl (lv_at hl 1 rfl) ?_
          refine hk_getR (r := 23) F9 G (by decide +kernel) hkc_3 (k := 1) (by decide) qw_155 rfl (by decide +kernel) dX5_init_42 ?_
          refine lv_iload_n hx hb dX5_init_45 rfl (lv_at hl 0 rfl) ?_
          refine hk_new (E1 := (hk_EE 29 26)) (a := 28) (b := 29) F9 G rfl ⟨rfl, rfl⟩ hkc_7 hkd_7 (hk_growE (kd := 8) (ln := 0) (by decide +kernel) (by decide +kernel) (by decide +kernel)) qw_63 qw_67 qw_4 ⟨(Nat.le_of_ble_eq_true rfl), (Nat.le_of_ble_eq_true rfl)⟩ dX5_init_46 (fun H G => ?_)
          obtain ⟨S15, eS15, hsp⟩ := hk_l hsp
          rw [eS15] at G
          refine lv_dup hx hb dX5_init_49 rfl ?_
          obtain ⟨r16, er16, hsp⟩ := hk_b hsp
          refine hk_callIN (rest := [.ref (g.1 + 28), .int 3, .ref (g.1 + 23)]) F9 G (kX10_init l g (hk_EE 29 26) F (g.1 + 29) S15 28 r16 (by decide +kernel) er16) qin_RX5_30 ⟨rfl, rfl, (Nat.le_of_ble_eq_true rfl), (Nat.le_of_ble_eq_true rfl)⟩ hl.1 (Nat.le_of_ble_eq_true rfl) ⟨(Nat.le_of_ble_eq_true rfl), (Nat.le_of_ble_eq_true rfl)⟩ dX5_init_50 (fun H locs G => ?_)
          refine hk_aast (E1 := (hk_EE 29 27)) (a := 23) (r := 28) (j := 3) (t := 2) (ci := 7) (ln := 8) F9 G (by decide) (by decide +kernel) (by decide +kernel) (by decide) rfl rfl (by decide +kernel) (by decide) (by decide) (by decide) (hk_setE (by decide +kernel) (by decide +kernel)) dX5_init_53 (fun H locs G => ?_)
          refine lv_iinc (v := 4) (lv' := [(1, .int 4), (0, .ref (g.1 + 20))]) hx hb dX5_init_54 hl (k := 0) rfl (by decide) (by decide) rfl (fun ls hl => ?_)
          refine lv_goto (tgt := 35) hx hb dX5_init_57 (by decide) ?_
          refine lv_iload_n hx hb dX5_init_35 rfl (lv_at hl 0 rfl) ?_
          refine lv_bipush (v := 8) hx hb dX5_init_36 (by decide) ?_
          refine lv_icmp_ge (tgt := 60) hx hb dX5_init_38 (by decide) (fun c17 => ?_) (fun c17 => ?_)
          · exact absurd c17 (by decide)
          · refine lv_aload_n hx hb dX5_init_41 rfl (lv_at hl 1 rfl) ?_
            refine hk_getR (r := 23) F9 G (by decide +kernel) hkc_3 (k := 1) (by decide) qw_155 rfl (by decide +kernel) dX5_init_42 ?_
            refine lv_iload_n hx hb dX5_init_45 rfl (lv_at hl 0 rfl) ?_
            refine hk_new (E1 := (hk_EE 30 27)) (a := 29) (b := 30) F9 G rfl ⟨rfl, rfl⟩ hkc_7 hkd_7 (hk_growE (kd := 8) (ln := 0) (by decide +kernel) (by decide +kernel) (by decide +kernel)) qw_63 qw_67 qw_4 ⟨(Nat.le_of_ble_eq_true rfl), (Nat.le_of_ble_eq_true rfl)⟩ dX5_init_46 (fun H G => ?_)
            obtain ⟨S18, eS18, hsp⟩ := hk_l hsp
            rw [eS18] at G
            refine lv_dup hx hb dX5_init_49 rfl ?_
            obtain ⟨r19, er19, hsp⟩ := hk_b hsp
            refine hk_callIN (rest := [.ref (g.1 + 29), .int 4, .ref (g.1 + 23)]) F9 G (kX10_init l g (hk_EE 30 27) F (g.1 + 30) S18 29 r19 (by decide +kernel) er19) qin_RX5_30 ⟨rfl, rfl, (Nat.le_of_ble_eq_true rfl), (Nat.le_of_ble_eq_true rfl)⟩ hl.1 (Nat.le_of_ble_eq_true rfl) ⟨(Nat.le_of_ble_eq_true rfl), (Nat.le_of_ble_eq_true rfl)⟩ dX5_init_50 (fun H locs G => ?_)
            refine hk_aast (E1 := (hk_EE 30 28)) (a := 23) (r := 29) (j := 4) (t := 2) (ci := 7) (ln := 8) F9 G (by decide) (by decide +kernel) (by decide +kernel) (by decide) rfl rfl (by decide +kernel) (by decide) (by decide) (by decide) (hk_setE (by decide +kernel) (by decide +kernel)) dX5_init_53 (fun H locs G => ?_)
            refine lv_iinc (v := 5) (lv' := [(1, .int 5), (0, .ref (g.1 + 20))]) hx hb dX5_init_54 hl (k := 0) rfl (by decide) (by decide) rfl (fun ls hl => ?_)
            refine lv_goto (tgt := 35) hx hb dX5_init_57 (by decide) ?_
            refine lv_iload_n hx hb dX5_init_35 rfl (lv_at hl 0 rfl) ?_
            refine lv_bipush (v := 8) hx hb dX5_init_36 (by decide) ?_
            refine lv_icmp_ge (tgt := 60) hx hb dX5_init_38 (by decide) (fun c20 => ?_) (fun c20 => ?_)
            · exact absurd c20 (by decide)
            · refine lv_aload_n hx hb dX5_init_41 rfl (lv_at hl 1 rfl) ?_
              refine hk_getR (r := 23) F9 G (by decide +kernel) hkc_3 (k := 1) (by decide) qw_155 rfl (by decide +kernel) dX5_init_42 ?_
              refine lv_iload_n hx hb dX5_init_45 rfl (lv_at hl 0 rfl) ?_
              refine hk_new (E1 := (hk_EE 31 28)) (a := 30) (b := 31) F9 G rfl ⟨rfl, rfl⟩ hkc_7 hkd_7 (hk_growE (kd := 8) (ln := 0) (by decide +kernel) (by decide +kernel) (by decide +kernel)) qw_63 qw_67 qw_4 ⟨(Nat.le_of_ble_eq_true rfl), (Nat.le_of_ble_eq_true rfl)⟩ dX5_init_46 (fun H G => ?_)
              obtain ⟨S21, eS21, hsp⟩ := hk_l hsp
              rw [eS21] at G
              refine lv_dup hx hb dX5_init_49 rfl ?_
              obtain ⟨r22, er22, hsp⟩ := hk_b hsp
              refine hk_callIN (rest := [.ref (g.1 + 30), .int 5, .ref (g.1 + 23)]) F9 G (kX10_init l g (hk_EE 31 28) F (g.1 + 31) S21 30 r22 (by decide +kernel) er22) qin_RX5_30 ⟨rfl, rfl, (Nat.le_of_ble_eq_true rfl), (Nat.le_of_ble_eq_true rfl)⟩ hl.1 (Nat.le_of_ble_eq_true rfl) ⟨(Nat.le_of_ble_eq_true rfl), (Nat.le_of_ble_eq_true rfl)⟩ dX5_init_50 (fun H locs G => ?_)
              refine hk_aast (E1 := (hk_EE 31 29)) (a := 23) (r := 30) (j := 5) (t := 2) (ci := 7) (ln := 8) F9 G (by decide) (by decide +kernel) (by decide +kernel) (by decide) rfl rfl (by decide +kernel) (by decide) (by decide) (by decide) (hk_setE (by decide +kernel) (by decide +kernel)) dX5_init_53 (fun H locs G => ?_)
              refine lv_iinc (v := 6) (lv' := [(1, .int 6), (0, .ref (g.1 + 20))]) hx hb dX5_init_54 hl (k := 0) rfl (by decide) (by decide) rfl (fun ls hl => ?_)
              refine lv_goto (tgt := 35) hx hb dX5_init_57 (by decide) ?_
              refine lv_iload_n hx hb dX5_init_35 rfl (lv_at hl 0 rfl) ?_
              refine lv_bipush (v := 8) hx hb dX5_init_36 (by decide) ?_
              refine lv_icmp_ge (tgt := 60) hx hb dX5_init_38 (by decide) (fun c23 => ?_) (fun c23 => ?_)
              · exact absurd c23 (by decide)
              · refine lv_aload_n hx hb dX5_init_41 rfl (lv_at hl 1 rfl) ?_
                refine hk_getR (r := 23) F9 G (by decide +kernel) hkc_3 (k := 1) (by decide) qw_155 rfl (by decide +kernel) dX5_init_42 ?_
                refine lv_iload_n hx hb dX5_init_45 rfl (lv_at hl 0 rfl) ?_
                refine hk_new (E1 := (hk_EE 32 29)) (a := 31) (b := 32) F9 G rfl ⟨rfl, rfl⟩ hkc_7 hkd_7 (hk_growE (kd := 8) (ln := 0) (by decide +kernel) (by decide +kernel) (by decide +kernel)) qw_63 qw_67 qw_4 ⟨(Nat.le_of_ble_eq_true rfl), (Nat.le_of_ble_eq_true rfl)⟩ dX5_init_46 (fun H G => ?_)
                obtain ⟨S24, eS24, hsp⟩ := hk_l hsp
                rw [eS24] at G
                refine lv_dup hx hb dX5_init_49 rfl ?_
                obtain ⟨r25, er25, hsp⟩ := hk_b hsp
                refine hk_callIN (rest := [.ref (g.1 + 31), .int 6, .ref (g.1 + 23)]) F9 G (kX10_init l g (hk_EE 32 29) F (g.1 + 32) S24 31 r25 (by decide +kernel) er25) qin_RX5_30 ⟨rfl, rfl, (Nat.le_of_ble_eq_true rfl), (Nat.le_of_ble_eq_true rfl)⟩ hl.1 (Nat.le_of_ble_eq_true rfl) ⟨(Nat.le_of_ble_eq_true rfl), (Nat.le_of_ble_eq_true rfl)⟩ dX5_init_50 (fun H locs G => ?_)
                refine hk_aast (E1 := (hk_EE 32 30)) (a := 23) (r := 31) (j := 6) (t := 2) (ci := 7) (ln := 8) F9 G (by decide) (by decide +kernel) (by decide +kernel) (by decide) rfl rfl (by decide +kernel) (by decide) (by decide) (by decide) (hk_setE (by decide +kernel) (by decide +kernel)) dX5_init_53 (fun H locs G => ?_)
                refine lv_iinc (v := 7) (lv' := [(1, .int 7), (0, .ref (g.1 + 20))]) hx hb dX5_init_54 hl (k := 0) rfl (by decide) (by decide) rfl (fun ls hl => ?_)
                refine lv_goto (tgt := 35) hx hb dX5_init_57 (by decide) ?_
                refine lv_iload_n hx hb dX5_init_35 rfl (lv_at hl 0 rfl) ?_
                refine lv_bipush (v := 8) hx hb dX5_init_36 (by decide) ?_
                refine lv_icmp_ge (tgt := 60) hx hb dX5_init_38 (by decide) (fun c26 => ?_) (fun c26 => ?_)
                · exact absurd c26 (by decide)
                · refine lv_aload_n hx hb dX5_init_41 rfl (lv_at hl 1 rfl) ?_
                  refine hk_getR (r := 23) F9 G (by decide +kernel) hkc_3 (k := 1) (by decide) qw_155 rfl (by decide +kernel) dX5_init_42 ?_
                  refine lv_iload_n hx hb dX5_init_45 rfl (lv_at hl 0 rfl) ?_
                  refine hk_new (E1 := (hk_EE 33 30)) (a := 32) (b := 33) F9 G rfl ⟨rfl, rfl⟩ hkc_7 hkd_7 (hk_growE (kd := 8) (ln := 0) (by decide +kernel) (by decide +kernel) (by decide +kernel)) qw_63 qw_67 qw_4 ⟨(Nat.le_of_ble_eq_true rfl), (Nat.le_of_ble_eq_true rfl)⟩ dX5_init_46 (fun H G => ?_)
                  obtain ⟨S27, eS27, hsp⟩ := hk_l hsp
                  rw [eS27] at G
                  refine lv_dup hx hb dX5_init_49 rfl ?_
                  obtain ⟨r28, er28, hsp⟩ := hk_b hsp
                  refine hk_callIN (rest := [.ref (g.1 + 32), .int 7, .ref (g.1 + 23)]) F9 G (kX10_init l g (hk_EE 33 30) F (g.1 + 33) S27 32 r28 (by decide +kernel) er28) qin_RX5_30 ⟨rfl, rfl, (Nat.le_of_ble_eq_true rfl), (Nat.le_of_ble_eq_true rfl)⟩ hl.1 (Nat.le_of_ble_eq_true rfl) ⟨(Nat.le_of_ble_eq_true rfl), (Nat.le_of_ble_eq_true rfl)⟩ dX5_init_50 (fun H locs G => ?_)
                  refine hk_aast (E1 := (hk_EE 33 31)) (a := 23) (r := 32) (j := 7) (t := 2) (ci := 7) (ln := 8) F9 G (by decide) (by decide +kernel) (by decide +kernel) (by decide) rfl rfl (by decide +kernel) (by decide) (by decide) (by decide) (hk_setE (by decide +kernel) (by decide +kernel)) dX5_init_53 (fun H locs G => ?_)
                  refine lv_iinc (v := 8) (lv' := [(1, .int 8), (0, .ref (g.1 + 20))]) hx hb dX5_init_54 hl (k := 0) rfl (by decide) (by decide) rfl (fun ls hl => ?_)
                  refine lv_goto (tgt := 35) hx hb dX5_init_57 (by decide) ?_
                  refine lv_iload_n hx hb dX5_init_35 rfl (lv_at hl 0 rfl) ?_
                  refine lv_bipush (v := 8) hx hb dX5_init_36 (by decide) ?_
                  refine lv_icmp_ge (tgt := 60) hx hb dX5_init_38 (by decide) (fun c29 => ?_) (fun c29 => ?_)
                  · refine lv_iconst (v := 0) hx hb dX5_init_60 (by decide) ?_
                    refine lv_istore_n (lv' := [(1, .int 0), (0, .ref (g.1 + 20))]) hx hb dX5_init_61 rfl hl (by decide) rfl (fun ls hl => ?_)
                    refine lv_iload_n hx hb dX5_init_62 rfl (lv_at hl 0 rfl) ?_
                    refine lv_bipush (v := 6) hx hb dX5_init_63 (by decide) ?_
                    refine lv_icmp_ge (tgt := 87) hx hb dX5_init_65 (by decide) (fun c30 => ?_) (fun c30 => ?_)
                    · exact absurd c30 (by decide)
                    · refine lv_aload_n hx hb dX5_init_68 rfl (lv_at hl 1 rfl) ?_
                      refine hk_getR (r := 24) F9 G (by decide +kernel) hkc_3 (k := 3) (by decide) qw_158 rfl (by decide +kernel) dX5_init_69 ?_
                      refine lv_iload_n hx hb dX5_init_72 rfl (lv_at hl 0 rfl) ?_
                      refine hk_new (E1 := (hk_EE 34 31)) (a := 33) (b := 34) F9 G rfl ⟨rfl, rfl⟩ hkc_4 hkd_4 (hk_growE (kd := 5) (ln := 0) (by decide +kernel) (by decide +kernel) (by decide +kernel)) qw_65 qw_116 qw_5 ⟨(Nat.le_of_ble_eq_true rfl), (Nat.le_of_ble_eq_true rfl)⟩ dX5_init_73 (fun H G => ?_)
                      obtain ⟨S31, eS31, hsp⟩ := hk_l hsp
                      rw [eS31] at G
                      refine lv_dup hx hb dX5_init_76 rfl ?_
                      obtain ⟨r32, er32, hsp⟩ := hk_b hsp
                      refine hk_callIN (rest := [.ref (g.1 + 33), .int 0, .ref (g.1 + 24)]) F9 G (kX6_init l g (hk_EE 34 31) F (g.1 + 34) S31 33 r32 (by decide +kernel) er32) qin_RX5_31 ⟨rfl, rfl, (Nat.le_of_ble_eq_true rfl), (Nat.le_of_ble_eq_true rfl)⟩ hl.1 (Nat.le_of_ble_eq_true rfl) ⟨(Nat.le_of_ble_eq_true rfl), (Nat.le_of_ble_eq_true rfl)⟩ dX5_init_77 (fun H locs G => ?_)
                      refine hk_aast (E1 := (hk_EE 34 32)) (a := 24) (r := 33) (j := 0) (t := 1) (ci := 4) (ln := 6) F9 G (by decide) (by decide +kernel) (by decide +kernel) (by decide) rfl rfl (by decide +kernel) (by decide) (by decide) (by decide) (hk_setE (by decide +kernel) (by decide +kernel)) dX5_init_80 (fun H locs G => ?_)
                      refine lv_iinc (v := 1) (lv' := [(1, .int 1), (0, .ref (g.1 + 20))]) hx hb dX5_init_81 hl (k := 0) rfl (by decide) (by decide) rfl (fun ls hl => ?_)
                      refine lv_goto (tgt := 62) hx hb dX5_init_84 (by decide) ?_
                      refine lv_iload_n hx hb dX5_init_62 rfl (lv_at hl 0 rfl) ?_
                      refine lv_bipush (v := 6) hx hb dX5_init_63 (by decide) ?_
                      refine lv_icmp_ge (tgt := 87) hx hb dX5_init_65 (by decide) (fun c33 => ?_) (fun c33 => ?_)
                      · exact absurd c33 (by decide)
                      · refine lv_aload_n hx hb dX5_init_68 rfl (lv_at hl 1 rfl) ?_
                        refine hk_getR (r := 24) F9 G (by decide +kernel) hkc_3 (k := 3) (by decide) qw_158 rfl (by decide +kernel) dX5_init_69 ?_
                        refine lv_iload_n hx hb dX5_init_72 rfl (lv_at hl 0 rfl) ?_
                        refine hk_new (E1 := (hk_EE 35 32)) (a := 34) (b := 35) F9 G rfl ⟨rfl, rfl⟩ hkc_4 hkd_4 (hk_growE (kd := 5) (ln := 0) (by decide +kernel) (by decide +kernel) (by decide +kernel)) qw_65 qw_116 qw_5 ⟨(Nat.le_of_ble_eq_true rfl), (Nat.le_of_ble_eq_true rfl)⟩ dX5_init_73 (fun H G => ?_)
                        obtain ⟨S34, eS34, hsp⟩ := hk_l hsp
                        rw [eS34] at G
                        refine lv_dup hx hb dX5_init_76 rfl ?_
                        obtain ⟨r35, er35, hsp⟩ := hk_b hsp
                        refine hk_callIN (rest := [.ref (g.1 + 34), .int 1, .ref (g.1 + 24)]) F9 G (kX6_init l g (hk_EE 35 32) F (g.1 + 35) S34 34 r35 (by decide +kernel) er35) qin_RX5_31 ⟨rfl, rfl, (Nat.le_of_ble_eq_true rfl), (Nat.le_of_ble_eq_true rfl)⟩ hl.1 (Nat.le_of_ble_eq_true rfl) ⟨(Nat.le_of_ble_eq_true rfl), (Nat.le_of_ble_eq_true rfl)⟩ dX5_init_77 (fun H locs G => ?_)
                        refine hk_aast (E1 := (hk_EE 35 33)) (a := 24) (r := 34) (j := 1) (t := 1) (ci := 4) (ln := 6) F9 G (by decide) (by decide +kernel) (by decide +kernel) (by decide) rfl rfl (by decide +kernel) (by decide) (by decide) (by decide) (hk_setE (by decide +kernel) (by decide +kernel)) dX5_init_80 (fun H locs G => ?_)
                        refine lv_iinc (v := 2) (lv' := [(1, .int 2), (0, .ref (g.1 + 20))]) hx hb dX5_init_81 hl (k := 0) rfl (by decide) (by decide) rfl (fun ls hl => ?_)
                        refine lv_goto (tgt := 62) hx hb dX5_init_84 (by decide) ?_
                        refine lv_iload_n hx hb dX5_init_62 rfl (lv_at hl 0 rfl) ?_
                        refine lv_bipush (v := 6) hx hb dX5_init_63 (by decide) ?_
                        refine lv_icmp_ge (tgt := 87) hx hb dX5_init_65 (by decide) (fun c36 => ?_) (fun c36 => ?_)
                        · exact absurd c36 (by decide)
                        · refine lv_aload_n hx hb dX5_init_68 rfl (lv_at hl 1 rfl) ?_
                          refine hk_getR (r := 24) F9 G (by decide +kernel) hkc_3 (k := 3) (by decide) qw_158 rfl (by decide +kernel) dX5_init_69 ?_
                          refine lv_iload_n hx hb dX5_init_72 rfl (lv_at hl 0 rfl) ?_
                          refine hk_new (E1 := (hk_EE 36 33)) (a := 35) (b := 36) F9 G rfl ⟨rfl, rfl⟩ hkc_4 hkd_4 (hk_growE (kd := 5) (ln := 0) (by decide +kernel) (by decide +kernel) (by decide +kernel)) qw_65 qw_116 qw_5 ⟨(Nat.le_of_ble_eq_true rfl), (Nat.le_of_ble_eq_true rfl)⟩ dX5_init_73 (fun H G => ?_)
                          obtain ⟨S37, eS37, hsp⟩ := hk_l hsp
                          rw [eS37] at G
                          refine lv_dup hx hb dX5_init_76 rfl ?_
                          obtain ⟨r38, er38, hsp⟩ := hk_b hsp
                          refine hk_callIN (rest := [.ref (g.1 + 35), .int 2, .ref (g.1 + 24)]) F9 G (kX6_init l g (hk_EE 36 33) F (g.1 + 36) S37 35 r38 (by decide +kernel) er38) qin_RX5_31 ⟨rfl, rfl, (Nat.le_of_ble_eq_true rfl), (Nat.le_of_ble_eq_true rfl)⟩ hl.1 (Nat.le_of_ble_eq_true rfl) ⟨(Nat.le_of_ble_eq_true rfl), (Nat.le_of_ble_eq_true rfl)⟩ dX5_init_77 (fun H locs G => ?_)
                          refine hk_aast (E1 := (hk_EE 36 34)) (a := 24) (r := 35) (j := 2) (t := 1) (ci := 4) (ln := 6) F9 G (by decide) (by decide +kernel) (by decide +kernel) (by decide) rfl rfl (by decide +kernel) (by decide) (by decide) (by decide) (hk_setE (by decide +kernel) (by decide +kernel)) dX5_init_80 (fun H locs G => ?_)
                          refine lv_iinc (v := 3) (lv' := [(1, .int 3), (0, .ref (g.1 + 20))]) hx hb dX5_init_81 hl (k := 0) rfl (by decide) (by decide) rfl (fun ls hl => ?_)
                          refine lv_goto (tgt := 62) hx hb dX5_init_84 (by decide) ?_
                          refine lv_iload_n hx hb dX5_init_62 rfl (lv_at hl 0 rfl) ?_
                          refine lv_bipush (v := 6) hx hb dX5_init_63 (by decide) ?_
                          refine lv_icmp_ge (tgt := 87) hx hb dX5_init_65 (by decide) (fun c39 => ?_) (fun c39 => ?_)
                          · exact absurd c39 (by decide)
                          · refine lv_aload_n hx hb dX5_init_68 rfl (lv_at hl 1 rfl) ?_
                            refine hk_getR (r := 24) F9 G (by decide +kernel) hkc_3 (k := 3) (by decide) qw_158 rfl (by decide +kernel) dX5_init_69 ?_
                            refine lv_iload_n hx hb dX5_init_72 rfl (lv_at hl 0 rfl) ?_
                            refine hk_new (E1 := (hk_EE 37 34)) (a := 36) (b := 37) F9 G rfl ⟨rfl, rfl⟩ hkc_4 hkd_4 (hk_growE (kd := 5) (ln := 0) (by decide +kernel) (by decide +kernel) (by decide +kernel)) qw_65 qw_116 qw_5 ⟨(Nat.le_of_ble_eq_true rfl), (Nat.le_of_ble_eq_true rfl)⟩ dX5_init_73 (fun H G => ?_)
                            obtain ⟨S40, eS40, hsp⟩ := hk_l hsp
                            rw [eS40] at G
                            refine lv_dup hx hb dX5_init_76 rfl ?_
                            obtain ⟨r41, er41, hsp⟩ := hk_b hsp
                            refine hk_callIN (rest := [.ref (g.1 + 36), .int 3, .ref (g.1 + 24)]) F9 G (kX6_init l g (hk_EE 37 34) F (g.1 + 37) S40 36 r41 (by decide +kernel) er41) qin_RX5_31 ⟨rfl, rfl, (Nat.le_of_ble_eq_true rfl), (Nat.le_of_ble_eq_true rfl)⟩ hl.1 (Nat.le_of_ble_eq_true rfl) ⟨(Nat.le_of_ble_eq_true rfl), (Nat.le_of_ble_eq_true rfl)⟩ dX5_init_77 (fun H locs G => ?_)
                            refine hk_aast (E1 := (hk_EE 37 35)) (a := 24) (r := 36) (j := 3) (t := 1) (ci := 4) (ln := 6) F9 G (by decide) (by decide +kernel) (by decide +kernel) (by decide) rfl rfl (by decide +kernel) (by decide) (by decide) (by decide) (hk_setE (by decide +kernel) (by decide +kernel)) dX5_init_80 (fun H locs G => ?_)
                            refine lv_iinc (v := 4) (lv' := [(1, .int 4), (0, .ref (g.1 + 20))]) hx hb dX5_init_81 hl (k := 0) rfl (by decide) (by decide) rfl (fun ls hl => ?_)
                            refine lv_goto (tgt := 62) hx hb dX5_init_84 (by decide) ?_
                            refine lv_iload_n hx hb dX5_init_62 rfl (lv_at hl 0 rfl) ?_
                            refine lv_bipush (v := 6) hx hb dX5_init_63 (by decide) ?_
                            refine lv_icmp_ge (tgt := 87) hx hb dX5_init_65 (by decide) (fun c42 => ?_) (fun c42 => ?_)
                            · exact absurd c42 (by decide)
                            · refine lv_aload_n hx hb dX5_init_68 rfl (lv_at hl 1 rfl) ?_
                              refine hk_getR (r := 24) F9 G (by decide +kernel) hkc_3 (k := 3) (by decide) qw_158 rfl (by decide +kernel) dX5_init_69 ?_
                              refine lv_iload_n hx hb dX5_init_72 rfl (lv_at hl 0 rfl) ?_
                              refine hk_new (E1 := (hk_EE 38 35)) (a := 37) (b := 38) F9 G rfl ⟨rfl, rfl⟩ hkc_4 hkd_4 (hk_growE (kd := 5) (ln := 0) (by decide +kernel) (by decide +kernel) (by decide +kernel)) qw_65 qw_116 qw_5 ⟨(Nat.le_of_ble_eq_true rfl), (Nat.le_of_ble_eq_true rfl)⟩ dX5_init_73 (fun H G => ?_)
                              obtain ⟨S43, eS43, hsp⟩ := hk_l hsp
                              rw [eS43] at G
                              refine lv_dup hx hb dX5_init_76 rfl ?_
                              obtain ⟨r44, er44, hsp⟩ := hk_b hsp
                              refine hk_callIN (rest := [.ref (g.1 + 37), .int 4, .ref (g.1 + 24)]) F9 G (kX6_init l g (hk_EE 38 35) F (g.1 + 38) S43 37 r44 (by decide +kernel) er44) qin_RX5_31 ⟨rfl, rfl, (Nat.le_of_ble_eq_true rfl), (Nat.le_of_ble_eq_true rfl)⟩ hl.1 (Nat.le_of_ble_eq_true rfl) ⟨(Nat.le_of_ble_eq_true rfl), (Nat.le_of_ble_eq_true rfl)⟩ dX5_init_77 (fun H locs G => ?_)
                              refine hk_aast (E1 := (hk_EE 38 36)) (a := 24) (r := 37) (j := 4) (t := 1) (ci := 4) (ln := 6) F9 G (by decide) (by decide +kernel) (by decide +kernel) (by decide) rfl rfl (by decide +kernel) (by decide) (by decide) (by decide) (hk_setE (by decide +kernel) (by decide +kernel)) dX5_init_80 (fun H locs G => ?_)
                              refine lv_iinc (v := 5) (lv' := [(1, .int 5), (0, .ref (g.1 + 20))]) hx hb dX5_init_81 hl (k := 0) rfl (by decide) (by decide) rfl (fun ls hl => ?_)
                              refine lv_goto (tgt := 62) hx hb dX5_init_84 (by decide) ?_
                              refine lv_iload_n hx hb dX5_init_62 rfl (lv_at hl 0 rfl) ?_
                              refine lv_bipush (v := 6) hx hb dX5_init_63 (by decide) ?_
                              refine lv_icmp_ge (tgt := 87) hx hb dX5_init_65 (by decide) (fun c45 => ?_) (fun c45 => ?_)
                              · exact absurd c45 (by decide)
                              · refine lv_aload_n hx hb dX5_init_68 rfl (lv_at hl 1 rfl) ?_
                                refine hk_getR (r := 24) F9 G (by decide +kernel) hkc_3 (k := 3) (by decide) qw_158 rfl (by decide +kernel) dX5_init_69 ?_
                                refine lv_iload_n hx hb dX5_init_72 rfl (lv_at hl 0 rfl) ?_
                                refine hk_new (E1 := (hk_EE 39 36)) (a := 38) (b := 39) F9 G rfl ⟨rfl, rfl⟩ hkc_4 hkd_4 (hk_growE (kd := 5) (ln := 0) (by decide +kernel) (by decide +kernel) (by decide +kernel)) qw_65 qw_116 qw_5 ⟨(Nat.le_of_ble_eq_true rfl), (Nat.le_of_ble_eq_true rfl)⟩ dX5_init_73 (fun H G => ?_)
                                obtain ⟨S46, eS46, hsp⟩ := hk_l hsp
                                rw [eS46] at G
                                refine lv_dup hx hb dX5_init_76 rfl ?_
                                obtain ⟨r47, er47, hsp⟩ := hk_b hsp
                                refine hk_callIN (rest := [.ref (g.1 + 38), .int 5, .ref (g.1 + 24)]) F9 G (kX6_init l g (hk_EE 39 36) F (g.1 + 39) S46 38 r47 (by decide +kernel) er47) qin_RX5_31 ⟨rfl, rfl, (Nat.le_of_ble_eq_true rfl), (Nat.le_of_ble_eq_true rfl)⟩ hl.1 (Nat.le_of_ble_eq_true rfl) ⟨(Nat.le_of_ble_eq_true rfl), (Nat.le_of_ble_eq_true rfl)⟩ dX5_init_77 (fun H locs G => ?_)
                                refine hk_aast (E1 := (hk_EE 39 37)) (a := 24) (r := 38) (j := 5) (t := 1) (ci := 4) (ln := 6) F9 G (by decide) (by decide +kernel) (by decide +kernel) (by decide) rfl rfl (by decide +kernel) (by decide) (by decide) (by decide) (hk_setE (by decide +kernel) (by decide +kernel)) dX5_init_80 (fun H locs G => ?_)
                                refine lv_iinc (v := 6) (lv' := [(1, .int 6), (0, .ref (g.1 + 20))]) hx hb dX5_init_81 hl (k := 0) rfl (by decide) (by decide) rfl (fun ls hl => ?_)
                                refine lv_goto (tgt := 62) hx hb dX5_init_84 (by decide) ?_
                                refine lv_iload_n hx hb dX5_init_62 rfl (lv_at hl 0 rfl) ?_
                                refine lv_bipush (v := 6) hx hb dX5_init_63 (by decide) ?_
                                refine lv_icmp_ge (tgt := 87) hx hb dX5_init_65 (by decide) (fun c48 => ?_) (fun c48 => ?_)
                                · refine lv_aload_n hx hb dX5_init_87 rfl (lv_at hl 1 rfl) ?_
                                  obtain ⟨r49, er49, hsp⟩ := hk_b hsp
                                  refine hk_callVv (As := []) (rest := []) F9 G (by decide +kernel) hkc_3 rfl (kX5_clear l g (hk_EE 39 37) F (g.1 + 39) r47 20 r49 (by decide +kernel) er49) qv_RX5_32 ⟨rfl, rfl, (Nat.le_of_ble_eq_true rfl), (Nat.le_of_ble_eq_true rfl)⟩ rfl hl.1 rfl (Nat.le_of_ble_eq_true rfl) ⟨(Nat.le_of_ble_eq_true rfl), (Nat.le_of_ble_eq_true rfl)⟩ dX5_init_88 (fun H locs G => ?_)
                                  obtain rfl := hk_s hsp
                                  exact W.vret hx hb hr (fun t ht hW => hk_end G ht hW) G.2.1.2.2 dX5_init_91
                                · exact absurd c48 (by decide)
                  · exact absurd c29 (by decide)
def mX1_init_42 (F : Nat) (S : hk_S) : Option (hk_S) :=
hk_let (va_up S 43 (fun _ => 0)) (fun S1 => some (S1))
set_option maxHeartbeats 4000000 in
set_option maxRecDepth 100000 in
theorem kX1_init_42 (l : Launch) (g : hk_G) (F : Nat) (S : hk_S) (o : hk_S) (hsp : mX1_init_42 F S = some o) : Met l yX1_init (hk_ws yX1_init cX1_init 1 (Option.none : Option Jvm.ClassFile.FieldType)) ({ frames := 1, cells := 1, slots := 3, locals := 12 }) (hk_Pc g (hk_EE 43 39) S (g.1 + 43) [.ref (g.1 + 42)]) (hk_Q g (hk_EE 44 40) o (g.1 + 44) none) 1 3 (hk_A g) := by
  refine Met.ofW (cc := cX1_init) (maxL := 1) (ret := (Option.none : Option Jvm.ClassFile.FieldType)) (by decide) rfl ?_
  intro p e s m args below meth c s₁ B hml hv
  obtain ⟨rfl, G⟩ := hk_begin hv
  have F9 : CallFix p m c cX1_init 1 s [.ref (g.1 + 42)].toArray hk_W RX1 := ⟨B.exec, B.bytes, hml, findClass_of_methodNamed B.named, fun w h => atoms_spec (ws := hk_ws yX1_init cX1_init 1 (Option.none : Option Jvm.ClassFile.FieldType)) B.pre w (hk_in h)⟩
  have hin : meth.name = "<init>" := (name_of_methodNamed B.named B.method).1
  have hx := B.exec
  have hb := B.bytes
  have hr := B.returns
  have hlocks := B.notSynchronized
  have hl := lv_entry ([.ref (g.1 + 42)]) (n := 1) (Nat.le_of_ble_eq_true rfl)
  rw [lg_entry_eq]
  generalize (lg_sl ([.ref (g.1 + 42)]) ++ List.replicate (1 - (lg_sl ([.ref (g.1 + 42)])).length) Slot.unset).toArray = ls at hl ⊢
  have hl : lv_has ls 1 [(0, .ref (g.1 + 42))] := hl
  unfold mX1_init_42 at hsp
  have G : hk_GG g (hk_EE 43 39) S (g.1 + 43) s s.heap [] := G
  refine lv_aload_n hx hb dX1_init_0 rfl (lv_at hl 0 rfl) ?_
  refine hk_obj F9 qw_40 qw_27 qw_28 hl.1 ⟨(Nat.le_of_ble_eq_true rfl), (Nat.le_of_ble_eq_true rfl)⟩ dX1_init_1 ?_
  refine lv_aload_n hx hb dX1_init_4 rfl (lv_at hl 0 rfl) ?_
  refine lv_iconst (v := 3) hx hb dX1_init_5 (by decide) ?_
  refine hk_newA (E1 := (hk_EE 44 39)) (a := 43) (b := 44) (ft := .int) (t := 2) (ln := 3) (kd := 13) F9 G rfl ⟨rfl, rfl⟩ rfl (fun _ h => nomatch h) rfl (fun I _ => hk_cell_i (t := 2) (by decide)) rfl (hk_growE (kd := 13) (ln := 3) (by decide +kernel) (by decide +kernel) (by decide +kernel)) qw_62 (by decide) (by decide) (by decide) ⟨(Nat.le_of_ble_eq_true rfl), (Nat.le_of_ble_eq_true rfl)⟩ dX1_init_6 (fun H G => ?_)
  obtain ⟨S1, eS1, hsp⟩ := hk_l hsp
  rw [eS1] at G
  refine hk_putR (E1 := (hk_EE 44 40)) (a := 42) (r := 43) (k := 4) F9 G (by decide +kernel) hkc_0 (by decide) qw_50 rfl rfl hin rfl (tyX1_ok 4 (by decide)) (fun _ => rfl) (fun _ => rfl) (hk_setE (by decide +kernel) (by decide +kernel)) dX1_init_8 (fun H locs G => ?_)
  obtain rfl := hk_s hsp
  exact W.vret hx hb hr (fun t ht hW => hk_end G ht hW) G.2.1.2.2 dX1_init_11
def mX5_init_41 (F : Nat) (S : hk_S) : Option (hk_S) :=
hk_let (va_up S 42 (hk_i0 0)) (fun S1 => (mX1_init_42 F S1).bind (fun r2 => hk_let (va_up r2 44 (fun _ => 0)) (fun S3 => hk_let (va_up S3 45 (fun _ => 0)) (fun S4 => hk_let (va_up S4 46 (hk_i0 7)) (fun S6 => (mX10_init (hk_EE 47 43) F S6 46).bind (fun r7 => hk_let (va_up r7 47 (hk_i0 7)) (fun S9 => (mX10_init (hk_EE 48 44) F S9 47).bind (fun r10 => hk_let (va_up r10 48 (hk_i0 7)) (fun S12 => (mX10_init (hk_EE 49 45) F S12 48).bind (fun r13 => hk_let (va_up r13 49 (hk_i0 7)) (fun S15 => (mX10_init (hk_EE 50 46) F S15 49).bind (fun r16 => hk_let (va_up r16 50 (hk_i0 7)) (fun S18 => (mX10_init (hk_EE 51 47) F S18 50).bind (fun r19 => hk_let (va_up r19 51 (hk_i0 7)) (fun S21 => (mX10_init (hk_EE 52 48) F S21 51).bind (fun r22 => hk_let (va_up r22 52 (hk_i0 7)) (fun S24 => (mX10_init (hk_EE 53 49) F S24 52).bind (fun r25 => hk_let (va_up r25 53 (hk_i0 7)) (fun S27 => (mX10_init (hk_EE 54 50) F S27 53).bind (fun r28 => hk_let (va_up r28 54 (hk_i0 4)) (fun S31 => (mX6_init (hk_EE 55 51) F S31 54).bind (fun r32 => hk_let (va_up r32 55 (hk_i0 4)) (fun S34 => (mX6_init (hk_EE 56 52) F S34 55).bind (fun r35 => hk_let (va_up r35 56 (hk_i0 4)) (fun S37 => (mX6_init (hk_EE 57 53) F S37 56).bind (fun r38 => hk_let (va_up r38 57 (hk_i0 4)) (fun S40 => (mX6_init (hk_EE 58 54) F S40 57).bind (fun r41 => hk_let (va_up r41 58 (hk_i0 4)) (fun S43 => (mX6_init (hk_EE 59 55) F S43 58).bind (fun r44 => hk_let (va_up r44 59 (hk_i0 4)) (fun S46 => (mX6_init (hk_EE 60 56) F S46 59).bind (fun r47 => (mX5_clear (hk_EE 60 57) F r47 41).bind (fun r49 => some (r49))))))))))))))))))))))))))))))))))
set_option maxHeartbeats 4000000 in
set_option maxRecDepth 100000 in
theorem kX5_init_41 (l : Launch) (g : hk_G) (F : Nat) (S : hk_S) (o : hk_S) (hsp : mX5_init_41 F S = some o) : Met l yX5_init (hk_ws yX5_init cX5_init 2 (Option.none : Option Jvm.ClassFile.FieldType)) ({ frames := 3, cells := 18, slots := 120, locals := 62 }) (hk_Pc g (hk_EE 42 39) S (g.1 + 42) [.ref (g.1 + 41)]) (hk_Q g (hk_EE 60 57) o (g.1 + 60) none) 18 120 (hk_A g) := by
  refine Met.ofW (cc := cX5_init) (maxL := 2) (ret := (Option.none : Option Jvm.ClassFile.FieldType)) (by decide) rfl ?_
  intro p e s m args below meth c s₁ B hml hv
  obtain ⟨rfl, G⟩ := hk_begin hv
  have F9 : CallFix p m c cX5_init 2 s [.ref (g.1 + 41)].toArray hk_W RX5 := ⟨B.exec, B.bytes, hml, findClass_of_methodNamed B.named, fun w h => atoms_spec (ws := hk_ws yX5_init cX5_init 2 (Option.none : Option Jvm.ClassFile.FieldType)) B.pre w (hk_in h)⟩
  have hin : meth.name = "<init>" := (name_of_methodNamed B.named B.method).1
  have hx := B.exec
  have hb := B.bytes
  have hr := B.returns
  have hlocks := B.notSynchronized
  have hl := lv_entry ([.ref (g.1 + 41)]) (n := 2) (Nat.le_of_ble_eq_true rfl)
  rw [lg_entry_eq]
  generalize (lg_sl ([.ref (g.1 + 41)]) ++ List.replicate (2 - (lg_sl ([.ref (g.1 + 41)])).length) Slot.unset).toArray = ls at hl ⊢
  have hl : lv_has ls 2 [(0, .ref (g.1 + 41))] := hl
  unfold mX5_init_41 at hsp
  have G : hk_GG g (hk_EE 42 39) S (g.1 + 42) s s.heap [] := G
  refine lv_aload_n hx hb dX5_init_0 rfl (lv_at hl 0 rfl) ?_
  refine hk_obj F9 qw_34 qw_27 qw_28 hl.1 ⟨(Nat.le_of_ble_eq_true rfl), (Nat.le_of_ble_eq_true rfl)⟩ dX5_init_1 ?_
  refine lv_aload_n hx hb dX5_init_4 rfl (lv_at hl 0 rfl) ?_
  refine hk_new (E1 := (hk_EE 43 39)) (a := 42) (b := 43) F9 G rfl ⟨rfl, rfl⟩ hkc_0 hkd_0 (hk_growE (kd := 1) (ln := 0) (by decide +kernel) (by decide +kernel) (by decide +kernel)) qw_35 qw_36 qw_3 ⟨(Nat.le_of_ble_eq_true rfl), (Nat.le_of_ble_eq_true rfl)⟩ dX5_init_5 (fun H G => ?_)
  obtain ⟨S1, eS1, hsp⟩ := hk_l hsp
  rw [eS1] at G
  refine lv_dup hx hb dX5_init_8 rfl ?_
  obtain ⟨r2, er2, hsp⟩ := hk_b hsp
  refine hk_callIN (rest := [.ref (g.1 + 42), .ref (g.1 + 41)]) F9 G (kX1_init_42 l g F S1 r2 er2) qin_RX5_11 ⟨rfl, rfl, (Nat.le_of_ble_eq_true rfl), (Nat.le_of_ble_eq_true rfl)⟩ hl.1 (Nat.le_of_ble_eq_true rfl) ⟨(Nat.le_of_ble_eq_true rfl), (Nat.le_of_ble_eq_true rfl)⟩ dX5_init_9 (fun H locs G => ?_)
  refine hk_putR (E1 := (hk_EE 44 41)) (a := 41) (r := 42) (k := 0) F9 G (by decide +kernel) hkc_3 (by decide) qw_153 rfl rfl hin rfl (tyX5_ok 0 (by decide)) (fun _ => rfl) (fun _ => rfl) (hk_setE (by decide +kernel) (by decide +kernel)) dX5_init_12 (fun H locs G => ?_)
  refine lv_aload_n hx hb dX5_init_15 rfl (lv_at hl 0 rfl) ?_
  refine lv_bipush (v := 8) hx hb dX5_init_16 (by decide) ?_
  refine hk_newQ (E1 := (hk_EE 45 41)) (a := 44) (b := 45) (t := 2) (ln := 8) F9 G rfl ⟨rfl, rfl⟩ (by decide) rfl G.2.2.1.2.2.2.2 (hk_growE (kd := 16) (ln := 8) (by decide +kernel) (by decide +kernel) (by decide +kernel)) qw_63 (by decide) (by decide) (by decide) ⟨(Nat.le_of_ble_eq_true rfl), (Nat.le_of_ble_eq_true rfl)⟩ dX5_init_18 (fun H G => ?_)
  obtain ⟨S3, eS3, hsp⟩ := hk_l hsp
  rw [eS3] at G
  refine hk_putR (E1 := (hk_EE 45 42)) (a := 41) (r := 44) (k := 1) F9 G (by decide +kernel) hkc_3 (by decide) qw_155 rfl rfl hin rfl (tyX5_ok 1 (by decide)) (fun _ => rfl) (fun _ => rfl) (hk_setE (by decide +kernel) (by decide +kernel)) dX5_init_21 (fun H locs G => ?_)
  refine lv_aload_n hx hb dX5_init_24 rfl (lv_at hl 0 rfl) ?_
  refine lv_bipush (v := 6) hx hb dX5_init_25 (by decide) ?_
  refine hk_newQ (E1 := (hk_EE 46 42)) (a := 45) (b := 46) (t := 1) (ln := 6) F9 G rfl ⟨rfl, rfl⟩ (by decide) rfl G.2.2.1.2.2.2.1 (hk_growE (kd := 15) (ln := 6) (by decide +kernel) (by decide +kernel) (by decide +kernel)) qw_65 (by decide) (by decide) (by decide) ⟨(Nat.le_of_ble_eq_true rfl), (Nat.le_of_ble_eq_true rfl)⟩ dX5_init_27 (fun H G => ?_)
  obtain ⟨S4, eS4, hsp⟩ := hk_l hsp
  rw [eS4] at G
  refine hk_putR (E1 := (hk_EE 46 43)) (a := 41) (r := 45) (k := 3) F9 G (by decide +kernel) hkc_3 (by decide) qw_158 rfl rfl hin rfl (tyX5_ok 3 (by decide)) (fun _ => rfl) (fun _ => rfl) (hk_setE (by decide +kernel) (by decide +kernel)) dX5_init_30 (fun H locs G => ?_)
  refine lv_iconst (v := 0) hx hb dX5_init_33 (by decide) ?_
  refine lv_istore_n (lv' := [(1, .int 0), (0, .ref (g.1 + 41))]) hx hb dX5_init_34 rfl hl (by decide) rfl (fun ls hl => ?_)
  refine lv_iload_n hx hb dX5_init_35 rfl (lv_at hl 0 rfl) ?_
  refine lv_bipush (v := 8) hx hb dX5_init_36 (by decide) ?_
  refine lv_icmp_ge (tgt := 60) hx hb dX5_init_38 (by decide) (fun c5 => ?_) (fun c5 => ?_)
  · exact absurd c5 (by decide)
  · refine lv_aload_n hx hb dX5_init_41 rfl (lv_at hl 1 rfl) ?_
    refine hk_getR (r := 44) F9 G (by decide +kernel) hkc_3 (k := 1) (by decide) qw_155 rfl (by decide +kernel) dX5_init_42 ?_
    refine lv_iload_n hx hb dX5_init_45 rfl (lv_at hl 0 rfl) ?_
    refine hk_new (E1 := (hk_EE 47 43)) (a := 46) (b := 47) F9 G rfl ⟨rfl, rfl⟩ hkc_7 hkd_7 (hk_growE (kd := 8) (ln := 0) (by decide +kernel) (by decide +kernel) (by decide +kernel)) qw_63 qw_67 qw_4 ⟨(Nat.le_of_ble_eq_true rfl), (Nat.le_of_ble_eq_true rfl)⟩ dX5_init_46 (fun H G => ?_)
    obtain ⟨S6, eS6, hsp⟩ := hk_l hsp
    rw [eS6] at G
    refine lv_dup hx hb dX5_init_49 rfl ?_
    obtain ⟨r7, er7, hsp⟩ := hk_b hsp
    refine hk_callIN (rest := [.ref (g.1 + 46), .int 0, .ref (g.1 + 44)]) F9 G (kX10_init l g (hk_EE 47 43) F (g.1 + 47) S6 46 r7 (by decide +kernel) er7) qin_RX5_30 ⟨rfl, rfl, (Nat.le_of_ble_eq_true rfl), (Nat.le_of_ble_eq_true rfl)⟩ hl.1 (Nat.le_of_ble_eq_true rfl) ⟨(Nat.le_of_ble_eq_true rfl), (Nat.le_of_ble_eq_true rfl)⟩ dX5_init_50 (fun H locs G => ?_)
    refine hk_aast (E1 := (hk_EE 47 44)) (a := 44) (r := 46) (j := 0) (t := 2) (ci := 7) (ln := 8) F9 G (by decide) (by decide +kernel) (by decide +kernel) (by decide) rfl rfl (by decide +kernel) (by decide) (by decide) (by decide) (hk_setE (by decide +kernel) (by decide +kernel)) dX5_init_53 (fun H locs G => ?_)
    refine lv_iinc (v := 1) (lv' := [(1, .int 1), (0, .ref (g.1 + 41))]) hx hb dX5_init_54 hl (k := 0) rfl (by decide) (by decide) rfl (fun ls hl => ?_)
    refine lv_goto (tgt := 35) hx hb dX5_init_57 (by decide) ?_
    refine lv_iload_n hx hb dX5_init_35 rfl (lv_at hl 0 rfl) ?_
    refine lv_bipush (v := 8) hx hb dX5_init_36 (by decide) ?_
    refine lv_icmp_ge (tgt := 60) hx hb dX5_init_38 (by decide) (fun c8 => ?_) (fun c8 => ?_)
    · exact absurd c8 (by decide)
    · refine lv_aload_n hx hb dX5_init_41 rfl (lv_at hl 1 rfl) ?_
      refine hk_getR (r := 44) F9 G (by decide +kernel) hkc_3 (k := 1) (by decide) qw_155 rfl (by decide +kernel) dX5_init_42 ?_
      refine lv_iload_n hx hb dX5_init_45 rfl (lv_at hl 0 rfl) ?_
      refine hk_new (E1 := (hk_EE 48 44)) (a := 47) (b := 48) F9 G rfl ⟨rfl, rfl⟩ hkc_7 hkd_7 (hk_growE (kd := 8) (ln := 0) (by decide +kernel) (by decide +kernel) (by decide +kernel)) qw_63 qw_67 qw_4 ⟨(Nat.le_of_ble_eq_true rfl), (Nat.le_of_ble_eq_true rfl)⟩ dX5_init_46 (fun H G => ?_)
      obtain ⟨S9, eS9, hsp⟩ := hk_l hsp
      rw [eS9] at G
      refine lv_dup hx hb dX5_init_49 rfl ?_
      obtain ⟨r10, er10, hsp⟩ := hk_b hsp
      refine hk_callIN (rest := [.ref (g.1 + 47), .int 1, .ref (g.1 + 44)]) F9 G (kX10_init l g (hk_EE 48 44) F (g.1 + 48) S9 47 r10 (by decide +kernel) er10) qin_RX5_30 ⟨rfl, rfl, (Nat.le_of_ble_eq_true rfl), (Nat.le_of_ble_eq_true rfl)⟩ hl.1 (Nat.le_of_ble_eq_true rfl) ⟨(Nat.le_of_ble_eq_true rfl), (Nat.le_of_ble_eq_true rfl)⟩ dX5_init_50 (fun H locs G => ?_)
      refine hk_aast (E1 := (hk_EE 48 45)) (a := 44) (r := 47) (j := 1) (t := 2) (ci := 7) (ln := 8) F9 G (by decide) (by decide +kernel) (by decide +kernel) (by decide) rfl rfl (by decide +kernel) (by decide) (by decide) (by decide) (hk_setE (by decide +kernel) (by decide +kernel)) dX5_init_53 (fun H locs G => ?_)
      refine lv_iinc (v := 2) (lv' := [(1, .int 2), (0, .ref (g.1 + 41))]) hx hb dX5_init_54 hl (k := 0) rfl (by decide) (by decide) rfl (fun ls hl => ?_)
      refine lv_goto (tgt := 35) hx hb dX5_init_57 (by decide) ?_
      refine lv_iload_n hx hb dX5_init_35 rfl (lv_at hl 0 rfl) ?_
      refine lv_bipush (v := 8) hx hb dX5_init_36 (by decide) ?_
      refine lv_icmp_ge (tgt := 60) hx hb dX5_init_38 (by decide) (fun c11 => ?_) (fun c11 => ?_)
      · exact absurd c11 (by decide)
      · refine lv_aload_n hx hb dX5_init_41 rfl (lv_at hl 1 rfl) ?_
        refine hk_getR (r := 44) F9 G (by decide +kernel) hkc_3 (k := 1) (by decide) qw_155 rfl (by decide +kernel) dX5_init_42 ?_
        refine lv_iload_n hx hb dX5_init_45 rfl (lv_at hl 0 rfl) ?_
        refine hk_new (E1 := (hk_EE 49 45)) (a := 48) (b := 49) F9 G rfl ⟨rfl, rfl⟩ hkc_7 hkd_7 (hk_growE (kd := 8) (ln := 0) (by decide +kernel) (by decide +kernel) (by decide +kernel)) qw_63 qw_67 qw_4 ⟨(Nat.le_of_ble_eq_true rfl), (Nat.le_of_ble_eq_true rfl)⟩ dX5_init_46 (fun H G => ?_)
        obtain ⟨S12, eS12, hsp⟩ := hk_l hsp
        rw [eS12] at G
        refine lv_dup hx hb dX5_init_49 rfl ?_
        obtain ⟨r13, er13, hsp⟩ := hk_b hsp
        refine hk_callIN (rest := [.ref (g.1 + 48), .int 2, .ref (g.1 + 44)]) F9 G (kX10_init l g (hk_EE 49 45) F (g.1 + 49) S12 48 r13 (by decide +kernel) er13) qin_RX5_30 ⟨rfl, rfl, (Nat.le_of_ble_eq_true rfl), (Nat.le_of_ble_eq_true rfl)⟩ hl.1 (Nat.le_of_ble_eq_true rfl) ⟨(Nat.le_of_ble_eq_true rfl), (Nat.le_of_ble_eq_true rfl)⟩ dX5_init_50 (fun H locs G => ?_)
        refine hk_aast (E1 := (hk_EE 49 46)) (a := 44) (r := 48) (j := 2) (t := 2) (ci := 7) (ln := 8) F9 G (by decide) (by decide +kernel) (by decide +kernel) (by decide) rfl rfl (by decide +kernel) (by decide) (by decide) (by decide) (hk_setE (by decide +kernel) (by decide +kernel)) dX5_init_53 (fun H locs G => ?_)
        refine lv_iinc (v := 3) (lv' := [(1, .int 3), (0, .ref (g.1 + 41))]) hx hb dX5_init_54 hl (k := 0) rfl (by decide) (by decide) rfl (fun ls hl => ?_)
        refine lv_goto (tgt := 35) hx hb dX5_init_57 (by decide) ?_
        refine lv_iload_n hx hb dX5_init_35 rfl (lv_at hl 0 rfl) ?_
        refine lv_bipush (v := 8) hx hb dX5_init_36 (by decide) ?_
        refine lv_icmp_ge (tgt := 60) hx hb dX5_init_38 (by decide) (fun c14 => ?_) (fun c14 => ?_)
        · exact absurd c14 (by decide)
        · refine lv_aload_n hx hb dX5_init_41 rfl (lv_at hl 1 rfl) ?_
          refine hk_getR (r := 44) F9 G (by decide +kernel) hkc_3 (k := 1) (by decide) qw_155 rfl (by decide +kernel) dX5_init_42 ?_
          refine lv_iload_n hx hb dX5_init_45 rfl (lv_at hl 0 rfl) ?_
          refine hk_new (E1 := (hk_EE 50 46)) (a := 49) (b := 50) F9 G rfl ⟨rfl, rfl⟩ hkc_7 hkd_7 (hk_growE (kd := 8) (ln := 0) (by decide +kernel) (by decide +kernel) (by decide +kernel)) qw_63 qw_67 qw_4 ⟨(Nat.le_of_ble_eq_true rfl), (Nat.le_of_ble_eq_true rfl)⟩ dX5_init_46 (fun H G => ?_)
          obtain ⟨S15, eS15, hsp⟩ := hk_l hsp
          rw [eS15] at G
          refine lv_dup hx hb dX5_init_49 rfl ?_
          obtain ⟨r16, er16, hsp⟩ := hk_b hsp
          refine hk_callIN (rest := [.ref (g.1 + 49), .int 3, .ref (g.1 + 44)]) F9 G (kX10_init l g (hk_EE 50 46) F (g.1 + 50) S15 49 r16 (by decide +kernel) er16) qin_RX5_30 ⟨rfl, rfl, (Nat.le_of_ble_eq_true rfl), (Nat.le_of_ble_eq_true rfl)⟩ hl.1 (Nat.le_of_ble_eq_true rfl) ⟨(Nat.le_of_ble_eq_true rfl), (Nat.le_of_ble_eq_true rfl)⟩ dX5_init_50 (fun H locs G => ?_)
          refine hk_aast (E1 := (hk_EE 50 47)) (a := 44) (r := 49) (j := 3) (t := 2) (ci := 7) (ln := 8) F9 G (by decide) (by decide +kernel) (by decide +kernel) (by decide) rfl rfl (by decide +kernel) (by decide) (by decide) (by decide) (hk_setE (by decide +kernel) (by decide +kernel)) dX5_init_53 (fun H locs G => ?_)
          refine lv_iinc (v := 4) (lv' := [(1, .int 4), (0, .ref (g.1 + 41))]) hx hb dX5_init_54 hl (k := 0) rfl (by decide) (by decide) rfl (fun ls hl => ?_)
          refine lv_goto (tgt := 35) hx hb dX5_init_57 (by decide) ?_
          refine lv_iload_n hx hb dX5_init_35 rfl (lv_at hl 0 rfl) ?_
          refine lv_bipush (v := 8) hx hb dX5_init_36 (by decide) ?_
          refine lv_icmp_ge (tgt := 60) hx hb dX5_init_38 (by decide) (fun c17 => ?_) (fun c17 => ?_)
          · exact absurd c17 (by decide)
          · refine lv_aload_n hx hb dX5_init_41 rfl (lv_at hl 1 rfl) ?_
            refine hk_getR (r := 44) F9 G (by decide +kernel) hkc_3 (k := 1) (by decide) qw_155 rfl (by decide +kernel) dX5_init_42 ?_
            refine lv_iload_n hx hb dX5_init_45 rfl (lv_at hl 0 rfl) ?_
            refine hk_new (E1 := (hk_EE 51 47)) (a := 50) (b := 51) F9 G rfl ⟨rfl, rfl⟩ hkc_7 hkd_7 (hk_growE (kd := 8) (ln := 0) (by decide +kernel) (by decide +kernel) (by decide +kernel)) qw_63 qw_67 qw_4 ⟨(Nat.le_of_ble_eq_true rfl), (Nat.le_of_ble_eq_true rfl)⟩ dX5_init_46 (fun H G => ?_)
            obtain ⟨S18, eS18, hsp⟩ := hk_l hsp
            rw [eS18] at G
            refine lv_dup hx hb dX5_init_49 rfl ?_
            obtain ⟨r19, er19, hsp⟩ := hk_b hsp
            refine hk_callIN (rest := [.ref (g.1 + 50), .int 4, .ref (g.1 + 44)]) F9 G (kX10_init l g (hk_EE 51 47) F (g.1 + 51) S18 50 r19 (by decide +kernel) er19) qin_RX5_30 ⟨rfl, rfl, (Nat.le_of_ble_eq_true rfl), (Nat.le_of_ble_eq_true rfl)⟩ hl.1 (Nat.le_of_ble_eq_true rfl) ⟨(Nat.le_of_ble_eq_true rfl), (Nat.le_of_ble_eq_true rfl)⟩ dX5_init_50 (fun H locs G => ?_)
            refine hk_aast (E1 := (hk_EE 51 48)) (a := 44) (r := 50) (j := 4) (t := 2) (ci := 7) (ln := 8) F9 G (by decide) (by decide +kernel) (by decide +kernel) (by decide) rfl rfl (by decide +kernel) (by decide) (by decide) (by decide) (hk_setE (by decide +kernel) (by decide +kernel)) dX5_init_53 (fun H locs G => ?_)
            refine lv_iinc (v := 5) (lv' := [(1, .int 5), (0, .ref (g.1 + 41))]) hx hb dX5_init_54 hl (k := 0) rfl (by decide) (by decide) rfl (fun ls hl => ?_)
            refine lv_goto (tgt := 35) hx hb dX5_init_57 (by decide) ?_
            refine lv_iload_n hx hb dX5_init_35 rfl (lv_at hl 0 rfl) ?_
            refine lv_bipush (v := 8) hx hb dX5_init_36 (by decide) ?_
            refine lv_icmp_ge (tgt := 60) hx hb dX5_init_38 (by decide) (fun c20 => ?_) (fun c20 => ?_)
            · exact absurd c20 (by decide)
            · refine lv_aload_n hx hb dX5_init_41 rfl (lv_at hl 1 rfl) ?_
              refine hk_getR (r := 44) F9 G (by decide +kernel) hkc_3 (k := 1) (by decide) qw_155 rfl (by decide +kernel) dX5_init_42 ?_
              refine lv_iload_n hx hb dX5_init_45 rfl (lv_at hl 0 rfl) ?_
              refine hk_new (E1 := (hk_EE 52 48)) (a := 51) (b := 52) F9 G rfl ⟨rfl, rfl⟩ hkc_7 hkd_7 (hk_growE (kd := 8) (ln := 0) (by decide +kernel) (by decide +kernel) (by decide +kernel)) qw_63 qw_67 qw_4 ⟨(Nat.le_of_ble_eq_true rfl), (Nat.le_of_ble_eq_true rfl)⟩ dX5_init_46 (fun H G => ?_)
              obtain ⟨S21, eS21, hsp⟩ := hk_l hsp
              rw [eS21] at G
              refine lv_dup hx hb dX5_init_49 rfl ?_
              obtain ⟨r22, er22, hsp⟩ := hk_b hsp
              refine hk_callIN (rest := [.ref (g.1 + 51), .int 5, .ref (g.1 + 44)]) F9 G (kX10_init l g (hk_EE 52 48) F (g.1 + 52) S21 51 r22 (by decide +kernel) er22) qin_RX5_30 ⟨rfl, rfl, (Nat.le_of_ble_eq_true rfl), (Nat.le_of_ble_eq_true rfl)⟩ hl.1 (Nat.le_of_ble_eq_true rfl) ⟨(Nat.le_of_ble_eq_true rfl), (Nat.le_of_ble_eq_true rfl)⟩ dX5_init_50 (fun H locs G => ?_)
              refine hk_aast (E1 := (hk_EE 52 49)) (a := 44) (r := 51) (j := 5) (t := 2) (ci := 7) (ln := 8) F9 G (by decide) (by decide +kernel) (by decide +kernel) (by decide) rfl rfl (by decide +kernel) (by decide) (by decide) (by decide) (hk_setE (by decide +kernel) (by decide +kernel)) dX5_init_53 (fun H locs G => ?_)
              refine lv_iinc (v := 6) (lv' := [(1, .int 6), (0, .ref (g.1 + 41))]) hx hb dX5_init_54 hl (k := 0) rfl (by decide) (by decide) rfl (fun ls hl => ?_)
              refine lv_goto (tgt := 35) hx hb dX5_init_57 (by decide) ?_
              refine lv_iload_n hx hb dX5_init_35 rfl (lv_at hl 0 rfl) ?_
              refine lv_bipush (v := 8) hx hb dX5_init_36 (by decide) ?_
              refine lv_icmp_ge (tgt := 60) hx hb dX5_init_38 (by decide) (fun c23 => ?_) (fun c23 => ?_)
              · exact absurd c23 (by decide)
              · refine lv_aload_n hx hb dX5_init_41 rfl (lv_at hl 1 rfl) ?_
                refine hk_getR (r := 44) F9 G (by decide +kernel) hkc_3 (k := 1) (by decide) qw_155 rfl (by decide +kernel) dX5_init_42 ?_
                refine lv_iload_n hx hb dX5_init_45 rfl (lv_at hl 0 rfl) ?_
                refine hk_new (E1 := (hk_EE 53 49)) (a := 52) (b := 53) F9 G rfl ⟨rfl, rfl⟩ hkc_7 hkd_7 (hk_growE (kd := 8) (ln := 0) (by decide +kernel) (by decide +kernel) (by decide +kernel)) qw_63 qw_67 qw_4 ⟨(Nat.le_of_ble_eq_true rfl), (Nat.le_of_ble_eq_true rfl)⟩ dX5_init_46 (fun H G => ?_)
                obtain ⟨S24, eS24, hsp⟩ := hk_l hsp
                rw [eS24] at G
                refine lv_dup hx hb dX5_init_49 rfl ?_
                obtain ⟨r25, er25, hsp⟩ := hk_b hsp
                refine hk_callIN (rest := [.ref (g.1 + 52), .int 6, .ref (g.1 + 44)]) F9 G (kX10_init l g (hk_EE 53 49) F (g.1 + 53) S24 52 r25 (by decide +kernel) er25) qin_RX5_30 ⟨rfl, rfl, (Nat.le_of_ble_eq_true rfl), (Nat.le_of_ble_eq_true rfl)⟩ hl.1 (Nat.le_of_ble_eq_true rfl) ⟨(Nat.le_of_ble_eq_true rfl), (Nat.le_of_ble_eq_true rfl)⟩ dX5_init_50 (fun H locs G => ?_)
                refine hk_aast (E1 := (hk_EE 53 50)) (a := 44) (r := 52) (j := 6) (t := 2) (ci := 7) (ln := 8) F9 G (by decide) (by decide +kernel) (by decide +kernel) (by decide) rfl rfl (by decide +kernel) (by decide) (by decide) (by decide) (hk_setE (by decide +kernel) (by decide +kernel)) dX5_init_53 (fun H locs G => ?_)
                refine lv_iinc (v := 7) (lv' := [(1, .int 7), (0, .ref (g.1 + 41))]) hx hb dX5_init_54 hl (k := 0) rfl (by decide) (by decide) rfl (fun ls hl => ?_)
                refine lv_goto (tgt := 35) hx hb dX5_init_57 (by decide) ?_
                refine lv_iload_n hx hb dX5_init_35 rfl (lv_at hl 0 rfl) ?_
                refine lv_bipush (v := 8) hx hb dX5_init_36 (by decide) ?_
                refine lv_icmp_ge (tgt := 60) hx hb dX5_init_38 (by decide) (fun c26 => ?_) (fun c26 => ?_)
                · exact absurd c26 (by decide)
                · refine lv_aload_n hx hb dX5_init_41 rfl (lv_at hl 1 rfl) ?_
                  refine hk_getR (r := 44) F9 G (by decide +kernel) hkc_3 (k := 1) (by decide) qw_155 rfl (by decide +kernel) dX5_init_42 ?_
                  refine lv_iload_n hx hb dX5_init_45 rfl (lv_at hl 0 rfl) ?_
                  refine hk_new (E1 := (hk_EE 54 50)) (a := 53) (b := 54) F9 G rfl ⟨rfl, rfl⟩ hkc_7 hkd_7 (hk_growE (kd := 8) (ln := 0) (by decide +kernel) (by decide +kernel) (by decide +kernel)) qw_63 qw_67 qw_4 ⟨(Nat.le_of_ble_eq_true rfl), (Nat.le_of_ble_eq_true rfl)⟩ dX5_init_46 (fun H G => ?_)
                  obtain ⟨S27, eS27, hsp⟩ := hk_l hsp
                  rw [eS27] at G
                  refine lv_dup hx hb dX5_init_49 rfl ?_
                  obtain ⟨r28, er28, hsp⟩ := hk_b hsp
                  refine hk_callIN (rest := [.ref (g.1 + 53), .int 7, .ref (g.1 + 44)]) F9 G (kX10_init l g (hk_EE 54 50) F (g.1 + 54) S27 53 r28 (by decide +kernel) er28) qin_RX5_30 ⟨rfl, rfl, (Nat.le_of_ble_eq_true rfl), (Nat.le_of_ble_eq_true rfl)⟩ hl.1 (Nat.le_of_ble_eq_true rfl) ⟨(Nat.le_of_ble_eq_true rfl), (Nat.le_of_ble_eq_true rfl)⟩ dX5_init_50 (fun H locs G => ?_)
                  refine hk_aast (E1 := (hk_EE 54 51)) (a := 44) (r := 53) (j := 7) (t := 2) (ci := 7) (ln := 8) F9 G (by decide) (by decide +kernel) (by decide +kernel) (by decide) rfl rfl (by decide +kernel) (by decide) (by decide) (by decide) (hk_setE (by decide +kernel) (by decide +kernel)) dX5_init_53 (fun H locs G => ?_)
                  refine lv_iinc (v := 8) (lv' := [(1, .int 8), (0, .ref (g.1 + 41))]) hx hb dX5_init_54 hl (k := 0) rfl (by decide) (by decide) rfl (fun ls hl => ?_)
                  refine lv_goto (tgt := 35) hx hb dX5_init_57 (by decide) ?_
                  refine lv_iload_n hx hb dX5_init_35 rfl (lv_at hl 0 rfl) ?_
                  refine lv_bipush (v := 8) hx hb dX5_init_36 (by decide) ?_
                  refine lv_icmp_ge (tgt := 60) hx hb dX5_init_38 (by decide) (fun c29 => ?_) (fun c29 => ?_)
                  · refine lv_iconst (v := 0) hx hb dX5_init_60 (by decide) ?_
                    refine lv_istore_n (lv' := [(1, .int 0), (0, .ref (g.1 + 41))]) hx hb dX5_init_61 rfl hl (by decide) rfl (fun ls hl => ?_)
                    refine lv_iload_n hx hb dX5_init_62 rfl (lv_at hl 0 rfl) ?_
                    refine lv_bipush (v := 6) hx hb dX5_init_63 (by decide) ?_
                    refine lv_icmp_ge (tgt := 87) hx hb dX5_init_65 (by decide) (fun c30 => ?_) (fun c30 => ?_)
                    · exact absurd c30 (by decide)
                    · refine lv_aload_n hx hb dX5_init_68 rfl (lv_at hl 1 rfl) ?_
                      refine hk_getR (r := 45) F9 G (by decide +kernel) hkc_3 (k := 3) (by decide) qw_158 rfl (by decide +kernel) dX5_init_69 ?_
                      refine lv_iload_n hx hb dX5_init_72 rfl (lv_at hl 0 rfl) ?_
                      refine hk_new (E1 := (hk_EE 55 51)) (a := 54) (b := 55) F9 G rfl ⟨rfl, rfl⟩ hkc_4 hkd_4 (hk_growE (kd := 5) (ln := 0) (by decide +kernel) (by decide +kernel) (by decide +kernel)) qw_65 qw_116 qw_5 ⟨(Nat.le_of_ble_eq_true rfl), (Nat.le_of_ble_eq_true rfl)⟩ dX5_init_73 (fun H G => ?_)
                      obtain ⟨S31, eS31, hsp⟩ := hk_l hsp
                      rw [eS31] at G
                      refine lv_dup hx hb dX5_init_76 rfl ?_
                      obtain ⟨r32, er32, hsp⟩ := hk_b hsp
                      refine hk_callIN (rest := [.ref (g.1 + 54), .int 0, .ref (g.1 + 45)]) F9 G (kX6_init l g (hk_EE 55 51) F (g.1 + 55) S31 54 r32 (by decide +kernel) er32) qin_RX5_31 ⟨rfl, rfl, (Nat.le_of_ble_eq_true rfl), (Nat.le_of_ble_eq_true rfl)⟩ hl.1 (Nat.le_of_ble_eq_true rfl) ⟨(Nat.le_of_ble_eq_true rfl), (Nat.le_of_ble_eq_true rfl)⟩ dX5_init_77 (fun H locs G => ?_)
                      refine hk_aast (E1 := (hk_EE 55 52)) (a := 45) (r := 54) (j := 0) (t := 1) (ci := 4) (ln := 6) F9 G (by decide) (by decide +kernel) (by decide +kernel) (by decide) rfl rfl (by decide +kernel) (by decide) (by decide) (by decide) (hk_setE (by decide +kernel) (by decide +kernel)) dX5_init_80 (fun H locs G => ?_)
                      refine lv_iinc (v := 1) (lv' := [(1, .int 1), (0, .ref (g.1 + 41))]) hx hb dX5_init_81 hl (k := 0) rfl (by decide) (by decide) rfl (fun ls hl => ?_)
                      refine lv_goto (tgt := 62) hx hb dX5_init_84 (by decide) ?_
                      refine lv_iload_n hx hb dX5_init_62 rfl (lv_at hl 0 rfl) ?_
                      refine lv_bipush (v := 6) hx hb dX5_init_63 (by decide) ?_
                      refine lv_icmp_ge (tgt := 87) hx hb dX5_init_65 (by decide) (fun c33 => ?_) (fun c33 => ?_)
                      · exact absurd c33 (by decide)
                      · refine lv_aload_n hx hb dX5_init_68 rfl (lv_at hl 1 rfl) ?_
                        refine hk_getR (r := 45) F9 G (by decide +kernel) hkc_3 (k := 3) (by decide) qw_158 rfl (by decide +kernel) dX5_init_69 ?_
                        refine lv_iload_n hx hb dX5_init_72 rfl (lv_at hl 0 rfl) ?_
                        refine hk_new (E1 := (hk_EE 56 52)) (a := 55) (b := 56) F9 G rfl ⟨rfl, rfl⟩ hkc_4 hkd_4 (hk_growE (kd := 5) (ln := 0) (by decide +kernel) (by decide +kernel) (by decide +kernel)) qw_65 qw_116 qw_5 ⟨(Nat.le_of_ble_eq_true rfl), (Nat.le_of_ble_eq_true rfl)⟩ dX5_init_73 (fun H G => ?_)
                        obtain ⟨S34, eS34, hsp⟩ := hk_l hsp
                        rw [eS34] at G
                        refine lv_dup hx hb dX5_init_76 rfl ?_
                        obtain ⟨r35, er35, hsp⟩ := hk_b hsp
                        refine hk_callIN (rest := [.ref (g.1 + 55), .int 1, .ref (g.1 + 45)]) F9 G (kX6_init l g (hk_EE 56 52) F (g.1 + 56) S34 55 r35 (by decide +kernel) er35) qin_RX5_31 ⟨rfl, rfl, (Nat.le_of_ble_eq_true rfl), (Nat.le_of_ble_eq_true rfl)⟩ hl.1 (Nat.le_of_ble_eq_true rfl) ⟨(Nat.le_of_ble_eq_true rfl), (Nat.le_of_ble_eq_true rfl)⟩ dX5_init_77 (fun H locs G => ?_)
                        refine hk_aast (E1 := (hk_EE 56 53)) (a := 45) (r := 55) (j := 1) (t := 1) (ci := 4) (ln := 6) F9 G (by decide) (by decide +kernel) (by decide +kernel) (by decide) rfl rfl (by decide +kernel) (by decide) (by decide) (by decide) (hk_setE (by decide +kernel) (by decide +kernel)) dX5_init_80 (fun H locs G => ?_)
                        refine lv_iinc (v := 2) (lv' := [(1, .int 2), (0, .ref (g.1 + 41))]) hx hb dX5_init_81 hl (k := 0) rfl (by decide) (by decide) rfl (fun ls hl => ?_)
                        refine lv_goto (tgt := 62) hx hb dX5_init_84 (by decide) ?_
                        refine lv_iload_n hx hb dX5_init_62 rfl (lv_at hl 0 rfl) ?_
                        refine lv_bipush (v := 6) hx hb dX5_init_63 (by decide) ?_
                        refine lv_icmp_ge (tgt := 87) hx hb dX5_init_65 (by decide) (fun c36 => ?_) (fun c36 => ?_)
                        · exact absurd c36 (by decide)
                        · refine lv_aload_n hx hb dX5_init_68 rfl (lv_at hl 1 rfl) ?_
                          refine hk_getR (r := 45) F9 G (by decide +kernel) hkc_3 (k := 3) (by decide) qw_158 rfl (by decide +kernel) dX5_init_69 ?_
                          refine lv_iload_n hx hb dX5_init_72 rfl (lv_at hl 0 rfl) ?_
                          refine hk_new (E1 := (hk_EE 57 53)) (a := 56) (b := 57) F9 G rfl ⟨rfl, rfl⟩ hkc_4 hkd_4 (hk_growE (kd := 5) (ln := 0) (by decide +kernel) (by decide +kernel) (by decide +kernel)) qw_65 qw_116 qw_5 ⟨(Nat.le_of_ble_eq_true rfl), (Nat.le_of_ble_eq_true rfl)⟩ dX5_init_73 (fun H G => ?_)
                          obtain ⟨S37, eS37, hsp⟩ := hk_l hsp
                          rw [eS37] at G
                          refine lv_dup hx hb dX5_init_76 rfl ?_
                          obtain ⟨r38, er38, hsp⟩ := hk_b hsp
                          refine hk_callIN (rest := [.ref (g.1 + 56), .int 2, .ref (g.1 + 45)]) F9 G (kX6_init l g (hk_EE 57 53) F (g.1 + 57) S37 56 r38 (by decide +kernel) er38) qin_RX5_31 ⟨rfl, rfl, (Nat.le_of_ble_eq_true rfl), (Nat.le_of_ble_eq_true rfl)⟩ hl.1 (Nat.le_of_ble_eq_true rfl) ⟨(Nat.le_of_ble_eq_true rfl), (Nat.le_of_ble_eq_true rfl)⟩ dX5_init_77 (fun H locs G => ?_)
                          refine hk_aast (E1 := (hk_EE 57 54)) (a := 45) (r := 56) (j := 2) (t := 1) (ci := 4) (ln := 6) F9 G (by decide) (by decide +kernel) (by decide +kernel) (by decide) rfl rfl (by decide +kernel) (by decide) (by decide) (by decide) (hk_setE (by decide +kernel) (by decide +kernel)) dX5_init_80 (fun H locs G => ?_)
                          refine lv_iinc (v := 3) (lv' := [(1, .int 3), (0, .ref (g.1 + 41))]) hx hb dX5_init_81 hl (k := 0) rfl (by decide) (by decide) rfl (fun ls hl => ?_)
                          refine lv_goto (tgt := 62) hx hb dX5_init_84 (by decide) ?_
                          refine lv_iload_n hx hb dX5_init_62 rfl (lv_at hl 0 rfl) ?_
                          refine lv_bipush (v := 6) hx hb dX5_init_63 (by decide) ?_
                          refine lv_icmp_ge (tgt := 87) hx hb dX5_init_65 (by decide) (fun c39 => ?_) (fun c39 => ?_)
                          · exact absurd c39 (by decide)
                          · refine lv_aload_n hx hb dX5_init_68 rfl (lv_at hl 1 rfl) ?_
                            refine hk_getR (r := 45) F9 G (by decide +kernel) hkc_3 (k := 3) (by decide) qw_158 rfl (by decide +kernel) dX5_init_69 ?_
                            refine lv_iload_n hx hb dX5_init_72 rfl (lv_at hl 0 rfl) ?_
                            refine hk_new (E1 := (hk_EE 58 54)) (a := 57) (b := 58) F9 G rfl ⟨rfl, rfl⟩ hkc_4 hkd_4 (hk_growE (kd := 5) (ln := 0) (by decide +kernel) (by decide +kernel) (by decide +kernel)) qw_65 qw_116 qw_5 ⟨(Nat.le_of_ble_eq_true rfl), (Nat.le_of_ble_eq_true rfl)⟩ dX5_init_73 (fun H G => ?_)
                            obtain ⟨S40, eS40, hsp⟩ := hk_l hsp
                            rw [eS40] at G
                            refine lv_dup hx hb dX5_init_76 rfl ?_
                            obtain ⟨r41, er41, hsp⟩ := hk_b hsp
                            refine hk_callIN (rest := [.ref (g.1 + 57), .int 3, .ref (g.1 + 45)]) F9 G (kX6_init l g (hk_EE 58 54) F (g.1 + 58) S40 57 r41 (by decide +kernel) er41) qin_RX5_31 ⟨rfl, rfl, (Nat.le_of_ble_eq_true rfl), (Nat.le_of_ble_eq_true rfl)⟩ hl.1 (Nat.le_of_ble_eq_true rfl) ⟨(Nat.le_of_ble_eq_true rfl), (Nat.le_of_ble_eq_true rfl)⟩ dX5_init_77 (fun H locs G => ?_)
                            refine hk_aast (E1 := (hk_EE 58 55)) (a := 45) (r := 57) (j := 3) (t := 1) (ci := 4) (ln := 6) F9 G (by decide) (by decide +kernel) (by decide +kernel) (by decide) rfl rfl (by decide +kernel) (by decide) (by decide) (by decide) (hk_setE (by decide +kernel) (by decide +kernel)) dX5_init_80 (fun H locs G => ?_)
                            refine lv_iinc (v := 4) (lv' := [(1, .int 4), (0, .ref (g.1 + 41))]) hx hb dX5_init_81 hl (k := 0) rfl (by decide) (by decide) rfl (fun ls hl => ?_)
                            refine lv_goto (tgt := 62) hx hb dX5_init_84 (by decide) ?_
                            refine lv_iload_n hx hb dX5_init_62 rfl (lv_at hl 0 rfl) ?_
                            refine lv_bipush (v := 6) hx hb dX5_init_63 (by decide) ?_
                            refine lv_icmp_ge (tgt := 87) hx hb dX5_init_65 (by decide) (fun c42 => ?_) (fun c42 => ?_)
                            · exact absurd c42 (by decide)
                            · refine lv_aload_n hx hb dX5_init_68 rfl (lv_at hl 1 rfl) ?_
                              refine hk_getR (r := 45) F9 G (by decide +kernel) hkc_3 (k := 3) (by decide) qw_158 rfl (by decide +kernel) dX5_init_69 ?_
                              refine lv_iload_n hx hb dX5_init_72 rfl (lv_at hl 0 rfl) ?_
                              refine hk_new (E1 := (hk_EE 59 55)) (a := 58) (b := 59) F9 G rfl ⟨rfl, rfl⟩ hkc_4 hkd_4 (hk_growE (kd := 5) (ln := 0) (by decide +kernel) (by decide +kernel) (by decide +kernel)) qw_65 qw_116 qw_5 ⟨(Nat.le_of_ble_eq_true rfl), (Nat.le_of_ble_eq_true rfl)⟩ dX5_init_73 (fun H G => ?_)
                              obtain ⟨S43, eS43, hsp⟩ := hk_l hsp
                              rw [eS43] at G
                              refine lv_dup hx hb dX5_init_76 rfl ?_
                              obtain ⟨r44, er44, hsp⟩ := hk_b hsp
                              refine hk_callIN (rest := [.ref (g.1 + 58), .int 4, .ref (g.1 + 45)]) F9 G (kX6_init l g (hk_EE 59 55) F (g.1 + 59) S43 58 r44 (by decide +kernel) er44) qin_RX5_31 ⟨rfl, rfl, (Nat.le_of_ble_eq_true rfl), (Nat.le_of_ble_eq_true rfl)⟩ hl.1 (Nat.le_of_ble_eq_true rfl) ⟨(Nat.le_of_ble_eq_true rfl), (Nat.le_of_ble_eq_true rfl)⟩ dX5_init_77 (fun H locs G => ?_)
                              refine hk_aast (E1 := (hk_EE 59 56)) (a := 45) (r := 58) (j := 4) (t := 1) (ci := 4) (ln := 6) F9 G (by decide) (by decide +kernel) (by decide +kernel) (by decide) rfl rfl (by decide +kernel) (by decide) (by decide) (by decide) (hk_setE (by decide +kernel) (by decide +kernel)) dX5_init_80 (fun H locs G => ?_)
                              refine lv_iinc (v := 5) (lv' := [(1, .int 5), (0, .ref (g.1 + 41))]) hx hb dX5_init_81 hl (k := 0) rfl (by decide) (by decide) rfl (fun ls hl => ?_)
                              refine lv_goto (tgt := 62) hx hb dX5_init_84 (by decide) ?_
                              refine lv_iload_n hx hb dX5_init_62 rfl (lv_at hl 0 rfl) ?_
                              refine lv_bipush (v := 6) hx hb dX5_init_63 (by decide) ?_
                              refine lv_icmp_ge (tgt := 87) hx hb dX5_init_65 (by decide) (fun c45 => ?_) (fun c45 => ?_)
                              · exact absurd c45 (by decide)
                              · refine lv_aload_n hx hb dX5_init_68 rfl (lv_at hl 1 rfl) ?_
                                refine hk_getR (r := 45) F9 G (by decide +kernel) hkc_3 (k := 3) (by decide) qw_158 rfl (by decide +kernel) dX5_init_69 ?_
                                refine lv_iload_n hx hb dX5_init_72 rfl (lv_at hl 0 rfl) ?_
                                refine hk_new (E1 := (hk_EE 60 56)) (a := 59) (b := 60) F9 G rfl ⟨rfl, rfl⟩ hkc_4 hkd_4 (hk_growE (kd := 5) (ln := 0) (by decide +kernel) (by decide +kernel) (by decide +kernel)) qw_65 qw_116 qw_5 ⟨(Nat.le_of_ble_eq_true rfl), (Nat.le_of_ble_eq_true rfl)⟩ dX5_init_73 (fun H G => ?_)
                                obtain ⟨S46, eS46, hsp⟩ := hk_l hsp
                                rw [eS46] at G
                                refine lv_dup hx hb dX5_init_76 rfl ?_
                                obtain ⟨r47, er47, hsp⟩ := hk_b hsp
                                refine hk_callIN (rest := [.ref (g.1 + 59), .int 5, .ref (g.1 + 45)]) F9 G (kX6_init l g (hk_EE 60 56) F (g.1 + 60) S46 59 r47 (by decide +kernel) er47) qin_RX5_31 ⟨rfl, rfl, (Nat.le_of_ble_eq_true rfl), (Nat.le_of_ble_eq_true rfl)⟩ hl.1 (Nat.le_of_ble_eq_true rfl) ⟨(Nat.le_of_ble_eq_true rfl), (Nat.le_of_ble_eq_true rfl)⟩ dX5_init_77 (fun H locs G => ?_)
                                refine hk_aast (E1 := (hk_EE 60 57)) (a := 45) (r := 59) (j := 5) (t := 1) (ci := 4) (ln := 6) F9 G (by decide) (by decide +kernel) (by decide +kernel) (by decide) rfl rfl (by decide +kernel) (by decide) (by decide) (by decide) (hk_setE (by decide +kernel) (by decide +kernel)) dX5_init_80 (fun H locs G => ?_)
                                refine lv_iinc (v := 6) (lv' := [(1, .int 6), (0, .ref (g.1 + 41))]) hx hb dX5_init_81 hl (k := 0) rfl (by decide) (by decide) rfl (fun ls hl => ?_)
                                refine lv_goto (tgt := 62) hx hb dX5_init_84 (by decide) ?_
                                refine lv_iload_n hx hb dX5_init_62 rfl (lv_at hl 0 rfl) ?_
                                refine lv_bipush (v := 6) hx hb dX5_init_63 (by decide) ?_
                                refine lv_icmp_ge (tgt := 87) hx hb dX5_init_65 (by decide) (fun c48 => ?_) (fun c48 => ?_)
                                · refine lv_aload_n hx hb dX5_init_87 rfl (lv_at hl 1 rfl) ?_
                                  obtain ⟨r49, er49, hsp⟩ := hk_b hsp
                                  refine hk_callVv (As := []) (rest := []) F9 G (by decide +kernel) hkc_3 rfl (kX5_clear l g (hk_EE 60 57) F (g.1 + 60) r47 41 r49 (by decide +kernel) er49) qv_RX5_32 ⟨rfl, rfl, (Nat.le_of_ble_eq_true rfl), (Nat.le_of_ble_eq_true rfl)⟩ rfl hl.1 rfl (Nat.le_of_ble_eq_true rfl) ⟨(Nat.le_of_ble_eq_true rfl), (Nat.le_of_ble_eq_true rfl)⟩ dX5_init_88 (fun H locs G => ?_)
                                  obtain rfl := hk_s hsp
                                  exact W.vret hx hb hr (fun t ht hW => hk_end G ht hW) G.2.1.2.2 dX5_init_91
                                · exact absurd c48 (by decide)
                  · exact absurd c29 (by decide)
def mX1_init_61 (F : Nat) (S : hk_S) : Option (hk_S) :=
hk_let (va_up S 62 (fun _ => 0)) (fun S1 => some (S1))
set_option maxHeartbeats 4000000 in
set_option maxRecDepth 100000 in
theorem kX1_init_61 (l : Launch) (g : hk_G) (F : Nat) (S : hk_S) (o : hk_S) (hsp : mX1_init_61 F S = some o) : Met l yX1_init (hk_ws yX1_init cX1_init 1 (Option.none : Option Jvm.ClassFile.FieldType)) ({ frames := 1, cells := 1, slots := 3, locals := 12 }) (hk_Pc g (hk_EE 62 58) S (g.1 + 62) [.ref (g.1 + 61)]) (hk_Q g (hk_EE 63 59) o (g.1 + 63) none) 1 3 (hk_A g) := by
  refine Met.ofW (cc := cX1_init) (maxL := 1) (ret := (Option.none : Option Jvm.ClassFile.FieldType)) (by decide) rfl ?_
  intro p e s m args below meth c s₁ B hml hv
  obtain ⟨rfl, G⟩ := hk_begin hv
  have F9 : CallFix p m c cX1_init 1 s [.ref (g.1 + 61)].toArray hk_W RX1 := ⟨B.exec, B.bytes, hml, findClass_of_methodNamed B.named, fun w h => atoms_spec (ws := hk_ws yX1_init cX1_init 1 (Option.none : Option Jvm.ClassFile.FieldType)) B.pre w (hk_in h)⟩
  have hin : meth.name = "<init>" := (name_of_methodNamed B.named B.method).1
  have hx := B.exec
  have hb := B.bytes
  have hr := B.returns
  have hlocks := B.notSynchronized
  have hl := lv_entry ([.ref (g.1 + 61)]) (n := 1) (Nat.le_of_ble_eq_true rfl)
  rw [lg_entry_eq]
  generalize (lg_sl ([.ref (g.1 + 61)]) ++ List.replicate (1 - (lg_sl ([.ref (g.1 + 61)])).length) Slot.unset).toArray = ls at hl ⊢
  have hl : lv_has ls 1 [(0, .ref (g.1 + 61))] := hl
  unfold mX1_init_61 at hsp
  have G : hk_GG g (hk_EE 62 58) S (g.1 + 62) s s.heap [] := G
  refine lv_aload_n hx hb dX1_init_0 rfl (lv_at hl 0 rfl) ?_
  refine hk_obj F9 qw_40 qw_27 qw_28 hl.1 ⟨(Nat.le_of_ble_eq_true rfl), (Nat.le_of_ble_eq_true rfl)⟩ dX1_init_1 ?_
  refine lv_aload_n hx hb dX1_init_4 rfl (lv_at hl 0 rfl) ?_
  refine lv_iconst (v := 3) hx hb dX1_init_5 (by decide) ?_
  refine hk_newA (E1 := (hk_EE 63 58)) (a := 62) (b := 63) (ft := .int) (t := 2) (ln := 3) (kd := 13) F9 G rfl ⟨rfl, rfl⟩ rfl (fun _ h => nomatch h) rfl (fun I _ => hk_cell_i (t := 2) (by decide)) rfl (hk_growE (kd := 13) (ln := 3) (by decide +kernel) (by decide +kernel) (by decide +kernel)) qw_62 (by decide) (by decide) (by decide) ⟨(Nat.le_of_ble_eq_true rfl), (Nat.le_of_ble_eq_true rfl)⟩ dX1_init_6 (fun H G => ?_)
  obtain ⟨S1, eS1, hsp⟩ := hk_l hsp
  rw [eS1] at G
  refine hk_putR (E1 := (hk_EE 63 59)) (a := 61) (r := 62) (k := 4) F9 G (by decide +kernel) hkc_0 (by decide) qw_50 rfl rfl hin rfl (tyX1_ok 4 (by decide)) (fun _ => rfl) (fun _ => rfl) (hk_setE (by decide +kernel) (by decide +kernel)) dX1_init_8 (fun H locs G => ?_)
  obtain rfl := hk_s hsp
  exact W.vret hx hb hr (fun t ht hW => hk_end G ht hW) G.2.1.2.2 dX1_init_11
def mX5_init_60 (F : Nat) (S : hk_S) : Option (hk_S) :=
hk_let (va_up S 61 (hk_i0 0)) (fun S1 => (mX1_init_61 F S1).bind (fun r2 => hk_let (va_up r2 63 (fun _ => 0)) (fun S3 => hk_let (va_up S3 64 (fun _ => 0)) (fun S4 => hk_let (va_up S4 65 (hk_i0 7)) (fun S6 => (mX10_init (hk_EE 66 62) F S6 65).bind (fun r7 => hk_let (va_up r7 66 (hk_i0 7)) (fun S9 => (mX10_init (hk_EE 67 63) F S9 66).bind (fun r10 => hk_let (va_up r10 67 (hk_i0 7)) (fun S12 => (mX10_init (hk_EE 68 64) F S12 67).bind (fun r13 => hk_let (va_up r13 68 (hk_i0 7)) (fun S15 => (mX10_init (hk_EE 69 65) F S15 68).bind (fun r16 => hk_let (va_up r16 69 (hk_i0 7)) (fun S18 => (mX10_init (hk_EE 70 66) F S18 69).bind (fun r19 => hk_let (va_up r19 70 (hk_i0 7)) (fun S21 => (mX10_init (hk_EE 71 67) F S21 70).bind (fun r22 => hk_let (va_up r22 71 (hk_i0 7)) (fun S24 => (mX10_init (hk_EE 72 68) F S24 71).bind (fun r25 => hk_let (va_up r25 72 (hk_i0 7)) (fun S27 => (mX10_init (hk_EE 73 69) F S27 72).bind (fun r28 => hk_let (va_up r28 73 (hk_i0 4)) (fun S31 => (mX6_init (hk_EE 74 70) F S31 73).bind (fun r32 => hk_let (va_up r32 74 (hk_i0 4)) (fun S34 => (mX6_init (hk_EE 75 71) F S34 74).bind (fun r35 => hk_let (va_up r35 75 (hk_i0 4)) (fun S37 => (mX6_init (hk_EE 76 72) F S37 75).bind (fun r38 => hk_let (va_up r38 76 (hk_i0 4)) (fun S40 => (mX6_init (hk_EE 77 73) F S40 76).bind (fun r41 => hk_let (va_up r41 77 (hk_i0 4)) (fun S43 => (mX6_init (hk_EE 78 74) F S43 77).bind (fun r44 => hk_let (va_up r44 78 (hk_i0 4)) (fun S46 => (mX6_init (hk_EE 79 75) F S46 78).bind (fun r47 => (mX5_clear (hk_EE 79 76) F r47 60).bind (fun r49 => some (r49))))))))))))))))))))))))))))))))))
set_option maxHeartbeats 4000000 in
set_option maxRecDepth 100000 in
theorem kX5_init_60 (l : Launch) (g : hk_G) (F : Nat) (S : hk_S) (o : hk_S) (hsp : mX5_init_60 F S = some o) : Met l yX5_init (hk_ws yX5_init cX5_init 2 (Option.none : Option Jvm.ClassFile.FieldType)) ({ frames := 3, cells := 18, slots := 120, locals := 62 }) (hk_Pc g (hk_EE 61 58) S (g.1 + 61) [.ref (g.1 + 60)]) (hk_Q g (hk_EE 79 76) o (g.1 + 79) none) 18 120 (hk_A g) := by
  refine Met.ofW (cc := cX5_init) (maxL := 2) (ret := (Option.none : Option Jvm.ClassFile.FieldType)) (by decide) rfl ?_
  intro p e s m args below meth c s₁ B hml hv
  obtain ⟨rfl, G⟩ := hk_begin hv
  have F9 : CallFix p m c cX5_init 2 s [.ref (g.1 + 60)].toArray hk_W RX5 := ⟨B.exec, B.bytes, hml, findClass_of_methodNamed B.named, fun w h => atoms_spec (ws := hk_ws yX5_init cX5_init 2 (Option.none : Option Jvm.ClassFile.FieldType)) B.pre w (hk_in h)⟩
  have hin : meth.name = "<init>" := (name_of_methodNamed B.named B.method).1
  have hx := B.exec
  have hb := B.bytes
  have hr := B.returns
  have hlocks := B.notSynchronized
  have hl := lv_entry ([.ref (g.1 + 60)]) (n := 2) (Nat.le_of_ble_eq_true rfl)
  rw [lg_entry_eq]
  generalize (lg_sl ([.ref (g.1 + 60)]) ++ List.replicate (2 - (lg_sl ([.ref (g.1 + 60)])).length) Slot.unset).toArray = ls at hl ⊢
  have hl : lv_has ls 2 [(0, .ref (g.1 + 60))] := hl
  unfold mX5_init_60 at hsp
  have G : hk_GG g (hk_EE 61 58) S (g.1 + 61) s s.heap [] := G
  refine lv_aload_n hx hb dX5_init_0 rfl (lv_at hl 0 rfl) ?_
  refine hk_obj F9 qw_34 qw_27 qw_28 hl.1 ⟨(Nat.le_of_ble_eq_true rfl), (Nat.le_of_ble_eq_true rfl)⟩ dX5_init_1 ?_
  refine lv_aload_n hx hb dX5_init_4 rfl (lv_at hl 0 rfl) ?_
  refine hk_new (E1 := (hk_EE 62 58)) (a := 61) (b := 62) F9 G rfl ⟨rfl, rfl⟩ hkc_0 hkd_0 (hk_growE (kd := 1) (ln := 0) (by decide +kernel) (by decide +kernel) (by decide +kernel)) qw_35 qw_36 qw_3 ⟨(Nat.le_of_ble_eq_true rfl), (Nat.le_of_ble_eq_true rfl)⟩ dX5_init_5 (fun H G => ?_)
  obtain ⟨S1, eS1, hsp⟩ := hk_l hsp
  rw [eS1] at G
  refine lv_dup hx hb dX5_init_8 rfl ?_
  obtain ⟨r2, er2, hsp⟩ := hk_b hsp
  refine hk_callIN (rest := [.ref (g.1 + 61), .ref (g.1 + 60)]) F9 G (kX1_init_61 l g F S1 r2 er2) qin_RX5_11 ⟨rfl, rfl, (Nat.le_of_ble_eq_true rfl), (Nat.le_of_ble_eq_true rfl)⟩ hl.1 (Nat.le_of_ble_eq_true rfl) ⟨(Nat.le_of_ble_eq_true rfl), (Nat.le_of_ble_eq_true rfl)⟩ dX5_init_9 (fun H locs G => ?_)
  refine hk_putR (E1 := (hk_EE 63 60)) (a := 60) (r := 61) (k := 0) F9 G (by decide +kernel) hkc_3 (by decide) qw_153 rfl rfl hin rfl (tyX5_ok 0 (by decide)) (fun _ => rfl) (fun _ => rfl) (hk_setE (by decide +kernel) (by decide +kernel)) dX5_init_12 (fun H locs G => ?_)
  refine lv_aload_n hx hb dX5_init_15 rfl (lv_at hl 0 rfl) ?_
  refine lv_bipush (v := 8) hx hb dX5_init_16 (by decide) ?_
  refine hk_newQ (E1 := (hk_EE 64 60)) (a := 63) (b := 64) (t := 2) (ln := 8) F9 G rfl ⟨rfl, rfl⟩ (by decide) rfl G.2.2.1.2.2.2.2 (hk_growE (kd := 16) (ln := 8) (by decide +kernel) (by decide +kernel) (by decide +kernel)) qw_63 (by decide) (by decide) (by decide) ⟨(Nat.le_of_ble_eq_true rfl), (Nat.le_of_ble_eq_true rfl)⟩ dX5_init_18 (fun H G => ?_)
  obtain ⟨S3, eS3, hsp⟩ := hk_l hsp
  rw [eS3] at G
  refine hk_putR (E1 := (hk_EE 64 61)) (a := 60) (r := 63) (k := 1) F9 G (by decide +kernel) hkc_3 (by decide) qw_155 rfl rfl hin rfl (tyX5_ok 1 (by decide)) (fun _ => rfl) (fun _ => rfl) (hk_setE (by decide +kernel) (by decide +kernel)) dX5_init_21 (fun H locs G => ?_)
  refine lv_aload_n hx hb dX5_init_24 rfl (lv_at hl 0 rfl) ?_
  refine lv_bipush (v := 6) hx hb dX5_init_25 (by decide) ?_
  refine hk_newQ (E1 := (hk_EE 65 61)) (a := 64) (b := 65) (t := 1) (ln := 6) F9 G rfl ⟨rfl, rfl⟩ (by decide) rfl G.2.2.1.2.2.2.1 (hk_growE (kd := 15) (ln := 6) (by decide +kernel) (by decide +kernel) (by decide +kernel)) qw_65 (by decide) (by decide) (by decide) ⟨(Nat.le_of_ble_eq_true rfl), (Nat.le_of_ble_eq_true rfl)⟩ dX5_init_27 (fun H G => ?_)
  obtain ⟨S4, eS4, hsp⟩ := hk_l hsp
  rw [eS4] at G
  refine hk_putR (E1 := (hk_EE 65 62)) (a := 60) (r := 64) (k := 3) F9 G (by decide +kernel) hkc_3 (by decide) qw_158 rfl rfl hin rfl (tyX5_ok 3 (by decide)) (fun _ => rfl) (fun _ => rfl) (hk_setE (by decide +kernel) (by decide +kernel)) dX5_init_30 (fun H locs G => ?_)
  refine lv_iconst (v := 0) hx hb dX5_init_33 (by decide) ?_
  refine lv_istore_n (lv' := [(1, .int 0), (0, .ref (g.1 + 60))]) hx hb dX5_init_34 rfl hl (by decide) rfl (fun ls hl => ?_)
  refine lv_iload_n hx hb dX5_init_35 rfl (lv_at hl 0 rfl) ?_
  refine lv_bipush (v := 8) hx hb dX5_init_36 (by decide) ?_
  refine lv_icmp_ge (tgt := 60) hx hb dX5_init_38 (by decide) (fun c5 => ?_) (fun c5 => ?_)
  · exact absurd c5 (by decide)
  · refine lv_aload_n hx hb dX5_init_41 rfl (lv_at hl 1 rfl) ?_
    refine hk_getR (r := 63) F9 G (by decide +kernel) hkc_3 (k := 1) (by decide) qw_155 rfl (by decide +kernel) dX5_init_42 ?_
    refine lv_iload_n hx hb dX5_init_45 rfl (lv_at hl 0 rfl) ?_
    refine hk_new (E1 := (hk_EE 66 62)) (a := 65) (b := 66) F9 G rfl ⟨rfl, rfl⟩ hkc_7 hkd_7 (hk_growE (kd := 8) (ln := 0) (by decide +kernel) (by decide +kernel) (by decide +kernel)) qw_63 qw_67 qw_4 ⟨(Nat.le_of_ble_eq_true rfl), (Nat.le_of_ble_eq_true rfl)⟩ dX5_init_46 (fun H G => ?_)
    obtain ⟨S6, eS6, hsp⟩ := hk_l hsp
    rw [eS6] at G
    refine lv_dup hx hb dX5_init_49 rfl ?_
    obtain ⟨r7, er7, hsp⟩ := hk_b hsp
    refine hk_callIN (rest := [.ref (g.1 + 65), .int 0, .ref (g.1 + 63)]) F9 G (kX10_init l g (hk_EE 66 62) F (g.1 + 66) S6 65 r7 (by decide +kernel) er7) qin_RX5_30 ⟨rfl, rfl, (Nat.le_of_ble_eq_true rfl), (Nat.le_of_ble_eq_true rfl)⟩ hl.1 (Nat.le_of_ble_eq_true rfl) ⟨(Nat.le_of_ble_eq_true rfl), (Nat.le_of_ble_eq_true rfl)⟩ dX5_init_50 (fun H locs G => ?_)
    refine hk_aast (E1 := (hk_EE 66 63)) (a := 63) (r := 65) (j := 0) (t := 2) (ci := 7) (ln := 8) F9 G (by decide) (by decide +kernel) (by decide +kernel) (by decide) rfl rfl (by decide +kernel) (by decide) (by decide) (by decide) (hk_setE (by decide +kernel) (by decide +kernel)) dX5_init_53 (fun H locs G => ?_)
    refine lv_iinc (v := 1) (lv' := [(1, .int 1), (0, .ref (g.1 + 60))]) hx hb dX5_init_54 hl (k := 0) rfl (by decide) (by decide) rfl (fun ls hl => ?_)
    refine lv_goto (tgt := 35) hx hb dX5_init_57 (by decide) ?_
    refine lv_iload_n hx hb dX5_init_35 rfl (lv_at hl 0 rfl) ?_
    refine lv_bipush (v := 8) hx hb dX5_init_36 (by decide) ?_
    refine lv_icmp_ge (tgt := 60) hx hb dX5_init_38 (by decide) (fun c8 => ?_) (fun c8 => ?_)
    · exact absurd c8 (by decide)
    · refine lv_aload_n hx hb dX5_init_41 rfl (lv_at hl 1 rfl) ?_
      refine hk_getR (r := 63) F9 G (by decide +kernel) hkc_3 (k := 1) (by decide) qw_155 rfl (by decide +kernel) dX5_init_42 ?_
      refine lv_iload_n hx hb dX5_init_45 rfl (lv_at hl 0 rfl) ?_
      refine hk_new (E1 := (hk_EE 67 63)) (a := 66) (b := 67) F9 G rfl ⟨rfl, rfl⟩ hkc_7 hkd_7 (hk_growE (kd := 8) (ln := 0) (by decide +kernel) (by decide +kernel) (by decide +kernel)) qw_63 qw_67 qw_4 ⟨(Nat.le_of_ble_eq_true rfl), (Nat.le_of_ble_eq_true rfl)⟩ dX5_init_46 (fun H G => ?_)
      obtain ⟨S9, eS9, hsp⟩ := hk_l hsp
      rw [eS9] at G
      refine lv_dup hx hb dX5_init_49 rfl ?_
      obtain ⟨r10, er10, hsp⟩ := hk_b hsp
      refine hk_callIN (rest := [.ref (g.1 + 66), .int 1, .ref (g.1 + 63)]) F9 G (kX10_init l g (hk_EE 67 63) F (g.1 + 67) S9 66 r10 (by decide +kernel) er10) qin_RX5_30 ⟨rfl, rfl, (Nat.le_of_ble_eq_true rfl), (Nat.le_of_ble_eq_true rfl)⟩ hl.1 (Nat.le_of_ble_eq_true rfl) ⟨(Nat.le_of_ble_eq_true rfl), (Nat.le_of_ble_eq_true rfl)⟩ dX5_init_50 (fun H locs G => ?_)
      refine hk_aast (E1 := (hk_EE 67 64)) (a := 63) (r := 66) (j := 1) (t := 2) (ci := 7) (ln := 8) F9 G (by decide) (by decide +kernel) (by decide +kernel) (by decide) rfl rfl (by decide +kernel) (by decide) (by decide) (by decide) (hk_setE (by decide +kernel) (by decide +kernel)) dX5_init_53 (fun H locs G => ?_)
      refine lv_iinc (v := 2) (lv' := [(1, .int 2), (0, .ref (g.1 + 60))]) hx hb dX5_init_54 hl (k := 0) rfl (by decide) (by decide) rfl (fun ls hl => ?_)
      refine lv_goto (tgt := 35) hx hb dX5_init_57 (by decide) ?_
      refine lv_iload_n hx hb dX5_init_35 rfl (lv_at hl 0 rfl) ?_
      refine lv_bipush (v := 8) hx hb dX5_init_36 (by decide) ?_
      refine lv_icmp_ge (tgt := 60) hx hb dX5_init_38 (by decide) (fun c11 => ?_) (fun c11 => ?_)
      · exact absurd c11 (by decide)
      · refine lv_aload_n hx hb dX5_init_41 rfl (lv_at hl 1 rfl) ?_
        refine hk_getR (r := 63) F9 G (by decide +kernel) hkc_3 (k := 1) (by decide) qw_155 rfl (by decide +kernel) dX5_init_42 ?_
        refine lv_iload_n hx hb dX5_init_45 rfl (lv_at hl 0 rfl) ?_
        refine hk_new (E1 := (hk_EE 68 64)) (a := 67) (b := 68) F9 G rfl ⟨rfl, rfl⟩ hkc_7 hkd_7 (hk_growE (kd := 8) (ln := 0) (by decide +kernel) (by decide +kernel) (by decide +kernel)) qw_63 qw_67 qw_4 ⟨(Nat.le_of_ble_eq_true rfl), (Nat.le_of_ble_eq_true rfl)⟩ dX5_init_46 (fun H G => ?_)
        obtain ⟨S12, eS12, hsp⟩ := hk_l hsp
        rw [eS12] at G
        refine lv_dup hx hb dX5_init_49 rfl ?_
        obtain ⟨r13, er13, hsp⟩ := hk_b hsp
        refine hk_callIN (rest := [.ref (g.1 + 67), .int 2, .ref (g.1 + 63)]) F9 G (kX10_init l g (hk_EE 68 64) F (g.1 + 68) S12 67 r13 (by decide +kernel) er13) qin_RX5_30 ⟨rfl, rfl, (Nat.le_of_ble_eq_true rfl), (Nat.le_of_ble_eq_true rfl)⟩ hl.1 (Nat.le_of_ble_eq_true rfl) ⟨(Nat.le_of_ble_eq_true rfl), (Nat.le_of_ble_eq_true rfl)⟩ dX5_init_50 (fun H locs G => ?_)
        refine hk_aast (E1 := (hk_EE 68 65)) (a := 63) (r := 67) (j := 2) (t := 2) (ci := 7) (ln := 8) F9 G (by decide) (by decide +kernel) (by decide +kernel) (by decide) rfl rfl (by decide +kernel) (by decide) (by decide) (by decide) (hk_setE (by decide +kernel) (by decide +kernel)) dX5_init_53 (fun H locs G => ?_)
        refine lv_iinc (v := 3) (lv' := [(1, .int 3), (0, .ref (g.1 + 60))]) hx hb dX5_init_54 hl (k := 0) rfl (by decide) (by decide) rfl (fun ls hl => ?_)
        refine lv_goto (tgt := 35) hx hb dX5_init_57 (by decide) ?_
        refine lv_iload_n hx hb dX5_init_35 rfl (lv_at hl 0 rfl) ?_
        refine lv_bipush (v := 8) hx hb dX5_init_36 (by decide) ?_
        refine lv_icmp_ge (tgt := 60) hx hb dX5_init_38 (by decide) (fun c14 => ?_) (fun c14 => ?_)
        · exact absurd c14 (by decide)
        · refine lv_aload_n hx hb dX5_init_41 rfl (lv_at hl 1 rfl) ?_
          refine hk_getR (r := 63) F9 G (by decide +kernel) hkc_3 (k := 1) (by decide) qw_155 rfl (by decide +kernel) dX5_init_42 ?_
          refine lv_iload_n hx hb dX5_init_45 rfl (lv_at hl 0 rfl) ?_
          refine hk_new (E1 := (hk_EE 69 65)) (a := 68) (b := 69) F9 G rfl ⟨rfl, rfl⟩ hkc_7 hkd_7 (hk_growE (kd := 8) (ln := 0) (by decide +kernel) (by decide +kernel) (by decide +kernel)) qw_63 qw_67 qw_4 ⟨(Nat.le_of_ble_eq_true rfl), (Nat.le_of_ble_eq_true rfl)⟩ dX5_init_46 (fun H G => ?_)
          obtain ⟨S15, eS15, hsp⟩ := hk_l hsp
          rw [eS15] at G
          refine lv_dup hx hb dX5_init_49 rfl ?_
          obtain ⟨r16, er16, hsp⟩ := hk_b hsp
          refine hk_callIN (rest := [.ref (g.1 + 68), .int 3, .ref (g.1 + 63)]) F9 G (kX10_init l g (hk_EE 69 65) F (g.1 + 69) S15 68 r16 (by decide +kernel) er16) qin_RX5_30 ⟨rfl, rfl, (Nat.le_of_ble_eq_true rfl), (Nat.le_of_ble_eq_true rfl)⟩ hl.1 (Nat.le_of_ble_eq_true rfl) ⟨(Nat.le_of_ble_eq_true rfl), (Nat.le_of_ble_eq_true rfl)⟩ dX5_init_50 (fun H locs G => ?_)
          refine hk_aast (E1 := (hk_EE 69 66)) (a := 63) (r := 68) (j := 3) (t := 2) (ci := 7) (ln := 8) F9 G (by decide) (by decide +kernel) (by decide +kernel) (by decide) rfl rfl (by decide +kernel) (by decide) (by decide) (by decide) (hk_setE (by decide +kernel) (by decide +kernel)) dX5_init_53 (fun H locs G => ?_)
          refine lv_iinc (v := 4) (lv' := [(1, .int 4), (0, .ref (g.1 + 60))]) hx hb dX5_init_54 hl (k := 0) rfl (by decide) (by decide) rfl (fun ls hl => ?_)
          refine lv_goto (tgt := 35) hx hb dX5_init_57 (by decide) ?_
          refine lv_iload_n hx hb dX5_init_35 rfl (lv_at hl 0 rfl) ?_
          refine lv_bipush (v := 8) hx hb dX5_init_36 (by decide) ?_
          refine lv_icmp_ge (tgt := 60) hx hb dX5_init_38 (by decide) (fun c17 => ?_) (fun c17 => ?_)
          · exact absurd c17 (by decide)
          · refine lv_aload_n hx hb dX5_init_41 rfl (lv_at hl 1 rfl) ?_
            refine hk_getR (r := 63) F9 G (by decide +kernel) hkc_3 (k := 1) (by decide) qw_155 rfl (by decide +kernel) dX5_init_42 ?_
            refine lv_iload_n hx hb dX5_init_45 rfl (lv_at hl 0 rfl) ?_
            refine hk_new (E1 := (hk_EE 70 66)) (a := 69) (b := 70) F9 G rfl ⟨rfl, rfl⟩ hkc_7 hkd_7 (hk_growE (kd := 8) (ln := 0) (by decide +kernel) (by decide +kernel) (by decide +kernel)) qw_63 qw_67 qw_4 ⟨(Nat.le_of_ble_eq_true rfl), (Nat.le_of_ble_eq_true rfl)⟩ dX5_init_46 (fun H G => ?_)
            obtain ⟨S18, eS18, hsp⟩ := hk_l hsp
            rw [eS18] at G
            refine lv_dup hx hb dX5_init_49 rfl ?_
            obtain ⟨r19, er19, hsp⟩ := hk_b hsp
            refine hk_callIN (rest := [.ref (g.1 + 69), .int 4, .ref (g.1 + 63)]) F9 G (kX10_init l g (hk_EE 70 66) F (g.1 + 70) S18 69 r19 (by decide +kernel) er19) qin_RX5_30 ⟨rfl, rfl, (Nat.le_of_ble_eq_true rfl), (Nat.le_of_ble_eq_true rfl)⟩ hl.1 (Nat.le_of_ble_eq_true rfl) ⟨(Nat.le_of_ble_eq_true rfl), (Nat.le_of_ble_eq_true rfl)⟩ dX5_init_50 (fun H locs G => ?_)
            refine hk_aast (E1 := (hk_EE 70 67)) (a := 63) (r := 69) (j := 4) (t := 2) (ci := 7) (ln := 8) F9 G (by decide) (by decide +kernel) (by decide +kernel) (by decide) rfl rfl (by decide +kernel) (by decide) (by decide) (by decide) (hk_setE (by decide +kernel) (by decide +kernel)) dX5_init_53 (fun H locs G => ?_)
            refine lv_iinc (v := 5) (lv' := [(1, .int 5), (0, .ref (g.1 + 60))]) hx hb dX5_init_54 hl (k := 0) rfl (by decide) (by decide) rfl (fun ls hl => ?_)
            refine lv_goto (tgt := 35) hx hb dX5_init_57 (by decide) ?_
            refine lv_iload_n hx hb dX5_init_35 rfl (lv_at hl 0 rfl) ?_
            refine lv_bipush (v := 8) hx hb dX5_init_36 (by decide) ?_
            refine lv_icmp_ge (tgt := 60) hx hb dX5_init_38 (by decide) (fun c20 => ?_) (fun c20 => ?_)
            · exact absurd c20 (by decide)
            · refine lv_aload_n hx hb dX5_init_41 rfl (lv_at hl 1 rfl) ?_
              refine hk_getR (r := 63) F9 G (by decide +kernel) hkc_3 (k := 1) (by decide) qw_155 rfl (by decide +kernel) dX5_init_42 ?_
              refine lv_iload_n hx hb dX5_init_45 rfl (lv_at hl 0 rfl) ?_
              refine hk_new (E1 := (hk_EE 71 67)) (a := 70) (b := 71) F9 G rfl ⟨rfl, rfl⟩ hkc_7 hkd_7 (hk_growE (kd := 8) (ln := 0) (by decide +kernel) (by decide +kernel) (by decide +kernel)) qw_63 qw_67 qw_4 ⟨(Nat.le_of_ble_eq_true rfl), (Nat.le_of_ble_eq_true rfl)⟩ dX5_init_46 (fun H G => ?_)
              obtain ⟨S21, eS21, hsp⟩ := hk_l hsp
              rw [eS21] at G
              refine lv_dup hx hb dX5_init_49 rfl ?_
              obtain ⟨r22, er22, hsp⟩ := hk_b hsp
              refine hk_callIN (rest := [.ref (g.1 + 70), .int 5, .ref (g.1 + 63)]) F9 G (kX10_init l g (hk_EE 71 67) F (g.1 + 71) S21 70 r22 (by decide +kernel) er22) qin_RX5_30 ⟨rfl, rfl, (Nat.le_of_ble_eq_true rfl), (Nat.le_of_ble_eq_true rfl)⟩ hl.1 (Nat.le_of_ble_eq_true rfl) ⟨(Nat.le_of_ble_eq_true rfl), (Nat.le_of_ble_eq_true rfl)⟩ dX5_init_50 (fun H locs G => ?_)
              refine hk_aast (E1 := (hk_EE 71 68)) (a := 63) (r := 70) (j := 5) (t := 2) (ci := 7) (ln := 8) F9 G (by decide) (by decide +kernel) (by decide +kernel) (by decide) rfl rfl (by decide +kernel) (by decide) (by decide) (by decide) (hk_setE (by decide +kernel) (by decide +kernel)) dX5_init_53 (fun H locs G => ?_)
              refine lv_iinc (v := 6) (lv' := [(1, .int 6), (0, .ref (g.1 + 60))]) hx hb dX5_init_54 hl (k := 0) rfl (by decide) (by decide) rfl (fun ls hl => ?_)
              refine lv_goto (tgt := 35) hx hb dX5_init_57 (by decide) ?_
              refine lv_iload_n hx hb dX5_init_35 rfl (lv_at hl 0 rfl) ?_
              refine lv_bipush (v := 8) hx hb dX5_init_36 (by decide) ?_
              refine lv_icmp_ge (tgt := 60) hx hb dX5_init_38 (by decide) (fun c23 => ?_) (fun c23 => ?_)
              · exact absurd c23 (by decide)
              · refine lv_aload_n hx hb dX5_init_41 rfl (lv_at hl 1 rfl) ?_
                refine hk_getR (r := 63) F9 G (by decide +kernel) hkc_3 (k := 1) (by decide) qw_155 rfl (by decide +kernel) dX5_init_42 ?_
                refine lv_iload_n hx hb dX5_init_45 rfl (lv_at hl 0 rfl) ?_
                refine hk_new (E1 := (hk_EE 72 68)) (a := 71) (b := 72) F9 G rfl ⟨rfl, rfl⟩ hkc_7 hkd_7 (hk_growE (kd := 8) (ln := 0) (by decide +kernel) (by decide +kernel) (by decide +kernel)) qw_63 qw_67 qw_4 ⟨(Nat.le_of_ble_eq_true rfl), (Nat.le_of_ble_eq_true rfl)⟩ dX5_init_46 (fun H G => ?_)
                obtain ⟨S24, eS24, hsp⟩ := hk_l hsp
                rw [eS24] at G
                refine lv_dup hx hb dX5_init_49 rfl ?_
                obtain ⟨r25, er25, hsp⟩ := hk_b hsp
                refine hk_callIN (rest := [.ref (g.1 + 71), .int 6, .ref (g.1 + 63)]) F9 G (kX10_init l g (hk_EE 72 68) F (g.1 + 72) S24 71 r25 (by decide +kernel) er25) qin_RX5_30 ⟨rfl, rfl, (Nat.le_of_ble_eq_true rfl), (Nat.le_of_ble_eq_true rfl)⟩ hl.1 (Nat.le_of_ble_eq_true rfl) ⟨(Nat.le_of_ble_eq_true rfl), (Nat.le_of_ble_eq_true rfl)⟩ dX5_init_50 (fun H locs G => ?_)
                refine hk_aast (E1 := (hk_EE 72 69)) (a := 63) (r := 71) (j := 6) (t := 2) (ci := 7) (ln := 8) F9 G (by decide) (by decide +kernel) (by decide +kernel) (by decide) rfl rfl (by decide +kernel) (by decide) (by decide) (by decide) (hk_setE (by decide +kernel) (by decide +kernel)) dX5_init_53 (fun H locs G => ?_)
                refine lv_iinc (v := 7) (lv' := [(1, .int 7), (0, .ref (g.1 + 60))]) hx hb dX5_init_54 hl (k := 0) rfl (by decide) (by decide) rfl (fun ls hl => ?_)
                refine lv_goto (tgt := 35) hx hb dX5_init_57 (by decide) ?_
                refine lv_iload_n hx hb dX5_init_35 rfl (lv_at hl 0 rfl) ?_
                refine lv_bipush (v := 8) hx hb dX5_init_36 (by decide) ?_
                refine lv_icmp_ge (tgt := 60) hx hb dX5_init_38 (by decide) (fun c26 => ?_) (fun c26 => ?_)
                · exact absurd c26 (by decide)
                · refine lv_aload_n hx hb dX5_init_41 rfl (lv_at hl 1 rfl) ?_
                  refine hk_getR (r := 63) F9 G (by decide +kernel) hkc_3 (k := 1) (by decide) qw_155 rfl (by decide +kernel) dX5_init_42 ?_
                  refine lv_iload_n hx hb dX5_init_45 rfl (lv_at hl 0 rfl) ?_
                  refine hk_new (E1 := (hk_EE 73 69)) (a := 72) (b := 73) F9 G rfl ⟨rfl, rfl⟩ hkc_7 hkd_7 (hk_growE (kd := 8) (ln := 0) (by decide +kernel) (by decide +kernel) (by decide +kernel)) qw_63 qw_67 qw_4 ⟨(Nat.le_of_ble_eq_true rfl), (Nat.le_of_ble_eq_true rfl)⟩ dX5_init_46 (fun H G => ?_)
                  obtain ⟨S27, eS27, hsp⟩ := hk_l hsp
                  rw [eS27] at G
                  refine lv_dup hx hb dX5_init_49 rfl ?_
                  obtain ⟨r28, er28, hsp⟩ := hk_b hsp
                  refine hk_callIN (rest := [.ref (g.1 + 72), .int 7, .ref (g.1 + 63)]) F9 G (kX10_init l g (hk_EE 73 69) F (g.1 + 73) S27 72 r28 (by decide +kernel) er28) qin_RX5_30 ⟨rfl, rfl, (Nat.le_of_ble_eq_true rfl), (Nat.le_of_ble_eq_true rfl)⟩ hl.1 (Nat.le_of_ble_eq_true rfl) ⟨(Nat.le_of_ble_eq_true rfl), (Nat.le_of_ble_eq_true rfl)⟩ dX5_init_50 (fun H locs G => ?_)
                  refine hk_aast (E1 := (hk_EE 73 70)) (a := 63) (r := 72) (j := 7) (t := 2) (ci := 7) (ln := 8) F9 G (by decide) (by decide +kernel) (by decide +kernel) (by decide) rfl rfl (by decide +kernel) (by decide) (by decide) (by decide) (hk_setE (by decide +kernel) (by decide +kernel)) dX5_init_53 (fun H locs G => ?_)
                  refine lv_iinc (v := 8) (lv' := [(1, .int 8), (0, .ref (g.1 + 60))]) hx hb dX5_init_54 hl (k := 0) rfl (by decide) (by decide) rfl (fun ls hl => ?_)
                  refine lv_goto (tgt := 35) hx hb dX5_init_57 (by decide) ?_
                  refine lv_iload_n hx hb dX5_init_35 rfl (lv_at hl 0 rfl) ?_
                  refine lv_bipush (v := 8) hx hb dX5_init_36 (by decide) ?_
                  refine lv_icmp_ge (tgt := 60) hx hb dX5_init_38 (by decide) (fun c29 => ?_) (fun c29 => ?_)
                  · refine lv_iconst (v := 0) hx hb dX5_init_60 (by decide) ?_
                    refine lv_istore_n (lv' := [(1, .int 0), (0, .ref (g.1 + 60))]) hx hb dX5_init_61 rfl hl (by decide) rfl (fun ls hl => ?_)
                    refine lv_iload_n hx hb dX5_init_62 rfl (lv_at hl 0 rfl) ?_
                    refine lv_bipush (v := 6) hx hb dX5_init_63 (by decide) ?_
                    refine lv_icmp_ge (tgt := 87) hx hb dX5_init_65 (by decide) (fun c30 => ?_) (fun c30 => ?_)
                    · exact absurd c30 (by decide)
                    · refine lv_aload_n hx hb dX5_init_68 rfl (lv_at hl 1 rfl) ?_
                      refine hk_getR (r := 64) F9 G (by decide +kernel) hkc_3 (k := 3) (by decide) qw_158 rfl (by decide +kernel) dX5_init_69 ?_
                      refine lv_iload_n hx hb dX5_init_72 rfl (lv_at hl 0 rfl) ?_
                      refine hk_new (E1 := (hk_EE 74 70)) (a := 73) (b := 74) F9 G rfl ⟨rfl, rfl⟩ hkc_4 hkd_4 (hk_growE (kd := 5) (ln := 0) (by decide +kernel) (by decide +kernel) (by decide +kernel)) qw_65 qw_116 qw_5 ⟨(Nat.le_of_ble_eq_true rfl), (Nat.le_of_ble_eq_true rfl)⟩ dX5_init_73 (fun H G => ?_)
                      obtain ⟨S31, eS31, hsp⟩ := hk_l hsp
                      rw [eS31] at G
                      refine lv_dup hx hb dX5_init_76 rfl ?_
                      obtain ⟨r32, er32, hsp⟩ := hk_b hsp
                      refine hk_callIN (rest := [.ref (g.1 + 73), .int 0, .ref (g.1 + 64)]) F9 G (kX6_init l g (hk_EE 74 70) F (g.1 + 74) S31 73 r32 (by decide +kernel) er32) qin_RX5_31 ⟨rfl, rfl, (Nat.le_of_ble_eq_true rfl), (Nat.le_of_ble_eq_true rfl)⟩ hl.1 (Nat.le_of_ble_eq_true rfl) ⟨(Nat.le_of_ble_eq_true rfl), (Nat.le_of_ble_eq_true rfl)⟩ dX5_init_77 (fun H locs G => ?_)
                      refine hk_aast (E1 := (hk_EE 74 71)) (a := 64) (r := 73) (j := 0) (t := 1) (ci := 4) (ln := 6) F9 G (by decide) (by decide +kernel) (by decide +kernel) (by decide) rfl rfl (by decide +kernel) (by decide) (by decide) (by decide) (hk_setE (by decide +kernel) (by decide +kernel)) dX5_init_80 (fun H locs G => ?_)
                      refine lv_iinc (v := 1) (lv' := [(1, .int 1), (0, .ref (g.1 + 60))]) hx hb dX5_init_81 hl (k := 0) rfl (by decide) (by decide) rfl (fun ls hl => ?_)
                      refine lv_goto (tgt := 62) hx hb dX5_init_84 (by decide) ?_
                      refine lv_iload_n hx hb dX5_init_62 rfl (lv_at hl 0 rfl) ?_
                      refine lv_bipush (v := 6) hx hb dX5_init_63 (by decide) ?_
                      refine lv_icmp_ge (tgt := 87) hx hb dX5_init_65 (by decide) (fun c33 => ?_) (fun c33 => ?_)
                      · exact absurd c33 (by decide)
                      · refine lv_aload_n hx hb dX5_init_68 rfl (lv_at hl 1 rfl) ?_
                        refine hk_getR (r := 64) F9 G (by decide +kernel) hkc_3 (k := 3) (by decide) qw_158 rfl (by decide +kernel) dX5_init_69 ?_
                        refine lv_iload_n hx hb dX5_init_72 rfl (lv_at hl 0 rfl) ?_
                        refine hk_new (E1 := (hk_EE 75 71)) (a := 74) (b := 75) F9 G rfl ⟨rfl, rfl⟩ hkc_4 hkd_4 (hk_growE (kd := 5) (ln := 0) (by decide +kernel) (by decide +kernel) (by decide +kernel)) qw_65 qw_116 qw_5 ⟨(Nat.le_of_ble_eq_true rfl), (Nat.le_of_ble_eq_true rfl)⟩ dX5_init_73 (fun H G => ?_)
                        obtain ⟨S34, eS34, hsp⟩ := hk_l hsp
                        rw [eS34] at G
                        refine lv_dup hx hb dX5_init_76 rfl ?_
                        obtain ⟨r35, er35, hsp⟩ := hk_b hsp
                        refine hk_callIN (rest := [.ref (g.1 + 74), .int 1, .ref (g.1 + 64)]) F9 G (kX6_init l g (hk_EE 75 71) F (g.1 + 75) S34 74 r35 (by decide +kernel) er35) qin_RX5_31 ⟨rfl, rfl, (Nat.le_of_ble_eq_true rfl), (Nat.le_of_ble_eq_true rfl)⟩ hl.1 (Nat.le_of_ble_eq_true rfl) ⟨(Nat.le_of_ble_eq_true rfl), (Nat.le_of_ble_eq_true rfl)⟩ dX5_init_77 (fun H locs G => ?_)
                        refine hk_aast (E1 := (hk_EE 75 72)) (a := 64) (r := 74) (j := 1) (t := 1) (ci := 4) (ln := 6) F9 G (by decide) (by decide +kernel) (by decide +kernel) (by decide) rfl rfl (by decide +kernel) (by decide) (by decide) (by decide) (hk_setE (by decide +kernel) (by decide +kernel)) dX5_init_80 (fun H locs G => ?_)
                        refine lv_iinc (v := 2) (lv' := [(1, .int 2), (0, .ref (g.1 + 60))]) hx hb dX5_init_81 hl (k := 0) rfl (by decide) (by decide) rfl (fun ls hl => ?_)
                        refine lv_goto (tgt := 62) hx hb dX5_init_84 (by decide) ?_
                        refine lv_iload_n hx hb dX5_init_62 rfl (lv_at hl 0 rfl) ?_
                        refine lv_bipush (v := 6) hx hb dX5_init_63 (by decide) ?_
                        refine lv_icmp_ge (tgt := 87) hx hb dX5_init_65 (by decide) (fun c36 => ?_) (fun c36 => ?_)
                        · exact absurd c36 (by decide)
                        · refine lv_aload_n hx hb dX5_init_68 rfl (lv_at hl 1 rfl) ?_
                          refine hk_getR (r := 64) F9 G (by decide +kernel) hkc_3 (k := 3) (by decide) qw_158 rfl (by decide +kernel) dX5_init_69 ?_
                          refine lv_iload_n hx hb dX5_init_72 rfl (lv_at hl 0 rfl) ?_
                          refine hk_new (E1 := (hk_EE 76 72)) (a := 75) (b := 76) F9 G rfl ⟨rfl, rfl⟩ hkc_4 hkd_4 (hk_growE (kd := 5) (ln := 0) (by decide +kernel) (by decide +kernel) (by decide +kernel)) qw_65 qw_116 qw_5 ⟨(Nat.le_of_ble_eq_true rfl), (Nat.le_of_ble_eq_true rfl)⟩ dX5_init_73 (fun H G => ?_)
                          obtain ⟨S37, eS37, hsp⟩ := hk_l hsp
                          rw [eS37] at G
                          refine lv_dup hx hb dX5_init_76 rfl ?_
                          obtain ⟨r38, er38, hsp⟩ := hk_b hsp
                          refine hk_callIN (rest := [.ref (g.1 + 75), .int 2, .ref (g.1 + 64)]) F9 G (kX6_init l g (hk_EE 76 72) F (g.1 + 76) S37 75 r38 (by decide +kernel) er38) qin_RX5_31 ⟨rfl, rfl, (Nat.le_of_ble_eq_true rfl), (Nat.le_of_ble_eq_true rfl)⟩ hl.1 (Nat.le_of_ble_eq_true rfl) ⟨(Nat.le_of_ble_eq_true rfl), (Nat.le_of_ble_eq_true rfl)⟩ dX5_init_77 (fun H locs G => ?_)
                          refine hk_aast (E1 := (hk_EE 76 73)) (a := 64) (r := 75) (j := 2) (t := 1) (ci := 4) (ln := 6) F9 G (by decide) (by decide +kernel) (by decide +kernel) (by decide) rfl rfl (by decide +kernel) (by decide) (by decide) (by decide) (hk_setE (by decide +kernel) (by decide +kernel)) dX5_init_80 (fun H locs G => ?_)
                          refine lv_iinc (v := 3) (lv' := [(1, .int 3), (0, .ref (g.1 + 60))]) hx hb dX5_init_81 hl (k := 0) rfl (by decide) (by decide) rfl (fun ls hl => ?_)
                          refine lv_goto (tgt := 62) hx hb dX5_init_84 (by decide) ?_
                          refine lv_iload_n hx hb dX5_init_62 rfl (lv_at hl 0 rfl) ?_
                          refine lv_bipush (v := 6) hx hb dX5_init_63 (by decide) ?_
                          refine lv_icmp_ge (tgt := 87) hx hb dX5_init_65 (by decide) (fun c39 => ?_) (fun c39 => ?_)
                          · exact absurd c39 (by decide)
                          · refine lv_aload_n hx hb dX5_init_68 rfl (lv_at hl 1 rfl) ?_
                            refine hk_getR (r := 64) F9 G (by decide +kernel) hkc_3 (k := 3) (by decide) qw_158 rfl (by decide +kernel) dX5_init_69 ?_
                            refine lv_iload_n hx hb dX5_init_72 rfl (lv_at hl 0 rfl) ?_
                            refine hk_new (E1 := (hk_EE 77 73)) (a := 76) (b := 77) F9 G rfl ⟨rfl, rfl⟩ hkc_4 hkd_4 (hk_growE (kd := 5) (ln := 0) (by decide +kernel) (by decide +kernel) (by decide +kernel)) qw_65 qw_116 qw_5 ⟨(Nat.le_of_ble_eq_true rfl), (Nat.le_of_ble_eq_true rfl)⟩ dX5_init_73 (fun H G => ?_)
                            obtain ⟨S40, eS40, hsp⟩ := hk_l hsp
                            rw [eS40] at G
                            refine lv_dup hx hb dX5_init_76 rfl ?_
                            obtain ⟨r41, er41, hsp⟩ := hk_b hsp
                            refine hk_callIN (rest := [.ref (g.1 + 76), .int 3, .ref (g.1 + 64)]) F9 G (kX6_init l g (hk_EE 77 73) F (g.1 + 77) S40 76 r41 (by decide +kernel) er41) qin_RX5_31 ⟨rfl, rfl, (Nat.le_of_ble_eq_true rfl), (Nat.le_of_ble_eq_true rfl)⟩ hl.1 (Nat.le_of_ble_eq_true rfl) ⟨(Nat.le_of_ble_eq_true rfl), (Nat.le_of_ble_eq_true rfl)⟩ dX5_init_77 (fun H locs G => ?_)
                            refine hk_aast (E1 := (hk_EE 77 74)) (a := 64) (r := 76) (j := 3) (t := 1) (ci := 4) (ln := 6) F9 G (by decide) (by decide +kernel) (by decide +kernel) (by decide) rfl rfl (by decide +kernel) (by decide) (by decide) (by decide) (hk_setE (by decide +kernel) (by decide +kernel)) dX5_init_80 (fun H locs G => ?_)
                            refine lv_iinc (v := 4) (lv' := [(1, .int 4), (0, .ref (g.1 + 60))]) hx hb dX5_init_81 hl (k := 0) rfl (by decide) (by decide) rfl (fun ls hl => ?_)
                            refine lv_goto (tgt := 62) hx hb dX5_init_84 (by decide) ?_
                            refine lv_iload_n hx hb dX5_init_62 rfl (lv_at hl 0 rfl) ?_
                            refine lv_bipush (v := 6) hx hb dX5_init_63 (by decide) ?_
                            refine lv_icmp_ge (tgt := 87) hx hb dX5_init_65 (by decide) (fun c42 => ?_) (fun c42 => ?_)
                            · exact absurd c42 (by decide)
                            · refine lv_aload_n hx hb dX5_init_68 rfl (lv_at hl 1 rfl) ?_
                              refine hk_getR (r := 64) F9 G (by decide +kernel) hkc_3 (k := 3) (by decide) qw_158 rfl (by decide +kernel) dX5_init_69 ?_
                              refine lv_iload_n hx hb dX5_init_72 rfl (lv_at hl 0 rfl) ?_
                              refine hk_new (E1 := (hk_EE 78 74)) (a := 77) (b := 78) F9 G rfl ⟨rfl, rfl⟩ hkc_4 hkd_4 (hk_growE (kd := 5) (ln := 0) (by decide +kernel) (by decide +kernel) (by decide +kernel)) qw_65 qw_116 qw_5 ⟨(Nat.le_of_ble_eq_true rfl), (Nat.le_of_ble_eq_true rfl)⟩ dX5_init_73 (fun H G => ?_)
                              obtain ⟨S43, eS43, hsp⟩ := hk_l hsp
                              rw [eS43] at G
                              refine lv_dup hx hb dX5_init_76 rfl ?_
                              obtain ⟨r44, er44, hsp⟩ := hk_b hsp
                              refine hk_callIN (rest := [.ref (g.1 + 77), .int 4, .ref (g.1 + 64)]) F9 G (kX6_init l g (hk_EE 78 74) F (g.1 + 78) S43 77 r44 (by decide +kernel) er44) qin_RX5_31 ⟨rfl, rfl, (Nat.le_of_ble_eq_true rfl), (Nat.le_of_ble_eq_true rfl)⟩ hl.1 (Nat.le_of_ble_eq_true rfl) ⟨(Nat.le_of_ble_eq_true rfl), (Nat.le_of_ble_eq_true rfl)⟩ dX5_init_77 (fun H locs G => ?_)
                              refine hk_aast (E1 := (hk_EE 78 75)) (a := 64) (r := 77) (j := 4) (t := 1) (ci := 4) (ln := 6) F9 G (by decide) (by decide +kernel) (by decide +kernel) (by decide) rfl rfl (by decide +kernel) (by decide) (by decide) (by decide) (hk_setE (by decide +kernel) (by decide +kernel)) dX5_init_80 (fun H locs G => ?_)
                              refine lv_iinc (v := 5) (lv' := [(1, .int 5), (0, .ref (g.1 + 60))]) hx hb dX5_init_81 hl (k := 0) rfl (by decide) (by decide) rfl (fun ls hl => ?_)
                              refine lv_goto (tgt := 62) hx hb dX5_init_84 (by decide) ?_
                              refine lv_iload_n hx hb dX5_init_62 rfl (lv_at hl 0 rfl) ?_
                              refine lv_bipush (v := 6) hx hb dX5_init_63 (by decide) ?_
                              refine lv_icmp_ge (tgt := 87) hx hb dX5_init_65 (by decide) (fun c45 => ?_) (fun c45 => ?_)
                              · exact absurd c45 (by decide)
                              · refine lv_aload_n hx hb dX5_init_68 rfl (lv_at hl 1 rfl) ?_
                                refine hk_getR (r := 64) F9 G (by decide +kernel) hkc_3 (k := 3) (by decide) qw_158 rfl (by decide +kernel) dX5_init_69 ?_
                                refine lv_iload_n hx hb dX5_init_72 rfl (lv_at hl 0 rfl) ?_
                                refine hk_new (E1 := (hk_EE 79 75)) (a := 78) (b := 79) F9 G rfl ⟨rfl, rfl⟩ hkc_4 hkd_4 (hk_growE (kd := 5) (ln := 0) (by decide +kernel) (by decide +kernel) (by decide +kernel)) qw_65 qw_116 qw_5 ⟨(Nat.le_of_ble_eq_true rfl), (Nat.le_of_ble_eq_true rfl)⟩ dX5_init_73 (fun H G => ?_)
                                obtain ⟨S46, eS46, hsp⟩ := hk_l hsp
                                rw [eS46] at G
                                refine lv_dup hx hb dX5_init_76 rfl ?_
                                obtain ⟨r47, er47, hsp⟩ := hk_b hsp
                                refine hk_callIN (rest := [.ref (g.1 + 78), .int 5, .ref (g.1 + 64)]) F9 G (kX6_init l g (hk_EE 79 75) F (g.1 + 79) S46 78 r47 (by decide +kernel) er47) qin_RX5_31 ⟨rfl, rfl, (Nat.le_of_ble_eq_true rfl), (Nat.le_of_ble_eq_true rfl)⟩ hl.1 (Nat.le_of_ble_eq_true rfl) ⟨(Nat.le_of_ble_eq_true rfl), (Nat.le_of_ble_eq_true rfl)⟩ dX5_init_77 (fun H locs G => ?_)
                                refine hk_aast (E1 := (hk_EE 79 76)) (a := 64) (r := 78) (j := 5) (t := 1) (ci := 4) (ln := 6) F9 G (by decide) (by decide +kernel) (by decide +kernel) (by decide) rfl rfl (by decide +kernel) (by decide) (by decide) (by decide) (hk_setE (by decide +kernel) (by decide +kernel)) dX5_init_80 (fun H locs G => ?_)
                                refine lv_iinc (v := 6) (lv' := [(1, .int 6), (0, .ref (g.1 + 60))]) hx hb dX5_init_81 hl (k := 0) rfl (by decide) (by decide) rfl (fun ls hl => ?_)
                                refine lv_goto (tgt := 62) hx hb dX5_init_84 (by decide) ?_
                                refine lv_iload_n hx hb dX5_init_62 rfl (lv_at hl 0 rfl) ?_
                                refine lv_bipush (v := 6) hx hb dX5_init_63 (by decide) ?_
                                refine lv_icmp_ge (tgt := 87) hx hb dX5_init_65 (by decide) (fun c48 => ?_) (fun c48 => ?_)
                                · refine lv_aload_n hx hb dX5_init_87 rfl (lv_at hl 1 rfl) ?_
                                  obtain ⟨r49, er49, hsp⟩ := hk_b hsp
                                  refine hk_callVv (As := []) (rest := []) F9 G (by decide +kernel) hkc_3 rfl (kX5_clear l g (hk_EE 79 76) F (g.1 + 79) r47 60 r49 (by decide +kernel) er49) qv_RX5_32 ⟨rfl, rfl, (Nat.le_of_ble_eq_true rfl), (Nat.le_of_ble_eq_true rfl)⟩ rfl hl.1 rfl (Nat.le_of_ble_eq_true rfl) ⟨(Nat.le_of_ble_eq_true rfl), (Nat.le_of_ble_eq_true rfl)⟩ dX5_init_88 (fun H locs G => ?_)
                                  obtain rfl := hk_s hsp
                                  exact W.vret hx hb hr (fun t ht hW => hk_end G ht hW) G.2.1.2.2 dX5_init_91
                                · exact absurd c48 (by decide)
                  · exact absurd c29 (by decide)
def mX1_init_80 (F : Nat) (S : hk_S) : Option (hk_S) :=
hk_let (va_up S 81 (fun _ => 0)) (fun S1 => some (S1))
set_option maxHeartbeats 4000000 in
set_option maxRecDepth 100000 in
theorem kX1_init_80 (l : Launch) (g : hk_G) (F : Nat) (S : hk_S) (o : hk_S) (hsp : mX1_init_80 F S = some o) : Met l yX1_init (hk_ws yX1_init cX1_init 1 (Option.none : Option Jvm.ClassFile.FieldType)) ({ frames := 1, cells := 1, slots := 3, locals := 12 }) (hk_Pc g (hk_EE 81 77) S (g.1 + 81) [.ref (g.1 + 80)]) (hk_Q g (hk_EE 82 78) o (g.1 + 82) none) 1 3 (hk_A g) := by
  refine Met.ofW (cc := cX1_init) (maxL := 1) (ret := (Option.none : Option Jvm.ClassFile.FieldType)) (by decide) rfl ?_
  intro p e s m args below meth c s₁ B hml hv
  obtain ⟨rfl, G⟩ := hk_begin hv
  have F9 : CallFix p m c cX1_init 1 s [.ref (g.1 + 80)].toArray hk_W RX1 := ⟨B.exec, B.bytes, hml, findClass_of_methodNamed B.named, fun w h => atoms_spec (ws := hk_ws yX1_init cX1_init 1 (Option.none : Option Jvm.ClassFile.FieldType)) B.pre w (hk_in h)⟩
  have hin : meth.name = "<init>" := (name_of_methodNamed B.named B.method).1
  have hx := B.exec
  have hb := B.bytes
  have hr := B.returns
  have hlocks := B.notSynchronized
  have hl := lv_entry ([.ref (g.1 + 80)]) (n := 1) (Nat.le_of_ble_eq_true rfl)
  rw [lg_entry_eq]
  generalize (lg_sl ([.ref (g.1 + 80)]) ++ List.replicate (1 - (lg_sl ([.ref (g.1 + 80)])).length) Slot.unset).toArray = ls at hl ⊢
  have hl : lv_has ls 1 [(0, .ref (g.1 + 80))] := hl
  unfold mX1_init_80 at hsp
  have G : hk_GG g (hk_EE 81 77) S (g.1 + 81) s s.heap [] := G
  refine lv_aload_n hx hb dX1_init_0 rfl (lv_at hl 0 rfl) ?_
  refine hk_obj F9 qw_40 qw_27 qw_28 hl.1 ⟨(Nat.le_of_ble_eq_true rfl), (Nat.le_of_ble_eq_true rfl)⟩ dX1_init_1 ?_
  refine lv_aload_n hx hb dX1_init_4 rfl (lv_at hl 0 rfl) ?_
  refine lv_iconst (v := 3) hx hb dX1_init_5 (by decide) ?_
  refine hk_newA (E1 := (hk_EE 82 77)) (a := 81) (b := 82) (ft := .int) (t := 2) (ln := 3) (kd := 13) F9 G rfl ⟨rfl, rfl⟩ rfl (fun _ h => nomatch h) rfl (fun I _ => hk_cell_i (t := 2) (by decide)) rfl (hk_growE (kd := 13) (ln := 3) (by decide +kernel) (by decide +kernel) (by decide +kernel)) qw_62 (by decide) (by decide) (by decide) ⟨(Nat.le_of_ble_eq_true rfl), (Nat.le_of_ble_eq_true rfl)⟩ dX1_init_6 (fun H G => ?_)
  obtain ⟨S1, eS1, hsp⟩ := hk_l hsp
  rw [eS1] at G
  refine hk_putR (E1 := (hk_EE 82 78)) (a := 80) (r := 81) (k := 4) F9 G (by decide +kernel) hkc_0 (by decide) qw_50 rfl rfl hin rfl (tyX1_ok 4 (by decide)) (fun _ => rfl) (fun _ => rfl) (hk_setE (by decide +kernel) (by decide +kernel)) dX1_init_8 (fun H locs G => ?_)
  obtain rfl := hk_s hsp
  exact W.vret hx hb hr (fun t ht hW => hk_end G ht hW) G.2.1.2.2 dX1_init_11
def mX5_init_79 (F : Nat) (S : hk_S) : Option (hk_S) :=
hk_let (va_up S 80 (hk_i0 0)) (fun S1 => (mX1_init_80 F S1).bind (fun r2 => hk_let (va_up r2 82 (fun _ => 0)) (fun S3 => hk_let (va_up S3 83 (fun _ => 0)) (fun S4 => hk_let (va_up S4 84 (hk_i0 7)) (fun S6 => (mX10_init (hk_EE 85 81) F S6 84).bind (fun r7 => hk_let (va_up r7 85 (hk_i0 7)) (fun S9 => (mX10_init (hk_EE 86 82) F S9 85).bind (fun r10 => hk_let (va_up r10 86 (hk_i0 7)) (fun S12 => (mX10_init (hk_EE 87 83) F S12 86).bind (fun r13 => hk_let (va_up r13 87 (hk_i0 7)) (fun S15 => (mX10_init (hk_EE 88 84) F S15 87).bind (fun r16 => hk_let (va_up r16 88 (hk_i0 7)) (fun S18 => (mX10_init (hk_EE 89 85) F S18 88).bind (fun r19 => hk_let (va_up r19 89 (hk_i0 7)) (fun S21 => (mX10_init (hk_EE 90 86) F S21 89).bind (fun r22 => hk_let (va_up r22 90 (hk_i0 7)) (fun S24 => (mX10_init (hk_EE 91 87) F S24 90).bind (fun r25 => hk_let (va_up r25 91 (hk_i0 7)) (fun S27 => (mX10_init (hk_EE 92 88) F S27 91).bind (fun r28 => hk_let (va_up r28 92 (hk_i0 4)) (fun S31 => (mX6_init (hk_EE 93 89) F S31 92).bind (fun r32 => hk_let (va_up r32 93 (hk_i0 4)) (fun S34 => (mX6_init (hk_EE 94 90) F S34 93).bind (fun r35 => hk_let (va_up r35 94 (hk_i0 4)) (fun S37 => (mX6_init (hk_EE 95 91) F S37 94).bind (fun r38 => hk_let (va_up r38 95 (hk_i0 4)) (fun S40 => (mX6_init (hk_EE 96 92) F S40 95).bind (fun r41 => hk_let (va_up r41 96 (hk_i0 4)) (fun S43 => (mX6_init (hk_EE 97 93) F S43 96).bind (fun r44 => hk_let (va_up r44 97 (hk_i0 4)) (fun S46 => (mX6_init (hk_EE 98 94) F S46 97).bind (fun r47 => (mX5_clear (hk_EE 98 95) F r47 79).bind (fun r49 => some (r49))))))))))))))))))))))))))))))))))
set_option maxHeartbeats 4000000 in
set_option maxRecDepth 100000 in
theorem kX5_init_79 (l : Launch) (g : hk_G) (F : Nat) (S : hk_S) (o : hk_S) (hsp : mX5_init_79 F S = some o) : Met l yX5_init (hk_ws yX5_init cX5_init 2 (Option.none : Option Jvm.ClassFile.FieldType)) ({ frames := 3, cells := 18, slots := 120, locals := 62 }) (hk_Pc g (hk_EE 80 77) S (g.1 + 80) [.ref (g.1 + 79)]) (hk_Q g (hk_EE 98 95) o (g.1 + 98) none) 18 120 (hk_A g) := by
  refine Met.ofW (cc := cX5_init) (maxL := 2) (ret := (Option.none : Option Jvm.ClassFile.FieldType)) (by decide) rfl ?_
  intro p e s m args below meth c s₁ B hml hv
  obtain ⟨rfl, G⟩ := hk_begin hv
  have F9 : CallFix p m c cX5_init 2 s [.ref (g.1 + 79)].toArray hk_W RX5 := ⟨B.exec, B.bytes, hml, findClass_of_methodNamed B.named, fun w h => atoms_spec (ws := hk_ws yX5_init cX5_init 2 (Option.none : Option Jvm.ClassFile.FieldType)) B.pre w (hk_in h)⟩
  have hin : meth.name = "<init>" := (name_of_methodNamed B.named B.method).1
  have hx := B.exec
  have hb := B.bytes
  have hr := B.returns
  have hlocks := B.notSynchronized
  have hl := lv_entry ([.ref (g.1 + 79)]) (n := 2) (Nat.le_of_ble_eq_true rfl)
  rw [lg_entry_eq]
  generalize (lg_sl ([.ref (g.1 + 79)]) ++ List.replicate (2 - (lg_sl ([.ref (g.1 + 79)])).length) Slot.unset).toArray = ls at hl ⊢
  have hl : lv_has ls 2 [(0, .ref (g.1 + 79))] := hl
  unfold mX5_init_79 at hsp
  have G : hk_GG g (hk_EE 80 77) S (g.1 + 80) s s.heap [] := G
  refine lv_aload_n hx hb dX5_init_0 rfl (lv_at hl 0 rfl) ?_
  refine hk_obj F9 qw_34 qw_27 qw_28 hl.1 ⟨(Nat.le_of_ble_eq_true rfl), (Nat.le_of_ble_eq_true rfl)⟩ dX5_init_1 ?_
  refine lv_aload_n hx hb dX5_init_4 rfl (lv_at hl 0 rfl) ?_
  refine hk_new (E1 := (hk_EE 81 77)) (a := 80) (b := 81) F9 G rfl ⟨rfl, rfl⟩ hkc_0 hkd_0 (hk_growE (kd := 1) (ln := 0) (by decide +kernel) (by decide +kernel) (by decide +kernel)) qw_35 qw_36 qw_3 ⟨(Nat.le_of_ble_eq_true rfl), (Nat.le_of_ble_eq_true rfl)⟩ dX5_init_5 (fun H G => ?_)
  obtain ⟨S1, eS1, hsp⟩ := hk_l hsp
  rw [eS1] at G
  refine lv_dup hx hb dX5_init_8 rfl ?_
  obtain ⟨r2, er2, hsp⟩ := hk_b hsp
  refine hk_callIN (rest := [.ref (g.1 + 80), .ref (g.1 + 79)]) F9 G (kX1_init_80 l g F S1 r2 er2) qin_RX5_11 ⟨rfl, rfl, (Nat.le_of_ble_eq_true rfl), (Nat.le_of_ble_eq_true rfl)⟩ hl.1 (Nat.le_of_ble_eq_true rfl) ⟨(Nat.le_of_ble_eq_true rfl), (Nat.le_of_ble_eq_true rfl)⟩ dX5_init_9 (fun H locs G => ?_)
  refine hk_putR (E1 := (hk_EE 82 79)) (a := 79) (r := 80) (k := 0) F9 G (by decide +kernel) hkc_3 (by decide) qw_153 rfl rfl hin rfl (tyX5_ok 0 (by decide)) (fun _ => rfl) (fun _ => rfl) (hk_setE (by decide +kernel) (by decide +kernel)) dX5_init_12 (fun H locs G => ?_)
  refine lv_aload_n hx hb dX5_init_15 rfl (lv_at hl 0 rfl) ?_
  refine lv_bipush (v := 8) hx hb dX5_init_16 (by decide) ?_
  refine hk_newQ (E1 := (hk_EE 83 79)) (a := 82) (b := 83) (t := 2) (ln := 8) F9 G rfl ⟨rfl, rfl⟩ (by decide) rfl G.2.2.1.2.2.2.2 (hk_growE (kd := 16) (ln := 8) (by decide +kernel) (by decide +kernel) (by decide +kernel)) qw_63 (by decide) (by decide) (by decide) ⟨(Nat.le_of_ble_eq_true rfl), (Nat.le_of_ble_eq_true rfl)⟩ dX5_init_18 (fun H G => ?_)
  obtain ⟨S3, eS3, hsp⟩ := hk_l hsp
  rw [eS3] at G
  refine hk_putR (E1 := (hk_EE 83 80)) (a := 79) (r := 82) (k := 1) F9 G (by decide +kernel) hkc_3 (by decide) qw_155 rfl rfl hin rfl (tyX5_ok 1 (by decide)) (fun _ => rfl) (fun _ => rfl) (hk_setE (by decide +kernel) (by decide +kernel)) dX5_init_21 (fun H locs G => ?_)
  refine lv_aload_n hx hb dX5_init_24 rfl (lv_at hl 0 rfl) ?_
  refine lv_bipush (v := 6) hx hb dX5_init_25 (by decide) ?_
  refine hk_newQ (E1 := (hk_EE 84 80)) (a := 83) (b := 84) (t := 1) (ln := 6) F9 G rfl ⟨rfl, rfl⟩ (by decide) rfl G.2.2.1.2.2.2.1 (hk_growE (kd := 15) (ln := 6) (by decide +kernel) (by decide +kernel) (by decide +kernel)) qw_65 (by decide) (by decide) (by decide) ⟨(Nat.le_of_ble_eq_true rfl), (Nat.le_of_ble_eq_true rfl)⟩ dX5_init_27 (fun H G => ?_)
  obtain ⟨S4, eS4, hsp⟩ := hk_l hsp
  rw [eS4] at G
  refine hk_putR (E1 := (hk_EE 84 81)) (a := 79) (r := 83) (k := 3) F9 G (by decide +kernel) hkc_3 (by decide) qw_158 rfl rfl hin rfl (tyX5_ok 3 (by decide)) (fun _ => rfl) (fun _ => rfl) (hk_setE (by decide +kernel) (by decide +kernel)) dX5_init_30 (fun H locs G => ?_)
  refine lv_iconst (v := 0) hx hb dX5_init_33 (by decide) ?_
  refine lv_istore_n (lv' := [(1, .int 0), (0, .ref (g.1 + 79))]) hx hb dX5_init_34 rfl hl (by decide) rfl (fun ls hl => ?_)
  refine lv_iload_n hx hb dX5_init_35 rfl (lv_at hl 0 rfl) ?_
  refine lv_bipush (v := 8) hx hb dX5_init_36 (by decide) ?_
  refine lv_icmp_ge (tgt := 60) hx hb dX5_init_38 (by decide) (fun c5 => ?_) (fun c5 => ?_)
  · exact absurd c5 (by decide)
  · refine lv_aload_n hx hb dX5_init_41 rfl (lv_at hl 1 rfl) ?_
    refine hk_getR (r := 82) F9 G (by decide +kernel) hkc_3 (k := 1) (by decide) qw_155 rfl (by decide +kernel) dX5_init_42 ?_
    refine lv_iload_n hx hb dX5_init_45 rfl (lv_at hl 0 rfl) ?_
    refine hk_new (E1 := (hk_EE 85 81)) (a := 84) (b := 85) F9 G rfl ⟨rfl, rfl⟩ hkc_7 hkd_7 (hk_growE (kd := 8) (ln := 0) (by decide +kernel) (by decide +kernel) (by decide +kernel)) qw_63 qw_67 qw_4 ⟨(Nat.le_of_ble_eq_true rfl), (Nat.le_of_ble_eq_true rfl)⟩ dX5_init_46 (fun H G => ?_)
    obtain ⟨S6, eS6, hsp⟩ := hk_l hsp
    rw [eS6] at G
    refine lv_dup hx hb dX5_init_49 rfl ?_
    obtain ⟨r7, er7, hsp⟩ := hk_b hsp
    refine hk_callIN (rest := [.ref (g.1 + 84), .int 0, .ref (g.1 + 82)]) F9 G (kX10_init l g (hk_EE 85 81) F (g.1 + 85) S6 84 r7 (by decide +kernel) er7) qin_RX5_30 ⟨rfl, rfl, (Nat.le_of_ble_eq_true rfl), (Nat.le_of_ble_eq_true rfl)⟩ hl.1 (Nat.le_of_ble_eq_true rfl) ⟨(Nat.le_of_ble_eq_true rfl), (Nat.le_of_ble_eq_true rfl)⟩ dX5_init_50 (fun H locs G => ?_)
    refine hk_aast (E1 := (hk_EE 85 82)) (a := 82) (r := 84) (j := 0) (t := 2) (ci := 7) (ln := 8) F9 G (by decide) (by decide +kernel) (by decide +kernel) (by decide) rfl rfl (by decide +kernel) (by decide) (by decide) (by decide) (hk_setE (by decide +kernel) (by decide +kernel)) dX5_init_53 (fun H locs G => ?_)
    refine lv_iinc (v := 1) (lv' := [(1, .int 1), (0, .ref (g.1 + 79))]) hx hb dX5_init_54 hl (k := 0) rfl (by decide) (by decide) rfl (fun ls hl => ?_)
    refine lv_goto (tgt := 35) hx hb dX5_init_57 (by decide) ?_
    refine lv_iload_n hx hb dX5_init_35 rfl (lv_at hl 0 rfl) ?_
    refine lv_bipush (v := 8) hx hb dX5_init_36 (by decide) ?_
    refine lv_icmp_ge (tgt := 60) hx hb dX5_init_38 (by decide) (fun c8 => ?_) (fun c8 => ?_)
    · exact absurd c8 (by decide)
    · refine lv_aload_n hx hb dX5_init_41 rfl (lv_at hl 1 rfl) ?_
      refine hk_getR (r := 82) F9 G (by decide +kernel) hkc_3 (k := 1) (by decide) qw_155 rfl (by decide +kernel) dX5_init_42 ?_
      refine lv_iload_n hx hb dX5_init_45 rfl (lv_at hl 0 rfl) ?_
      refine hk_new (E1 := (hk_EE 86 82)) (a := 85) (b := 86) F9 G rfl ⟨rfl, rfl⟩ hkc_7 hkd_7 (hk_growE (kd := 8) (ln := 0) (by decide +kernel) (by decide +kernel) (by decide +kernel)) qw_63 qw_67 qw_4 ⟨(Nat.le_of_ble_eq_true rfl), (Nat.le_of_ble_eq_true rfl)⟩ dX5_init_46 (fun H G => ?_)
      obtain ⟨S9, eS9, hsp⟩ := hk_l hsp
      rw [eS9] at G
      refine lv_dup hx hb dX5_init_49 rfl ?_
      obtain ⟨r10, er10, hsp⟩ := hk_b hsp
      refine hk_callIN (rest := [.ref (g.1 + 85), .int 1, .ref (g.1 + 82)]) F9 G (kX10_init l g (hk_EE 86 82) F (g.1 + 86) S9 85 r10 (by decide +kernel) er10) qin_RX5_30 ⟨rfl, rfl, (Nat.le_of_ble_eq_true rfl), (Nat.le_of_ble_eq_true rfl)⟩ hl.1 (Nat.le_of_ble_eq_true rfl) ⟨(Nat.le_of_ble_eq_true rfl), (Nat.le_of_ble_eq_true rfl)⟩ dX5_init_50 (fun H locs G => ?_)
      refine hk_aast (E1 := (hk_EE 86 83)) (a := 82) (r := 85) (j := 1) (t := 2) (ci := 7) (ln := 8) F9 G (by decide) (by decide +kernel) (by decide +kernel) (by decide) rfl rfl (by decide +kernel) (by decide) (by decide) (by decide) (hk_setE (by decide +kernel) (by decide +kernel)) dX5_init_53 (fun H locs G => ?_)
      refine lv_iinc (v := 2) (lv' := [(1, .int 2), (0, .ref (g.1 + 79))]) hx hb dX5_init_54 hl (k := 0) rfl (by decide) (by decide) rfl (fun ls hl => ?_)
      refine lv_goto (tgt := 35) hx hb dX5_init_57 (by decide) ?_
      refine lv_iload_n hx hb dX5_init_35 rfl (lv_at hl 0 rfl) ?_
      refine lv_bipush (v := 8) hx hb dX5_init_36 (by decide) ?_
      refine lv_icmp_ge (tgt := 60) hx hb dX5_init_38 (by decide) (fun c11 => ?_) (fun c11 => ?_)
      · exact absurd c11 (by decide)
      · refine lv_aload_n hx hb dX5_init_41 rfl (lv_at hl 1 rfl) ?_
        refine hk_getR (r := 82) F9 G (by decide +kernel) hkc_3 (k := 1) (by decide) qw_155 rfl (by decide +kernel) dX5_init_42 ?_
        refine lv_iload_n hx hb dX5_init_45 rfl (lv_at hl 0 rfl) ?_
        refine hk_new (E1 := (hk_EE 87 83)) (a := 86) (b := 87) F9 G rfl ⟨rfl, rfl⟩ hkc_7 hkd_7 (hk_growE (kd := 8) (ln := 0) (by decide +kernel) (by decide +kernel) (by decide +kernel)) qw_63 qw_67 qw_4 ⟨(Nat.le_of_ble_eq_true rfl), (Nat.le_of_ble_eq_true rfl)⟩ dX5_init_46 (fun H G => ?_)
        obtain ⟨S12, eS12, hsp⟩ := hk_l hsp
        rw [eS12] at G
        refine lv_dup hx hb dX5_init_49 rfl ?_
        obtain ⟨r13, er13, hsp⟩ := hk_b hsp
        refine hk_callIN (rest := [.ref (g.1 + 86), .int 2, .ref (g.1 + 82)]) F9 G (kX10_init l g (hk_EE 87 83) F (g.1 + 87) S12 86 r13 (by decide +kernel) er13) qin_RX5_30 ⟨rfl, rfl, (Nat.le_of_ble_eq_true rfl), (Nat.le_of_ble_eq_true rfl)⟩ hl.1 (Nat.le_of_ble_eq_true rfl) ⟨(Nat.le_of_ble_eq_true rfl), (Nat.le_of_ble_eq_true rfl)⟩ dX5_init_50 (fun H locs G => ?_)
        refine hk_aast (E1 := (hk_EE 87 84)) (a := 82) (r := 86) (j := 2) (t := 2) (ci := 7) (ln := 8) F9 G (by decide) (by decide +kernel) (by decide +kernel) (by decide) rfl rfl (by decide +kernel) (by decide) (by decide) (by decide) (hk_setE (by decide +kernel) (by decide +kernel)) dX5_init_53 (fun H locs G => ?_)
        refine lv_iinc (v := 3) (lv' := [(1, .int 3), (0, .ref (g.1 + 79))]) hx hb dX5_init_54 hl (k := 0) rfl (by decide) (by decide) rfl (fun ls hl => ?_)
        refine lv_goto (tgt := 35) hx hb dX5_init_57 (by decide) ?_
        refine lv_iload_n hx hb dX5_init_35 rfl (lv_at hl 0 rfl) ?_
        refine lv_bipush (v := 8) hx hb dX5_init_36 (by decide) ?_
        refine lv_icmp_ge (tgt := 60) hx hb dX5_init_38 (by decide) (fun c14 => ?_) (fun c14 => ?_)
        · exact absurd c14 (by decide)
        · refine lv_aload_n hx hb dX5_init_41 rfl (lv_at hl 1 rfl) ?_
          refine hk_getR (r := 82) F9 G (by decide +kernel) hkc_3 (k := 1) (by decide) qw_155 rfl (by decide +kernel) dX5_init_42 ?_
          refine lv_iload_n hx hb dX5_init_45 rfl (lv_at hl 0 rfl) ?_
          refine hk_new (E1 := (hk_EE 88 84)) (a := 87) (b := 88) F9 G rfl ⟨rfl, rfl⟩ hkc_7 hkd_7 (hk_growE (kd := 8) (ln := 0) (by decide +kernel) (by decide +kernel) (by decide +kernel)) qw_63 qw_67 qw_4 ⟨(Nat.le_of_ble_eq_true rfl), (Nat.le_of_ble_eq_true rfl)⟩ dX5_init_46 (fun H G => ?_)
          obtain ⟨S15, eS15, hsp⟩ := hk_l hsp
          rw [eS15] at G
          refine lv_dup hx hb dX5_init_49 rfl ?_
          obtain ⟨r16, er16, hsp⟩ := hk_b hsp
          refine hk_callIN (rest := [.ref (g.1 + 87), .int 3, .ref (g.1 + 82)]) F9 G (kX10_init l g (hk_EE 88 84) F (g.1 + 88) S15 87 r16 (by decide +kernel) er16) qin_RX5_30 ⟨rfl, rfl, (Nat.le_of_ble_eq_true rfl), (Nat.le_of_ble_eq_true rfl)⟩ hl.1 (Nat.le_of_ble_eq_true rfl) ⟨(Nat.le_of_ble_eq_true rfl), (Nat.le_of_ble_eq_true rfl)⟩ dX5_init_50 (fun H locs G => ?_)
          refine hk_aast (E1 := (hk_EE 88 85)) (a := 82) (r := 87) (j := 3) (t := 2) (ci := 7) (ln := 8) F9 G (by decide) (by decide +kernel) (by decide +kernel) (by decide) rfl rfl (by decide +kernel) (by decide) (by decide) (by decide) (hk_setE (by decide +kernel) (by decide +kernel)) dX5_init_53 (fun H locs G => ?_)
          refine lv_iinc (v := 4) (lv' := [(1, .int 4), (0, .ref (g.1 + 79))]) hx hb dX5_init_54 hl (k := 0) rfl (by decide) (by decide) rfl (fun ls hl => ?_)
          refine lv_goto (tgt := 35) hx hb dX5_init_57 (by decide) ?_
          refine lv_iload_n hx hb dX5_init_35 rfl (lv_at hl 0 rfl) ?_
          refine lv_bipush (v := 8) hx hb dX5_init_36 (by decide) ?_
          refine lv_icmp_ge (tgt := 60) hx hb dX5_init_38 (by decide) (fun c17 => ?_) (fun c17 => ?_)
          · exact absurd c17 (by decide)
          · refine lv_aload_n hx hb dX5_init_41 rfl (lv_at hl 1 rfl) ?_
            refine hk_getR (r := 82) F9 G (by decide +kernel) hkc_3 (k := 1) (by decide) qw_155 rfl (by decide +kernel) dX5_init_42 ?_
            refine lv_iload_n hx hb dX5_init_45 rfl (lv_at hl 0 rfl) ?_
            refine hk_new (E1 := (hk_EE 89 85)) (a := 88) (b := 89) F9 G rfl ⟨rfl, rfl⟩ hkc_7 hkd_7 (hk_growE (kd := 8) (ln := 0) (by decide +kernel) (by decide +kernel) (by decide +kernel)) qw_63 qw_67 qw_4 ⟨(Nat.le_of_ble_eq_true rfl), (Nat.le_of_ble_eq_true rfl)⟩ dX5_init_46 (fun H G => ?_)
            obtain ⟨S18, eS18, hsp⟩ := hk_l hsp
            rw [eS18] at G
            refine lv_dup hx hb dX5_init_49 rfl ?_
            obtain ⟨r19, er19, hsp⟩ := hk_b hsp
            refine hk_callIN (rest := [.ref (g.1 + 88), .int 4, .ref (g.1 + 82)]) F9 G (kX10_init l g (hk_EE 89 85) F (g.1 + 89) S18 88 r19 (by decide +kernel) er19) qin_RX5_30 ⟨rfl, rfl, (Nat.le_of_ble_eq_true rfl), (Nat.le_of_ble_eq_true rfl)⟩ hl.1 (Nat.le_of_ble_eq_true rfl) ⟨(Nat.le_of_ble_eq_true rfl), (Nat.le_of_ble_eq_true rfl)⟩ dX5_init_50 (fun H locs G => ?_)
            refine hk_aast (E1 := (hk_EE 89 86)) (a := 82) (r := 88) (j := 4) (t := 2) (ci := 7) (ln := 8) F9 G (by decide) (by decide +kernel) (by decide +kernel) (by decide) rfl rfl (by decide +kernel) (by decide) (by decide) (by decide) (hk_setE (by decide +kernel) (by decide +kernel)) dX5_init_53 (fun H locs G => ?_)
            refine lv_iinc (v := 5) (lv' := [(1, .int 5), (0, .ref (g.1 + 79))]) hx hb dX5_init_54 hl (k := 0) rfl (by decide) (by decide) rfl (fun ls hl => ?_)
            refine lv_goto (tgt := 35) hx hb dX5_init_57 (by decide) ?_
            refine lv_iload_n hx hb dX5_init_35 rfl (lv_at hl 0 rfl) ?_
            refine lv_bipush (v := 8) hx hb dX5_init_36 (by decide) ?_
            refine lv_icmp_ge (tgt := 60) hx hb dX5_init_38 (by decide) (fun c20 => ?_) (fun c20 => ?_)
            · exact absurd c20 (by decide)
            · refine lv_aload_n hx hb dX5_init_41 rfl (lv_at hl 1 rfl) ?_
              refine hk_getR (r := 82) F9 G (by decide +kernel) hkc_3 (k := 1) (by decide) qw_155 rfl (by decide +kernel) dX5_init_42 ?_
              refine lv_iload_n hx hb dX5_init_45 rfl (lv_at hl 0 rfl) ?_
              refine hk_new (E1 := (hk_EE 90 86)) (a := 89) (b := 90) F9 G rfl ⟨rfl, rfl⟩ hkc_7 hkd_7 (hk_growE (kd := 8) (ln := 0) (by decide +kernel) (by decide +kernel) (by decide +kernel)) qw_63 qw_67 qw_4 ⟨(Nat.le_of_ble_eq_true rfl), (Nat.le_of_ble_eq_true rfl)⟩ dX5_init_46 (fun H G => ?_)
              obtain ⟨S21, eS21, hsp⟩ := hk_l hsp
              rw [eS21] at G
              refine lv_dup hx hb dX5_init_49 rfl ?_
              obtain ⟨r22, er22, hsp⟩ := hk_b hsp
              refine hk_callIN (rest := [.ref (g.1 + 89), .int 5, .ref (g.1 + 82)]) F9 G (kX10_init l g (hk_EE 90 86) F (g.1 + 90) S21 89 r22 (by decide +kernel) er22) qin_RX5_30 ⟨rfl, rfl, (Nat.le_of_ble_eq_true rfl), (Nat.le_of_ble_eq_true rfl)⟩ hl.1 (Nat.le_of_ble_eq_true rfl) ⟨(Nat.le_of_ble_eq_true rfl), (Nat.le_of_ble_eq_true rfl)⟩ dX5_init_50 (fun H locs G => ?_)
              refine hk_aast (E1 := (hk_EE 90 87)) (a := 82) (r := 89) (j := 5) (t := 2) (ci := 7) (ln := 8) F9 G (by decide) (by decide +kernel) (by decide +kernel) (by decide) rfl rfl (by decide +kernel) (by decide) (by decide) (by decide) (hk_setE (by decide +kernel) (by decide +kernel)) dX5_init_53 (fun H locs G => ?_)
              refine lv_iinc (v := 6) (lv' := [(1, .int 6), (0, .ref (g.1 + 79))]) hx hb dX5_init_54 hl (k := 0) rfl (by decide) (by decide) rfl (fun ls hl => ?_)
              refine lv_goto (tgt := 35) hx hb dX5_init_57 (by decide) ?_
              refine lv_iload_n hx hb dX5_init_35 rfl (lv_at hl 0 rfl) ?_
              refine lv_bipush (v := 8) hx hb dX5_init_36 (by decide) ?_
              refine lv_icmp_ge (tgt := 60) hx hb dX5_init_38 (by decide) (fun c23 => ?_) (fun c23 => ?_)
              · exact absurd c23 (by decide)
              · refine lv_aload_n hx hb dX5_init_41 rfl (lv_at hl 1 rfl) ?_
                refine hk_getR (r := 82) F9 G (by decide +kernel) hkc_3 (k := 1) (by decide) qw_155 rfl (by decide +kernel) dX5_init_42 ?_
                refine lv_iload_n hx hb dX5_init_45 rfl (lv_at hl 0 rfl) ?_
                refine hk_new (E1 := (hk_EE 91 87)) (a := 90) (b := 91) F9 G rfl ⟨rfl, rfl⟩ hkc_7 hkd_7 (hk_growE (kd := 8) (ln := 0) (by decide +kernel) (by decide +kernel) (by decide +kernel)) qw_63 qw_67 qw_4 ⟨(Nat.le_of_ble_eq_true rfl), (Nat.le_of_ble_eq_true rfl)⟩ dX5_init_46 (fun H G => ?_)
                obtain ⟨S24, eS24, hsp⟩ := hk_l hsp
                rw [eS24] at G
                refine lv_dup hx hb dX5_init_49 rfl ?_
                obtain ⟨r25, er25, hsp⟩ := hk_b hsp
                refine hk_callIN (rest := [.ref (g.1 + 90), .int 6, .ref (g.1 + 82)]) F9 G (kX10_init l g (hk_EE 91 87) F (g.1 + 91) S24 90 r25 (by decide +kernel) er25) qin_RX5_30 ⟨rfl, rfl, (Nat.le_of_ble_eq_true rfl), (Nat.le_of_ble_eq_true rfl)⟩ hl.1 (Nat.le_of_ble_eq_true rfl) ⟨(Nat.le_of_ble_eq_true rfl), (Nat.le_of_ble_eq_true rfl)⟩ dX5_init_50 (fun H locs G => ?_)
                refine hk_aast (E1 := (hk_EE 91 88)) (a := 82) (r := 90) (j := 6) (t := 2) (ci := 7) (ln := 8) F9 G (by decide) (by decide +kernel) (by decide +kernel) (by decide) rfl rfl (by decide +kernel) (by decide) (by decide) (by decide) (hk_setE (by decide +kernel) (by decide +kernel)) dX5_init_53 (fun H locs G => ?_)
                refine lv_iinc (v := 7) (lv' := [(1, .int 7), (0, .ref (g.1 + 79))]) hx hb dX5_init_54 hl (k := 0) rfl (by decide) (by decide) rfl (fun ls hl => ?_)
                refine lv_goto (tgt := 35) hx hb dX5_init_57 (by decide) ?_
                refine lv_iload_n hx hb dX5_init_35 rfl (lv_at hl 0 rfl) ?_
                refine lv_bipush (v := 8) hx hb dX5_init_36 (by decide) ?_
                refine lv_icmp_ge (tgt := 60) hx hb dX5_init_38 (by decide) (fun c26 => ?_) (fun c26 => ?_)
                · exact absurd c26 (by decide)
                · refine lv_aload_n hx hb dX5_init_41 rfl (lv_at hl 1 rfl) ?_
                  refine hk_getR (r := 82) F9 G (by decide +kernel) hkc_3 (k := 1) (by decide) qw_155 rfl (by decide +kernel) dX5_init_42 ?_
                  refine lv_iload_n hx hb dX5_init_45 rfl (lv_at hl 0 rfl) ?_
                  refine hk_new (E1 := (hk_EE 92 88)) (a := 91) (b := 92) F9 G rfl ⟨rfl, rfl⟩ hkc_7 hkd_7 (hk_growE (kd := 8) (ln := 0) (by decide +kernel) (by decide +kernel) (by decide +kernel)) qw_63 qw_67 qw_4 ⟨(Nat.le_of_ble_eq_true rfl), (Nat.le_of_ble_eq_true rfl)⟩ dX5_init_46 (fun H G => ?_)
                  obtain ⟨S27, eS27, hsp⟩ := hk_l hsp
                  rw [eS27] at G
                  refine lv_dup hx hb dX5_init_49 rfl ?_
                  obtain ⟨r28, er28, hsp⟩ := hk_b hsp
                  refine hk_callIN (rest := [.ref (g.1 + 91), .int 7, .ref (g.1 + 82)]) F9 G (kX10_init l g (hk_EE 92 88) F (g.1 + 92) S27 91 r28 (by decide +kernel) er28) qin_RX5_30 ⟨rfl, rfl, (Nat.le_of_ble_eq_true rfl), (Nat.le_of_ble_eq_true rfl)⟩ hl.1 (Nat.le_of_ble_eq_true rfl) ⟨(Nat.le_of_ble_eq_true rfl), (Nat.le_of_ble_eq_true rfl)⟩ dX5_init_50 (fun H locs G => ?_)
                  refine hk_aast (E1 := (hk_EE 92 89)) (a := 82) (r := 91) (j := 7) (t := 2) (ci := 7) (ln := 8) F9 G (by decide) (by decide +kernel) (by decide +kernel) (by decide) rfl rfl (by decide +kernel) (by decide) (by decide) (by decide) (hk_setE (by decide +kernel) (by decide +kernel)) dX5_init_53 (fun H locs G => ?_)
                  refine lv_iinc (v := 8) (lv' := [(1, .int 8), (0, .ref (g.1 + 79))]) hx hb dX5_init_54 hl (k := 0) rfl (by decide) (by decide) rfl (fun ls hl => ?_)
                  refine lv_goto (tgt := 35) hx hb dX5_init_57 (by decide) ?_
                  refine lv_iload_n hx hb dX5_init_35 rfl (lv_at hl 0 rfl) ?_
                  refine lv_bipush (v := 8) hx hb dX5_init_36 (by decide) ?_
                  refine lv_icmp_ge (tgt := 60) hx hb dX5_init_38 (by decide) (fun c29 => ?_) (fun c29 => ?_)
                  · refine lv_iconst (v := 0) hx hb dX5_init_60 (by decide) ?_
                    refine lv_istore_n (lv' := [(1, .int 0), (0, .ref (g.1 + 79))]) hx hb dX5_init_61 rfl hl (by decide) rfl (fun ls hl => ?_)
                    refine lv_iload_n hx hb dX5_init_62 rfl (lv_at hl 0 rfl) ?_
                    refine lv_bipush (v := 6) hx hb dX5_init_63 (by decide) ?_
                    refine lv_icmp_ge (tgt := 87) hx hb dX5_init_65 (by decide) (fun c30 => ?_) (fun c30 => ?_)
                    · exact absurd c30 (by decide)
                    · refine lv_aload_n hx hb dX5_init_68 rfl (lv_at hl 1 rfl) ?_
                      refine hk_getR (r := 83) F9 G (by decide +kernel) hkc_3 (k := 3) (by decide) qw_158 rfl (by decide +kernel) dX5_init_69 ?_
                      refine lv_iload_n hx hb dX5_init_72 rfl (lv_at hl 0 rfl) ?_
                      refine hk_new (E1 := (hk_EE 93 89)) (a := 92) (b := 93) F9 G rfl ⟨rfl, rfl⟩ hkc_4 hkd_4 (hk_growE (kd := 5) (ln := 0) (by decide +kernel) (by decide +kernel) (by decide +kernel)) qw_65 qw_116 qw_5 ⟨(Nat.le_of_ble_eq_true rfl), (Nat.le_of_ble_eq_true rfl)⟩ dX5_init_73 (fun H G => ?_)
                      obtain ⟨S31, eS31, hsp⟩ := hk_l hsp
                      rw [eS31] at G
                      refine lv_dup hx hb dX5_init_76 rfl ?_
                      obtain ⟨r32, er32, hsp⟩ := hk_b hsp
                      refine hk_callIN (rest := [.ref (g.1 + 92), .int 0, .ref (g.1 + 83)]) F9 G (kX6_init l g (hk_EE 93 89) F (g.1 + 93) S31 92 r32 (by decide +kernel) er32) qin_RX5_31 ⟨rfl, rfl, (Nat.le_of_ble_eq_true rfl), (Nat.le_of_ble_eq_true rfl)⟩ hl.1 (Nat.le_of_ble_eq_true rfl) ⟨(Nat.le_of_ble_eq_true rfl), (Nat.le_of_ble_eq_true rfl)⟩ dX5_init_77 (fun H locs G => ?_)
                      refine hk_aast (E1 := (hk_EE 93 90)) (a := 83) (r := 92) (j := 0) (t := 1) (ci := 4) (ln := 6) F9 G (by decide) (by decide +kernel) (by decide +kernel) (by decide) rfl rfl (by decide +kernel) (by decide) (by decide) (by decide) (hk_setE (by decide +kernel) (by decide +kernel)) dX5_init_80 (fun H locs G => ?_)
                      refine lv_iinc (v := 1) (lv' := [(1, .int 1), (0, .ref (g.1 + 79))]) hx hb dX5_init_81 hl (k := 0) rfl (by decide) (by decide) rfl (fun ls hl => ?_)
                      refine lv_goto (tgt := 62) hx hb dX5_init_84 (by decide) ?_
                      refine lv_iload_n hx hb dX5_init_62 rfl (lv_at hl 0 rfl) ?_
                      refine lv_bipush (v := 6) hx hb dX5_init_63 (by decide) ?_
                      refine lv_icmp_ge (tgt := 87) hx hb dX5_init_65 (by decide) (fun c33 => ?_) (fun c33 => ?_)
                      · exact absurd c33 (by decide)
                      · refine lv_aload_n hx hb dX5_init_68 rfl (lv_at hl 1 rfl) ?_
                        refine hk_getR (r := 83) F9 G (by decide +kernel) hkc_3 (k := 3) (by decide) qw_158 rfl (by decide +kernel) dX5_init_69 ?_
                        refine lv_iload_n hx hb dX5_init_72 rfl (lv_at hl 0 rfl) ?_
                        refine hk_new (E1 := (hk_EE 94 90)) (a := 93) (b := 94) F9 G rfl ⟨rfl, rfl⟩ hkc_4 hkd_4 (hk_growE (kd := 5) (ln := 0) (by decide +kernel) (by decide +kernel) (by decide +kernel)) qw_65 qw_116 qw_5 ⟨(Nat.le_of_ble_eq_true rfl), (Nat.le_of_ble_eq_true rfl)⟩ dX5_init_73 (fun H G => ?_)
                        obtain ⟨S34, eS34, hsp⟩ := hk_l hsp
                        rw [eS34] at G
                        refine lv_dup hx hb dX5_init_76 rfl ?_
                        obtain ⟨r35, er35, hsp⟩ := hk_b hsp
                        refine hk_callIN (rest := [.ref (g.1 + 93), .int 1, .ref (g.1 + 83)]) F9 G (kX6_init l g (hk_EE 94 90) F (g.1 + 94) S34 93 r35 (by decide +kernel) er35) qin_RX5_31 ⟨rfl, rfl, (Nat.le_of_ble_eq_true rfl), (Nat.le_of_ble_eq_true rfl)⟩ hl.1 (Nat.le_of_ble_eq_true rfl) ⟨(Nat.le_of_ble_eq_true rfl), (Nat.le_of_ble_eq_true rfl)⟩ dX5_init_77 (fun H locs G => ?_)
                        refine hk_aast (E1 := (hk_EE 94 91)) (a := 83) (r := 93) (j := 1) (t := 1) (ci := 4) (ln := 6) F9 G (by decide) (by decide +kernel) (by decide +kernel) (by decide) rfl rfl (by decide +kernel) (by decide) (by decide) (by decide) (hk_setE (by decide +kernel) (by decide +kernel)) dX5_init_80 (fun H locs G => ?_)
                        refine lv_iinc (v := 2) (lv' := [(1, .int 2), (0, .ref (g.1 + 79))]) hx hb dX5_init_81 hl (k := 0) rfl (by decide) (by decide) rfl (fun ls hl => ?_)
                        refine lv_goto (tgt := 62) hx hb dX5_init_84 (by decide) ?_
                        refine lv_iload_n hx hb dX5_init_62 rfl (lv_at hl 0 rfl) ?_
                        refine lv_bipush (v := 6) hx hb dX5_init_63 (by decide) ?_
                        refine lv_icmp_ge (tgt := 87) hx hb dX5_init_65 (by decide) (fun c36 => ?_) (fun c36 => ?_)
                        · exact absurd c36 (by decide)
                        · refine lv_aload_n hx hb dX5_init_68 rfl (lv_at hl 1 rfl) ?_
                          refine hk_getR (r := 83) F9 G (by decide +kernel) hkc_3 (k := 3) (by decide) qw_158 rfl (by decide +kernel) dX5_init_69 ?_
                          refine lv_iload_n hx hb dX5_init_72 rfl (lv_at hl 0 rfl) ?_
                          refine hk_new (E1 := (hk_EE 95 91)) (a := 94) (b := 95) F9 G rfl ⟨rfl, rfl⟩ hkc_4 hkd_4 (hk_growE (kd := 5) (ln := 0) (by decide +kernel) (by decide +kernel) (by decide +kernel)) qw_65 qw_116 qw_5 ⟨(Nat.le_of_ble_eq_true rfl), (Nat.le_of_ble_eq_true rfl)⟩ dX5_init_73 (fun H G => ?_)
                          obtain ⟨S37, eS37, hsp⟩ := hk_l hsp
                          rw [eS37] at G
                          refine lv_dup hx hb dX5_init_76 rfl ?_
                          obtain ⟨r38, er38, hsp⟩ := hk_b hsp
                          refine hk_callIN (rest := [.ref (g.1 + 94), .int 2, .ref (g.1 + 83)]) F9 G (kX6_init l g (hk_EE 95 91) F (g.1 + 95) S37 94 r38 (by decide +kernel) er38) qin_RX5_31 ⟨rfl, rfl, (Nat.le_of_ble_eq_true rfl), (Nat.le_of_ble_eq_true rfl)⟩ hl.1 (Nat.le_of_ble_eq_true rfl) ⟨(Nat.le_of_ble_eq_true rfl), (Nat.le_of_ble_eq_true rfl)⟩ dX5_init_77 (fun H locs G => ?_)
                          refine hk_aast (E1 := (hk_EE 95 92)) (a := 83) (r := 94) (j := 2) (t := 1) (ci := 4) (ln := 6) F9 G (by decide) (by decide +kernel) (by decide +kernel) (by decide) rfl rfl (by decide +kernel) (by decide) (by decide) (by decide) (hk_setE (by decide +kernel) (by decide +kernel)) dX5_init_80 (fun H locs G => ?_)
                          refine lv_iinc (v := 3) (lv' := [(1, .int 3), (0, .ref (g.1 + 79))]) hx hb dX5_init_81 hl (k := 0) rfl (by decide) (by decide) rfl (fun ls hl => ?_)
                          refine lv_goto (tgt := 62) hx hb dX5_init_84 (by decide) ?_
                          refine lv_iload_n hx hb dX5_init_62 rfl (lv_at hl 0 rfl) ?_
                          refine lv_bipush (v := 6) hx hb dX5_init_63 (by decide) ?_
                          refine lv_icmp_ge (tgt := 87) hx hb dX5_init_65 (by decide) (fun c39 => ?_) (fun c39 => ?_)
                          · exact absurd c39 (by decide)
                          · refine lv_aload_n hx hb dX5_init_68 rfl (lv_at hl 1 rfl) ?_
                            refine hk_getR (r := 83) F9 G (by decide +kernel) hkc_3 (k := 3) (by decide) qw_158 rfl (by decide +kernel) dX5_init_69 ?_
                            refine lv_iload_n hx hb dX5_init_72 rfl (lv_at hl 0 rfl) ?_
                            refine hk_new (E1 := (hk_EE 96 92)) (a := 95) (b := 96) F9 G rfl ⟨rfl, rfl⟩ hkc_4 hkd_4 (hk_growE (kd := 5) (ln := 0) (by decide +kernel) (by decide +kernel) (by decide +kernel)) qw_65 qw_116 qw_5 ⟨(Nat.le_of_ble_eq_true rfl), (Nat.le_of_ble_eq_true rfl)⟩ dX5_init_73 (fun H G => ?_)
                            obtain ⟨S40, eS40, hsp⟩ := hk_l hsp
                            rw [eS40] at G
                            refine lv_dup hx hb dX5_init_76 rfl ?_
                            obtain ⟨r41, er41, hsp⟩ := hk_b hsp
                            refine hk_callIN (rest := [.ref (g.1 + 95), .int 3, .ref (g.1 + 83)]) F9 G (kX6_init l g (hk_EE 96 92) F (g.1 + 96) S40 95 r41 (by decide +kernel) er41) qin_RX5_31 ⟨rfl, rfl, (Nat.le_of_ble_eq_true rfl), (Nat.le_of_ble_eq_true rfl)⟩ hl.1 (Nat.le_of_ble_eq_true rfl) ⟨(Nat.le_of_ble_eq_true rfl), (Nat.le_of_ble_eq_true rfl)⟩ dX5_init_77 (fun H locs G => ?_)
                            refine hk_aast (E1 := (hk_EE 96 93)) (a := 83) (r := 95) (j := 3) (t := 1) (ci := 4) (ln := 6) F9 G (by decide) (by decide +kernel) (by decide +kernel) (by decide) rfl rfl (by decide +kernel) (by decide) (by decide) (by decide) (hk_setE (by decide +kernel) (by decide +kernel)) dX5_init_80 (fun H locs G => ?_)
                            refine lv_iinc (v := 4) (lv' := [(1, .int 4), (0, .ref (g.1 + 79))]) hx hb dX5_init_81 hl (k := 0) rfl (by decide) (by decide) rfl (fun ls hl => ?_)
                            refine lv_goto (tgt := 62) hx hb dX5_init_84 (by decide) ?_
                            refine lv_iload_n hx hb dX5_init_62 rfl (lv_at hl 0 rfl) ?_
                            refine lv_bipush (v := 6) hx hb dX5_init_63 (by decide) ?_
                            refine lv_icmp_ge (tgt := 87) hx hb dX5_init_65 (by decide) (fun c42 => ?_) (fun c42 => ?_)
                            · exact absurd c42 (by decide)
                            · refine lv_aload_n hx hb dX5_init_68 rfl (lv_at hl 1 rfl) ?_
                              refine hk_getR (r := 83) F9 G (by decide +kernel) hkc_3 (k := 3) (by decide) qw_158 rfl (by decide +kernel) dX5_init_69 ?_
                              refine lv_iload_n hx hb dX5_init_72 rfl (lv_at hl 0 rfl) ?_
                              refine hk_new (E1 := (hk_EE 97 93)) (a := 96) (b := 97) F9 G rfl ⟨rfl, rfl⟩ hkc_4 hkd_4 (hk_growE (kd := 5) (ln := 0) (by decide +kernel) (by decide +kernel) (by decide +kernel)) qw_65 qw_116 qw_5 ⟨(Nat.le_of_ble_eq_true rfl), (Nat.le_of_ble_eq_true rfl)⟩ dX5_init_73 (fun H G => ?_)
                              obtain ⟨S43, eS43, hsp⟩ := hk_l hsp
                              rw [eS43] at G
                              refine lv_dup hx hb dX5_init_76 rfl ?_
                              obtain ⟨r44, er44, hsp⟩ := hk_b hsp
                              refine hk_callIN (rest := [.ref (g.1 + 96), .int 4, .ref (g.1 + 83)]) F9 G (kX6_init l g (hk_EE 97 93) F (g.1 + 97) S43 96 r44 (by decide +kernel) er44) qin_RX5_31 ⟨rfl, rfl, (Nat.le_of_ble_eq_true rfl), (Nat.le_of_ble_eq_true rfl)⟩ hl.1 (Nat.le_of_ble_eq_true rfl) ⟨(Nat.le_of_ble_eq_true rfl), (Nat.le_of_ble_eq_true rfl)⟩ dX5_init_77 (fun H locs G => ?_)
                              refine hk_aast (E1 := (hk_EE 97 94)) (a := 83) (r := 96) (j := 4) (t := 1) (ci := 4) (ln := 6) F9 G (by decide) (by decide +kernel) (by decide +kernel) (by decide) rfl rfl (by decide +kernel) (by decide) (by decide) (by decide) (hk_setE (by decide +kernel) (by decide +kernel)) dX5_init_80 (fun H locs G => ?_)
                              refine lv_iinc (v := 5) (lv' := [(1, .int 5), (0, .ref (g.1 + 79))]) hx hb dX5_init_81 hl (k := 0) rfl (by decide) (by decide) rfl (fun ls hl => ?_)
                              refine lv_goto (tgt := 62) hx hb dX5_init_84 (by decide) ?_
                              refine lv_iload_n hx hb dX5_init_62 rfl (lv_at hl 0 rfl) ?_
                              refine lv_bipush (v := 6) hx hb dX5_init_63 (by decide) ?_
                              refine lv_icmp_ge (tgt := 87) hx hb dX5_init_65 (by decide) (fun c45 => ?_) (fun c45 => ?_)
                              · exact absurd c45 (by decide)
                              · refine lv_aload_n hx hb dX5_init_68 rfl (lv_at hl 1 rfl) ?_
                                refine hk_getR (r := 83) F9 G (by decide +kernel) hkc_3 (k := 3) (by decide) qw_158 rfl (by decide +kernel) dX5_init_69 ?_
                                refine lv_iload_n hx hb dX5_init_72 rfl (lv_at hl 0 rfl) ?_
                                refine hk_new (E1 := (hk_EE 98 94)) (a := 97) (b := 98) F9 G rfl ⟨rfl, rfl⟩ hkc_4 hkd_4 (hk_growE (kd := 5) (ln := 0) (by decide +kernel) (by decide +kernel) (by decide +kernel)) qw_65 qw_116 qw_5 ⟨(Nat.le_of_ble_eq_true rfl), (Nat.le_of_ble_eq_true rfl)⟩ dX5_init_73 (fun H G => ?_)
                                obtain ⟨S46, eS46, hsp⟩ := hk_l hsp
                                rw [eS46] at G
                                refine lv_dup hx hb dX5_init_76 rfl ?_
                                obtain ⟨r47, er47, hsp⟩ := hk_b hsp
                                refine hk_callIN (rest := [.ref (g.1 + 97), .int 5, .ref (g.1 + 83)]) F9 G (kX6_init l g (hk_EE 98 94) F (g.1 + 98) S46 97 r47 (by decide +kernel) er47) qin_RX5_31 ⟨rfl, rfl, (Nat.le_of_ble_eq_true rfl), (Nat.le_of_ble_eq_true rfl)⟩ hl.1 (Nat.le_of_ble_eq_true rfl) ⟨(Nat.le_of_ble_eq_true rfl), (Nat.le_of_ble_eq_true rfl)⟩ dX5_init_77 (fun H locs G => ?_)
                                refine hk_aast (E1 := (hk_EE 98 95)) (a := 83) (r := 97) (j := 5) (t := 1) (ci := 4) (ln := 6) F9 G (by decide) (by decide +kernel) (by decide +kernel) (by decide) rfl rfl (by decide +kernel) (by decide) (by decide) (by decide) (hk_setE (by decide +kernel) (by decide +kernel)) dX5_init_80 (fun H locs G => ?_)
                                refine lv_iinc (v := 6) (lv' := [(1, .int 6), (0, .ref (g.1 + 79))]) hx hb dX5_init_81 hl (k := 0) rfl (by decide) (by decide) rfl (fun ls hl => ?_)
                                refine lv_goto (tgt := 62) hx hb dX5_init_84 (by decide) ?_
                                refine lv_iload_n hx hb dX5_init_62 rfl (lv_at hl 0 rfl) ?_
                                refine lv_bipush (v := 6) hx hb dX5_init_63 (by decide) ?_
                                refine lv_icmp_ge (tgt := 87) hx hb dX5_init_65 (by decide) (fun c48 => ?_) (fun c48 => ?_)
                                · refine lv_aload_n hx hb dX5_init_87 rfl (lv_at hl 1 rfl) ?_
                                  obtain ⟨r49, er49, hsp⟩ := hk_b hsp
                                  refine hk_callVv (As := []) (rest := []) F9 G (by decide +kernel) hkc_3 rfl (kX5_clear l g (hk_EE 98 95) F (g.1 + 98) r47 79 r49 (by decide +kernel) er49) qv_RX5_32 ⟨rfl, rfl, (Nat.le_of_ble_eq_true rfl), (Nat.le_of_ble_eq_true rfl)⟩ rfl hl.1 rfl (Nat.le_of_ble_eq_true rfl) ⟨(Nat.le_of_ble_eq_true rfl), (Nat.le_of_ble_eq_true rfl)⟩ dX5_init_88 (fun H locs G => ?_)
                                  obtain rfl := hk_s hsp
                                  exact W.vret hx hb hr (fun t ht hW => hk_end G ht hW) G.2.1.2.2 dX5_init_91
                                · exact absurd c48 (by decide)
                  · exact absurd c29 (by decide)
def mX1_init_99 (F : Nat) (S : hk_S) : Option (hk_S) :=
hk_let (va_up S 100 (fun _ => 0)) (fun S1 => some (S1))
set_option maxHeartbeats 4000000 in
set_option maxRecDepth 100000 in
theorem kX1_init_99 (l : Launch) (g : hk_G) (F : Nat) (S : hk_S) (o : hk_S) (hsp : mX1_init_99 F S = some o) : Met l yX1_init (hk_ws yX1_init cX1_init 1 (Option.none : Option Jvm.ClassFile.FieldType)) ({ frames := 1, cells := 1, slots := 3, locals := 12 }) (hk_Pc g (hk_EE 100 96) S (g.1 + 100) [.ref (g.1 + 99)]) (hk_Q g (hk_EE 101 97) o (g.1 + 101) none) 1 3 (hk_A g) := by
  refine Met.ofW (cc := cX1_init) (maxL := 1) (ret := (Option.none : Option Jvm.ClassFile.FieldType)) (by decide) rfl ?_
  intro p e s m args below meth c s₁ B hml hv
  obtain ⟨rfl, G⟩ := hk_begin hv
  have F9 : CallFix p m c cX1_init 1 s [.ref (g.1 + 99)].toArray hk_W RX1 := ⟨B.exec, B.bytes, hml, findClass_of_methodNamed B.named, fun w h => atoms_spec (ws := hk_ws yX1_init cX1_init 1 (Option.none : Option Jvm.ClassFile.FieldType)) B.pre w (hk_in h)⟩
  have hin : meth.name = "<init>" := (name_of_methodNamed B.named B.method).1
  have hx := B.exec
  have hb := B.bytes
  have hr := B.returns
  have hlocks := B.notSynchronized
  have hl := lv_entry ([.ref (g.1 + 99)]) (n := 1) (Nat.le_of_ble_eq_true rfl)
  rw [lg_entry_eq]
  generalize (lg_sl ([.ref (g.1 + 99)]) ++ List.replicate (1 - (lg_sl ([.ref (g.1 + 99)])).length) Slot.unset).toArray = ls at hl ⊢
  have hl : lv_has ls 1 [(0, .ref (g.1 + 99))] := hl
  unfold mX1_init_99 at hsp
  have G : hk_GG g (hk_EE 100 96) S (g.1 + 100) s s.heap [] := G
  refine lv_aload_n hx hb dX1_init_0 rfl (lv_at hl 0 rfl) ?_
  refine hk_obj F9 qw_40 qw_27 qw_28 hl.1 ⟨(Nat.le_of_ble_eq_true rfl), (Nat.le_of_ble_eq_true rfl)⟩ dX1_init_1 ?_
  refine lv_aload_n hx hb dX1_init_4 rfl (lv_at hl 0 rfl) ?_
  refine lv_iconst (v := 3) hx hb dX1_init_5 (by decide) ?_
  refine hk_newA (E1 := (hk_EE 101 96)) (a := 100) (b := 101) (ft := .int) (t := 2) (ln := 3) (kd := 13) F9 G rfl ⟨rfl, rfl⟩ rfl (fun _ h => nomatch h) rfl (fun I _ => hk_cell_i (t := 2) (by decide)) rfl (hk_growE (kd := 13) (ln := 3) (by decide +kernel) (by decide +kernel) (by decide +kernel)) qw_62 (by decide) (by decide) (by decide) ⟨(Nat.le_of_ble_eq_true rfl), (Nat.le_of_ble_eq_true rfl)⟩ dX1_init_6 (fun H G => ?_)
  obtain ⟨S1, eS1, hsp⟩ := hk_l hsp
  rw [eS1] at G
  refine hk_putR (E1 := (hk_EE 101 97)) (a := 99) (r := 100) (k := 4) F9 G (by decide +kernel) hkc_0 (by decide) qw_50 rfl rfl hin rfl (tyX1_ok 4 (by decide)) (fun _ => rfl) (fun _ => rfl) (hk_setE (by decide +kernel) (by decide +kernel)) dX1_init_8 (fun H locs G => ?_)
  obtain rfl := hk_s hsp
  exact W.vret hx hb hr (fun t ht hW => hk_end G ht hW) G.2.1.2.2 dX1_init_11
def mX5_init_98 (F : Nat) (S : hk_S) : Option (hk_S) :=
hk_let (va_up S 99 (hk_i0 0)) (fun S1 => (mX1_init_99 F S1).bind (fun r2 => hk_let (va_up r2 101 (fun _ => 0)) (fun S3 => hk_let (va_up S3 102 (fun _ => 0)) (fun S4 => hk_let (va_up S4 103 (hk_i0 7)) (fun S6 => (mX10_init (hk_EE 104 100) F S6 103).bind (fun r7 => hk_let (va_up r7 104 (hk_i0 7)) (fun S9 => (mX10_init (hk_EE 105 101) F S9 104).bind (fun r10 => hk_let (va_up r10 105 (hk_i0 7)) (fun S12 => (mX10_init (hk_EE 106 102) F S12 105).bind (fun r13 => hk_let (va_up r13 106 (hk_i0 7)) (fun S15 => (mX10_init (hk_EE 107 103) F S15 106).bind (fun r16 => hk_let (va_up r16 107 (hk_i0 7)) (fun S18 => (mX10_init (hk_EE 108 104) F S18 107).bind (fun r19 => hk_let (va_up r19 108 (hk_i0 7)) (fun S21 => (mX10_init (hk_EE 109 105) F S21 108).bind (fun r22 => hk_let (va_up r22 109 (hk_i0 7)) (fun S24 => (mX10_init (hk_EE 110 106) F S24 109).bind (fun r25 => hk_let (va_up r25 110 (hk_i0 7)) (fun S27 => (mX10_init (hk_EE 111 107) F S27 110).bind (fun r28 => hk_let (va_up r28 111 (hk_i0 4)) (fun S31 => (mX6_init (hk_EE 112 108) F S31 111).bind (fun r32 => hk_let (va_up r32 112 (hk_i0 4)) (fun S34 => (mX6_init (hk_EE 113 109) F S34 112).bind (fun r35 => hk_let (va_up r35 113 (hk_i0 4)) (fun S37 => (mX6_init (hk_EE 114 110) F S37 113).bind (fun r38 => hk_let (va_up r38 114 (hk_i0 4)) (fun S40 => (mX6_init (hk_EE 115 111) F S40 114).bind (fun r41 => hk_let (va_up r41 115 (hk_i0 4)) (fun S43 => (mX6_init (hk_EE 116 112) F S43 115).bind (fun r44 => hk_let (va_up r44 116 (hk_i0 4)) (fun S46 => (mX6_init (hk_EE 117 113) F S46 116).bind (fun r47 => (mX5_clear (hk_EE 117 114) F r47 98).bind (fun r49 => some (r49))))))))))))))))))))))))))))))))))
set_option maxHeartbeats 4000000 in
set_option maxRecDepth 100000 in
theorem kX5_init_98 (l : Launch) (g : hk_G) (F : Nat) (S : hk_S) (o : hk_S) (hsp : mX5_init_98 F S = some o) : Met l yX5_init (hk_ws yX5_init cX5_init 2 (Option.none : Option Jvm.ClassFile.FieldType)) ({ frames := 3, cells := 18, slots := 120, locals := 62 }) (hk_Pc g (hk_EE 99 96) S (g.1 + 99) [.ref (g.1 + 98)]) (hk_Q g (hk_EE 117 114) o (g.1 + 117) none) 18 120 (hk_A g) := by
  refine Met.ofW (cc := cX5_init) (maxL := 2) (ret := (Option.none : Option Jvm.ClassFile.FieldType)) (by decide) rfl ?_
  intro p e s m args below meth c s₁ B hml hv
  obtain ⟨rfl, G⟩ := hk_begin hv
  have F9 : CallFix p m c cX5_init 2 s [.ref (g.1 + 98)].toArray hk_W RX5 := ⟨B.exec, B.bytes, hml, findClass_of_methodNamed B.named, fun w h => atoms_spec (ws := hk_ws yX5_init cX5_init 2 (Option.none : Option Jvm.ClassFile.FieldType)) B.pre w (hk_in h)⟩
  have hin : meth.name = "<init>" := (name_of_methodNamed B.named B.method).1
  have hx := B.exec
  have hb := B.bytes
  have hr := B.returns
  have hlocks := B.notSynchronized
  have hl := lv_entry ([.ref (g.1 + 98)]) (n := 2) (Nat.le_of_ble_eq_true rfl)
  rw [lg_entry_eq]
  generalize (lg_sl ([.ref (g.1 + 98)]) ++ List.replicate (2 - (lg_sl ([.ref (g.1 + 98)])).length) Slot.unset).toArray = ls at hl ⊢
  have hl : lv_has ls 2 [(0, .ref (g.1 + 98))] := hl
  unfold mX5_init_98 at hsp
  have G : hk_GG g (hk_EE 99 96) S (g.1 + 99) s s.heap [] := G
  refine lv_aload_n hx hb dX5_init_0 rfl (lv_at hl 0 rfl) ?_
  refine hk_obj F9 qw_34 qw_27 qw_28 hl.1 ⟨(Nat.le_of_ble_eq_true rfl), (Nat.le_of_ble_eq_true rfl)⟩ dX5_init_1 ?_
  refine lv_aload_n hx hb dX5_init_4 rfl (lv_at hl 0 rfl) ?_
  refine hk_new (E1 := (hk_EE 100 96)) (a := 99) (b := 100) F9 G rfl ⟨rfl, rfl⟩ hkc_0 hkd_0 (hk_growE (kd := 1) (ln := 0) (by decide +kernel) (by decide +kernel) (by decide +kernel)) qw_35 qw_36 qw_3 ⟨(Nat.le_of_ble_eq_true rfl), (Nat.le_of_ble_eq_true rfl)⟩ dX5_init_5 (fun H G => ?_)
  obtain ⟨S1, eS1, hsp⟩ := hk_l hsp
  rw [eS1] at G
  refine lv_dup hx hb dX5_init_8 rfl ?_
  obtain ⟨r2, er2, hsp⟩ := hk_b hsp
  refine hk_callIN (rest := [.ref (g.1 + 99), .ref (g.1 + 98)]) F9 G (kX1_init_99 l g F S1 r2 er2) qin_RX5_11 ⟨rfl, rfl, (Nat.le_of_ble_eq_true rfl), (Nat.le_of_ble_eq_true rfl)⟩ hl.1 (Nat.le_of_ble_eq_true rfl) ⟨(Nat.le_of_ble_eq_true rfl), (Nat.le_of_ble_eq_true rfl)⟩ dX5_init_9 (fun H locs G => ?_)
  refine hk_putR (E1 := (hk_EE 101 98)) (a := 98) (r := 99) (k := 0) F9 G (by decide +kernel) hkc_3 (by decide) qw_153 rfl rfl hin rfl (tyX5_ok 0 (by decide)) (fun _ => rfl) (fun _ => rfl) (hk_setE (by decide +kernel) (by decide +kernel)) dX5_init_12 (fun H locs G => ?_)
  refine lv_aload_n hx hb dX5_init_15 rfl (lv_at hl 0 rfl) ?_
  refine lv_bipush (v := 8) hx hb dX5_init_16 (by decide) ?_
  refine hk_newQ (E1 := (hk_EE 102 98)) (a := 101) (b := 102) (t := 2) (ln := 8) F9 G rfl ⟨rfl, rfl⟩ (by decide) rfl G.2.2.1.2.2.2.2 (hk_growE (kd := 16) (ln := 8) (by decide +kernel) (by decide +kernel) (by decide +kernel)) qw_63 (by decide) (by decide) (by decide) ⟨(Nat.le_of_ble_eq_true rfl), (Nat.le_of_ble_eq_true rfl)⟩ dX5_init_18 (fun H G => ?_)
  obtain ⟨S3, eS3, hsp⟩ := hk_l hsp
  rw [eS3] at G
  refine hk_putR (E1 := (hk_EE 102 99)) (a := 98) (r := 101) (k := 1) F9 G (by decide +kernel) hkc_3 (by decide) qw_155 rfl rfl hin rfl (tyX5_ok 1 (by decide)) (fun _ => rfl) (fun _ => rfl) (hk_setE (by decide +kernel) (by decide +kernel)) dX5_init_21 (fun H locs G => ?_)
  refine lv_aload_n hx hb dX5_init_24 rfl (lv_at hl 0 rfl) ?_
  refine lv_bipush (v := 6) hx hb dX5_init_25 (by decide) ?_
  refine hk_newQ (E1 := (hk_EE 103 99)) (a := 102) (b := 103) (t := 1) (ln := 6) F9 G rfl ⟨rfl, rfl⟩ (by decide) rfl G.2.2.1.2.2.2.1 (hk_growE (kd := 15) (ln := 6) (by decide +kernel) (by decide +kernel) (by decide +kernel)) qw_65 (by decide) (by decide) (by decide) ⟨(Nat.le_of_ble_eq_true rfl), (Nat.le_of_ble_eq_true rfl)⟩ dX5_init_27 (fun H G => ?_)
  obtain ⟨S4, eS4, hsp⟩ := hk_l hsp
  rw [eS4] at G
  refine hk_putR (E1 := (hk_EE 103 100)) (a := 98) (r := 102) (k := 3) F9 G (by decide +kernel) hkc_3 (by decide) qw_158 rfl rfl hin rfl (tyX5_ok 3 (by decide)) (fun _ => rfl) (fun _ => rfl) (hk_setE (by decide +kernel) (by decide +kernel)) dX5_init_30 (fun H locs G => ?_)
  refine lv_iconst (v := 0) hx hb dX5_init_33 (by decide) ?_
  refine lv_istore_n (lv' := [(1, .int 0), (0, .ref (g.1 + 98))]) hx hb dX5_init_34 rfl hl (by decide) rfl (fun ls hl => ?_)
  refine lv_iload_n hx hb dX5_init_35 rfl (lv_at hl 0 rfl) ?_
  refine lv_bipush (v := 8) hx hb dX5_init_36 (by decide) ?_
  refine lv_icmp_ge (tgt := 60) hx hb dX5_init_38 (by decide) (fun c5 => ?_) (fun c5 => ?_)
  · exact absurd c5 (by decide)
  · refine lv_aload_n hx hb dX5_init_41 rfl (lv_at hl 1 rfl) ?_
    refine hk_getR (r := 101) F9 G (by decide +kernel) hkc_3 (k := 1) (by decide) qw_155 rfl (by decide +kernel) dX5_init_42 ?_
    refine lv_iload_n hx hb dX5_init_45 rfl (lv_at hl 0 rfl) ?_
    refine hk_new (E1 := (hk_EE 104 100)) (a := 103) (b := 104) F9 G rfl ⟨rfl, rfl⟩ hkc_7 hkd_7 (hk_growE (kd := 8) (ln := 0) (by decide +kernel) (by decide +kernel) (by decide +kernel)) qw_63 qw_67 qw_4 ⟨(Nat.le_of_ble_eq_true rfl), (Nat.le_of_ble_eq_true rfl)⟩ dX5_init_46 (fun H G => ?_)
    obtain ⟨S6, eS6, hsp⟩ := hk_l hsp
    rw [eS6] at G
    refine lv_dup hx hb dX5_init_49 rfl ?_
    obtain ⟨r7, er7, hsp⟩ := hk_b hsp
    refine hk_callIN (rest := [.ref (g.1 + 103), .int 0, .ref (g.1 + 101)]) F9 G (kX10_init l g (hk_EE 104 100) F (g.1 + 104) S6 103 r7 (by decide +kernel) er7) qin_RX5_30 ⟨rfl, rfl, (Nat.le_of_ble_eq_true rfl), (Nat.le_of_ble_eq_true rfl)⟩ hl.1 (Nat.le_of_ble_eq_true rfl) ⟨(Nat.le_of_ble_eq_true rfl), (Nat.le_of_ble_eq_true rfl)⟩ dX5_init_50 (fun H locs G => ?_)
    refine hk_aast (E1 := (hk_EE 104 101)) (a := 101) (r := 103) (j := 0) (t := 2) (ci := 7) (ln := 8) F9 G (by decide) (by decide +kernel) (by decide +kernel) (by decide) rfl rfl (by decide +kernel) (by decide) (by decide) (by decide) (hk_setE (by decide +kernel) (by decide +kernel)) dX5_init_53 (fun H locs G => ?_)
    refine lv_iinc (v := 1) (lv' := [(1, .int 1), (0, .ref (g.1 + 98))]) hx hb dX5_init_54 hl (k := 0) rfl (by decide) (by decide) rfl (fun ls hl => ?_)
    refine lv_goto (tgt := 35) hx hb dX5_init_57 (by decide) ?_
    refine lv_iload_n hx hb dX5_init_35 rfl (lv_at hl 0 rfl) ?_
    refine lv_bipush (v := 8) hx hb dX5_init_36 (by decide) ?_
    refine lv_icmp_ge (tgt := 60) hx hb dX5_init_38 (by decide) (fun c8 => ?_) (fun c8 => ?_)
    · exact absurd c8 (by decide)
    · refine lv_aload_n hx hb dX5_init_41 rfl (lv_at hl 1 rfl) ?_
      refine hk_getR (r := 101) F9 G (by decide +kernel) hkc_3 (k := 1) (by decide) qw_155 rfl (by decide +kernel) dX5_init_42 ?_
      refine lv_iload_n hx hb dX5_init_45 rfl (lv_at hl 0 rfl) ?_
      refine hk_new (E1 := (hk_EE 105 101)) (a := 104) (b := 105) F9 G rfl ⟨rfl, rfl⟩ hkc_7 hkd_7 (hk_growE (kd := 8) (ln := 0) (by decide +kernel) (by decide +kernel) (by decide +kernel)) qw_63 qw_67 qw_4 ⟨(Nat.le_of_ble_eq_true rfl), (Nat.le_of_ble_eq_true rfl)⟩ dX5_init_46 (fun H G => ?_)
      obtain ⟨S9, eS9, hsp⟩ := hk_l hsp
      rw [eS9] at G
      refine lv_dup hx hb dX5_init_49 rfl ?_
      obtain ⟨r10, er10, hsp⟩ := hk_b hsp
      refine hk_callIN (rest := [.ref (g.1 + 104), .int 1, .ref (g.1 + 101)]) F9 G (kX10_init l g (hk_EE 105 101) F (g.1 + 105) S9 104 r10 (by decide +kernel) er10) qin_RX5_30 ⟨rfl, rfl, (Nat.le_of_ble_eq_true rfl), (Nat.le_of_ble_eq_true rfl)⟩ hl.1 (Nat.le_of_ble_eq_true rfl) ⟨(Nat.le_of_ble_eq_true rfl), (Nat.le_of_ble_eq_true rfl)⟩ dX5_init_50 (fun H locs G => ?_)
      refine hk_aast (E1 := (hk_EE 105 102)) (a := 101) (r := 104) (j := 1) (t := 2) (ci := 7) (ln := 8) F9 G (by decide) (by decide +kernel) (by decide +kernel) (by decide) rfl rfl (by decide +kernel) (by decide) (by decide) (by decide) (hk_setE (by decide +kernel) (by decide +kernel)) dX5_init_53 (fun H locs G => ?_)
      refine lv_iinc (v := 2) (lv' := [(1, .int 2), (0, .ref (g.1 + 98))]) hx hb dX5_init_54 hl (k := 0) rfl (by decide) (by decide) rfl (fun ls hl => ?_)
      refine lv_goto (tgt := 35) hx hb dX5_init_57 (by decide) ?_
      refine lv_iload_n hx hb dX5_init_35 rfl (lv_at hl 0 rfl) ?_
      refine lv_bipush (v := 8) hx hb dX5_init_36 (by decide) ?_
      refine lv_icmp_ge (tgt := 60) hx hb dX5_init_38 (by decide) (fun c11 => ?_) (fun c11 => ?_)
      · exact absurd c11 (by decide)
      · refine lv_aload_n hx hb dX5_init_41 rfl (lv_at hl 1 rfl) ?_
        refine hk_getR (r := 101) F9 G (by decide +kernel) hkc_3 (k := 1) (by decide) qw_155 rfl (by decide +kernel) dX5_init_42 ?_
        refine lv_iload_n hx hb dX5_init_45 rfl (lv_at hl 0 rfl) ?_
        refine hk_new (E1 := (hk_EE 106 102)) (a := 105) (b := 106) F9 G rfl ⟨rfl, rfl⟩ hkc_7 hkd_7 (hk_growE (kd := 8) (ln := 0) (by decide +kernel) (by decide +kernel) (by decide +kernel)) qw_63 qw_67 qw_4 ⟨(Nat.le_of_ble_eq_true rfl), (Nat.le_of_ble_eq_true rfl)⟩ dX5_init_46 (fun H G => ?_)
        obtain ⟨S12, eS12, hsp⟩ := hk_l hsp
        rw [eS12] at G
        refine lv_dup hx hb dX5_init_49 rfl ?_
        obtain ⟨r13, er13, hsp⟩ := hk_b hsp
        refine hk_callIN (rest := [.ref (g.1 + 105), .int 2, .ref (g.1 + 101)]) F9 G (kX10_init l g (hk_EE 106 102) F (g.1 + 106) S12 105 r13 (by decide +kernel) er13) qin_RX5_30 ⟨rfl, rfl, (Nat.le_of_ble_eq_true rfl), (Nat.le_of_ble_eq_true rfl)⟩ hl.1 (Nat.le_of_ble_eq_true rfl) ⟨(Nat.le_of_ble_eq_true rfl), (Nat.le_of_ble_eq_true rfl)⟩ dX5_init_50 (fun H locs G => ?_)
        refine hk_aast (E1 := (hk_EE 106 103)) (a := 101) (r := 105) (j := 2) (t := 2) (ci := 7) (ln := 8) F9 G (by decide) (by decide +kernel) (by decide +kernel) (by decide) rfl rfl (by decide +kernel) (by decide) (by decide) (by decide) (hk_setE (by decide +kernel) (by decide +kernel)) dX5_init_53 (fun H locs G => ?_)
        refine lv_iinc (v := 3) (lv' := [(1, .int 3), (0, .ref (g.1 + 98))]) hx hb dX5_init_54 hl (k := 0) rfl (by decide) (by decide) rfl (fun ls hl => ?_)
        refine lv_goto (tgt := 35) hx hb dX5_init_57 (by decide) ?_
        refine lv_iload_n hx hb dX5_init_35 rfl (lv_at hl 0 rfl) ?_
        refine lv_bipush (v := 8) hx hb dX5_init_36 (by decide) ?_
        refine lv_icmp_ge (tgt := 60) hx hb dX5_init_38 (by decide) (fun c14 => ?_) (fun c14 => ?_)
        · exact absurd c14 (by decide)
        · refine lv_aload_n hx hb dX5_init_41 rfl (lv_at hl 1 rfl) ?_
          refine hk_getR (r := 101) F9 G (by decide +kernel) hkc_3 (k := 1) (by decide) qw_155 rfl (by decide +kernel) dX5_init_42 ?_
          refine lv_iload_n hx hb dX5_init_45 rfl (lv_at hl 0 rfl) ?_
          refine hk_new (E1 := (hk_EE 107 103)) (a := 106) (b := 107) F9 G rfl ⟨rfl, rfl⟩ hkc_7 hkd_7 (hk_growE (kd := 8) (ln := 0) (by decide +kernel) (by decide +kernel) (by decide +kernel)) qw_63 qw_67 qw_4 ⟨(Nat.le_of_ble_eq_true rfl), (Nat.le_of_ble_eq_true rfl)⟩ dX5_init_46 (fun H G => ?_)
          obtain ⟨S15, eS15, hsp⟩ := hk_l hsp
          rw [eS15] at G
          refine lv_dup hx hb dX5_init_49 rfl ?_
          obtain ⟨r16, er16, hsp⟩ := hk_b hsp
          refine hk_callIN (rest := [.ref (g.1 + 106), .int 3, .ref (g.1 + 101)]) F9 G (kX10_init l g (hk_EE 107 103) F (g.1 + 107) S15 106 r16 (by decide +kernel) er16) qin_RX5_30 ⟨rfl, rfl, (Nat.le_of_ble_eq_true rfl), (Nat.le_of_ble_eq_true rfl)⟩ hl.1 (Nat.le_of_ble_eq_true rfl) ⟨(Nat.le_of_ble_eq_true rfl), (Nat.le_of_ble_eq_true rfl)⟩ dX5_init_50 (fun H locs G => ?_)
          refine hk_aast (E1 := (hk_EE 107 104)) (a := 101) (r := 106) (j := 3) (t := 2) (ci := 7) (ln := 8) F9 G (by decide) (by decide +kernel) (by decide +kernel) (by decide) rfl rfl (by decide +kernel) (by decide) (by decide) (by decide) (hk_setE (by decide +kernel) (by decide +kernel)) dX5_init_53 (fun H locs G => ?_)
          refine lv_iinc (v := 4) (lv' := [(1, .int 4), (0, .ref (g.1 + 98))]) hx hb dX5_init_54 hl (k := 0) rfl (by decide) (by decide) rfl (fun ls hl => ?_)
          refine lv_goto (tgt := 35) hx hb dX5_init_57 (by decide) ?_
          refine lv_iload_n hx hb dX5_init_35 rfl (lv_at hl 0 rfl) ?_
          refine lv_bipush (v := 8) hx hb dX5_init_36 (by decide) ?_
          refine lv_icmp_ge (tgt := 60) hx hb dX5_init_38 (by decide) (fun c17 => ?_) (fun c17 => ?_)
          · exact absurd c17 (by decide)
          · refine lv_aload_n hx hb dX5_init_41 rfl (lv_at hl 1 rfl) ?_
            refine hk_getR (r := 101) F9 G (by decide +kernel) hkc_3 (k := 1) (by decide) qw_155 rfl (by decide +kernel) dX5_init_42 ?_
            refine lv_iload_n hx hb dX5_init_45 rfl (lv_at hl 0 rfl) ?_
            refine hk_new (E1 := (hk_EE 108 104)) (a := 107) (b := 108) F9 G rfl ⟨rfl, rfl⟩ hkc_7 hkd_7 (hk_growE (kd := 8) (ln := 0) (by decide +kernel) (by decide +kernel) (by decide +kernel)) qw_63 qw_67 qw_4 ⟨(Nat.le_of_ble_eq_true rfl), (Nat.le_of_ble_eq_true rfl)⟩ dX5_init_46 (fun H G => ?_)
            obtain ⟨S18, eS18, hsp⟩ := hk_l hsp
            rw [eS18] at G
            refine lv_dup hx hb dX5_init_49 rfl ?_
            obtain ⟨r19, er19, hsp⟩ := hk_b hsp
            refine hk_callIN (rest := [.ref (g.1 + 107), .int 4, .ref (g.1 + 101)]) F9 G (kX10_init l g (hk_EE 108 104) F (g.1 + 108) S18 107 r19 (by decide +kernel) er19) qin_RX5_30 ⟨rfl, rfl, (Nat.le_of_ble_eq_true rfl), (Nat.le_of_ble_eq_true rfl)⟩ hl.1 (Nat.le_of_ble_eq_true rfl) ⟨(Nat.le_of_ble_eq_true rfl), (Nat.le_of_ble_eq_true rfl)⟩ dX5_init_50 (fun H locs G => ?_)
            refine hk_aast (E1 := (hk_EE 108 105)) (a := 101) (r := 107) (j := 4) (t := 2) (ci := 7) (ln := 8) F9 G (by decide) (by decide +kernel) (by decide +kernel) (by decide) rfl rfl (by decide +kernel) (by decide) (by decide) (by decide) (hk_setE (by decide +kernel) (by decide +kernel)) dX5_init_53 (fun H locs G => ?_)
            refine lv_iinc (v := 5) (lv' := [(1, .int 5), (0, .ref (g.1 + 98))]) hx hb dX5_init_54 hl (k := 0) rfl (by decide) (by decide) rfl (fun ls hl => ?_)
            refine lv_goto (tgt := 35) hx hb dX5_init_57 (by decide) ?_
            refine lv_iload_n hx hb dX5_init_35 rfl (lv_at hl 0 rfl) ?_
            refine lv_bipush (v := 8) hx hb dX5_init_36 (by decide) ?_
            refine lv_icmp_ge (tgt := 60) hx hb dX5_init_38 (by decide) (fun c20 => ?_) (fun c20 => ?_)
            · exact absurd c20 (by decide)
            · refine lv_aload_n hx hb dX5_init_41 rfl (lv_at hl 1 rfl) ?_
              refine hk_getR (r := 101) F9 G (by decide +kernel) hkc_3 (k := 1) (by decide) qw_155 rfl (by decide +kernel) dX5_init_42 ?_
              refine lv_iload_n hx hb dX5_init_45 rfl (lv_at hl 0 rfl) ?_
              refine hk_new (E1 := (hk_EE 109 105)) (a := 108) (b := 109) F9 G rfl ⟨rfl, rfl⟩ hkc_7 hkd_7 (hk_growE (kd := 8) (ln := 0) (by decide +kernel) (by decide +kernel) (by decide +kernel)) qw_63 qw_67 qw_4 ⟨(Nat.le_of_ble_eq_true rfl), (Nat.le_of_ble_eq_true rfl)⟩ dX5_init_46 (fun H G => ?_)
              obtain ⟨S21, eS21, hsp⟩ := hk_l hsp
              rw [eS21] at G
              refine lv_dup hx hb dX5_init_49 rfl ?_
              obtain ⟨r22, er22, hsp⟩ := hk_b hsp
              refine hk_callIN (rest := [.ref (g.1 + 108), .int 5, .ref (g.1 + 101)]) F9 G (kX10_init l g (hk_EE 109 105) F (g.1 + 109) S21 108 r22 (by decide +kernel) er22) qin_RX5_30 ⟨rfl, rfl, (Nat.le_of_ble_eq_true rfl), (Nat.le_of_ble_eq_true rfl)⟩ hl.1 (Nat.le_of_ble_eq_true rfl) ⟨(Nat.le_of_ble_eq_true rfl), (Nat.le_of_ble_eq_true rfl)⟩ dX5_init_50 (fun H locs G => ?_)
              refine hk_aast (E1 := (hk_EE 109 106)) (a := 101) (r := 108) (j := 5) (t := 2) (ci := 7) (ln := 8) F9 G (by decide) (by decide +kernel) (by decide +kernel) (by decide) rfl rfl (by decide +kernel) (by decide) (by decide) (by decide) (hk_setE (by decide +kernel) (by decide +kernel)) dX5_init_53 (fun H locs G => ?_)
              refine lv_iinc (v := 6) (lv' := [(1, .int 6), (0, .ref (g.1 + 98))]) hx hb dX5_init_54 hl (k := 0) rfl (by decide) (by decide) rfl (fun ls hl => ?_)
              refine lv_goto (tgt := 35) hx hb dX5_init_57 (by decide) ?_
              refine lv_iload_n hx hb dX5_init_35 rfl (lv_at hl 0 rfl) ?_
              refine lv_bipush (v := 8) hx hb dX5_init_36 (by decide) ?_
              refine lv_icmp_ge (tgt := 60) hx hb dX5_init_38 (by decide) (fun c23 => ?_) (fun c23 => ?_)
              · exact absurd c23 (by decide)
              · refine lv_aload_n hx hb dX5_init_41 rfl (lv_at hl 1 rfl) ?_
                refine hk_getR (r := 101) F9 G (by decide +kernel) hkc_3 (k := 1) (by decide) qw_155 rfl (by decide +kernel) dX5_init_42 ?_
                refine lv_iload_n hx hb dX5_init_45 rfl (lv_at hl 0 rfl) ?_
                refine hk_new (E1 := (hk_EE 110 106)) (a := 109) (b := 110) F9 G rfl ⟨rfl, rfl⟩ hkc_7 hkd_7 (hk_growE (kd := 8) (ln := 0) (by decide +kernel) (by decide +kernel) (by decide +kernel)) qw_63 qw_67 qw_4 ⟨(Nat.le_of_ble_eq_true rfl), (Nat.le_of_ble_eq_true rfl)⟩ dX5_init_46 (fun H G => ?_)
                obtain ⟨S24, eS24, hsp⟩ := hk_l hsp
                rw [eS24] at G
                refine lv_dup hx hb dX5_init_49 rfl ?_
                obtain ⟨r25, er25, hsp⟩ := hk_b hsp
                refine hk_callIN (rest := [.ref (g.1 + 109), .int 6, .ref (g.1 + 101)]) F9 G (kX10_init l g (hk_EE 110 106) F (g.1 + 110) S24 109 r25 (by decide +kernel) er25) qin_RX5_30 ⟨rfl, rfl, (Nat.le_of_ble_eq_true rfl), (Nat.le_of_ble_eq_true rfl)⟩ hl.1 (Nat.le_of_ble_eq_true rfl) ⟨(Nat.le_of_ble_eq_true rfl), (Nat.le_of_ble_eq_true rfl)⟩ dX5_init_50 (fun H locs G => ?_)
                refine hk_aast (E1 := (hk_EE 110 107)) (a := 101) (r := 109) (j := 6) (t := 2) (ci := 7) (ln := 8) F9 G (by decide) (by decide +kernel) (by decide +kernel) (by decide) rfl rfl (by decide +kernel) (by decide) (by decide) (by decide) (hk_setE (by decide +kernel) (by decide +kernel)) dX5_init_53 (fun H locs G => ?_)
                refine lv_iinc (v := 7) (lv' := [(1, .int 7), (0, .ref (g.1 + 98))]) hx hb dX5_init_54 hl (k := 0) rfl (by decide) (by decide) rfl (fun ls hl => ?_)
                refine lv_goto (tgt := 35) hx hb dX5_init_57 (by decide) ?_
                refine lv_iload_n hx hb dX5_init_35 rfl (lv_at hl 0 rfl) ?_
                refine lv_bipush (v := 8) hx hb dX5_init_36 (by decide) ?_
                refine lv_icmp_ge (tgt := 60) hx hb dX5_init_38 (by decide) (fun c26 => ?_) (fun c26 => ?_)
                · exact absurd c26 (by decide)
                · refine lv_aload_n hx hb dX5_init_41 rfl (lv_at hl 1 rfl) ?_
                  refine hk_getR (r := 101) F9 G (by decide +kernel) hkc_3 (k := 1) (by decide) qw_155 rfl (by decide +kernel) dX5_init_42 ?_
                  refine lv_iload_n hx hb dX5_init_45 rfl (lv_at hl 0 rfl) ?_
                  refine hk_new (E1 := (hk_EE 111 107)) (a := 110) (b := 111) F9 G rfl ⟨rfl, rfl⟩ hkc_7 hkd_7 (hk_growE (kd := 8) (ln := 0) (by decide +kernel) (by decide +kernel) (by decide +kernel)) qw_63 qw_67 qw_4 ⟨(Nat.le_of_ble_eq_true rfl), (Nat.le_of_ble_eq_true rfl)⟩ dX5_init_46 (fun H G => ?_)
                  obtain ⟨S27, eS27, hsp⟩ := hk_l hsp
                  rw [eS27] at G
                  refine lv_dup hx hb dX5_init_49 rfl ?_
                  obtain ⟨r28, er28, hsp⟩ := hk_b hsp
                  refine hk_callIN (rest := [.ref (g.1 + 110), .int 7, .ref (g.1 + 101)]) F9 G (kX10_init l g (hk_EE 111 107) F (g.1 + 111) S27 110 r28 (by decide +kernel) er28) qin_RX5_30 ⟨rfl, rfl, (Nat.le_of_ble_eq_true rfl), (Nat.le_of_ble_eq_true rfl)⟩ hl.1 (Nat.le_of_ble_eq_true rfl) ⟨(Nat.le_of_ble_eq_true rfl), (Nat.le_of_ble_eq_true rfl)⟩ dX5_init_50 (fun H locs G => ?_)
                  refine hk_aast (E1 := (hk_EE 111 108)) (a := 101) (r := 110) (j := 7) (t := 2) (ci := 7) (ln := 8) F9 G (by decide) (by decide +kernel) (by decide +kernel) (by decide) rfl rfl (by decide +kernel) (by decide) (by decide) (by decide) (hk_setE (by decide +kernel) (by decide +kernel)) dX5_init_53 (fun H locs G => ?_)
                  refine lv_iinc (v := 8) (lv' := [(1, .int 8), (0, .ref (g.1 + 98))]) hx hb dX5_init_54 hl (k := 0) rfl (by decide) (by decide) rfl (fun ls hl => ?_)
                  refine lv_goto (tgt := 35) hx hb dX5_init_57 (by decide) ?_
                  refine lv_iload_n hx hb dX5_init_35 rfl (lv_at hl 0 rfl) ?_
                  refine lv_bipush (v := 8) hx hb dX5_init_36 (by decide) ?_
                  refine lv_icmp_ge (tgt := 60) hx hb dX5_init_38 (by decide) (fun c29 => ?_) (fun c29 => ?_)
                  · refine lv_iconst (v := 0) hx hb dX5_init_60 (by decide) ?_
                    refine lv_istore_n (lv' := [(1, .int 0), (0, .ref (g.1 + 98))]) hx hb dX5_init_61 rfl hl (by decide) rfl (fun ls hl => ?_)
                    refine lv_iload_n hx hb dX5_init_62 rfl (lv_at hl 0 rfl) ?_
                    refine lv_bipush (v := 6) hx hb dX5_init_63 (by decide) ?_
                    refine lv_icmp_ge (tgt := 87) hx hb dX5_init_65 (by decide) (fun c30 => ?_) (fun c30 => ?_)
                    · exact absurd c30 (by decide)
                    · refine lv_aload_n hx hb dX5_init_68 rfl (lv_at hl 1 rfl) ?_
                      refine hk_getR (r := 102) F9 G (by decide +kernel) hkc_3 (k := 3) (by decide) qw_158 rfl (by decide +kernel) dX5_init_69 ?_
                      refine lv_iload_n hx hb dX5_init_72 rfl (lv_at hl 0 rfl) ?_
                      refine hk_new (E1 := (hk_EE 112 108)) (a := 111) (b := 112) F9 G rfl ⟨rfl, rfl⟩ hkc_4 hkd_4 (hk_growE (kd := 5) (ln := 0) (by decide +kernel) (by decide +kernel) (by decide +kernel)) qw_65 qw_116 qw_5 ⟨(Nat.le_of_ble_eq_true rfl), (Nat.le_of_ble_eq_true rfl)⟩ dX5_init_73 (fun H G => ?_)
                      obtain ⟨S31, eS31, hsp⟩ := hk_l hsp
                      rw [eS31] at G
                      refine lv_dup hx hb dX5_init_76 rfl ?_
                      obtain ⟨r32, er32, hsp⟩ := hk_b hsp
                      refine hk_callIN (rest := [.ref (g.1 + 111), .int 0, .ref (g.1 + 102)]) F9 G (kX6_init l g (hk_EE 112 108) F (g.1 + 112) S31 111 r32 (by decide +kernel) er32) qin_RX5_31 ⟨rfl, rfl, (Nat.le_of_ble_eq_true rfl), (Nat.le_of_ble_eq_true rfl)⟩ hl.1 (Nat.le_of_ble_eq_true rfl) ⟨(Nat.le_of_ble_eq_true rfl), (Nat.le_of_ble_eq_true rfl)⟩ dX5_init_77 (fun H locs G => ?_)
                      refine hk_aast (E1 := (hk_EE 112 109)) (a := 102) (r := 111) (j := 0) (t := 1) (ci := 4) (ln := 6) F9 G (by decide) (by decide +kernel) (by decide +kernel) (by decide) rfl rfl (by decide +kernel) (by decide) (by decide) (by decide) (hk_setE (by decide +kernel) (by decide +kernel)) dX5_init_80 (fun H locs G => ?_)
                      refine lv_iinc (v := 1) (lv' := [(1, .int 1), (0, .ref (g.1 + 98))]) hx hb dX5_init_81 hl (k := 0) rfl (by decide) (by decide) rfl (fun ls hl => ?_)
                      refine lv_goto (tgt := 62) hx hb dX5_init_84 (by decide) ?_
                      refine lv_iload_n hx hb dX5_init_62 rfl (lv_at hl 0 rfl) ?_
                      refine lv_bipush (v := 6) hx hb dX5_init_63 (by decide) ?_
                      refine lv_icmp_ge (tgt := 87) hx hb dX5_init_65 (by decide) (fun c33 => ?_) (fun c33 => ?_)
                      · exact absurd c33 (by decide)
                      · refine lv_aload_n hx hb dX5_init_68 rfl (lv_at hl 1 rfl) ?_
                        refine hk_getR (r := 102) F9 G (by decide +kernel) hkc_3 (k := 3) (by decide) qw_158 rfl (by decide +kernel) dX5_init_69 ?_
                        refine lv_iload_n hx hb dX5_init_72 rfl (lv_at hl 0 rfl) ?_
                        refine hk_new (E1 := (hk_EE 113 109)) (a := 112) (b := 113) F9 G rfl ⟨rfl, rfl⟩ hkc_4 hkd_4 (hk_growE (kd := 5) (ln := 0) (by decide +kernel) (by decide +kernel) (by decide +kernel)) qw_65 qw_116 qw_5 ⟨(Nat.le_of_ble_eq_true rfl), (Nat.le_of_ble_eq_true rfl)⟩ dX5_init_73 (fun H G => ?_)
                        obtain ⟨S34, eS34, hsp⟩ := hk_l hsp
                        rw [eS34] at G
                        refine lv_dup hx hb dX5_init_76 rfl ?_
                        obtain ⟨r35, er35, hsp⟩ := hk_b hsp
                        refine hk_callIN (rest := [.ref (g.1 + 112), .int 1, .ref (g.1 + 102)]) F9 G (kX6_init l g (hk_EE 113 109) F (g.1 + 113) S34 112 r35 (by decide +kernel) er35) qin_RX5_31 ⟨rfl, rfl, (Nat.le_of_ble_eq_true rfl), (Nat.le_of_ble_eq_true rfl)⟩ hl.1 (Nat.le_of_ble_eq_true rfl) ⟨(Nat.le_of_ble_eq_true rfl), (Nat.le_of_ble_eq_true rfl)⟩ dX5_init_77 (fun H locs G => ?_)
                        refine hk_aast (E1 := (hk_EE 113 110)) (a := 102) (r := 112) (j := 1) (t := 1) (ci := 4) (ln := 6) F9 G (by decide) (by decide +kernel) (by decide +kernel) (by decide) rfl rfl (by decide +kernel) (by decide) (by decide) (by decide) (hk_setE (by decide +kernel) (by decide +kernel)) dX5_init_80 (fun H locs G => ?_)
                        refine lv_iinc (v := 2) (lv' := [(1, .int 2), (0, .ref (g.1 + 98))]) hx hb dX5_init_81 hl (k := 0) rfl (by decide) (by decide) rfl (fun ls hl => ?_)
                        refine lv_goto (tgt := 62) hx hb dX5_init_84 (by decide) ?_
                        refine lv_iload_n hx hb dX5_init_62 rfl (lv_at hl 0 rfl) ?_
                        refine lv_bipush (v := 6) hx hb dX5_init_63 (by decide) ?_
                        refine lv_icmp_ge (tgt := 87) hx hb dX5_init_65 (by decide) (fun c36 => ?_) (fun c36 => ?_)
                        · exact absurd c36 (by decide)
                        · refine lv_aload_n hx hb dX5_init_68 rfl (lv_at hl 1 rfl) ?_
                          refine hk_getR (r := 102) F9 G (by decide +kernel) hkc_3 (k := 3) (by decide) qw_158 rfl (by decide +kernel) dX5_init_69 ?_
                          refine lv_iload_n hx hb dX5_init_72 rfl (lv_at hl 0 rfl) ?_
                          refine hk_new (E1 := (hk_EE 114 110)) (a := 113) (b := 114) F9 G rfl ⟨rfl, rfl⟩ hkc_4 hkd_4 (hk_growE (kd := 5) (ln := 0) (by decide +kernel) (by decide +kernel) (by decide +kernel)) qw_65 qw_116 qw_5 ⟨(Nat.le_of_ble_eq_true rfl), (Nat.le_of_ble_eq_true rfl)⟩ dX5_init_73 (fun H G => ?_)
                          obtain ⟨S37, eS37, hsp⟩ := hk_l hsp
                          rw [eS37] at G
                          refine lv_dup hx hb dX5_init_76 rfl ?_
                          obtain ⟨r38, er38, hsp⟩ := hk_b hsp
                          refine hk_callIN (rest := [.ref (g.1 + 113), .int 2, .ref (g.1 + 102)]) F9 G (kX6_init l g (hk_EE 114 110) F (g.1 + 114) S37 113 r38 (by decide +kernel) er38) qin_RX5_31 ⟨rfl, rfl, (Nat.le_of_ble_eq_true rfl), (Nat.le_of_ble_eq_true rfl)⟩ hl.1 (Nat.le_of_ble_eq_true rfl) ⟨(Nat.le_of_ble_eq_true rfl), (Nat.le_of_ble_eq_true rfl)⟩ dX5_init_77 (fun H locs G => ?_)
                          refine hk_aast (E1 := (hk_EE 114 111)) (a := 102) (r := 113) (j := 2) (t := 1) (ci := 4) (ln := 6) F9 G (by decide) (by decide +kernel) (by decide +kernel) (by decide) rfl rfl (by decide +kernel) (by decide) (by decide) (by decide) (hk_setE (by decide +kernel) (by decide +kernel)) dX5_init_80 (fun H locs G => ?_)
                          refine lv_iinc (v := 3) (lv' := [(1, .int 3), (0, .ref (g.1 + 98))]) hx hb dX5_init_81 hl (k := 0) rfl (by decide) (by decide) rfl (fun ls hl => ?_)
                          refine lv_goto (tgt := 62) hx hb dX5_init_84 (by decide) ?_
                          refine lv_iload_n hx hb dX5_init_62 rfl (lv_at hl 0 rfl) ?_
                          refine lv_bipush (v := 6) hx hb dX5_init_63 (by decide) ?_
                          refine lv_icmp_ge (tgt := 87) hx hb dX5_init_65 (by decide) (fun c39 => ?_) (fun c39 => ?_)
                          · exact absurd c39 (by decide)
                          · refine lv_aload_n hx hb dX5_init_68 rfl (lv_at hl 1 rfl) ?_
                            refine hk_getR (r := 102) F9 G (by decide +kernel) hkc_3 (k := 3) (by decide) qw_158 rfl (by decide +kernel) dX5_init_69 ?_
                            refine lv_iload_n hx hb dX5_init_72 rfl (lv_at hl 0 rfl) ?_
                            refine hk_new (E1 := (hk_EE 115 111)) (a := 114) (b := 115) F9 G rfl ⟨rfl, rfl⟩ hkc_4 hkd_4 (hk_growE (kd := 5) (ln := 0) (by decide +kernel) (by decide +kernel) (by decide +kernel)) qw_65 qw_116 qw_5 ⟨(Nat.le_of_ble_eq_true rfl), (Nat.le_of_ble_eq_true rfl)⟩ dX5_init_73 (fun H G => ?_)
                            obtain ⟨S40, eS40, hsp⟩ := hk_l hsp
                            rw [eS40] at G
                            refine lv_dup hx hb dX5_init_76 rfl ?_
                            obtain ⟨r41, er41, hsp⟩ := hk_b hsp
                            refine hk_callIN (rest := [.ref (g.1 + 114), .int 3, .ref (g.1 + 102)]) F9 G (kX6_init l g (hk_EE 115 111) F (g.1 + 115) S40 114 r41 (by decide +kernel) er41) qin_RX5_31 ⟨rfl, rfl, (Nat.le_of_ble_eq_true rfl), (Nat.le_of_ble_eq_true rfl)⟩ hl.1 (Nat.le_of_ble_eq_true rfl) ⟨(Nat.le_of_ble_eq_true rfl), (Nat.le_of_ble_eq_true rfl)⟩ dX5_init_77 (fun H locs G => ?_)
                            refine hk_aast (E1 := (hk_EE 115 112)) (a := 102) (r := 114) (j := 3) (t := 1) (ci := 4) (ln := 6) F9 G (by decide) (by decide +kernel) (by decide +kernel) (by decide) rfl rfl (by decide +kernel) (by decide) (by decide) (by decide) (hk_setE (by decide +kernel) (by decide +kernel)) dX5_init_80 (fun H locs G => ?_)
                            refine lv_iinc (v := 4) (lv' := [(1, .int 4), (0, .ref (g.1 + 98))]) hx hb dX5_init_81 hl (k := 0) rfl (by decide) (by decide) rfl (fun ls hl => ?_)
                            refine lv_goto (tgt := 62) hx hb dX5_init_84 (by decide) ?_
                            refine lv_iload_n hx hb dX5_init_62 rfl (lv_at hl 0 rfl) ?_
                            refine lv_bipush (v := 6) hx hb dX5_init_63 (by decide) ?_
                            refine lv_icmp_ge (tgt := 87) hx hb dX5_init_65 (by decide) (fun c42 => ?_) (fun c42 => ?_)
                            · exact absurd c42 (by decide)
                            · refine lv_aload_n hx hb dX5_init_68 rfl (lv_at hl 1 rfl) ?_
                              refine hk_getR (r := 102) F9 G (by decide +kernel) hkc_3 (k := 3) (by decide) qw_158 rfl (by decide +kernel) dX5_init_69 ?_
                              refine lv_iload_n hx hb dX5_init_72 rfl (lv_at hl 0 rfl) ?_
                              refine hk_new (E1 := (hk_EE 116 112)) (a := 115) (b := 116) F9 G rfl ⟨rfl, rfl⟩ hkc_4 hkd_4 (hk_growE (kd := 5) (ln := 0) (by decide +kernel) (by decide +kernel) (by decide +kernel)) qw_65 qw_116 qw_5 ⟨(Nat.le_of_ble_eq_true rfl), (Nat.le_of_ble_eq_true rfl)⟩ dX5_init_73 (fun H G => ?_)
                              obtain ⟨S43, eS43, hsp⟩ := hk_l hsp
                              rw [eS43] at G
                              refine lv_dup hx hb dX5_init_76 rfl ?_
                              obtain ⟨r44, er44, hsp⟩ := hk_b hsp
                              refine hk_callIN (rest := [.ref (g.1 + 115), .int 4, .ref (g.1 + 102)]) F9 G (kX6_init l g (hk_EE 116 112) F (g.1 + 116) S43 115 r44 (by decide +kernel) er44) qin_RX5_31 ⟨rfl, rfl, (Nat.le_of_ble_eq_true rfl), (Nat.le_of_ble_eq_true rfl)⟩ hl.1 (Nat.le_of_ble_eq_true rfl) ⟨(Nat.le_of_ble_eq_true rfl), (Nat.le_of_ble_eq_true rfl)⟩ dX5_init_77 (fun H locs G => ?_)
                              refine hk_aast (E1 := (hk_EE 116 113)) (a := 102) (r := 115) (j := 4) (t := 1) (ci := 4) (ln := 6) F9 G (by decide) (by decide +kernel) (by decide +kernel) (by decide) rfl rfl (by decide +kernel) (by decide) (by decide) (by decide) (hk_setE (by decide +kernel) (by decide +kernel)) dX5_init_80 (fun H locs G => ?_)
                              refine lv_iinc (v := 5) (lv' := [(1, .int 5), (0, .ref (g.1 + 98))]) hx hb dX5_init_81 hl (k := 0) rfl (by decide) (by decide) rfl (fun ls hl => ?_)
                              refine lv_goto (tgt := 62) hx hb dX5_init_84 (by decide) ?_
                              refine lv_iload_n hx hb dX5_init_62 rfl (lv_at hl 0 rfl) ?_
                              refine lv_bipush (v := 6) hx hb dX5_init_63 (by decide) ?_
                              refine lv_icmp_ge (tgt := 87) hx hb dX5_init_65 (by decide) (fun c45 => ?_) (fun c45 => ?_)
                              · exact absurd c45 (by decide)
                              · refine lv_aload_n hx hb dX5_init_68 rfl (lv_at hl 1 rfl) ?_
                                refine hk_getR (r := 102) F9 G (by decide +kernel) hkc_3 (k := 3) (by decide) qw_158 rfl (by decide +kernel) dX5_init_69 ?_
                                refine lv_iload_n hx hb dX5_init_72 rfl (lv_at hl 0 rfl) ?_
                                refine hk_new (E1 := (hk_EE 117 113)) (a := 116) (b := 117) F9 G rfl ⟨rfl, rfl⟩ hkc_4 hkd_4 (hk_growE (kd := 5) (ln := 0) (by decide +kernel) (by decide +kernel) (by decide +kernel)) qw_65 qw_116 qw_5 ⟨(Nat.le_of_ble_eq_true rfl), (Nat.le_of_ble_eq_true rfl)⟩ dX5_init_73 (fun H G => ?_)
                                obtain ⟨S46, eS46, hsp⟩ := hk_l hsp
                                rw [eS46] at G
                                refine lv_dup hx hb dX5_init_76 rfl ?_
                                obtain ⟨r47, er47, hsp⟩ := hk_b hsp
                                refine hk_callIN (rest := [.ref (g.1 + 116), .int 5, .ref (g.1 + 102)]) F9 G (kX6_init l g (hk_EE 117 113) F (g.1 + 117) S46 116 r47 (by decide +kernel) er47) qin_RX5_31 ⟨rfl, rfl, (Nat.le_of_ble_eq_true rfl), (Nat.le_of_ble_eq_true rfl)⟩ hl.1 (Nat.le_of_ble_eq_true rfl) ⟨(Nat.le_of_ble_eq_true rfl), (Nat.le_of_ble_eq_true rfl)⟩ dX5_init_77 (fun H locs G => ?_)
                                refine hk_aast (E1 := (hk_EE 117 114)) (a := 102) (r := 116) (j := 5) (t := 1) (ci := 4) (ln := 6) F9 G (by decide) (by decide +kernel) (by decide +kernel) (by decide) rfl rfl (by decide +kernel) (by decide) (by decide) (by decide) (hk_setE (by decide +kernel) (by decide +kernel)) dX5_init_80 (fun H locs G => ?_)
                                refine lv_iinc (v := 6) (lv' := [(1, .int 6), (0, .ref (g.1 + 98))]) hx hb dX5_init_81 hl (k := 0) rfl (by decide) (by decide) rfl (fun ls hl => ?_)
                                refine lv_goto (tgt := 62) hx hb dX5_init_84 (by decide) ?_
                                refine lv_iload_n hx hb dX5_init_62 rfl (lv_at hl 0 rfl) ?_
                                refine lv_bipush (v := 6) hx hb dX5_init_63 (by decide) ?_
                                refine lv_icmp_ge (tgt := 87) hx hb dX5_init_65 (by decide) (fun c48 => ?_) (fun c48 => ?_)
                                · refine lv_aload_n hx hb dX5_init_87 rfl (lv_at hl 1 rfl) ?_
                                  obtain ⟨r49, er49, hsp⟩ := hk_b hsp
                                  refine hk_callVv (As := []) (rest := []) F9 G (by decide +kernel) hkc_3 rfl (kX5_clear l g (hk_EE 117 114) F (g.1 + 117) r47 98 r49 (by decide +kernel) er49) qv_RX5_32 ⟨rfl, rfl, (Nat.le_of_ble_eq_true rfl), (Nat.le_of_ble_eq_true rfl)⟩ rfl hl.1 rfl (Nat.le_of_ble_eq_true rfl) ⟨(Nat.le_of_ble_eq_true rfl), (Nat.le_of_ble_eq_true rfl)⟩ dX5_init_88 (fun H locs G => ?_)
                                  obtain rfl := hk_s hsp
                                  exact W.vret hx hb hr (fun t ht hW => hk_end G ht hW) G.2.1.2.2 dX5_init_91
                                · exact absurd c48 (by decide)
                  · exact absurd c29 (by decide)
def mX1_init_118 (F : Nat) (S : hk_S) : Option (hk_S) :=
hk_let (va_up S 119 (fun _ => 0)) (fun S1 => some (S1))
set_option maxHeartbeats 4000000 in
set_option maxRecDepth 100000 in
theorem kX1_init_118 (l : Launch) (g : hk_G) (F : Nat) (S : hk_S) (o : hk_S) (hsp : mX1_init_118 F S = some o) : Met l yX1_init (hk_ws yX1_init cX1_init 1 (Option.none : Option Jvm.ClassFile.FieldType)) ({ frames := 1, cells := 1, slots := 3, locals := 12 }) (hk_Pc g (hk_EE 119 115) S (g.1 + 119) [.ref (g.1 + 118)]) (hk_Q g (hk_EE 120 116) o (g.1 + 120) none) 1 3 (hk_A g) := by
  refine Met.ofW (cc := cX1_init) (maxL := 1) (ret := (Option.none : Option Jvm.ClassFile.FieldType)) (by decide) rfl ?_
  intro p e s m args below meth c s₁ B hml hv
  obtain ⟨rfl, G⟩ := hk_begin hv
  have F9 : CallFix p m c cX1_init 1 s [.ref (g.1 + 118)].toArray hk_W RX1 := ⟨B.exec, B.bytes, hml, findClass_of_methodNamed B.named, fun w h => atoms_spec (ws := hk_ws yX1_init cX1_init 1 (Option.none : Option Jvm.ClassFile.FieldType)) B.pre w (hk_in h)⟩
  have hin : meth.name = "<init>" := (name_of_methodNamed B.named B.method).1
  have hx := B.exec
  have hb := B.bytes
  have hr := B.returns
  have hlocks := B.notSynchronized
  have hl := lv_entry ([.ref (g.1 + 118)]) (n := 1) (Nat.le_of_ble_eq_true rfl)
  rw [lg_entry_eq]
  generalize (lg_sl ([.ref (g.1 + 118)]) ++ List.replicate (1 - (lg_sl ([.ref (g.1 + 118)])).length) Slot.unset).toArray = ls at hl ⊢
  have hl : lv_has ls 1 [(0, .ref (g.1 + 118))] := hl
  unfold mX1_init_118 at hsp
  have G : hk_GG g (hk_EE 119 115) S (g.1 + 119) s s.heap [] := G
  refine lv_aload_n hx hb dX1_init_0 rfl (lv_at hl 0 rfl) ?_
  refine hk_obj F9 qw_40 qw_27 qw_28 hl.1 ⟨(Nat.le_of_ble_eq_true rfl), (Nat.le_of_ble_eq_true rfl)⟩ dX1_init_1 ?_
  refine lv_aload_n hx hb dX1_init_4 rfl (lv_at hl 0 rfl) ?_
  refine lv_iconst (v := 3) hx hb dX1_init_5 (by decide) ?_
  refine hk_newA (E1 := (hk_EE 120 115)) (a := 119) (b := 120) (ft := .int) (t := 2) (ln := 3) (kd := 13) F9 G rfl ⟨rfl, rfl⟩ rfl (fun _ h => nomatch h) rfl (fun I _ => hk_cell_i (t := 2) (by decide)) rfl (hk_growE (kd := 13) (ln := 3) (by decide +kernel) (by decide +kernel) (by decide +kernel)) qw_62 (by decide) (by decide) (by decide) ⟨(Nat.le_of_ble_eq_true rfl), (Nat.le_of_ble_eq_true rfl)⟩ dX1_init_6 (fun H G => ?_)
  obtain ⟨S1, eS1, hsp⟩ := hk_l hsp
  rw [eS1] at G
  refine hk_putR (E1 := (hk_EE 120 116)) (a := 118) (r := 119) (k := 4) F9 G (by decide +kernel) hkc_0 (by decide) qw_50 rfl rfl hin rfl (tyX1_ok 4 (by decide)) (fun _ => rfl) (fun _ => rfl) (hk_setE (by decide +kernel) (by decide +kernel)) dX1_init_8 (fun H locs G => ?_)
  obtain rfl := hk_s hsp
  exact W.vret hx hb hr (fun t ht hW => hk_end G ht hW) G.2.1.2.2 dX1_init_11
def mX5_init_117 (F : Nat) (S : hk_S) : Option (hk_S) :=
hk_let (va_up S 118 (hk_i0 0)) (fun S1 => (mX1_init_118 F S1).bind (fun r2 => hk_let (va_up r2 120 (fun _ => 0)) (fun S3 => hk_let (va_up S3 121 (fun _ => 0)) (fun S4 => hk_let (va_up S4 122 (hk_i0 7)) (fun S6 => (mX10_init (hk_EE 123 119) F S6 122).bind (fun r7 => hk_let (va_up r7 123 (hk_i0 7)) (fun S9 => (mX10_init (hk_EE 124 120) F S9 123).bind (fun r10 => hk_let (va_up r10 124 (hk_i0 7)) (fun S12 => (mX10_init (hk_EE 125 121) F S12 124).bind (fun r13 => hk_let (va_up r13 125 (hk_i0 7)) (fun S15 => (mX10_init (hk_EE 126 122) F S15 125).bind (fun r16 => hk_let (va_up r16 126 (hk_i0 7)) (fun S18 => (mX10_init (hk_EE 127 123) F S18 126).bind (fun r19 => hk_let (va_up r19 127 (hk_i0 7)) (fun S21 => (mX10_init (hk_EE 128 124) F S21 127).bind (fun r22 => hk_let (va_up r22 128 (hk_i0 7)) (fun S24 => (mX10_init (hk_EE 129 125) F S24 128).bind (fun r25 => hk_let (va_up r25 129 (hk_i0 7)) (fun S27 => (mX10_init (hk_EE 130 126) F S27 129).bind (fun r28 => hk_let (va_up r28 130 (hk_i0 4)) (fun S31 => (mX6_init (hk_EE 131 127) F S31 130).bind (fun r32 => hk_let (va_up r32 131 (hk_i0 4)) (fun S34 => (mX6_init (hk_EE 132 128) F S34 131).bind (fun r35 => hk_let (va_up r35 132 (hk_i0 4)) (fun S37 => (mX6_init (hk_EE 133 129) F S37 132).bind (fun r38 => hk_let (va_up r38 133 (hk_i0 4)) (fun S40 => (mX6_init (hk_EE 134 130) F S40 133).bind (fun r41 => hk_let (va_up r41 134 (hk_i0 4)) (fun S43 => (mX6_init (hk_EE 135 131) F S43 134).bind (fun r44 => hk_let (va_up r44 135 (hk_i0 4)) (fun S46 => (mX6_init (hk_EE 136 132) F S46 135).bind (fun r47 => (mX5_clear (hk_EE 136 133) F r47 117).bind (fun r49 => some (r49))))))))))))))))))))))))))))))))))
set_option maxHeartbeats 4000000 in
set_option maxRecDepth 100000 in
theorem kX5_init_117 (l : Launch) (g : hk_G) (F : Nat) (S : hk_S) (o : hk_S) (hsp : mX5_init_117 F S = some o) : Met l yX5_init (hk_ws yX5_init cX5_init 2 (Option.none : Option Jvm.ClassFile.FieldType)) ({ frames := 3, cells := 18, slots := 120, locals := 62 }) (hk_Pc g (hk_EE 118 115) S (g.1 + 118) [.ref (g.1 + 117)]) (hk_Q g (hk_EE 136 133) o (g.1 + 136) none) 18 120 (hk_A g) := by
  refine Met.ofW (cc := cX5_init) (maxL := 2) (ret := (Option.none : Option Jvm.ClassFile.FieldType)) (by decide) rfl ?_
  intro p e s m args below meth c s₁ B hml hv
  obtain ⟨rfl, G⟩ := hk_begin hv
  have F9 : CallFix p m c cX5_init 2 s [.ref (g.1 + 117)].toArray hk_W RX5 := ⟨B.exec, B.bytes, hml, findClass_of_methodNamed B.named, fun w h => atoms_spec (ws := hk_ws yX5_init cX5_init 2 (Option.none : Option Jvm.ClassFile.FieldType)) B.pre w (hk_in h)⟩
  have hin : meth.name = "<init>" := (name_of_methodNamed B.named B.method).1
  have hx := B.exec
  have hb := B.bytes
  have hr := B.returns
  have hlocks := B.notSynchronized
  have hl := lv_entry ([.ref (g.1 + 117)]) (n := 2) (Nat.le_of_ble_eq_true rfl)
  rw [lg_entry_eq]
  generalize (lg_sl ([.ref (g.1 + 117)]) ++ List.replicate (2 - (lg_sl ([.ref (g.1 + 117)])).length) Slot.unset).toArray = ls at hl ⊢
  have hl : lv_has ls 2 [(0, .ref (g.1 + 117))] := hl
  unfold mX5_init_117 at hsp
  have G : hk_GG g (hk_EE 118 115) S (g.1 + 118) s s.heap [] := G
  refine lv_aload_n hx hb dX5_init_0 rfl (lv_at hl 0 rfl) ?_
  refine hk_obj F9 qw_34 qw_27 qw_28 hl.1 ⟨(Nat.le_of_ble_eq_true rfl), (Nat.le_of_ble_eq_true rfl)⟩ dX5_init_1 ?_
  refine lv_aload_n hx hb dX5_init_4 rfl (lv_at hl 0 rfl) ?_
  refine hk_new (E1 := (hk_EE 119 115)) (a := 118) (b := 119) F9 G rfl ⟨rfl, rfl⟩ hkc_0 hkd_0 (hk_growE (kd := 1) (ln := 0) (by decide +kernel) (by decide +kernel) (by decide +kernel)) qw_35 qw_36 qw_3 ⟨(Nat.le_of_ble_eq_true rfl), (Nat.le_of_ble_eq_true rfl)⟩ dX5_init_5 (fun H G => ?_)
  obtain ⟨S1, eS1, hsp⟩ := hk_l hsp
  rw [eS1] at G
  refine lv_dup hx hb dX5_init_8 rfl ?_
  obtain ⟨r2, er2, hsp⟩ := hk_b hsp
  refine hk_callIN (rest := [.ref (g.1 + 118), .ref (g.1 + 117)]) F9 G (kX1_init_118 l g F S1 r2 er2) qin_RX5_11 ⟨rfl, rfl, (Nat.le_of_ble_eq_true rfl), (Nat.le_of_ble_eq_true rfl)⟩ hl.1 (Nat.le_of_ble_eq_true rfl) ⟨(Nat.le_of_ble_eq_true rfl), (Nat.le_of_ble_eq_true rfl)⟩ dX5_init_9 (fun H locs G => ?_)
  refine hk_putR (E1 := (hk_EE 120 117)) (a := 117) (r := 118) (k := 0) F9 G (by decide +kernel) hkc_3 (by decide) qw_153 rfl rfl hin rfl (tyX5_ok 0 (by decide)) (fun _ => rfl) (fun _ => rfl) (hk_setE (by decide +kernel) (by decide +kernel)) dX5_init_12 (fun H locs G => ?_)
  refine lv_aload_n hx hb dX5_init_15 rfl (lv_at hl 0 rfl) ?_
  refine lv_bipush (v := 8) hx hb dX5_init_16 (by decide) ?_
  refine hk_newQ (E1 := (hk_EE 121 117)) (a := 120) (b := 121) (t := 2) (ln := 8) F9 G rfl ⟨rfl, rfl⟩ (by decide) rfl G.2.2.1.2.2.2.2 (hk_growE (kd := 16) (ln := 8) (by decide +kernel) (by decide +kernel) (by decide +kernel)) qw_63 (by decide) (by decide) (by decide) ⟨(Nat.le_of_ble_eq_true rfl), (Nat.le_of_ble_eq_true rfl)⟩ dX5_init_18 (fun H G => ?_)
  obtain ⟨S3, eS3, hsp⟩ := hk_l hsp
  rw [eS3] at G
  refine hk_putR (E1 := (hk_EE 121 118)) (a := 117) (r := 120) (k := 1) F9 G (by decide +kernel) hkc_3 (by decide) qw_155 rfl rfl hin rfl (tyX5_ok 1 (by decide)) (fun _ => rfl) (fun _ => rfl) (hk_setE (by decide +kernel) (by decide +kernel)) dX5_init_21 (fun H locs G => ?_)
  refine lv_aload_n hx hb dX5_init_24 rfl (lv_at hl 0 rfl) ?_
  refine lv_bipush (v := 6) hx hb dX5_init_25 (by decide) ?_
  refine hk_newQ (E1 := (hk_EE 122 118)) (a := 121) (b := 122) (t := 1) (ln := 6) F9 G rfl ⟨rfl, rfl⟩ (by decide) rfl G.2.2.1.2.2.2.1 (hk_growE (kd := 15) (ln := 6) (by decide +kernel) (by decide +kernel) (by decide +kernel)) qw_65 (by decide) (by decide) (by decide) ⟨(Nat.le_of_ble_eq_true rfl), (Nat.le_of_ble_eq_true rfl)⟩ dX5_init_27 (fun H G => ?_)
  obtain ⟨S4, eS4, hsp⟩ := hk_l hsp
  rw [eS4] at G
  refine hk_putR (E1 := (hk_EE 122 119)) (a := 117) (r := 121) (k := 3) F9 G (by decide +kernel) hkc_3 (by decide) qw_158 rfl rfl hin rfl (tyX5_ok 3 (by decide)) (fun _ => rfl) (fun _ => rfl) (hk_setE (by decide +kernel) (by decide +kernel)) dX5_init_30 (fun H locs G => ?_)
  refine lv_iconst (v := 0) hx hb dX5_init_33 (by decide) ?_
  refine lv_istore_n (lv' := [(1, .int 0), (0, .ref (g.1 + 117))]) hx hb dX5_init_34 rfl hl (by decide) rfl (fun ls hl => ?_)
  refine lv_iload_n hx hb dX5_init_35 rfl (lv_at hl 0 rfl) ?_
  refine lv_bipush (v := 8) hx hb dX5_init_36 (by decide) ?_
  refine lv_icmp_ge (tgt := 60) hx hb dX5_init_38 (by decide) (fun c5 => ?_) (fun c5 => ?_)
  · exact absurd c5 (by decide)
  · refine lv_aload_n hx hb dX5_init_41 rfl (lv_at hl 1 rfl) ?_
    refine hk_getR (r := 120) F9 G (by decide +kernel) hkc_3 (k := 1) (by decide) qw_155 rfl (by decide +kernel) dX5_init_42 ?_
    refine lv_iload_n hx hb dX5_init_45 rfl (lv_at hl 0 rfl) ?_
    refine hk_new (E1 := (hk_EE 123 119)) (a := 122) (b := 123) F9 G rfl ⟨rfl, rfl⟩ hkc_7 hkd_7 (hk_growE (kd := 8) (ln := 0) (by decide +kernel) (by decide +kernel) (by decide +kernel)) qw_63 qw_67 qw_4 ⟨(Nat.le_of_ble_eq_true rfl), (Nat.le_of_ble_eq_true rfl)⟩ dX5_init_46 (fun H G => ?_)
    obtain ⟨S6, eS6, hsp⟩ := hk_l hsp
    rw [eS6] at G
    refine lv_dup hx hb dX5_init_49 rfl ?_
    obtain ⟨r7, er7, hsp⟩ := hk_b hsp
    refine hk_callIN (rest := [.ref (g.1 + 122), .int 0, .ref (g.1 + 120)]) F9 G (kX10_init l g (hk_EE 123 119) F (g.1 + 123) S6 122 r7 (by decide +kernel) er7) qin_RX5_30 ⟨rfl, rfl, (Nat.le_of_ble_eq_true rfl), (Nat.le_of_ble_eq_true rfl)⟩ hl.1 (Nat.le_of_ble_eq_true rfl) ⟨(Nat.le_of_ble_eq_true rfl), (Nat.le_of_ble_eq_true rfl)⟩ dX5_init_50 (fun H locs G => ?_)
    refine hk_aast (E1 := (hk_EE 123 120)) (a := 120) (r := 122) (j := 0) (t := 2) (ci := 7) (ln := 8) F9 G (by decide) (by decide +kernel) (by decide +kernel) (by decide) rfl rfl (by decide +kernel) (by decide) (by decide) (by decide) (hk_setE (by decide +kernel) (by decide +kernel)) dX5_init_53 (fun H locs G => ?_)
    refine lv_iinc (v := 1) (lv' := [(1, .int 1), (0, .ref (g.1 + 117))]) hx hb dX5_init_54 hl (k := 0) rfl (by decide) (by decide) rfl (fun ls hl => ?_)
    refine lv_goto (tgt := 35) hx hb dX5_init_57 (by decide) ?_
    refine lv_iload_n hx hb dX5_init_35 rfl (lv_at hl 0 rfl) ?_
    refine lv_bipush (v := 8) hx hb dX5_init_36 (by decide) ?_
    refine lv_icmp_ge (tgt := 60) hx hb dX5_init_38 (by decide) (fun c8 => ?_) (fun c8 => ?_)
    · exact absurd c8 (by decide)
    · refine lv_aload_n hx hb dX5_init_41 rfl (lv_at hl 1 rfl) ?_
      refine hk_getR (r := 120) F9 G (by decide +kernel) hkc_3 (k := 1) (by decide) qw_155 rfl (by decide +kernel) dX5_init_42 ?_
      refine lv_iload_n hx hb dX5_init_45 rfl (lv_at hl 0 rfl) ?_
      refine hk_new (E1 := (hk_EE 124 120)) (a := 123) (b := 124) F9 G rfl ⟨rfl, rfl⟩ hkc_7 hkd_7 (hk_growE (kd := 8) (ln := 0) (by decide +kernel) (by decide +kernel) (by decide +kernel)) qw_63 qw_67 qw_4 ⟨(Nat.le_of_ble_eq_true rfl), (Nat.le_of_ble_eq_true rfl)⟩ dX5_init_46 (fun H G => ?_)
      obtain ⟨S9, eS9, hsp⟩ := hk_l hsp
      rw [eS9] at G
      refine lv_dup hx hb dX5_init_49 rfl ?_
      obtain ⟨r10, er10, hsp⟩ := hk_b hsp
      refine hk_callIN (rest := [.ref (g.1 + 123), .int 1, .ref (g.1 + 120)]) F9 G (kX10_init l g (hk_EE 124 120) F (g.1 + 124) S9 123 r10 (by decide +kernel) er10) qin_RX5_30 ⟨rfl, rfl, (Nat.le_of_ble_eq_true rfl), (Nat.le_of_ble_eq_true rfl)⟩ hl.1 (Nat.le_of_ble_eq_true rfl) ⟨(Nat.le_of_ble_eq_true rfl), (Nat.le_of_ble_eq_true rfl)⟩ dX5_init_50 (fun H locs G => ?_)
      refine hk_aast (E1 := (hk_EE 124 121)) (a := 120) (r := 123) (j := 1) (t := 2) (ci := 7) (ln := 8) F9 G (by decide) (by decide +kernel) (by decide +kernel) (by decide) rfl rfl (by decide +kernel) (by decide) (by decide) (by decide) (hk_setE (by decide +kernel) (by decide +kernel)) dX5_init_53 (fun H locs G => ?_)
      refine lv_iinc (v := 2) (lv' := [(1, .int 2), (0, .ref (g.1 + 117))]) hx hb dX5_init_54 hl (k := 0) rfl (by decide) (by decide) rfl (fun ls hl => ?_)
      refine lv_goto (tgt := 35) hx hb dX5_init_57 (by decide) ?_
      refine lv_iload_n hx hb dX5_init_35 rfl (lv_at hl 0 rfl) ?_
      refine lv_bipush (v := 8) hx hb dX5_init_36 (by decide) ?_
      refine lv_icmp_ge (tgt := 60) hx hb dX5_init_38 (by decide) (fun c11 => ?_) (fun c11 => ?_)
      · exact absurd c11 (by decide)
      · refine lv_aload_n hx hb dX5_init_41 rfl (lv_at hl 1 rfl) ?_
        refine hk_getR (r := 120) F9 G (by decide +kernel) hkc_3 (k := 1) (by decide) qw_155 rfl (by decide +kernel) dX5_init_42 ?_
        refine lv_iload_n hx hb dX5_init_45 rfl (lv_at hl 0 rfl) ?_
        refine hk_new (E1 := (hk_EE 125 121)) (a := 124) (b := 125) F9 G rfl ⟨rfl, rfl⟩ hkc_7 hkd_7 (hk_growE (kd := 8) (ln := 0) (by decide +kernel) (by decide +kernel) (by decide +kernel)) qw_63 qw_67 qw_4 ⟨(Nat.le_of_ble_eq_true rfl), (Nat.le_of_ble_eq_true rfl)⟩ dX5_init_46 (fun H G => ?_)
        obtain ⟨S12, eS12, hsp⟩ := hk_l hsp
        rw [eS12] at G
        refine lv_dup hx hb dX5_init_49 rfl ?_
        obtain ⟨r13, er13, hsp⟩ := hk_b hsp
        refine hk_callIN (rest := [.ref (g.1 + 124), .int 2, .ref (g.1 + 120)]) F9 G (kX10_init l g (hk_EE 125 121) F (g.1 + 125) S12 124 r13 (by decide +kernel) er13) qin_RX5_30 ⟨rfl, rfl, (Nat.le_of_ble_eq_true rfl), (Nat.le_of_ble_eq_true rfl)⟩ hl.1 (Nat.le_of_ble_eq_true rfl) ⟨(Nat.le_of_ble_eq_true rfl), (Nat.le_of_ble_eq_true rfl)⟩ dX5_init_50 (fun H locs G => ?_)
        refine hk_aast (E1 := (hk_EE 125 122)) (a := 120) (r := 124) (j := 2) (t := 2) (ci := 7) (ln := 8) F9 G (by decide) (by decide +kernel) (by decide +kernel) (by decide) rfl rfl (by decide +kernel) (by decide) (by decide) (by decide) (hk_setE (by decide +kernel) (by decide +kernel)) dX5_init_53 (fun H locs G => ?_)
        refine lv_iinc (v := 3) (lv' := [(1, .int 3), (0, .ref (g.1 + 117))]) hx hb dX5_init_54 hl (k := 0) rfl (by decide) (by decide) rfl (fun ls hl => ?_)
        refine lv_goto (tgt := 35) hx hb dX5_init_57 (by decide) ?_
        refine lv_iload_n hx hb dX5_init_35 rfl (lv_at hl 0 rfl) ?_
        refine lv_bipush (v := 8) hx hb dX5_init_36 (by decide) ?_
        refine lv_icmp_ge (tgt := 60) hx hb dX5_init_38 (by decide) (fun c14 => ?_) (fun c14 => ?_)
        · exact absurd c14 (by decide)
        · refine lv_aload_n hx hb dX5_init_41 rfl (lv_at hl 1 rfl) ?_
          refine hk_getR (r := 120) F9 G (by decide +kernel) hkc_3 (k := 1) (by decide) qw_155 rfl (by decide +kernel) dX5_init_42 ?_
          refine lv_iload_n hx hb dX5_init_45 rfl (lv_at hl 0 rfl) ?_
          refine hk_new (E1 := (hk_EE 126 122)) (a := 125) (b := 126) F9 G rfl ⟨rfl, rfl⟩ hkc_7 hkd_7 (hk_growE (kd := 8) (ln := 0) (by decide +kernel) (by decide +kernel) (by decide +kernel)) qw_63 qw_67 qw_4 ⟨(Nat.le_of_ble_eq_true rfl), (Nat.le_of_ble_eq_true rfl)⟩ dX5_init_46 (fun H G => ?_)
          obtain ⟨S15, eS15, hsp⟩ := hk_l hsp
          rw [eS15] at G
          refine lv_dup hx hb dX5_init_49 rfl ?_
          obtain ⟨r16, er16, hsp⟩ := hk_b hsp
          refine hk_callIN (rest := [.ref (g.1 + 125), .int 3, .ref (g.1 + 120)]) F9 G (kX10_init l g (hk_EE 126 122) F (g.1 + 126) S15 125 r16 (by decide +kernel) er16) qin_RX5_30 ⟨rfl, rfl, (Nat.le_of_ble_eq_true rfl), (Nat.le_of_ble_eq_true rfl)⟩ hl.1 (Nat.le_of_ble_eq_true rfl) ⟨(Nat.le_of_ble_eq_true rfl), (Nat.le_of_ble_eq_true rfl)⟩ dX5_init_50 (fun H locs G => ?_)
          refine hk_aast (E1 := (hk_EE 126 123)) (a := 120) (r := 125) (j := 3) (t := 2) (ci := 7) (ln := 8) F9 G (by decide) (by decide +kernel) (by decide +kernel) (by decide) rfl rfl (by decide +kernel) (by decide) (by decide) (by decide) (hk_setE (by decide +kernel) (by decide +kernel)) dX5_init_53 (fun H locs G => ?_)
          refine lv_iinc (v := 4) (lv' := [(1, .int 4), (0, .ref (g.1 + 117))]) hx hb dX5_init_54 hl (k := 0) rfl (by decide) (by decide) rfl (fun ls hl => ?_)
          refine lv_goto (tgt := 35) hx hb dX5_init_57 (by decide) ?_
          refine lv_iload_n hx hb dX5_init_35 rfl (lv_at hl 0 rfl) ?_
          refine lv_bipush (v := 8) hx hb dX5_init_36 (by decide) ?_
          refine lv_icmp_ge (tgt := 60) hx hb dX5_init_38 (by decide) (fun c17 => ?_) (fun c17 => ?_)
          · exact absurd c17 (by decide)
          · refine lv_aload_n hx hb dX5_init_41 rfl (lv_at hl 1 rfl) ?_
            refine hk_getR (r := 120) F9 G (by decide +kernel) hkc_3 (k := 1) (by decide) qw_155 rfl (by decide +kernel) dX5_init_42 ?_
            refine lv_iload_n hx hb dX5_init_45 rfl (lv_at hl 0 rfl) ?_
            refine hk_new (E1 := (hk_EE 127 123)) (a := 126) (b := 127) F9 G rfl ⟨rfl, rfl⟩ hkc_7 hkd_7 (hk_growE (kd := 8) (ln := 0) (by decide +kernel) (by decide +kernel) (by decide +kernel)) qw_63 qw_67 qw_4 ⟨(Nat.le_of_ble_eq_true rfl), (Nat.le_of_ble_eq_true rfl)⟩ dX5_init_46 (fun H G => ?_)
            obtain ⟨S18, eS18, hsp⟩ := hk_l hsp
            rw [eS18] at G
            refine lv_dup hx hb dX5_init_49 rfl ?_
            obtain ⟨r19, er19, hsp⟩ := hk_b hsp
            refine hk_callIN (rest := [.ref (g.1 + 126), .int 4, .ref (g.1 + 120)]) F9 G (kX10_init l g (hk_EE 127 123) F (g.1 + 127) S18 126 r19 (by decide +kernel) er19) qin_RX5_30 ⟨rfl, rfl, (Nat.le_of_ble_eq_true rfl), (Nat.le_of_ble_eq_true rfl)⟩ hl.1 (Nat.le_of_ble_eq_true rfl) ⟨(Nat.le_of_ble_eq_true rfl), (Nat.le_of_ble_eq_true rfl)⟩ dX5_init_50 (fun H locs G => ?_)
            refine hk_aast (E1 := (hk_EE 127 124)) (a := 120) (r := 126) (j := 4) (t := 2) (ci := 7) (ln := 8) F9 G (by decide) (by decide +kernel) (by decide +kernel) (by decide) rfl rfl (by decide +kernel) (by decide) (by decide) (by decide) (hk_setE (by decide +kernel) (by decide +kernel)) dX5_init_53 (fun H locs G => ?_)
            refine lv_iinc (v := 5) (lv' := [(1, .int 5), (0, .ref (g.1 + 117))]) hx hb dX5_init_54 hl (k := 0) rfl (by decide) (by decide) rfl (fun ls hl => ?_)
            refine lv_goto (tgt := 35) hx hb dX5_init_57 (by decide) ?_
            refine lv_iload_n hx hb dX5_init_35 rfl (lv_at hl 0 rfl) ?_
            refine lv_bipush (v := 8) hx hb dX5_init_36 (by decide) ?_
            refine lv_icmp_ge (tgt := 60) hx hb dX5_init_38 (by decide) (fun c20 => ?_) (fun c20 => ?_)
            · exact absurd c20 (by decide)
            · refine lv_aload_n hx hb dX5_init_41 rfl (lv_at hl 1 rfl) ?_
              refine hk_getR (r := 120) F9 G (by decide +kernel) hkc_3 (k := 1) (by decide) qw_155 rfl (by decide +kernel) dX5_init_42 ?_
              refine lv_iload_n hx hb dX5_init_45 rfl (lv_at hl 0 rfl) ?_
              refine hk_new (E1 := (hk_EE 128 124)) (a := 127) (b := 128) F9 G rfl ⟨rfl, rfl⟩ hkc_7 hkd_7 (hk_growE (kd := 8) (ln := 0) (by decide +kernel) (by decide +kernel) (by decide +kernel)) qw_63 qw_67 qw_4 ⟨(Nat.le_of_ble_eq_true rfl), (Nat.le_of_ble_eq_true rfl)⟩ dX5_init_46 (fun H G => ?_)
              obtain ⟨S21, eS21, hsp⟩ := hk_l hsp
              rw [eS21] at G
              refine lv_dup hx hb dX5_init_49 rfl ?_
              obtain ⟨r22, er22, hsp⟩ := hk_b hsp
              refine hk_callIN (rest := [.ref (g.1 + 127), .int 5, .ref (g.1 + 120)]) F9 G (kX10_init l g (hk_EE 128 124) F (g.1 + 128) S21 127 r22 (by decide +kernel) er22) qin_RX5_30 ⟨rfl, rfl, (Nat.le_of_ble_eq_true rfl), (Nat.le_of_ble_eq_true rfl)⟩ hl.1 (Nat.le_of_ble_eq_true rfl) ⟨(Nat.le_of_ble_eq_true rfl), (Nat.le_of_ble_eq_true rfl)⟩ dX5_init_50 (fun H locs G => ?_)
              refine hk_aast (E1 := (hk_EE 128 125)) (a := 120) (r := 127) (j := 5) (t := 2) (ci := 7) (ln := 8) F9 G (by decide) (by decide +kernel) (by decide +kernel) (by decide) rfl rfl (by decide +kernel) (by decide) (by decide) (by decide) (hk_setE (by decide +kernel) (by decide +kernel)) dX5_init_53 (fun H locs G => ?_)
              refine lv_iinc (v := 6) (lv' := [(1, .int 6), (0, .ref (g.1 + 117))]) hx hb dX5_init_54 hl (k := 0) rfl (by decide) (by decide) rfl (fun ls hl => ?_)
              refine lv_goto (tgt := 35) hx hb dX5_init_57 (by decide) ?_
              refine lv_iload_n hx hb dX5_init_35 rfl (lv_at hl 0 rfl) ?_
              refine lv_bipush (v := 8) hx hb dX5_init_36 (by decide) ?_
              refine lv_icmp_ge (tgt := 60) hx hb dX5_init_38 (by decide) (fun c23 => ?_) (fun c23 => ?_)
              · exact absurd c23 (by decide)
              · refine lv_aload_n hx hb dX5_init_41 rfl (lv_at hl 1 rfl) ?_
                refine hk_getR (r := 120) F9 G (by decide +kernel) hkc_3 (k := 1) (by decide) qw_155 rfl (by decide +kernel) dX5_init_42 ?_
                refine lv_iload_n hx hb dX5_init_45 rfl (lv_at hl 0 rfl) ?_
                refine hk_new (E1 := (hk_EE 129 125)) (a := 128) (b := 129) F9 G rfl ⟨rfl, rfl⟩ hkc_7 hkd_7 (hk_growE (kd := 8) (ln := 0) (by decide +kernel) (by decide +kernel) (by decide +kernel)) qw_63 qw_67 qw_4 ⟨(Nat.le_of_ble_eq_true rfl), (Nat.le_of_ble_eq_true rfl)⟩ dX5_init_46 (fun H G => ?_)
                obtain ⟨S24, eS24, hsp⟩ := hk_l hsp
                rw [eS24] at G
                refine lv_dup hx hb dX5_init_49 rfl ?_
                obtain ⟨r25, er25, hsp⟩ := hk_b hsp
                refine hk_callIN (rest := [.ref (g.1 + 128), .int 6, .ref (g.1 + 120)]) F9 G (kX10_init l g (hk_EE 129 125) F (g.1 + 129) S24 128 r25 (by decide +kernel) er25) qin_RX5_30 ⟨rfl, rfl, (Nat.le_of_ble_eq_true rfl), (Nat.le_of_ble_eq_true rfl)⟩ hl.1 (Nat.le_of_ble_eq_true rfl) ⟨(Nat.le_of_ble_eq_true rfl), (Nat.le_of_ble_eq_true rfl)⟩ dX5_init_50 (fun H locs G => ?_)
                refine hk_aast (E1 := (hk_EE 129 126)) (a := 120) (r := 128) (j := 6) (t := 2) (ci := 7) (ln := 8) F9 G (by decide) (by decide +kernel) (by decide +kernel) (by decide) rfl rfl (by decide +kernel) (by decide) (by decide) (by decide) (hk_setE (by decide +kernel) (by decide +kernel)) dX5_init_53 (fun H locs G => ?_)
                refine lv_iinc (v := 7) (lv' := [(1, .int 7), (0, .ref (g.1 + 117))]) hx hb dX5_init_54 hl (k := 0) rfl (by decide) (by decide) rfl (fun ls hl => ?_)
                refine lv_goto (tgt := 35) hx hb dX5_init_57 (by decide) ?_
                refine lv_iload_n hx hb dX5_init_35 rfl (lv_at hl 0 rfl) ?_
                refine lv_bipush (v := 8) hx hb dX5_init_36 (by decide) ?_
                refine lv_icmp_ge (tgt := 60) hx hb dX5_init_38 (by decide) (fun c26 => ?_) (fun c26 => ?_)
                · exact absurd c26 (by decide)
                · refine lv_aload_n hx hb dX5_init_41 rfl (lv_at hl 1 rfl) ?_
                  refine hk_getR (r := 120) F9 G (by decide +kernel) hkc_3 (k := 1) (by decide) qw_155 rfl (by decide +kernel) dX5_init_42 ?_
                  refine lv_iload_n hx hb dX5_init_45 rfl (lv_at hl 0 rfl) ?_
                  refine hk_new (E1 := (hk_EE 130 126)) (a := 129) (b := 130) F9 G rfl ⟨rfl, rfl⟩ hkc_7 hkd_7 (hk_growE (kd := 8) (ln := 0) (by decide +kernel) (by decide +kernel) (by decide +kernel)) qw_63 qw_67 qw_4 ⟨(Nat.le_of_ble_eq_true rfl), (Nat.le_of_ble_eq_true rfl)⟩ dX5_init_46 (fun H G => ?_)
                  obtain ⟨S27, eS27, hsp⟩ := hk_l hsp
                  rw [eS27] at G
                  refine lv_dup hx hb dX5_init_49 rfl ?_
                  obtain ⟨r28, er28, hsp⟩ := hk_b hsp
                  refine hk_callIN (rest := [.ref (g.1 + 129), .int 7, .ref (g.1 + 120)]) F9 G (kX10_init l g (hk_EE 130 126) F (g.1 + 130) S27 129 r28 (by decide +kernel) er28) qin_RX5_30 ⟨rfl, rfl, (Nat.le_of_ble_eq_true rfl), (Nat.le_of_ble_eq_true rfl)⟩ hl.1 (Nat.le_of_ble_eq_true rfl) ⟨(Nat.le_of_ble_eq_true rfl), (Nat.le_of_ble_eq_true rfl)⟩ dX5_init_50 (fun H locs G => ?_)
                  refine hk_aast (E1 := (hk_EE 130 127)) (a := 120) (r := 129) (j := 7) (t := 2) (ci := 7) (ln := 8) F9 G (by decide) (by decide +kernel) (by decide +kernel) (by decide) rfl rfl (by decide +kernel) (by decide) (by decide) (by decide) (hk_setE (by decide +kernel) (by decide +kernel)) dX5_init_53 (fun H locs G => ?_)
                  refine lv_iinc (v := 8) (lv' := [(1, .int 8), (0, .ref (g.1 + 117))]) hx hb dX5_init_54 hl (k := 0) rfl (by decide) (by decide) rfl (fun ls hl => ?_)
                  refine lv_goto (tgt := 35) hx hb dX5_init_57 (by decide) ?_
                  refine lv_iload_n hx hb dX5_init_35 rfl (lv_at hl 0 rfl) ?_
                  refine lv_bipush (v := 8) hx hb dX5_init_36 (by decide) ?_
                  refine lv_icmp_ge (tgt := 60) hx hb dX5_init_38 (by decide) (fun c29 => ?_) (fun c29 => ?_)
                  · refine lv_iconst (v := 0) hx hb dX5_init_60 (by decide) ?_
                    refine lv_istore_n (lv' := [(1, .int 0), (0, .ref (g.1 + 117))]) hx hb dX5_init_61 rfl hl (by decide) rfl (fun ls hl => ?_)
                    refine lv_iload_n hx hb dX5_init_62 rfl (lv_at hl 0 rfl) ?_
                    refine lv_bipush (v := 6) hx hb dX5_init_63 (by decide) ?_
                    refine lv_icmp_ge (tgt := 87) hx hb dX5_init_65 (by decide) (fun c30 => ?_) (fun c30 => ?_)
                    · exact absurd c30 (by decide)
                    · refine lv_aload_n hx hb dX5_init_68 rfl (lv_at hl 1 rfl) ?_
                      refine hk_getR (r := 121) F9 G (by decide +kernel) hkc_3 (k := 3) (by decide) qw_158 rfl (by decide +kernel) dX5_init_69 ?_
                      refine lv_iload_n hx hb dX5_init_72 rfl (lv_at hl 0 rfl) ?_
                      refine hk_new (E1 := (hk_EE 131 127)) (a := 130) (b := 131) F9 G rfl ⟨rfl, rfl⟩ hkc_4 hkd_4 (hk_growE (kd := 5) (ln := 0) (by decide +kernel) (by decide +kernel) (by decide +kernel)) qw_65 qw_116 qw_5 ⟨(Nat.le_of_ble_eq_true rfl), (Nat.le_of_ble_eq_true rfl)⟩ dX5_init_73 (fun H G => ?_)
                      obtain ⟨S31, eS31, hsp⟩ := hk_l hsp
                      rw [eS31] at G
                      refine lv_dup hx hb dX5_init_76 rfl ?_
                      obtain ⟨r32, er32, hsp⟩ := hk_b hsp
                      refine hk_callIN (rest := [.ref (g.1 + 130), .int 0, .ref (g.1 + 121)]) F9 G (kX6_init l g (hk_EE 131 127) F (g.1 + 131) S31 130 r32 (by decide +kernel) er32) qin_RX5_31 ⟨rfl, rfl, (Nat.le_of_ble_eq_true rfl), (Nat.le_of_ble_eq_true rfl)⟩ hl.1 (Nat.le_of_ble_eq_true rfl) ⟨(Nat.le_of_ble_eq_true rfl), (Nat.le_of_ble_eq_true rfl)⟩ dX5_init_77 (fun H locs G => ?_)
                      refine hk_aast (E1 := (hk_EE 131 128)) (a := 121) (r := 130) (j := 0) (t := 1) (ci := 4) (ln := 6) F9 G (by decide) (by decide +kernel) (by decide +kernel) (by decide) rfl rfl (by decide +kernel) (by decide) (by decide) (by decide) (hk_setE (by decide +kernel) (by decide +kernel)) dX5_init_80 (fun H locs G => ?_)
                      refine lv_iinc (v := 1) (lv' := [(1, .int 1), (0, .ref (g.1 + 117))]) hx hb dX5_init_81 hl (k := 0) rfl (by decide) (by decide) rfl (fun ls hl => ?_)
                      refine lv_goto (tgt := 62) hx hb dX5_init_84 (by decide) ?_
                      refine lv_iload_n hx hb dX5_init_62 rfl (lv_at hl 0 rfl) ?_
                      refine lv_bipush (v := 6) hx hb dX5_init_63 (by decide) ?_
                      refine lv_icmp_ge (tgt := 87) hx hb dX5_init_65 (by decide) (fun c33 => ?_) (fun c33 => ?_)
                      · exact absurd c33 (by decide)
                      · refine lv_aload_n hx hb dX5_init_68 rfl (lv_at hl 1 rfl) ?_
                        refine hk_getR (r := 121) F9 G (by decide +kernel) hkc_3 (k := 3) (by decide) qw_158 rfl (by decide +kernel) dX5_init_69 ?_
                        refine lv_iload_n hx hb dX5_init_72 rfl (lv_at hl 0 rfl) ?_
                        refine hk_new (E1 := (hk_EE 132 128)) (a := 131) (b := 132) F9 G rfl ⟨rfl, rfl⟩ hkc_4 hkd_4 (hk_growE (kd := 5) (ln := 0) (by decide +kernel) (by decide +kernel) (by decide +kernel)) qw_65 qw_116 qw_5 ⟨(Nat.le_of_ble_eq_true rfl), (Nat.le_of_ble_eq_true rfl)⟩ dX5_init_73 (fun H G => ?_)
                        obtain ⟨S34, eS34, hsp⟩ := hk_l hsp
                        rw [eS34] at G
                        refine lv_dup hx hb dX5_init_76 rfl ?_
                        obtain ⟨r35, er35, hsp⟩ := hk_b hsp
                        refine hk_callIN (rest := [.ref (g.1 + 131), .int 1, .ref (g.1 + 121)]) F9 G (kX6_init l g (hk_EE 132 128) F (g.1 + 132) S34 131 r35 (by decide +kernel) er35) qin_RX5_31 ⟨rfl, rfl, (Nat.le_of_ble_eq_true rfl), (Nat.le_of_ble_eq_true rfl)⟩ hl.1 (Nat.le_of_ble_eq_true rfl) ⟨(Nat.le_of_ble_eq_true rfl), (Nat.le_of_ble_eq_true rfl)⟩ dX5_init_77 (fun H locs G => ?_)
                        refine hk_aast (E1 := (hk_EE 132 129)) (a := 121) (r := 131) (j := 1) (t := 1) (ci := 4) (ln := 6) F9 G (by decide) (by decide +kernel) (by decide +kernel) (by decide) rfl rfl (by decide +kernel) (by decide) (by decide) (by decide) (hk_setE (by decide +kernel) (by decide +kernel)) dX5_init_80 (fun H locs G => ?_)
                        refine lv_iinc (v := 2) (lv' := [(1, .int 2), (0, .ref (g.1 + 117))]) hx hb dX5_init_81 hl (k := 0) rfl (by decide) (by decide) rfl (fun ls hl => ?_)
                        refine lv_goto (tgt := 62) hx hb dX5_init_84 (by decide) ?_
                        refine lv_iload_n hx hb dX5_init_62 rfl (lv_at hl 0 rfl) ?_
                        refine lv_bipush (v := 6) hx hb dX5_init_63 (by decide) ?_
                        refine lv_icmp_ge (tgt := 87) hx hb dX5_init_65 (by decide) (fun c36 => ?_) (fun c36 => ?_)
                        · exact absurd c36 (by decide)
                        · refine lv_aload_n hx hb dX5_init_68 rfl (lv_at hl 1 rfl) ?_
                          refine hk_getR (r := 121) F9 G (by decide +kernel) hkc_3 (k := 3) (by decide) qw_158 rfl (by decide +kernel) dX5_init_69 ?_
                          refine lv_iload_n hx hb dX5_init_72 rfl (lv_at hl 0 rfl) ?_
                          refine hk_new (E1 := (hk_EE 133 129)) (a := 132) (b := 133) F9 G rfl ⟨rfl, rfl⟩ hkc_4 hkd_4 (hk_growE (kd := 5) (ln := 0) (by decide +kernel) (by decide +kernel) (by decide +kernel)) qw_65 qw_116 qw_5 ⟨(Nat.le_of_ble_eq_true rfl), (Nat.le_of_ble_eq_true rfl)⟩ dX5_init_73 (fun H G => ?_)
                          obtain ⟨S37, eS37, hsp⟩ := hk_l hsp
                          rw [eS37] at G
                          refine lv_dup hx hb dX5_init_76 rfl ?_
                          obtain ⟨r38, er38, hsp⟩ := hk_b hsp
                          refine hk_callIN (rest := [.ref (g.1 + 132), .int 2, .ref (g.1 + 121)]) F9 G (kX6_init l g (hk_EE 133 129) F (g.1 + 133) S37 132 r38 (by decide +kernel) er38) qin_RX5_31 ⟨rfl, rfl, (Nat.le_of_ble_eq_true rfl), (Nat.le_of_ble_eq_true rfl)⟩ hl.1 (Nat.le_of_ble_eq_true rfl) ⟨(Nat.le_of_ble_eq_true rfl), (Nat.le_of_ble_eq_true rfl)⟩ dX5_init_77 (fun H locs G => ?_)
                          refine hk_aast (E1 := (hk_EE 133 130)) (a := 121) (r := 132) (j := 2) (t := 1) (ci := 4) (ln := 6) F9 G (by decide) (by decide +kernel) (by decide +kernel) (by decide) rfl rfl (by decide +kernel) (by decide) (by decide) (by decide) (hk_setE (by decide +kernel) (by decide +kernel)) dX5_init_80 (fun H locs G => ?_)
                          refine lv_iinc (v := 3) (lv' := [(1, .int 3), (0, .ref (g.1 + 117))]) hx hb dX5_init_81 hl (k := 0) rfl (by decide) (by decide) rfl (fun ls hl => ?_)
                          refine lv_goto (tgt := 62) hx hb dX5_init_84 (by decide) ?_
                          refine lv_iload_n hx hb dX5_init_62 rfl (lv_at hl 0 rfl) ?_
                          refine lv_bipush (v := 6) hx hb dX5_init_63 (by decide) ?_
                          refine lv_icmp_ge (tgt := 87) hx hb dX5_init_65 (by decide) (fun c39 => ?_) (fun c39 => ?_)
                          · exact absurd c39 (by decide)
                          · refine lv_aload_n hx hb dX5_init_68 rfl (lv_at hl 1 rfl) ?_
                            refine hk_getR (r := 121) F9 G (by decide +kernel) hkc_3 (k := 3) (by decide) qw_158 rfl (by decide +kernel) dX5_init_69 ?_
                            refine lv_iload_n hx hb dX5_init_72 rfl (lv_at hl 0 rfl) ?_
                            refine hk_new (E1 := (hk_EE 134 130)) (a := 133) (b := 134) F9 G rfl ⟨rfl, rfl⟩ hkc_4 hkd_4 (hk_growE (kd := 5) (ln := 0) (by decide +kernel) (by decide +kernel) (by decide +kernel)) qw_65 qw_116 qw_5 ⟨(Nat.le_of_ble_eq_true rfl), (Nat.le_of_ble_eq_true rfl)⟩ dX5_init_73 (fun H G => ?_)
                            obtain ⟨S40, eS40, hsp⟩ := hk_l hsp
                            rw [eS40] at G
                            refine lv_dup hx hb dX5_init_76 rfl ?_
                            obtain ⟨r41, er41, hsp⟩ := hk_b hsp
                            refine hk_callIN (rest := [.ref (g.1 + 133), .int 3, .ref (g.1 + 121)]) F9 G (kX6_init l g (hk_EE 134 130) F (g.1 + 134) S40 133 r41 (by decide +kernel) er41) qin_RX5_31 ⟨rfl, rfl, (Nat.le_of_ble_eq_true rfl), (Nat.le_of_ble_eq_true rfl)⟩ hl.1 (Nat.le_of_ble_eq_true rfl) ⟨(Nat.le_of_ble_eq_true rfl), (Nat.le_of_ble_eq_true rfl)⟩ dX5_init_77 (fun H locs G => ?_)
                            refine hk_aast (E1 := (hk_EE 134 131)) (a := 121) (r := 133) (j := 3) (t := 1) (ci := 4) (ln := 6) F9 G (by decide) (by decide +kernel) (by decide +kernel) (by decide) rfl rfl (by decide +kernel) (by decide) (by decide) (by decide) (hk_setE (by decide +kernel) (by decide +kernel)) dX5_init_80 (fun H locs G => ?_)
                            refine lv_iinc (v := 4) (lv' := [(1, .int 4), (0, .ref (g.1 + 117))]) hx hb dX5_init_81 hl (k := 0) rfl (by decide) (by decide) rfl (fun ls hl => ?_)
                            refine lv_goto (tgt := 62) hx hb dX5_init_84 (by decide) ?_
                            refine lv_iload_n hx hb dX5_init_62 rfl (lv_at hl 0 rfl) ?_
                            refine lv_bipush (v := 6) hx hb dX5_init_63 (by decide) ?_
                            refine lv_icmp_ge (tgt := 87) hx hb dX5_init_65 (by decide) (fun c42 => ?_) (fun c42 => ?_)
                            · exact absurd c42 (by decide)
                            · refine lv_aload_n hx hb dX5_init_68 rfl (lv_at hl 1 rfl) ?_
                              refine hk_getR (r := 121) F9 G (by decide +kernel) hkc_3 (k := 3) (by decide) qw_158 rfl (by decide +kernel) dX5_init_69 ?_
                              refine lv_iload_n hx hb dX5_init_72 rfl (lv_at hl 0 rfl) ?_
                              refine hk_new (E1 := (hk_EE 135 131)) (a := 134) (b := 135) F9 G rfl ⟨rfl, rfl⟩ hkc_4 hkd_4 (hk_growE (kd := 5) (ln := 0) (by decide +kernel) (by decide +kernel) (by decide +kernel)) qw_65 qw_116 qw_5 ⟨(Nat.le_of_ble_eq_true rfl), (Nat.le_of_ble_eq_true rfl)⟩ dX5_init_73 (fun H G => ?_)
                              obtain ⟨S43, eS43, hsp⟩ := hk_l hsp
                              rw [eS43] at G
                              refine lv_dup hx hb dX5_init_76 rfl ?_
                              obtain ⟨r44, er44, hsp⟩ := hk_b hsp
                              refine hk_callIN (rest := [.ref (g.1 + 134), .int 4, .ref (g.1 + 121)]) F9 G (kX6_init l g (hk_EE 135 131) F (g.1 + 135) S43 134 r44 (by decide +kernel) er44) qin_RX5_31 ⟨rfl, rfl, (Nat.le_of_ble_eq_true rfl), (Nat.le_of_ble_eq_true rfl)⟩ hl.1 (Nat.le_of_ble_eq_true rfl) ⟨(Nat.le_of_ble_eq_true rfl), (Nat.le_of_ble_eq_true rfl)⟩ dX5_init_77 (fun H locs G => ?_)
                              refine hk_aast (E1 := (hk_EE 135 132)) (a := 121) (r := 134) (j := 4) (t := 1) (ci := 4) (ln := 6) F9 G (by decide) (by decide +kernel) (by decide +kernel) (by decide) rfl rfl (by decide +kernel) (by decide) (by decide) (by decide) (hk_setE (by decide +kernel) (by decide +kernel)) dX5_init_80 (fun H locs G => ?_)
                              refine lv_iinc (v := 5) (lv' := [(1, .int 5), (0, .ref (g.1 + 117))]) hx hb dX5_init_81 hl (k := 0) rfl (by decide) (by decide) rfl (fun ls hl => ?_)
                              refine lv_goto (tgt := 62) hx hb dX5_init_84 (by decide) ?_
                              refine lv_iload_n hx hb dX5_init_62 rfl (lv_at hl 0 rfl) ?_
                              refine lv_bipush (v := 6) hx hb dX5_init_63 (by decide) ?_
                              refine lv_icmp_ge (tgt := 87) hx hb dX5_init_65 (by decide) (fun c45 => ?_) (fun c45 => ?_)
                              · exact absurd c45 (by decide)
                              · refine lv_aload_n hx hb dX5_init_68 rfl (lv_at hl 1 rfl) ?_
                                refine hk_getR (r := 121) F9 G (by decide +kernel) hkc_3 (k := 3) (by decide) qw_158 rfl (by decide +kernel) dX5_init_69 ?_
                                refine lv_iload_n hx hb dX5_init_72 rfl (lv_at hl 0 rfl) ?_
                                refine hk_new (E1 := (hk_EE 136 132)) (a := 135) (b := 136) F9 G rfl ⟨rfl, rfl⟩ hkc_4 hkd_4 (hk_growE (kd := 5) (ln := 0) (by decide +kernel) (by decide +kernel) (by decide +kernel)) qw_65 qw_116 qw_5 ⟨(Nat.le_of_ble_eq_true rfl), (Nat.le_of_ble_eq_true rfl)⟩ dX5_init_73 (fun H G => ?_)
                                obtain ⟨S46, eS46, hsp⟩ := hk_l hsp
                                rw [eS46] at G
                                refine lv_dup hx hb dX5_init_76 rfl ?_
                                obtain ⟨r47, er47, hsp⟩ := hk_b hsp
                                refine hk_callIN (rest := [.ref (g.1 + 135), .int 5, .ref (g.1 + 121)]) F9 G (kX6_init l g (hk_EE 136 132) F (g.1 + 136) S46 135 r47 (by decide +kernel) er47) qin_RX5_31 ⟨rfl, rfl, (Nat.le_of_ble_eq_true rfl), (Nat.le_of_ble_eq_true rfl)⟩ hl.1 (Nat.le_of_ble_eq_true rfl) ⟨(Nat.le_of_ble_eq_true rfl), (Nat.le_of_ble_eq_true rfl)⟩ dX5_init_77 (fun H locs G => ?_)
                                refine hk_aast (E1 := (hk_EE 136 133)) (a := 121) (r := 135) (j := 5) (t := 1) (ci := 4) (ln := 6) F9 G (by decide) (by decide +kernel) (by decide +kernel) (by decide) rfl rfl (by decide +kernel) (by decide) (by decide) (by decide) (hk_setE (by decide +kernel) (by decide +kernel)) dX5_init_80 (fun H locs G => ?_)
                                refine lv_iinc (v := 6) (lv' := [(1, .int 6), (0, .ref (g.1 + 117))]) hx hb dX5_init_81 hl (k := 0) rfl (by decide) (by decide) rfl (fun ls hl => ?_)
                                refine lv_goto (tgt := 62) hx hb dX5_init_84 (by decide) ?_
                                refine lv_iload_n hx hb dX5_init_62 rfl (lv_at hl 0 rfl) ?_
                                refine lv_bipush (v := 6) hx hb dX5_init_63 (by decide) ?_
                                refine lv_icmp_ge (tgt := 87) hx hb dX5_init_65 (by decide) (fun c48 => ?_) (fun c48 => ?_)
                                · refine lv_aload_n hx hb dX5_init_87 rfl (lv_at hl 1 rfl) ?_
                                  obtain ⟨r49, er49, hsp⟩ := hk_b hsp
                                  refine hk_callVv (As := []) (rest := []) F9 G (by decide +kernel) hkc_3 rfl (kX5_clear l g (hk_EE 136 133) F (g.1 + 136) r47 117 r49 (by decide +kernel) er49) qv_RX5_32 ⟨rfl, rfl, (Nat.le_of_ble_eq_true rfl), (Nat.le_of_ble_eq_true rfl)⟩ rfl hl.1 rfl (Nat.le_of_ble_eq_true rfl) ⟨(Nat.le_of_ble_eq_true rfl), (Nat.le_of_ble_eq_true rfl)⟩ dX5_init_88 (fun H locs G => ?_)
                                  obtain rfl := hk_s hsp
                                  exact W.vret hx hb hr (fun t ht hW => hk_end G ht hW) G.2.1.2.2 dX5_init_91
                                · exact absurd c48 (by decide)
                  · exact absurd c29 (by decide)
def mX1_init_137 (F : Nat) (S : hk_S) : Option (hk_S) :=
hk_let (va_up S 138 (fun _ => 0)) (fun S1 => some (S1))
set_option maxHeartbeats 4000000 in
set_option maxRecDepth 100000 in
theorem kX1_init_137 (l : Launch) (g : hk_G) (F : Nat) (S : hk_S) (o : hk_S) (hsp : mX1_init_137 F S = some o) : Met l yX1_init (hk_ws yX1_init cX1_init 1 (Option.none : Option Jvm.ClassFile.FieldType)) ({ frames := 1, cells := 1, slots := 3, locals := 12 }) (hk_Pc g (hk_EE 138 134) S (g.1 + 138) [.ref (g.1 + 137)]) (hk_Q g (hk_EE 139 135) o (g.1 + 139) none) 1 3 (hk_A g) := by
  refine Met.ofW (cc := cX1_init) (maxL := 1) (ret := (Option.none : Option Jvm.ClassFile.FieldType)) (by decide) rfl ?_
  intro p e s m args below meth c s₁ B hml hv
  obtain ⟨rfl, G⟩ := hk_begin hv
  have F9 : CallFix p m c cX1_init 1 s [.ref (g.1 + 137)].toArray hk_W RX1 := ⟨B.exec, B.bytes, hml, findClass_of_methodNamed B.named, fun w h => atoms_spec (ws := hk_ws yX1_init cX1_init 1 (Option.none : Option Jvm.ClassFile.FieldType)) B.pre w (hk_in h)⟩
  have hin : meth.name = "<init>" := (name_of_methodNamed B.named B.method).1
  have hx := B.exec
  have hb := B.bytes
  have hr := B.returns
  have hlocks := B.notSynchronized
  have hl := lv_entry ([.ref (g.1 + 137)]) (n := 1) (Nat.le_of_ble_eq_true rfl)
  rw [lg_entry_eq]
  generalize (lg_sl ([.ref (g.1 + 137)]) ++ List.replicate (1 - (lg_sl ([.ref (g.1 + 137)])).length) Slot.unset).toArray = ls at hl ⊢
  have hl : lv_has ls 1 [(0, .ref (g.1 + 137))] := hl
  unfold mX1_init_137 at hsp
  have G : hk_GG g (hk_EE 138 134) S (g.1 + 138) s s.heap [] := G
  refine lv_aload_n hx hb dX1_init_0 rfl (lv_at hl 0 rfl) ?_
  refine hk_obj F9 qw_40 qw_27 qw_28 hl.1 ⟨(Nat.le_of_ble_eq_true rfl), (Nat.le_of_ble_eq_true rfl)⟩ dX1_init_1 ?_
  refine lv_aload_n hx hb dX1_init_4 rfl (lv_at hl 0 rfl) ?_
  refine lv_iconst (v := 3) hx hb dX1_init_5 (by decide) ?_
  refine hk_newA (E1 := (hk_EE 139 134)) (a := 138) (b := 139) (ft := .int) (t := 2) (ln := 3) (kd := 13) F9 G rfl ⟨rfl, rfl⟩ rfl (fun _ h => nomatch h) rfl (fun I _ => hk_cell_i (t := 2) (by decide)) rfl (hk_growE (kd := 13) (ln := 3) (by decide +kernel) (by decide +kernel) (by decide +kernel)) qw_62 (by decide) (by decide) (by decide) ⟨(Nat.le_of_ble_eq_true rfl), (Nat.le_of_ble_eq_true rfl)⟩ dX1_init_6 (fun H G => ?_)
  obtain ⟨S1, eS1, hsp⟩ := hk_l hsp
  rw [eS1] at G
  refine hk_putR (E1 := (hk_EE 139 135)) (a := 137) (r := 138) (k := 4) F9 G (by decide +kernel) hkc_0 (by decide) qw_50 rfl rfl hin rfl (tyX1_ok 4 (by decide)) (fun _ => rfl) (fun _ => rfl) (hk_setE (by decide +kernel) (by decide +kernel)) dX1_init_8 (fun H locs G => ?_)
  obtain rfl := hk_s hsp
  exact W.vret hx hb hr (fun t ht hW => hk_end G ht hW) G.2.1.2.2 dX1_init_11
def mX5_init_136 (F : Nat) (S : hk_S) : Option (hk_S) :=
hk_let (va_up S 137 (hk_i0 0)) (fun S1 => (mX1_init_137 F S1).bind (fun r2 => hk_let (va_up r2 139 (fun _ => 0)) (fun S3 => hk_let (va_up S3 140 (fun _ => 0)) (fun S4 => hk_let (va_up S4 141 (hk_i0 7)) (fun S6 => (mX10_init (hk_EE 142 138) F S6 141).bind (fun r7 => hk_let (va_up r7 142 (hk_i0 7)) (fun S9 => (mX10_init (hk_EE 143 139) F S9 142).bind (fun r10 => hk_let (va_up r10 143 (hk_i0 7)) (fun S12 => (mX10_init (hk_EE 144 140) F S12 143).bind (fun r13 => hk_let (va_up r13 144 (hk_i0 7)) (fun S15 => (mX10_init (hk_EE 145 141) F S15 144).bind (fun r16 => hk_let (va_up r16 145 (hk_i0 7)) (fun S18 => (mX10_init (hk_EE 146 142) F S18 145).bind (fun r19 => hk_let (va_up r19 146 (hk_i0 7)) (fun S21 => (mX10_init (hk_EE 147 143) F S21 146).bind (fun r22 => hk_let (va_up r22 147 (hk_i0 7)) (fun S24 => (mX10_init (hk_EE 148 144) F S24 147).bind (fun r25 => hk_let (va_up r25 148 (hk_i0 7)) (fun S27 => (mX10_init (hk_EE 149 145) F S27 148).bind (fun r28 => hk_let (va_up r28 149 (hk_i0 4)) (fun S31 => (mX6_init (hk_EE 150 146) F S31 149).bind (fun r32 => hk_let (va_up r32 150 (hk_i0 4)) (fun S34 => (mX6_init (hk_EE 151 147) F S34 150).bind (fun r35 => hk_let (va_up r35 151 (hk_i0 4)) (fun S37 => (mX6_init (hk_EE 152 148) F S37 151).bind (fun r38 => hk_let (va_up r38 152 (hk_i0 4)) (fun S40 => (mX6_init (hk_EE 153 149) F S40 152).bind (fun r41 => hk_let (va_up r41 153 (hk_i0 4)) (fun S43 => (mX6_init (hk_EE 154 150) F S43 153).bind (fun r44 => hk_let (va_up r44 154 (hk_i0 4)) (fun S46 => (mX6_init (hk_EE 155 151) F S46 154).bind (fun r47 => (mX5_clear (hk_EE 155 152) F r47 136).bind (fun r49 => some (r49))))))))))))))))))))))))))))))))))
set_option maxHeartbeats 4000000 in
set_option maxRecDepth 100000 in
theorem kX5_init_136 (l : Launch) (g : hk_G) (F : Nat) (S : hk_S) (o : hk_S) (hsp : mX5_init_136 F S = some o) : Met l yX5_init (hk_ws yX5_init cX5_init 2 (Option.none : Option Jvm.ClassFile.FieldType)) ({ frames := 3, cells := 18, slots := 120, locals := 62 }) (hk_Pc g (hk_EE 137 134) S (g.1 + 137) [.ref (g.1 + 136)]) (hk_Q g (hk_EE 155 152) o (g.1 + 155) none) 18 120 (hk_A g) := by
  refine Met.ofW (cc := cX5_init) (maxL := 2) (ret := (Option.none : Option Jvm.ClassFile.FieldType)) (by decide) rfl ?_
  intro p e s m args below meth c s₁ B hml hv
  obtain ⟨rfl, G⟩ := hk_begin hv
  have F9 : CallFix p m c cX5_init 2 s [.ref (g.1 + 136)].toArray hk_W RX5 := ⟨B.exec, B.bytes, hml, findClass_of_methodNamed B.named, fun w h => atoms_spec (ws := hk_ws yX5_init cX5_init 2 (Option.none : Option Jvm.ClassFile.FieldType)) B.pre w (hk_in h)⟩
  have hin : meth.name = "<init>" := (name_of_methodNamed B.named B.method).1
  have hx := B.exec
  have hb := B.bytes
  have hr := B.returns
  have hlocks := B.notSynchronized
  have hl := lv_entry ([.ref (g.1 + 136)]) (n := 2) (Nat.le_of_ble_eq_true rfl)
  rw [lg_entry_eq]
  generalize (lg_sl ([.ref (g.1 + 136)]) ++ List.replicate (2 - (lg_sl ([.ref (g.1 + 136)])).length) Slot.unset).toArray = ls at hl ⊢
  have hl : lv_has ls 2 [(0, .ref (g.1 + 136))] := hl
  unfold mX5_init_136 at hsp
  have G : hk_GG g (hk_EE 137 134) S (g.1 + 137) s s.heap [] := G
  refine lv_aload_n hx hb dX5_init_0 rfl (lv_at hl 0 rfl) ?_
  refine hk_obj F9 qw_34 qw_27 qw_28 hl.1 ⟨(Nat.le_of_ble_eq_true rfl), (Nat.le_of_ble_eq_true rfl)⟩ dX5_init_1 ?_
  refine lv_aload_n hx hb dX5_init_4 rfl (lv_at hl 0 rfl) ?_
  refine hk_new (E1 := (hk_EE 138 134)) (a := 137) (b := 138) F9 G rfl ⟨rfl, rfl⟩ hkc_0 hkd_0 (hk_growE (kd := 1) (ln := 0) (by decide +kernel) (by decide +kernel) (by decide +kernel)) qw_35 qw_36 qw_3 ⟨(Nat.le_of_ble_eq_true rfl), (Nat.le_of_ble_eq_true rfl)⟩ dX5_init_5 (fun H G => ?_)
  obtain ⟨S1, eS1, hsp⟩ := hk_l hsp
  rw [eS1] at G
  refine lv_dup hx hb dX5_init_8 rfl ?_
  obtain ⟨r2, er2, hsp⟩ := hk_b hsp
  refine hk_callIN (rest := [.ref (g.1 + 137), .ref (g.1 + 136)]) F9 G (kX1_init_137 l g F S1 r2 er2) qin_RX5_11 ⟨rfl, rfl, (Nat.le_of_ble_eq_true rfl), (Nat.le_of_ble_eq_true rfl)⟩ hl.1 (Nat.le_of_ble_eq_true rfl) ⟨(Nat.le_of_ble_eq_true rfl), (Nat.le_of_ble_eq_true rfl)⟩ dX5_init_9 (fun H locs G => ?_)
  refine hk_putR (E1 := (hk_EE 139 136)) (a := 136) (r := 137) (k := 0) F9 G (by decide +kernel) hkc_3 (by decide) qw_153 rfl rfl hin rfl (tyX5_ok 0 (by decide)) (fun _ => rfl) (fun _ => rfl) (hk_setE (by decide +kernel) (by decide +kernel)) dX5_init_12 (fun H locs G => ?_)
  refine lv_aload_n hx hb dX5_init_15 rfl (lv_at hl 0 rfl) ?_
  refine lv_bipush (v := 8) hx hb dX5_init_16 (by decide) ?_
  refine hk_newQ (E1 := (hk_EE 140 136)) (a := 139) (b := 140) (t := 2) (ln := 8) F9 G rfl ⟨rfl, rfl⟩ (by decide) rfl G.2.2.1.2.2.2.2 (hk_growE (kd := 16) (ln := 8) (by decide +kernel) (by decide +kernel) (by decide +kernel)) qw_63 (by decide) (by decide) (by decide) ⟨(Nat.le_of_ble_eq_true rfl), (Nat.le_of_ble_eq_true rfl)⟩ dX5_init_18 (fun H G => ?_)
  obtain ⟨S3, eS3, hsp⟩ := hk_l hsp
  rw [eS3] at G
  refine hk_putR (E1 := (hk_EE 140 137)) (a := 136) (r := 139) (k := 1) F9 G (by decide +kernel) hkc_3 (by decide) qw_155 rfl rfl hin rfl (tyX5_ok 1 (by decide)) (fun _ => rfl) (fun _ => rfl) (hk_setE (by decide +kernel) (by decide +kernel)) dX5_init_21 (fun H locs G => ?_)
  refine lv_aload_n hx hb dX5_init_24 rfl (lv_at hl 0 rfl) ?_
  refine lv_bipush (v := 6) hx hb dX5_init_25 (by decide) ?_
  refine hk_newQ (E1 := (hk_EE 141 137)) (a := 140) (b := 141) (t := 1) (ln := 6) F9 G rfl ⟨rfl, rfl⟩ (by decide) rfl G.2.2.1.2.2.2.1 (hk_growE (kd := 15) (ln := 6) (by decide +kernel) (by decide +kernel) (by decide +kernel)) qw_65 (by decide) (by decide) (by decide) ⟨(Nat.le_of_ble_eq_true rfl), (Nat.le_of_ble_eq_true rfl)⟩ dX5_init_27 (fun H G => ?_)
  obtain ⟨S4, eS4, hsp⟩ := hk_l hsp
  rw [eS4] at G
  refine hk_putR (E1 := (hk_EE 141 138)) (a := 136) (r := 140) (k := 3) F9 G (by decide +kernel) hkc_3 (by decide) qw_158 rfl rfl hin rfl (tyX5_ok 3 (by decide)) (fun _ => rfl) (fun _ => rfl) (hk_setE (by decide +kernel) (by decide +kernel)) dX5_init_30 (fun H locs G => ?_)
  refine lv_iconst (v := 0) hx hb dX5_init_33 (by decide) ?_
  refine lv_istore_n (lv' := [(1, .int 0), (0, .ref (g.1 + 136))]) hx hb dX5_init_34 rfl hl (by decide) rfl (fun ls hl => ?_)
  refine lv_iload_n hx hb dX5_init_35 rfl (lv_at hl 0 rfl) ?_
  refine lv_bipush (v := 8) hx hb dX5_init_36 (by decide) ?_
  refine lv_icmp_ge (tgt := 60) hx hb dX5_init_38 (by decide) (fun c5 => ?_) (fun c5 => ?_)
  · exact absurd c5 (by decide)
  · refine lv_aload_n hx hb dX5_init_41 rfl (lv_at hl 1 rfl) ?_
    refine hk_getR (r := 139) F9 G (by decide +kernel) hkc_3 (k := 1) (by decide) qw_155 rfl (by decide +kernel) dX5_init_42 ?_
    refine lv_iload_n hx hb dX5_init_45 rfl (lv_at hl 0 rfl) ?_
    refine hk_new (E1 := (hk_EE 142 138)) (a := 141) (b := 142) F9 G rfl ⟨rfl, rfl⟩ hkc_7 hkd_7 (hk_growE (kd := 8) (ln := 0) (by decide +kernel) (by decide +kernel) (by decide +kernel)) qw_63 qw_67 qw_4 ⟨(Nat.le_of_ble_eq_true rfl), (Nat.le_of_ble_eq_true rfl)⟩ dX5_init_46 (fun H G => ?_)
    obtain ⟨S6, eS6, hsp⟩ := hk_l hsp
    rw [eS6] at G
    refine lv_dup hx hb dX5_init_49 rfl ?_
    obtain ⟨r7, er7, hsp⟩ := hk_b hsp
    refine hk_callIN (rest := [.ref (g.1 + 141), .int 0, .ref (g.1 + 139)]) F9 G (kX10_init l g (hk_EE 142 138) F (g.1 + 142) S6 141 r7 (by decide +kernel) er7) qin_RX5_30 ⟨rfl, rfl, (Nat.le_of_ble_eq_true rfl), (Nat.le_of_ble_eq_true rfl)⟩ hl.1 (Nat.le_of_ble_eq_true rfl) ⟨(Nat.le_of_ble_eq_true rfl), (Nat.le_of_ble_eq_true rfl)⟩ dX5_init_50 (fun H locs G => ?_)
    refine hk_aast (E1 := (hk_EE 142 139)) (a := 139) (r := 141) (j := 0) (t := 2) (ci := 7) (ln := 8) F9 G (by decide) (by decide +kernel) (by decide +kernel) (by decide) rfl rfl (by decide +kernel) (by decide) (by decide) (by decide) (hk_setE (by decide +kernel) (by decide +kernel)) dX5_init_53 (fun H locs G => ?_)
    refine lv_iinc (v := 1) (lv' := [(1, .int 1), (0, .ref (g.1 + 136))]) hx hb dX5_init_54 hl (k := 0) rfl (by decide) (by decide) rfl (fun ls hl => ?_)
    refine lv_goto (tgt := 35) hx hb dX5_init_57 (by decide) ?_
    refine lv_iload_n hx hb dX5_init_35 rfl (lv_at hl 0 rfl) ?_
    refine lv_bipush (v := 8) hx hb dX5_init_36 (by decide) ?_
    refine lv_icmp_ge (tgt := 60) hx hb dX5_init_38 (by decide) (fun c8 => ?_) (fun c8 => ?_)
    · exact absurd c8 (by decide)
    · refine lv_aload_n hx hb dX5_init_41 rfl (lv_at hl 1 rfl) ?_
      refine hk_getR (r := 139) F9 G (by decide +kernel) hkc_3 (k := 1) (by decide) qw_155 rfl (by decide +kernel) dX5_init_42 ?_
      refine lv_iload_n hx hb dX5_init_45 rfl (lv_at hl 0 rfl) ?_
      refine hk_new (E1 := (hk_EE 143 139)) (a := 142) (b := 143) F9 G rfl ⟨rfl, rfl⟩ hkc_7 hkd_7 (hk_growE (kd := 8) (ln := 0) (by decide +kernel) (by decide +kernel) (by decide +kernel)) qw_63 qw_67 qw_4 ⟨(Nat.le_of_ble_eq_true rfl), (Nat.le_of_ble_eq_true rfl)⟩ dX5_init_46 (fun H G => ?_)
      obtain ⟨S9, eS9, hsp⟩ := hk_l hsp
      rw [eS9] at G
      refine lv_dup hx hb dX5_init_49 rfl ?_
      obtain ⟨r10, er10, hsp⟩ := hk_b hsp
      refine hk_callIN (rest := [.ref (g.1 + 142), .int 1, .ref (g.1 + 139)]) F9 G (kX10_init l g (hk_EE 143 139) F (g.1 + 143) S9 142 r10 (by decide +kernel) er10) qin_RX5_30 ⟨rfl, rfl, (Nat.le_of_ble_eq_true rfl), (Nat.le_of_ble_eq_true rfl)⟩ hl.1 (Nat.le_of_ble_eq_true rfl) ⟨(Nat.le_of_ble_eq_true rfl), (Nat.le_of_ble_eq_true rfl)⟩ dX5_init_50 (fun H locs G => ?_)
      refine hk_aast (E1 := (hk_EE 143 140)) (a := 139) (r := 142) (j := 1) (t := 2) (ci := 7) (ln := 8) F9 G (by decide) (by decide +kernel) (by decide +kernel) (by decide) rfl rfl (by decide +kernel) (by decide) (by decide) (by decide) (hk_setE (by decide +kernel) (by decide +kernel)) dX5_init_53 (fun H locs G => ?_)
      refine lv_iinc (v := 2) (lv' := [(1, .int 2), (0, .ref (g.1 + 136))]) hx hb dX5_init_54 hl (k := 0) rfl (by decide) (by decide) rfl (fun ls hl => ?_)
      refine lv_goto (tgt := 35) hx hb dX5_init_57 (by decide) ?_
      refine lv_iload_n hx hb dX5_init_35 rfl (lv_at hl 0 rfl) ?_
      refine lv_bipush (v := 8) hx hb dX5_init_36 (by decide) ?_
      refine lv_icmp_ge (tgt := 60) hx hb dX5_init_38 (by decide) (fun c11 => ?_) (fun c11 => ?_)
      · exact absurd c11 (by decide)
      · refine lv_aload_n hx hb dX5_init_41 rfl (lv_at hl 1 rfl) ?_
        refine hk_getR (r := 139) F9 G (by decide +kernel) hkc_3 (k := 1) (by decide) qw_155 rfl (by decide +kernel) dX5_init_42 ?_
        refine lv_iload_n hx hb dX5_init_45 rfl (lv_at hl 0 rfl) ?_
        refine hk_new (E1 := (hk_EE 144 140)) (a := 143) (b := 144) F9 G rfl ⟨rfl, rfl⟩ hkc_7 hkd_7 (hk_growE (kd := 8) (ln := 0) (by decide +kernel) (by decide +kernel) (by decide +kernel)) qw_63 qw_67 qw_4 ⟨(Nat.le_of_ble_eq_true rfl), (Nat.le_of_ble_eq_true rfl)⟩ dX5_init_46 (fun H G => ?_)
        obtain ⟨S12, eS12, hsp⟩ := hk_l hsp
        rw [eS12] at G
        refine lv_dup hx hb dX5_init_49 rfl ?_
        obtain ⟨r13, er13, hsp⟩ := hk_b hsp
        refine hk_callIN (rest := [.ref (g.1 + 143), .int 2, .ref (g.1 + 139)]) F9 G (kX10_init l g (hk_EE 144 140) F (g.1 + 144) S12 143 r13 (by decide +kernel) er13) qin_RX5_30 ⟨rfl, rfl, (Nat.le_of_ble_eq_true rfl), (Nat.le_of_ble_eq_true rfl)⟩ hl.1 (Nat.le_of_ble_eq_true rfl) ⟨(Nat.le_of_ble_eq_true rfl), (Nat.le_of_ble_eq_true rfl)⟩ dX5_init_50 (fun H locs G => ?_)
        refine hk_aast (E1 := (hk_EE 144 141)) (a := 139) (r := 143) (j := 2) (t := 2) (ci := 7) (ln := 8) F9 G (by decide) (by decide +kernel) (by decide +kernel) (by decide) rfl rfl (by decide +kernel) (by decide) (by decide) (by decide) (hk_setE (by decide +kernel) (by decide +kernel)) dX5_init_53 (fun H locs G => ?_)
        refine lv_iinc (v := 3) (lv' := [(1, .int 3), (0, .ref (g.1 + 136))]) hx hb dX5_init_54 hl (k := 0) rfl (by decide) (by decide) rfl (fun ls hl => ?_)
        refine lv_goto (tgt := 35) hx hb dX5_init_57 (by decide) ?_
        refine lv_iload_n hx hb dX5_init_35 rfl (lv_at hl 0 rfl) ?_
        refine lv_bipush (v := 8) hx hb dX5_init_36 (by decide) ?_
        refine lv_icmp_ge (tgt := 60) hx hb dX5_init_38 (by decide) (fun c14 => ?_) (fun c14 => ?_)
        · exact absurd c14 (by decide)
        · refine lv_aload_n hx hb dX5_init_41 rfl (lv_at hl 1 rfl) ?_
          refine hk_getR (r := 139) F9 G (by decide +kernel) hkc_3 (k := 1) (by decide) qw_155 rfl (by decide +kernel) dX5_init_42 ?_
          refine lv_iload_n hx hb dX5_init_45 rfl (lv_at hl 0 rfl) ?_
          refine hk_new (E1 := (hk_EE 145 141)) (a := 144) (b := 145) F9 G rfl ⟨rfl, rfl⟩ hkc_7 hkd_7 (hk_growE (kd := 8) (ln := 0) (by decide +kernel) (by decide +kernel) (by decide +kernel)) qw_63 qw_67 qw_4 ⟨(Nat.le_of_ble_eq_true rfl), (Nat.le_of_ble_eq_true rfl)⟩ dX5_init_46 (fun H G => ?_)
          obtain ⟨S15, eS15, hsp⟩ := hk_l hsp
          rw [eS15] at G
          refine lv_dup hx hb dX5_init_49 rfl ?_
          obtain ⟨r16, er16, hsp⟩ := hk_b hsp
          refine hk_callIN (rest := [.ref (g.1 + 144), .int 3, .ref (g.1 + 139)]) F9 G (kX10_init l g (hk_EE 145 141) F (g.1 + 145) S15 144 r16 (by decide +kernel) er16) qin_RX5_30 ⟨rfl, rfl, (Nat.le_of_ble_eq_true rfl), (Nat.le_of_ble_eq_true rfl)⟩ hl.1 (Nat.le_of_ble_eq_true rfl) ⟨(Nat.le_of_ble_eq_true rfl), (Nat.le_of_ble_eq_true rfl)⟩ dX5_init_50 (fun H locs G => ?_)
          refine hk_aast (E1 := (hk_EE 145 142)) (a := 139) (r := 144) (j := 3) (t := 2) (ci := 7) (ln := 8) F9 G (by decide) (by decide +kernel) (by decide +kernel) (by decide) rfl rfl (by decide +kernel) (by decide) (by decide) (by decide) (hk_setE (by decide +kernel) (by decide +kernel)) dX5_init_53 (fun H locs G => ?_)
          refine lv_iinc (v := 4) (lv' := [(1, .int 4), (0, .ref (g.1 + 136))]) hx hb dX5_init_54 hl (k := 0) rfl (by decide) (by decide) rfl (fun ls hl => ?_)
          refine lv_goto (tgt := 35) hx hb dX5_init_57 (by decide) ?_
          refine lv_iload_n hx hb dX5_init_35 rfl (lv_at hl 0 rfl) ?_
          refine lv_bipush (v := 8) hx hb dX5_init_36 (by decide) ?_
          refine lv_icmp_ge (tgt := 60) hx hb dX5_init_38 (by decide) (fun c17 => ?_) (fun c17 => ?_)
          · exact absurd c17 (by decide)
          · refine lv_aload_n hx hb dX5_init_41 rfl (lv_at hl 1 rfl) ?_
            refine hk_getR (r := 139) F9 G (by decide +kernel) hkc_3 (k := 1) (by decide) qw_155 rfl (by decide +kernel) dX5_init_42 ?_
            refine lv_iload_n hx hb dX5_init_45 rfl (lv_at hl 0 rfl) ?_
            refine hk_new (E1 := (hk_EE 146 142)) (a := 145) (b := 146) F9 G rfl ⟨rfl, rfl⟩ hkc_7 hkd_7 (hk_growE (kd := 8) (ln := 0) (by decide +kernel) (by decide +kernel) (by decide +kernel)) qw_63 qw_67 qw_4 ⟨(Nat.le_of_ble_eq_true rfl), (Nat.le_of_ble_eq_true rfl)⟩ dX5_init_46 (fun H G => ?_)
            obtain ⟨S18, eS18, hsp⟩ := hk_l hsp
            rw [eS18] at G
            refine lv_dup hx hb dX5_init_49 rfl ?_
            obtain ⟨r19, er19, hsp⟩ := hk_b hsp
            refine hk_callIN (rest := [.ref (g.1 + 145), .int 4, .ref (g.1 + 139)]) F9 G (kX10_init l g (hk_EE 146 142) F (g.1 + 146) S18 145 r19 (by decide +kernel) er19) qin_RX5_30 ⟨rfl, rfl, (Nat.le_of_ble_eq_true rfl), (Nat.le_of_ble_eq_true rfl)⟩ hl.1 (Nat.le_of_ble_eq_true rfl) ⟨(Nat.le_of_ble_eq_true rfl), (Nat.le_of_ble_eq_true rfl)⟩ dX5_init_50 (fun H locs G => ?_)
            refine hk_aast (E1 := (hk_EE 146 143)) (a := 139) (r := 145) (j := 4) (t := 2) (ci := 7) (ln := 8) F9 G (by decide) (by decide +kernel) (by decide +kernel) (by decide) rfl rfl (by decide +kernel) (by decide) (by decide) (by decide) (hk_setE (by decide +kernel) (by decide +kernel)) dX5_init_53 (fun H locs G => ?_)
            refine lv_iinc (v := 5) (lv' := [(1, .int 5), (0, .ref (g.1 + 136))]) hx hb dX5_init_54 hl (k := 0) rfl (by decide) (by decide) rfl (fun ls hl => ?_)
            refine lv_goto (tgt := 35) hx hb dX5_init_57 (by decide) ?_
            refine lv_iload_n hx hb dX5_init_35 rfl (lv_at hl 0 rfl) ?_
            refine lv_bipush (v := 8) hx hb dX5_init_36 (by decide) ?_
            refine lv_icmp_ge (tgt := 60) hx hb dX5_init_38 (by decide) (fun c20 => ?_) (fun c20 => ?_)
            · exact absurd c20 (by decide)
            · refine lv_aload_n hx hb dX5_init_41 rfl (lv_at hl 1 rfl) ?_
              refine hk_getR (r := 139) F9 G (by decide +kernel) hkc_3 (k := 1) (by decide) qw_155 rfl (by decide +kernel) dX5_init_42 ?_
              refine lv_iload_n hx hb dX5_init_45 rfl (lv_at hl 0 rfl) ?_
              refine hk_new (E1 := (hk_EE 147 143)) (a := 146) (b := 147) F9 G rfl ⟨rfl, rfl⟩ hkc_7 hkd_7 (hk_growE (kd := 8) (ln := 0) (by decide +kernel) (by decide +kernel) (by decide +kernel)) qw_63 qw_67 qw_4 ⟨(Nat.le_of_ble_eq_true rfl), (Nat.le_of_ble_eq_true rfl)⟩ dX5_init_46 (fun H G => ?_)
              obtain ⟨S21, eS21, hsp⟩ := hk_l hsp
              rw [eS21] at G
              refine lv_dup hx hb dX5_init_49 rfl ?_
              obtain ⟨r22, er22, hsp⟩ := hk_b hsp
              refine hk_callIN (rest := [.ref (g.1 + 146), .int 5, .ref (g.1 + 139)]) F9 G (kX10_init l g (hk_EE 147 143) F (g.1 + 147) S21 146 r22 (by decide +kernel) er22) qin_RX5_30 ⟨rfl, rfl, (Nat.le_of_ble_eq_true rfl), (Nat.le_of_ble_eq_true rfl)⟩ hl.1 (Nat.le_of_ble_eq_true rfl) ⟨(Nat.le_of_ble_eq_true rfl), (Nat.le_of_ble_eq_true rfl)⟩ dX5_init_50 (fun H locs G => ?_)
              refine hk_aast (E1 := (hk_EE 147 144)) (a := 139) (r := 146) (j := 5) (t := 2) (ci := 7) (ln := 8) F9 G (by decide) (by decide +kernel) (by decide +kernel) (by decide) rfl rfl (by decide +kernel) (by decide) (by decide) (by decide) (hk_setE (by decide +kernel) (by decide +kernel)) dX5_init_53 (fun H locs G => ?_)
              refine lv_iinc (v := 6) (lv' := [(1, .int 6), (0, .ref (g.1 + 136))]) hx hb dX5_init_54 hl (k := 0) rfl (by decide) (by decide) rfl (fun ls hl => ?_)
              refine lv_goto (tgt := 35) hx hb dX5_init_57 (by decide) ?_
              refine lv_iload_n hx hb dX5_init_35 rfl (lv_at hl 0 rfl) ?_
              refine lv_bipush (v := 8) hx hb dX5_init_36 (by decide) ?_
              refine lv_icmp_ge (tgt := 60) hx hb dX5_init_38 (by decide) (fun c23 => ?_) (fun c23 => ?_)
              · exact absurd c23 (by decide)
              · refine lv_aload_n hx hb dX5_init_41 rfl (lv_at hl 1 rfl) ?_
                refine hk_getR (r := 139) F9 G (by decide +kernel) hkc_3 (k := 1) (by decide) qw_155 rfl (by decide +kernel) dX5_init_42 ?_
                refine lv_iload_n hx hb dX5_init_45 rfl (lv_at hl 0 rfl) ?_
                refine hk_new (E1 := (hk_EE 148 144)) (a := 147) (b := 148) F9 G rfl ⟨rfl, rfl⟩ hkc_7 hkd_7 (hk_growE (kd := 8) (ln := 0) (by decide +kernel) (by decide +kernel) (by decide +kernel)) qw_63 qw_67 qw_4 ⟨(Nat.le_of_ble_eq_true rfl), (Nat.le_of_ble_eq_true rfl)⟩ dX5_init_46 (fun H G => ?_)
                obtain ⟨S24, eS24, hsp⟩ := hk_l hsp
                rw [eS24] at G
                refine lv_dup hx hb dX5_init_49 rfl ?_
                obtain ⟨r25, er25, hsp⟩ := hk_b hsp
                refine hk_callIN (rest := [.ref (g.1 + 147), .int 6, .ref (g.1 + 139)]) F9 G (kX10_init l g (hk_EE 148 144) F (g.1 + 148) S24 147 r25 (by decide +kernel) er25) qin_RX5_30 ⟨rfl, rfl, (Nat.le_of_ble_eq_true rfl), (Nat.le_of_ble_eq_true rfl)⟩ hl.1 (Nat.le_of_ble_eq_true rfl) ⟨(Nat.le_of_ble_eq_true rfl), (Nat.le_of_ble_eq_true rfl)⟩ dX5_init_50 (fun H locs G => ?_)
                refine hk_aast (E1 := (hk_EE 148 145)) (a := 139) (r := 147) (j := 6) (t := 2) (ci := 7) (ln := 8) F9 G (by decide) (by decide +kernel) (by decide +kernel) (by decide) rfl rfl (by decide +kernel) (by decide) (by decide) (by decide) (hk_setE (by decide +kernel) (by decide +kernel)) dX5_init_53 (fun H locs G => ?_)
                refine lv_iinc (v := 7) (lv' := [(1, .int 7), (0, .ref (g.1 + 136))]) hx hb dX5_init_54 hl (k := 0) rfl (by decide) (by decide) rfl (fun ls hl => ?_)
                refine lv_goto (tgt := 35) hx hb dX5_init_57 (by decide) ?_
                refine lv_iload_n hx hb dX5_init_35 rfl (lv_at hl 0 rfl) ?_
                refine lv_bipush (v := 8) hx hb dX5_init_36 (by decide) ?_
                refine lv_icmp_ge (tgt := 60) hx hb dX5_init_38 (by decide) (fun c26 => ?_) (fun c26 => ?_)
                · exact absurd c26 (by decide)
                · refine lv_aload_n hx hb dX5_init_41 rfl (lv_at hl 1 rfl) ?_
                  refine hk_getR (r := 139) F9 G (by decide +kernel) hkc_3 (k := 1) (by decide) qw_155 rfl (by decide +kernel) dX5_init_42 ?_
                  refine lv_iload_n hx hb dX5_init_45 rfl (lv_at hl 0 rfl) ?_
                  refine hk_new (E1 := (hk_EE 149 145)) (a := 148) (b := 149) F9 G rfl ⟨rfl, rfl⟩ hkc_7 hkd_7 (hk_growE (kd := 8) (ln := 0) (by decide +kernel) (by decide +kernel) (by decide +kernel)) qw_63 qw_67 qw_4 ⟨(Nat.le_of_ble_eq_true rfl), (Nat.le_of_ble_eq_true rfl)⟩ dX5_init_46 (fun H G => ?_)
                  obtain ⟨S27, eS27, hsp⟩ := hk_l hsp
                  rw [eS27] at G
                  refine lv_dup hx hb dX5_init_49 rfl ?_
                  obtain ⟨r28, er28, hsp⟩ := hk_b hsp
                  refine hk_callIN (rest := [.ref (g.1 + 148), .int 7, .ref (g.1 + 139)]) F9 G (kX10_init l g (hk_EE 149 145) F (g.1 + 149) S27 148 r28 (by decide +kernel) er28) qin_RX5_30 ⟨rfl, rfl, (Nat.le_of_ble_eq_true rfl), (Nat.le_of_ble_eq_true rfl)⟩ hl.1 (Nat.le_of_ble_eq_true rfl) ⟨(Nat.le_of_ble_eq_true rfl), (Nat.le_of_ble_eq_true rfl)⟩ dX5_init_50 (fun H locs G => ?_)
                  refine hk_aast (E1 := (hk_EE 149 146)) (a := 139) (r := 148) (j := 7) (t := 2) (ci := 7) (ln := 8) F9 G (by decide) (by decide +kernel) (by decide +kernel) (by decide) rfl rfl (by decide +kernel) (by decide) (by decide) (by decide) (hk_setE (by decide +kernel) (by decide +kernel)) dX5_init_53 (fun H locs G => ?_)
                  refine lv_iinc (v := 8) (lv' := [(1, .int 8), (0, .ref (g.1 + 136))]) hx hb dX5_init_54 hl (k := 0) rfl (by decide) (by decide) rfl (fun ls hl => ?_)
                  refine lv_goto (tgt := 35) hx hb dX5_init_57 (by decide) ?_
                  refine lv_iload_n hx hb dX5_init_35 rfl (lv_at hl 0 rfl) ?_
                  refine lv_bipush (v := 8) hx hb dX5_init_36 (by decide) ?_
                  refine lv_icmp_ge (tgt := 60) hx hb dX5_init_38 (by decide) (fun c29 => ?_) (fun c29 => ?_)
                  · refine lv_iconst (v := 0) hx hb dX5_init_60 (by decide) ?_
                    refine lv_istore_n (lv' := [(1, .int 0), (0, .ref (g.1 + 136))]) hx hb dX5_init_61 rfl hl (by decide) rfl (fun ls hl => ?_)
                    refine lv_iload_n hx hb dX5_init_62 rfl (lv_at hl 0 rfl) ?_
                    refine lv_bipush (v := 6) hx hb dX5_init_63 (by decide) ?_
                    refine lv_icmp_ge (tgt := 87) hx hb dX5_init_65 (by decide) (fun c30 => ?_) (fun c30 => ?_)
                    · exact absurd c30 (by decide)
                    · refine lv_aload_n hx hb dX5_init_68 rfl (lv_at hl 1 rfl) ?_
                      refine hk_getR (r := 140) F9 G (by decide +kernel) hkc_3 (k := 3) (by decide) qw_158 rfl (by decide +kernel) dX5_init_69 ?_
                      refine lv_iload_n hx hb dX5_init_72 rfl (lv_at hl 0 rfl) ?_
                      refine hk_new (E1 := (hk_EE 150 146)) (a := 149) (b := 150) F9 G rfl ⟨rfl, rfl⟩ hkc_4 hkd_4 (hk_growE (kd := 5) (ln := 0) (by decide +kernel) (by decide +kernel) (by decide +kernel)) qw_65 qw_116 qw_5 ⟨(Nat.le_of_ble_eq_true rfl), (Nat.le_of_ble_eq_true rfl)⟩ dX5_init_73 (fun H G => ?_)
                      obtain ⟨S31, eS31, hsp⟩ := hk_l hsp
                      rw [eS31] at G
                      refine lv_dup hx hb dX5_init_76 rfl ?_
                      obtain ⟨r32, er32, hsp⟩ := hk_b hsp
                      refine hk_callIN (rest := [.ref (g.1 + 149), .int 0, .ref (g.1 + 140)]) F9 G (kX6_init l g (hk_EE 150 146) F (g.1 + 150) S31 149 r32 (by decide +kernel) er32) qin_RX5_31 ⟨rfl, rfl, (Nat.le_of_ble_eq_true rfl), (Nat.le_of_ble_eq_true rfl)⟩ hl.1 (Nat.le_of_ble_eq_true rfl) ⟨(Nat.le_of_ble_eq_true rfl), (Nat.le_of_ble_eq_true rfl)⟩ dX5_init_77 (fun H locs G => ?_)
                      refine hk_aast (E1 := (hk_EE 150 147)) (a := 140) (r := 149) (j := 0) (t := 1) (ci := 4) (ln := 6) F9 G (by decide) (by decide +kernel) (by decide +kernel) (by decide) rfl rfl (by decide +kernel) (by decide) (by decide) (by decide) (hk_setE (by decide +kernel) (by decide +kernel)) dX5_init_80 (fun H locs G => ?_)
                      refine lv_iinc (v := 1) (lv' := [(1, .int 1), (0, .ref (g.1 + 136))]) hx hb dX5_init_81 hl (k := 0) rfl (by decide) (by decide) rfl (fun ls hl => ?_)
                      refine lv_goto (tgt := 62) hx hb dX5_init_84 (by decide) ?_
                      refine lv_iload_n hx hb dX5_init_62 rfl (lv_at hl 0 rfl) ?_
                      refine lv_bipush (v := 6) hx hb dX5_init_63 (by decide) ?_
                      refine lv_icmp_ge (tgt := 87) hx hb dX5_init_65 (by decide) (fun c33 => ?_) (fun c33 => ?_)
                      · exact absurd c33 (by decide)
                      · refine lv_aload_n hx hb dX5_init_68 rfl (lv_at hl 1 rfl) ?_
                        refine hk_getR (r := 140) F9 G (by decide +kernel) hkc_3 (k := 3) (by decide) qw_158 rfl (by decide +kernel) dX5_init_69 ?_
                        refine lv_iload_n hx hb dX5_init_72 rfl (lv_at hl 0 rfl) ?_
                        refine hk_new (E1 := (hk_EE 151 147)) (a := 150) (b := 151) F9 G rfl ⟨rfl, rfl⟩ hkc_4 hkd_4 (hk_growE (kd := 5) (ln := 0) (by decide +kernel) (by decide +kernel) (by decide +kernel)) qw_65 qw_116 qw_5 ⟨(Nat.le_of_ble_eq_true rfl), (Nat.le_of_ble_eq_true rfl)⟩ dX5_init_73 (fun H G => ?_)
                        obtain ⟨S34, eS34, hsp⟩ := hk_l hsp
                        rw [eS34] at G
                        refine lv_dup hx hb dX5_init_76 rfl ?_
                        obtain ⟨r35, er35, hsp⟩ := hk_b hsp
                        refine hk_callIN (rest := [.ref (g.1 + 150), .int 1, .ref (g.1 + 140)]) F9 G (kX6_init l g (hk_EE 151 147) F (g.1 + 151) S34 150 r35 (by decide +kernel) er35) qin_RX5_31 ⟨rfl, rfl, (Nat.le_of_ble_eq_true rfl), (Nat.le_of_ble_eq_true rfl)⟩ hl.1 (Nat.le_of_ble_eq_true rfl) ⟨(Nat.le_of_ble_eq_true rfl), (Nat.le_of_ble_eq_true rfl)⟩ dX5_init_77 (fun H locs G => ?_)
                        refine hk_aast (E1 := (hk_EE 151 148)) (a := 140) (r := 150) (j := 1) (t := 1) (ci := 4) (ln := 6) F9 G (by decide) (by decide +kernel) (by decide +kernel) (by decide) rfl rfl (by decide +kernel) (by decide) (by decide) (by decide) (hk_setE (by decide +kernel) (by decide +kernel)) dX5_init_80 (fun H locs G => ?_)
                        refine lv_iinc (v := 2) (lv' := [(1, .int 2), (0, .ref (g.1 + 136))]) hx hb dX5_init_81 hl (k := 0) rfl (by decide) (by decide) rfl (fun ls hl => ?_)
                        refine lv_goto (tgt := 62) hx hb dX5_init_84 (by decide) ?_
                        refine lv_iload_n hx hb dX5_init_62 rfl (lv_at hl 0 rfl) ?_
                        refine lv_bipush (v := 6) hx hb dX5_init_63 (by decide) ?_
                        refine lv_icmp_ge (tgt := 87) hx hb dX5_init_65 (by decide) (fun c36 => ?_) (fun c36 => ?_)
                        · exact absurd c36 (by decide)
                        · refine lv_aload_n hx hb dX5_init_68 rfl (lv_at hl 1 rfl) ?_
                          refine hk_getR (r := 140) F9 G (by decide +kernel) hkc_3 (k := 3) (by decide) qw_158 rfl (by decide +kernel) dX5_init_69 ?_
                          refine lv_iload_n hx hb dX5_init_72 rfl (lv_at hl 0 rfl) ?_
                          refine hk_new (E1 := (hk_EE 152 148)) (a := 151) (b := 152) F9 G rfl ⟨rfl, rfl⟩ hkc_4 hkd_4 (hk_growE (kd := 5) (ln := 0) (by decide +kernel) (by decide +kernel) (by decide +kernel)) qw_65 qw_116 qw_5 ⟨(Nat.le_of_ble_eq_true rfl), (Nat.le_of_ble_eq_true rfl)⟩ dX5_init_73 (fun H G => ?_)
                          obtain ⟨S37, eS37, hsp⟩ := hk_l hsp
                          rw [eS37] at G
                          refine lv_dup hx hb dX5_init_76 rfl ?_
                          obtain ⟨r38, er38, hsp⟩ := hk_b hsp
                          refine hk_callIN (rest := [.ref (g.1 + 151), .int 2, .ref (g.1 + 140)]) F9 G (kX6_init l g (hk_EE 152 148) F (g.1 + 152) S37 151 r38 (by decide +kernel) er38) qin_RX5_31 ⟨rfl, rfl, (Nat.le_of_ble_eq_true rfl), (Nat.le_of_ble_eq_true rfl)⟩ hl.1 (Nat.le_of_ble_eq_true rfl) ⟨(Nat.le_of_ble_eq_true rfl), (Nat.le_of_ble_eq_true rfl)⟩ dX5_init_77 (fun H locs G => ?_)
                          refine hk_aast (E1 := (hk_EE 152 149)) (a := 140) (r := 151) (j := 2) (t := 1) (ci := 4) (ln := 6) F9 G (by decide) (by decide +kernel) (by decide +kernel) (by decide) rfl rfl (by decide +kernel) (by decide) (by decide) (by decide) (hk_setE (by decide +kernel) (by decide +kernel)) dX5_init_80 (fun H locs G => ?_)
                          refine lv_iinc (v := 3) (lv' := [(1, .int 3), (0, .ref (g.1 + 136))]) hx hb dX5_init_81 hl (k := 0) rfl (by decide) (by decide) rfl (fun ls hl => ?_)
                          refine lv_goto (tgt := 62) hx hb dX5_init_84 (by decide) ?_
                          refine lv_iload_n hx hb dX5_init_62 rfl (lv_at hl 0 rfl) ?_
                          refine lv_bipush (v := 6) hx hb dX5_init_63 (by decide) ?_
                          refine lv_icmp_ge (tgt := 87) hx hb dX5_init_65 (by decide) (fun c39 => ?_) (fun c39 => ?_)
                          · exact absurd c39 (by decide)
                          · refine lv_aload_n hx hb dX5_init_68 rfl (lv_at hl 1 rfl) ?_
                            refine hk_getR (r := 140) F9 G (by decide +kernel) hkc_3 (k := 3) (by decide) qw_158 rfl (by decide +kernel) dX5_init_69 ?_
                            refine lv_iload_n hx hb dX5_init_72 rfl (lv_at hl 0 rfl) ?_
                            refine hk_new (E1 := (hk_EE 153 149)) (a := 152) (b := 153) F9 G rfl ⟨rfl, rfl⟩ hkc_4 hkd_4 (hk_growE (kd := 5) (ln := 0) (by decide +kernel) (by decide +kernel) (by decide +kernel)) qw_65 qw_116 qw_5 ⟨(Nat.le_of_ble_eq_true rfl), (Nat.le_of_ble_eq_true rfl)⟩ dX5_init_73 (fun H G => ?_)
                            obtain ⟨S40, eS40, hsp⟩ := hk_l hsp
                            rw [eS40] at G
                            refine lv_dup hx hb dX5_init_76 rfl ?_
                            obtain ⟨r41, er41, hsp⟩ := hk_b hsp
                            refine hk_callIN (rest := [.ref (g.1 + 152), .int 3, .ref (g.1 + 140)]) F9 G (kX6_init l g (hk_EE 153 149) F (g.1 + 153) S40 152 r41 (by decide +kernel) er41) qin_RX5_31 ⟨rfl, rfl, (Nat.le_of_ble_eq_true rfl), (Nat.le_of_ble_eq_true rfl)⟩ hl.1 (Nat.le_of_ble_eq_true rfl) ⟨(Nat.le_of_ble_eq_true rfl), (Nat.le_of_ble_eq_true rfl)⟩ dX5_init_77 (fun H locs G => ?_)
                            refine hk_aast (E1 := (hk_EE 153 150)) (a := 140) (r := 152) (j := 3) (t := 1) (ci := 4) (ln := 6) F9 G (by decide) (by decide +kernel) (by decide +kernel) (by decide) rfl rfl (by decide +kernel) (by decide) (by decide) (by decide) (hk_setE (by decide +kernel) (by decide +kernel)) dX5_init_80 (fun H locs G => ?_)
                            refine lv_iinc (v := 4) (lv' := [(1, .int 4), (0, .ref (g.1 + 136))]) hx hb dX5_init_81 hl (k := 0) rfl (by decide) (by decide) rfl (fun ls hl => ?_)
                            refine lv_goto (tgt := 62) hx hb dX5_init_84 (by decide) ?_
                            refine lv_iload_n hx hb dX5_init_62 rfl (lv_at hl 0 rfl) ?_
                            refine lv_bipush (v := 6) hx hb dX5_init_63 (by decide) ?_
                            refine lv_icmp_ge (tgt := 87) hx hb dX5_init_65 (by decide) (fun c42 => ?_) (fun c42 => ?_)
                            · exact absurd c42 (by decide)
                            · refine lv_aload_n hx hb dX5_init_68 rfl (lv_at hl 1 rfl) ?_
                              refine hk_getR (r := 140) F9 G (by decide +kernel) hkc_3 (k := 3) (by decide) qw_158 rfl (by decide +kernel) dX5_init_69 ?_
                              refine lv_iload_n hx hb dX5_init_72 rfl (lv_at hl 0 rfl) ?_
                              refine hk_new (E1 := (hk_EE 154 150)) (a := 153) (b := 154) F9 G rfl ⟨rfl, rfl⟩ hkc_4 hkd_4 (hk_growE (kd := 5) (ln := 0) (by decide +kernel) (by decide +kernel) (by decide +kernel)) qw_65 qw_116 qw_5 ⟨(Nat.le_of_ble_eq_true rfl), (Nat.le_of_ble_eq_true rfl)⟩ dX5_init_73 (fun H G => ?_)
                              obtain ⟨S43, eS43, hsp⟩ := hk_l hsp
                              rw [eS43] at G
                              refine lv_dup hx hb dX5_init_76 rfl ?_
                              obtain ⟨r44, er44, hsp⟩ := hk_b hsp
                              refine hk_callIN (rest := [.ref (g.1 + 153), .int 4, .ref (g.1 + 140)]) F9 G (kX6_init l g (hk_EE 154 150) F (g.1 + 154) S43 153 r44 (by decide +kernel) er44) qin_RX5_31 ⟨rfl, rfl, (Nat.le_of_ble_eq_true rfl), (Nat.le_of_ble_eq_true rfl)⟩ hl.1 (Nat.le_of_ble_eq_true rfl) ⟨(Nat.le_of_ble_eq_true rfl), (Nat.le_of_ble_eq_true rfl)⟩ dX5_init_77 (fun H locs G => ?_)
                              refine hk_aast (E1 := (hk_EE 154 151)) (a := 140) (r := 153) (j := 4) (t := 1) (ci := 4) (ln := 6) F9 G (by decide) (by decide +kernel) (by decide +kernel) (by decide) rfl rfl (by decide +kernel) (by decide) (by decide) (by decide) (hk_setE (by decide +kernel) (by decide +kernel)) dX5_init_80 (fun H locs G => ?_)
                              refine lv_iinc (v := 5) (lv' := [(1, .int 5), (0, .ref (g.1 + 136))]) hx hb dX5_init_81 hl (k := 0) rfl (by decide) (by decide) rfl (fun ls hl => ?_)
                              refine lv_goto (tgt := 62) hx hb dX5_init_84 (by decide) ?_
                              refine lv_iload_n hx hb dX5_init_62 rfl (lv_at hl 0 rfl) ?_
                              refine lv_bipush (v := 6) hx hb dX5_init_63 (by decide) ?_
                              refine lv_icmp_ge (tgt := 87) hx hb dX5_init_65 (by decide) (fun c45 => ?_) (fun c45 => ?_)
                              · exact absurd c45 (by decide)
                              · refine lv_aload_n hx hb dX5_init_68 rfl (lv_at hl 1 rfl) ?_
                                refine hk_getR (r := 140) F9 G (by decide +kernel) hkc_3 (k := 3) (by decide) qw_158 rfl (by decide +kernel) dX5_init_69 ?_
                                refine lv_iload_n hx hb dX5_init_72 rfl (lv_at hl 0 rfl) ?_
                                refine hk_new (E1 := (hk_EE 155 151)) (a := 154) (b := 155) F9 G rfl ⟨rfl, rfl⟩ hkc_4 hkd_4 (hk_growE (kd := 5) (ln := 0) (by decide +kernel) (by decide +kernel) (by decide +kernel)) qw_65 qw_116 qw_5 ⟨(Nat.le_of_ble_eq_true rfl), (Nat.le_of_ble_eq_true rfl)⟩ dX5_init_73 (fun H G => ?_)
                                obtain ⟨S46, eS46, hsp⟩ := hk_l hsp
                                rw [eS46] at G
                                refine lv_dup hx hb dX5_init_76 rfl ?_
                                obtain ⟨r47, er47, hsp⟩ := hk_b hsp
                                refine hk_callIN (rest := [.ref (g.1 + 154), .int 5, .ref (g.1 + 140)]) F9 G (kX6_init l g (hk_EE 155 151) F (g.1 + 155) S46 154 r47 (by decide +kernel) er47) qin_RX5_31 ⟨rfl, rfl, (Nat.le_of_ble_eq_true rfl), (Nat.le_of_ble_eq_true rfl)⟩ hl.1 (Nat.le_of_ble_eq_true rfl) ⟨(Nat.le_of_ble_eq_true rfl), (Nat.le_of_ble_eq_true rfl)⟩ dX5_init_77 (fun H locs G => ?_)
                                refine hk_aast (E1 := (hk_EE 155 152)) (a := 140) (r := 154) (j := 5) (t := 1) (ci := 4) (ln := 6) F9 G (by decide) (by decide +kernel) (by decide +kernel) (by decide) rfl rfl (by decide +kernel) (by decide) (by decide) (by decide) (hk_setE (by decide +kernel) (by decide +kernel)) dX5_init_80 (fun H locs G => ?_)
                                refine lv_iinc (v := 6) (lv' := [(1, .int 6), (0, .ref (g.1 + 136))]) hx hb dX5_init_81 hl (k := 0) rfl (by decide) (by decide) rfl (fun ls hl => ?_)
                                refine lv_goto (tgt := 62) hx hb dX5_init_84 (by decide) ?_
                                refine lv_iload_n hx hb dX5_init_62 rfl (lv_at hl 0 rfl) ?_
                                refine lv_bipush (v := 6) hx hb dX5_init_63 (by decide) ?_
                                refine lv_icmp_ge (tgt := 87) hx hb dX5_init_65 (by decide) (fun c48 => ?_) (fun c48 => ?_)
                                · refine lv_aload_n hx hb dX5_init_87 rfl (lv_at hl 1 rfl) ?_
                                  obtain ⟨r49, er49, hsp⟩ := hk_b hsp
                                  refine hk_callVv (As := []) (rest := []) F9 G (by decide +kernel) hkc_3 rfl (kX5_clear l g (hk_EE 155 152) F (g.1 + 155) r47 136 r49 (by decide +kernel) er49) qv_RX5_32 ⟨rfl, rfl, (Nat.le_of_ble_eq_true rfl), (Nat.le_of_ble_eq_true rfl)⟩ rfl hl.1 rfl (Nat.le_of_ble_eq_true rfl) ⟨(Nat.le_of_ble_eq_true rfl), (Nat.le_of_ble_eq_true rfl)⟩ dX5_init_88 (fun H locs G => ?_)
                                  obtain rfl := hk_s hsp
                                  exact W.vret hx hb hr (fun t ht hW => hk_end G ht hW) G.2.1.2.2 dX5_init_91
                                · exact absurd c48 (by decide)
                  · exact absurd c29 (by decide)
def mX1_init_156 (F : Nat) (S : hk_S) : Option (hk_S) :=
hk_let (va_up S 157 (fun _ => 0)) (fun S1 => some (S1))
set_option maxHeartbeats 4000000 in
set_option maxRecDepth 100000 in
theorem kX1_init_156 (l : Launch) (g : hk_G) (F : Nat) (S : hk_S) (o : hk_S) (hsp : mX1_init_156 F S = some o) : Met l yX1_init (hk_ws yX1_init cX1_init 1 (Option.none : Option Jvm.ClassFile.FieldType)) ({ frames := 1, cells := 1, slots := 3, locals := 12 }) (hk_Pc g (hk_EE 157 153) S (g.1 + 157) [.ref (g.1 + 156)]) (hk_Q g (hk_EE 158 154) o (g.1 + 158) none) 1 3 (hk_A g) := by
  refine Met.ofW (cc := cX1_init) (maxL := 1) (ret := (Option.none : Option Jvm.ClassFile.FieldType)) (by decide) rfl ?_
  intro p e s m args below meth c s₁ B hml hv
  obtain ⟨rfl, G⟩ := hk_begin hv
  have F9 : CallFix p m c cX1_init 1 s [.ref (g.1 + 156)].toArray hk_W RX1 := ⟨B.exec, B.bytes, hml, findClass_of_methodNamed B.named, fun w h => atoms_spec (ws := hk_ws yX1_init cX1_init 1 (Option.none : Option Jvm.ClassFile.FieldType)) B.pre w (hk_in h)⟩
  have hin : meth.name = "<init>" := (name_of_methodNamed B.named B.method).1
  have hx := B.exec
  have hb := B.bytes
  have hr := B.returns
  have hlocks := B.notSynchronized
  have hl := lv_entry ([.ref (g.1 + 156)]) (n := 1) (Nat.le_of_ble_eq_true rfl)
  rw [lg_entry_eq]
  generalize (lg_sl ([.ref (g.1 + 156)]) ++ List.replicate (1 - (lg_sl ([.ref (g.1 + 156)])).length) Slot.unset).toArray = ls at hl ⊢
  have hl : lv_has ls 1 [(0, .ref (g.1 + 156))] := hl
  unfold mX1_init_156 at hsp
  have G : hk_GG g (hk_EE 157 153) S (g.1 + 157) s s.heap [] := G
  refine lv_aload_n hx hb dX1_init_0 rfl (lv_at hl 0 rfl) ?_
  refine hk_obj F9 qw_40 qw_27 qw_28 hl.1 ⟨(Nat.le_of_ble_eq_true rfl), (Nat.le_of_ble_eq_true rfl)⟩ dX1_init_1 ?_
  refine lv_aload_n hx hb dX1_init_4 rfl (lv_at hl 0 rfl) ?_
  refine lv_iconst (v := 3) hx hb dX1_init_5 (by decide) ?_
  refine hk_newA (E1 := (hk_EE 158 153)) (a := 157) (b := 158) (ft := .int) (t := 2) (ln := 3) (kd := 13) F9 G rfl ⟨rfl, rfl⟩ rfl (fun _ h => nomatch h) rfl (fun I _ => hk_cell_i (t := 2) (by decide)) rfl (hk_growE (kd := 13) (ln := 3) (by decide +kernel) (by decide +kernel) (by decide +kernel)) qw_62 (by decide) (by decide) (by decide) ⟨(Nat.le_of_ble_eq_true rfl), (Nat.le_of_ble_eq_true rfl)⟩ dX1_init_6 (fun H G => ?_)
  obtain ⟨S1, eS1, hsp⟩ := hk_l hsp
  rw [eS1] at G
  refine hk_putR (E1 := (hk_EE 158 154)) (a := 156) (r := 157) (k := 4) F9 G (by decide +kernel) hkc_0 (by decide) qw_50 rfl rfl hin rfl (tyX1_ok 4 (by decide)) (fun _ => rfl) (fun _ => rfl) (hk_setE (by decide +kernel) (by decide +kernel)) dX1_init_8 (fun H locs G => ?_)
  obtain rfl := hk_s hsp
  exact W.vret hx hb hr (fun t ht hW => hk_end G ht hW) G.2.1.2.2 dX1_init_11
def mX5_init_155 (F : Nat) (S : hk_S) : Option (hk_S) :=
hk_let (va_up S 156 (hk_i0 0)) (fun S1 => (mX1_init_156 F S1).bind (fun r2 => hk_let (va_up r2 158 (fun _ => 0)) (fun S3 => hk_let (va_up S3 159 (fun _ => 0)) (fun S4 => hk_let (va_up S4 160 (hk_i0 7)) (fun S6 => (mX10_init (hk_EE 161 157) F S6 160).bind (fun r7 => hk_let (va_up r7 161 (hk_i0 7)) (fun S9 => (mX10_init (hk_EE 162 158) F S9 161).bind (fun r10 => hk_let (va_up r10 162 (hk_i0 7)) (fun S12 => (mX10_init (hk_EE 163 159) F S12 162).bind (fun r13 => hk_let (va_up r13 163 (hk_i0 7)) (fun S15 => (mX10_init (hk_EE 164 160) F S15 163).bind (fun r16 => hk_let (va_up r16 164 (hk_i0 7)) (fun S18 => (mX10_init (hk_EE 165 161) F S18 164).bind (fun r19 => hk_let (va_up r19 165 (hk_i0 7)) (fun S21 => (mX10_init (hk_EE 166 162) F S21 165).bind (fun r22 => hk_let (va_up r22 166 (hk_i0 7)) (fun S24 => (mX10_init (hk_EE 167 163) F S24 166).bind (fun r25 => hk_let (va_up r25 167 (hk_i0 7)) (fun S27 => (mX10_init (hk_EE 168 164) F S27 167).bind (fun r28 => hk_let (va_up r28 168 (hk_i0 4)) (fun S31 => (mX6_init (hk_EE 169 165) F S31 168).bind (fun r32 => hk_let (va_up r32 169 (hk_i0 4)) (fun S34 => (mX6_init (hk_EE 170 166) F S34 169).bind (fun r35 => hk_let (va_up r35 170 (hk_i0 4)) (fun S37 => (mX6_init (hk_EE 171 167) F S37 170).bind (fun r38 => hk_let (va_up r38 171 (hk_i0 4)) (fun S40 => (mX6_init (hk_EE 172 168) F S40 171).bind (fun r41 => hk_let (va_up r41 172 (hk_i0 4)) (fun S43 => (mX6_init (hk_EE 173 169) F S43 172).bind (fun r44 => hk_let (va_up r44 173 (hk_i0 4)) (fun S46 => (mX6_init (hk_EE 174 170) F S46 173).bind (fun r47 => (mX5_clear (hk_EE 174 171) F r47 155).bind (fun r49 => some (r49))))))))))))))))))))))))))))))))))
set_option maxHeartbeats 4000000 in
set_option maxRecDepth 100000 in
theorem kX5_init_155 (l : Launch) (g : hk_G) (F : Nat) (S : hk_S) (o : hk_S) (hsp : mX5_init_155 F S = some o) : Met l yX5_init (hk_ws yX5_init cX5_init 2 (Option.none : Option Jvm.ClassFile.FieldType)) ({ frames := 3, cells := 18, slots := 120, locals := 62 }) (hk_Pc g (hk_EE 156 153) S (g.1 + 156) [.ref (g.1 + 155)]) (hk_Q g (hk_EE 174 171) o (g.1 + 174) none) 18 120 (hk_A g) := by
  refine Met.ofW (cc := cX5_init) (maxL := 2) (ret := (Option.none : Option Jvm.ClassFile.FieldType)) (by decide) rfl ?_
  intro p e s m args below meth c s₁ B hml hv
  obtain ⟨rfl, G⟩ := hk_begin hv
  have F9 : CallFix p m c cX5_init 2 s [.ref (g.1 + 155)].toArray hk_W RX5 := ⟨B.exec, B.bytes, hml, findClass_of_methodNamed B.named, fun w h => atoms_spec (ws := hk_ws yX5_init cX5_init 2 (Option.none : Option Jvm.ClassFile.FieldType)) B.pre w (hk_in h)⟩
  have hin : meth.name = "<init>" := (name_of_methodNamed B.named B.method).1
  have hx := B.exec
  have hb := B.bytes
  have hr := B.returns
  have hlocks := B.notSynchronized
  have hl := lv_entry ([.ref (g.1 + 155)]) (n := 2) (Nat.le_of_ble_eq_true rfl)
  rw [lg_entry_eq]
  generalize (lg_sl ([.ref (g.1 + 155)]) ++ List.replicate (2 - (lg_sl ([.ref (g.1 + 155)])).length) Slot.unset).toArray = ls at hl ⊢
  have hl : lv_has ls 2 [(0, .ref (g.1 + 155))] := hl
  unfold mX5_init_155 at hsp
  have G : hk_GG g (hk_EE 156 153) S (g.1 + 156) s s.heap [] := G
  refine lv_aload_n hx hb dX5_init_0 rfl (lv_at hl 0 rfl) ?_
  refine hk_obj F9 qw_34 qw_27 qw_28 hl.1 ⟨(Nat.le_of_ble_eq_true rfl), (Nat.le_of_ble_eq_true rfl)⟩ dX5_init_1 ?_
  refine lv_aload_n hx hb dX5_init_4 rfl (lv_at hl 0 rfl) ?_
  refine hk_new (E1 := (hk_EE 157 153)) (a := 156) (b := 157) F9 G rfl ⟨rfl, rfl⟩ hkc_0 hkd_0 (hk_growE (kd := 1) (ln := 0) (by decide +kernel) (by decide +kernel) (by decide +kernel)) qw_35 qw_36 qw_3 ⟨(Nat.le_of_ble_eq_true rfl), (Nat.le_of_ble_eq_true rfl)⟩ dX5_init_5 (fun H G => ?_)
  obtain ⟨S1, eS1, hsp⟩ := hk_l hsp
  rw [eS1] at G
  refine lv_dup hx hb dX5_init_8 rfl ?_
  obtain ⟨r2, er2, hsp⟩ := hk_b hsp
  refine hk_callIN (rest := [.ref (g.1 + 156), .ref (g.1 + 155)]) F9 G (kX1_init_156 l g F S1 r2 er2) qin_RX5_11 ⟨rfl, rfl, (Nat.le_of_ble_eq_true rfl), (Nat.le_of_ble_eq_true rfl)⟩ hl.1 (Nat.le_of_ble_eq_true rfl) ⟨(Nat.le_of_ble_eq_true rfl), (Nat.le_of_ble_eq_true rfl)⟩ dX5_init_9 (fun H locs G => ?_)
  refine hk_putR (E1 := (hk_EE 158 155)) (a := 155) (r := 156) (k := 0) F9 G (by decide +kernel) hkc_3 (by decide) qw_153 rfl rfl hin rfl (tyX5_ok 0 (by decide)) (fun _ => rfl) (fun _ => rfl) (hk_setE (by decide +kernel) (by decide +kernel)) dX5_init_12 (fun H locs G => ?_)
  refine lv_aload_n hx hb dX5_init_15 rfl (lv_at hl 0 rfl) ?_
  refine lv_bipush (v := 8) hx hb dX5_init_16 (by decide) ?_
  refine hk_newQ (E1 := (hk_EE 159 155)) (a := 158) (b := 159) (t := 2) (ln := 8) F9 G rfl ⟨rfl, rfl⟩ (by decide) rfl G.2.2.1.2.2.2.2 (hk_growE (kd := 16) (ln := 8) (by decide +kernel) (by decide +kernel) (by decide +kernel)) qw_63 (by decide) (by decide) (by decide) ⟨(Nat.le_of_ble_eq_true rfl), (Nat.le_of_ble_eq_true rfl)⟩ dX5_init_18 (fun H G => ?_)
  obtain ⟨S3, eS3, hsp⟩ := hk_l hsp
  rw [eS3] at G
  refine hk_putR (E1 := (hk_EE 159 156)) (a := 155) (r := 158) (k := 1) F9 G (by decide +kernel) hkc_3 (by decide) qw_155 rfl rfl hin rfl (tyX5_ok 1 (by decide)) (fun _ => rfl) (fun _ => rfl) (hk_setE (by decide +kernel) (by decide +kernel)) dX5_init_21 (fun H locs G => ?_)
  refine lv_aload_n hx hb dX5_init_24 rfl (lv_at hl 0 rfl) ?_
  refine lv_bipush (v := 6) hx hb dX5_init_25 (by decide) ?_
  refine hk_newQ (E1 := (hk_EE 160 156)) (a := 159) (b := 160) (t := 1) (ln := 6) F9 G rfl ⟨rfl, rfl⟩ (by decide) rfl G.2.2.1.2.2.2.1 (hk_growE (kd := 15) (ln := 6) (by decide +kernel) (by decide +kernel) (by decide +kernel)) qw_65 (by decide) (by decide) (by decide) ⟨(Nat.le_of_ble_eq_true rfl), (Nat.le_of_ble_eq_true rfl)⟩ dX5_init_27 (fun H G => ?_)
  obtain ⟨S4, eS4, hsp⟩ := hk_l hsp
  rw [eS4] at G
  refine hk_putR (E1 := (hk_EE 160 157)) (a := 155) (r := 159) (k := 3) F9 G (by decide +kernel) hkc_3 (by decide) qw_158 rfl rfl hin rfl (tyX5_ok 3 (by decide)) (fun _ => rfl) (fun _ => rfl) (hk_setE (by decide +kernel) (by decide +kernel)) dX5_init_30 (fun H locs G => ?_)
  refine lv_iconst (v := 0) hx hb dX5_init_33 (by decide) ?_
  refine lv_istore_n (lv' := [(1, .int 0), (0, .ref (g.1 + 155))]) hx hb dX5_init_34 rfl hl (by decide) rfl (fun ls hl => ?_)
  refine lv_iload_n hx hb dX5_init_35 rfl (lv_at hl 0 rfl) ?_
  refine lv_bipush (v := 8) hx hb dX5_init_36 (by decide) ?_
  refine lv_icmp_ge (tgt := 60) hx hb dX5_init_38 (by decide) (fun c5 => ?_) (fun c5 => ?_)
  · exact absurd c5 (by decide)
  · refine lv_aload_n hx hb dX5_init_41 rfl (lv_at hl 1 rfl) ?_
    refine hk_getR (r := 158) F9 G (by decide +kernel) hkc_3 (k := 1) (by decide) qw_155 rfl (by decide +kernel) dX5_init_42 ?_
    refine lv_iload_n hx hb dX5_init_45 rfl (lv_at hl 0 rfl) ?_
    refine hk_new (E1 := (hk_EE 161 157)) (a := 160) (b := 161) F9 G rfl ⟨rfl, rfl⟩ hkc_7 hkd_7 (hk_growE (kd := 8) (ln := 0) (by decide +kernel) (by decide +kernel) (by decide +kernel)) qw_63 qw_67 qw_4 ⟨(Nat.le_of_ble_eq_true rfl), (Nat.le_of_ble_eq_true rfl)⟩ dX5_init_46 (fun H G => ?_)
    obtain ⟨S6, eS6, hsp⟩ := hk_l hsp
    rw [eS6] at G
    refine lv_dup hx hb dX5_init_49 rfl ?_
    obtain ⟨r7, er7, hsp⟩ := hk_b hsp
    refine hk_callIN (rest := [.ref (g.1 + 160), .int 0, .ref (g.1 + 158)]) F9 G (kX10_init l g (hk_EE 161 157) F (g.1 + 161) S6 160 r7 (by decide +kernel) er7) qin_RX5_30 ⟨rfl, rfl, (Nat.le_of_ble_eq_true rfl), (Nat.le_of_ble_eq_true rfl)⟩ hl.1 (Nat.le_of_ble_eq_true rfl) ⟨(Nat.le_of_ble_eq_true rfl), (Nat.le_of_ble_eq_true rfl)⟩ dX5_init_50 (fun H locs G => ?_)
    refine hk_aast (E1 := (hk_EE 161 158)) (a := 158) (r := 160) (j := 0) (t := 2) (ci := 7) (ln := 8) F9 G (by decide) (by decide +kernel) (by decide +kernel) (by decide) rfl rfl (by decide +kernel) (by decide) (by decide) (by decide) (hk_setE (by decide +kernel) (by decide +kernel)) dX5_init_53 (fun H locs G => ?_)
    refine lv_iinc (v := 1) (lv' := [(1, .int 1), (0, .ref (g.1 + 155))]) hx hb dX5_init_54 hl (k := 0) rfl (by decide) (by decide) rfl (fun ls hl => ?_)
    refine lv_goto (tgt := 35) hx hb dX5_init_57 (by decide) ?_
    refine lv_iload_n hx hb dX5_init_35 rfl (lv_at hl 0 rfl) ?_
    refine lv_bipush (v := 8) hx hb dX5_init_36 (by decide) ?_
    refine lv_icmp_ge (tgt := 60) hx hb dX5_init_38 (by decide) (fun c8 => ?_) (fun c8 => ?_)
    · exact absurd c8 (by decide)
    · refine lv_aload_n hx hb dX5_init_41 rfl (lv_at hl 1 rfl) ?_
      refine hk_getR (r := 158) F9 G (by decide +kernel) hkc_3 (k := 1) (by decide) qw_155 rfl (by decide +kernel) dX5_init_42 ?_
      refine lv_iload_n hx hb dX5_init_45 rfl (lv_at hl 0 rfl) ?_
      refine hk_new (E1 := (hk_EE 162 158)) (a := 161) (b := 162) F9 G rfl ⟨rfl, rfl⟩ hkc_7 hkd_7 (hk_growE (kd := 8) (ln := 0) (by decide +kernel) (by decide +kernel) (by decide +kernel)) qw_63 qw_67 qw_4 ⟨(Nat.le_of_ble_eq_true rfl), (Nat.le_of_ble_eq_true rfl)⟩ dX5_init_46 (fun H G => ?_)
      obtain ⟨S9, eS9, hsp⟩ := hk_l hsp
      rw [eS9] at G
      refine lv_dup hx hb dX5_init_49 rfl ?_
      obtain ⟨r10, er10, hsp⟩ := hk_b hsp
      refine hk_callIN (rest := [.ref (g.1 + 161), .int 1, .ref (g.1 + 158)]) F9 G (kX10_init l g (hk_EE 162 158) F (g.1 + 162) S9 161 r10 (by decide +kernel) er10) qin_RX5_30 ⟨rfl, rfl, (Nat.le_of_ble_eq_true rfl), (Nat.le_of_ble_eq_true rfl)⟩ hl.1 (Nat.le_of_ble_eq_true rfl) ⟨(Nat.le_of_ble_eq_true rfl), (Nat.le_of_ble_eq_true rfl)⟩ dX5_init_50 (fun H locs G => ?_)
      refine hk_aast (E1 := (hk_EE 162 159)) (a := 158) (r := 161) (j := 1) (t := 2) (ci := 7) (ln := 8) F9 G (by decide) (by decide +kernel) (by decide +kernel) (by decide) rfl rfl (by decide +kernel) (by decide) (by decide) (by decide) (hk_setE (by decide +kernel) (by decide +kernel)) dX5_init_53 (fun H locs G => ?_)
      refine lv_iinc (v := 2) (lv' := [(1, .int 2), (0, .ref (g.1 + 155))]) hx hb dX5_init_54 hl (k := 0) rfl (by decide) (by decide) rfl (fun ls hl => ?_)
      refine lv_goto (tgt := 35) hx hb dX5_init_57 (by decide) ?_
      refine lv_iload_n hx hb dX5_init_35 rfl (lv_at hl 0 rfl) ?_
      refine lv_bipush (v := 8) hx hb dX5_init_36 (by decide) ?_
      refine lv_icmp_ge (tgt := 60) hx hb dX5_init_38 (by decide) (fun c11 => ?_) (fun c11 => ?_)
      · exact absurd c11 (by decide)
      · refine lv_aload_n hx hb dX5_init_41 rfl (lv_at hl 1 rfl) ?_
        refine hk_getR (r := 158) F9 G (by decide +kernel) hkc_3 (k := 1) (by decide) qw_155 rfl (by decide +kernel) dX5_init_42 ?_
        refine lv_iload_n hx hb dX5_init_45 rfl (lv_at hl 0 rfl) ?_
        refine hk_new (E1 := (hk_EE 163 159)) (a := 162) (b := 163) F9 G rfl ⟨rfl, rfl⟩ hkc_7 hkd_7 (hk_growE (kd := 8) (ln := 0) (by decide +kernel) (by decide +kernel) (by decide +kernel)) qw_63 qw_67 qw_4 ⟨(Nat.le_of_ble_eq_true rfl), (Nat.le_of_ble_eq_true rfl)⟩ dX5_init_46 (fun H G => ?_)
        obtain ⟨S12, eS12, hsp⟩ := hk_l hsp
        rw [eS12] at G
        refine lv_dup hx hb dX5_init_49 rfl ?_
        obtain ⟨r13, er13, hsp⟩ := hk_b hsp
        refine hk_callIN (rest := [.ref (g.1 + 162), .int 2, .ref (g.1 + 158)]) F9 G (kX10_init l g (hk_EE 163 159) F (g.1 + 163) S12 162 r13 (by decide +kernel) er13) qin_RX5_30 ⟨rfl, rfl, (Nat.le_of_ble_eq_true rfl), (Nat.le_of_ble_eq_true rfl)⟩ hl.1 (Nat.le_of_ble_eq_true rfl) ⟨(Nat.le_of_ble_eq_true rfl), (Nat.le_of_ble_eq_true rfl)⟩ dX5_init_50 (fun H locs G => ?_)
        refine hk_aast (E1 := (hk_EE 163 160)) (a := 158) (r := 162) (j := 2) (t := 2) (ci := 7) (ln := 8) F9 G (by decide) (by decide +kernel) (by decide +kernel) (by decide) rfl rfl (by decide +kernel) (by decide) (by decide) (by decide) (hk_setE (by decide +kernel) (by decide +kernel)) dX5_init_53 (fun H locs G => ?_)
        refine lv_iinc (v := 3) (lv' := [(1, .int 3), (0, .ref (g.1 + 155))]) hx hb dX5_init_54 hl (k := 0) rfl (by decide) (by decide) rfl (fun ls hl => ?_)
        refine lv_goto (tgt := 35) hx hb dX5_init_57 (by decide) ?_
        refine lv_iload_n hx hb dX5_init_35 rfl (lv_at hl 0 rfl) ?_
        refine lv_bipush (v := 8) hx hb dX5_init_36 (by decide) ?_
        refine lv_icmp_ge (tgt := 60) hx hb dX5_init_38 (by decide) (fun c14 => ?_) (fun c14 => ?_)
        · exact absurd c14 (by decide)
        · refine lv_aload_n hx hb dX5_init_41 rfl (lv_at hl 1 rfl) ?_
          refine hk_getR (r := 158) F9 G (by decide +kernel) hkc_3 (k := 1) (by decide) qw_155 rfl (by decide +kernel) dX5_init_42 ?_
          refine lv_iload_n hx hb dX5_init_45 rfl (lv_at hl 0 rfl) ?_
          refine hk_new (E1 := (hk_EE 164 160)) (a := 163) (b := 164) F9 G rfl ⟨rfl, rfl⟩ hkc_7 hkd_7 (hk_growE (kd := 8) (ln := 0) (by decide +kernel) (by decide +kernel) (by decide +kernel)) qw_63 qw_67 qw_4 ⟨(Nat.le_of_ble_eq_true rfl), (Nat.le_of_ble_eq_true rfl)⟩ dX5_init_46 (fun H G => ?_)
          obtain ⟨S15, eS15, hsp⟩ := hk_l hsp
          rw [eS15] at G
          refine lv_dup hx hb dX5_init_49 rfl ?_
          obtain ⟨r16, er16, hsp⟩ := hk_b hsp
          refine hk_callIN (rest := [.ref (g.1 + 163), .int 3, .ref (g.1 + 158)]) F9 G (kX10_init l g (hk_EE 164 160) F (g.1 + 164) S15 163 r16 (by decide +kernel) er16) qin_RX5_30 ⟨rfl, rfl, (Nat.le_of_ble_eq_true rfl), (Nat.le_of_ble_eq_true rfl)⟩ hl.1 (Nat.le_of_ble_eq_true rfl) ⟨(Nat.le_of_ble_eq_true rfl), (Nat.le_of_ble_eq_true rfl)⟩ dX5_init_50 (fun H locs G => ?_)
          refine hk_aast (E1 := (hk_EE 164 161)) (a := 158) (r := 163) (j := 3) (t := 2) (ci := 7) (ln := 8) F9 G (by decide) (by decide +kernel) (by decide +kernel) (by decide) rfl rfl (by decide +kernel) (by decide) (by decide) (by decide) (hk_setE (by decide +kernel) (by decide +kernel)) dX5_init_53 (fun H locs G => ?_)
          refine lv_iinc (v := 4) (lv' := [(1, .int 4), (0, .ref (g.1 + 155))]) hx hb dX5_init_54 hl (k := 0) rfl (by decide) (by decide) rfl (fun ls hl => ?_)
          refine lv_goto (tgt := 35) hx hb dX5_init_57 (by decide) ?_
          refine lv_iload_n hx hb dX5_init_35 rfl (lv_at hl 0 rfl) ?_
          refine lv_bipush (v := 8) hx hb dX5_init_36 (by decide) ?_
          refine lv_icmp_ge (tgt := 60) hx hb dX5_init_38 (by decide) (fun c17 => ?_) (fun c17 => ?_)
          · exact absurd c17 (by decide)
          · refine lv_aload_n hx hb dX5_init_41 rfl (lv_at hl 1 rfl) ?_
            refine hk_getR (r := 158) F9 G (by decide +kernel) hkc_3 (k := 1) (by decide) qw_155 rfl (by decide +kernel) dX5_init_42 ?_
            refine lv_iload_n hx hb dX5_init_45 rfl (lv_at hl 0 rfl) ?_
            refine hk_new (E1 := (hk_EE 165 161)) (a := 164) (b := 165) F9 G rfl ⟨rfl, rfl⟩ hkc_7 hkd_7 (hk_growE (kd := 8) (ln := 0) (by decide +kernel) (by decide +kernel) (by decide +kernel)) qw_63 qw_67 qw_4 ⟨(Nat.le_of_ble_eq_true rfl), (Nat.le_of_ble_eq_true rfl)⟩ dX5_init_46 (fun H G => ?_)
            obtain ⟨S18, eS18, hsp⟩ := hk_l hsp
            rw [eS18] at G
            refine lv_dup hx hb dX5_init_49 rfl ?_
            obtain ⟨r19, er19, hsp⟩ := hk_b hsp
            refine hk_callIN (rest := [.ref (g.1 + 164), .int 4, .ref (g.1 + 158)]) F9 G (kX10_init l g (hk_EE 165 161) F (g.1 + 165) S18 164 r19 (by decide +kernel) er19) qin_RX5_30 ⟨rfl, rfl, (Nat.le_of_ble_eq_true rfl), (Nat.le_of_ble_eq_true rfl)⟩ hl.1 (Nat.le_of_ble_eq_true rfl) ⟨(Nat.le_of_ble_eq_true rfl), (Nat.le_of_ble_eq_true rfl)⟩ dX5_init_50 (fun H locs G => ?_)
            refine hk_aast (E1 := (hk_EE 165 162)) (a := 158) (r := 164) (j := 4) (t := 2) (ci := 7) (ln := 8) F9 G (by decide) (by decide +kernel) (by decide +kernel) (by decide) rfl rfl (by decide +kernel) (by decide) (by decide) (by decide) (hk_setE (by decide +kernel) (by decide +kernel)) dX5_init_53 (fun H locs G => ?_)
            refine lv_iinc (v := 5) (lv' := [(1, .int 5), (0, .ref (g.1 + 155))]) hx hb dX5_init_54 hl (k := 0) rfl (by decide) (by decide) rfl (fun ls hl => ?_)
            refine lv_goto (tgt := 35) hx hb dX5_init_57 (by decide) ?_
            refine lv_iload_n hx hb dX5_init_35 rfl (lv_at hl 0 rfl) ?_
            refine lv_bipush (v := 8) hx hb dX5_init_36 (by decide) ?_
            refine lv_icmp_ge (tgt := 60) hx hb dX5_init_38 (by decide) (fun c20 => ?_) (fun c20 => ?_)
            · exact absurd c20 (by decide)
            · refine lv_aload_n hx hb dX5_init_41 rfl (lv_at hl 1 rfl) ?_
              refine hk_getR (r := 158) F9 G (by decide +kernel) hkc_3 (k := 1) (by decide) qw_155 rfl (by decide +kernel) dX5_init_42 ?_
              refine lv_iload_n hx hb dX5_init_45 rfl (lv_at hl 0 rfl) ?_
              refine hk_new (E1 := (hk_EE 166 162)) (a := 165) (b := 166) F9 G rfl ⟨rfl, rfl⟩ hkc_7 hkd_7 (hk_growE (kd := 8) (ln := 0) (by decide +kernel) (by decide +kernel) (by decide +kernel)) qw_63 qw_67 qw_4 ⟨(Nat.le_of_ble_eq_true rfl), (Nat.le_of_ble_eq_true rfl)⟩ dX5_init_46 (fun H G => ?_)
              obtain ⟨S21, eS21, hsp⟩ := hk_l hsp
              rw [eS21] at G
              refine lv_dup hx hb dX5_init_49 rfl ?_
              obtain ⟨r22, er22, hsp⟩ := hk_b hsp
              refine hk_callIN (rest := [.ref (g.1 + 165), .int 5, .ref (g.1 + 158)]) F9 G (kX10_init l g (hk_EE 166 162) F (g.1 + 166) S21 165 r22 (by decide +kernel) er22) qin_RX5_30 ⟨rfl, rfl, (Nat.le_of_ble_eq_true rfl), (Nat.le_of_ble_eq_true rfl)⟩ hl.1 (Nat.le_of_ble_eq_true rfl) ⟨(Nat.le_of_ble_eq_true rfl), (Nat.le_of_ble_eq_true rfl)⟩ dX5_init_50 (fun H locs G => ?_)
              refine hk_aast (E1 := (hk_EE 166 163)) (a := 158) (r := 165) (j := 5) (t := 2) (ci := 7) (ln := 8) F9 G (by decide) (by decide +kernel) (by decide +kernel) (by decide) rfl rfl (by decide +kernel) (by decide) (by decide) (by decide) (hk_setE (by decide +kernel) (by decide +kernel)) dX5_init_53 (fun H locs G => ?_)
              refine lv_iinc (v := 6) (lv' := [(1, .int 6), (0, .ref (g.1 + 155))]) hx hb dX5_init_54 hl (k := 0) rfl (by decide) (by decide) rfl (fun ls hl => ?_)
              refine lv_goto (tgt := 35) hx hb dX5_init_57 (by decide) ?_
              refine lv_iload_n hx hb dX5_init_35 rfl (lv_at hl 0 rfl) ?_
              refine lv_bipush (v := 8) hx hb dX5_init_36 (by decide) ?_
              refine lv_icmp_ge (tgt := 60) hx hb dX5_init_38 (by decide) (fun c23 => ?_) (fun c23 => ?_)
              · exact absurd c23 (by decide)
              · refine lv_aload_n hx hb dX5_init_41 rfl (lv_at hl 1 rfl) ?_
                refine hk_getR (r := 158) F9 G (by decide +kernel) hkc_3 (k := 1) (by decide) qw_155 rfl (by decide +kernel) dX5_init_42 ?_
                refine lv_iload_n hx hb dX5_init_45 rfl (lv_at hl 0 rfl) ?_
                refine hk_new (E1 := (hk_EE 167 163)) (a := 166) (b := 167) F9 G rfl ⟨rfl, rfl⟩ hkc_7 hkd_7 (hk_growE (kd := 8) (ln := 0) (by decide +kernel) (by decide +kernel) (by decide +kernel)) qw_63 qw_67 qw_4 ⟨(Nat.le_of_ble_eq_true rfl), (Nat.le_of_ble_eq_true rfl)⟩ dX5_init_46 (fun H G => ?_)
                obtain ⟨S24, eS24, hsp⟩ := hk_l hsp
                rw [eS24] at G
                refine lv_dup hx hb dX5_init_49 rfl ?_
                obtain ⟨r25, er25, hsp⟩ := hk_b hsp
                refine hk_callIN (rest := [.ref (g.1 + 166), .int 6, .ref (g.1 + 158)]) F9 G (kX10_init l g (hk_EE 167 163) F (g.1 + 167) S24 166 r25 (by decide +kernel) er25) qin_RX5_30 ⟨rfl, rfl, (Nat.le_of_ble_eq_true rfl), (Nat.le_of_ble_eq_true rfl)⟩ hl.1 (Nat.le_of_ble_eq_true rfl) ⟨(Nat.le_of_ble_eq_true rfl), (Nat.le_of_ble_eq_true rfl)⟩ dX5_init_50 (fun H locs G => ?_)
                refine hk_aast (E1 := (hk_EE 167 164)) (a := 158) (r := 166) (j := 6) (t := 2) (ci := 7) (ln := 8) F9 G (by decide) (by decide +kernel) (by decide +kernel) (by decide) rfl rfl (by decide +kernel) (by decide) (by decide) (by decide) (hk_setE (by decide +kernel) (by decide +kernel)) dX5_init_53 (fun H locs G => ?_)
                refine lv_iinc (v := 7) (lv' := [(1, .int 7), (0, .ref (g.1 + 155))]) hx hb dX5_init_54 hl (k := 0) rfl (by decide) (by decide) rfl (fun ls hl => ?_)
                refine lv_goto (tgt := 35) hx hb dX5_init_57 (by decide) ?_
                refine lv_iload_n hx hb dX5_init_35 rfl (lv_at hl 0 rfl) ?_
                refine lv_bipush (v := 8) hx hb dX5_init_36 (by decide) ?_
                refine lv_icmp_ge (tgt := 60) hx hb dX5_init_38 (by decide) (fun c26 => ?_) (fun c26 => ?_)
                · exact absurd c26 (by decide)
                · refine lv_aload_n hx hb dX5_init_41 rfl (lv_at hl 1 rfl) ?_
                  refine hk_getR (r := 158) F9 G (by decide +kernel) hkc_3 (k := 1) (by decide) qw_155 rfl (by decide +kernel) dX5_init_42 ?_
                  refine lv_iload_n hx hb dX5_init_45 rfl (lv_at hl 0 rfl) ?_
                  refine hk_new (E1 := (hk_EE 168 164)) (a := 167) (b := 168) F9 G rfl ⟨rfl, rfl⟩ hkc_7 hkd_7 (hk_growE (kd := 8) (ln := 0) (by decide +kernel) (by decide +kernel) (by decide +kernel)) qw_63 qw_67 qw_4 ⟨(Nat.le_of_ble_eq_true rfl), (Nat.le_of_ble_eq_true rfl)⟩ dX5_init_46 (fun H G => ?_)
                  obtain ⟨S27, eS27, hsp⟩ := hk_l hsp
                  rw [eS27] at G
                  refine lv_dup hx hb dX5_init_49 rfl ?_
                  obtain ⟨r28, er28, hsp⟩ := hk_b hsp
                  refine hk_callIN (rest := [.ref (g.1 + 167), .int 7, .ref (g.1 + 158)]) F9 G (kX10_init l g (hk_EE 168 164) F (g.1 + 168) S27 167 r28 (by decide +kernel) er28) qin_RX5_30 ⟨rfl, rfl, (Nat.le_of_ble_eq_true rfl), (Nat.le_of_ble_eq_true rfl)⟩ hl.1 (Nat.le_of_ble_eq_true rfl) ⟨(Nat.le_of_ble_eq_true rfl), (Nat.le_of_ble_eq_true rfl)⟩ dX5_init_50 (fun H locs G => ?_)
                  refine hk_aast (E1 := (hk_EE 168 165)) (a := 158) (r := 167) (j := 7) (t := 2) (ci := 7) (ln := 8) F9 G (by decide) (by decide +kernel) (by decide +kernel) (by decide) rfl rfl (by decide +kernel) (by decide) (by decide) (by decide) (hk_setE (by decide +kernel) (by decide +kernel)) dX5_init_53 (fun H locs G => ?_)
                  refine lv_iinc (v := 8) (lv' := [(1, .int 8), (0, .ref (g.1 + 155))]) hx hb dX5_init_54 hl (k := 0) rfl (by decide) (by decide) rfl (fun ls hl => ?_)
                  refine lv_goto (tgt := 35) hx hb dX5_init_57 (by decide) ?_
                  refine lv_iload_n hx hb dX5_init_35 rfl (lv_at hl 0 rfl) ?_
                  refine lv_bipush (v := 8) hx hb dX5_init_36 (by decide) ?_
                  refine lv_icmp_ge (tgt := 60) hx hb dX5_init_38 (by decide) (fun c29 => ?_) (fun c29 => ?_)
                  · refine lv_iconst (v := 0) hx hb dX5_init_60 (by decide) ?_
                    refine lv_istore_n (lv' := [(1, .int 0), (0, .ref (g.1 + 155))]) hx hb dX5_init_61 rfl hl (by decide) rfl (fun ls hl => ?_)
                    refine lv_iload_n hx hb dX5_init_62 rfl (lv_at hl 0 rfl) ?_
                    refine lv_bipush (v := 6) hx hb dX5_init_63 (by decide) ?_
                    refine lv_icmp_ge (tgt := 87) hx hb dX5_init_65 (by decide) (fun c30 => ?_) (fun c30 => ?_)
                    · exact absurd c30 (by decide)
                    · refine lv_aload_n hx hb dX5_init_68 rfl (lv_at hl 1 rfl) ?_
                      refine hk_getR (r := 159) F9 G (by decide +kernel) hkc_3 (k := 3) (by decide) qw_158 rfl (by decide +kernel) dX5_init_69 ?_
                      refine lv_iload_n hx hb dX5_init_72 rfl (lv_at hl 0 rfl) ?_
                      refine hk_new (E1 := (hk_EE 169 165)) (a := 168) (b := 169) F9 G rfl ⟨rfl, rfl⟩ hkc_4 hkd_4 (hk_growE (kd := 5) (ln := 0) (by decide +kernel) (by decide +kernel) (by decide +kernel)) qw_65 qw_116 qw_5 ⟨(Nat.le_of_ble_eq_true rfl), (Nat.le_of_ble_eq_true rfl)⟩ dX5_init_73 (fun H G => ?_)
                      obtain ⟨S31, eS31, hsp⟩ := hk_l hsp
                      rw [eS31] at G
                      refine lv_dup hx hb dX5_init_76 rfl ?_
                      obtain ⟨r32, er32, hsp⟩ := hk_b hsp
                      refine hk_callIN (rest := [.ref (g.1 + 168), .int 0, .ref (g.1 + 159)]) F9 G (kX6_init l g (hk_EE 169 165) F (g.1 + 169) S31 168 r32 (by decide +kernel) er32) qin_RX5_31 ⟨rfl, rfl, (Nat.le_of_ble_eq_true rfl), (Nat.le_of_ble_eq_true rfl)⟩ hl.1 (Nat.le_of_ble_eq_true rfl) ⟨(Nat.le_of_ble_eq_true rfl), (Nat.le_of_ble_eq_true rfl)⟩ dX5_init_77 (fun H locs G => ?_)
                      refine hk_aast (E1 := (hk_EE 169 166)) (a := 159) (r := 168) (j := 0) (t := 1) (ci := 4) (ln := 6) F9 G (by decide) (by decide +kernel) (by decide +kernel) (by decide) rfl rfl (by decide +kernel) (by decide) (by decide) (by decide) (hk_setE (by decide +kernel) (by decide +kernel)) dX5_init_80 (fun H locs G => ?_)
                      refine lv_iinc (v := 1) (lv' := [(1, .int 1), (0, .ref (g.1 + 155))]) hx hb dX5_init_81 hl (k := 0) rfl (by decide) (by decide) rfl (fun ls hl => ?_)
                      refine lv_goto (tgt := 62) hx hb dX5_init_84 (by decide) ?_
                      refine lv_iload_n hx hb dX5_init_62 rfl (lv_at hl 0 rfl) ?_
                      refine lv_bipush (v := 6) hx hb dX5_init_63 (by decide) ?_
                      refine lv_icmp_ge (tgt := 87) hx hb dX5_init_65 (by decide) (fun c33 => ?_) (fun c33 => ?_)
                      · exact absurd c33 (by decide)
                      · refine lv_aload_n hx hb dX5_init_68 rfl (lv_at hl 1 rfl) ?_
                        refine hk_getR (r := 159) F9 G (by decide +kernel) hkc_3 (k := 3) (by decide) qw_158 rfl (by decide +kernel) dX5_init_69 ?_
                        refine lv_iload_n hx hb dX5_init_72 rfl (lv_at hl 0 rfl) ?_
                        refine hk_new (E1 := (hk_EE 170 166)) (a := 169) (b := 170) F9 G rfl ⟨rfl, rfl⟩ hkc_4 hkd_4 (hk_growE (kd := 5) (ln := 0) (by decide +kernel) (by decide +kernel) (by decide +kernel)) qw_65 qw_116 qw_5 ⟨(Nat.le_of_ble_eq_true rfl), (Nat.le_of_ble_eq_true rfl)⟩ dX5_init_73 (fun H G => ?_)
                        obtain ⟨S34, eS34, hsp⟩ := hk_l hsp
                        rw [eS34] at G
                        refine lv_dup hx hb dX5_init_76 rfl ?_
                        obtain ⟨r35, er35, hsp⟩ := hk_b hsp
                        refine hk_callIN (rest := [.ref (g.1 + 169), .int 1, .ref (g.1 + 159)]) F9 G (kX6_init l g (hk_EE 170 166) F (g.1 + 170) S34 169 r35 (by decide +kernel) er35) qin_RX5_31 ⟨rfl, rfl, (Nat.le_of_ble_eq_true rfl), (Nat.le_of_ble_eq_true rfl)⟩ hl.1 (Nat.le_of_ble_eq_true rfl) ⟨(Nat.le_of_ble_eq_true rfl), (Nat.le_of_ble_eq_true rfl)⟩ dX5_init_77 (fun H locs G => ?_)
                        refine hk_aast (E1 := (hk_EE 170 167)) (a := 159) (r := 169) (j := 1) (t := 1) (ci := 4) (ln := 6) F9 G (by decide) (by decide +kernel) (by decide +kernel) (by decide) rfl rfl (by decide +kernel) (by decide) (by decide) (by decide) (hk_setE (by decide +kernel) (by decide +kernel)) dX5_init_80 (fun H locs G => ?_)
                        refine lv_iinc (v := 2) (lv' := [(1, .int 2), (0, .ref (g.1 + 155))]) hx hb dX5_init_81 hl (k := 0) rfl (by decide) (by decide) rfl (fun ls hl => ?_)
                        refine lv_goto (tgt := 62) hx hb dX5_init_84 (by decide) ?_
                        refine lv_iload_n hx hb dX5_init_62 rfl (lv_at hl 0 rfl) ?_
                        refine lv_bipush (v := 6) hx hb dX5_init_63 (by decide) ?_
                        refine lv_icmp_ge (tgt := 87) hx hb dX5_init_65 (by decide) (fun c36 => ?_) (fun c36 => ?_)
                        · exact absurd c36 (by decide)
                        · refine lv_aload_n hx hb dX5_init_68 rfl (lv_at hl 1 rfl) ?_
                          refine hk_getR (r := 159) F9 G (by decide +kernel) hkc_3 (k := 3) (by decide) qw_158 rfl (by decide +kernel) dX5_init_69 ?_
                          refine lv_iload_n hx hb dX5_init_72 rfl (lv_at hl 0 rfl) ?_
                          refine hk_new (E1 := (hk_EE 171 167)) (a := 170) (b := 171) F9 G rfl ⟨rfl, rfl⟩ hkc_4 hkd_4 (hk_growE (kd := 5) (ln := 0) (by decide +kernel) (by decide +kernel) (by decide +kernel)) qw_65 qw_116 qw_5 ⟨(Nat.le_of_ble_eq_true rfl), (Nat.le_of_ble_eq_true rfl)⟩ dX5_init_73 (fun H G => ?_)
                          obtain ⟨S37, eS37, hsp⟩ := hk_l hsp
                          rw [eS37] at G
                          refine lv_dup hx hb dX5_init_76 rfl ?_
                          obtain ⟨r38, er38, hsp⟩ := hk_b hsp
                          refine hk_callIN (rest := [.ref (g.1 + 170), .int 2, .ref (g.1 + 159)]) F9 G (kX6_init l g (hk_EE 171 167) F (g.1 + 171) S37 170 r38 (by decide +kernel) er38) qin_RX5_31 ⟨rfl, rfl, (Nat.le_of_ble_eq_true rfl), (Nat.le_of_ble_eq_true rfl)⟩ hl.1 (Nat.le_of_ble_eq_true rfl) ⟨(Nat.le_of_ble_eq_true rfl), (Nat.le_of_ble_eq_true rfl)⟩ dX5_init_77 (fun H locs G => ?_)
                          refine hk_aast (E1 := (hk_EE 171 168)) (a := 159) (r := 170) (j := 2) (t := 1) (ci := 4) (ln := 6) F9 G (by decide) (by decide +kernel) (by decide +kernel) (by decide) rfl rfl (by decide +kernel) (by decide) (by decide) (by decide) (hk_setE (by decide +kernel) (by decide +kernel)) dX5_init_80 (fun H locs G => ?_)
                          refine lv_iinc (v := 3) (lv' := [(1, .int 3), (0, .ref (g.1 + 155))]) hx hb dX5_init_81 hl (k := 0) rfl (by decide) (by decide) rfl (fun ls hl => ?_)
                          refine lv_goto (tgt := 62) hx hb dX5_init_84 (by decide) ?_
                          refine lv_iload_n hx hb dX5_init_62 rfl (lv_at hl 0 rfl) ?_
                          refine lv_bipush (v := 6) hx hb dX5_init_63 (by decide) ?_
                          refine lv_icmp_ge (tgt := 87) hx hb dX5_init_65 (by decide) (fun c39 => ?_) (fun c39 => ?_)
                          · exact absurd c39 (by decide)
                          · refine lv_aload_n hx hb dX5_init_68 rfl (lv_at hl 1 rfl) ?_
                            refine hk_getR (r := 159) F9 G (by decide +kernel) hkc_3 (k := 3) (by decide) qw_158 rfl (by decide +kernel) dX5_init_69 ?_
                            refine lv_iload_n hx hb dX5_init_72 rfl (lv_at hl 0 rfl) ?_
                            refine hk_new (E1 := (hk_EE 172 168)) (a := 171) (b := 172) F9 G rfl ⟨rfl, rfl⟩ hkc_4 hkd_4 (hk_growE (kd := 5) (ln := 0) (by decide +kernel) (by decide +kernel) (by decide +kernel)) qw_65 qw_116 qw_5 ⟨(Nat.le_of_ble_eq_true rfl), (Nat.le_of_ble_eq_true rfl)⟩ dX5_init_73 (fun H G => ?_)
                            obtain ⟨S40, eS40, hsp⟩ := hk_l hsp
                            rw [eS40] at G
                            refine lv_dup hx hb dX5_init_76 rfl ?_
                            obtain ⟨r41, er41, hsp⟩ := hk_b hsp
                            refine hk_callIN (rest := [.ref (g.1 + 171), .int 3, .ref (g.1 + 159)]) F9 G (kX6_init l g (hk_EE 172 168) F (g.1 + 172) S40 171 r41 (by decide +kernel) er41) qin_RX5_31 ⟨rfl, rfl, (Nat.le_of_ble_eq_true rfl), (Nat.le_of_ble_eq_true rfl)⟩ hl.1 (Nat.le_of_ble_eq_true rfl) ⟨(Nat.le_of_ble_eq_true rfl), (Nat.le_of_ble_eq_true rfl)⟩ dX5_init_77 (fun H locs G => ?_)
                            refine hk_aast (E1 := (hk_EE 172 169)) (a := 159) (r := 171) (j := 3) (t := 1) (ci := 4) (ln := 6) F9 G (by decide) (by decide +kernel) (by decide +kernel) (by decide) rfl rfl (by decide +kernel) (by decide) (by decide) (by decide) (hk_setE (by decide +kernel) (by decide +kernel)) dX5_init_80 (fun H locs G => ?_)
                            refine lv_iinc (v := 4) (lv' := [(1, .int 4), (0, .ref (g.1 + 155))]) hx hb dX5_init_81 hl (k := 0) rfl (by decide) (by decide) rfl (fun ls hl => ?_)
                            refine lv_goto (tgt := 62) hx hb dX5_init_84 (by decide) ?_
                            refine lv_iload_n hx hb dX5_init_62 rfl (lv_at hl 0 rfl) ?_
                            refine lv_bipush (v := 6) hx hb dX5_init_63 (by decide) ?_
                            refine lv_icmp_ge (tgt := 87) hx hb dX5_init_65 (by decide) (fun c42 => ?_) (fun c42 => ?_)
                            · exact absurd c42 (by decide)
                            · refine lv_aload_n hx hb dX5_init_68 rfl (lv_at hl 1 rfl) ?_
                              refine hk_getR (r := 159) F9 G (by decide +kernel) hkc_3 (k := 3) (by decide) qw_158 rfl (by decide +kernel) dX5_init_69 ?_
                              refine lv_iload_n hx hb dX5_init_72 rfl (lv_at hl 0 rfl) ?_
                              refine hk_new (E1 := (hk_EE 173 169)) (a := 172) (b := 173) F9 G rfl ⟨rfl, rfl⟩ hkc_4 hkd_4 (hk_growE (kd := 5) (ln := 0) (by decide +kernel) (by decide +kernel) (by decide +kernel)) qw_65 qw_116 qw_5 ⟨(Nat.le_of_ble_eq_true rfl), (Nat.le_of_ble_eq_true rfl)⟩ dX5_init_73 (fun H G => ?_)
                              obtain ⟨S43, eS43, hsp⟩ := hk_l hsp
                              rw [eS43] at G
                              refine lv_dup hx hb dX5_init_76 rfl ?_
                              obtain ⟨r44, er44, hsp⟩ := hk_b hsp
                              refine hk_callIN (rest := [.ref (g.1 + 172), .int 4, .ref (g.1 + 159)]) F9 G (kX6_init l g (hk_EE 173 169) F (g.1 + 173) S43 172 r44 (by decide +kernel) er44) qin_RX5_31 ⟨rfl, rfl, (Nat.le_of_ble_eq_true rfl), (Nat.le_of_ble_eq_true rfl)⟩ hl.1 (Nat.le_of_ble_eq_true rfl) ⟨(Nat.le_of_ble_eq_true rfl), (Nat.le_of_ble_eq_true rfl)⟩ dX5_init_77 (fun H locs G => ?_)
                              refine hk_aast (E1 := (hk_EE 173 170)) (a := 159) (r := 172) (j := 4) (t := 1) (ci := 4) (ln := 6) F9 G (by decide) (by decide +kernel) (by decide +kernel) (by decide) rfl rfl (by decide +kernel) (by decide) (by decide) (by decide) (hk_setE (by decide +kernel) (by decide +kernel)) dX5_init_80 (fun H locs G => ?_)
                              refine lv_iinc (v := 5) (lv' := [(1, .int 5), (0, .ref (g.1 + 155))]) hx hb dX5_init_81 hl (k := 0) rfl (by decide) (by decide) rfl (fun ls hl => ?_)
                              refine lv_goto (tgt := 62) hx hb dX5_init_84 (by decide) ?_
                              refine lv_iload_n hx hb dX5_init_62 rfl (lv_at hl 0 rfl) ?_
                              refine lv_bipush (v := 6) hx hb dX5_init_63 (by decide) ?_
                              refine lv_icmp_ge (tgt := 87) hx hb dX5_init_65 (by decide) (fun c45 => ?_) (fun c45 => ?_)
                              · exact absurd c45 (by decide)
                              · refine lv_aload_n hx hb dX5_init_68 rfl (lv_at hl 1 rfl) ?_
                                refine hk_getR (r := 159) F9 G (by decide +kernel) hkc_3 (k := 3) (by decide) qw_158 rfl (by decide +kernel) dX5_init_69 ?_
                                refine lv_iload_n hx hb dX5_init_72 rfl (lv_at hl 0 rfl) ?_
                                refine hk_new (E1 := (hk_EE 174 170)) (a := 173) (b := 174) F9 G rfl ⟨rfl, rfl⟩ hkc_4 hkd_4 (hk_growE (kd := 5) (ln := 0) (by decide +kernel) (by decide +kernel) (by decide +kernel)) qw_65 qw_116 qw_5 ⟨(Nat.le_of_ble_eq_true rfl), (Nat.le_of_ble_eq_true rfl)⟩ dX5_init_73 (fun H G => ?_)
                                obtain ⟨S46, eS46, hsp⟩ := hk_l hsp
                                rw [eS46] at G
                                refine lv_dup hx hb dX5_init_76 rfl ?_
                                obtain ⟨r47, er47, hsp⟩ := hk_b hsp
                                refine hk_callIN (rest := [.ref (g.1 + 173), .int 5, .ref (g.1 + 159)]) F9 G (kX6_init l g (hk_EE 174 170) F (g.1 + 174) S46 173 r47 (by decide +kernel) er47) qin_RX5_31 ⟨rfl, rfl, (Nat.le_of_ble_eq_true rfl), (Nat.le_of_ble_eq_true rfl)⟩ hl.1 (Nat.le_of_ble_eq_true rfl) ⟨(Nat.le_of_ble_eq_true rfl), (Nat.le_of_ble_eq_true rfl)⟩ dX5_init_77 (fun H locs G => ?_)
                                refine hk_aast (E1 := (hk_EE 174 171)) (a := 159) (r := 173) (j := 5) (t := 1) (ci := 4) (ln := 6) F9 G (by decide) (by decide +kernel) (by decide +kernel) (by decide) rfl rfl (by decide +kernel) (by decide) (by decide) (by decide) (hk_setE (by decide +kernel) (by decide +kernel)) dX5_init_80 (fun H locs G => ?_)
                                refine lv_iinc (v := 6) (lv' := [(1, .int 6), (0, .ref (g.1 + 155))]) hx hb dX5_init_81 hl (k := 0) rfl (by decide) (by decide) rfl (fun ls hl => ?_)
                                refine lv_goto (tgt := 62) hx hb dX5_init_84 (by decide) ?_
                                refine lv_iload_n hx hb dX5_init_62 rfl (lv_at hl 0 rfl) ?_
                                refine lv_bipush (v := 6) hx hb dX5_init_63 (by decide) ?_
                                refine lv_icmp_ge (tgt := 87) hx hb dX5_init_65 (by decide) (fun c48 => ?_) (fun c48 => ?_)
                                · refine lv_aload_n hx hb dX5_init_87 rfl (lv_at hl 1 rfl) ?_
                                  obtain ⟨r49, er49, hsp⟩ := hk_b hsp
                                  refine hk_callVv (As := []) (rest := []) F9 G (by decide +kernel) hkc_3 rfl (kX5_clear l g (hk_EE 174 171) F (g.1 + 174) r47 155 r49 (by decide +kernel) er49) qv_RX5_32 ⟨rfl, rfl, (Nat.le_of_ble_eq_true rfl), (Nat.le_of_ble_eq_true rfl)⟩ rfl hl.1 rfl (Nat.le_of_ble_eq_true rfl) ⟨(Nat.le_of_ble_eq_true rfl), (Nat.le_of_ble_eq_true rfl)⟩ dX5_init_88 (fun H locs G => ?_)
                                  obtain rfl := hk_s hsp
                                  exact W.vret hx hb hr (fun t ht hW => hk_end G ht hW) G.2.1.2.2 dX5_init_91
                                · exact absurd c48 (by decide)
                  · exact absurd c29 (by decide)
def mX1_init_175 (F : Nat) (S : hk_S) : Option (hk_S) :=
hk_let (va_up S 176 (fun _ => 0)) (fun S1 => some (S1))
set_option maxHeartbeats 4000000 in
set_option maxRecDepth 100000 in
theorem kX1_init_175 (l : Launch) (g : hk_G) (F : Nat) (S : hk_S) (o : hk_S) (hsp : mX1_init_175 F S = some o) : Met l yX1_init (hk_ws yX1_init cX1_init 1 (Option.none : Option Jvm.ClassFile.FieldType)) ({ frames := 1, cells := 1, slots := 3, locals := 12 }) (hk_Pc g (hk_EE 176 172) S (g.1 + 176) [.ref (g.1 + 175)]) (hk_Q g (hk_EE 177 173) o (g.1 + 177) none) 1 3 (hk_A g) := by
  refine Met.ofW (cc := cX1_init) (maxL := 1) (ret := (Option.none : Option Jvm.ClassFile.FieldType)) (by decide) rfl ?_
  intro p e s m args below meth c s₁ B hml hv
  obtain ⟨rfl, G⟩ := hk_begin hv
  have F9 : CallFix p m c cX1_init 1 s [.ref (g.1 + 175)].toArray hk_W RX1 := ⟨B.exec, B.bytes, hml, findClass_of_methodNamed B.named, fun w h => atoms_spec (ws := hk_ws yX1_init cX1_init 1 (Option.none : Option Jvm.ClassFile.FieldType)) B.pre w (hk_in h)⟩
  have hin : meth.name = "<init>" := (name_of_methodNamed B.named B.method).1
  have hx := B.exec
  have hb := B.bytes
  have hr := B.returns
  have hlocks := B.notSynchronized
  have hl := lv_entry ([.ref (g.1 + 175)]) (n := 1) (Nat.le_of_ble_eq_true rfl)
  rw [lg_entry_eq]
  generalize (lg_sl ([.ref (g.1 + 175)]) ++ List.replicate (1 - (lg_sl ([.ref (g.1 + 175)])).length) Slot.unset).toArray = ls at hl ⊢
  have hl : lv_has ls 1 [(0, .ref (g.1 + 175))] := hl
  unfold mX1_init_175 at hsp
  have G : hk_GG g (hk_EE 176 172) S (g.1 + 176) s s.heap [] := G
  refine lv_aload_n hx hb dX1_init_0 rfl (lv_at hl 0 rfl) ?_
  refine hk_obj F9 qw_40 qw_27 qw_28 hl.1 ⟨(Nat.le_of_ble_eq_true rfl), (Nat.le_of_ble_eq_true rfl)⟩ dX1_init_1 ?_
  refine lv_aload_n hx hb dX1_init_4 rfl (lv_at hl 0 rfl) ?_
  refine lv_iconst (v := 3) hx hb dX1_init_5 (by decide) ?_
  refine hk_newA (E1 := (hk_EE 177 172)) (a := 176) (b := 177) (ft := .int) (t := 2) (ln := 3) (kd := 13) F9 G rfl ⟨rfl, rfl⟩ rfl (fun _ h => nomatch h) rfl (fun I _ => hk_cell_i (t := 2) (by decide)) rfl (hk_growE (kd := 13) (ln := 3) (by decide +kernel) (by decide +kernel) (by decide +kernel)) qw_62 (by decide) (by decide) (by decide) ⟨(Nat.le_of_ble_eq_true rfl), (Nat.le_of_ble_eq_true rfl)⟩ dX1_init_6 (fun H G => ?_)
  obtain ⟨S1, eS1, hsp⟩ := hk_l hsp
  rw [eS1] at G
  refine hk_putR (E1 := (hk_EE 177 173)) (a := 175) (r := 176) (k := 4) F9 G (by decide +kernel) hkc_0 (by decide) qw_50 rfl rfl hin rfl (tyX1_ok 4 (by decide)) (fun _ => rfl) (fun _ => rfl) (hk_setE (by decide +kernel) (by decide +kernel)) dX1_init_8 (fun H locs G => ?_)
  obtain rfl := hk_s hsp
  exact W.vret hx hb hr (fun t ht hW => hk_end G ht hW) G.2.1.2.2 dX1_init_11
def mX5_init_174 (F : Nat) (S : hk_S) : Option (hk_S) :=
hk_let (va_up S 175 (hk_i0 0)) (fun S1 => (mX1_init_175 F S1).bind (fun r2 => hk_let (va_up r2 177 (fun _ => 0)) (fun S3 => hk_let (va_up S3 178 (fun _ => 0)) (fun S4 => hk_let (va_up S4 179 (hk_i0 7)) (fun S6 => (mX10_init (hk_EE 180 176) F S6 179).bind (fun r7 => hk_let (va_up r7 180 (hk_i0 7)) (fun S9 => (mX10_init (hk_EE 181 177) F S9 180).bind (fun r10 => hk_let (va_up r10 181 (hk_i0 7)) (fun S12 => (mX10_init (hk_EE 182 178) F S12 181).bind (fun r13 => hk_let (va_up r13 182 (hk_i0 7)) (fun S15 => (mX10_init (hk_EE 183 179) F S15 182).bind (fun r16 => hk_let (va_up r16 183 (hk_i0 7)) (fun S18 => (mX10_init (hk_EE 184 180) F S18 183).bind (fun r19 => hk_let (va_up r19 184 (hk_i0 7)) (fun S21 => (mX10_init (hk_EE 185 181) F S21 184).bind (fun r22 => hk_let (va_up r22 185 (hk_i0 7)) (fun S24 => (mX10_init (hk_EE 186 182) F S24 185).bind (fun r25 => hk_let (va_up r25 186 (hk_i0 7)) (fun S27 => (mX10_init (hk_EE 187 183) F S27 186).bind (fun r28 => hk_let (va_up r28 187 (hk_i0 4)) (fun S31 => (mX6_init (hk_EE 188 184) F S31 187).bind (fun r32 => hk_let (va_up r32 188 (hk_i0 4)) (fun S34 => (mX6_init (hk_EE 189 185) F S34 188).bind (fun r35 => hk_let (va_up r35 189 (hk_i0 4)) (fun S37 => (mX6_init (hk_EE 190 186) F S37 189).bind (fun r38 => hk_let (va_up r38 190 (hk_i0 4)) (fun S40 => (mX6_init (hk_EE 191 187) F S40 190).bind (fun r41 => hk_let (va_up r41 191 (hk_i0 4)) (fun S43 => (mX6_init (hk_EE 192 188) F S43 191).bind (fun r44 => hk_let (va_up r44 192 (hk_i0 4)) (fun S46 => (mX6_init (hk_EE 193 189) F S46 192).bind (fun r47 => (mX5_clear (hk_EE 193 190) F r47 174).bind (fun r49 => some (r49))))))))))))))))))))))))))))))))))
set_option maxHeartbeats 4000000 in
set_option maxRecDepth 100000 in
theorem kX5_init_174 (l : Launch) (g : hk_G) (F : Nat) (S : hk_S) (o : hk_S) (hsp : mX5_init_174 F S = some o) : Met l yX5_init (hk_ws yX5_init cX5_init 2 (Option.none : Option Jvm.ClassFile.FieldType)) ({ frames := 3, cells := 18, slots := 120, locals := 62 }) (hk_Pc g (hk_EE 175 172) S (g.1 + 175) [.ref (g.1 + 174)]) (hk_Q g (hk_EE 193 190) o (g.1 + 193) none) 18 120 (hk_A g) := by
  refine Met.ofW (cc := cX5_init) (maxL := 2) (ret := (Option.none : Option Jvm.ClassFile.FieldType)) (by decide) rfl ?_
  intro p e s m args below meth c s₁ B hml hv
  obtain ⟨rfl, G⟩ := hk_begin hv
  have F9 : CallFix p m c cX5_init 2 s [.ref (g.1 + 174)].toArray hk_W RX5 := ⟨B.exec, B.bytes, hml, findClass_of_methodNamed B.named, fun w h => atoms_spec (ws := hk_ws yX5_init cX5_init 2 (Option.none : Option Jvm.ClassFile.FieldType)) B.pre w (hk_in h)⟩
  have hin : meth.name = "<init>" := (name_of_methodNamed B.named B.method).1
  have hx := B.exec
  have hb := B.bytes
  have hr := B.returns
  have hlocks := B.notSynchronized
  have hl := lv_entry ([.ref (g.1 + 174)]) (n := 2) (Nat.le_of_ble_eq_true rfl)
  rw [lg_entry_eq]
  generalize (lg_sl ([.ref (g.1 + 174)]) ++ List.replicate (2 - (lg_sl ([.ref (g.1 + 174)])).length) Slot.unset).toArray = ls at hl ⊢
  have hl : lv_has ls 2 [(0, .ref (g.1 + 174))] := hl
  unfold mX5_init_174 at hsp
  have G : hk_GG g (hk_EE 175 172) S (g.1 + 175) s s.heap [] := G
  refine lv_aload_n hx hb dX5_init_0 rfl (lv_at hl 0 rfl) ?_
  refine hk_obj F9 qw_34 qw_27 qw_28 hl.1 ⟨(Nat.le_of_ble_eq_true rfl), (Nat.le_of_ble_eq_true rfl)⟩ dX5_init_1 ?_
  refine lv_aload_n hx hb dX5_init_4 rfl (lv_at hl 0 rfl) ?_
  refine hk_new (E1 := (hk_EE 176 172)) (a := 175) (b := 176) F9 G rfl ⟨rfl, rfl⟩ hkc_0 hkd_0 (hk_growE (kd := 1) (ln := 0) (by decide +kernel) (by decide +kernel) (by decide +kernel)) qw_35 qw_36 qw_3 ⟨(Nat.le_of_ble_eq_true rfl), (Nat.le_of_ble_eq_true rfl)⟩ dX5_init_5 (fun H G => ?_)
  obtain ⟨S1, eS1, hsp⟩ := hk_l hsp
  rw [eS1] at G
  refine lv_dup hx hb dX5_init_8 rfl ?_
  obtain ⟨r2, er2, hsp⟩ := hk_b hsp
  refine hk_callIN (rest := [.ref (g.1 + 175), .ref (g.1 + 174)]) F9 G (kX1_init_175 l g F S1 r2 er2) qin_RX5_11 ⟨rfl, rfl, (Nat.le_of_ble_eq_true rfl), (Nat.le_of_ble_eq_true rfl)⟩ hl.1 (Nat.le_of_ble_eq_true rfl) ⟨(Nat.le_of_ble_eq_true rfl), (Nat.le_of_ble_eq_true rfl)⟩ dX5_init_9 (fun H locs G => ?_)
  refine hk_putR (E1 := (hk_EE 177 174)) (a := 174) (r := 175) (k := 0) F9 G (by decide +kernel) hkc_3 (by decide) qw_153 rfl rfl hin rfl (tyX5_ok 0 (by decide)) (fun _ => rfl) (fun _ => rfl) (hk_setE (by decide +kernel) (by decide +kernel)) dX5_init_12 (fun H locs G => ?_)
  refine lv_aload_n hx hb dX5_init_15 rfl (lv_at hl 0 rfl) ?_
  refine lv_bipush (v := 8) hx hb dX5_init_16 (by decide) ?_
  refine hk_newQ (E1 := (hk_EE 178 174)) (a := 177) (b := 178) (t := 2) (ln := 8) F9 G rfl ⟨rfl, rfl⟩ (by decide) rfl G.2.2.1.2.2.2.2 (hk_growE (kd := 16) (ln := 8) (by decide +kernel) (by decide +kernel) (by decide +kernel)) qw_63 (by decide) (by decide) (by decide) ⟨(Nat.le_of_ble_eq_true rfl), (Nat.le_of_ble_eq_true rfl)⟩ dX5_init_18 (fun H G => ?_)
  obtain ⟨S3, eS3, hsp⟩ := hk_l hsp
  rw [eS3] at G
  refine hk_putR (E1 := (hk_EE 178 175)) (a := 174) (r := 177) (k := 1) F9 G (by decide +kernel) hkc_3 (by decide) qw_155 rfl rfl hin rfl (tyX5_ok 1 (by decide)) (fun _ => rfl) (fun _ => rfl) (hk_setE (by decide +kernel) (by decide +kernel)) dX5_init_21 (fun H locs G => ?_)
  refine lv_aload_n hx hb dX5_init_24 rfl (lv_at hl 0 rfl) ?_
  refine lv_bipush (v := 6) hx hb dX5_init_25 (by decide) ?_
  refine hk_newQ (E1 := (hk_EE 179 175)) (a := 178) (b := 179) (t := 1) (ln := 6) F9 G rfl ⟨rfl, rfl⟩ (by decide) rfl G.2.2.1.2.2.2.1 (hk_growE (kd := 15) (ln := 6) (by decide +kernel) (by decide +kernel) (by decide +kernel)) qw_65 (by decide) (by decide) (by decide) ⟨(Nat.le_of_ble_eq_true rfl), (Nat.le_of_ble_eq_true rfl)⟩ dX5_init_27 (fun H G => ?_)
  obtain ⟨S4, eS4, hsp⟩ := hk_l hsp
  rw [eS4] at G
  refine hk_putR (E1 := (hk_EE 179 176)) (a := 174) (r := 178) (k := 3) F9 G (by decide +kernel) hkc_3 (by decide) qw_158 rfl rfl hin rfl (tyX5_ok 3 (by decide)) (fun _ => rfl) (fun _ => rfl) (hk_setE (by decide +kernel) (by decide +kernel)) dX5_init_30 (fun H locs G => ?_)
  refine lv_iconst (v := 0) hx hb dX5_init_33 (by decide) ?_
  refine lv_istore_n (lv' := [(1, .int 0), (0, .ref (g.1 + 174))]) hx hb dX5_init_34 rfl hl (by decide) rfl (fun ls hl => ?_)
  refine lv_iload_n hx hb dX5_init_35 rfl (lv_at hl 0 rfl) ?_
  refine lv_bipush (v := 8) hx hb dX5_init_36 (by decide) ?_
  refine lv_icmp_ge (tgt := 60) hx hb dX5_init_38 (by decide) (fun c5 => ?_) (fun c5 => ?_)
  · exact absurd c5 (by decide)
  · refine lv_aload_n hx hb dX5_init_41 rfl (lv_at hl 1 rfl) ?_
    refine hk_getR (r := 177) F9 G (by decide +kernel) hkc_3 (k := 1) (by decide) qw_155 rfl (by decide +kernel) dX5_init_42 ?_
    refine lv_iload_n hx hb dX5_init_45 rfl (lv_at hl 0 rfl) ?_
    refine hk_new (E1 := (hk_EE 180 176)) (a := 179) (b := 180) F9 G rfl ⟨rfl, rfl⟩ hkc_7 hkd_7 (hk_growE (kd := 8) (ln := 0) (by decide +kernel) (by decide +kernel) (by decide +kernel)) qw_63 qw_67 qw_4 ⟨(Nat.le_of_ble_eq_true rfl), (Nat.le_of_ble_eq_true rfl)⟩ dX5_init_46 (fun H G => ?_)
    obtain ⟨S6, eS6, hsp⟩ := hk_l hsp
    rw [eS6] at G
    refine lv_dup hx hb dX5_init_49 rfl ?_
    obtain ⟨r7, er7, hsp⟩ := hk_b hsp
    refine hk_callIN (rest := [.ref (g.1 + 179), .int 0, .ref (g.1 + 177)]) F9 G (kX10_init l g (hk_EE 180 176) F (g.1 + 180) S6 179 r7 (by decide +kernel) er7) qin_RX5_30 ⟨rfl, rfl, (Nat.le_of_ble_eq_true rfl), (Nat.le_of_ble_eq_true rfl)⟩ hl.1 (Nat.le_of_ble_eq_true rfl) ⟨(Nat.le_of_ble_eq_true rfl), (Nat.le_of_ble_eq_true rfl)⟩ dX5_init_50 (fun H locs G => ?_)
    refine hk_aast (E1 := (hk_EE 180 177)) (a := 177) (r := 179) (j := 0) (t := 2) (ci := 7) (ln := 8) F9 G (by decide) (by decide +kernel) (by decide +kernel) (by decide) rfl rfl (by decide +kernel) (by decide) (by decide) (by decide) (hk_setE (by decide +kernel) (by decide +kernel)) dX5_init_53 (fun H locs G => ?_)
    refine lv_iinc (v := 1) (lv' := [(1, .int 1), (0, .ref (g.1 + 174))]) hx hb dX5_init_54 hl (k := 0) rfl (by decide) (by decide) rfl (fun ls hl => ?_)
    refine lv_goto (tgt := 35) hx hb dX5_init_57 (by decide) ?_
    refine lv_iload_n hx hb dX5_init_35 rfl (lv_at hl 0 rfl) ?_
    refine lv_bipush (v := 8) hx hb dX5_init_36 (by decide) ?_
    refine lv_icmp_ge (tgt := 60) hx hb dX5_init_38 (by decide) (fun c8 => ?_) (fun c8 => ?_)
    · exact absurd c8 (by decide)
    · refine lv_aload_n hx hb dX5_init_41 rfl (lv_at hl 1 rfl) ?_
      refine hk_getR (r := 177) F9 G (by decide +kernel) hkc_3 (k := 1) (by decide) qw_155 rfl (by decide +kernel) dX5_init_42 ?_
      refine lv_iload_n hx hb dX5_init_45 rfl (lv_at hl 0 rfl) ?_
      refine hk_new (E1 := (hk_EE 181 177)) (a := 180) (b := 181) F9 G rfl ⟨rfl, rfl⟩ hkc_7 hkd_7 (hk_growE (kd := 8) (ln := 0) (by decide +kernel) (by decide +kernel) (by decide +kernel)) qw_63 qw_67 qw_4 ⟨(Nat.le_of_ble_eq_true rfl), (Nat.le_of_ble_eq_true rfl)⟩ dX5_init_46 (fun H G => ?_)
      obtain ⟨S9, eS9, hsp⟩ := hk_l hsp
      rw [eS9] at G
      refine lv_dup hx hb dX5_init_49 rfl ?_
      obtain ⟨r10, er10, hsp⟩ := hk_b hsp
      refine hk_callIN (rest := [.ref (g.1 + 180), .int 1, .ref (g.1 + 177)]) F9 G (kX10_init l g (hk_EE 181 177) F (g.1 + 181) S9 180 r10 (by decide +kernel) er10) qin_RX5_30 ⟨rfl, rfl, (Nat.le_of_ble_eq_true rfl), (Nat.le_of_ble_eq_true rfl)⟩ hl.1 (Nat.le_of_ble_eq_true rfl) ⟨(Nat.le_of_ble_eq_true rfl), (Nat.le_of_ble_eq_true rfl)⟩ dX5_init_50 (fun H locs G => ?_)
      refine hk_aast (E1 := (hk_EE 181 178)) (a := 177) (r := 180) (j := 1) (t := 2) (ci := 7) (ln := 8) F9 G (by decide) (by decide +kernel) (by decide +kernel) (by decide) rfl rfl (by decide +kernel) (by decide) (by decide) (by decide) (hk_setE (by decide +kernel) (by decide +kernel)) dX5_init_53 (fun H locs G => ?_)
      refine lv_iinc (v := 2) (lv' := [(1, .int 2), (0, .ref (g.1 + 174))]) hx hb dX5_init_54 hl (k := 0) rfl (by decide) (by decide) rfl (fun ls hl => ?_)
      refine lv_goto (tgt := 35) hx hb dX5_init_57 (by decide) ?_
      refine lv_iload_n hx hb dX5_init_35 rfl (lv_at hl 0 rfl) ?_
      refine lv_bipush (v := 8) hx hb dX5_init_36 (by decide) ?_
      refine lv_icmp_ge (tgt := 60) hx hb dX5_init_38 (by decide) (fun c11 => ?_) (fun c11 => ?_)
      · exact absurd c11 (by decide)
      · refine lv_aload_n hx hb dX5_init_41 rfl (lv_at hl 1 rfl) ?_
        refine hk_getR (r := 177) F9 G (by decide +kernel) hkc_3 (k := 1) (by decide) qw_155 rfl (by decide +kernel) dX5_init_42 ?_
        refine lv_iload_n hx hb dX5_init_45 rfl (lv_at hl 0 rfl) ?_
        refine hk_new (E1 := (hk_EE 182 178)) (a := 181) (b := 182) F9 G rfl ⟨rfl, rfl⟩ hkc_7 hkd_7 (hk_growE (kd := 8) (ln := 0) (by decide +kernel) (by decide +kernel) (by decide +kernel)) qw_63 qw_67 qw_4 ⟨(Nat.le_of_ble_eq_true rfl), (Nat.le_of_ble_eq_true rfl)⟩ dX5_init_46 (fun H G => ?_)
        obtain ⟨S12, eS12, hsp⟩ := hk_l hsp
        rw [eS12] at G
        refine lv_dup hx hb dX5_init_49 rfl ?_
        obtain ⟨r13, er13, hsp⟩ := hk_b hsp
        refine hk_callIN (rest := [.ref (g.1 + 181), .int 2, .ref (g.1 + 177)]) F9 G (kX10_init l g (hk_EE 182 178) F (g.1 + 182) S12 181 r13 (by decide +kernel) er13) qin_RX5_30 ⟨rfl, rfl, (Nat.le_of_ble_eq_true rfl), (Nat.le_of_ble_eq_true rfl)⟩ hl.1 (Nat.le_of_ble_eq_true rfl) ⟨(Nat.le_of_ble_eq_true rfl), (Nat.le_of_ble_eq_true rfl)⟩ dX5_init_50 (fun H locs G => ?_)
        refine hk_aast (E1 := (hk_EE 182 179)) (a := 177) (r := 181) (j := 2) (t := 2) (ci := 7) (ln := 8) F9 G (by decide) (by decide +kernel) (by decide +kernel) (by decide) rfl rfl (by decide +kernel) (by decide) (by decide) (by decide) (hk_setE (by decide +kernel) (by decide +kernel)) dX5_init_53 (fun H locs G => ?_)
        refine lv_iinc (v := 3) (lv' := [(1, .int 3), (0, .ref (g.1 + 174))]) hx hb dX5_init_54 hl (k := 0) rfl (by decide) (by decide) rfl (fun ls hl => ?_)
        refine lv_goto (tgt := 35) hx hb dX5_init_57 (by decide) ?_
        refine lv_iload_n hx hb dX5_init_35 rfl (lv_at hl 0 rfl) ?_
        refine lv_bipush (v := 8) hx hb dX5_init_36 (by decide) ?_
        refine lv_icmp_ge (tgt := 60) hx hb dX5_init_38 (by decide) (fun c14 => ?_) (fun c14 => ?_)
        · exact absurd c14 (by decide)
        · refine lv_aload_n hx hb dX5_init_41 rfl (lv_at hl 1 rfl) ?_
          refine hk_getR (r := 177) F9 G (by decide +kernel) hkc_3 (k := 1) (by decide) qw_155 rfl (by decide +kernel) dX5_init_42 ?_
          refine lv_iload_n hx hb dX5_init_45 rfl (lv_at hl 0 rfl) ?_
          refine hk_new (E1 := (hk_EE 183 179)) (a := 182) (b := 183) F9 G rfl ⟨rfl, rfl⟩ hkc_7 hkd_7 (hk_growE (kd := 8) (ln := 0) (by decide +kernel) (by decide +kernel) (by decide +kernel)) qw_63 qw_67 qw_4 ⟨(Nat.le_of_ble_eq_true rfl), (Nat.le_of_ble_eq_true rfl)⟩ dX5_init_46 (fun H G => ?_)
          obtain ⟨S15, eS15, hsp⟩ := hk_l hsp
          rw [eS15] at G
          refine lv_dup hx hb dX5_init_49 rfl ?_
          obtain ⟨r16, er16, hsp⟩ := hk_b hsp
          refine hk_callIN (rest := [.ref (g.1 + 182), .int 3, .ref (g.1 + 177)]) F9 G (kX10_init l g (hk_EE 183 179) F (g.1 + 183) S15 182 r16 (by decide +kernel) er16) qin_RX5_30 ⟨rfl, rfl, (Nat.le_of_ble_eq_true rfl), (Nat.le_of_ble_eq_true rfl)⟩ hl.1 (Nat.le_of_ble_eq_true rfl) ⟨(Nat.le_of_ble_eq_true rfl), (Nat.le_of_ble_eq_true rfl)⟩ dX5_init_50 (fun H locs G => ?_)
          refine hk_aast (E1 := (hk_EE 183 180)) (a := 177) (r := 182) (j := 3) (t := 2) (ci := 7) (ln := 8) F9 G (by decide) (by decide +kernel) (by decide +kernel) (by decide) rfl rfl (by decide +kernel) (by decide) (by decide) (by decide) (hk_setE (by decide +kernel) (by decide +kernel)) dX5_init_53 (fun H locs G => ?_)
          refine lv_iinc (v := 4) (lv' := [(1, .int 4), (0, .ref (g.1 + 174))]) hx hb dX5_init_54 hl (k := 0) rfl (by decide) (by decide) rfl (fun ls hl => ?_)
          refine lv_goto (tgt := 35) hx hb dX5_init_57 (by decide) ?_
          refine lv_iload_n hx hb dX5_init_35 rfl (lv_at hl 0 rfl) ?_
          refine lv_bipush (v := 8) hx hb dX5_init_36 (by decide) ?_
          refine lv_icmp_ge (tgt := 60) hx hb dX5_init_38 (by decide) (fun c17 => ?_) (fun c17 => ?_)
          · exact absurd c17 (by decide)
          · refine lv_aload_n hx hb dX5_init_41 rfl (lv_at hl 1 rfl) ?_
            refine hk_getR (r := 177) F9 G (by decide +kernel) hkc_3 (k := 1) (by decide) qw_155 rfl (by decide +kernel) dX5_init_42 ?_
            refine lv_iload_n hx hb dX5_init_45 rfl (lv_at hl 0 rfl) ?_
            refine hk_new (E1 := (hk_EE 184 180)) (a := 183) (b := 184) F9 G rfl ⟨rfl, rfl⟩ hkc_7 hkd_7 (hk_growE (kd := 8) (ln := 0) (by decide +kernel) (by decide +kernel) (by decide +kernel)) qw_63 qw_67 qw_4 ⟨(Nat.le_of_ble_eq_true rfl), (Nat.le_of_ble_eq_true rfl)⟩ dX5_init_46 (fun H G => ?_)
            obtain ⟨S18, eS18, hsp⟩ := hk_l hsp
            rw [eS18] at G
            refine lv_dup hx hb dX5_init_49 rfl ?_
            obtain ⟨r19, er19, hsp⟩ := hk_b hsp
            refine hk_callIN (rest := [.ref (g.1 + 183), .int 4, .ref (g.1 + 177)]) F9 G (kX10_init l g (hk_EE 184 180) F (g.1 + 184) S18 183 r19 (by decide +kernel) er19) qin_RX5_30 ⟨rfl, rfl, (Nat.le_of_ble_eq_true rfl), (Nat.le_of_ble_eq_true rfl)⟩ hl.1 (Nat.le_of_ble_eq_true rfl) ⟨(Nat.le_of_ble_eq_true rfl), (Nat.le_of_ble_eq_true rfl)⟩ dX5_init_50 (fun H locs G => ?_)
            refine hk_aast (E1 := (hk_EE 184 181)) (a := 177) (r := 183) (j := 4) (t := 2) (ci := 7) (ln := 8) F9 G (by decide) (by decide +kernel) (by decide +kernel) (by decide) rfl rfl (by decide +kernel) (by decide) (by decide) (by decide) (hk_setE (by decide +kernel) (by decide +kernel)) dX5_init_53 (fun H locs G => ?_)
            refine lv_iinc (v := 5) (lv' := [(1, .int 5), (0, .ref (g.1 + 174))]) hx hb dX5_init_54 hl (k := 0) rfl (by decide) (by decide) rfl (fun ls hl => ?_)
            refine lv_goto (tgt := 35) hx hb dX5_init_57 (by decide) ?_
            refine lv_iload_n hx hb dX5_init_35 rfl (lv_at hl 0 rfl) ?_
            refine lv_bipush (v := 8) hx hb dX5_init_36 (by decide) ?_
            refine lv_icmp_ge (tgt := 60) hx hb dX5_init_38 (by decide) (fun c20 => ?_) (fun c20 => ?_)
            · exact absurd c20 (by decide)
            · refine lv_aload_n hx hb dX5_init_41 rfl (lv_at hl 1 rfl) ?_
              refine hk_getR (r := 177) F9 G (by decide +kernel) hkc_3 (k := 1) (by decide) qw_155 rfl (by decide +kernel) dX5_init_42 ?_
              refine lv_iload_n hx hb dX5_init_45 rfl (lv_at hl 0 rfl) ?_
              refine hk_new (E1 := (hk_EE 185 181)) (a := 184) (b := 185) F9 G rfl ⟨rfl, rfl⟩ hkc_7 hkd_7 (hk_growE (kd := 8) (ln := 0) (by decide +kernel) (by decide +kernel) (by decide +kernel)) qw_63 qw_67 qw_4 ⟨(Nat.le_of_ble_eq_true rfl), (Nat.le_of_ble_eq_true rfl)⟩ dX5_init_46 (fun H G => ?_)
              obtain ⟨S21, eS21, hsp⟩ := hk_l hsp
              rw [eS21] at G
              refine lv_dup hx hb dX5_init_49 rfl ?_
              obtain ⟨r22, er22, hsp⟩ := hk_b hsp
              refine hk_callIN (rest := [.ref (g.1 + 184), .int 5, .ref (g.1 + 177)]) F9 G (kX10_init l g (hk_EE 185 181) F (g.1 + 185) S21 184 r22 (by decide +kernel) er22) qin_RX5_30 ⟨rfl, rfl, (Nat.le_of_ble_eq_true rfl), (Nat.le_of_ble_eq_true rfl)⟩ hl.1 (Nat.le_of_ble_eq_true rfl) ⟨(Nat.le_of_ble_eq_true rfl), (Nat.le_of_ble_eq_true rfl)⟩ dX5_init_50 (fun H locs G => ?_)
              refine hk_aast (E1 := (hk_EE 185 182)) (a := 177) (r := 184) (j := 5) (t := 2) (ci := 7) (ln := 8) F9 G (by decide) (by decide +kernel) (by decide +kernel) (by decide) rfl rfl (by decide +kernel) (by decide) (by decide) (by decide) (hk_setE (by decide +kernel) (by decide +kernel)) dX5_init_53 (fun H locs G => ?_)
              refine lv_iinc (v := 6) (lv' := [(1, .int 6), (0, .ref (g.1 + 174))]) hx hb dX5_init_54 hl (k := 0) rfl (by decide) (by decide) rfl (fun ls hl => ?_)
              refine lv_goto (tgt := 35) hx hb dX5_init_57 (by decide) ?_
              refine lv_iload_n hx hb dX5_init_35 rfl (lv_at hl 0 rfl) ?_
              refine lv_bipush (v := 8) hx hb dX5_init_36 (by decide) ?_
              refine lv_icmp_ge (tgt := 60) hx hb dX5_init_38 (by decide) (fun c23 => ?_) (fun c23 => ?_)
              · exact absurd c23 (by decide)
              · refine lv_aload_n hx hb dX5_init_41 rfl (lv_at hl 1 rfl) ?_
                refine hk_getR (r := 177) F9 G (by decide +kernel) hkc_3 (k := 1) (by decide) qw_155 rfl (by decide +kernel) dX5_init_42 ?_
                refine lv_iload_n hx hb dX5_init_45 rfl (lv_at hl 0 rfl) ?_
                refine hk_new (E1 := (hk_EE 186 182)) (a := 185) (b := 186) F9 G rfl ⟨rfl, rfl⟩ hkc_7 hkd_7 (hk_growE (kd := 8) (ln := 0) (by decide +kernel) (by decide +kernel) (by decide +kernel)) qw_63 qw_67 qw_4 ⟨(Nat.le_of_ble_eq_true rfl), (Nat.le_of_ble_eq_true rfl)⟩ dX5_init_46 (fun H G => ?_)
                obtain ⟨S24, eS24, hsp⟩ := hk_l hsp
                rw [eS24] at G
                refine lv_dup hx hb dX5_init_49 rfl ?_
                obtain ⟨r25, er25, hsp⟩ := hk_b hsp
                refine hk_callIN (rest := [.ref (g.1 + 185), .int 6, .ref (g.1 + 177)]) F9 G (kX10_init l g (hk_EE 186 182) F (g.1 + 186) S24 185 r25 (by decide +kernel) er25) qin_RX5_30 ⟨rfl, rfl, (Nat.le_of_ble_eq_true rfl), (Nat.le_of_ble_eq_true rfl)⟩ hl.1 (Nat.le_of_ble_eq_true rfl) ⟨(Nat.le_of_ble_eq_true rfl), (Nat.le_of_ble_eq_true rfl)⟩ dX5_init_50 (fun H locs G => ?_)
                refine hk_aast (E1 := (hk_EE 186 183)) (a := 177) (r := 185) (j := 6) (t := 2) (ci := 7) (ln := 8) F9 G (by decide) (by decide +kernel) (by decide +kernel) (by decide) rfl rfl (by decide +kernel) (by decide) (by decide) (by decide) (hk_setE (by decide +kernel) (by decide +kernel)) dX5_init_53 (fun H locs G => ?_)
                refine lv_iinc (v := 7) (lv' := [(1, .int 7), (0, .ref (g.1 + 174))]) hx hb dX5_init_54 hl (k := 0) rfl (by decide) (by decide) rfl (fun ls hl => ?_)
                refine lv_goto (tgt := 35) hx hb dX5_init_57 (by decide) ?_
                refine lv_iload_n hx hb dX5_init_35 rfl (lv_at hl 0 rfl) ?_
                refine lv_bipush (v := 8) hx hb dX5_init_36 (by decide) ?_
                refine lv_icmp_ge (tgt := 60) hx hb dX5_init_38 (by decide) (fun c26 => ?_) (fun c26 => ?_)
                · exact absurd c26 (by decide)
                · refine lv_aload_n hx hb dX5_init_41 rfl (lv_at hl 1 rfl) ?_
                  refine hk_getR (r := 177) F9 G (by decide +kernel) hkc_3 (k := 1) (by decide) qw_155 rfl (by decide +kernel) dX5_init_42 ?_
                  refine lv_iload_n hx hb dX5_init_45 rfl (lv_at hl 0 rfl) ?_
                  refine hk_new (E1 := (hk_EE 187 183)) (a := 186) (b := 187) F9 G rfl ⟨rfl, rfl⟩ hkc_7 hkd_7 (hk_growE (kd := 8) (ln := 0) (by decide +kernel) (by decide +kernel) (by decide +kernel)) qw_63 qw_67 qw_4 ⟨(Nat.le_of_ble_eq_true rfl), (Nat.le_of_ble_eq_true rfl)⟩ dX5_init_46 (fun H G => ?_)
                  obtain ⟨S27, eS27, hsp⟩ := hk_l hsp
                  rw [eS27] at G
                  refine lv_dup hx hb dX5_init_49 rfl ?_
                  obtain ⟨r28, er28, hsp⟩ := hk_b hsp
                  refine hk_callIN (rest := [.ref (g.1 + 186), .int 7, .ref (g.1 + 177)]) F9 G (kX10_init l g (hk_EE 187 183) F (g.1 + 187) S27 186 r28 (by decide +kernel) er28) qin_RX5_30 ⟨rfl, rfl, (Nat.le_of_ble_eq_true rfl), (Nat.le_of_ble_eq_true rfl)⟩ hl.1 (Nat.le_of_ble_eq_true rfl) ⟨(Nat.le_of_ble_eq_true rfl), (Nat.le_of_ble_eq_true rfl)⟩ dX5_init_50 (fun H locs G => ?_)
                  refine hk_aast (E1 := (hk_EE 187 184)) (a := 177) (r := 186) (j := 7) (t := 2) (ci := 7) (ln := 8) F9 G (by decide) (by decide +kernel) (by decide +kernel) (by decide) rfl rfl (by decide +kernel) (by decide) (by decide) (by decide) (hk_setE (by decide +kernel) (by decide +kernel)) dX5_init_53 (fun H locs G => ?_)
                  refine lv_iinc (v := 8) (lv' := [(1, .int 8), (0, .ref (g.1 + 174))]) hx hb dX5_init_54 hl (k := 0) rfl (by decide) (by decide) rfl (fun ls hl => ?_)
                  refine lv_goto (tgt := 35) hx hb dX5_init_57 (by decide) ?_
                  refine lv_iload_n hx hb dX5_init_35 rfl (lv_at hl 0 rfl) ?_
                  refine lv_bipush (v := 8) hx hb dX5_init_36 (by decide) ?_
                  refine lv_icmp_ge (tgt := 60) hx hb dX5_init_38 (by decide) (fun c29 => ?_) (fun c29 => ?_)
                  · refine lv_iconst (v := 0) hx hb dX5_init_60 (by decide) ?_
                    refine lv_istore_n (lv' := [(1, .int 0), (0, .ref (g.1 + 174))]) hx hb dX5_init_61 rfl hl (by decide) rfl (fun ls hl => ?_)
                    refine lv_iload_n hx hb dX5_init_62 rfl (lv_at hl 0 rfl) ?_
                    refine lv_bipush (v := 6) hx hb dX5_init_63 (by decide) ?_
                    refine lv_icmp_ge (tgt := 87) hx hb dX5_init_65 (by decide) (fun c30 => ?_) (fun c30 => ?_)
                    · exact absurd c30 (by decide)
                    · refine lv_aload_n hx hb dX5_init_68 rfl (lv_at hl 1 rfl) ?_
                      refine hk_getR (r := 178) F9 G (by decide +kernel) hkc_3 (k := 3) (by decide) qw_158 rfl (by decide +kernel) dX5_init_69 ?_
                      refine lv_iload_n hx hb dX5_init_72 rfl (lv_at hl 0 rfl) ?_
                      refine hk_new (E1 := (hk_EE 188 184)) (a := 187) (b := 188) F9 G rfl ⟨rfl, rfl⟩ hkc_4 hkd_4 (hk_growE (kd := 5) (ln := 0) (by decide +kernel) (by decide +kernel) (by decide +kernel)) qw_65 qw_116 qw_5 ⟨(Nat.le_of_ble_eq_true rfl), (Nat.le_of_ble_eq_true rfl)⟩ dX5_init_73 (fun H G => ?_)
                      obtain ⟨S31, eS31, hsp⟩ := hk_l hsp
                      rw [eS31] at G
                      refine lv_dup hx hb dX5_init_76 rfl ?_
                      obtain ⟨r32, er32, hsp⟩ := hk_b hsp
                      refine hk_callIN (rest := [.ref (g.1 + 187), .int 0, .ref (g.1 + 178)]) F9 G (kX6_init l g (hk_EE 188 184) F (g.1 + 188) S31 187 r32 (by decide +kernel) er32) qin_RX5_31 ⟨rfl, rfl, (Nat.le_of_ble_eq_true rfl), (Nat.le_of_ble_eq_true rfl)⟩ hl.1 (Nat.le_of_ble_eq_true rfl) ⟨(Nat.le_of_ble_eq_true rfl), (Nat.le_of_ble_eq_true rfl)⟩ dX5_init_77 (fun H locs G => ?_)
                      refine hk_aast (E1 := (hk_EE 188 185)) (a := 178) (r := 187) (j := 0) (t := 1) (ci := 4) (ln := 6) F9 G (by decide) (by decide +kernel) (by decide +kernel) (by decide) rfl rfl (by decide +kernel) (by decide) (by decide) (by decide) (hk_setE (by decide +kernel) (by decide +kernel)) dX5_init_80 (fun H locs G => ?_)
                      refine lv_iinc (v := 1) (lv' := [(1, .int 1), (0, .ref (g.1 + 174))]) hx hb dX5_init_81 hl (k := 0) rfl (by decide) (by decide) rfl (fun ls hl => ?_)
                      refine lv_goto (tgt := 62) hx hb dX5_init_84 (by decide) ?_
                      refine lv_iload_n hx hb dX5_init_62 rfl (lv_at hl 0 rfl) ?_
                      refine lv_bipush (v := 6) hx hb dX5_init_63 (by decide) ?_
                      refine lv_icmp_ge (tgt := 87) hx hb dX5_init_65 (by decide) (fun c33 => ?_) (fun c33 => ?_)
                      · exact absurd c33 (by decide)
                      · refine lv_aload_n hx hb dX5_init_68 rfl (lv_at hl 1 rfl) ?_
                        refine hk_getR (r := 178) F9 G (by decide +kernel) hkc_3 (k := 3) (by decide) qw_158 rfl (by decide +kernel) dX5_init_69 ?_
                        refine lv_iload_n hx hb dX5_init_72 rfl (lv_at hl 0 rfl) ?_
                        refine hk_new (E1 := (hk_EE 189 185)) (a := 188) (b := 189) F9 G rfl ⟨rfl, rfl⟩ hkc_4 hkd_4 (hk_growE (kd := 5) (ln := 0) (by decide +kernel) (by decide +kernel) (by decide +kernel)) qw_65 qw_116 qw_5 ⟨(Nat.le_of_ble_eq_true rfl), (Nat.le_of_ble_eq_true rfl)⟩ dX5_init_73 (fun H G => ?_)
                        obtain ⟨S34, eS34, hsp⟩ := hk_l hsp
                        rw [eS34] at G
                        refine lv_dup hx hb dX5_init_76 rfl ?_
                        obtain ⟨r35, er35, hsp⟩ := hk_b hsp
                        refine hk_callIN (rest := [.ref (g.1 + 188), .int 1, .ref (g.1 + 178)]) F9 G (kX6_init l g (hk_EE 189 185) F (g.1 + 189) S34 188 r35 (by decide +kernel) er35) qin_RX5_31 ⟨rfl, rfl, (Nat.le_of_ble_eq_true rfl), (Nat.le_of_ble_eq_true rfl)⟩ hl.1 (Nat.le_of_ble_eq_true rfl) ⟨(Nat.le_of_ble_eq_true rfl), (Nat.le_of_ble_eq_true rfl)⟩ dX5_init_77 (fun H locs G => ?_)
                        refine hk_aast (E1 := (hk_EE 189 186)) (a := 178) (r := 188) (j := 1) (t := 1) (ci := 4) (ln := 6) F9 G (by decide) (by decide +kernel) (by decide +kernel) (by decide) rfl rfl (by decide +kernel) (by decide) (by decide) (by decide) (hk_setE (by decide +kernel) (by decide +kernel)) dX5_init_80 (fun H locs G => ?_)
                        refine lv_iinc (v := 2) (lv' := [(1, .int 2), (0, .ref (g.1 + 174))]) hx hb dX5_init_81 hl (k := 0) rfl (by decide) (by decide) rfl (fun ls hl => ?_)
                        refine lv_goto (tgt := 62) hx hb dX5_init_84 (by decide) ?_
                        refine lv_iload_n hx hb dX5_init_62 rfl (lv_at hl 0 rfl) ?_
                        refine lv_bipush (v := 6) hx hb dX5_init_63 (by decide) ?_
                        refine lv_icmp_ge (tgt := 87) hx hb dX5_init_65 (by decide) (fun c36 => ?_) (fun c36 => ?_)
                        · exact absurd c36 (by decide)
                        · refine lv_aload_n hx hb dX5_init_68 rfl (lv_at hl 1 rfl) ?_
                          refine hk_getR (r := 178) F9 G (by decide +kernel) hkc_3 (k := 3) (by decide) qw_158 rfl (by decide +kernel) dX5_init_69 ?_
                          refine lv_iload_n hx hb dX5_init_72 rfl (lv_at hl 0 rfl) ?_
                          refine hk_new (E1 := (hk_EE 190 186)) (a := 189) (b := 190) F9 G rfl ⟨rfl, rfl⟩ hkc_4 hkd_4 (hk_growE (kd := 5) (ln := 0) (by decide +kernel) (by decide +kernel) (by decide +kernel)) qw_65 qw_116 qw_5 ⟨(Nat.le_of_ble_eq_true rfl), (Nat.le_of_ble_eq_true rfl)⟩ dX5_init_73 (fun H G => ?_)
                          obtain ⟨S37, eS37, hsp⟩ := hk_l hsp
                          rw [eS37] at G
                          refine lv_dup hx hb dX5_init_76 rfl ?_
                          obtain ⟨r38, er38, hsp⟩ := hk_b hsp
                          refine hk_callIN (rest := [.ref (g.1 + 189), .int 2, .ref (g.1 + 178)]) F9 G (kX6_init l g (hk_EE 190 186) F (g.1 + 190) S37 189 r38 (by decide +kernel) er38) qin_RX5_31 ⟨rfl, rfl, (Nat.le_of_ble_eq_true rfl), (Nat.le_of_ble_eq_true rfl)⟩ hl.1 (Nat.le_of_ble_eq_true rfl) ⟨(Nat.le_of_ble_eq_true rfl), (Nat.le_of_ble_eq_true rfl)⟩ dX5_init_77 (fun H locs G => ?_)
                          refine hk_aast (E1 := (hk_EE 190 187)) (a := 178) (r := 189) (j := 2) (t := 1) (ci := 4) (ln := 6) F9 G (by decide) (by decide +kernel) (by decide +kernel) (by decide) rfl rfl (by decide +kernel) (by decide) (by decide) (by decide) (hk_setE (by decide +kernel) (by decide +kernel)) dX5_init_80 (fun H locs G => ?_)
                          refine lv_iinc (v := 3) (lv' := [(1, .int 3), (0, .ref (g.1 + 174))]) hx hb dX5_init_81 hl (k := 0) rfl (by decide) (by decide) rfl (fun ls hl => ?_)
                          refine lv_goto (tgt := 62) hx hb dX5_init_84 (by decide) ?_
                          refine lv_iload_n hx hb dX5_init_62 rfl (lv_at hl 0 rfl) ?_
                          refine lv_bipush (v := 6) hx hb dX5_init_63 (by decide) ?_
                          refine lv_icmp_ge (tgt := 87) hx hb dX5_init_65 (by decide) (fun c39 => ?_) (fun c39 => ?_)
                          · exact absurd c39 (by decide)
                          · refine lv_aload_n hx hb dX5_init_68 rfl (lv_at hl 1 rfl) ?_
                            refine hk_getR (r := 178) F9 G (by decide +kernel) hkc_3 (k := 3) (by decide) qw_158 rfl (by decide +kernel) dX5_init_69 ?_
                            refine lv_iload_n hx hb dX5_init_72 rfl (lv_at hl 0 rfl) ?_
                            refine hk_new (E1 := (hk_EE 191 187)) (a := 190) (b := 191) F9 G rfl ⟨rfl, rfl⟩ hkc_4 hkd_4 (hk_growE (kd := 5) (ln := 0) (by decide +kernel) (by decide +kernel) (by decide +kernel)) qw_65 qw_116 qw_5 ⟨(Nat.le_of_ble_eq_true rfl), (Nat.le_of_ble_eq_true rfl)⟩ dX5_init_73 (fun H G => ?_)
                            obtain ⟨S40, eS40, hsp⟩ := hk_l hsp
                            rw [eS40] at G
                            refine lv_dup hx hb dX5_init_76 rfl ?_
                            obtain ⟨r41, er41, hsp⟩ := hk_b hsp
                            refine hk_callIN (rest := [.ref (g.1 + 190), .int 3, .ref (g.1 + 178)]) F9 G (kX6_init l g (hk_EE 191 187) F (g.1 + 191) S40 190 r41 (by decide +kernel) er41) qin_RX5_31 ⟨rfl, rfl, (Nat.le_of_ble_eq_true rfl), (Nat.le_of_ble_eq_true rfl)⟩ hl.1 (Nat.le_of_ble_eq_true rfl) ⟨(Nat.le_of_ble_eq_true rfl), (Nat.le_of_ble_eq_true rfl)⟩ dX5_init_77 (fun H locs G => ?_)
                            refine hk_aast (E1 := (hk_EE 191 188)) (a := 178) (r := 190) (j := 3) (t := 1) (ci := 4) (ln := 6) F9 G (by decide) (by decide +kernel) (by decide +kernel) (by decide) rfl rfl (by decide +kernel) (by decide) (by decide) (by decide) (hk_setE (by decide +kernel) (by decide +kernel)) dX5_init_80 (fun H locs G => ?_)
                            refine lv_iinc (v := 4) (lv' := [(1, .int 4), (0, .ref (g.1 + 174))]) hx hb dX5_init_81 hl (k := 0) rfl (by decide) (by decide) rfl (fun ls hl => ?_)
                            refine lv_goto (tgt := 62) hx hb dX5_init_84 (by decide) ?_
                            refine lv_iload_n hx hb dX5_init_62 rfl (lv_at hl 0 rfl) ?_
                            refine lv_bipush (v := 6) hx hb dX5_init_63 (by decide) ?_
                            refine lv_icmp_ge (tgt := 87) hx hb dX5_init_65 (by decide) (fun c42 => ?_) (fun c42 => ?_)
                            · exact absurd c42 (by decide)
                            · refine lv_aload_n hx hb dX5_init_68 rfl (lv_at hl 1 rfl) ?_
                              refine hk_getR (r := 178) F9 G (by decide +kernel) hkc_3 (k := 3) (by decide) qw_158 rfl (by decide +kernel) dX5_init_69 ?_
                              refine lv_iload_n hx hb dX5_init_72 rfl (lv_at hl 0 rfl) ?_
                              refine hk_new (E1 := (hk_EE 192 188)) (a := 191) (b := 192) F9 G rfl ⟨rfl, rfl⟩ hkc_4 hkd_4 (hk_growE (kd := 5) (ln := 0) (by decide +kernel) (by decide +kernel) (by decide +kernel)) qw_65 qw_116 qw_5 ⟨(Nat.le_of_ble_eq_true rfl), (Nat.le_of_ble_eq_true rfl)⟩ dX5_init_73 (fun H G => ?_)
                              obtain ⟨S43, eS43, hsp⟩ := hk_l hsp
                              rw [eS43] at G
                              refine lv_dup hx hb dX5_init_76 rfl ?_
                              obtain ⟨r44, er44, hsp⟩ := hk_b hsp
                              refine hk_callIN (rest := [.ref (g.1 + 191), .int 4, .ref (g.1 + 178)]) F9 G (kX6_init l g (hk_EE 192 188) F (g.1 + 192) S43 191 r44 (by decide +kernel) er44) qin_RX5_31 ⟨rfl, rfl, (Nat.le_of_ble_eq_true rfl), (Nat.le_of_ble_eq_true rfl)⟩ hl.1 (Nat.le_of_ble_eq_true rfl) ⟨(Nat.le_of_ble_eq_true rfl), (Nat.le_of_ble_eq_true rfl)⟩ dX5_init_77 (fun H locs G => ?_)
                              refine hk_aast (E1 := (hk_EE 192 189)) (a := 178) (r := 191) (j := 4) (t := 1) (ci := 4) (ln := 6) F9 G (by decide) (by decide +kernel) (by decide +kernel) (by decide) rfl rfl (by decide +kernel) (by decide) (by decide) (by decide) (hk_setE (by decide +kernel) (by decide +kernel)) dX5_init_80 (fun H locs G => ?_)
                              refine lv_iinc (v := 5) (lv' := [(1, .int 5), (0, .ref (g.1 + 174))]) hx hb dX5_init_81 hl (k := 0) rfl (by decide) (by decide) rfl (fun ls hl => ?_)
                              refine lv_goto (tgt := 62) hx hb dX5_init_84 (by decide) ?_
                              refine lv_iload_n hx hb dX5_init_62 rfl (lv_at hl 0 rfl) ?_
                              refine lv_bipush (v := 6) hx hb dX5_init_63 (by decide) ?_
                              refine lv_icmp_ge (tgt := 87) hx hb dX5_init_65 (by decide) (fun c45 => ?_) (fun c45 => ?_)
                              · exact absurd c45 (by decide)
                              · refine lv_aload_n hx hb dX5_init_68 rfl (lv_at hl 1 rfl) ?_
                                refine hk_getR (r := 178) F9 G (by decide +kernel) hkc_3 (k := 3) (by decide) qw_158 rfl (by decide +kernel) dX5_init_69 ?_
                                refine lv_iload_n hx hb dX5_init_72 rfl (lv_at hl 0 rfl) ?_
                                refine hk_new (E1 := (hk_EE 193 189)) (a := 192) (b := 193) F9 G rfl ⟨rfl, rfl⟩ hkc_4 hkd_4 (hk_growE (kd := 5) (ln := 0) (by decide +kernel) (by decide +kernel) (by decide +kernel)) qw_65 qw_116 qw_5 ⟨(Nat.le_of_ble_eq_true rfl), (Nat.le_of_ble_eq_true rfl)⟩ dX5_init_73 (fun H G => ?_)
                                obtain ⟨S46, eS46, hsp⟩ := hk_l hsp
                                rw [eS46] at G
                                refine lv_dup hx hb dX5_init_76 rfl ?_
                                obtain ⟨r47, er47, hsp⟩ := hk_b hsp
                                refine hk_callIN (rest := [.ref (g.1 + 192), .int 5, .ref (g.1 + 178)]) F9 G (kX6_init l g (hk_EE 193 189) F (g.1 + 193) S46 192 r47 (by decide +kernel) er47) qin_RX5_31 ⟨rfl, rfl, (Nat.le_of_ble_eq_true rfl), (Nat.le_of_ble_eq_true rfl)⟩ hl.1 (Nat.le_of_ble_eq_true rfl) ⟨(Nat.le_of_ble_eq_true rfl), (Nat.le_of_ble_eq_true rfl)⟩ dX5_init_77 (fun H locs G => ?_)
                                refine hk_aast (E1 := (hk_EE 193 190)) (a := 178) (r := 192) (j := 5) (t := 1) (ci := 4) (ln := 6) F9 G (by decide) (by decide +kernel) (by decide +kernel) (by decide) rfl rfl (by decide +kernel) (by decide) (by decide) (by decide) (hk_setE (by decide +kernel) (by decide +kernel)) dX5_init_80 (fun H locs G => ?_)
                                refine lv_iinc (v := 6) (lv' := [(1, .int 6), (0, .ref (g.1 + 174))]) hx hb dX5_init_81 hl (k := 0) rfl (by decide) (by decide) rfl (fun ls hl => ?_)
                                refine lv_goto (tgt := 62) hx hb dX5_init_84 (by decide) ?_
                                refine lv_iload_n hx hb dX5_init_62 rfl (lv_at hl 0 rfl) ?_
                                refine lv_bipush (v := 6) hx hb dX5_init_63 (by decide) ?_
                                refine lv_icmp_ge (tgt := 87) hx hb dX5_init_65 (by decide) (fun c48 => ?_) (fun c48 => ?_)
                                · refine lv_aload_n hx hb dX5_init_87 rfl (lv_at hl 1 rfl) ?_
                                  obtain ⟨r49, er49, hsp⟩ := hk_b hsp
                                  refine hk_callVv (As := []) (rest := []) F9 G (by decide +kernel) hkc_3 rfl (kX5_clear l g (hk_EE 193 190) F (g.1 + 193) r47 174 r49 (by decide +kernel) er49) qv_RX5_32 ⟨rfl, rfl, (Nat.le_of_ble_eq_true rfl), (Nat.le_of_ble_eq_true rfl)⟩ rfl hl.1 rfl (Nat.le_of_ble_eq_true rfl) ⟨(Nat.le_of_ble_eq_true rfl), (Nat.le_of_ble_eq_true rfl)⟩ dX5_init_88 (fun H locs G => ?_)
                                  obtain rfl := hk_s hsp
                                  exact W.vret hx hb hr (fun t ht hW => hk_end G ht hW) G.2.1.2.2 dX5_init_91
                                · exact absurd c48 (by decide)
                  · exact absurd c29 (by decide)
def mX3_init_39 (F : Nat) (S : hk_S) : Option (hk_S) :=
hk_let (va_up S 40 (fun _ => 0)) (fun S1 => hk_let (va_up S1 41 (hk_i0 3)) (fun S3 => (mX5_init_41 F S3).bind (fun r4 => hk_let (va_up r4 60 (hk_i0 3)) (fun S6 => (mX5_init_60 F S6).bind (fun r7 => hk_let (va_up r7 79 (hk_i0 3)) (fun S9 => (mX5_init_79 F S9).bind (fun r10 => hk_let (va_up r10 98 (hk_i0 3)) (fun S12 => (mX5_init_98 F S12).bind (fun r13 => hk_let (va_up r13 117 (hk_i0 3)) (fun S15 => (mX5_init_117 F S15).bind (fun r16 => hk_let (va_up r16 136 (hk_i0 3)) (fun S18 => (mX5_init_136 F S18).bind (fun r19 => hk_let (va_up r19 155 (hk_i0 3)) (fun S21 => (mX5_init_155 F S21).bind (fun r22 => hk_let (va_up r22 174 (hk_i0 3)) (fun S24 => (mX5_init_174 F S24).bind (fun r25 => some (r25))))))))))))))))))
set_option maxHeartbeats 4000000 in
set_option maxRecDepth 100000 in
theorem kX3_init_39 (l : Launch) (g : hk_G) (F : Nat) (S : hk_S) (o : hk_S) (hsp : mX3_init_39 F S = some o) : Met l yX3_init (hk_ws yX3_init cX3_init 2 (Option.none : Option Jvm.ClassFile.FieldType)) ({ frames := 4, cells := 153, slots := 1072, locals := 83 }) (hk_Pc g (hk_EE 40 38) S (g.1 + 40) [.ref (g.1 + 39)]) (hk_Q g (hk_EE 193 191) o (g.1 + 193) none) 153 1072 (hk_A g) := by
  refine Met.ofW (cc := cX3_init) (maxL := 2) (ret := (Option.none : Option Jvm.ClassFile.FieldType)) (by decide) rfl ?_
  intro p e s m args below meth c s₁ B hml hv
  obtain ⟨rfl, G⟩ := hk_begin hv
  have F9 : CallFix p m c cX3_init 2 s [.ref (g.1 + 39)].toArray hk_W RX3 := ⟨B.exec, B.bytes, hml, findClass_of_methodNamed B.named, fun w h => atoms_spec (ws := hk_ws yX3_init cX3_init 2 (Option.none : Option Jvm.ClassFile.FieldType)) B.pre w (hk_in h)⟩
  have hin : meth.name = "<init>" := (name_of_methodNamed B.named B.method).1
  have hx := B.exec
  have hb := B.bytes
  have hr := B.returns
  have hlocks := B.notSynchronized
  have hl := lv_entry ([.ref (g.1 + 39)]) (n := 2) (Nat.le_of_ble_eq_true rfl)
  rw [lg_entry_eq]
  generalize (lg_sl ([.ref (g.1 + 39)]) ++ List.replicate (2 - (lg_sl ([.ref (g.1 + 39)])).length) Slot.unset).toArray = ls at hl ⊢
  have hl : lv_has ls 2 [(0, .ref (g.1 + 39))] := hl
  unfold mX3_init_39 at hsp
  have G : hk_GG g (hk_EE 40 38) S (g.1 + 40) s s.heap [] := G
  refine lv_aload_n hx hb dX3_init_0 rfl (lv_at hl 0 rfl) ?_
  refine hk_obj F9 qw_205 qw_27 qw_28 hl.1 ⟨(Nat.le_of_ble_eq_true rfl), (Nat.le_of_ble_eq_true rfl)⟩ dX3_init_1 ?_
  refine lv_aload_n hx hb dX3_init_4 rfl (lv_at hl 0 rfl) ?_
  refine lv_bipush (v := 8) hx hb dX3_init_5 (by decide) ?_
  refine hk_newQ (E1 := (hk_EE 41 38)) (a := 40) (b := 41) (t := 0) (ln := 8) F9 G rfl ⟨rfl, rfl⟩ (by decide) rfl G.2.2.1.2.2.1 (hk_growE (kd := 14) (ln := 8) (by decide +kernel) (by decide +kernel) (by decide +kernel)) qw_206 (by decide) (by decide) (by decide) ⟨(Nat.le_of_ble_eq_true rfl), (Nat.le_of_ble_eq_true rfl)⟩ dX3_init_7 (fun H G => ?_)
  obtain ⟨S1, eS1, hsp⟩ := hk_l hsp
  rw [eS1] at G
  refine hk_putR (E1 := (hk_EE 41 39)) (a := 39) (r := 40) (k := 0) F9 G (by decide +kernel) hkc_1 (by decide) qw_209 rfl rfl hin rfl (tyX3_ok 0 (by decide)) (fun _ => rfl) (fun _ => rfl) (hk_setE (by decide +kernel) (by decide +kernel)) dX3_init_10 (fun H locs G => ?_)
  refine lv_iconst (v := 0) hx hb dX3_init_13 (by decide) ?_
  refine lv_istore_n (lv' := [(1, .int 0), (0, .ref (g.1 + 39))]) hx hb dX3_init_14 rfl hl (by decide) rfl (fun ls hl => ?_)
  refine lv_iload_n hx hb dX3_init_15 rfl (lv_at hl 0 rfl) ?_
  refine lv_bipush (v := 8) hx hb dX3_init_16 (by decide) ?_
  refine lv_icmp_ge (tgt := 40) hx hb dX3_init_18 (by decide) (fun c2 => ?_) (fun c2 => ?_)
  · exact absurd c2 (by decide)
  · refine lv_aload_n hx hb dX3_init_21 rfl (lv_at hl 1 rfl) ?_
    refine hk_getR (r := 40) F9 G (by decide +kernel) hkc_1 (k := 0) (by decide) qw_209 rfl (by decide +kernel) dX3_init_22 ?_
    refine lv_iload_n hx hb dX3_init_25 rfl (lv_at hl 0 rfl) ?_
    refine hk_new (E1 := (hk_EE 42 39)) (a := 41) (b := 42) F9 G rfl ⟨rfl, rfl⟩ hkc_3 hkd_3 (hk_growE (kd := 4) (ln := 0) (by decide +kernel) (by decide +kernel) (by decide +kernel)) qw_206 qw_30 qw_2 ⟨(Nat.le_of_ble_eq_true rfl), (Nat.le_of_ble_eq_true rfl)⟩ dX3_init_26 (fun H G => ?_)
    obtain ⟨S3, eS3, hsp⟩ := hk_l hsp
    rw [eS3] at G
    refine lv_dup hx hb dX3_init_29 rfl ?_
    obtain ⟨r4, er4, hsp⟩ := hk_b hsp
    refine hk_callI (rest := [.ref (g.1 + 41), .int 0, .ref (g.1 + 40)]) F9 G (kX5_init_41 l g F S3 r4 er4) qi_RX3_17 ⟨rfl, rfl, (Nat.le_of_ble_eq_true rfl), (Nat.le_of_ble_eq_true rfl)⟩ hl.1 (Nat.le_of_ble_eq_true rfl) ⟨(Nat.le_of_ble_eq_true rfl), (Nat.le_of_ble_eq_true rfl)⟩ dX3_init_30 (fun H locs G => ?_)
    refine hk_aast (E1 := (hk_EE 60 58)) (a := 40) (r := 41) (j := 0) (t := 0) (ci := 3) (ln := 8) F9 G (by decide) (by decide +kernel) (by decide +kernel) (by decide) rfl rfl (by decide +kernel) (by decide) (by decide) (by decide) (hk_setE (by decide +kernel) (by decide +kernel)) dX3_init_33 (fun H locs G => ?_)
    refine lv_iinc (v := 1) (lv' := [(1, .int 1), (0, .ref (g.1 + 39))]) hx hb dX3_init_34 hl (k := 0) rfl (by decide) (by decide) rfl (fun ls hl => ?_)
    refine lv_goto (tgt := 15) hx hb dX3_init_37 (by decide) ?_
    refine lv_iload_n hx hb dX3_init_15 rfl (lv_at hl 0 rfl) ?_
    refine lv_bipush (v := 8) hx hb dX3_init_16 (by decide) ?_
    refine lv_icmp_ge (tgt := 40) hx hb dX3_init_18 (by decide) (fun c5 => ?_) (fun c5 => ?_)
    · exact absurd c5 (by decide)
    · refine lv_aload_n hx hb dX3_init_21 rfl (lv_at hl 1 rfl) ?_
      refine hk_getR (r := 40) F9 G (by decide +kernel) hkc_1 (k := 0) (by decide) qw_209 rfl (by decide +kernel) dX3_init_22 ?_
      refine lv_iload_n hx hb dX3_init_25 rfl (lv_at hl 0 rfl) ?_
      refine hk_new (E1 := (hk_EE 61 58)) (a := 60) (b := 61) F9 G rfl ⟨rfl, rfl⟩ hkc_3 hkd_3 (hk_growE (kd := 4) (ln := 0) (by decide +kernel) (by decide +kernel) (by decide +kernel)) qw_206 qw_30 qw_2 ⟨(Nat.le_of_ble_eq_true rfl), (Nat.le_of_ble_eq_true rfl)⟩ dX3_init_26 (fun H G => ?_)
      obtain ⟨S6, eS6, hsp⟩ := hk_l hsp
      rw [eS6] at G
      refine lv_dup hx hb dX3_init_29 rfl ?_
      obtain ⟨r7, er7, hsp⟩ := hk_b hsp
      refine hk_callI (rest := [.ref (g.1 + 60), .int 1, .ref (g.1 + 40)]) F9 G (kX5_init_60 l g F S6 r7 er7) qi_RX3_17 ⟨rfl, rfl, (Nat.le_of_ble_eq_true rfl), (Nat.le_of_ble_eq_true rfl)⟩ hl.1 (Nat.le_of_ble_eq_true rfl) ⟨(Nat.le_of_ble_eq_true rfl), (Nat.le_of_ble_eq_true rfl)⟩ dX3_init_30 (fun H locs G => ?_)
      refine hk_aast (E1 := (hk_EE 79 77)) (a := 40) (r := 60) (j := 1) (t := 0) (ci := 3) (ln := 8) F9 G (by decide) (by decide +kernel) (by decide +kernel) (by decide) rfl rfl (by decide +kernel) (by decide) (by decide) (by decide) (hk_setE (by decide +kernel) (by decide +kernel)) dX3_init_33 (fun H locs G => ?_)
      refine lv_iinc (v := 2) (lv' := [(1, .int 2), (0, .ref (g.1 + 39))]) hx hb dX3_init_34 hl (k := 0) rfl (by decide) (by decide) rfl (fun ls hl => ?_)
      refine lv_goto (tgt := 15) hx hb dX3_init_37 (by decide) ?_
      refine lv_iload_n hx hb dX3_init_15 rfl (lv_at hl 0 rfl) ?_
      refine lv_bipush (v := 8) hx hb dX3_init_16 (by decide) ?_
      refine lv_icmp_ge (tgt := 40) hx hb dX3_init_18 (by decide) (fun c8 => ?_) (fun c8 => ?_)
      · exact absurd c8 (by decide)
      · refine lv_aload_n hx hb dX3_init_21 rfl (lv_at hl 1 rfl) ?_
        refine hk_getR (r := 40) F9 G (by decide +kernel) hkc_1 (k := 0) (by decide) qw_209 rfl (by decide +kernel) dX3_init_22 ?_
        refine lv_iload_n hx hb dX3_init_25 rfl (lv_at hl 0 rfl) ?_
        refine hk_new (E1 := (hk_EE 80 77)) (a := 79) (b := 80) F9 G rfl ⟨rfl, rfl⟩ hkc_3 hkd_3 (hk_growE (kd := 4) (ln := 0) (by decide +kernel) (by decide +kernel) (by decide +kernel)) qw_206 qw_30 qw_2 ⟨(Nat.le_of_ble_eq_true rfl), (Nat.le_of_ble_eq_true rfl)⟩ dX3_init_26 (fun H G => ?_)
        obtain ⟨S9, eS9, hsp⟩ := hk_l hsp
        rw [eS9] at G
        refine lv_dup hx hb dX3_init_29 rfl ?_
        obtain ⟨r10, er10, hsp⟩ := hk_b hsp
        refine hk_callI (rest := [.ref (g.1 + 79), .int 2, .ref (g.1 + 40)]) F9 G (kX5_init_79 l g F S9 r10 er10) qi_RX3_17 ⟨rfl, rfl, (Nat.le_of_ble_eq_true rfl), (Nat.le_of_ble_eq_true rfl)⟩ hl.1 (Nat.le_of_ble_eq_true rfl) ⟨(Nat.le_of_ble_eq_true rfl), (Nat.le_of_ble_eq_true rfl)⟩ dX3_init_30 (fun H locs G => ?_)
        refine hk_aast (E1 := (hk_EE 98 96)) (a := 40) (r := 79) (j := 2) (t := 0) (ci := 3) (ln := 8) F9 G (by decide) (by decide +kernel) (by decide +kernel) (by decide) rfl rfl (by decide +kernel) (by decide) (by decide) (by decide) (hk_setE (by decide +kernel) (by decide +kernel)) dX3_init_33 (fun H locs G => ?_)
        refine lv_iinc (v := 3) (lv' := [(1, .int 3), (0, .ref (g.1 + 39))]) hx hb dX3_init_34 hl (k := 0) rfl (by decide) (by decide) rfl (fun ls hl => ?_)
        refine lv_goto (tgt := 15) hx hb dX3_init_37 (by decide) ?_
        refine lv_iload_n hx hb dX3_init_15 rfl (lv_at hl 0 rfl) ?_
        refine lv_bipush (v := 8) hx hb dX3_init_16 (by decide) ?_
        refine lv_icmp_ge (tgt := 40) hx hb dX3_init_18 (by decide) (fun c11 => ?_) (fun c11 => ?_)
        · exact absurd c11 (by decide)
        · refine lv_aload_n hx hb dX3_init_21 rfl (lv_at hl 1 rfl) ?_
          refine hk_getR (r := 40) F9 G (by decide +kernel) hkc_1 (k := 0) (by decide) qw_209 rfl (by decide +kernel) dX3_init_22 ?_
          refine lv_iload_n hx hb dX3_init_25 rfl (lv_at hl 0 rfl) ?_
          refine hk_new (E1 := (hk_EE 99 96)) (a := 98) (b := 99) F9 G rfl ⟨rfl, rfl⟩ hkc_3 hkd_3 (hk_growE (kd := 4) (ln := 0) (by decide +kernel) (by decide +kernel) (by decide +kernel)) qw_206 qw_30 qw_2 ⟨(Nat.le_of_ble_eq_true rfl), (Nat.le_of_ble_eq_true rfl)⟩ dX3_init_26 (fun H G => ?_)
          obtain ⟨S12, eS12, hsp⟩ := hk_l hsp
          rw [eS12] at G
          refine lv_dup hx hb dX3_init_29 rfl ?_
          obtain ⟨r13, er13, hsp⟩ := hk_b hsp
          refine hk_callI (rest := [.ref (g.1 + 98), .int 3, .ref (g.1 + 40)]) F9 G (kX5_init_98 l g F S12 r13 er13) qi_RX3_17 ⟨rfl, rfl, (Nat.le_of_ble_eq_true rfl), (Nat.le_of_ble_eq_true rfl)⟩ hl.1 (Nat.le_of_ble_eq_true rfl) ⟨(Nat.le_of_ble_eq_true rfl), (Nat.le_of_ble_eq_true rfl)⟩ dX3_init_30 (fun H locs G => ?_)
          refine hk_aast (E1 := (hk_EE 117 115)) (a := 40) (r := 98) (j := 3) (t := 0) (ci := 3) (ln := 8) F9 G (by decide) (by decide +kernel) (by decide +kernel) (by decide) rfl rfl (by decide +kernel) (by decide) (by decide) (by decide) (hk_setE (by decide +kernel) (by decide +kernel)) dX3_init_33 (fun H locs G => ?_)
          refine lv_iinc (v := 4) (lv' := [(1, .int 4), (0, .ref (g.1 + 39))]) hx hb dX3_init_34 hl (k := 0) rfl (by decide) (by decide) rfl (fun ls hl => ?_)
          refine lv_goto (tgt := 15) hx hb dX3_init_37 (by decide) ?_
          refine lv_iload_n hx hb dX3_init_15 rfl (lv_at hl 0 rfl) ?_
          refine lv_bipush (v := 8) hx hb dX3_init_16 (by decide) ?_
          refine lv_icmp_ge (tgt := 40) hx hb dX3_init_18 (by decide) (fun c14 => ?_) (fun c14 => ?_)
          · exact absurd c14 (by decide)
          · refine lv_aload_n hx hb dX3_init_21 rfl (lv_at hl 1 rfl) ?_
            refine hk_getR (r := 40) F9 G (by decide +kernel) hkc_1 (k := 0) (by decide) qw_209 rfl (by decide +kernel) dX3_init_22 ?_
            refine lv_iload_n hx hb dX3_init_25 rfl (lv_at hl 0 rfl) ?_
            refine hk_new (E1 := (hk_EE 118 115)) (a := 117) (b := 118) F9 G rfl ⟨rfl, rfl⟩ hkc_3 hkd_3 (hk_growE (kd := 4) (ln := 0) (by decide +kernel) (by decide +kernel) (by decide +kernel)) qw_206 qw_30 qw_2 ⟨(Nat.le_of_ble_eq_true rfl), (Nat.le_of_ble_eq_true rfl)⟩ dX3_init_26 (fun H G => ?_)
            obtain ⟨S15, eS15, hsp⟩ := hk_l hsp
            rw [eS15] at G
            refine lv_dup hx hb dX3_init_29 rfl ?_
            obtain ⟨r16, er16, hsp⟩ := hk_b hsp
            refine hk_callI (rest := [.ref (g.1 + 117), .int 4, .ref (g.1 + 40)]) F9 G (kX5_init_117 l g F S15 r16 er16) qi_RX3_17 ⟨rfl, rfl, (Nat.le_of_ble_eq_true rfl), (Nat.le_of_ble_eq_true rfl)⟩ hl.1 (Nat.le_of_ble_eq_true rfl) ⟨(Nat.le_of_ble_eq_true rfl), (Nat.le_of_ble_eq_true rfl)⟩ dX3_init_30 (fun H locs G => ?_)
            refine hk_aast (E1 := (hk_EE 136 134)) (a := 40) (r := 117) (j := 4) (t := 0) (ci := 3) (ln := 8) F9 G (by decide) (by decide +kernel) (by decide +kernel) (by decide) rfl rfl (by decide +kernel) (by decide) (by decide) (by decide) (hk_setE (by decide +kernel) (by decide +kernel)) dX3_init_33 (fun H locs G => ?_)
            refine lv_iinc (v := 5) (lv' := [(1, .int 5), (0, .ref (g.1 + 39))]) hx hb dX3_init_34 hl (k := 0) rfl (by decide) (by decide) rfl (fun ls hl => ?_)
            refine lv_goto (tgt := 15) hx hb dX3_init_37 (by decide) ?_
            refine lv_iload_n hx hb dX3_init_15 rfl (lv_at hl 0 rfl) ?_
            refine lv_bipush (v := 8) hx hb dX3_init_16 (by decide) ?_
            refine lv_icmp_ge (tgt := 40) hx hb dX3_init_18 (by decide) (fun c17 => ?_) (fun c17 => ?_)
            · exact absurd c17 (by decide)
            · refine lv_aload_n hx hb dX3_init_21 rfl (lv_at hl 1 rfl) ?_
              refine hk_getR (r := 40) F9 G (by decide +kernel) hkc_1 (k := 0) (by decide) qw_209 rfl (by decide +kernel) dX3_init_22 ?_
              refine lv_iload_n hx hb dX3_init_25 rfl (lv_at hl 0 rfl) ?_
              refine hk_new (E1 := (hk_EE 137 134)) (a := 136) (b := 137) F9 G rfl ⟨rfl, rfl⟩ hkc_3 hkd_3 (hk_growE (kd := 4) (ln := 0) (by decide +kernel) (by decide +kernel) (by decide +kernel)) qw_206 qw_30 qw_2 ⟨(Nat.le_of_ble_eq_true rfl), (Nat.le_of_ble_eq_true rfl)⟩ dX3_init_26 (fun H G => ?_)
              obtain ⟨S18, eS18, hsp⟩ := hk_l hsp
              rw [eS18] at G
              refine lv_dup hx hb dX3_init_29 rfl ?_
              obtain ⟨r19, er19, hsp⟩ := hk_b hsp
              refine hk_callI (rest := [.ref (g.1 + 136), .int 5, .ref (g.1 + 40)]) F9 G (kX5_init_136 l g F S18 r19 er19) qi_RX3_17 ⟨rfl, rfl, (Nat.le_of_ble_eq_true rfl), (Nat.le_of_ble_eq_true rfl)⟩ hl.1 (Nat.le_of_ble_eq_true rfl) ⟨(Nat.le_of_ble_eq_true rfl), (Nat.le_of_ble_eq_true rfl)⟩ dX3_init_30 (fun H locs G => ?_)
              refine hk_aast (E1 := (hk_EE 155 153)) (a := 40) (r := 136) (j := 5) (t := 0) (ci := 3) (ln := 8) F9 G (by decide) (by decide +kernel) (by decide +kernel) (by decide) rfl rfl (by decide +kernel) (by decide) (by decide) (by decide) (hk_setE (by decide +kernel) (by decide +kernel)) dX3_init_33 (fun H locs G => ?_)
              refine lv_iinc (v := 6) (lv' := [(1, .int 6), (0, .ref (g.1 + 39))]) hx hb dX3_init_34 hl (k := 0) rfl (by decide) (by decide) rfl (fun ls hl => ?_)
              refine lv_goto (tgt := 15) hx hb dX3_init_37 (by decide) ?_
              refine lv_iload_n hx hb dX3_init_15 rfl (lv_at hl 0 rfl) ?_
              refine lv_bipush (v := 8) hx hb dX3_init_16 (by decide) ?_
              refine lv_icmp_ge (tgt := 40) hx hb dX3_init_18 (by decide) (fun c20 => ?_) (fun c20 => ?_)
              · exact absurd c20 (by decide)
              · refine lv_aload_n hx hb dX3_init_21 rfl (lv_at hl 1 rfl) ?_
                refine hk_getR (r := 40) F9 G (by decide +kernel) hkc_1 (k := 0) (by decide) qw_209 rfl (by decide +kernel) dX3_init_22 ?_
                refine lv_iload_n hx hb dX3_init_25 rfl (lv_at hl 0 rfl) ?_
                refine hk_new (E1 := (hk_EE 156 153)) (a := 155) (b := 156) F9 G rfl ⟨rfl, rfl⟩ hkc_3 hkd_3 (hk_growE (kd := 4) (ln := 0) (by decide +kernel) (by decide +kernel) (by decide +kernel)) qw_206 qw_30 qw_2 ⟨(Nat.le_of_ble_eq_true rfl), (Nat.le_of_ble_eq_true rfl)⟩ dX3_init_26 (fun H G => ?_)
                obtain ⟨S21, eS21, hsp⟩ := hk_l hsp
                rw [eS21] at G
                refine lv_dup hx hb dX3_init_29 rfl ?_
                obtain ⟨r22, er22, hsp⟩ := hk_b hsp
                refine hk_callI (rest := [.ref (g.1 + 155), .int 6, .ref (g.1 + 40)]) F9 G (kX5_init_155 l g F S21 r22 er22) qi_RX3_17 ⟨rfl, rfl, (Nat.le_of_ble_eq_true rfl), (Nat.le_of_ble_eq_true rfl)⟩ hl.1 (Nat.le_of_ble_eq_true rfl) ⟨(Nat.le_of_ble_eq_true rfl), (Nat.le_of_ble_eq_true rfl)⟩ dX3_init_30 (fun H locs G => ?_)
                refine hk_aast (E1 := (hk_EE 174 172)) (a := 40) (r := 155) (j := 6) (t := 0) (ci := 3) (ln := 8) F9 G (by decide) (by decide +kernel) (by decide +kernel) (by decide) rfl rfl (by decide +kernel) (by decide) (by decide) (by decide) (hk_setE (by decide +kernel) (by decide +kernel)) dX3_init_33 (fun H locs G => ?_)
                refine lv_iinc (v := 7) (lv' := [(1, .int 7), (0, .ref (g.1 + 39))]) hx hb dX3_init_34 hl (k := 0) rfl (by decide) (by decide) rfl (fun ls hl => ?_)
                refine lv_goto (tgt := 15) hx hb dX3_init_37 (by decide) ?_
                refine lv_iload_n hx hb dX3_init_15 rfl (lv_at hl 0 rfl) ?_
                refine lv_bipush (v := 8) hx hb dX3_init_16 (by decide) ?_
                refine lv_icmp_ge (tgt := 40) hx hb dX3_init_18 (by decide) (fun c23 => ?_) (fun c23 => ?_)
                · exact absurd c23 (by decide)
                · refine lv_aload_n hx hb dX3_init_21 rfl (lv_at hl 1 rfl) ?_
                  refine hk_getR (r := 40) F9 G (by decide +kernel) hkc_1 (k := 0) (by decide) qw_209 rfl (by decide +kernel) dX3_init_22 ?_
                  refine lv_iload_n hx hb dX3_init_25 rfl (lv_at hl 0 rfl) ?_
                  refine hk_new (E1 := (hk_EE 175 172)) (a := 174) (b := 175) F9 G rfl ⟨rfl, rfl⟩ hkc_3 hkd_3 (hk_growE (kd := 4) (ln := 0) (by decide +kernel) (by decide +kernel) (by decide +kernel)) qw_206 qw_30 qw_2 ⟨(Nat.le_of_ble_eq_true rfl), (Nat.le_of_ble_eq_true rfl)⟩ dX3_init_26 (fun H G => ?_)
                  obtain ⟨S24, eS24, hsp⟩ := hk_l hsp
                  rw [eS24] at G
                  refine lv_dup hx hb dX3_init_29 rfl ?_
                  obtain ⟨r25, er25, hsp⟩ := hk_b hsp
                  refine hk_callI (rest := [.ref (g.1 + 174), .int 7, .ref (g.1 + 40)]) F9 G (kX5_init_174 l g F S24 r25 er25) qi_RX3_17 ⟨rfl, rfl, (Nat.le_of_ble_eq_true rfl), (Nat.le_of_ble_eq_true rfl)⟩ hl.1 (Nat.le_of_ble_eq_true rfl) ⟨(Nat.le_of_ble_eq_true rfl), (Nat.le_of_ble_eq_true rfl)⟩ dX3_init_30 (fun H locs G => ?_)
                  refine hk_aast (E1 := (hk_EE 193 191)) (a := 40) (r := 174) (j := 7) (t := 0) (ci := 3) (ln := 8) F9 G (by decide) (by decide +kernel) (by decide +kernel) (by decide) rfl rfl (by decide +kernel) (by decide) (by decide) (by decide) (hk_setE (by decide +kernel) (by decide +kernel)) dX3_init_33 (fun H locs G => ?_)
                  refine lv_iinc (v := 8) (lv' := [(1, .int 8), (0, .ref (g.1 + 39))]) hx hb dX3_init_34 hl (k := 0) rfl (by decide) (by decide) rfl (fun ls hl => ?_)
                  refine lv_goto (tgt := 15) hx hb dX3_init_37 (by decide) ?_
                  refine lv_iload_n hx hb dX3_init_15 rfl (lv_at hl 0 rfl) ?_
                  refine lv_bipush (v := 8) hx hb dX3_init_16 (by decide) ?_
                  refine lv_icmp_ge (tgt := 40) hx hb dX3_init_18 (by decide) (fun c26 => ?_) (fun c26 => ?_)
                  · obtain rfl := hk_s hsp
                    exact W.vret hx hb hr (fun t ht hW => hk_end G ht hW) G.2.1.2.2 dX3_init_40
                  · exact absurd c26 (by decide)
def mX4_init_194 (F : Nat) (S : hk_S) : Option (hk_S) :=
hk_let (va_up S 195 (fun _ => 0)) (fun S1 => some (S1))
set_option maxHeartbeats 4000000 in
set_option maxRecDepth 100000 in
theorem kX4_init_194 (l : Launch) (g : hk_G) (F : Nat) (S : hk_S) (o : hk_S) (hsp : mX4_init_194 F S = some o) : Met l yX4_init (hk_ws yX4_init cX4_init 1 (Option.none : Option Jvm.ClassFile.FieldType)) ({ frames := 1, cells := 1, slots := 600, locals := 12 }) (hk_Pc g (hk_EE 195 192) S (g.1 + 195) [.ref (g.1 + 194)]) (hk_Q g (hk_EE 196 193) o (g.1 + 196) none) 1 600 (hk_A g) := by
  refine Met.ofW (cc := cX4_init) (maxL := 1) (ret := (Option.none : Option Jvm.ClassFile.FieldType)) (by decide) rfl ?_
  intro p e s m args below meth c s₁ B hml hv
  obtain ⟨rfl, G⟩ := hk_begin hv
  have F9 : CallFix p m c cX4_init 1 s [.ref (g.1 + 194)].toArray hk_W RX4 := ⟨B.exec, B.bytes, hml, findClass_of_methodNamed B.named, fun w h => atoms_spec (ws := hk_ws yX4_init cX4_init 1 (Option.none : Option Jvm.ClassFile.FieldType)) B.pre w (hk_in h)⟩
  have hin : meth.name = "<init>" := (name_of_methodNamed B.named B.method).1
  have hx := B.exec
  have hb := B.bytes
  have hr := B.returns
  have hlocks := B.notSynchronized
  have hl := lv_entry ([.ref (g.1 + 194)]) (n := 1) (Nat.le_of_ble_eq_true rfl)
  rw [lg_entry_eq]
  generalize (lg_sl ([.ref (g.1 + 194)]) ++ List.replicate (1 - (lg_sl ([.ref (g.1 + 194)])).length) Slot.unset).toArray = ls at hl ⊢
  have hl : lv_has ls 1 [(0, .ref (g.1 + 194))] := hl
  unfold mX4_init_194 at hsp
  have G : hk_GG g (hk_EE 195 192) S (g.1 + 195) s s.heap [] := G
  refine lv_aload_n hx hb dX4_init_0 rfl (lv_at hl 0 rfl) ?_
  refine hk_obj F9 qw_231 qw_27 qw_28 hl.1 ⟨(Nat.le_of_ble_eq_true rfl), (Nat.le_of_ble_eq_true rfl)⟩ dX4_init_1 ?_
  refine lv_aload_n hx hb dX4_init_4 rfl (lv_at hl 0 rfl) ?_
  refine lv_sipush (v := 600) hx hb dX4_init_5 (by decide) ?_
  refine hk_newA (E1 := (hk_EE 196 192)) (a := 195) (b := 196) (ft := .byte) (t := 0) (ln := 600) (kd := 11) F9 G rfl ⟨rfl, rfl⟩ rfl (fun _ h => nomatch h) rfl (fun I _ => hk_cell_i (t := 0) (by decide)) rfl (hk_growE (kd := 11) (ln := 600) (by decide +kernel) (by decide +kernel) (by decide +kernel)) qw_238 (by decide) (by decide) (by decide) ⟨(Nat.le_of_ble_eq_true rfl), (Nat.le_of_ble_eq_true rfl)⟩ dX4_init_8 (fun H G => ?_)
  obtain ⟨S1, eS1, hsp⟩ := hk_l hsp
  rw [eS1] at G
  refine hk_putR (E1 := (hk_EE 196 193)) (a := 194) (r := 195) (k := 0) F9 G (by decide +kernel) hkc_2 (by decide) qw_232 rfl rfl hin rfl (tyX4_ok 0 (by decide)) (fun _ => rfl) (fun _ => rfl) (hk_setE (by decide +kernel) (by decide +kernel)) dX4_init_10 (fun H locs G => ?_)
  obtain rfl := hk_s hsp
  exact W.vret hx hb hr (fun t ht hW => hk_end G ht hW) G.2.1.2.2 dX4_init_13
def mX1_init_197 (F : Nat) (S : hk_S) : Option (hk_S) :=
hk_let (va_up S 198 (fun _ => 0)) (fun S1 => some (S1))
set_option maxHeartbeats 4000000 in
set_option maxRecDepth 100000 in
theorem kX1_init_197 (l : Launch) (g : hk_G) (F : Nat) (S : hk_S) (o : hk_S) (hsp : mX1_init_197 F S = some o) : Met l yX1_init (hk_ws yX1_init cX1_init 1 (Option.none : Option Jvm.ClassFile.FieldType)) ({ frames := 1, cells := 1, slots := 3, locals := 12 }) (hk_Pc g (hk_EE 198 194) S (g.1 + 198) [.ref (g.1 + 197)]) (hk_Q g (hk_EE 199 195) o (g.1 + 199) none) 1 3 (hk_A g) := by
  refine Met.ofW (cc := cX1_init) (maxL := 1) (ret := (Option.none : Option Jvm.ClassFile.FieldType)) (by decide) rfl ?_
  intro p e s m args below meth c s₁ B hml hv
  obtain ⟨rfl, G⟩ := hk_begin hv
  have F9 : CallFix p m c cX1_init 1 s [.ref (g.1 + 197)].toArray hk_W RX1 := ⟨B.exec, B.bytes, hml, findClass_of_methodNamed B.named, fun w h => atoms_spec (ws := hk_ws yX1_init cX1_init 1 (Option.none : Option Jvm.ClassFile.FieldType)) B.pre w (hk_in h)⟩
  have hin : meth.name = "<init>" := (name_of_methodNamed B.named B.method).1
  have hx := B.exec
  have hb := B.bytes
  have hr := B.returns
  have hlocks := B.notSynchronized
  have hl := lv_entry ([.ref (g.1 + 197)]) (n := 1) (Nat.le_of_ble_eq_true rfl)
  rw [lg_entry_eq]
  generalize (lg_sl ([.ref (g.1 + 197)]) ++ List.replicate (1 - (lg_sl ([.ref (g.1 + 197)])).length) Slot.unset).toArray = ls at hl ⊢
  have hl : lv_has ls 1 [(0, .ref (g.1 + 197))] := hl
  unfold mX1_init_197 at hsp
  have G : hk_GG g (hk_EE 198 194) S (g.1 + 198) s s.heap [] := G
  refine lv_aload_n hx hb dX1_init_0 rfl (lv_at hl 0 rfl) ?_
  refine hk_obj F9 qw_40 qw_27 qw_28 hl.1 ⟨(Nat.le_of_ble_eq_true rfl), (Nat.le_of_ble_eq_true rfl)⟩ dX1_init_1 ?_
  refine lv_aload_n hx hb dX1_init_4 rfl (lv_at hl 0 rfl) ?_
  refine lv_iconst (v := 3) hx hb dX1_init_5 (by decide) ?_
  refine hk_newA (E1 := (hk_EE 199 194)) (a := 198) (b := 199) (ft := .int) (t := 2) (ln := 3) (kd := 13) F9 G rfl ⟨rfl, rfl⟩ rfl (fun _ h => nomatch h) rfl (fun I _ => hk_cell_i (t := 2) (by decide)) rfl (hk_growE (kd := 13) (ln := 3) (by decide +kernel) (by decide +kernel) (by decide +kernel)) qw_62 (by decide) (by decide) (by decide) ⟨(Nat.le_of_ble_eq_true rfl), (Nat.le_of_ble_eq_true rfl)⟩ dX1_init_6 (fun H G => ?_)
  obtain ⟨S1, eS1, hsp⟩ := hk_l hsp
  rw [eS1] at G
  refine hk_putR (E1 := (hk_EE 199 195)) (a := 197) (r := 198) (k := 4) F9 G (by decide +kernel) hkc_0 (by decide) qw_50 rfl rfl hin rfl (tyX1_ok 4 (by decide)) (fun _ => rfl) (fun _ => rfl) (hk_setE (by decide +kernel) (by decide +kernel)) dX1_init_8 (fun H locs G => ?_)
  obtain rfl := hk_s hsp
  exact W.vret hx hb hr (fun t ht hW => hk_end G ht hW) G.2.1.2.2 dX1_init_11
def mX5_init_196 (F : Nat) (S : hk_S) : Option (hk_S) :=
hk_let (va_up S 197 (hk_i0 0)) (fun S1 => (mX1_init_197 F S1).bind (fun r2 => hk_let (va_up r2 199 (fun _ => 0)) (fun S3 => hk_let (va_up S3 200 (fun _ => 0)) (fun S4 => hk_let (va_up S4 201 (hk_i0 7)) (fun S6 => (mX10_init (hk_EE 202 198) F S6 201).bind (fun r7 => hk_let (va_up r7 202 (hk_i0 7)) (fun S9 => (mX10_init (hk_EE 203 199) F S9 202).bind (fun r10 => hk_let (va_up r10 203 (hk_i0 7)) (fun S12 => (mX10_init (hk_EE 204 200) F S12 203).bind (fun r13 => hk_let (va_up r13 204 (hk_i0 7)) (fun S15 => (mX10_init (hk_EE 205 201) F S15 204).bind (fun r16 => hk_let (va_up r16 205 (hk_i0 7)) (fun S18 => (mX10_init (hk_EE 206 202) F S18 205).bind (fun r19 => hk_let (va_up r19 206 (hk_i0 7)) (fun S21 => (mX10_init (hk_EE 207 203) F S21 206).bind (fun r22 => hk_let (va_up r22 207 (hk_i0 7)) (fun S24 => (mX10_init (hk_EE 208 204) F S24 207).bind (fun r25 => hk_let (va_up r25 208 (hk_i0 7)) (fun S27 => (mX10_init (hk_EE 209 205) F S27 208).bind (fun r28 => hk_let (va_up r28 209 (hk_i0 4)) (fun S31 => (mX6_init (hk_EE 210 206) F S31 209).bind (fun r32 => hk_let (va_up r32 210 (hk_i0 4)) (fun S34 => (mX6_init (hk_EE 211 207) F S34 210).bind (fun r35 => hk_let (va_up r35 211 (hk_i0 4)) (fun S37 => (mX6_init (hk_EE 212 208) F S37 211).bind (fun r38 => hk_let (va_up r38 212 (hk_i0 4)) (fun S40 => (mX6_init (hk_EE 213 209) F S40 212).bind (fun r41 => hk_let (va_up r41 213 (hk_i0 4)) (fun S43 => (mX6_init (hk_EE 214 210) F S43 213).bind (fun r44 => hk_let (va_up r44 214 (hk_i0 4)) (fun S46 => (mX6_init (hk_EE 215 211) F S46 214).bind (fun r47 => (mX5_clear (hk_EE 215 212) F r47 196).bind (fun r49 => some (r49))))))))))))))))))))))))))))))))))
set_option maxHeartbeats 4000000 in
set_option maxRecDepth 100000 in
theorem kX5_init_196 (l : Launch) (g : hk_G) (F : Nat) (S : hk_S) (o : hk_S) (hsp : mX5_init_196 F S = some o) : Met l yX5_init (hk_ws yX5_init cX5_init 2 (Option.none : Option Jvm.ClassFile.FieldType)) ({ frames := 3, cells := 18, slots := 120, locals := 62 }) (hk_Pc g (hk_EE 197 194) S (g.1 + 197) [.ref (g.1 + 196)]) (hk_Q g (hk_EE 215 212) o (g.1 + 215) none) 18 120 (hk_A g) := by
  refine Met.ofW (cc := cX5_init) (maxL := 2) (ret := (Option.none : Option Jvm.ClassFile.FieldType)) (by decide) rfl ?_
  intro p e s m args below meth c s₁ B hml hv
  obtain ⟨rfl, G⟩ := hk_begin hv
  have F9 : CallFix p m c cX5_init 2 s [.ref (g.1 + 196)].toArray hk_W RX5 := ⟨B.exec, B.bytes, hml, findClass_of_methodNamed B.named, fun w h => atoms_spec (ws := hk_ws yX5_init cX5_init 2 (Option.none : Option Jvm.ClassFile.FieldType)) B.pre w (hk_in h)⟩
  have hin : meth.name = "<init>" := (name_of_methodNamed B.named B.method).1
  have hx := B.exec
  have hb := B.bytes
  have hr := B.returns
  have hlocks := B.notSynchronized
  have hl := lv_entry ([.ref (g.1 + 196)]) (n := 2) (Nat.le_of_ble_eq_true rfl)
  rw [lg_entry_eq]
  generalize (lg_sl ([.ref (g.1 + 196)]) ++ List.replicate (2 - (lg_sl ([.ref (g.1 + 196)])).length) Slot.unset).toArray = ls at hl ⊢
  have hl : lv_has ls 2 [(0, .ref (g.1 + 196))] := hl
  unfold mX5_init_196 at hsp
  have G : hk_GG g (hk_EE 197 194) S (g.1 + 197) s s.heap [] := G
  refine lv_aload_n hx hb dX5_init_0 rfl (lv_at hl 0 rfl) ?_
  refine hk_obj F9 qw_34 qw_27 qw_28 hl.1 ⟨(Nat.le_of_ble_eq_true rfl), (Nat.le_of_ble_eq_true rfl)⟩ dX5_init_1 ?_
  refine lv_aload_n hx hb dX5_init_4 rfl (lv_at hl 0 rfl) ?_
  refine hk_new (E1 := (hk_EE 198 194)) (a := 197) (b := 198) F9 G rfl ⟨rfl, rfl⟩ hkc_0 hkd_0 (hk_growE (kd := 1) (ln := 0) (by decide +kernel) (by decide +kernel) (by decide +kernel)) qw_35 qw_36 qw_3 ⟨(Nat.le_of_ble_eq_true rfl), (Nat.le_of_ble_eq_true rfl)⟩ dX5_init_5 (fun H G => ?_)
  obtain ⟨S1, eS1, hsp⟩ := hk_l hsp
  rw [eS1] at G
  refine lv_dup hx hb dX5_init_8 rfl ?_
  obtain ⟨r2, er2, hsp⟩ := hk_b hsp
  refine hk_callIN (rest := [.ref (g.1 + 197), .ref (g.1 + 196)]) F9 G (kX1_init_197 l g F S1 r2 er2) qin_RX5_11 ⟨rfl, rfl, (Nat.le_of_ble_eq_true rfl), (Nat.le_of_ble_eq_true rfl)⟩ hl.1 (Nat.le_of_ble_eq_true rfl) ⟨(Nat.le_of_ble_eq_true rfl), (Nat.le_of_ble_eq_true rfl)⟩ dX5_init_9 (fun H locs G => ?_)
  refine hk_putR (E1 := (hk_EE 199 196)) (a := 196) (r := 197) (k := 0) F9 G (by decide +kernel) hkc_3 (by decide) qw_153 rfl rfl hin rfl (tyX5_ok 0 (by decide)) (fun _ => rfl) (fun _ => rfl) (hk_setE (by decide +kernel) (by decide +kernel)) dX5_init_12 (fun H locs G => ?_)
  refine lv_aload_n hx hb dX5_init_15 rfl (lv_at hl 0 rfl) ?_
  refine lv_bipush (v := 8) hx hb dX5_init_16 (by decide) ?_
  refine hk_newQ (E1 := (hk_EE 200 196)) (a := 199) (b := 200) (t := 2) (ln := 8) F9 G rfl ⟨rfl, rfl⟩ (by decide) rfl G.2.2.1.2.2.2.2 (hk_growE (kd := 16) (ln := 8) (by decide +kernel) (by decide +kernel) (by decide +kernel)) qw_63 (by decide) (by decide) (by decide) ⟨(Nat.le_of_ble_eq_true rfl), (Nat.le_of_ble_eq_true rfl)⟩ dX5_init_18 (fun H G => ?_)
  obtain ⟨S3, eS3, hsp⟩ := hk_l hsp
  rw [eS3] at G
  refine hk_putR (E1 := (hk_EE 200 197)) (a := 196) (r := 199) (k := 1) F9 G (by decide +kernel) hkc_3 (by decide) qw_155 rfl rfl hin rfl (tyX5_ok 1 (by decide)) (fun _ => rfl) (fun _ => rfl) (hk_setE (by decide +kernel) (by decide +kernel)) dX5_init_21 (fun H locs G => ?_)
  refine lv_aload_n hx hb dX5_init_24 rfl (lv_at hl 0 rfl) ?_
  refine lv_bipush (v := 6) hx hb dX5_init_25 (by decide) ?_
  refine hk_newQ (E1 := (hk_EE 201 197)) (a := 200) (b := 201) (t := 1) (ln := 6) F9 G rfl ⟨rfl, rfl⟩ (by decide) rfl G.2.2.1.2.2.2.1 (hk_growE (kd := 15) (ln := 6) (by decide +kernel) (by decide +kernel) (by decide +kernel)) qw_65 (by decide) (by decide) (by decide) ⟨(Nat.le_of_ble_eq_true rfl), (Nat.le_of_ble_eq_true rfl)⟩ dX5_init_27 (fun H G => ?_)
  obtain ⟨S4, eS4, hsp⟩ := hk_l hsp
  rw [eS4] at G
  refine hk_putR (E1 := (hk_EE 201 198)) (a := 196) (r := 200) (k := 3) F9 G (by decide +kernel) hkc_3 (by decide) qw_158 rfl rfl hin rfl (tyX5_ok 3 (by decide)) (fun _ => rfl) (fun _ => rfl) (hk_setE (by decide +kernel) (by decide +kernel)) dX5_init_30 (fun H locs G => ?_)
  refine lv_iconst (v := 0) hx hb dX5_init_33 (by decide) ?_
  refine lv_istore_n (lv' := [(1, .int 0), (0, .ref (g.1 + 196))]) hx hb dX5_init_34 rfl hl (by decide) rfl (fun ls hl => ?_)
  refine lv_iload_n hx hb dX5_init_35 rfl (lv_at hl 0 rfl) ?_
  refine lv_bipush (v := 8) hx hb dX5_init_36 (by decide) ?_
  refine lv_icmp_ge (tgt := 60) hx hb dX5_init_38 (by decide) (fun c5 => ?_) (fun c5 => ?_)
  · exact absurd c5 (by decide)
  · refine lv_aload_n hx hb dX5_init_41 rfl (lv_at hl 1 rfl) ?_
    refine hk_getR (r := 199) F9 G (by decide +kernel) hkc_3 (k := 1) (by decide) qw_155 rfl (by decide +kernel) dX5_init_42 ?_
    refine lv_iload_n hx hb dX5_init_45 rfl (lv_at hl 0 rfl) ?_
    refine hk_new (E1 := (hk_EE 202 198)) (a := 201) (b := 202) F9 G rfl ⟨rfl, rfl⟩ hkc_7 hkd_7 (hk_growE (kd := 8) (ln := 0) (by decide +kernel) (by decide +kernel) (by decide +kernel)) qw_63 qw_67 qw_4 ⟨(Nat.le_of_ble_eq_true rfl), (Nat.le_of_ble_eq_true rfl)⟩ dX5_init_46 (fun H G => ?_)
    obtain ⟨S6, eS6, hsp⟩ := hk_l hsp
    rw [eS6] at G
    refine lv_dup hx hb dX5_init_49 rfl ?_
    obtain ⟨r7, er7, hsp⟩ := hk_b hsp
    refine hk_callIN (rest := [.ref (g.1 + 201), .int 0, .ref (g.1 + 199)]) F9 G (kX10_init l g (hk_EE 202 198) F (g.1 + 202) S6 201 r7 (by decide +kernel) er7) qin_RX5_30 ⟨rfl, rfl, (Nat.le_of_ble_eq_true rfl), (Nat.le_of_ble_eq_true rfl)⟩ hl.1 (Nat.le_of_ble_eq_true rfl) ⟨(Nat.le_of_ble_eq_true rfl), (Nat.le_of_ble_eq_true rfl)⟩ dX5_init_50 (fun H locs G => ?_)
    refine hk_aast (E1 := (hk_EE 202 199)) (a := 199) (r := 201) (j := 0) (t := 2) (ci := 7) (ln := 8) F9 G (by decide) (by decide +kernel) (by decide +kernel) (by decide) rfl rfl (by decide +kernel) (by decide) (by decide) (by decide) (hk_setE (by decide +kernel) (by decide +kernel)) dX5_init_53 (fun H locs G => ?_)
    refine lv_iinc (v := 1) (lv' := [(1, .int 1), (0, .ref (g.1 + 196))]) hx hb dX5_init_54 hl (k := 0) rfl (by decide) (by decide) rfl (fun ls hl => ?_)
    refine lv_goto (tgt := 35) hx hb dX5_init_57 (by decide) ?_
    refine lv_iload_n hx hb dX5_init_35 rfl (lv_at hl 0 rfl) ?_
    refine lv_bipush (v := 8) hx hb dX5_init_36 (by decide) ?_
    refine lv_icmp_ge (tgt := 60) hx hb dX5_init_38 (by decide) (fun c8 => ?_) (fun c8 => ?_)
    · exact absurd c8 (by decide)
    · refine lv_aload_n hx hb dX5_init_41 rfl (lv_at hl 1 rfl) ?_
      refine hk_getR (r := 199) F9 G (by decide +kernel) hkc_3 (k := 1) (by decide) qw_155 rfl (by decide +kernel) dX5_init_42 ?_
      refine lv_iload_n hx hb dX5_init_45 rfl (lv_at hl 0 rfl) ?_
      refine hk_new (E1 := (hk_EE 203 199)) (a := 202) (b := 203) F9 G rfl ⟨rfl, rfl⟩ hkc_7 hkd_7 (hk_growE (kd := 8) (ln := 0) (by decide +kernel) (by decide +kernel) (by decide +kernel)) qw_63 qw_67 qw_4 ⟨(Nat.le_of_ble_eq_true rfl), (Nat.le_of_ble_eq_true rfl)⟩ dX5_init_46 (fun H G => ?_)
      obtain ⟨S9, eS9, hsp⟩ := hk_l hsp
      rw [eS9] at G
      refine lv_dup hx hb dX5_init_49 rfl ?_
      obtain ⟨r10, er10, hsp⟩ := hk_b hsp
      refine hk_callIN (rest := [.ref (g.1 + 202), .int 1, .ref (g.1 + 199)]) F9 G (kX10_init l g (hk_EE 203 199) F (g.1 + 203) S9 202 r10 (by decide +kernel) er10) qin_RX5_30 ⟨rfl, rfl, (Nat.le_of_ble_eq_true rfl), (Nat.le_of_ble_eq_true rfl)⟩ hl.1 (Nat.le_of_ble_eq_true rfl) ⟨(Nat.le_of_ble_eq_true rfl), (Nat.le_of_ble_eq_true rfl)⟩ dX5_init_50 (fun H locs G => ?_)
      refine hk_aast (E1 := (hk_EE 203 200)) (a := 199) (r := 202) (j := 1) (t := 2) (ci := 7) (ln := 8) F9 G (by decide) (by decide +kernel) (by decide +kernel) (by decide) rfl rfl (by decide +kernel) (by decide) (by decide) (by decide) (hk_setE (by decide +kernel) (by decide +kernel)) dX5_init_53 (fun H locs G => ?_)
      refine lv_iinc (v := 2) (lv' := [(1, .int 2), (0, .ref (g.1 + 196))]) hx hb dX5_init_54 hl (k := 0) rfl (by decide) (by decide) rfl (fun ls hl => ?_)
      refine lv_goto (tgt := 35) hx hb dX5_init_57 (by decide) ?_
      refine lv_iload_n hx hb dX5_init_35 rfl (lv_at hl 0 rfl) ?_
      refine lv_bipush (v := 8) hx hb dX5_init_36 (by decide) ?_
      refine lv_icmp_ge (tgt := 60) hx hb dX5_init_38 (by decide) (fun c11 => ?_) (fun c11 => ?_)
      · exact absurd c11 (by decide)
      · refine lv_aload_n hx hb dX5_init_41 rfl (lv_at hl 1 rfl) ?_
        refine hk_getR (r := 199) F9 G (by decide +kernel) hkc_3 (k := 1) (by decide) qw_155 rfl (by decide +kernel) dX5_init_42 ?_
        refine lv_iload_n hx hb dX5_init_45 rfl (lv_at hl 0 rfl) ?_
        refine hk_new (E1 := (hk_EE 204 200)) (a := 203) (b := 204) F9 G rfl ⟨rfl, rfl⟩ hkc_7 hkd_7 (hk_growE (kd := 8) (ln := 0) (by decide +kernel) (by decide +kernel) (by decide +kernel)) qw_63 qw_67 qw_4 ⟨(Nat.le_of_ble_eq_true rfl), (Nat.le_of_ble_eq_true rfl)⟩ dX5_init_46 (fun H G => ?_)
        obtain ⟨S12, eS12, hsp⟩ := hk_l hsp
        rw [eS12] at G
        refine lv_dup hx hb dX5_init_49 rfl ?_
        obtain ⟨r13, er13, hsp⟩ := hk_b hsp
        refine hk_callIN (rest := [.ref (g.1 + 203), .int 2, .ref (g.1 + 199)]) F9 G (kX10_init l g (hk_EE 204 200) F (g.1 + 204) S12 203 r13 (by decide +kernel) er13) qin_RX5_30 ⟨rfl, rfl, (Nat.le_of_ble_eq_true rfl), (Nat.le_of_ble_eq_true rfl)⟩ hl.1 (Nat.le_of_ble_eq_true rfl) ⟨(Nat.le_of_ble_eq_true rfl), (Nat.le_of_ble_eq_true rfl)⟩ dX5_init_50 (fun H locs G => ?_)
        refine hk_aast (E1 := (hk_EE 204 201)) (a := 199) (r := 203) (j := 2) (t := 2) (ci := 7) (ln := 8) F9 G (by decide) (by decide +kernel) (by decide +kernel) (by decide) rfl rfl (by decide +kernel) (by decide) (by decide) (by decide) (hk_setE (by decide +kernel) (by decide +kernel)) dX5_init_53 (fun H locs G => ?_)
        refine lv_iinc (v := 3) (lv' := [(1, .int 3), (0, .ref (g.1 + 196))]) hx hb dX5_init_54 hl (k := 0) rfl (by decide) (by decide) rfl (fun ls hl => ?_)
        refine lv_goto (tgt := 35) hx hb dX5_init_57 (by decide) ?_
        refine lv_iload_n hx hb dX5_init_35 rfl (lv_at hl 0 rfl) ?_
        refine lv_bipush (v := 8) hx hb dX5_init_36 (by decide) ?_
        refine lv_icmp_ge (tgt := 60) hx hb dX5_init_38 (by decide) (fun c14 => ?_) (fun c14 => ?_)
        · exact absurd c14 (by decide)
        · refine lv_aload_n hx hb dX5_init_41 rfl (lv_at hl 1 rfl) ?_
          refine hk_getR (r := 199) F9 G (by decide +kernel) hkc_3 (k := 1) (by decide) qw_155 rfl (by decide +kernel) dX5_init_42 ?_
          refine lv_iload_n hx hb dX5_init_45 rfl (lv_at hl 0 rfl) ?_
          refine hk_new (E1 := (hk_EE 205 201)) (a := 204) (b := 205) F9 G rfl ⟨rfl, rfl⟩ hkc_7 hkd_7 (hk_growE (kd := 8) (ln := 0) (by decide +kernel) (by decide +kernel) (by decide +kernel)) qw_63 qw_67 qw_4 ⟨(Nat.le_of_ble_eq_true rfl), (Nat.le_of_ble_eq_true rfl)⟩ dX5_init_46 (fun H G => ?_)
          obtain ⟨S15, eS15, hsp⟩ := hk_l hsp
          rw [eS15] at G
          refine lv_dup hx hb dX5_init_49 rfl ?_
          obtain ⟨r16, er16, hsp⟩ := hk_b hsp
          refine hk_callIN (rest := [.ref (g.1 + 204), .int 3, .ref (g.1 + 199)]) F9 G (kX10_init l g (hk_EE 205 201) F (g.1 + 205) S15 204 r16 (by decide +kernel) er16) qin_RX5_30 ⟨rfl, rfl, (Nat.le_of_ble_eq_true rfl), (Nat.le_of_ble_eq_true rfl)⟩ hl.1 (Nat.le_of_ble_eq_true rfl) ⟨(Nat.le_of_ble_eq_true rfl), (Nat.le_of_ble_eq_true rfl)⟩ dX5_init_50 (fun H locs G => ?_)
          refine hk_aast (E1 := (hk_EE 205 202)) (a := 199) (r := 204) (j := 3) (t := 2) (ci := 7) (ln := 8) F9 G (by decide) (by decide +kernel) (by decide +kernel) (by decide) rfl rfl (by decide +kernel) (by decide) (by decide) (by decide) (hk_setE (by decide +kernel) (by decide +kernel)) dX5_init_53 (fun H locs G => ?_)
          refine lv_iinc (v := 4) (lv' := [(1, .int 4), (0, .ref (g.1 + 196))]) hx hb dX5_init_54 hl (k := 0) rfl (by decide) (by decide) rfl (fun ls hl => ?_)
          refine lv_goto (tgt := 35) hx hb dX5_init_57 (by decide) ?_
          refine lv_iload_n hx hb dX5_init_35 rfl (lv_at hl 0 rfl) ?_
          refine lv_bipush (v := 8) hx hb dX5_init_36 (by decide) ?_
          refine lv_icmp_ge (tgt := 60) hx hb dX5_init_38 (by decide) (fun c17 => ?_) (fun c17 => ?_)
          · exact absurd c17 (by decide)
          · refine lv_aload_n hx hb dX5_init_41 rfl (lv_at hl 1 rfl) ?_
            refine hk_getR (r := 199) F9 G (by decide +kernel) hkc_3 (k := 1) (by decide) qw_155 rfl (by decide +kernel) dX5_init_42 ?_
            refine lv_iload_n hx hb dX5_init_45 rfl (lv_at hl 0 rfl) ?_
            refine hk_new (E1 := (hk_EE 206 202)) (a := 205) (b := 206) F9 G rfl ⟨rfl, rfl⟩ hkc_7 hkd_7 (hk_growE (kd := 8) (ln := 0) (by decide +kernel) (by decide +kernel) (by decide +kernel)) qw_63 qw_67 qw_4 ⟨(Nat.le_of_ble_eq_true rfl), (Nat.le_of_ble_eq_true rfl)⟩ dX5_init_46 (fun H G => ?_)
            obtain ⟨S18, eS18, hsp⟩ := hk_l hsp
            rw [eS18] at G
            refine lv_dup hx hb dX5_init_49 rfl ?_
            obtain ⟨r19, er19, hsp⟩ := hk_b hsp
            refine hk_callIN (rest := [.ref (g.1 + 205), .int 4, .ref (g.1 + 199)]) F9 G (kX10_init l g (hk_EE 206 202) F (g.1 + 206) S18 205 r19 (by decide +kernel) er19) qin_RX5_30 ⟨rfl, rfl, (Nat.le_of_ble_eq_true rfl), (Nat.le_of_ble_eq_true rfl)⟩ hl.1 (Nat.le_of_ble_eq_true rfl) ⟨(Nat.le_of_ble_eq_true rfl), (Nat.le_of_ble_eq_true rfl)⟩ dX5_init_50 (fun H locs G => ?_)
            refine hk_aast (E1 := (hk_EE 206 203)) (a := 199) (r := 205) (j := 4) (t := 2) (ci := 7) (ln := 8) F9 G (by decide) (by decide +kernel) (by decide +kernel) (by decide) rfl rfl (by decide +kernel) (by decide) (by decide) (by decide) (hk_setE (by decide +kernel) (by decide +kernel)) dX5_init_53 (fun H locs G => ?_)
            refine lv_iinc (v := 5) (lv' := [(1, .int 5), (0, .ref (g.1 + 196))]) hx hb dX5_init_54 hl (k := 0) rfl (by decide) (by decide) rfl (fun ls hl => ?_)
            refine lv_goto (tgt := 35) hx hb dX5_init_57 (by decide) ?_
            refine lv_iload_n hx hb dX5_init_35 rfl (lv_at hl 0 rfl) ?_
            refine lv_bipush (v := 8) hx hb dX5_init_36 (by decide) ?_
            refine lv_icmp_ge (tgt := 60) hx hb dX5_init_38 (by decide) (fun c20 => ?_) (fun c20 => ?_)
            · exact absurd c20 (by decide)
            · refine lv_aload_n hx hb dX5_init_41 rfl (lv_at hl 1 rfl) ?_
              refine hk_getR (r := 199) F9 G (by decide +kernel) hkc_3 (k := 1) (by decide) qw_155 rfl (by decide +kernel) dX5_init_42 ?_
              refine lv_iload_n hx hb dX5_init_45 rfl (lv_at hl 0 rfl) ?_
              refine hk_new (E1 := (hk_EE 207 203)) (a := 206) (b := 207) F9 G rfl ⟨rfl, rfl⟩ hkc_7 hkd_7 (hk_growE (kd := 8) (ln := 0) (by decide +kernel) (by decide +kernel) (by decide +kernel)) qw_63 qw_67 qw_4 ⟨(Nat.le_of_ble_eq_true rfl), (Nat.le_of_ble_eq_true rfl)⟩ dX5_init_46 (fun H G => ?_)
              obtain ⟨S21, eS21, hsp⟩ := hk_l hsp
              rw [eS21] at G
              refine lv_dup hx hb dX5_init_49 rfl ?_
              obtain ⟨r22, er22, hsp⟩ := hk_b hsp
              refine hk_callIN (rest := [.ref (g.1 + 206), .int 5, .ref (g.1 + 199)]) F9 G (kX10_init l g (hk_EE 207 203) F (g.1 + 207) S21 206 r22 (by decide +kernel) er22) qin_RX5_30 ⟨rfl, rfl, (Nat.le_of_ble_eq_true rfl), (Nat.le_of_ble_eq_true rfl)⟩ hl.1 (Nat.le_of_ble_eq_true rfl) ⟨(Nat.le_of_ble_eq_true rfl), (Nat.le_of_ble_eq_true rfl)⟩ dX5_init_50 (fun H locs G => ?_)
              refine hk_aast (E1 := (hk_EE 207 204)) (a := 199) (r := 206) (j := 5) (t := 2) (ci := 7) (ln := 8) F9 G (by decide) (by decide +kernel) (by decide +kernel) (by decide) rfl rfl (by decide +kernel) (by decide) (by decide) (by decide) (hk_setE (by decide +kernel) (by decide +kernel)) dX5_init_53 (fun H locs G => ?_)
              refine lv_iinc (v := 6) (lv' := [(1, .int 6), (0, .ref (g.1 + 196))]) hx hb dX5_init_54 hl (k := 0) rfl (by decide) (by decide) rfl (fun ls hl => ?_)
              refine lv_goto (tgt := 35) hx hb dX5_init_57 (by decide) ?_
              refine lv_iload_n hx hb dX5_init_35 rfl (lv_at hl 0 rfl) ?_
              refine lv_bipush (v := 8) hx hb dX5_init_36 (by decide) ?_
              refine lv_icmp_ge (tgt := 60) hx hb dX5_init_38 (by decide) (fun c23 => ?_) (fun c23 => ?_)
              · exact absurd c23 (by decide)
              · refine lv_aload_n hx hb dX5_init_41 rfl (lv_at hl 1 rfl) ?_
                refine hk_getR (r := 199) F9 G (by decide +kernel) hkc_3 (k := 1) (by decide) qw_155 rfl (by decide +kernel) dX5_init_42 ?_
                refine lv_iload_n hx hb dX5_init_45 rfl (lv_at hl 0 rfl) ?_
                refine hk_new (E1 := (hk_EE 208 204)) (a := 207) (b := 208) F9 G rfl ⟨rfl, rfl⟩ hkc_7 hkd_7 (hk_growE (kd := 8) (ln := 0) (by decide +kernel) (by decide +kernel) (by decide +kernel)) qw_63 qw_67 qw_4 ⟨(Nat.le_of_ble_eq_true rfl), (Nat.le_of_ble_eq_true rfl)⟩ dX5_init_46 (fun H G => ?_)
                obtain ⟨S24, eS24, hsp⟩ := hk_l hsp
                rw [eS24] at G
                refine lv_dup hx hb dX5_init_49 rfl ?_
                obtain ⟨r25, er25, hsp⟩ := hk_b hsp
                refine hk_callIN (rest := [.ref (g.1 + 207), .int 6, .ref (g.1 + 199)]) F9 G (kX10_init l g (hk_EE 208 204) F (g.1 + 208) S24 207 r25 (by decide +kernel) er25) qin_RX5_30 ⟨rfl, rfl, (Nat.le_of_ble_eq_true rfl), (Nat.le_of_ble_eq_true rfl)⟩ hl.1 (Nat.le_of_ble_eq_true rfl) ⟨(Nat.le_of_ble_eq_true rfl), (Nat.le_of_ble_eq_true rfl)⟩ dX5_init_50 (fun H locs G => ?_)
                refine hk_aast (E1 := (hk_EE 208 205)) (a := 199) (r := 207) (j := 6) (t := 2) (ci := 7) (ln := 8) F9 G (by decide) (by decide +kernel) (by decide +kernel) (by decide) rfl rfl (by decide +kernel) (by decide) (by decide) (by decide) (hk_setE (by decide +kernel) (by decide +kernel)) dX5_init_53 (fun H locs G => ?_)
                refine lv_iinc (v := 7) (lv' := [(1, .int 7), (0, .ref (g.1 + 196))]) hx hb dX5_init_54 hl (k := 0) rfl (by decide) (by decide) rfl (fun ls hl => ?_)
                refine lv_goto (tgt := 35) hx hb dX5_init_57 (by decide) ?_
                refine lv_iload_n hx hb dX5_init_35 rfl (lv_at hl 0 rfl) ?_
                refine lv_bipush (v := 8) hx hb dX5_init_36 (by decide) ?_
                refine lv_icmp_ge (tgt := 60) hx hb dX5_init_38 (by decide) (fun c26 => ?_) (fun c26 => ?_)
                · exact absurd c26 (by decide)
                · refine lv_aload_n hx hb dX5_init_41 rfl (lv_at hl 1 rfl) ?_
                  refine hk_getR (r := 199) F9 G (by decide +kernel) hkc_3 (k := 1) (by decide) qw_155 rfl (by decide +kernel) dX5_init_42 ?_
                  refine lv_iload_n hx hb dX5_init_45 rfl (lv_at hl 0 rfl) ?_
                  refine hk_new (E1 := (hk_EE 209 205)) (a := 208) (b := 209) F9 G rfl ⟨rfl, rfl⟩ hkc_7 hkd_7 (hk_growE (kd := 8) (ln := 0) (by decide +kernel) (by decide +kernel) (by decide +kernel)) qw_63 qw_67 qw_4 ⟨(Nat.le_of_ble_eq_true rfl), (Nat.le_of_ble_eq_true rfl)⟩ dX5_init_46 (fun H G => ?_)
                  obtain ⟨S27, eS27, hsp⟩ := hk_l hsp
                  rw [eS27] at G
                  refine lv_dup hx hb dX5_init_49 rfl ?_
                  obtain ⟨r28, er28, hsp⟩ := hk_b hsp
                  refine hk_callIN (rest := [.ref (g.1 + 208), .int 7, .ref (g.1 + 199)]) F9 G (kX10_init l g (hk_EE 209 205) F (g.1 + 209) S27 208 r28 (by decide +kernel) er28) qin_RX5_30 ⟨rfl, rfl, (Nat.le_of_ble_eq_true rfl), (Nat.le_of_ble_eq_true rfl)⟩ hl.1 (Nat.le_of_ble_eq_true rfl) ⟨(Nat.le_of_ble_eq_true rfl), (Nat.le_of_ble_eq_true rfl)⟩ dX5_init_50 (fun H locs G => ?_)
                  refine hk_aast (E1 := (hk_EE 209 206)) (a := 199) (r := 208) (j := 7) (t := 2) (ci := 7) (ln := 8) F9 G (by decide) (by decide +kernel) (by decide +kernel) (by decide) rfl rfl (by decide +kernel) (by decide) (by decide) (by decide) (hk_setE (by decide +kernel) (by decide +kernel)) dX5_init_53 (fun H locs G => ?_)
                  refine lv_iinc (v := 8) (lv' := [(1, .int 8), (0, .ref (g.1 + 196))]) hx hb dX5_init_54 hl (k := 0) rfl (by decide) (by decide) rfl (fun ls hl => ?_)
                  refine lv_goto (tgt := 35) hx hb dX5_init_57 (by decide) ?_
                  refine lv_iload_n hx hb dX5_init_35 rfl (lv_at hl 0 rfl) ?_
                  refine lv_bipush (v := 8) hx hb dX5_init_36 (by decide) ?_
                  refine lv_icmp_ge (tgt := 60) hx hb dX5_init_38 (by decide) (fun c29 => ?_) (fun c29 => ?_)
                  · refine lv_iconst (v := 0) hx hb dX5_init_60 (by decide) ?_
                    refine lv_istore_n (lv' := [(1, .int 0), (0, .ref (g.1 + 196))]) hx hb dX5_init_61 rfl hl (by decide) rfl (fun ls hl => ?_)
                    refine lv_iload_n hx hb dX5_init_62 rfl (lv_at hl 0 rfl) ?_
                    refine lv_bipush (v := 6) hx hb dX5_init_63 (by decide) ?_
                    refine lv_icmp_ge (tgt := 87) hx hb dX5_init_65 (by decide) (fun c30 => ?_) (fun c30 => ?_)
                    · exact absurd c30 (by decide)
                    · refine lv_aload_n hx hb dX5_init_68 rfl (lv_at hl 1 rfl) ?_
                      refine hk_getR (r := 200) F9 G (by decide +kernel) hkc_3 (k := 3) (by decide) qw_158 rfl (by decide +kernel) dX5_init_69 ?_
                      refine lv_iload_n hx hb dX5_init_72 rfl (lv_at hl 0 rfl) ?_
                      refine hk_new (E1 := (hk_EE 210 206)) (a := 209) (b := 210) F9 G rfl ⟨rfl, rfl⟩ hkc_4 hkd_4 (hk_growE (kd := 5) (ln := 0) (by decide +kernel) (by decide +kernel) (by decide +kernel)) qw_65 qw_116 qw_5 ⟨(Nat.le_of_ble_eq_true rfl), (Nat.le_of_ble_eq_true rfl)⟩ dX5_init_73 (fun H G => ?_)
                      obtain ⟨S31, eS31, hsp⟩ := hk_l hsp
                      rw [eS31] at G
                      refine lv_dup hx hb dX5_init_76 rfl ?_
                      obtain ⟨r32, er32, hsp⟩ := hk_b hsp
                      refine hk_callIN (rest := [.ref (g.1 + 209), .int 0, .ref (g.1 + 200)]) F9 G (kX6_init l g (hk_EE 210 206) F (g.1 + 210) S31 209 r32 (by decide +kernel) er32) qin_RX5_31 ⟨rfl, rfl, (Nat.le_of_ble_eq_true rfl), (Nat.le_of_ble_eq_true rfl)⟩ hl.1 (Nat.le_of_ble_eq_true rfl) ⟨(Nat.le_of_ble_eq_true rfl), (Nat.le_of_ble_eq_true rfl)⟩ dX5_init_77 (fun H locs G => ?_)
                      refine hk_aast (E1 := (hk_EE 210 207)) (a := 200) (r := 209) (j := 0) (t := 1) (ci := 4) (ln := 6) F9 G (by decide) (by decide +kernel) (by decide +kernel) (by decide) rfl rfl (by decide +kernel) (by decide) (by decide) (by decide) (hk_setE (by decide +kernel) (by decide +kernel)) dX5_init_80 (fun H locs G => ?_)
                      refine lv_iinc (v := 1) (lv' := [(1, .int 1), (0, .ref (g.1 + 196))]) hx hb dX5_init_81 hl (k := 0) rfl (by decide) (by decide) rfl (fun ls hl => ?_)
                      refine lv_goto (tgt := 62) hx hb dX5_init_84 (by decide) ?_
                      refine lv_iload_n hx hb dX5_init_62 rfl (lv_at hl 0 rfl) ?_
                      refine lv_bipush (v := 6) hx hb dX5_init_63 (by decide) ?_
                      refine lv_icmp_ge (tgt := 87) hx hb dX5_init_65 (by decide) (fun c33 => ?_) (fun c33 => ?_)
                      · exact absurd c33 (by decide)
                      · refine lv_aload_n hx hb dX5_init_68 rfl (lv_at hl 1 rfl) ?_
                        refine hk_getR (r := 200) F9 G (by decide +kernel) hkc_3 (k := 3) (by decide) qw_158 rfl (by decide +kernel) dX5_init_69 ?_
                        refine lv_iload_n hx hb dX5_init_72 rfl (lv_at hl 0 rfl) ?_
                        refine hk_new (E1 := (hk_EE 211 207)) (a := 210) (b := 211) F9 G rfl ⟨rfl, rfl⟩ hkc_4 hkd_4 (hk_growE (kd := 5) (ln := 0) (by decide +kernel) (by decide +kernel) (by decide +kernel)) qw_65 qw_116 qw_5 ⟨(Nat.le_of_ble_eq_true rfl), (Nat.le_of_ble_eq_true rfl)⟩ dX5_init_73 (fun H G => ?_)
                        obtain ⟨S34, eS34, hsp⟩ := hk_l hsp
                        rw [eS34] at G
                        refine lv_dup hx hb dX5_init_76 rfl ?_
                        obtain ⟨r35, er35, hsp⟩ := hk_b hsp
                        refine hk_callIN (rest := [.ref (g.1 + 210), .int 1, .ref (g.1 + 200)]) F9 G (kX6_init l g (hk_EE 211 207) F (g.1 + 211) S34 210 r35 (by decide +kernel) er35) qin_RX5_31 ⟨rfl, rfl, (Nat.le_of_ble_eq_true rfl), (Nat.le_of_ble_eq_true rfl)⟩ hl.1 (Nat.le_of_ble_eq_true rfl) ⟨(Nat.le_of_ble_eq_true rfl), (Nat.le_of_ble_eq_true rfl)⟩ dX5_init_77 (fun H locs G => ?_)
                        refine hk_aast (E1 := (hk_EE 211 208)) (a := 200) (r := 210) (j := 1) (t := 1) (ci := 4) (ln := 6) F9 G (by decide) (by decide +kernel) (by decide +kernel) (by decide) rfl rfl (by decide +kernel) (by decide) (by decide) (by decide) (hk_setE (by decide +kernel) (by decide +kernel)) dX5_init_80 (fun H locs G => ?_)
                        refine lv_iinc (v := 2) (lv' := [(1, .int 2), (0, .ref (g.1 + 196))]) hx hb dX5_init_81 hl (k := 0) rfl (by decide) (by decide) rfl (fun ls hl => ?_)
                        refine lv_goto (tgt := 62) hx hb dX5_init_84 (by decide) ?_
                        refine lv_iload_n hx hb dX5_init_62 rfl (lv_at hl 0 rfl) ?_
                        refine lv_bipush (v := 6) hx hb dX5_init_63 (by decide) ?_
                        refine lv_icmp_ge (tgt := 87) hx hb dX5_init_65 (by decide) (fun c36 => ?_) (fun c36 => ?_)
                        · exact absurd c36 (by decide)
                        · refine lv_aload_n hx hb dX5_init_68 rfl (lv_at hl 1 rfl) ?_
                          refine hk_getR (r := 200) F9 G (by decide +kernel) hkc_3 (k := 3) (by decide) qw_158 rfl (by decide +kernel) dX5_init_69 ?_
                          refine lv_iload_n hx hb dX5_init_72 rfl (lv_at hl 0 rfl) ?_
                          refine hk_new (E1 := (hk_EE 212 208)) (a := 211) (b := 212) F9 G rfl ⟨rfl, rfl⟩ hkc_4 hkd_4 (hk_growE (kd := 5) (ln := 0) (by decide +kernel) (by decide +kernel) (by decide +kernel)) qw_65 qw_116 qw_5 ⟨(Nat.le_of_ble_eq_true rfl), (Nat.le_of_ble_eq_true rfl)⟩ dX5_init_73 (fun H G => ?_)
                          obtain ⟨S37, eS37, hsp⟩ := hk_l hsp
                          rw [eS37] at G
                          refine lv_dup hx hb dX5_init_76 rfl ?_
                          obtain ⟨r38, er38, hsp⟩ := hk_b hsp
                          refine hk_callIN (rest := [.ref (g.1 + 211), .int 2, .ref (g.1 + 200)]) F9 G (kX6_init l g (hk_EE 212 208) F (g.1 + 212) S37 211 r38 (by decide +kernel) er38) qin_RX5_31 ⟨rfl, rfl, (Nat.le_of_ble_eq_true rfl), (Nat.le_of_ble_eq_true rfl)⟩ hl.1 (Nat.le_of_ble_eq_true rfl) ⟨(Nat.le_of_ble_eq_true rfl), (Nat.le_of_ble_eq_true rfl)⟩ dX5_init_77 (fun H locs G => ?_)
                          refine hk_aast (E1 := (hk_EE 212 209)) (a := 200) (r := 211) (j := 2) (t := 1) (ci := 4) (ln := 6) F9 G (by decide) (by decide +kernel) (by decide +kernel) (by decide) rfl rfl (by decide +kernel) (by decide) (by decide) (by decide) (hk_setE (by decide +kernel) (by decide +kernel)) dX5_init_80 (fun H locs G => ?_)
                          refine lv_iinc (v := 3) (lv' := [(1, .int 3), (0, .ref (g.1 + 196))]) hx hb dX5_init_81 hl (k := 0) rfl (by decide) (by decide) rfl (fun ls hl => ?_)
                          refine lv_goto (tgt := 62) hx hb dX5_init_84 (by decide) ?_
                          refine lv_iload_n hx hb dX5_init_62 rfl (lv_at hl 0 rfl) ?_
                          refine lv_bipush (v := 6) hx hb dX5_init_63 (by decide) ?_
                          refine lv_icmp_ge (tgt := 87) hx hb dX5_init_65 (by decide) (fun c39 => ?_) (fun c39 => ?_)
                          · exact absurd c39 (by decide)
                          · refine lv_aload_n hx hb dX5_init_68 rfl (lv_at hl 1 rfl) ?_
                            refine hk_getR (r := 200) F9 G (by decide +kernel) hkc_3 (k := 3) (by decide) qw_158 rfl (by decide +kernel) dX5_init_69 ?_
                            refine lv_iload_n hx hb dX5_init_72 rfl (lv_at hl 0 rfl) ?_
                            refine hk_new (E1 := (hk_EE 213 209)) (a := 212) (b := 213) F9 G rfl ⟨rfl, rfl⟩ hkc_4 hkd_4 (hk_growE (kd := 5) (ln := 0) (by decide +kernel) (by decide +kernel) (by decide +kernel)) qw_65 qw_116 qw_5 ⟨(Nat.le_of_ble_eq_true rfl), (Nat.le_of_ble_eq_true rfl)⟩ dX5_init_73 (fun H G => ?_)
                            obtain ⟨S40, eS40, hsp⟩ := hk_l hsp
                            rw [eS40] at G
                            refine lv_dup hx hb dX5_init_76 rfl ?_
                            obtain ⟨r41, er41, hsp⟩ := hk_b hsp
                            refine hk_callIN (rest := [.ref (g.1 + 212), .int 3, .ref (g.1 + 200)]) F9 G (kX6_init l g (hk_EE 213 209) F (g.1 + 213) S40 212 r41 (by decide +kernel) er41) qin_RX5_31 ⟨rfl, rfl, (Nat.le_of_ble_eq_true rfl), (Nat.le_of_ble_eq_true rfl)⟩ hl.1 (Nat.le_of_ble_eq_true rfl) ⟨(Nat.le_of_ble_eq_true rfl), (Nat.le_of_ble_eq_true rfl)⟩ dX5_init_77 (fun H locs G => ?_)
                            refine hk_aast (E1 := (hk_EE 213 210)) (a := 200) (r := 212) (j := 3) (t := 1) (ci := 4) (ln := 6) F9 G (by decide) (by decide +kernel) (by decide +kernel) (by decide) rfl rfl (by decide +kernel) (by decide) (by decide) (by decide) (hk_setE (by decide +kernel) (by decide +kernel)) dX5_init_80 (fun H locs G => ?_)
                            refine lv_iinc (v := 4) (lv' := [(1, .int 4), (0, .ref (g.1 + 196))]) hx hb dX5_init_81 hl (k := 0) rfl (by decide) (by decide) rfl (fun ls hl => ?_)
                            refine lv_goto (tgt := 62) hx hb dX5_init_84 (by decide) ?_
                            refine lv_iload_n hx hb dX5_init_62 rfl (lv_at hl 0 rfl) ?_
                            refine lv_bipush (v := 6) hx hb dX5_init_63 (by decide) ?_
                            refine lv_icmp_ge (tgt := 87) hx hb dX5_init_65 (by decide) (fun c42 => ?_) (fun c42 => ?_)
                            · exact absurd c42 (by decide)
                            · refine lv_aload_n hx hb dX5_init_68 rfl (lv_at hl 1 rfl) ?_
                              refine hk_getR (r := 200) F9 G (by decide +kernel) hkc_3 (k := 3) (by decide) qw_158 rfl (by decide +kernel) dX5_init_69 ?_
                              refine lv_iload_n hx hb dX5_init_72 rfl (lv_at hl 0 rfl) ?_
                              refine hk_new (E1 := (hk_EE 214 210)) (a := 213) (b := 214) F9 G rfl ⟨rfl, rfl⟩ hkc_4 hkd_4 (hk_growE (kd := 5) (ln := 0) (by decide +kernel) (by decide +kernel) (by decide +kernel)) qw_65 qw_116 qw_5 ⟨(Nat.le_of_ble_eq_true rfl), (Nat.le_of_ble_eq_true rfl)⟩ dX5_init_73 (fun H G => ?_)
                              obtain ⟨S43, eS43, hsp⟩ := hk_l hsp
                              rw [eS43] at G
                              refine lv_dup hx hb dX5_init_76 rfl ?_
                              obtain ⟨r44, er44, hsp⟩ := hk_b hsp
                              refine hk_callIN (rest := [.ref (g.1 + 213), .int 4, .ref (g.1 + 200)]) F9 G (kX6_init l g (hk_EE 214 210) F (g.1 + 214) S43 213 r44 (by decide +kernel) er44) qin_RX5_31 ⟨rfl, rfl, (Nat.le_of_ble_eq_true rfl), (Nat.le_of_ble_eq_true rfl)⟩ hl.1 (Nat.le_of_ble_eq_true rfl) ⟨(Nat.le_of_ble_eq_true rfl), (Nat.le_of_ble_eq_true rfl)⟩ dX5_init_77 (fun H locs G => ?_)
                              refine hk_aast (E1 := (hk_EE 214 211)) (a := 200) (r := 213) (j := 4) (t := 1) (ci := 4) (ln := 6) F9 G (by decide) (by decide +kernel) (by decide +kernel) (by decide) rfl rfl (by decide +kernel) (by decide) (by decide) (by decide) (hk_setE (by decide +kernel) (by decide +kernel)) dX5_init_80 (fun H locs G => ?_)
                              refine lv_iinc (v := 5) (lv' := [(1, .int 5), (0, .ref (g.1 + 196))]) hx hb dX5_init_81 hl (k := 0) rfl (by decide) (by decide) rfl (fun ls hl => ?_)
                              refine lv_goto (tgt := 62) hx hb dX5_init_84 (by decide) ?_
                              refine lv_iload_n hx hb dX5_init_62 rfl (lv_at hl 0 rfl) ?_
                              refine lv_bipush (v := 6) hx hb dX5_init_63 (by decide) ?_
                              refine lv_icmp_ge (tgt := 87) hx hb dX5_init_65 (by decide) (fun c45 => ?_) (fun c45 => ?_)
                              · exact absurd c45 (by decide)
                              · refine lv_aload_n hx hb dX5_init_68 rfl (lv_at hl 1 rfl) ?_
                                refine hk_getR (r := 200) F9 G (by decide +kernel) hkc_3 (k := 3) (by decide) qw_158 rfl (by decide +kernel) dX5_init_69 ?_
                                refine lv_iload_n hx hb dX5_init_72 rfl (lv_at hl 0 rfl) ?_
                                refine hk_new (E1 := (hk_EE 215 211)) (a := 214) (b := 215) F9 G rfl ⟨rfl, rfl⟩ hkc_4 hkd_4 (hk_growE (kd := 5) (ln := 0) (by decide +kernel) (by decide +kernel) (by decide +kernel)) qw_65 qw_116 qw_5 ⟨(Nat.le_of_ble_eq_true rfl), (Nat.le_of_ble_eq_true rfl)⟩ dX5_init_73 (fun H G => ?_)
                                obtain ⟨S46, eS46, hsp⟩ := hk_l hsp
                                rw [eS46] at G
                                refine lv_dup hx hb dX5_init_76 rfl ?_
                                obtain ⟨r47, er47, hsp⟩ := hk_b hsp
                                refine hk_callIN (rest := [.ref (g.1 + 214), .int 5, .ref (g.1 + 200)]) F9 G (kX6_init l g (hk_EE 215 211) F (g.1 + 215) S46 214 r47 (by decide +kernel) er47) qin_RX5_31 ⟨rfl, rfl, (Nat.le_of_ble_eq_true rfl), (Nat.le_of_ble_eq_true rfl)⟩ hl.1 (Nat.le_of_ble_eq_true rfl) ⟨(Nat.le_of_ble_eq_true rfl), (Nat.le_of_ble_eq_true rfl)⟩ dX5_init_77 (fun H locs G => ?_)
                                refine hk_aast (E1 := (hk_EE 215 212)) (a := 200) (r := 214) (j := 5) (t := 1) (ci := 4) (ln := 6) F9 G (by decide) (by decide +kernel) (by decide +kernel) (by decide) rfl rfl (by decide +kernel) (by decide) (by decide) (by decide) (hk_setE (by decide +kernel) (by decide +kernel)) dX5_init_80 (fun H locs G => ?_)
                                refine lv_iinc (v := 6) (lv' := [(1, .int 6), (0, .ref (g.1 + 196))]) hx hb dX5_init_81 hl (k := 0) rfl (by decide) (by decide) rfl (fun ls hl => ?_)
                                refine lv_goto (tgt := 62) hx hb dX5_init_84 (by decide) ?_
                                refine lv_iload_n hx hb dX5_init_62 rfl (lv_at hl 0 rfl) ?_
                                refine lv_bipush (v := 6) hx hb dX5_init_63 (by decide) ?_
                                refine lv_icmp_ge (tgt := 87) hx hb dX5_init_65 (by decide) (fun c48 => ?_) (fun c48 => ?_)
                                · refine lv_aload_n hx hb dX5_init_87 rfl (lv_at hl 1 rfl) ?_
                                  obtain ⟨r49, er49, hsp⟩ := hk_b hsp
                                  refine hk_callVv (As := []) (rest := []) F9 G (by decide +kernel) hkc_3 rfl (kX5_clear l g (hk_EE 215 212) F (g.1 + 215) r47 196 r49 (by decide +kernel) er49) qv_RX5_32 ⟨rfl, rfl, (Nat.le_of_ble_eq_true rfl), (Nat.le_of_ble_eq_true rfl)⟩ rfl hl.1 rfl (Nat.le_of_ble_eq_true rfl) ⟨(Nat.le_of_ble_eq_true rfl), (Nat.le_of_ble_eq_true rfl)⟩ dX5_init_88 (fun H locs G => ?_)
                                  obtain rfl := hk_s hsp
                                  exact W.vret hx hb hr (fun t ht hW => hk_end G ht hW) G.2.1.2.2 dX5_init_91
                                · exact absurd c48 (by decide)
                  · exact absurd c29 (by decide)
def mX8_init_193 (F : Nat) (S : hk_S) : Option (hk_S) :=
hk_let (va_up S 194 (hk_i0 2)) (fun S1 => (mX4_init_194 F S1).bind (fun r2 => hk_let (va_up r2 196 (hk_i0 3)) (fun S3 => (mX5_init_196 F S3).bind (fun r4 => hk_let (hk_up r4 193 5 5) (fun S5 => hk_let (va_up S5 215 (fun _ => 0)) (fun S6 => hk_let (va_up S6 216 (fun _ => 0)) (fun S7 => hk_let (va_up S7 217 (fun _ => 0)) (fun S8 => some (S8)))))))))
set_option maxHeartbeats 4000000 in
set_option maxRecDepth 100000 in
theorem kX8_init_193 (l : Launch) (g : hk_G) (F : Nat) (S : hk_S) (o : hk_S) (hsp : mX8_init_193 F S = some o) : Met l yX8_init (hk_ws yX8_init cX8_init 1 (Option.none : Option Jvm.ClassFile.FieldType)) ({ frames := 4, cells := 24, slots := 743, locals := 83 }) (hk_Pc g (hk_EE 194 192) S (g.1 + 194) [.ref (g.1 + 193)]) (hk_Q g (hk_EE 218 216) o (g.1 + 218) none) 24 743 (hk_A g) := by
  refine Met.ofW (cc := cX8_init) (maxL := 1) (ret := (Option.none : Option Jvm.ClassFile.FieldType)) (by decide) rfl ?_
  intro p e s m args below meth c s₁ B hml hv
  obtain ⟨rfl, G⟩ := hk_begin hv
  have F9 : CallFix p m c cX8_init 1 s [.ref (g.1 + 193)].toArray hk_W RX8 := ⟨B.exec, B.bytes, hml, findClass_of_methodNamed B.named, fun w h => atoms_spec (ws := hk_ws yX8_init cX8_init 1 (Option.none : Option Jvm.ClassFile.FieldType)) B.pre w (hk_in h)⟩
  have hin : meth.name = "<init>" := (name_of_methodNamed B.named B.method).1
  have hx := B.exec
  have hb := B.bytes
  have hr := B.returns
  have hlocks := B.notSynchronized
  have hl := lv_entry ([.ref (g.1 + 193)]) (n := 1) (Nat.le_of_ble_eq_true rfl)
  rw [lg_entry_eq]
  generalize (lg_sl ([.ref (g.1 + 193)]) ++ List.replicate (1 - (lg_sl ([.ref (g.1 + 193)])).length) Slot.unset).toArray = ls at hl ⊢
  have hl : lv_has ls 1 [(0, .ref (g.1 + 193))] := hl
  unfold mX8_init_193 at hsp
  have G : hk_GG g (hk_EE 194 192) S (g.1 + 194) s s.heap [] := G
  refine lv_aload_n hx hb dX8_init_0 rfl (lv_at hl 0 rfl) ?_
  refine hk_obj F9 qw_225 qw_27 qw_28 hl.1 ⟨(Nat.le_of_ble_eq_true rfl), (Nat.le_of_ble_eq_true rfl)⟩ dX8_init_1 ?_
  refine lv_aload_n hx hb dX8_init_4 rfl (lv_at hl 0 rfl) ?_
  refine hk_new (E1 := (hk_EE 195 192)) (a := 194) (b := 195) F9 G rfl ⟨rfl, rfl⟩ hkc_2 hkd_2 (hk_growE (kd := 3) (ln := 0) (by decide +kernel) (by decide +kernel) (by decide +kernel)) qw_226 qw_227 qw_8 ⟨(Nat.le_of_ble_eq_true rfl), (Nat.le_of_ble_eq_true rfl)⟩ dX8_init_5 (fun H G => ?_)
  obtain ⟨S1, eS1, hsp⟩ := hk_l hsp
  rw [eS1] at G
  refine lv_dup hx hb dX8_init_8 rfl ?_
  obtain ⟨r2, er2, hsp⟩ := hk_b hsp
  refine hk_callIN (rest := [.ref (g.1 + 194), .ref (g.1 + 193)]) F9 G (kX4_init_194 l g F S1 r2 er2) qin_RX8_11 ⟨rfl, rfl, (Nat.le_of_ble_eq_true rfl), (Nat.le_of_ble_eq_true rfl)⟩ hl.1 (Nat.le_of_ble_eq_true rfl) ⟨(Nat.le_of_ble_eq_true rfl), (Nat.le_of_ble_eq_true rfl)⟩ dX8_init_9 (fun H locs G => ?_)
  refine hk_putR (E1 := (hk_EE 196 194)) (a := 193) (r := 194) (k := 0) F9 G (by decide +kernel) hkc_6 (by decide) qw_243 rfl rfl hin rfl (tyX8_ok 0 (by decide)) (fun _ => rfl) (fun _ => rfl) (hk_setE (by decide +kernel) (by decide +kernel)) dX8_init_12 (fun H locs G => ?_)
  refine lv_aload_n hx hb dX8_init_15 rfl (lv_at hl 0 rfl) ?_
  refine hk_new (E1 := (hk_EE 197 194)) (a := 196) (b := 197) F9 G rfl ⟨rfl, rfl⟩ hkc_3 hkd_3 (hk_growE (kd := 4) (ln := 0) (by decide +kernel) (by decide +kernel) (by decide +kernel)) qw_239 qw_30 qw_2 ⟨(Nat.le_of_ble_eq_true rfl), (Nat.le_of_ble_eq_true rfl)⟩ dX8_init_16 (fun H G => ?_)
  obtain ⟨S3, eS3, hsp⟩ := hk_l hsp
  rw [eS3] at G
  refine lv_dup hx hb dX8_init_19 rfl ?_
  obtain ⟨r4, er4, hsp⟩ := hk_b hsp
  refine hk_callI (rest := [.ref (g.1 + 196), .ref (g.1 + 193)]) F9 G (kX5_init_196 l g F S3 r4 er4) qi_RX8_20 ⟨rfl, rfl, (Nat.le_of_ble_eq_true rfl), (Nat.le_of_ble_eq_true rfl)⟩ hl.1 (Nat.le_of_ble_eq_true rfl) ⟨(Nat.le_of_ble_eq_true rfl), (Nat.le_of_ble_eq_true rfl)⟩ dX8_init_20 (fun H locs G => ?_)
  refine hk_putR (E1 := (hk_EE 215 213)) (a := 193) (r := 196) (k := 1) F9 G (by decide +kernel) hkc_6 (by decide) qw_244 rfl rfl hin rfl (tyX8_ok 1 (by decide)) (fun _ => rfl) (fun _ => rfl) (hk_setE (by decide +kernel) (by decide +kernel)) dX8_init_23 (fun H locs G => ?_)
  refine lv_aload_n hx hb dX8_init_26 rfl (lv_at hl 0 rfl) ?_
  refine hk_getEND F9 G qw_241 dX8_init_27 ?_
  obtain ⟨S5, eS5, hsp⟩ := hk_l hsp
  refine hk_putE F9 G (by decide +kernel) hkc_6 (k := 5) (by decide) qw_245 rfl rfl rfl dX8_init_30 (fun H locs G => ?_)
  rw [eS5] at G
  refine lv_aload_n hx hb dX8_init_33 rfl (lv_at hl 0 rfl) ?_
  refine lv_iconst (v := 4) hx hb dX8_init_34 (by decide) ?_
  refine hk_newA (E1 := (hk_EE 216 213)) (a := 215) (b := 216) (ft := .int) (t := 2) (ln := 4) (kd := 13) F9 G rfl ⟨rfl, rfl⟩ rfl (fun _ h => nomatch h) rfl (fun I _ => hk_cell_i (t := 2) (by decide)) rfl (hk_growE (kd := 13) (ln := 4) (by decide +kernel) (by decide +kernel) (by decide +kernel)) qw_62 (by decide) (by decide) (by decide) ⟨(Nat.le_of_ble_eq_true rfl), (Nat.le_of_ble_eq_true rfl)⟩ dX8_init_35 (fun H G => ?_)
  obtain ⟨S6, eS6, hsp⟩ := hk_l hsp
  rw [eS6] at G
  refine hk_putR (E1 := (hk_EE 216 214)) (a := 193) (r := 215) (k := 8) F9 G (by decide +kernel) hkc_6 (by decide) qw_246 rfl rfl hin rfl (tyX8_ok 8 (by decide)) (fun _ => rfl) (fun _ => rfl) (hk_setE (by decide +kernel) (by decide +kernel)) dX8_init_37 (fun H locs G => ?_)
  refine lv_aload_n hx hb dX8_init_40 rfl (lv_at hl 0 rfl) ?_
  refine lv_iconst (v := 2) hx hb dX8_init_41 (by decide) ?_
  refine hk_newA (E1 := (hk_EE 217 214)) (a := 216) (b := 217) (ft := .int) (t := 2) (ln := 2) (kd := 13) F9 G rfl ⟨rfl, rfl⟩ rfl (fun _ h => nomatch h) rfl (fun I _ => hk_cell_i (t := 2) (by decide)) rfl (hk_growE (kd := 13) (ln := 2) (by decide +kernel) (by decide +kernel) (by decide +kernel)) qw_62 (by decide) (by decide) (by decide) ⟨(Nat.le_of_ble_eq_true rfl), (Nat.le_of_ble_eq_true rfl)⟩ dX8_init_42 (fun H G => ?_)
  obtain ⟨S7, eS7, hsp⟩ := hk_l hsp
  rw [eS7] at G
  refine hk_putR (E1 := (hk_EE 217 215)) (a := 193) (r := 216) (k := 12) F9 G (by decide +kernel) hkc_6 (by decide) qw_247 rfl rfl hin rfl (tyX8_ok 12 (by decide)) (fun _ => rfl) (fun _ => rfl) (hk_setE (by decide +kernel) (by decide +kernel)) dX8_init_44 (fun H locs G => ?_)
  refine lv_aload_n hx hb dX8_init_47 rfl (lv_at hl 0 rfl) ?_
  refine lv_iconst (v := 2) hx hb dX8_init_48 (by decide) ?_
  refine hk_newA (E1 := (hk_EE 218 215)) (a := 217) (b := 218) (ft := .int) (t := 2) (ln := 2) (kd := 13) F9 G rfl ⟨rfl, rfl⟩ rfl (fun _ h => nomatch h) rfl (fun I _ => hk_cell_i (t := 2) (by decide)) rfl (hk_growE (kd := 13) (ln := 2) (by decide +kernel) (by decide +kernel) (by decide +kernel)) qw_62 (by decide) (by decide) (by decide) ⟨(Nat.le_of_ble_eq_true rfl), (Nat.le_of_ble_eq_true rfl)⟩ dX8_init_49 (fun H G => ?_)
  obtain ⟨S8, eS8, hsp⟩ := hk_l hsp
  rw [eS8] at G
  refine hk_putR (E1 := (hk_EE 218 216)) (a := 193) (r := 217) (k := 13) F9 G (by decide +kernel) hkc_6 (by decide) qw_248 rfl rfl hin rfl (tyX8_ok 13 (by decide)) (fun _ => rfl) (fun _ => rfl) (hk_setE (by decide +kernel) (by decide +kernel)) dX8_init_51 (fun H locs G => ?_)
  obtain rfl := hk_s hsp
  exact W.vret hx hb hr (fun t ht hW => hk_end G ht hW) G.2.1.2.2 dX8_init_54
def mX7_init_218 (F : Nat) (S : hk_S) : Option (hk_S) :=
hk_let (va_up S 219 (fun _ => 0)) (fun S1 => some (S1))
set_option maxHeartbeats 4000000 in
set_option maxRecDepth 100000 in
theorem kX7_init_218 (l : Launch) (g : hk_G) (F : Nat) (S : hk_S) (o : hk_S) (hsp : mX7_init_218 F S = some o) : Met l yX7_init (hk_ws yX7_init cX7_init 1 (Option.none : Option Jvm.ClassFile.FieldType)) ({ frames := 1, cells := 1, slots := 88, locals := 12 }) (hk_Pc g (hk_EE 219 217) S (g.1 + 219) [.ref (g.1 + 218)]) (hk_Q g (hk_EE 220 218) o (g.1 + 220) none) 1 88 (hk_A g) := by
  refine Met.ofW (cc := cX7_init) (maxL := 1) (ret := (Option.none : Option Jvm.ClassFile.FieldType)) (by decide) rfl ?_
  intro p e s m args below meth c s₁ B hml hv
  obtain ⟨rfl, G⟩ := hk_begin hv
  have F9 : CallFix p m c cX7_init 1 s [.ref (g.1 + 218)].toArray hk_W RX7 := ⟨B.exec, B.bytes, hml, findClass_of_methodNamed B.named, fun w h => atoms_spec (ws := hk_ws yX7_init cX7_init 1 (Option.none : Option Jvm.ClassFile.FieldType)) B.pre w (hk_in h)⟩
  have hin : meth.name = "<init>" := (name_of_methodNamed B.named B.method).1
  have hx := B.exec
  have hb := B.bytes
  have hr := B.returns
  have hlocks := B.notSynchronized
  have hl := lv_entry ([.ref (g.1 + 218)]) (n := 1) (Nat.le_of_ble_eq_true rfl)
  rw [lg_entry_eq]
  generalize (lg_sl ([.ref (g.1 + 218)]) ++ List.replicate (1 - (lg_sl ([.ref (g.1 + 218)])).length) Slot.unset).toArray = ls at hl ⊢
  have hl : lv_has ls 1 [(0, .ref (g.1 + 218))] := hl
  unfold mX7_init_218 at hsp
  have G : hk_GG g (hk_EE 219 217) S (g.1 + 219) s s.heap [] := G
  refine lv_aload_n hx hb dX7_init_0 rfl (lv_at hl 0 rfl) ?_
  refine hk_obj F9 qw_283 qw_27 qw_28 hl.1 ⟨(Nat.le_of_ble_eq_true rfl), (Nat.le_of_ble_eq_true rfl)⟩ dX7_init_1 ?_
  refine lv_aload_n hx hb dX7_init_4 rfl (lv_at hl 0 rfl) ?_
  refine lv_bipush (v := 88) hx hb dX7_init_5 (by decide) ?_
  refine hk_newA (E1 := (hk_EE 220 217)) (a := 219) (b := 220) (ft := .byte) (t := 0) (ln := 88) (kd := 11) F9 G rfl ⟨rfl, rfl⟩ rfl (fun _ h => nomatch h) rfl (fun I _ => hk_cell_i (t := 0) (by decide)) rfl (hk_growE (kd := 11) (ln := 88) (by decide +kernel) (by decide +kernel) (by decide +kernel)) qw_238 (by decide) (by decide) (by decide) ⟨(Nat.le_of_ble_eq_true rfl), (Nat.le_of_ble_eq_true rfl)⟩ dX7_init_7 (fun H G => ?_)
  obtain ⟨S1, eS1, hsp⟩ := hk_l hsp
  rw [eS1] at G
  refine hk_putR (E1 := (hk_EE 220 218)) (a := 218) (r := 219) (k := 0) F9 G (by decide +kernel) hkc_5 (by decide) qw_284 rfl rfl hin rfl (tyX7_ok 0 (by decide)) (fun _ => rfl) (fun _ => rfl) (hk_setE (by decide +kernel) (by decide +kernel)) dX7_init_9 (fun H locs G => ?_)
  obtain rfl := hk_s hsp
  exact W.vret hx hb hr (fun t ht hW => hk_end G ht hW) G.2.1.2.2 dX7_init_12
def mX11_init_0 (F : Nat) (S : hk_S) : Option (hk_S) :=
hk_let (va_up S 1 (hk_i0 3)) (fun S1 => (mX5_init_1 F S1).bind (fun r2 => hk_let (va_up r2 20 (hk_i0 3)) (fun S3 => (mX5_init_20 F S3).bind (fun r4 => hk_let (va_up r4 39 (hk_i0 1)) (fun S5 => (mX3_init_39 F S5).bind (fun r6 => hk_let (va_up r6 193 (hk_i0 6)) (fun S7 => (mX8_init_193 F S7).bind (fun r8 => hk_let (va_up r8 218 (hk_i0 5)) (fun S9 => (mX7_init_218 F S9).bind (fun r10 => hk_let (va_up r10 220 (hk_i0 7)) (fun S11 => (mX10_init (hk_EE 221 219) F S11 220).bind (fun r12 => (mX5_placeTrough (hk_EE 221 220) F r12 1 100).bind (fun r13 => (mX5_placeTrough (hk_EE 221 220) F r13.2 1 200).bind (fun r14 => (mX5_placeTrough (hk_EE 221 220) F r14.2 1 50).bind (fun r15 => (mX5_troughAt (hk_EE 221 220) F r15.2 1 0).bind (fun r16 => if (hk_EE 221 220).2.1 r16.1 = 8 then ((mX5_putLeaf (hk_EE 221 220) F r16.2 1 r16.1 50 760).bind (fun r18 => (mX5_troughAt (hk_EE 221 220) F r18 1 1).bind (fun r19 => if (hk_EE 221 220).2.1 r19.1 = 8 then ((mX5_putLeaf (hk_EE 221 220) F r19.2 1 r19.1 200 780).bind (fun r21 => (mX5_troughAt (hk_EE 221 220) F r21 1 0).bind (fun r22 => if (hk_EE 221 220).2.1 r22.1 = 8 then (hk_let (hk_up r22.2 r22.1 1 3) (fun S24 => (mX5_troughAt (hk_EE 221 220) F S24 1 1).bind (fun r25 => if (hk_EE 221 220).2.1 r25.1 = 8 then (hk_let (hk_up r25.2 r25.1 1 4) (fun S27 => (mX1_addMonsoon (hk_EE 221 220) F S27 2 1).bind (fun r28 => (mX5_placeProbe (hk_EE 221 220) F r28 1 0 1 10).bind (fun r29 => (mX5_placeProbe (hk_EE 221 220) F r29.2 1 1 0 (-5)).bind (fun r30 => (mX5_letHoursPass (hk_EE 221 220) F r30.2 1 2).bind (fun r31 => (mX5_troughAt (hk_EE 221 220) F r31 1 0).bind (fun r32 => if (hk_EE 221 220).2.1 r32.1 = 8 then (hk_let (hk_up r32.2 r32.1 2 0) (fun S34 => (mX5_letHoursPass (hk_EE 221 220) F S34 1 1).bind (fun r35 => some (r35)))) else none))))))) else none))) else none))) else none))) else none))))))))))))))))
set_option maxHeartbeats 4000000 in
set_option maxRecDepth 100000 in
theorem kX11_init_0 (l : Launch) (g : hk_G) (F : Nat) (S : hk_S) (o : hk_S) (hsp : mX11_init_0 F S = some o) : Met l yX11_init (hk_ws yX11_init cX11_init 1 (Option.none : Option Jvm.ClassFile.FieldType)) ({ frames := 5, cells := 220, slots := 2198, locals := 104 }) (hk_Pc g (hk_EE 1 0) S (g.1 + 1) [.ref (g.1 + 0)]) (hk_Q g (hk_EE 221 220) o (g.1 + 221) none) 220 2198 (hk_A g) := by
  refine Met.ofW (cc := cX11_init) (maxL := 1) (ret := (Option.none : Option Jvm.ClassFile.FieldType)) (by decide) rfl ?_
  intro p e s m args below meth c s₁ B hml hv
  obtain ⟨rfl, G⟩ := hk_begin hv
  have F9 : CallFix p m c cX11_init 1 s [.ref (g.1 + 0)].toArray hk_W RX11 := ⟨B.exec, B.bytes, hml, findClass_of_methodNamed B.named, fun w h => atoms_spec (ws := hk_ws yX11_init cX11_init 1 (Option.none : Option Jvm.ClassFile.FieldType)) B.pre w (hk_in h)⟩
  have hin : meth.name = "<init>" := (name_of_methodNamed B.named B.method).1
  have hx := B.exec
  have hb := B.bytes
  have hr := B.returns
  have hlocks := B.notSynchronized
  have hl := lv_entry ([.ref (g.1 + 0)]) (n := 1) (Nat.le_of_ble_eq_true rfl)
  rw [lg_entry_eq]
  generalize (lg_sl ([.ref (g.1 + 0)]) ++ List.replicate (1 - (lg_sl ([.ref (g.1 + 0)])).length) Slot.unset).toArray = ls at hl ⊢
  have hl : lv_has ls 1 [(0, .ref (g.1 + 0))] := hl
  unfold mX11_init_0 at hsp
  have G : hk_GG g (hk_EE 1 0) S (g.1 + 1) s s.heap [] := G
  refine lv_aload_n hx hb dX11_init_0 rfl (lv_at hl 0 rfl) ?_
  refine hk_obj F9 qw_26 qw_27 qw_28 hl.1 ⟨(Nat.le_of_ble_eq_true rfl), (Nat.le_of_ble_eq_true rfl)⟩ dX11_init_1 ?_
  refine lv_aload_n hx hb dX11_init_4 rfl (lv_at hl 0 rfl) ?_
  refine hk_new (E1 := (hk_EE 2 0)) (a := 1) (b := 2) F9 G rfl ⟨rfl, rfl⟩ hkc_3 hkd_3 (hk_growE (kd := 4) (ln := 0) (by decide +kernel) (by decide +kernel) (by decide +kernel)) qw_29 qw_30 qw_2 ⟨(Nat.le_of_ble_eq_true rfl), (Nat.le_of_ble_eq_true rfl)⟩ dX11_init_5 (fun H G => ?_)
  obtain ⟨S1, eS1, hsp⟩ := hk_l hsp
  rw [eS1] at G
  refine lv_dup hx hb dX11_init_8 rfl ?_
  obtain ⟨r2, er2, hsp⟩ := hk_b hsp
  refine hk_callI (rest := [.ref (g.1 + 1), .ref (g.1 + 0)]) F9 G (kX5_init_1 l g F S1 r2 er2) qi_RX11_11 ⟨rfl, rfl, (Nat.le_of_ble_eq_true rfl), (Nat.le_of_ble_eq_true rfl)⟩ hl.1 (Nat.le_of_ble_eq_true rfl) ⟨(Nat.le_of_ble_eq_true rfl), (Nat.le_of_ble_eq_true rfl)⟩ dX11_init_9 (fun H locs G => ?_)
  refine hk_putR (E1 := (hk_EE 20 19)) (a := 0) (r := 1) (k := 0) F9 G (by decide +kernel) hkc_8 (by decide) qw_360 rfl rfl hin rfl (tyX11_ok 0 (by decide)) (fun _ => rfl) (fun _ => rfl) (hk_setE (by decide +kernel) (by decide +kernel)) dX11_init_12 (fun H locs G => ?_)
  refine lv_aload_n hx hb dX11_init_15 rfl (lv_at hl 0 rfl) ?_
  refine hk_new (E1 := (hk_EE 21 19)) (a := 20) (b := 21) F9 G rfl ⟨rfl, rfl⟩ hkc_3 hkd_3 (hk_growE (kd := 4) (ln := 0) (by decide +kernel) (by decide +kernel) (by decide +kernel)) qw_29 qw_30 qw_2 ⟨(Nat.le_of_ble_eq_true rfl), (Nat.le_of_ble_eq_true rfl)⟩ dX11_init_16 (fun H G => ?_)
  obtain ⟨S3, eS3, hsp⟩ := hk_l hsp
  rw [eS3] at G
  refine lv_dup hx hb dX11_init_19 rfl ?_
  obtain ⟨r4, er4, hsp⟩ := hk_b hsp
  refine hk_callI (rest := [.ref (g.1 + 20), .ref (g.1 + 0)]) F9 G (kX5_init_20 l g F S3 r4 er4) qi_RX11_11 ⟨rfl, rfl, (Nat.le_of_ble_eq_true rfl), (Nat.le_of_ble_eq_true rfl)⟩ hl.1 (Nat.le_of_ble_eq_true rfl) ⟨(Nat.le_of_ble_eq_true rfl), (Nat.le_of_ble_eq_true rfl)⟩ dX11_init_20 (fun H locs G => ?_)
  refine hk_putR (E1 := (hk_EE 39 38)) (a := 0) (r := 20) (k := 1) F9 G (by decide +kernel) hkc_8 (by decide) qw_361 rfl rfl hin rfl (tyX11_ok 1 (by decide)) (fun _ => rfl) (fun _ => rfl) (hk_setE (by decide +kernel) (by decide +kernel)) dX11_init_23 (fun H locs G => ?_)
  refine lv_aload_n hx hb dX11_init_26 rfl (lv_at hl 0 rfl) ?_
  refine hk_new (E1 := (hk_EE 40 38)) (a := 39) (b := 40) F9 G rfl ⟨rfl, rfl⟩ hkc_1 hkd_1 (hk_growE (kd := 2) (ln := 0) (by decide +kernel) (by decide +kernel) (by decide +kernel)) qw_200 qw_201 qw_6 ⟨(Nat.le_of_ble_eq_true rfl), (Nat.le_of_ble_eq_true rfl)⟩ dX11_init_27 (fun H G => ?_)
  obtain ⟨S5, eS5, hsp⟩ := hk_l hsp
  rw [eS5] at G
  refine lv_dup hx hb dX11_init_30 rfl ?_
  obtain ⟨r6, er6, hsp⟩ := hk_b hsp
  refine hk_callI (rest := [.ref (g.1 + 39), .ref (g.1 + 0)]) F9 G (kX3_init_39 l g F S5 r6 er6) qi_RX11_21 ⟨rfl, rfl, (Nat.le_of_ble_eq_true rfl), (Nat.le_of_ble_eq_true rfl)⟩ hl.1 (Nat.le_of_ble_eq_true rfl) ⟨(Nat.le_of_ble_eq_true rfl), (Nat.le_of_ble_eq_true rfl)⟩ dX11_init_31 (fun H locs G => ?_)
  refine hk_putR (E1 := (hk_EE 193 192)) (a := 0) (r := 39) (k := 3) F9 G (by decide +kernel) hkc_8 (by decide) qw_363 rfl rfl hin rfl (tyX11_ok 3 (by decide)) (fun _ => rfl) (fun _ => rfl) (hk_setE (by decide +kernel) (by decide +kernel)) dX11_init_34 (fun H locs G => ?_)
  refine lv_aload_n hx hb dX11_init_37 rfl (lv_at hl 0 rfl) ?_
  refine hk_new (E1 := (hk_EE 194 192)) (a := 193) (b := 194) F9 G rfl ⟨rfl, rfl⟩ hkc_6 hkd_6 (hk_growE (kd := 7) (ln := 0) (by decide +kernel) (by decide +kernel) (by decide +kernel)) qw_220 qw_221 qw_7 ⟨(Nat.le_of_ble_eq_true rfl), (Nat.le_of_ble_eq_true rfl)⟩ dX11_init_38 (fun H G => ?_)
  obtain ⟨S7, eS7, hsp⟩ := hk_l hsp
  rw [eS7] at G
  refine lv_dup hx hb dX11_init_41 rfl ?_
  obtain ⟨r8, er8, hsp⟩ := hk_b hsp
  refine hk_callIN (rest := [.ref (g.1 + 193), .ref (g.1 + 0)]) F9 G (kX8_init_193 l g F S7 r8 er8) qin_RX11_28 ⟨rfl, rfl, (Nat.le_of_ble_eq_true rfl), (Nat.le_of_ble_eq_true rfl)⟩ hl.1 (Nat.le_of_ble_eq_true rfl) ⟨(Nat.le_of_ble_eq_true rfl), (Nat.le_of_ble_eq_true rfl)⟩ dX11_init_42 (fun H locs G => ?_)
  refine hk_putR (E1 := (hk_EE 218 217)) (a := 0) (r := 193) (k := 4) F9 G (by decide +kernel) hkc_8 (by decide) qw_364 rfl rfl hin rfl (tyX11_ok 4 (by decide)) (fun _ => rfl) (fun _ => rfl) (hk_setE (by decide +kernel) (by decide +kernel)) dX11_init_45 (fun H locs G => ?_)
  refine lv_aload_n hx hb dX11_init_48 rfl (lv_at hl 0 rfl) ?_
  refine hk_new (E1 := (hk_EE 219 217)) (a := 218) (b := 219) F9 G rfl ⟨rfl, rfl⟩ hkc_5 hkd_5 (hk_growE (kd := 6) (ln := 0) (by decide +kernel) (by decide +kernel) (by decide +kernel)) qw_278 qw_279 qw_11 ⟨(Nat.le_of_ble_eq_true rfl), (Nat.le_of_ble_eq_true rfl)⟩ dX11_init_49 (fun H G => ?_)
  obtain ⟨S9, eS9, hsp⟩ := hk_l hsp
  rw [eS9] at G
  refine lv_dup hx hb dX11_init_52 rfl ?_
  obtain ⟨r10, er10, hsp⟩ := hk_b hsp
  refine hk_callIN (rest := [.ref (g.1 + 218), .ref (g.1 + 0)]) F9 G (kX7_init_218 l g F S9 r10 er10) qin_RX11_35 ⟨rfl, rfl, (Nat.le_of_ble_eq_true rfl), (Nat.le_of_ble_eq_true rfl)⟩ hl.1 (Nat.le_of_ble_eq_true rfl) ⟨(Nat.le_of_ble_eq_true rfl), (Nat.le_of_ble_eq_true rfl)⟩ dX11_init_53 (fun H locs G => ?_)
  refine hk_putR (E1 := (hk_EE 220 219)) (a := 0) (r := 218) (k := 5) F9 G (by decide +kernel) hkc_8 (by decide) qw_365 rfl rfl hin rfl (tyX11_ok 5 (by decide)) (fun _ => rfl) (fun _ => rfl) (hk_setE (by decide +kernel) (by decide +kernel)) dX11_init_56 (fun H locs G => ?_)
  refine lv_aload_n hx hb dX11_init_59 rfl (lv_at hl 0 rfl) ?_
  refine hk_new (E1 := (hk_EE 221 219)) (a := 220) (b := 221) F9 G rfl ⟨rfl, rfl⟩ hkc_7 hkd_7 (hk_growE (kd := 8) (ln := 0) (by decide +kernel) (by decide +kernel) (by decide +kernel)) qw_290 qw_67 qw_4 ⟨(Nat.le_of_ble_eq_true rfl), (Nat.le_of_ble_eq_true rfl)⟩ dX11_init_60 (fun H G => ?_)
  obtain ⟨S11, eS11, hsp⟩ := hk_l hsp
  rw [eS11] at G
  refine lv_dup hx hb dX11_init_63 rfl ?_
  obtain ⟨r12, er12, hsp⟩ := hk_b hsp
  refine hk_callIN (rest := [.ref (g.1 + 220), .ref (g.1 + 0)]) F9 G (kX10_init l g (hk_EE 221 219) F (g.1 + 221) S11 220 r12 (by decide +kernel) er12) qin_RX11_42 ⟨rfl, rfl, (Nat.le_of_ble_eq_true rfl), (Nat.le_of_ble_eq_true rfl)⟩ hl.1 (Nat.le_of_ble_eq_true rfl) ⟨(Nat.le_of_ble_eq_true rfl), (Nat.le_of_ble_eq_true rfl)⟩ dX11_init_64 (fun H locs G => ?_)
  refine hk_putR (E1 := (hk_EE 221 220)) (a := 0) (r := 220) (k := 6) F9 G (by decide +kernel) hkc_8 (by decide) qw_366 rfl rfl hin rfl (tyX11_ok 6 (by decide)) (fun _ => rfl) (fun _ => rfl) (hk_setE (by decide +kernel) (by decide +kernel)) dX11_init_67 (fun H locs G => ?_)
  refine lv_aload_n hx hb dX11_init_70 rfl (lv_at hl 0 rfl) ?_
  refine hk_getR (r := 1) F9 G (by decide +kernel) hkc_8 (k := 0) (by decide) qw_360 rfl (by decide +kernel) dX11_init_71 ?_
  refine lv_bipush (v := 100) hx hb dX11_init_74 (by decide) ?_
  obtain ⟨r13, er13, hsp⟩ := hk_b hsp
  refine hk_callVi (As := [.int 100]) (rest := []) F9 G (by decide +kernel) hkc_3 rfl (kX5_placeTrough l g (hk_EE 221 220) F (g.1 + 221) r12 1 100 r13 (by decide +kernel) er13) qv_RX11_47 ⟨rfl, rfl, (Nat.le_of_ble_eq_true rfl), (Nat.le_of_ble_eq_true rfl)⟩ rfl hl.1 rfl (Nat.le_of_ble_eq_true rfl) ⟨(Nat.le_of_ble_eq_true rfl), (Nat.le_of_ble_eq_true rfl)⟩ dX11_init_76 (fun H locs G => ?_)
  refine lv_pop hx hb dX11_init_79 rfl ?_
  refine lv_aload_n hx hb dX11_init_80 rfl (lv_at hl 0 rfl) ?_
  refine hk_getR (r := 1) F9 G (by decide +kernel) hkc_8 (k := 0) (by decide) qw_360 rfl (by decide +kernel) dX11_init_81 ?_
  refine lv_sipush (v := 200) hx hb dX11_init_84 (by decide) ?_
  obtain ⟨r14, er14, hsp⟩ := hk_b hsp
  refine hk_callVi (As := [.int 200]) (rest := []) F9 G (by decide +kernel) hkc_3 rfl (kX5_placeTrough l g (hk_EE 221 220) F (g.1 + 221) r13.2 1 200 r14 (by decide +kernel) er14) qv_RX11_47 ⟨rfl, rfl, (Nat.le_of_ble_eq_true rfl), (Nat.le_of_ble_eq_true rfl)⟩ rfl hl.1 rfl (Nat.le_of_ble_eq_true rfl) ⟨(Nat.le_of_ble_eq_true rfl), (Nat.le_of_ble_eq_true rfl)⟩ dX11_init_87 (fun H locs G => ?_)
  refine lv_pop hx hb dX11_init_90 rfl ?_
  refine lv_aload_n hx hb dX11_init_91 rfl (lv_at hl 0 rfl) ?_
  refine hk_getR (r := 1) F9 G (by decide +kernel) hkc_8 (k := 0) (by decide) qw_360 rfl (by decide +kernel) dX11_init_92 ?_
  refine lv_bipush (v := 50) hx hb dX11_init_95 (by decide) ?_
  obtain ⟨r15, er15, hsp⟩ := hk_b hsp
  refine hk_callVi (As := [.int 50]) (rest := []) F9 G (by decide +kernel) hkc_3 rfl (kX5_placeTrough l g (hk_EE 221 220) F (g.1 + 221) r14.2 1 50 r15 (by decide +kernel) er15) qv_RX11_47 ⟨rfl, rfl, (Nat.le_of_ble_eq_true rfl), (Nat.le_of_ble_eq_true rfl)⟩ rfl hl.1 rfl (Nat.le_of_ble_eq_true rfl) ⟨(Nat.le_of_ble_eq_true rfl), (Nat.le_of_ble_eq_true rfl)⟩ dX11_init_97 (fun H locs G => ?_)
  refine lv_pop hx hb dX11_init_100 rfl ?_
  refine lv_aload_n hx hb dX11_init_101 rfl (lv_at hl 0 rfl) ?_
  refine hk_getR (r := 1) F9 G (by decide +kernel) hkc_8 (k := 0) (by decide) qw_360 rfl (by decide +kernel) dX11_init_102 ?_
  refine lv_aload_n hx hb dX11_init_105 rfl (lv_at hl 0 rfl) ?_
  refine hk_getR (r := 1) F9 G (by decide +kernel) hkc_8 (k := 0) (by decide) qw_360 rfl (by decide +kernel) dX11_init_106 ?_
  refine lv_iconst (v := 0) hx hb dX11_init_109 (by decide) ?_
  obtain ⟨r16, er16, hsp⟩ := hk_b hsp
  refine hk_callVr (As := [.int 0]) (rest := [.ref (g.1 + 1)]) F9 G (by decide +kernel) hkc_3 rfl (kX5_troughAt l g (hk_EE 221 220) F (g.1 + 221) r15.2 1 0 r16 (by decide +kernel) er16) qv_RX11_51 ⟨rfl, rfl, (Nat.le_of_ble_eq_true rfl), (Nat.le_of_ble_eq_true rfl)⟩ rfl hl.1 rfl (Nat.le_of_ble_eq_true rfl) ⟨(Nat.le_of_ble_eq_true rfl), (Nat.le_of_ble_eq_true rfl)⟩ dX11_init_110 (fun H locs G => ?_)
  obtain ⟨q17, hsp⟩ := hk_k hsp
  refine lv_bipush (v := 50) hx hb dX11_init_113 (by decide) ?_
  refine lv_sipush (v := 760) hx hb dX11_init_115 (by decide) ?_
  obtain ⟨r18, er18, hsp⟩ := hk_b hsp
  refine hk_callVv (As := [.ref (g.1 + r16.1), .int 50, .int 760]) (rest := []) F9 G (by decide +kernel) hkc_3 rfl (kX5_putLeaf l g (hk_EE 221 220) F (g.1 + 221) r16.2 1 r16.1 50 760 r18 (by decide +kernel) q17 er18) qv_RX11_55 ⟨rfl, rfl, (Nat.le_of_ble_eq_true rfl), (Nat.le_of_ble_eq_true rfl)⟩ rfl hl.1 rfl (Nat.le_of_ble_eq_true rfl) ⟨(Nat.le_of_ble_eq_true rfl), (Nat.le_of_ble_eq_true rfl)⟩ dX11_init_118 (fun H locs G => ?_)
  refine lv_aload_n hx hb dX11_init_121 rfl (lv_at hl 0 rfl) ?_
  refine hk_getR (r := 1) F9 G (by decide +kernel) hkc_8 (k := 0) (by decide) qw_360 rfl (by decide +kernel) dX11_init_122 ?_
  refine lv_aload_n hx hb dX11_init_125 rfl (lv_at hl 0 rfl) ?_
  refine hk_getR (r := 1) F9 G (by decide +kernel) hkc_8 (k := 0) (by decide) qw_360 rfl (by decide +kernel) dX11_init_126 ?_
  refine lv_iconst (v := 1) hx hb dX11_init_129 (by decide) ?_
  obtain ⟨r19, er19, hsp⟩ := hk_b hsp
  refine hk_callVr (As := [.int 1]) (rest := [.ref (g.1 + 1)]) F9 G (by decide +kernel) hkc_3 rfl (kX5_troughAt l g (hk_EE 221 220) F (g.1 + 221) r18 1 1 r19 (by decide +kernel) er19) qv_RX11_51 ⟨rfl, rfl, (Nat.le_of_ble_eq_true rfl), (Nat.le_of_ble_eq_true rfl)⟩ rfl hl.1 rfl (Nat.le_of_ble_eq_true rfl) ⟨(Nat.le_of_ble_eq_true rfl), (Nat.le_of_ble_eq_true rfl)⟩ dX11_init_130 (fun H locs G => ?_)
  obtain ⟨q20, hsp⟩ := hk_k hsp
  refine lv_sipush (v := 200) hx hb dX11_init_133 (by decide) ?_
  refine lv_sipush (v := 780) hx hb dX11_init_136 (by decide) ?_
  obtain ⟨r21, er21, hsp⟩ := hk_b hsp
  refine hk_callVv (As := [.ref (g.1 + r19.1), .int 200, .int 780]) (rest := []) F9 G (by decide +kernel) hkc_3 rfl (kX5_putLeaf l g (hk_EE 221 220) F (g.1 + 221) r19.2 1 r19.1 200 780 r21 (by decide +kernel) q20 er21) qv_RX11_55 ⟨rfl, rfl, (Nat.le_of_ble_eq_true rfl), (Nat.le_of_ble_eq_true rfl)⟩ rfl hl.1 rfl (Nat.le_of_ble_eq_true rfl) ⟨(Nat.le_of_ble_eq_true rfl), (Nat.le_of_ble_eq_true rfl)⟩ dX11_init_139 (fun H locs G => ?_)
  refine lv_aload_n hx hb dX11_init_142 rfl (lv_at hl 0 rfl) ?_
  refine hk_getR (r := 1) F9 G (by decide +kernel) hkc_8 (k := 0) (by decide) qw_360 rfl (by decide +kernel) dX11_init_143 ?_
  refine lv_iconst (v := 0) hx hb dX11_init_146 (by decide) ?_
  obtain ⟨r22, er22, hsp⟩ := hk_b hsp
  refine hk_callVr (As := [.int 0]) (rest := []) F9 G (by decide +kernel) hkc_3 rfl (kX5_troughAt l g (hk_EE 221 220) F (g.1 + 221) r21 1 0 r22 (by decide +kernel) er22) qv_RX11_51 ⟨rfl, rfl, (Nat.le_of_ble_eq_true rfl), (Nat.le_of_ble_eq_true rfl)⟩ rfl hl.1 rfl (Nat.le_of_ble_eq_true rfl) ⟨(Nat.le_of_ble_eq_true rfl), (Nat.le_of_ble_eq_true rfl)⟩ dX11_init_147 (fun H locs G => ?_)
  obtain ⟨q23, hsp⟩ := hk_k hsp
  refine lv_iconst (v := 3) hx hb dX11_init_150 (by decide) ?_
  obtain ⟨S24, eS24, hsp⟩ := hk_l hsp
  refine hk_putI F9 G q23 hkc_7 (k := 1) (by decide) qw_74 rfl rfl (tyX10_ok 1 (by decide)) rfl rfl dX11_init_151 (fun H locs G => ?_)
  rw [eS24] at G
  refine lv_aload_n hx hb dX11_init_154 rfl (lv_at hl 0 rfl) ?_
  refine hk_getR (r := 1) F9 G (by decide +kernel) hkc_8 (k := 0) (by decide) qw_360 rfl (by decide +kernel) dX11_init_155 ?_
  refine lv_iconst (v := 1) hx hb dX11_init_158 (by decide) ?_
  obtain ⟨r25, er25, hsp⟩ := hk_b hsp
  refine hk_callVr (As := [.int 1]) (rest := []) F9 G (by decide +kernel) hkc_3 rfl (kX5_troughAt l g (hk_EE 221 220) F (g.1 + 221) S24 1 1 r25 (by decide +kernel) er25) qv_RX11_51 ⟨rfl, rfl, (Nat.le_of_ble_eq_true rfl), (Nat.le_of_ble_eq_true rfl)⟩ rfl hl.1 rfl (Nat.le_of_ble_eq_true rfl) ⟨(Nat.le_of_ble_eq_true rfl), (Nat.le_of_ble_eq_true rfl)⟩ dX11_init_159 (fun H locs G => ?_)
  obtain ⟨q26, hsp⟩ := hk_k hsp
  refine lv_iconst (v := 4) hx hb dX11_init_162 (by decide) ?_
  obtain ⟨S27, eS27, hsp⟩ := hk_l hsp
  refine hk_putI F9 G q26 hkc_7 (k := 1) (by decide) qw_74 rfl rfl (tyX10_ok 1 (by decide)) rfl rfl dX11_init_163 (fun H locs G => ?_)
  rw [eS27] at G
  refine lv_aload_n hx hb dX11_init_166 rfl (lv_at hl 0 rfl) ?_
  refine hk_getR (r := 1) F9 G (by decide +kernel) hkc_8 (k := 0) (by decide) qw_360 rfl (by decide +kernel) dX11_init_167 ?_
  refine hk_getR (r := 2) F9 G (by decide +kernel) hkc_3 (k := 0) (by decide) qw_154 rfl (by decide +kernel) dX11_init_170 ?_
  refine lv_iconst (v := 1) hx hb dX11_init_173 (by decide) ?_
  obtain ⟨r28, er28, hsp⟩ := hk_b hsp
  refine hk_callVv (As := [.int 1]) (rest := []) F9 G (by decide +kernel) hkc_0 rfl (kX1_addMonsoon l g (hk_EE 221 220) F (g.1 + 221) S27 2 1 r28 (by decide +kernel) er28) qv_RX11_67 ⟨rfl, rfl, (Nat.le_of_ble_eq_true rfl), (Nat.le_of_ble_eq_true rfl)⟩ rfl hl.1 rfl (Nat.le_of_ble_eq_true rfl) ⟨(Nat.le_of_ble_eq_true rfl), (Nat.le_of_ble_eq_true rfl)⟩ dX11_init_174 (fun H locs G => ?_)
  refine lv_aload_n hx hb dX11_init_177 rfl (lv_at hl 0 rfl) ?_
  refine hk_getR (r := 1) F9 G (by decide +kernel) hkc_8 (k := 0) (by decide) qw_360 rfl (by decide +kernel) dX11_init_178 ?_
  refine lv_iconst (v := 0) hx hb dX11_init_181 (by decide) ?_
  refine lv_iconst (v := 1) hx hb dX11_init_182 (by decide) ?_
  refine lv_bipush (v := 10) hx hb dX11_init_183 (by decide) ?_
  obtain ⟨r29, er29, hsp⟩ := hk_b hsp
  refine hk_callVi (As := [.int 0, .int 1, .int 10]) (rest := []) F9 G (by decide +kernel) hkc_3 rfl (kX5_placeProbe l g (hk_EE 221 220) F (g.1 + 221) r28 1 0 1 10 r29 (by decide +kernel) er29) qv_RX11_73 ⟨rfl, rfl, (Nat.le_of_ble_eq_true rfl), (Nat.le_of_ble_eq_true rfl)⟩ rfl hl.1 rfl (Nat.le_of_ble_eq_true rfl) ⟨(Nat.le_of_ble_eq_true rfl), (Nat.le_of_ble_eq_true rfl)⟩ dX11_init_185 (fun H locs G => ?_)
  refine lv_pop hx hb dX11_init_188 rfl ?_
  refine lv_aload_n hx hb dX11_init_189 rfl (lv_at hl 0 rfl) ?_
  refine hk_getR (r := 1) F9 G (by decide +kernel) hkc_8 (k := 0) (by decide) qw_360 rfl (by decide +kernel) dX11_init_190 ?_
  refine lv_iconst (v := 1) hx hb dX11_init_193 (by decide) ?_
  refine lv_iconst (v := 0) hx hb dX11_init_194 (by decide) ?_
  refine lv_bipush (v := (-5)) hx hb dX11_init_195 (by decide) ?_
  obtain ⟨r30, er30, hsp⟩ := hk_b hsp
  refine hk_callVi (As := [.int 1, .int 0, .int (-5)]) (rest := []) F9 G (by decide +kernel) hkc_3 rfl (kX5_placeProbe l g (hk_EE 221 220) F (g.1 + 221) r29.2 1 1 0 (-5) r30 (by decide +kernel) er30) qv_RX11_73 ⟨rfl, rfl, (Nat.le_of_ble_eq_true rfl), (Nat.le_of_ble_eq_true rfl)⟩ rfl hl.1 rfl (Nat.le_of_ble_eq_true rfl) ⟨(Nat.le_of_ble_eq_true rfl), (Nat.le_of_ble_eq_true rfl)⟩ dX11_init_197 (fun H locs G => ?_)
  refine lv_pop hx hb dX11_init_200 rfl ?_
  refine lv_aload_n hx hb dX11_init_201 rfl (lv_at hl 0 rfl) ?_
  refine hk_getR (r := 1) F9 G (by decide +kernel) hkc_8 (k := 0) (by decide) qw_360 rfl (by decide +kernel) dX11_init_202 ?_
  refine lv_iconst (v := 2) hx hb dX11_init_205 (by decide) ?_
  obtain ⟨r31, er31, hsp⟩ := hk_b hsp
  refine hk_callVv (As := [.int 2]) (rest := []) F9 G (by decide +kernel) hkc_3 rfl (kX5_letHoursPass l g (hk_EE 221 220) F (g.1 + 221) r30.2 1 2 r31 (by decide +kernel) er31) qv_RX11_77 ⟨rfl, rfl, (Nat.le_of_ble_eq_true rfl), (Nat.le_of_ble_eq_true rfl)⟩ rfl hl.1 rfl (Nat.le_of_ble_eq_true rfl) ⟨(Nat.le_of_ble_eq_true rfl), (Nat.le_of_ble_eq_true rfl)⟩ dX11_init_206 (fun H locs G => ?_)
  refine lv_aload_n hx hb dX11_init_209 rfl (lv_at hl 0 rfl) ?_
  refine hk_getR (r := 1) F9 G (by decide +kernel) hkc_8 (k := 0) (by decide) qw_360 rfl (by decide +kernel) dX11_init_210 ?_
  refine lv_iconst (v := 0) hx hb dX11_init_213 (by decide) ?_
  obtain ⟨r32, er32, hsp⟩ := hk_b hsp
  refine hk_callVr (As := [.int 0]) (rest := []) F9 G (by decide +kernel) hkc_3 rfl (kX5_troughAt l g (hk_EE 221 220) F (g.1 + 221) r31 1 0 r32 (by decide +kernel) er32) qv_RX11_51 ⟨rfl, rfl, (Nat.le_of_ble_eq_true rfl), (Nat.le_of_ble_eq_true rfl)⟩ rfl hl.1 rfl (Nat.le_of_ble_eq_true rfl) ⟨(Nat.le_of_ble_eq_true rfl), (Nat.le_of_ble_eq_true rfl)⟩ dX11_init_214 (fun H locs G => ?_)
  obtain ⟨q33, hsp⟩ := hk_k hsp
  refine lv_iconst (v := 0) hx hb dX11_init_217 (by decide) ?_
  obtain ⟨S34, eS34, hsp⟩ := hk_l hsp
  refine hk_putI F9 G q33 hkc_7 (k := 2) (by decide) qw_76 rfl rfl (tyX10_ok 2 (by decide)) (hk_z (by decide)).1 (hk_z (by decide)).2 dX11_init_218 (fun H locs G => ?_)
  rw [eS34] at G
  refine lv_aload_n hx hb dX11_init_221 rfl (lv_at hl 0 rfl) ?_
  refine hk_getR (r := 1) F9 G (by decide +kernel) hkc_8 (k := 0) (by decide) qw_360 rfl (by decide +kernel) dX11_init_222 ?_
  refine lv_iconst (v := 1) hx hb dX11_init_225 (by decide) ?_
  obtain ⟨r35, er35, hsp⟩ := hk_b hsp
  refine hk_callVv (As := [.int 1]) (rest := []) F9 G (by decide +kernel) hkc_3 rfl (kX5_letHoursPass l g (hk_EE 221 220) F (g.1 + 221) S34 1 1 r35 (by decide +kernel) er35) qv_RX11_77 ⟨rfl, rfl, (Nat.le_of_ble_eq_true rfl), (Nat.le_of_ble_eq_true rfl)⟩ rfl hl.1 rfl (Nat.le_of_ble_eq_true rfl) ⟨(Nat.le_of_ble_eq_true rfl), (Nat.le_of_ble_eq_true rfl)⟩ dX11_init_226 (fun H locs G => ?_)
  obtain rfl := hk_s hsp
  exact W.vret hx hb hr (fun t ht hW => hk_end G ht hW) G.2.1.2.2 dX11_init_229
