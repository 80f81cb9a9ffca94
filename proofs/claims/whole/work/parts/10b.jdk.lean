def mJ6_bitCount_0f7a4 (E : hk_E) (F : Nat) (S : hk_S) (x0 : Int32) : Option (Int32 × hk_S) :=
hk_let (x0 - ((((x0 : Int32).toUInt32 >>> ((1 : Int32).toUInt32 &&& Int32.toUInt32 31)).toInt32) &&& 1431655765)) (fun y1 => hk_let ((y1 &&& 858993459) + ((((y1 : Int32).toUInt32 >>> ((2 : Int32).toUInt32 &&& Int32.toUInt32 31)).toInt32) &&& 858993459)) (fun y2 => hk_let ((y2 + (((y2 : Int32).toUInt32 >>> ((4 : Int32).toUInt32 &&& Int32.toUInt32 31)).toInt32)) &&& 252645135) (fun y3 => hk_let (y3 + (((y3 : Int32).toUInt32 >>> ((8 : Int32).toUInt32 &&& Int32.toUInt32 31)).toInt32)) (fun y4 => hk_let (y4 + (((y4 : Int32).toUInt32 >>> ((16 : Int32).toUInt32 &&& Int32.toUInt32 31)).toInt32)) (fun y5 => some ((y5 &&& 63), S))))))
set_option maxHeartbeats 4000000 in
set_option maxRecDepth 100000 in
theorem kJ6_bitCount_0f7a4 (l : Launch) (g : hk_G) (E : hk_E) (F n : Nat) (S : hk_S) (x0 : Int32) (o : Int32 × hk_S)  (hsp : mJ6_bitCount_0f7a4 E F S x0 = some o) : Met l yJ6_bitCount_0f7a4 (hk_ws yJ6_bitCount_0f7a4 cJ6_bitCount_0f7a4 1 (Option.some Jvm.ClassFile.FieldType.int)) ({ frames := 0, cells := 0, slots := 0, locals := 0 }) (hk_Pc g E S n [.int x0]) (hk_Q g E o.2 n (some (.int o.1))) 0 0 (hk_A g) := by
  refine va_MetF (cc := cJ6_bitCount_0f7a4) (maxL := 1) (ret := (Option.some Jvm.ClassFile.FieldType.int)) (by decide +kernel) rfl ?_
  intro p e s m args below meth c s₁ B hml hv
  obtain ⟨rfl, G⟩ := hk_begin hv
  have F9 : CallFix p m c cJ6_bitCount_0f7a4 1 s [.int x0].toArray hk_W RJ6 := ⟨B.exec, B.bytes, hml, findClass_of_methodNamed B.named, fun w h => atoms_spec (ws := hk_ws yJ6_bitCount_0f7a4 cJ6_bitCount_0f7a4 1 (Option.some Jvm.ClassFile.FieldType.int)) B.pre w (hk_in h)⟩
  have hx := B.exec
  have hb := B.bytes
  have hr := B.returns
  have hlocks := B.notSynchronized
  have hl := lv_entry ([.int x0]) (n := 1) (Nat.le_of_ble_eq_true rfl)
  rw [lg_entry_eq]
  generalize (lg_sl ([.int x0]) ++ List.replicate (1 - (lg_sl ([.int x0])).length) Slot.unset).toArray = ls at hl ⊢
  have hl : lv_has ls 1 [(0, .int x0)] := hl
  unfold mJ6_bitCount_0f7a4 at hsp
  have G : hk_GG g E S n s s.heap [] := G
  refine lv_iload_n hx hb dJ6_bitCount_0f7a4_0 rfl (lv_at hl 0 rfl) ?_
  refine lv_iload_n hx hb dJ6_bitCount_0f7a4_1 rfl (lv_at hl 0 rfl) ?_
  refine lv_iconst (v := 1) hx hb dJ6_bitCount_0f7a4_2 (by decide) ?_
  refine lv_iushr hx hb dJ6_bitCount_0f7a4_3 rfl ?_
  refine lv_ldcw hx hb F9.2.2.2.1 (F9.2.2.2.2 _ qw_800) dJ6_bitCount_0f7a4_4 ?_
  refine lv_iand hx hb dJ6_bitCount_0f7a4_7 ?_
  refine lv_isub hx hb dJ6_bitCount_0f7a4_8 ?_
  obtain ⟨y1, ey1, hsp⟩ := hk_l hsp
  refine hk_top ey1 ?_
  refine lv_istore_n (lv' := [(0, .int y1)]) hx hb dJ6_bitCount_0f7a4_9 rfl hl (by decide) rfl (fun ls hl => ?_)
  refine lv_iload_n hx hb dJ6_bitCount_0f7a4_10 rfl (lv_at hl 0 rfl) ?_
  refine lv_ldcw hx hb F9.2.2.2.1 (F9.2.2.2.2 _ qw_801) dJ6_bitCount_0f7a4_11 ?_
  refine lv_iand hx hb dJ6_bitCount_0f7a4_14 ?_
  refine lv_iload_n hx hb dJ6_bitCount_0f7a4_15 rfl (lv_at hl 0 rfl) ?_
  refine lv_iconst (v := 2) hx hb dJ6_bitCount_0f7a4_16 (by decide) ?_
  refine lv_iushr hx hb dJ6_bitCount_0f7a4_17 rfl ?_
  refine lv_ldcw hx hb F9.2.2.2.1 (F9.2.2.2.2 _ qw_801) dJ6_bitCount_0f7a4_18 ?_
  refine lv_iand hx hb dJ6_bitCount_0f7a4_21 ?_
  refine lv_iadd hx hb dJ6_bitCount_0f7a4_22 ?_
  obtain ⟨y2, ey2, hsp⟩ := hk_l hsp
  refine hk_top ey2 ?_
  refine lv_istore_n (lv' := [(0, .int y2)]) hx hb dJ6_bitCount_0f7a4_23 rfl hl (by decide) rfl (fun ls hl => ?_)
  refine lv_iload_n hx hb dJ6_bitCount_0f7a4_24 rfl (lv_at hl 0 rfl) ?_
  refine lv_iload_n hx hb dJ6_bitCount_0f7a4_25 rfl (lv_at hl 0 rfl) ?_
  refine lv_iconst (v := 4) hx hb dJ6_bitCount_0f7a4_26 (by decide) ?_
  refine lv_iushr hx hb dJ6_bitCount_0f7a4_27 rfl ?_
  refine lv_iadd hx hb dJ6_bitCount_0f7a4_28 ?_
  refine lv_ldcw hx hb F9.2.2.2.1 (F9.2.2.2.2 _ qw_802) dJ6_bitCount_0f7a4_29 ?_
  refine lv_iand hx hb dJ6_bitCount_0f7a4_32 ?_
  obtain ⟨y3, ey3, hsp⟩ := hk_l hsp
  refine hk_top ey3 ?_
  refine lv_istore_n (lv' := [(0, .int y3)]) hx hb dJ6_bitCount_0f7a4_33 rfl hl (by decide) rfl (fun ls hl => ?_)
  refine lv_iload_n hx hb dJ6_bitCount_0f7a4_34 rfl (lv_at hl 0 rfl) ?_
  refine lv_iload_n hx hb dJ6_bitCount_0f7a4_35 rfl (lv_at hl 0 rfl) ?_
  refine lv_bipush (v := 8) hx hb dJ6_bitCount_0f7a4_36 (by decide) ?_
  refine lv_iushr hx hb dJ6_bitCount_0f7a4_38 rfl ?_
  refine lv_iadd hx hb dJ6_bitCount_0f7a4_39 ?_
  obtain ⟨y4, ey4, hsp⟩ := hk_l hsp
  refine hk_top ey4 ?_
  refine lv_istore_n (lv' := [(0, .int y4)]) hx hb dJ6_bitCount_0f7a4_40 rfl hl (by decide) rfl (fun ls hl => ?_)
  refine lv_iload_n hx hb dJ6_bitCount_0f7a4_41 rfl (lv_at hl 0 rfl) ?_
  refine lv_iload_n hx hb dJ6_bitCount_0f7a4_42 rfl (lv_at hl 0 rfl) ?_
  refine lv_bipush (v := 16) hx hb dJ6_bitCount_0f7a4_43 (by decide) ?_
  refine lv_iushr hx hb dJ6_bitCount_0f7a4_45 rfl ?_
  refine lv_iadd hx hb dJ6_bitCount_0f7a4_46 ?_
  obtain ⟨y5, ey5, hsp⟩ := hk_l hsp
  refine hk_top ey5 ?_
  refine lv_istore_n (lv' := [(0, .int y5)]) hx hb dJ6_bitCount_0f7a4_47 rfl hl (by decide) rfl (fun ls hl => ?_)
  refine lv_iload_n hx hb dJ6_bitCount_0f7a4_48 rfl (lv_at hl 0 rfl) ?_
  refine lv_bipush (v := 63) hx hb dJ6_bitCount_0f7a4_49 (by decide) ?_
  refine lv_iand hx hb dJ6_bitCount_0f7a4_51 ?_
  obtain rfl := hk_s hsp
  exact W.iret (v := (y5 &&& 63)) hx hb hr (fun t ht hW => hk_end G ht hW) G.2.1.2.2 dJ6_bitCount_0f7a4_52
def mJ9_floorDiv_7cf53 (E : hk_E) (F : Nat) (S : hk_S) (x0 : Int32) (x1 : Int32) : Option (Int32 × hk_S) :=
if ¬ x1 = 0 then (hk_let (x0 / x1) (fun y2 => if 0 ≤ (x0 ^^^ x1) then (some (y2, S)) else (if (y2 * x1) = x0 then (some (y2, S)) else (some ((y2 - 1), S))))) else none
set_option maxHeartbeats 4000000 in
set_option maxRecDepth 100000 in
theorem kJ9_floorDiv_7cf53 (l : Launch) (g : hk_G) (E : hk_E) (F n : Nat) (S : hk_S) (x0 : Int32) (x1 : Int32) (o : Int32 × hk_S)  (hsp : mJ9_floorDiv_7cf53 E F S x0 x1 = some o) : Met l yJ9_floorDiv_7cf53 (hk_ws yJ9_floorDiv_7cf53 cJ9_floorDiv_7cf53 3 (Option.some Jvm.ClassFile.FieldType.int)) ({ frames := 0, cells := 0, slots := 0, locals := 0 }) (hk_Pc g E S n [.int x0, .int x1]) (hk_Q g E o.2 n (some (.int o.1))) 0 0 (hk_A g) := by
  refine va_MetF (cc := cJ9_floorDiv_7cf53) (maxL := 3) (ret := (Option.some Jvm.ClassFile.FieldType.int)) (by decide +kernel) rfl ?_
  intro p e s m args below meth c s₁ B hml hv
  obtain ⟨rfl, G⟩ := hk_begin hv
  have F9 : CallFix p m c cJ9_floorDiv_7cf53 3 s [.int x0, .int x1].toArray hk_W RJ9 := ⟨B.exec, B.bytes, hml, findClass_of_methodNamed B.named, fun w h => atoms_spec (ws := hk_ws yJ9_floorDiv_7cf53 cJ9_floorDiv_7cf53 3 (Option.some Jvm.ClassFile.FieldType.int)) B.pre w (hk_in h)⟩
  have hx := B.exec
  have hb := B.bytes
  have hr := B.returns
  have hlocks := B.notSynchronized
  have hl := lv_entry ([.int x0, .int x1]) (n := 3) (Nat.le_of_ble_eq_true rfl)
  rw [lg_entry_eq]
  generalize (lg_sl ([.int x0, .int x1]) ++ List.replicate (3 - (lg_sl ([.int x0, .int x1])).length) Slot.unset).toArray = ls at hl ⊢
  have hl : lv_has ls 3 [(0, .int x0), (1, .int x1)] := hl
  unfold mJ9_floorDiv_7cf53 at hsp
  have G : hk_GG g E S n s s.heap [] := G
  refine lv_iload_n hx hb dJ9_floorDiv_7cf53_0 rfl (lv_at hl 0 rfl) ?_
  refine lv_iload_n hx hb dJ9_floorDiv_7cf53_1 rfl (lv_at hl 1 rfl) ?_
  obtain ⟨q1, hsp⟩ := hk_k hsp
  refine lv_idiv hx hb dJ9_floorDiv_7cf53_2 q1 ?_
  obtain ⟨y2, ey2, hsp⟩ := hk_l hsp
  refine hk_top ey2 ?_
  refine lv_istore_n (lv' := [(2, .int y2), (0, .int x0), (1, .int x1)]) hx hb dJ9_floorDiv_7cf53_3 rfl hl (by decide) rfl (fun ls hl => ?_)
  refine lv_iload_n hx hb dJ9_floorDiv_7cf53_4 rfl (lv_at hl 1 rfl) ?_
  refine lv_iload_n hx hb dJ9_floorDiv_7cf53_5 rfl (lv_at hl 2 rfl) ?_
  refine lv_ixor hx hb dJ9_floorDiv_7cf53_6 ?_
  refine lv_if_ge (tgt := 21) hx hb dJ9_floorDiv_7cf53_7 (by decide) (fun c3 => ?_) (fun c3 => ?_)
  · have hsp := hk_t c3 hsp
    refine lv_iload_n hx hb dJ9_floorDiv_7cf53_21 rfl (lv_at hl 0 rfl) ?_
    obtain rfl := hk_s hsp
    exact W.iret (v := y2) hx hb hr (fun t ht hW => hk_end G ht hW) G.2.1.2.2 dJ9_floorDiv_7cf53_22
  · have hsp := hk_f c3 hsp
    refine lv_iload_n hx hb dJ9_floorDiv_7cf53_10 rfl (lv_at hl 0 rfl) ?_
    refine lv_iload_n hx hb dJ9_floorDiv_7cf53_11 rfl (lv_at hl 2 rfl) ?_
    refine lv_imul hx hb dJ9_floorDiv_7cf53_12 ?_
    refine lv_iload_n hx hb dJ9_floorDiv_7cf53_13 rfl (lv_at hl 1 rfl) ?_
    refine lv_icmp_eq (tgt := 21) hx hb dJ9_floorDiv_7cf53_14 (by decide) (fun c4 => ?_) (fun c4 => ?_)
    · have hsp := hk_t c4 hsp
      refine lv_iload_n hx hb dJ9_floorDiv_7cf53_21 rfl (lv_at hl 0 rfl) ?_
      obtain rfl := hk_s hsp
      exact W.iret (v := y2) hx hb hr (fun t ht hW => hk_end G ht hW) G.2.1.2.2 dJ9_floorDiv_7cf53_22
    · have hsp := hk_f c4 hsp
      refine lv_iload_n hx hb dJ9_floorDiv_7cf53_17 rfl (lv_at hl 0 rfl) ?_
      refine lv_iconst (v := 1) hx hb dJ9_floorDiv_7cf53_18 (by decide) ?_
      refine lv_isub hx hb dJ9_floorDiv_7cf53_19 ?_
      obtain rfl := hk_s hsp
      exact W.iret (v := (y2 - 1)) hx hb hr (fun t ht hW => hk_end G ht hW) G.2.1.2.2 dJ9_floorDiv_7cf53_20
def mJ9_floorMod_7cf53 (E : hk_E) (F : Nat) (S : hk_S) (x0 : Int32) (x1 : Int32) : Option (Int32 × hk_S) :=
if ¬ x1 = 0 then (hk_let (x0 - x0 / x1 * x1) (fun y2 => if 0 ≤ (x0 ^^^ x1) then (some (y2, S)) else (if y2 = 0 then (some (y2, S)) else (some ((y2 + x1), S))))) else none
set_option maxHeartbeats 4000000 in
set_option maxRecDepth 100000 in
theorem kJ9_floorMod_7cf53 (l : Launch) (g : hk_G) (E : hk_E) (F n : Nat) (S : hk_S) (x0 : Int32) (x1 : Int32) (o : Int32 × hk_S)  (hsp : mJ9_floorMod_7cf53 E F S x0 x1 = some o) : Met l yJ9_floorMod_7cf53 (hk_ws yJ9_floorMod_7cf53 cJ9_floorMod_7cf53 3 (Option.some Jvm.ClassFile.FieldType.int)) ({ frames := 0, cells := 0, slots := 0, locals := 0 }) (hk_Pc g E S n [.int x0, .int x1]) (hk_Q g E o.2 n (some (.int o.1))) 0 0 (hk_A g) := by
  refine va_MetF (cc := cJ9_floorMod_7cf53) (maxL := 3) (ret := (Option.some Jvm.ClassFile.FieldType.int)) (by decide +kernel) rfl ?_
  intro p e s m args below meth c s₁ B hml hv
  obtain ⟨rfl, G⟩ := hk_begin hv
  have F9 : CallFix p m c cJ9_floorMod_7cf53 3 s [.int x0, .int x1].toArray hk_W RJ9 := ⟨B.exec, B.bytes, hml, findClass_of_methodNamed B.named, fun w h => atoms_spec (ws := hk_ws yJ9_floorMod_7cf53 cJ9_floorMod_7cf53 3 (Option.some Jvm.ClassFile.FieldType.int)) B.pre w (hk_in h)⟩
  have hx := B.exec
  have hb := B.bytes
  have hr := B.returns
  have hlocks := B.notSynchronized
  have hl := lv_entry ([.int x0, .int x1]) (n := 3) (Nat.le_of_ble_eq_true rfl)
  rw [lg_entry_eq]
  generalize (lg_sl ([.int x0, .int x1]) ++ List.replicate (3 - (lg_sl ([.int x0, .int x1])).length) Slot.unset).toArray = ls at hl ⊢
  have hl : lv_has ls 3 [(0, .int x0), (1, .int x1)] := hl
  unfold mJ9_floorMod_7cf53 at hsp
  have G : hk_GG g E S n s s.heap [] := G
  refine lv_iload_n hx hb dJ9_floorMod_7cf53_0 rfl (lv_at hl 0 rfl) ?_
  refine lv_iload_n hx hb dJ9_floorMod_7cf53_1 rfl (lv_at hl 1 rfl) ?_
  obtain ⟨q1, hsp⟩ := hk_k hsp
  refine lv_irem hx hb dJ9_floorMod_7cf53_2 q1 ?_
  obtain ⟨y2, ey2, hsp⟩ := hk_l hsp
  refine hk_top ey2 ?_
  refine lv_istore_n (lv' := [(2, .int y2), (0, .int x0), (1, .int x1)]) hx hb dJ9_floorMod_7cf53_3 rfl hl (by decide) rfl (fun ls hl => ?_)
  refine lv_iload_n hx hb dJ9_floorMod_7cf53_4 rfl (lv_at hl 1 rfl) ?_
  refine lv_iload_n hx hb dJ9_floorMod_7cf53_5 rfl (lv_at hl 2 rfl) ?_
  refine lv_ixor hx hb dJ9_floorMod_7cf53_6 ?_
  refine lv_if_ge (tgt := 18) hx hb dJ9_floorMod_7cf53_7 (by decide) (fun c3 => ?_) (fun c3 => ?_)
  · have hsp := hk_t c3 hsp
    refine lv_iload_n hx hb dJ9_floorMod_7cf53_18 rfl (lv_at hl 0 rfl) ?_
    obtain rfl := hk_s hsp
    exact W.iret (v := y2) hx hb hr (fun t ht hW => hk_end G ht hW) G.2.1.2.2 dJ9_floorMod_7cf53_19
  · have hsp := hk_f c3 hsp
    refine lv_iload_n hx hb dJ9_floorMod_7cf53_10 rfl (lv_at hl 0 rfl) ?_
    refine lv_if_eq (tgt := 18) hx hb dJ9_floorMod_7cf53_11 (by decide) (fun c4 => ?_) (fun c4 => ?_)
    · have hsp := hk_t c4 hsp
      refine lv_iload_n hx hb dJ9_floorMod_7cf53_18 rfl (lv_at hl 0 rfl) ?_
      obtain rfl := hk_s hsp
      exact W.iret (v := y2) hx hb hr (fun t ht hW => hk_end G ht hW) G.2.1.2.2 dJ9_floorMod_7cf53_19
    · have hsp := hk_f c4 hsp
      refine lv_iload_n hx hb dJ9_floorMod_7cf53_14 rfl (lv_at hl 0 rfl) ?_
      refine lv_iload_n hx hb dJ9_floorMod_7cf53_15 rfl (lv_at hl 2 rfl) ?_
      refine lv_iadd hx hb dJ9_floorMod_7cf53_16 ?_
      obtain rfl := hk_s hsp
      exact W.iret (v := (y2 + x1)) hx hb hr (fun t ht hW => hk_end G ht hW) G.2.1.2.2 dJ9_floorMod_7cf53_17
def mJ9_abs_0f7a4 (E : hk_E) (F : Nat) (S : hk_S) (x0 : Int32) : Option (Int32 × hk_S) :=
if 0 ≤ x0 then (some (x0, S)) else (some ((-x0), S))
set_option maxHeartbeats 4000000 in
set_option maxRecDepth 100000 in
theorem kJ9_abs_0f7a4 (l : Launch) (g : hk_G) (E : hk_E) (F n : Nat) (S : hk_S) (x0 : Int32) (o : Int32 × hk_S)  (hsp : mJ9_abs_0f7a4 E F S x0 = some o) : Met l yJ9_abs_0f7a4 (hk_ws yJ9_abs_0f7a4 cJ9_abs_0f7a4 1 (Option.some Jvm.ClassFile.FieldType.int)) ({ frames := 0, cells := 0, slots := 0, locals := 0 }) (hk_Pc g E S n [.int x0]) (hk_Q g E o.2 n (some (.int o.1))) 0 0 (hk_A g) := by
  refine va_MetF (cc := cJ9_abs_0f7a4) (maxL := 1) (ret := (Option.some Jvm.ClassFile.FieldType.int)) (by decide +kernel) rfl ?_
  intro p e s m args below meth c s₁ B hml hv
  obtain ⟨rfl, G⟩ := hk_begin hv
  have F9 : CallFix p m c cJ9_abs_0f7a4 1 s [.int x0].toArray hk_W RJ9 := ⟨B.exec, B.bytes, hml, findClass_of_methodNamed B.named, fun w h => atoms_spec (ws := hk_ws yJ9_abs_0f7a4 cJ9_abs_0f7a4 1 (Option.some Jvm.ClassFile.FieldType.int)) B.pre w (hk_in h)⟩
  have hx := B.exec
  have hb := B.bytes
  have hr := B.returns
  have hlocks := B.notSynchronized
  have hl := lv_entry ([.int x0]) (n := 1) (Nat.le_of_ble_eq_true rfl)
  rw [lg_entry_eq]
  generalize (lg_sl ([.int x0]) ++ List.replicate (1 - (lg_sl ([.int x0])).length) Slot.unset).toArray = ls at hl ⊢
  have hl : lv_has ls 1 [(0, .int x0)] := hl
  unfold mJ9_abs_0f7a4 at hsp
  have G : hk_GG g E S n s s.heap [] := G
  refine lv_iload_n hx hb dJ9_abs_0f7a4_0 rfl (lv_at hl 0 rfl) ?_
  refine lv_if_ge (tgt := 9) hx hb dJ9_abs_0f7a4_1 (by decide) (fun c1 => ?_) (fun c1 => ?_)
  · have hsp := hk_t c1 hsp
    refine lv_iload_n hx hb dJ9_abs_0f7a4_9 rfl (lv_at hl 0 rfl) ?_
    obtain rfl := hk_s hsp
    exact W.iret (v := x0) hx hb hr (fun t ht hW => hk_end G ht hW) G.2.1.2.2 dJ9_abs_0f7a4_10
  · have hsp := hk_f c1 hsp
    refine lv_iload_n hx hb dJ9_abs_0f7a4_4 rfl (lv_at hl 0 rfl) ?_
    refine lv_ineg hx hb dJ9_abs_0f7a4_5 ?_
    refine lv_goto (tgt := 10) hx hb dJ9_abs_0f7a4_6 (by decide) ?_
    obtain rfl := hk_s hsp
    exact W.iret (v := (-x0)) hx hb hr (fun t ht hW => hk_end G ht hW) G.2.1.2.2 dJ9_abs_0f7a4_10
def mJ9_max_7cf53 (E : hk_E) (F : Nat) (S : hk_S) (x0 : Int32) (x1 : Int32) : Option (Int32 × hk_S) :=
if x0 < x1 then (some (x1, S)) else (some (x0, S))
set_option maxHeartbeats 4000000 in
set_option maxRecDepth 100000 in
theorem kJ9_max_7cf53 (l : Launch) (g : hk_G) (E : hk_E) (F n : Nat) (S : hk_S) (x0 : Int32) (x1 : Int32) (o : Int32 × hk_S)  (hsp : mJ9_max_7cf53 E F S x0 x1 = some o) : Met l yJ9_max_7cf53 (hk_ws yJ9_max_7cf53 cJ9_max_7cf53 2 (Option.some Jvm.ClassFile.FieldType.int)) ({ frames := 0, cells := 0, slots := 0, locals := 0 }) (hk_Pc g E S n [.int x0, .int x1]) (hk_Q g E o.2 n (some (.int o.1))) 0 0 (hk_A g) := by
  refine va_MetF (cc := cJ9_max_7cf53) (maxL := 2) (ret := (Option.some Jvm.ClassFile.FieldType.int)) (by decide +kernel) rfl ?_
  intro p e s m args below meth c s₁ B hml hv
  obtain ⟨rfl, G⟩ := hk_begin hv
  have F9 : CallFix p m c cJ9_max_7cf53 2 s [.int x0, .int x1].toArray hk_W RJ9 := ⟨B.exec, B.bytes, hml, findClass_of_methodNamed B.named, fun w h => atoms_spec (ws := hk_ws yJ9_max_7cf53 cJ9_max_7cf53 2 (Option.some Jvm.ClassFile.FieldType.int)) B.pre w (hk_in h)⟩
  have hx := B.exec
  have hb := B.bytes
  have hr := B.returns
  have hlocks := B.notSynchronized
  have hl := lv_entry ([.int x0, .int x1]) (n := 2) (Nat.le_of_ble_eq_true rfl)
  rw [lg_entry_eq]
  generalize (lg_sl ([.int x0, .int x1]) ++ List.replicate (2 - (lg_sl ([.int x0, .int x1])).length) Slot.unset).toArray = ls at hl ⊢
  have hl : lv_has ls 2 [(0, .int x0), (1, .int x1)] := hl
  unfold mJ9_max_7cf53 at hsp
  have G : hk_GG g E S n s s.heap [] := G
  refine lv_iload_n hx hb dJ9_max_7cf53_0 rfl (lv_at hl 0 rfl) ?_
  refine lv_iload_n hx hb dJ9_max_7cf53_1 rfl (lv_at hl 1 rfl) ?_
  refine lv_icmp_lt (tgt := 9) hx hb dJ9_max_7cf53_2 (by decide) (fun c1 => ?_) (fun c1 => ?_)
  · have hsp := hk_t c1 hsp
    refine lv_iload_n hx hb dJ9_max_7cf53_9 rfl (lv_at hl 1 rfl) ?_
    obtain rfl := hk_s hsp
    exact W.iret (v := x1) hx hb hr (fun t ht hW => hk_end G ht hW) G.2.1.2.2 dJ9_max_7cf53_10
  · have hsp := hk_f c1 hsp
    refine lv_iload_n hx hb dJ9_max_7cf53_5 rfl (lv_at hl 0 rfl) ?_
    refine lv_goto (tgt := 10) hx hb dJ9_max_7cf53_6 (by decide) ?_
    obtain rfl := hk_s hsp
    exact W.iret (v := x0) hx hb hr (fun t ht hW => hk_end G ht hW) G.2.1.2.2 dJ9_max_7cf53_10
def mJ9_min_7cf53 (E : hk_E) (F : Nat) (S : hk_S) (x0 : Int32) (x1 : Int32) : Option (Int32 × hk_S) :=
if x1 < x0 then (some (x1, S)) else (some (x0, S))
set_option maxHeartbeats 4000000 in
set_option maxRecDepth 100000 in
theorem kJ9_min_7cf53 (l : Launch) (g : hk_G) (E : hk_E) (F n : Nat) (S : hk_S) (x0 : Int32) (x1 : Int32) (o : Int32 × hk_S)  (hsp : mJ9_min_7cf53 E F S x0 x1 = some o) : Met l yJ9_min_7cf53 (hk_ws yJ9_min_7cf53 cJ9_min_7cf53 2 (Option.some Jvm.ClassFile.FieldType.int)) ({ frames := 0, cells := 0, slots := 0, locals := 0 }) (hk_Pc g E S n [.int x0, .int x1]) (hk_Q g E o.2 n (some (.int o.1))) 0 0 (hk_A g) := by
  refine va_MetF (cc := cJ9_min_7cf53) (maxL := 2) (ret := (Option.some Jvm.ClassFile.FieldType.int)) (by decide +kernel) rfl ?_
  intro p e s m args below meth c s₁ B hml hv
  obtain ⟨rfl, G⟩ := hk_begin hv
  have F9 : CallFix p m c cJ9_min_7cf53 2 s [.int x0, .int x1].toArray hk_W RJ9 := ⟨B.exec, B.bytes, hml, findClass_of_methodNamed B.named, fun w h => atoms_spec (ws := hk_ws yJ9_min_7cf53 cJ9_min_7cf53 2 (Option.some Jvm.ClassFile.FieldType.int)) B.pre w (hk_in h)⟩
  have hx := B.exec
  have hb := B.bytes
  have hr := B.returns
  have hlocks := B.notSynchronized
  have hl := lv_entry ([.int x0, .int x1]) (n := 2) (Nat.le_of_ble_eq_true rfl)
  rw [lg_entry_eq]
  generalize (lg_sl ([.int x0, .int x1]) ++ List.replicate (2 - (lg_sl ([.int x0, .int x1])).length) Slot.unset).toArray = ls at hl ⊢
  have hl : lv_has ls 2 [(0, .int x0), (1, .int x1)] := hl
  unfold mJ9_min_7cf53 at hsp
  have G : hk_GG g E S n s s.heap [] := G
  refine lv_iload_n hx hb dJ9_min_7cf53_0 rfl (lv_at hl 0 rfl) ?_
  refine lv_iload_n hx hb dJ9_min_7cf53_1 rfl (lv_at hl 1 rfl) ?_
  refine lv_icmp_gt (tgt := 9) hx hb dJ9_min_7cf53_2 (by decide) (fun c1 => ?_) (fun c1 => ?_)
  · have hsp := hk_t c1 hsp
    refine lv_iload_n hx hb dJ9_min_7cf53_9 rfl (lv_at hl 1 rfl) ?_
    obtain rfl := hk_s hsp
    exact W.iret (v := x1) hx hb hr (fun t ht hW => hk_end G ht hW) G.2.1.2.2 dJ9_min_7cf53_10
  · have hsp := hk_f c1 hsp
    refine lv_iload_n hx hb dJ9_min_7cf53_5 rfl (lv_at hl 0 rfl) ?_
    refine lv_goto (tgt := 10) hx hb dJ9_min_7cf53_6 (by decide) ?_
    obtain rfl := hk_s hsp
    exact W.iret (v := x0) hx hb hr (fun t ht hW => hk_end G ht hW) G.2.1.2.2 dJ9_min_7cf53_10
def mJ0_coder_7d493 (E : hk_E) (F : Nat) (S : hk_S) (i0 : Nat) : Option (Int32 × hk_S) :=
some (0, S)
set_option maxHeartbeats 4000000 in
set_option maxRecDepth 100000 in
theorem kJ0_coder_7d493 (l : Launch) (g : hk_G) (E : hk_E) (F n : Nat) (S : hk_S) (i0 : Nat) (o : Int32 × hk_S) (h0 : i0 < 47) (hsp : mJ0_coder_7d493 E F S i0 = some o) : Met l yJ0_coder_7d493 (hk_ws yJ0_coder_7d493 cJ0_coder_7d493 1 (Option.some Jvm.ClassFile.FieldType.byte)) ({ frames := 0, cells := 0, slots := 0, locals := 0 }) (hk_Pc g E S n [.ref (g.2.2.2 0 i0)]) (hk_Q g E o.2 n (some (.int o.1))) 0 0 (hk_A g) := by
  refine va_MetF (cc := cJ0_coder_7d493) (maxL := 1) (ret := (Option.some Jvm.ClassFile.FieldType.byte)) (by decide +kernel) rfl ?_
  intro p e s m args below meth c s₁ B hml hv
  obtain ⟨rfl, G⟩ := hk_begin hv
  have F9 : CallFix p m c cJ0_coder_7d493 1 s [.ref (g.2.2.2 0 i0)].toArray hk_W RJ0 := ⟨B.exec, B.bytes, hml, findClass_of_methodNamed B.named, fun w h => atoms_spec (ws := hk_ws yJ0_coder_7d493 cJ0_coder_7d493 1 (Option.some Jvm.ClassFile.FieldType.byte)) B.pre w (hk_in h)⟩
  have hx := B.exec
  have hb := B.bytes
  have hr := B.returns
  have hlocks := B.notSynchronized
  have hl := lv_entry ([.ref (g.2.2.2 0 i0)]) (n := 1) (Nat.le_of_ble_eq_true rfl)
  rw [lg_entry_eq]
  generalize (lg_sl ([.ref (g.2.2.2 0 i0)]) ++ List.replicate (1 - (lg_sl ([.ref (g.2.2.2 0 i0)])).length) Slot.unset).toArray = ls at hl ⊢
  have hl : lv_has ls 1 [(0, .ref (g.2.2.2 0 i0))] := hl
  unfold mJ0_coder_7d493 at hsp
  have G : hk_GG g E S n s s.heap [] := G
  refine hk_compact F9 G qw_496 dJ0_coder_7d493_0 ?_
  refine lv_if_eq (tgt := 13) hx hb dJ0_coder_7d493_3 (by decide) (fun c1 => ?_) (fun c1 => ?_)
  · exact absurd c1 (by decide)
  · refine lv_aload_n hx hb dJ0_coder_7d493_6 rfl (lv_at hl 0 rfl) ?_
    refine hk_scoder F9 G h0 qw_2036 dJ0_coder_7d493_7 ?_
    refine lv_goto (tgt := 14) hx hb dJ0_coder_7d493_10 (by decide) ?_
    obtain rfl := hk_s hsp
    exact W.zret (v := 0) hx hb hr rfl (fun t ht hW => hk_end G ht hW) G.2.1.2.2 dJ0_coder_7d493_14
def mJ0_isLatin1_aae02 (E : hk_E) (F : Nat) (S : hk_S) (i0 : Nat) : Option (Int32 × hk_S) :=
some (1, S)
set_option maxHeartbeats 4000000 in
set_option maxRecDepth 100000 in
theorem kJ0_isLatin1_aae02 (l : Launch) (g : hk_G) (E : hk_E) (F n : Nat) (S : hk_S) (i0 : Nat) (o : Int32 × hk_S) (h0 : i0 < 47) (hsp : mJ0_isLatin1_aae02 E F S i0 = some o) : Met l yJ0_isLatin1_aae02 (hk_ws yJ0_isLatin1_aae02 cJ0_isLatin1_aae02 1 (Option.some Jvm.ClassFile.FieldType.boolean)) ({ frames := 0, cells := 0, slots := 0, locals := 0 }) (hk_Pc g E S n [.ref (g.2.2.2 0 i0)]) (hk_Q g E o.2 n (some (.int o.1))) 0 0 (hk_A g) := by
  refine va_MetF (cc := cJ0_isLatin1_aae02) (maxL := 1) (ret := (Option.some Jvm.ClassFile.FieldType.boolean)) (by decide +kernel) rfl ?_
  intro p e s m args below meth c s₁ B hml hv
  obtain ⟨rfl, G⟩ := hk_begin hv
  have F9 : CallFix p m c cJ0_isLatin1_aae02 1 s [.ref (g.2.2.2 0 i0)].toArray hk_W RJ0 := ⟨B.exec, B.bytes, hml, findClass_of_methodNamed B.named, fun w h => atoms_spec (ws := hk_ws yJ0_isLatin1_aae02 cJ0_isLatin1_aae02 1 (Option.some Jvm.ClassFile.FieldType.boolean)) B.pre w (hk_in h)⟩
  have hx := B.exec
  have hb := B.bytes
  have hr := B.returns
  have hlocks := B.notSynchronized
  have hl := lv_entry ([.ref (g.2.2.2 0 i0)]) (n := 1) (Nat.le_of_ble_eq_true rfl)
  rw [lg_entry_eq]
  generalize (lg_sl ([.ref (g.2.2.2 0 i0)]) ++ List.replicate (1 - (lg_sl ([.ref (g.2.2.2 0 i0)])).length) Slot.unset).toArray = ls at hl ⊢
  have hl : lv_has ls 1 [(0, .ref (g.2.2.2 0 i0))] := hl
  unfold mJ0_isLatin1_aae02 at hsp
  have G : hk_GG g E S n s s.heap [] := G
  refine hk_compact F9 G qw_496 dJ0_isLatin1_aae02_0 ?_
  refine lv_if_eq (tgt := 17) hx hb dJ0_isLatin1_aae02_3 (by decide) (fun c1 => ?_) (fun c1 => ?_)
  · exact absurd c1 (by decide)
  · refine lv_aload_n hx hb dJ0_isLatin1_aae02_6 rfl (lv_at hl 0 rfl) ?_
    refine hk_scoder F9 G h0 qw_2036 dJ0_isLatin1_aae02_7 ?_
    refine lv_if_ne (tgt := 17) hx hb dJ0_isLatin1_aae02_10 (by decide) (fun c2 => ?_) (fun c2 => ?_)
    · exact absurd c2 (by decide)
    · refine lv_iconst (v := 1) hx hb dJ0_isLatin1_aae02_13 (by decide) ?_
      refine lv_goto (tgt := 18) hx hb dJ0_isLatin1_aae02_14 (by decide) ?_
      obtain rfl := hk_s hsp
      exact W.zret (v := 1) hx hb hr (hk_z (by decide)).1 (fun t ht hW => hk_end G ht hW) G.2.1.2.2 dJ0_isLatin1_aae02_18
def mJ2_length_9d52b (E : hk_E) (F : Nat) (S : hk_S) (a0 : Nat) : Option (Int32 × hk_S) :=
some (((Int32.ofNat (E.2.2.1 a0)) >>> (1 &&& 31)), S)
set_option maxHeartbeats 4000000 in
set_option maxRecDepth 100000 in
theorem kJ2_length_9d52b (l : Launch) (g : hk_G) (E : hk_E) (F n : Nat) (S : hk_S) (a0 : Nat) (o : Int32 × hk_S) (h0 : E.2.1 a0 = 11) (hsp : mJ2_length_9d52b E F S a0 = some o) : Met l yJ2_length_9d52b (hk_ws yJ2_length_9d52b cJ2_length_9d52b 1 (Option.some Jvm.ClassFile.FieldType.int)) ({ frames := 0, cells := 0, slots := 0, locals := 0 }) (hk_Pc g E S n [.ref (g.1 + a0)]) (hk_Q g E o.2 n (some (.int o.1))) 0 0 (hk_A g) := by
  refine va_MetF (cc := cJ2_length_9d52b) (maxL := 1) (ret := (Option.some Jvm.ClassFile.FieldType.int)) (by decide +kernel) rfl ?_
  intro p e s m args below meth c s₁ B hml hv
  obtain ⟨rfl, G⟩ := hk_begin hv
  have F9 : CallFix p m c cJ2_length_9d52b 1 s [.ref (g.1 + a0)].toArray hk_W RJ2 := ⟨B.exec, B.bytes, hml, findClass_of_methodNamed B.named, fun w h => atoms_spec (ws := hk_ws yJ2_length_9d52b cJ2_length_9d52b 1 (Option.some Jvm.ClassFile.FieldType.int)) B.pre w (hk_in h)⟩
  have hx := B.exec
  have hb := B.bytes
  have hr := B.returns
  have hlocks := B.notSynchronized
  have hl := lv_entry ([.ref (g.1 + a0)]) (n := 1) (Nat.le_of_ble_eq_true rfl)
  rw [lg_entry_eq]
  generalize (lg_sl ([.ref (g.1 + a0)]) ++ List.replicate (1 - (lg_sl ([.ref (g.1 + a0)])).length) Slot.unset).toArray = ls at hl ⊢
  have hl : lv_has ls 1 [(0, .ref (g.1 + a0))] := hl
  unfold mJ2_length_9d52b at hsp
  have G : hk_GG g E S n s s.heap [] := G
  refine lv_aload_n hx hb dJ2_length_9d52b_0 rfl (lv_at hl 0 rfl) ?_
  refine hk_alen (t := 0) F9 G h0 (by decide) rfl rfl dJ2_length_9d52b_1 ?_
  refine lv_iconst (v := 1) hx hb dJ2_length_9d52b_2 (by decide) ?_
  refine lv_ishr hx hb dJ2_length_9d52b_3 ?_
  obtain rfl := hk_s hsp
  exact W.iret (v := ((Int32.ofNat (E.2.2.1 a0)) >>> (1 &&& 31))) hx hb hr (fun t ht hW => hk_end G ht hW) G.2.1.2.2 dJ2_length_9d52b_4
def mJ2_charAt_3b067 (E : hk_E) (F : Nat) (S : hk_S) (a0 : Nat) (x1 : Int32) : Option (Int32 × hk_S) :=
none
set_option maxHeartbeats 4000000 in
set_option maxRecDepth 100000 in
theorem kJ2_charAt_3b067 (l : Launch) (g : hk_G) (E : hk_E) (F n : Nat) (S : hk_S) (a0 : Nat) (x1 : Int32) (o : Int32 × hk_S) (h0 : E.2.1 a0 = 11) (hsp : mJ2_charAt_3b067 E F S a0 x1 = some o) : Met l yJ2_charAt_3b067 (hk_ws yJ2_charAt_3b067 cJ2_charAt_3b067 2 (Option.some Jvm.ClassFile.FieldType.char)) ({ frames := 0, cells := 0, slots := 0, locals := 0 }) (hk_Pc g E S n [.ref (g.1 + a0), .int x1]) (hk_Q g E o.2 n (some (.int o.1))) 0 0 (hk_A g) := by
  refine va_MetF (cc := cJ2_charAt_3b067) (maxL := 2) (ret := (Option.some Jvm.ClassFile.FieldType.char)) (by decide +kernel) rfl ?_
  intro p e s m args below meth c s₁ B hml hv
  obtain ⟨rfl, G⟩ := hk_begin hv
  have F9 : CallFix p m c cJ2_charAt_3b067 2 s [.ref (g.1 + a0), .int x1].toArray hk_W RJ2 := ⟨B.exec, B.bytes, hml, findClass_of_methodNamed B.named, fun w h => atoms_spec (ws := hk_ws yJ2_charAt_3b067 cJ2_charAt_3b067 2 (Option.some Jvm.ClassFile.FieldType.char)) B.pre w (hk_in h)⟩
  have hx := B.exec
  have hb := B.bytes
  have hr := B.returns
  have hlocks := B.notSynchronized
  have hl := lv_entry ([.ref (g.1 + a0), .int x1]) (n := 2) (Nat.le_of_ble_eq_true rfl)
  rw [lg_entry_eq]
  generalize (lg_sl ([.ref (g.1 + a0), .int x1]) ++ List.replicate (2 - (lg_sl ([.ref (g.1 + a0), .int x1])).length) Slot.unset).toArray = ls at hl ⊢
  have hl : lv_has ls 2 [(0, .ref (g.1 + a0)), (1, .int x1)] := hl
  unfold mJ2_charAt_3b067 at hsp
  have G : hk_GG g E S n s s.heap [] := G
  exact nomatch hsp
def mJ2_checkIndex_2214a (E : hk_E) (F : Nat) (S : hk_S) (x0 : Int32) (a1 : Nat) : Option (hk_S) :=
none
set_option maxHeartbeats 4000000 in
set_option maxRecDepth 100000 in
theorem kJ2_checkIndex_2214a (l : Launch) (g : hk_G) (E : hk_E) (F n : Nat) (S : hk_S) (x0 : Int32) (a1 : Nat) (o : hk_S) (h1 : E.2.1 a1 = 11) (hsp : mJ2_checkIndex_2214a E F S x0 a1 = some o) : Met l yJ2_checkIndex_2214a (hk_ws yJ2_checkIndex_2214a cJ2_checkIndex_2214a 2 (Option.none : Option Jvm.ClassFile.FieldType)) ({ frames := 0, cells := 0, slots := 0, locals := 0 }) (hk_Pc g E S n [.int x0, .ref (g.1 + a1)]) (hk_Q g E o n none) 0 0 (hk_A g) := by
  refine va_MetF (cc := cJ2_checkIndex_2214a) (maxL := 2) (ret := (Option.none : Option Jvm.ClassFile.FieldType)) (by decide +kernel) rfl ?_
  intro p e s m args below meth c s₁ B hml hv
  obtain ⟨rfl, G⟩ := hk_begin hv
  have F9 : CallFix p m c cJ2_checkIndex_2214a 2 s [.int x0, .ref (g.1 + a1)].toArray hk_W RJ2 := ⟨B.exec, B.bytes, hml, findClass_of_methodNamed B.named, fun w h => atoms_spec (ws := hk_ws yJ2_checkIndex_2214a cJ2_checkIndex_2214a 2 (Option.none : Option Jvm.ClassFile.FieldType)) B.pre w (hk_in h)⟩
  have hx := B.exec
  have hb := B.bytes
  have hr := B.returns
  have hlocks := B.notSynchronized
  have hl := lv_entry ([.int x0, .ref (g.1 + a1)]) (n := 2) (Nat.le_of_ble_eq_true rfl)
  rw [lg_entry_eq]
  generalize (lg_sl ([.int x0, .ref (g.1 + a1)]) ++ List.replicate (2 - (lg_sl ([.int x0, .ref (g.1 + a1)])).length) Slot.unset).toArray = ls at hl ⊢
  have hl : lv_has ls 2 [(0, .int x0), (1, .ref (g.1 + a1))] := hl
  unfold mJ2_checkIndex_2214a at hsp
  have G : hk_GG g E S n s s.heap [] := G
  exact nomatch hsp
def mJ3_checkIndex_8e157 (E : hk_E) (F : Nat) (S : hk_S) (x0 : Int32) (x1 : Int32) (w2 : Value) : Option (Int32 × hk_S) :=
if x0 < 0 then (none) else (if x0 < x1 then (some (x0, S)) else (none))
set_option maxHeartbeats 4000000 in
set_option maxRecDepth 100000 in
theorem kJ3_checkIndex_8e157 (l : Launch) (g : hk_G) (E : hk_E) (F n : Nat) (S : hk_S) (x0 : Int32) (x1 : Int32) (w2 : Value) (o : Int32 × hk_S) (h2 : w2.category = 1 ∧ (w2 = .null ∨ ∃ t, w2 = .ref t)) (hsp : mJ3_checkIndex_8e157 E F S x0 x1 w2 = some o) : Met l yJ3_checkIndex_8e157 (hk_ws yJ3_checkIndex_8e157 cJ3_checkIndex_8e157 3 (Option.some Jvm.ClassFile.FieldType.int)) ({ frames := 0, cells := 0, slots := 0, locals := 0 }) (hk_Pc g E S n [.int x0, .int x1, w2]) (hk_Q g E o.2 n (some (.int o.1))) 0 0 (hk_A g) := by
  rcases h2 with ⟨-, rfl | ⟨t9, rfl⟩⟩
  · refine va_MetF (cc := cJ3_checkIndex_8e157) (maxL := 3) (ret := (Option.some Jvm.ClassFile.FieldType.int)) (by decide +kernel) rfl ?_
    intro p e s m args below meth c s₁ B hml hv
    obtain ⟨rfl, G⟩ := hk_begin hv
    have F9 : CallFix p m c cJ3_checkIndex_8e157 3 s [.int x0, .int x1, .null].toArray hk_W RJ3 := ⟨B.exec, B.bytes, hml, findClass_of_methodNamed B.named, fun w h => atoms_spec (ws := hk_ws yJ3_checkIndex_8e157 cJ3_checkIndex_8e157 3 (Option.some Jvm.ClassFile.FieldType.int)) B.pre w (hk_in h)⟩
    have hx := B.exec
    have hb := B.bytes
    have hr := B.returns
    have hlocks := B.notSynchronized
    have hl := lv_entry ([.int x0, .int x1, .null]) (n := 3) (Nat.le_of_ble_eq_true rfl)
    rw [lg_entry_eq]
    generalize (lg_sl ([.int x0, .int x1, .null]) ++ List.replicate (3 - (lg_sl ([.int x0, .int x1, .null])).length) Slot.unset).toArray = ls at hl ⊢
    have hl : lv_has ls 3 [(0, .int x0), (1, .int x1), (2, .null)] := hl
    unfold mJ3_checkIndex_8e157 at hsp
    have G : hk_GG g E S n s s.heap [] := G
    refine lv_iload_n hx hb dJ3_checkIndex_8e157_0 rfl (lv_at hl 0 rfl) ?_
    refine lv_if_lt (tgt := 9) hx hb dJ3_checkIndex_8e157_1 (by decide) (fun c1 => ?_) (fun c1 => ?_)
    · have hsp := hk_t c1 hsp
      exact nomatch hsp
    · have hsp := hk_f c1 hsp
      refine lv_iload_n hx hb dJ3_checkIndex_8e157_4 rfl (lv_at hl 0 rfl) ?_
      refine lv_iload_n hx hb dJ3_checkIndex_8e157_5 rfl (lv_at hl 1 rfl) ?_
      refine lv_icmp_lt (tgt := 16) hx hb dJ3_checkIndex_8e157_6 (by decide) (fun c2 => ?_) (fun c2 => ?_)
      · have hsp := hk_t c2 hsp
        refine lv_iload_n hx hb dJ3_checkIndex_8e157_16 rfl (lv_at hl 0 rfl) ?_
        obtain rfl := hk_s hsp
        exact W.iret (v := x0) hx hb hr (fun t ht hW => hk_end G ht hW) G.2.1.2.2 dJ3_checkIndex_8e157_17
      · have hsp := hk_f c2 hsp
        exact nomatch hsp
  · refine va_MetF (cc := cJ3_checkIndex_8e157) (maxL := 3) (ret := (Option.some Jvm.ClassFile.FieldType.int)) (by decide +kernel) rfl ?_
    intro p e s m args below meth c s₁ B hml hv
    obtain ⟨rfl, G⟩ := hk_begin hv
    have F9 : CallFix p m c cJ3_checkIndex_8e157 3 s [.int x0, .int x1, (.ref t9)].toArray hk_W RJ3 := ⟨B.exec, B.bytes, hml, findClass_of_methodNamed B.named, fun w h => atoms_spec (ws := hk_ws yJ3_checkIndex_8e157 cJ3_checkIndex_8e157 3 (Option.some Jvm.ClassFile.FieldType.int)) B.pre w (hk_in h)⟩
    have hx := B.exec
    have hb := B.bytes
    have hr := B.returns
    have hlocks := B.notSynchronized
    have hl := lv_entry ([.int x0, .int x1, (.ref t9)]) (n := 3) (Nat.le_of_ble_eq_true rfl)
    rw [lg_entry_eq]
    generalize (lg_sl ([.int x0, .int x1, (.ref t9)]) ++ List.replicate (3 - (lg_sl ([.int x0, .int x1, (.ref t9)])).length) Slot.unset).toArray = ls at hl ⊢
    have hl : lv_has ls 3 [(0, .int x0), (1, .int x1), (2, (.ref t9))] := hl
    unfold mJ3_checkIndex_8e157 at hsp
    have G : hk_GG g E S n s s.heap [] := G
    refine lv_iload_n hx hb dJ3_checkIndex_8e157_0 rfl (lv_at hl 0 rfl) ?_
    refine lv_if_lt (tgt := 9) hx hb dJ3_checkIndex_8e157_1 (by decide) (fun c1 => ?_) (fun c1 => ?_)
    · have hsp := hk_t c1 hsp
      exact nomatch hsp
    · have hsp := hk_f c1 hsp
      refine lv_iload_n hx hb dJ3_checkIndex_8e157_4 rfl (lv_at hl 0 rfl) ?_
      refine lv_iload_n hx hb dJ3_checkIndex_8e157_5 rfl (lv_at hl 1 rfl) ?_
      refine lv_icmp_lt (tgt := 16) hx hb dJ3_checkIndex_8e157_6 (by decide) (fun c2 => ?_) (fun c2 => ?_)
      · have hsp := hk_t c2 hsp
        refine lv_iload_n hx hb dJ3_checkIndex_8e157_16 rfl (lv_at hl 0 rfl) ?_
        obtain rfl := hk_s hsp
        exact W.iret (v := x0) hx hb hr (fun t ht hW => hk_end G ht hW) G.2.1.2.2 dJ3_checkIndex_8e157_17
      · have hsp := hk_f c2 hsp
        exact nomatch hsp
def mJ0_length_8abf5 (E : hk_E) (F : Nat) (S : hk_S) (i0 : Nat) : Option (Int32 × hk_S) :=
(mJ0_coder_7d493 E F S i0).bind (fun r1 => some (((hk_len i0) >>> (r1.1 &&& 31)), r1.2))
set_option maxHeartbeats 4000000 in
set_option maxRecDepth 100000 in
theorem kJ0_length_8abf5 (l : Launch) (g : hk_G) (E : hk_E) (F n : Nat) (S : hk_S) (i0 : Nat) (o : Int32 × hk_S) (h0 : i0 < 47) (hsp : mJ0_length_8abf5 E F S i0 = some o) : Met l yJ0_length_8abf5 (hk_ws yJ0_length_8abf5 cJ0_length_8abf5 1 (Option.some Jvm.ClassFile.FieldType.int)) ({ frames := 1, cells := 0, slots := 0, locals := 20 }) (hk_Pc g E S n [.ref (g.2.2.2 0 i0)]) (hk_Q g E o.2 n (some (.int o.1))) 0 0 (hk_A g) := by
  refine va_MetF (cc := cJ0_length_8abf5) (maxL := 1) (ret := (Option.some Jvm.ClassFile.FieldType.int)) (by decide +kernel) rfl ?_
  intro p e s m args below meth c s₁ B hml hv
  obtain ⟨rfl, G⟩ := hk_begin hv
  have F9 : CallFix p m c cJ0_length_8abf5 1 s [.ref (g.2.2.2 0 i0)].toArray hk_W RJ0 := ⟨B.exec, B.bytes, hml, findClass_of_methodNamed B.named, fun w h => atoms_spec (ws := hk_ws yJ0_length_8abf5 cJ0_length_8abf5 1 (Option.some Jvm.ClassFile.FieldType.int)) B.pre w (hk_in h)⟩
  have hx := B.exec
  have hb := B.bytes
  have hr := B.returns
  have hlocks := B.notSynchronized
  have hl := lv_entry ([.ref (g.2.2.2 0 i0)]) (n := 1) (Nat.le_of_ble_eq_true rfl)
  rw [lg_entry_eq]
  generalize (lg_sl ([.ref (g.2.2.2 0 i0)]) ++ List.replicate (1 - (lg_sl ([.ref (g.2.2.2 0 i0)])).length) Slot.unset).toArray = ls at hl ⊢
  have hl : lv_has ls 1 [(0, .ref (g.2.2.2 0 i0))] := hl
  unfold mJ0_length_8abf5 at hsp
  have G : hk_GG g E S n s s.heap [] := G
  refine lv_aload_n hx hb dJ0_length_8abf5_0 rfl (lv_at hl 0 rfl) ?_
  refine hk_svalue F9 G h0 qw_2035 dJ0_length_8abf5_1 ?_
  refine hk_salen F9 G h0 dJ0_length_8abf5_4 ?_
  refine lv_aload_n hx hb dJ0_length_8abf5_5 rfl (lv_at hl 0 rfl) ?_
  obtain ⟨r1, er1, hsp⟩ := hk_b hsp
  refine hk_callX (As := []) (rest := [.int (hk_len i0)]) F9 G (hk_srecv G h0) rfl (kJ0_coder_7d493 l g E F n S i0 r1 h0 er1) qv_RJ0_335 ⟨rfl, rfl, (Nat.le_of_ble_eq_true rfl), (Nat.le_of_ble_eq_true rfl)⟩ rfl hl.1 rfl (Nat.le_of_ble_eq_true rfl) ⟨Nat.zero_le _, Nat.zero_le _⟩ dJ0_length_8abf5_6 (fun H locs G => ?_)
  refine lv_ishr hx hb dJ0_length_8abf5_9 ?_
  obtain rfl := hk_s hsp
  exact W.iret (v := ((hk_len i0) >>> (r1.1 &&& 31))) hx hb hr (fun t ht hW => hk_end G ht hW) G.2.1.2.2 dJ0_length_8abf5_10
def mJ0_checkIndex_df160 (E : hk_E) (F : Nat) (S : hk_S) (x0 : Int32) (x1 : Int32) : Option (hk_S) :=
(mJ3_checkIndex_8e157 E F S x0 x1 .null).bind (fun r2 => some (r2.2))
set_option maxHeartbeats 4000000 in
set_option maxRecDepth 100000 in
theorem kJ0_checkIndex_df160 (l : Launch) (g : hk_G) (E : hk_E) (F n : Nat) (S : hk_S) (x0 : Int32) (x1 : Int32) (o : hk_S)  (hsp : mJ0_checkIndex_df160 E F S x0 x1 = some o) : Met l yJ0_checkIndex_df160 (hk_ws yJ0_checkIndex_df160 cJ0_checkIndex_df160 2 (Option.none : Option Jvm.ClassFile.FieldType)) ({ frames := 1, cells := 0, slots := 0, locals := 22 }) (hk_Pc g E S n [.int x0, .int x1]) (hk_Q g E o n none) 0 0 (hk_A g) := by
  refine va_MetF (cc := cJ0_checkIndex_df160) (maxL := 2) (ret := (Option.none : Option Jvm.ClassFile.FieldType)) (by decide +kernel) rfl ?_
  intro p e s m args below meth c s₁ B hml hv
  obtain ⟨rfl, G⟩ := hk_begin hv
  have F9 : CallFix p m c cJ0_checkIndex_df160 2 s [.int x0, .int x1].toArray hk_W RJ0 := ⟨B.exec, B.bytes, hml, findClass_of_methodNamed B.named, fun w h => atoms_spec (ws := hk_ws yJ0_checkIndex_df160 cJ0_checkIndex_df160 2 (Option.none : Option Jvm.ClassFile.FieldType)) B.pre w (hk_in h)⟩
  have hx := B.exec
  have hb := B.bytes
  have hr := B.returns
  have hlocks := B.notSynchronized
  have hl := lv_entry ([.int x0, .int x1]) (n := 2) (Nat.le_of_ble_eq_true rfl)
  rw [lg_entry_eq]
  generalize (lg_sl ([.int x0, .int x1]) ++ List.replicate (2 - (lg_sl ([.int x0, .int x1])).length) Slot.unset).toArray = ls at hl ⊢
  have hl : lv_has ls 2 [(0, .int x0), (1, .int x1)] := hl
  unfold mJ0_checkIndex_df160 at hsp
  have G : hk_GG g E S n s s.heap [] := G
  refine lv_iload_n hx hb dJ0_checkIndex_df160_0 rfl (lv_at hl 0 rfl) ?_
  refine lv_iload_n hx hb dJ0_checkIndex_df160_1 rfl (lv_at hl 1 rfl) ?_
  refine hk_sioobe F9 G qw_512 dJ0_checkIndex_df160_2 (fun w1 hw1 gw1 => ?_)
  obtain ⟨r2, er2, hsp⟩ := hk_b hsp
  refine hk_callSi (As := [.int x0, .int x1, w1]) (rest := []) F9 G (kJ3_checkIndex_8e157 l g E F n S x0 x1 w1 r2 ⟨hw1, gw1⟩ er2) qv_RJ0_1059 ⟨rfl, rfl, (Nat.le_of_ble_eq_true rfl), (Nat.le_of_ble_eq_true rfl)⟩ rfl hl.1 rfl (Nat.le_of_ble_eq_true rfl) ⟨Nat.zero_le _, Nat.zero_le _⟩ dJ0_checkIndex_df160_5 (fun H locs G => ?_)
  refine lv_pop hx hb dJ0_checkIndex_df160_8 rfl ?_
  obtain rfl := hk_s hsp
  exact W.vret hx hb hr (fun t ht hW => hk_end G ht hW) G.2.1.2.2 dJ0_checkIndex_df160_9
def mJ1_charAt_3b067 (E : hk_E) (F : Nat) (S : hk_S) (i0 : Nat) (x1 : Int32) : Option (Int32 × hk_S) :=
(mJ0_checkIndex_df160 E F S x1 (hk_len i0)).bind (fun r1 => if hk_ok x1 (hk_ln i0) then (some ((((((hk_ch i0 x1) &&& 255) : Int32).toUInt32 % 65536).toInt32), r1)) else none)
set_option maxHeartbeats 4000000 in
set_option maxRecDepth 100000 in
theorem kJ1_charAt_3b067 (l : Launch) (g : hk_G) (E : hk_E) (F n : Nat) (S : hk_S) (i0 : Nat) (x1 : Int32) (o : Int32 × hk_S) (h0 : i0 < 47) (hsp : mJ1_charAt_3b067 E F S i0 x1 = some o) : Met l yJ1_charAt_3b067 (hk_ws yJ1_charAt_3b067 cJ1_charAt_3b067 2 (Option.some Jvm.ClassFile.FieldType.char)) ({ frames := 2, cells := 0, slots := 0, locals := 43 }) (hk_Pc g E S n [.ref (g.2.2.2 1 i0), .int x1]) (hk_Q g E o.2 n (some (.int o.1))) 0 0 (hk_A g) := by
  refine va_MetF (cc := cJ1_charAt_3b067) (maxL := 2) (ret := (Option.some Jvm.ClassFile.FieldType.char)) (by decide +kernel) rfl ?_
  intro p e s m args below meth c s₁ B hml hv
  obtain ⟨rfl, G⟩ := hk_begin hv
  have F9 : CallFix p m c cJ1_charAt_3b067 2 s [.ref (g.2.2.2 1 i0), .int x1].toArray hk_W RJ1 := ⟨B.exec, B.bytes, hml, findClass_of_methodNamed B.named, fun w h => atoms_spec (ws := hk_ws yJ1_charAt_3b067 cJ1_charAt_3b067 2 (Option.some Jvm.ClassFile.FieldType.char)) B.pre w (hk_in h)⟩
  have hx := B.exec
  have hb := B.bytes
  have hr := B.returns
  have hlocks := B.notSynchronized
  have hl := lv_entry ([.ref (g.2.2.2 1 i0), .int x1]) (n := 2) (Nat.le_of_ble_eq_true rfl)
  rw [lg_entry_eq]
  generalize (lg_sl ([.ref (g.2.2.2 1 i0), .int x1]) ++ List.replicate (2 - (lg_sl ([.ref (g.2.2.2 1 i0), .int x1])).length) Slot.unset).toArray = ls at hl ⊢
  have hl : lv_has ls 2 [(0, .ref (g.2.2.2 1 i0)), (1, .int x1)] := hl
  unfold mJ1_charAt_3b067 at hsp
  have G : hk_GG g E S n s s.heap [] := G
  refine lv_iload_n hx hb dJ1_charAt_3b067_0 rfl (lv_at hl 1 rfl) ?_
  refine lv_aload_n hx hb dJ1_charAt_3b067_1 rfl (lv_at hl 0 rfl) ?_
  refine hk_salen F9 G h0 dJ1_charAt_3b067_2 ?_
  obtain ⟨r1, er1, hsp⟩ := hk_b hsp
  refine hk_callSv (As := [.int x1, .int (hk_len i0)]) (rest := []) F9 G (kJ0_checkIndex_df160 l g E F n S x1 (hk_len i0) r1  er1) qv_RJ1_9 ⟨rfl, rfl, (Nat.le_of_ble_eq_true rfl), (Nat.le_of_ble_eq_true rfl)⟩ rfl hl.1 rfl (Nat.le_of_ble_eq_true rfl) ⟨Nat.zero_le _, Nat.zero_le _⟩ dJ1_charAt_3b067_3 (fun H locs G => ?_)
  refine lv_aload_n hx hb dJ1_charAt_3b067_6 rfl (lv_at hl 0 rfl) ?_
  refine lv_iload_n hx hb dJ1_charAt_3b067_7 rfl (lv_at hl 1 rfl) ?_
  obtain ⟨q2, hsp⟩ := hk_k hsp
  refine hk_sbald F9 G h0 q2 dJ1_charAt_3b067_8 ?_
  refine lv_sipush (v := 255) hx hb dJ1_charAt_3b067_9 (by decide) ?_
  refine lv_iand hx hb dJ1_charAt_3b067_12 ?_
  refine lv_i2c hx hb dJ1_charAt_3b067_13 rfl ?_
  obtain rfl := hk_s hsp
  exact W.zret (v := (((((hk_ch i0 x1) &&& 255) : Int32).toUInt32 % 65536).toInt32)) hx hb hr (pk_nc _) (fun t ht hW => hk_end G ht hW) G.2.1.2.2 dJ1_charAt_3b067_14
def mJ0_charAt_5068e (E : hk_E) (F : Nat) (S : hk_S) (i0 : Nat) (x1 : Int32) : Option (Int32 × hk_S) :=
(mJ0_isLatin1_aae02 E F S i0).bind (fun r1 => if r1.1 = 0 then (none) else ((mJ1_charAt_3b067 E F r1.2 i0 x1).bind (fun r3 => if ((r3.1 : Int32).toUInt32 % 65536).toInt32 = r3.1 then (some (r3.1, r3.2)) else none)))
set_option maxHeartbeats 4000000 in
set_option maxRecDepth 100000 in
theorem kJ0_charAt_5068e (l : Launch) (g : hk_G) (E : hk_E) (F n : Nat) (S : hk_S) (i0 : Nat) (x1 : Int32) (o : Int32 × hk_S) (h0 : i0 < 47) (hsp : mJ0_charAt_5068e E F S i0 x1 = some o) : Met l yJ0_charAt_5068e (hk_ws yJ0_charAt_5068e cJ0_charAt_5068e 2 (Option.some Jvm.ClassFile.FieldType.char)) ({ frames := 3, cells := 0, slots := 0, locals := 64 }) (hk_Pc g E S n [.ref (g.2.2.2 0 i0), .int x1]) (hk_Q g E o.2 n (some (.int o.1))) 0 0 (hk_A g) := by
  refine va_MetF (cc := cJ0_charAt_5068e) (maxL := 2) (ret := (Option.some Jvm.ClassFile.FieldType.char)) (by decide +kernel) rfl ?_
  intro p e s m args below meth c s₁ B hml hv
  obtain ⟨rfl, G⟩ := hk_begin hv
  have F9 : CallFix p m c cJ0_charAt_5068e 2 s [.ref (g.2.2.2 0 i0), .int x1].toArray hk_W RJ0 := ⟨B.exec, B.bytes, hml, findClass_of_methodNamed B.named, fun w h => atoms_spec (ws := hk_ws yJ0_charAt_5068e cJ0_charAt_5068e 2 (Option.some Jvm.ClassFile.FieldType.char)) B.pre w (hk_in h)⟩
  have hx := B.exec
  have hb := B.bytes
  have hr := B.returns
  have hlocks := B.notSynchronized
  have hl := lv_entry ([.ref (g.2.2.2 0 i0), .int x1]) (n := 2) (Nat.le_of_ble_eq_true rfl)
  rw [lg_entry_eq]
  generalize (lg_sl ([.ref (g.2.2.2 0 i0), .int x1]) ++ List.replicate (2 - (lg_sl ([.ref (g.2.2.2 0 i0), .int x1])).length) Slot.unset).toArray = ls at hl ⊢
  have hl : lv_has ls 2 [(0, .ref (g.2.2.2 0 i0)), (1, .int x1)] := hl
  unfold mJ0_charAt_5068e at hsp
  have G : hk_GG g E S n s s.heap [] := G
  refine lv_aload_n hx hb dJ0_charAt_5068e_0 rfl (lv_at hl 0 rfl) ?_
  obtain ⟨r1, er1, hsp⟩ := hk_b hsp
  refine hk_callX (As := []) (rest := []) F9 G (hk_srecv G h0) rfl (kJ0_isLatin1_aae02 l g E F n S i0 r1 h0 er1) qv_RJ0_492 ⟨rfl, rfl, (Nat.le_of_ble_eq_true rfl), (Nat.le_of_ble_eq_true rfl)⟩ rfl hl.1 rfl (Nat.le_of_ble_eq_true rfl) ⟨Nat.zero_le _, Nat.zero_le _⟩ dJ0_charAt_5068e_1 (fun H locs G => ?_)
  refine lv_if_eq (tgt := 16) hx hb dJ0_charAt_5068e_4 (by decide) (fun c2 => ?_) (fun c2 => ?_)
  · have hsp := hk_t c2 hsp
    exact nomatch hsp
  · have hsp := hk_f c2 hsp
    refine lv_aload_n hx hb dJ0_charAt_5068e_7 rfl (lv_at hl 0 rfl) ?_
    refine hk_svalue F9 G h0 qw_2035 dJ0_charAt_5068e_8 ?_
    refine lv_iload_n hx hb dJ0_charAt_5068e_11 rfl (lv_at hl 1 rfl) ?_
    obtain ⟨r3, er3, hsp⟩ := hk_b hsp
    refine hk_callSi (As := [.ref (g.2.2.2 1 i0), .int x1]) (rest := []) F9 G (kJ1_charAt_3b067 l g E F n r1.2 i0 x1 r3 h0 er3) qv_RJ0_495 ⟨rfl, rfl, (Nat.le_of_ble_eq_true rfl), (Nat.le_of_ble_eq_true rfl)⟩ rfl hl.1 rfl (Nat.le_of_ble_eq_true rfl) ⟨Nat.zero_le _, Nat.zero_le _⟩ dJ0_charAt_5068e_12 (fun H locs G => ?_)
    obtain ⟨q4, hsp⟩ := hk_k hsp
    obtain rfl := hk_s hsp
    exact W.zret (v := r3.1) hx hb hr (hk_nc q4) (fun t ht hW => hk_end G ht hW) G.2.1.2.2 dJ0_charAt_5068e_15
