def mX11_existingTrough (E : hk_E) (F : Nat) (S : hk_S) (a0 : Nat) (x1 : Int32) : Option (Sum (Nat × hk_S) (Nat × hk_S)) :=
(E.2.2.2 a0 0).bind (fun r1 => if E.2.1 r1 = 4 then ((mX5_hasTrough E F S r1 x1).bind (fun r2 => if ¬ r2.1 = 0 then ((mX5_troughAt E F r2.2 r1 x1).bind (fun r4 => if E.2.1 r4.1 = 8 then (some (.inr ((r4.1, r4.2)))) else none)) else (some (.inl (0, r2.2))))) else none)
set_option maxHeartbeats 4000000 in
set_option maxRecDepth 100000 in
theorem kX11_existingTrough (l : Launch) (hst : l.stackTraces = false) (g : hk_G) (E : hk_E) (F n : Nat) (S : hk_S) (a0 : Nat) (x1 : Int32) (o : Sum (Nat × hk_S) (Nat × hk_S)) (h0 : E.2.1 a0 = 9) (hsp : mX11_existingTrough E F S a0 x1 = some o) : vx_Met l yX11_existingTrough (hk_ws yX11_existingTrough cX11_existingTrough 2 (Option.some (Jvm.ClassFile.FieldType.object "WitheringLoft$Trough"))) ({ frames := 6, cells := 1, slots := 6, locals := 82 }) (hk_Pc g E S n [.ref (g.1 + a0), .int x1]) (hk_XQ g E n o (fun x => x.2) (fun x => some (.ref (g.1 + x.1)))) (hk_XX g E o) 1 6 (hk_A g) := by
  refine vx_ofW (cc := cX11_existingTrough) (maxL := 2) (ret := (Option.some (Jvm.ClassFile.FieldType.object "WitheringLoft$Trough"))) (by decide) rfl ?_
  intro p e s m args below meth c s₁ B hml ht hv
  obtain ⟨rfl, G⟩ := hk_begin hv
  have F9 : CallFix p m c cX11_existingTrough 2 s [.ref (g.1 + a0), .int x1].toArray hk_W RX11 := ⟨B.exec, B.bytes, hml, findClass_of_methodNamed B.named, fun w h => atoms_spec (ws := hk_ws yX11_existingTrough cX11_existingTrough 2 (Option.some (Jvm.ClassFile.FieldType.object "WitheringLoft$Trough"))) B.pre w (hk_in h)⟩
  have hx := B.exec
  have hb := B.bytes
  have hr := B.returns
  have hlocks := B.notSynchronized
  have hl := lv_entry ([.ref (g.1 + a0), .int x1]) (n := 2) (Nat.le_of_ble_eq_true rfl)
  rw [lg_entry_eq]
  generalize (lg_sl ([.ref (g.1 + a0), .int x1]) ++ List.replicate (2 - (lg_sl ([.ref (g.1 + a0), .int x1])).length) Slot.unset).toArray = ls at hl ⊢
  have hl : lv_has ls 2 [(0, .ref (g.1 + a0)), (1, .int x1)] := hl
  unfold mX11_existingTrough at hsp
  have G : hk_GG g E S n s s.heap [] := G
  refine lv_aload_n hx hb dX11_existingTrough_0 rfl (lv_at hl 0 rfl) ?_
  obtain ⟨r1, er1, hsp⟩ := hk_b hsp
  obtain ⟨kr1, hsp⟩ := hk_k hsp
  refine hk_getR F9 G h0 hkc_8 (k := 0) (by decide) qw_399 rfl er1 dX11_existingTrough_1 ?_
  refine lv_iload_n hx hb dX11_existingTrough_4 rfl (lv_at hl 1 rfl) ?_
  obtain ⟨r2, er2, hsp⟩ := hk_b hsp
  refine hk_callVi (As := [.int x1]) (rest := []) F9 G kr1 hkc_3 rfl (kX5_hasTrough l g E F n S r1 x1 r2 kr1 er2) qv_RX11_318 ⟨rfl, rfl, (Nat.le_of_ble_eq_true rfl), (Nat.le_of_ble_eq_true rfl)⟩ rfl hl.1 rfl (Nat.le_of_ble_eq_true rfl) ⟨(Nat.le_of_ble_eq_true rfl), (Nat.le_of_ble_eq_true rfl)⟩ dX11_existingTrough_5 (fun H locs G => ?_)
  refine lv_if_ne (tgt := 22) hx hb dX11_existingTrough_8 (by decide) (fun c3 => ?_) (fun c3 => ?_)
  · have hsp := hk_t c3 hsp
    refine lv_aload_n hx hb dX11_existingTrough_22 rfl (lv_at hl 0 rfl) ?_
    refine hk_getR F9 G h0 hkc_8 (k := 0) (by decide) qw_399 rfl er1 dX11_existingTrough_23 ?_
    refine lv_iload_n hx hb dX11_existingTrough_26 rfl (lv_at hl 1 rfl) ?_
    obtain ⟨r4, er4, hsp⟩ := hk_b hsp
    refine hk_callVr (As := [.int x1]) (rest := []) F9 G kr1 hkc_3 rfl (kX5_troughAt l g E F n r2.2 r1 x1 r4 kr1 er4) qv_RX11_51 ⟨rfl, rfl, (Nat.le_of_ble_eq_true rfl), (Nat.le_of_ble_eq_true rfl)⟩ rfl hl.1 rfl (Nat.le_of_ble_eq_true rfl) ⟨(Nat.le_of_ble_eq_true rfl), (Nat.le_of_ble_eq_true rfl)⟩ dX11_existingTrough_27 (fun H locs G => ?_)
    obtain ⟨q5, hsp⟩ := hk_k hsp
    obtain rfl := hk_s hsp
    exact vx_ret (W.widen (k := 1) (n := 6) (Nat.le_of_ble_eq_true rfl) (Nat.le_of_ble_eq_true rfl) (W.aret (v := .ref (g.1 + r4.1)) hx hb hr (Or.inl ⟨_, rfl⟩) (Or.inr ⟨_, rfl⟩) (fun t ht hW => ⟨_, rfl, hk_end G ht hW⟩) G.2.1.2.2 dX11_existingTrough_30))
  · have hsp := hk_g c3 hsp
    obtain rfl := hk_s hsp
    exact hk_throwW (cls := "java/lang/IndexOutOfBoundsException") (names := ["java/lang/RuntimeException", "java/lang/Exception"]) (ik := 321) (ic := 325) F9 G hst 0 7 rfl rfl rfl rfl qx_RX11_0.1 qx_RX11_0.2.1 qx_RX11_0.2.2.1 qx_RX11_0.2.2.2.1 qx_RX11_0.2.2.2.2.1 qx_RX11_0.2.2.2.2.2 hl.1 dX11_existingTrough_11 dX11_existingTrough_14 dX11_existingTrough_15 dX11_existingTrough_18 dX11_existingTrough_21 ht ⟨(Nat.le_of_ble_eq_true rfl), (Nat.le_of_ble_eq_true rfl), (Nat.le_of_ble_eq_true rfl), (Nat.le_of_ble_eq_true rfl)⟩ hlocks (Nat.le_of_ble_eq_true rfl) (Nat.le_of_ble_eq_true rfl)
def mX11_existingProbe (E : hk_E) (F : Nat) (S : hk_S) (a0 : Nat) (x1 : Int32) : Option (Sum (Nat × hk_S) (Nat × hk_S)) :=
(E.2.2.2 a0 0).bind (fun r1 => if E.2.1 r1 = 4 then ((mX5_hasProbe E F S r1 x1).bind (fun r2 => if ¬ r2.1 = 0 then ((mX5_probeAt E F r2.2 r1 x1).bind (fun r4 => if E.2.1 r4.1 = 5 then (some (.inr ((r4.1, r4.2)))) else none)) else (some (.inl (0, r2.2))))) else none)
set_option maxHeartbeats 4000000 in
set_option maxRecDepth 100000 in
theorem kX11_existingProbe (l : Launch) (hst : l.stackTraces = false) (g : hk_G) (E : hk_E) (F n : Nat) (S : hk_S) (a0 : Nat) (x1 : Int32) (o : Sum (Nat × hk_S) (Nat × hk_S)) (h0 : E.2.1 a0 = 9) (hsp : mX11_existingProbe E F S a0 x1 = some o) : vx_Met l yX11_existingProbe (hk_ws yX11_existingProbe cX11_existingProbe 2 (Option.some (Jvm.ClassFile.FieldType.object "WitheringLoft$Probe"))) ({ frames := 6, cells := 1, slots := 6, locals := 82 }) (hk_Pc g E S n [.ref (g.1 + a0), .int x1]) (hk_XQ g E n o (fun x => x.2) (fun x => some (.ref (g.1 + x.1)))) (hk_XX g E o) 1 6 (hk_A g) := by
  refine vx_ofW (cc := cX11_existingProbe) (maxL := 2) (ret := (Option.some (Jvm.ClassFile.FieldType.object "WitheringLoft$Probe"))) (by decide) rfl ?_
  intro p e s m args below meth c s₁ B hml ht hv
  obtain ⟨rfl, G⟩ := hk_begin hv
  have F9 : CallFix p m c cX11_existingProbe 2 s [.ref (g.1 + a0), .int x1].toArray hk_W RX11 := ⟨B.exec, B.bytes, hml, findClass_of_methodNamed B.named, fun w h => atoms_spec (ws := hk_ws yX11_existingProbe cX11_existingProbe 2 (Option.some (Jvm.ClassFile.FieldType.object "WitheringLoft$Probe"))) B.pre w (hk_in h)⟩
  have hx := B.exec
  have hb := B.bytes
  have hr := B.returns
  have hlocks := B.notSynchronized
  have hl := lv_entry ([.ref (g.1 + a0), .int x1]) (n := 2) (Nat.le_of_ble_eq_true rfl)
  rw [lg_entry_eq]
  generalize (lg_sl ([.ref (g.1 + a0), .int x1]) ++ List.replicate (2 - (lg_sl ([.ref (g.1 + a0), .int x1])).length) Slot.unset).toArray = ls at hl ⊢
  have hl : lv_has ls 2 [(0, .ref (g.1 + a0)), (1, .int x1)] := hl
  unfold mX11_existingProbe at hsp
  have G : hk_GG g E S n s s.heap [] := G
  refine lv_aload_n hx hb dX11_existingProbe_0 rfl (lv_at hl 0 rfl) ?_
  obtain ⟨r1, er1, hsp⟩ := hk_b hsp
  obtain ⟨kr1, hsp⟩ := hk_k hsp
  refine hk_getR F9 G h0 hkc_8 (k := 0) (by decide) qw_399 rfl er1 dX11_existingProbe_1 ?_
  refine lv_iload_n hx hb dX11_existingProbe_4 rfl (lv_at hl 1 rfl) ?_
  obtain ⟨r2, er2, hsp⟩ := hk_b hsp
  refine hk_callVi (As := [.int x1]) (rest := []) F9 G kr1 hkc_3 rfl (kX5_hasProbe l g E F n S r1 x1 r2 kr1 er2) qv_RX11_326 ⟨rfl, rfl, (Nat.le_of_ble_eq_true rfl), (Nat.le_of_ble_eq_true rfl)⟩ rfl hl.1 rfl (Nat.le_of_ble_eq_true rfl) ⟨(Nat.le_of_ble_eq_true rfl), (Nat.le_of_ble_eq_true rfl)⟩ dX11_existingProbe_5 (fun H locs G => ?_)
  refine lv_if_ne (tgt := 22) hx hb dX11_existingProbe_8 (by decide) (fun c3 => ?_) (fun c3 => ?_)
  · have hsp := hk_t c3 hsp
    refine lv_aload_n hx hb dX11_existingProbe_22 rfl (lv_at hl 0 rfl) ?_
    refine hk_getR F9 G h0 hkc_8 (k := 0) (by decide) qw_399 rfl er1 dX11_existingProbe_23 ?_
    refine lv_iload_n hx hb dX11_existingProbe_26 rfl (lv_at hl 1 rfl) ?_
    obtain ⟨r4, er4, hsp⟩ := hk_b hsp
    refine hk_callVr (As := [.int x1]) (rest := []) F9 G kr1 hkc_3 rfl (kX5_probeAt l g E F n r2.2 r1 x1 r4 kr1 er4) qv_RX11_331 ⟨rfl, rfl, (Nat.le_of_ble_eq_true rfl), (Nat.le_of_ble_eq_true rfl)⟩ rfl hl.1 rfl (Nat.le_of_ble_eq_true rfl) ⟨(Nat.le_of_ble_eq_true rfl), (Nat.le_of_ble_eq_true rfl)⟩ dX11_existingProbe_27 (fun H locs G => ?_)
    obtain ⟨q5, hsp⟩ := hk_k hsp
    obtain rfl := hk_s hsp
    exact vx_ret (W.widen (k := 1) (n := 6) (Nat.le_of_ble_eq_true rfl) (Nat.le_of_ble_eq_true rfl) (W.aret (v := .ref (g.1 + r4.1)) hx hb hr (Or.inl ⟨_, rfl⟩) (Or.inr ⟨_, rfl⟩) (fun t ht hW => ⟨_, rfl, hk_end G ht hW⟩) G.2.1.2.2 dX11_existingProbe_30))
  · have hsp := hk_g c3 hsp
    obtain rfl := hk_s hsp
    exact hk_throwW (cls := "java/lang/IndexOutOfBoundsException") (names := ["java/lang/RuntimeException", "java/lang/Exception"]) (ik := 321) (ic := 325) F9 G hst 0 8 rfl rfl rfl rfl qx_RX11_0.1 qx_RX11_0.2.1 qx_RX11_0.2.2.1 qx_RX11_0.2.2.2.1 qx_RX11_0.2.2.2.2.1 qx_RX11_0.2.2.2.2.2 hl.1 dX11_existingProbe_11 dX11_existingProbe_14 dX11_existingProbe_15 dX11_existingProbe_18 dX11_existingProbe_21 ht ⟨(Nat.le_of_ble_eq_true rfl), (Nat.le_of_ble_eq_true rfl), (Nat.le_of_ble_eq_true rfl), (Nat.le_of_ble_eq_true rfl)⟩ hlocks (Nat.le_of_ble_eq_true rfl) (Nat.le_of_ble_eq_true rfl)
def mX11_requireRange (E : hk_E) (F : Nat) (S : hk_S) (x0 : Int32) (x1 : Int32) (x2 : Int32) : Option (Sum (Nat × hk_S) (hk_S)) :=
if x0 < x1 then (some (.inl (1, S))) else (if x0 ≤ x2 then (some (.inr (S))) else (some (.inl (1, S))))
set_option maxHeartbeats 4000000 in
set_option maxRecDepth 100000 in
theorem kX11_requireRange (l : Launch) (hst : l.stackTraces = false) (g : hk_G) (E : hk_E) (F n : Nat) (S : hk_S) (x0 : Int32) (x1 : Int32) (x2 : Int32) (o : Sum (Nat × hk_S) (hk_S))  (hsp : mX11_requireRange E F S x0 x1 x2 = some o) : vx_Met l yX11_requireRange (hk_ws yX11_requireRange cX11_requireRange 3 (Option.none : Option Jvm.ClassFile.FieldType)) ({ frames := 6, cells := 1, slots := 6, locals := 82 }) (hk_Pc g E S n [.int x0, .int x1, .int x2]) (hk_XQ g E n o (fun x => x) (fun _ => none)) (hk_XX g E o) 1 6 (hk_A g) := by
  refine vx_ofW (cc := cX11_requireRange) (maxL := 3) (ret := (Option.none : Option Jvm.ClassFile.FieldType)) (by decide) rfl ?_
  intro p e s m args below meth c s₁ B hml ht hv
  obtain ⟨rfl, G⟩ := hk_begin hv
  have F9 : CallFix p m c cX11_requireRange 3 s [.int x0, .int x1, .int x2].toArray hk_W RX11 := ⟨B.exec, B.bytes, hml, findClass_of_methodNamed B.named, fun w h => atoms_spec (ws := hk_ws yX11_requireRange cX11_requireRange 3 (Option.none : Option Jvm.ClassFile.FieldType)) B.pre w (hk_in h)⟩
  have hx := B.exec
  have hb := B.bytes
  have hr := B.returns
  have hlocks := B.notSynchronized
  have hl := lv_entry ([.int x0, .int x1, .int x2]) (n := 3) (Nat.le_of_ble_eq_true rfl)
  rw [lg_entry_eq]
  generalize (lg_sl ([.int x0, .int x1, .int x2]) ++ List.replicate (3 - (lg_sl ([.int x0, .int x1, .int x2])).length) Slot.unset).toArray = ls at hl ⊢
  have hl : lv_has ls 3 [(0, .int x0), (1, .int x1), (2, .int x2)] := hl
  unfold mX11_requireRange at hsp
  have G : hk_GG g E S n s s.heap [] := G
  refine lv_iload_n hx hb dX11_requireRange_0 rfl (lv_at hl 0 rfl) ?_
  refine lv_iload_n hx hb dX11_requireRange_1 rfl (lv_at hl 1 rfl) ?_
  refine lv_icmp_lt (tgt := 10) hx hb dX11_requireRange_2 (by decide) (fun c1 => ?_) (fun c1 => ?_)
  · have hsp := hk_t c1 hsp
    obtain rfl := hk_s hsp
    exact hk_throwW (cls := "java/lang/IllegalArgumentException") (names := ["java/lang/RuntimeException", "java/lang/Exception"]) (ik := 334) (ic := 338) F9 G hst 1 5 rfl rfl rfl rfl qx_RX11_1.1 qx_RX11_1.2.1 qx_RX11_1.2.2.1 qx_RX11_1.2.2.2.1 qx_RX11_1.2.2.2.2.1 qx_RX11_1.2.2.2.2.2 hl.1 dX11_requireRange_10 dX11_requireRange_13 dX11_requireRange_14 dX11_requireRange_17 dX11_requireRange_20 ht ⟨(Nat.le_of_ble_eq_true rfl), (Nat.le_of_ble_eq_true rfl), (Nat.le_of_ble_eq_true rfl), (Nat.le_of_ble_eq_true rfl)⟩ hlocks (Nat.le_of_ble_eq_true rfl) (Nat.le_of_ble_eq_true rfl)
  · have hsp := hk_f c1 hsp
    refine lv_iload_n hx hb dX11_requireRange_5 rfl (lv_at hl 0 rfl) ?_
    refine lv_iload_n hx hb dX11_requireRange_6 rfl (lv_at hl 2 rfl) ?_
    refine lv_icmp_le (tgt := 21) hx hb dX11_requireRange_7 (by decide) (fun c2 => ?_) (fun c2 => ?_)
    · have hsp := hk_t c2 hsp
      obtain rfl := hk_s hsp
      exact vx_ret (W.widen (k := 1) (n := 6) (Nat.le_of_ble_eq_true rfl) (Nat.le_of_ble_eq_true rfl) (W.vret hx hb hr (fun t ht hW => ⟨_, rfl, hk_end G ht hW⟩) G.2.1.2.2 dX11_requireRange_21))
    · have hsp := hk_f c2 hsp
      obtain rfl := hk_s hsp
      exact hk_throwW (cls := "java/lang/IllegalArgumentException") (names := ["java/lang/RuntimeException", "java/lang/Exception"]) (ik := 334) (ic := 338) F9 G hst 1 5 rfl rfl rfl rfl qx_RX11_1.1 qx_RX11_1.2.1 qx_RX11_1.2.2.1 qx_RX11_1.2.2.2.1 qx_RX11_1.2.2.2.2.1 qx_RX11_1.2.2.2.2.2 hl.1 dX11_requireRange_10 dX11_requireRange_13 dX11_requireRange_14 dX11_requireRange_17 dX11_requireRange_20 ht ⟨(Nat.le_of_ble_eq_true rfl), (Nat.le_of_ble_eq_true rfl), (Nat.le_of_ble_eq_true rfl), (Nat.le_of_ble_eq_true rfl)⟩ hlocks (Nat.le_of_ble_eq_true rfl) (Nat.le_of_ble_eq_true rfl)
def mX11_refuseIf (E : hk_E) (F : Nat) (S : hk_S) (x0 : Int32) : Option (Sum (Nat × hk_S) (hk_S)) :=
if x0 = 0 then (some (.inr (S))) else (some (.inl (2, S)))
set_option maxHeartbeats 4000000 in
set_option maxRecDepth 100000 in
theorem kX11_refuseIf (l : Launch) (hst : l.stackTraces = false) (g : hk_G) (E : hk_E) (F n : Nat) (S : hk_S) (x0 : Int32) (o : Sum (Nat × hk_S) (hk_S))  (hsp : mX11_refuseIf E F S x0 = some o) : vx_Met l yX11_refuseIf (hk_ws yX11_refuseIf cX11_refuseIf 1 (Option.none : Option Jvm.ClassFile.FieldType)) ({ frames := 6, cells := 1, slots := 6, locals := 82 }) (hk_Pc g E S n [.int x0]) (hk_XQ g E n o (fun x => x) (fun _ => none)) (hk_XX g E o) 1 6 (hk_A g) := by
  refine vx_ofW (cc := cX11_refuseIf) (maxL := 1) (ret := (Option.none : Option Jvm.ClassFile.FieldType)) (by decide) rfl ?_
  intro p e s m args below meth c s₁ B hml ht hv
  obtain ⟨rfl, G⟩ := hk_begin hv
  have F9 : CallFix p m c cX11_refuseIf 1 s [.int x0].toArray hk_W RX11 := ⟨B.exec, B.bytes, hml, findClass_of_methodNamed B.named, fun w h => atoms_spec (ws := hk_ws yX11_refuseIf cX11_refuseIf 1 (Option.none : Option Jvm.ClassFile.FieldType)) B.pre w (hk_in h)⟩
  have hx := B.exec
  have hb := B.bytes
  have hr := B.returns
  have hlocks := B.notSynchronized
  have hl := lv_entry ([.int x0]) (n := 1) (Nat.le_of_ble_eq_true rfl)
  rw [lg_entry_eq]
  generalize (lg_sl ([.int x0]) ++ List.replicate (1 - (lg_sl ([.int x0])).length) Slot.unset).toArray = ls at hl ⊢
  have hl : lv_has ls 1 [(0, .int x0)] := hl
  unfold mX11_refuseIf at hsp
  have G : hk_GG g E S n s s.heap [] := G
  refine lv_iload_n hx hb dX11_refuseIf_0 rfl (lv_at hl 0 rfl) ?_
  refine lv_if_eq (tgt := 15) hx hb dX11_refuseIf_1 (by decide) (fun c1 => ?_) (fun c1 => ?_)
  · have hsp := hk_t c1 hsp
    obtain rfl := hk_s hsp
    exact vx_ret (W.widen (k := 1) (n := 6) (Nat.le_of_ble_eq_true rfl) (Nat.le_of_ble_eq_true rfl) (W.vret hx hb hr (fun t ht hW => ⟨_, rfl, hk_end G ht hW⟩) G.2.1.2.2 dX11_refuseIf_15))
  · have hsp := hk_f c1 hsp
    obtain rfl := hk_s hsp
    exact hk_throwW (cls := "java/lang/IllegalStateException") (names := ["java/lang/RuntimeException", "java/lang/Exception"]) (ik := 339) (ic := 343) F9 G hst 2 6 rfl rfl rfl rfl qx_RX11_2.1 qx_RX11_2.2.1 qx_RX11_2.2.2.1 qx_RX11_2.2.2.2.1 qx_RX11_2.2.2.2.2.1 qx_RX11_2.2.2.2.2.2 hl.1 dX11_refuseIf_4 dX11_refuseIf_7 dX11_refuseIf_8 dX11_refuseIf_11 dX11_refuseIf_14 ht ⟨(Nat.le_of_ble_eq_true rfl), (Nat.le_of_ble_eq_true rfl), (Nat.le_of_ble_eq_true rfl), (Nat.le_of_ble_eq_true rfl)⟩ hlocks (Nat.le_of_ble_eq_true rfl) (Nat.le_of_ble_eq_true rfl)
def mX11_truncateInput (E : hk_E) (F : Nat) (S : hk_S) (a0 : Nat) (x1 : Int32) : Option (Sum (Nat × hk_S) (Int32 × hk_S)) :=
(E.2.2.2 a0 4).bind (fun r1 => if E.2.1 r1 = 7 then ((E.2.2.2 r1 0).bind (fun r2 => if E.2.1 r2 = 3 then (hk_xb (mX11_requireRange E F S x1 0 (S r2 1)) (fun r3 => hk_let (hk_up r3 r2 1 x1) (fun S6 => some (.inr ((x1, S6)))))) else none)) else none)
set_option maxHeartbeats 4000000 in
set_option maxRecDepth 100000 in
theorem kX11_truncateInput (l : Launch) (hst : l.stackTraces = false) (g : hk_G) (E : hk_E) (F n : Nat) (S : hk_S) (a0 : Nat) (x1 : Int32) (o : Sum (Nat × hk_S) (Int32 × hk_S)) (h0 : E.2.1 a0 = 9) (hsp : mX11_truncateInput E F S a0 x1 = some o) : vx_Met l yX11_truncateInput (hk_ws yX11_truncateInput cX11_truncateInput 2 (Option.some Jvm.ClassFile.FieldType.int)) ({ frames := 7, cells := 1, slots := 6, locals := 104 }) (hk_Pc g E S n [.ref (g.1 + a0), .int x1]) (hk_XQ g E n o (fun x => x.2) (fun x => some (.int x.1))) (hk_XX g E o) 1 6 (hk_A g) := by
  refine vx_ofW (cc := cX11_truncateInput) (maxL := 2) (ret := (Option.some Jvm.ClassFile.FieldType.int)) (by decide) rfl ?_
  intro p e s m args below meth c s₁ B hml ht hv
  obtain ⟨rfl, G⟩ := hk_begin hv
  have F9 : CallFix p m c cX11_truncateInput 2 s [.ref (g.1 + a0), .int x1].toArray hk_W RX11 := ⟨B.exec, B.bytes, hml, findClass_of_methodNamed B.named, fun w h => atoms_spec (ws := hk_ws yX11_truncateInput cX11_truncateInput 2 (Option.some Jvm.ClassFile.FieldType.int)) B.pre w (hk_in h)⟩
  have hx := B.exec
  have hb := B.bytes
  have hr := B.returns
  have hlocks := B.notSynchronized
  have hl := lv_entry ([.ref (g.1 + a0), .int x1]) (n := 2) (Nat.le_of_ble_eq_true rfl)
  rw [lg_entry_eq]
  generalize (lg_sl ([.ref (g.1 + a0), .int x1]) ++ List.replicate (2 - (lg_sl ([.ref (g.1 + a0), .int x1])).length) Slot.unset).toArray = ls at hl ⊢
  have hl : lv_has ls 2 [(0, .ref (g.1 + a0)), (1, .int x1)] := hl
  unfold mX11_truncateInput at hsp
  have G : hk_GG g E S n s s.heap [] := G
  refine lv_iload_n hx hb dX11_truncateInput_0 rfl (lv_at hl 1 rfl) ?_
  refine lv_iconst (v := 0) hx hb dX11_truncateInput_1 (by decide) ?_
  refine lv_aload_n hx hb dX11_truncateInput_2 rfl (lv_at hl 0 rfl) ?_
  obtain ⟨r1, er1, hsp⟩ := hk_b hsp
  obtain ⟨kr1, hsp⟩ := hk_k hsp
  refine hk_getR F9 G h0 hkc_8 (k := 4) (by decide) qw_403 rfl er1 dX11_truncateInput_3 ?_
  obtain ⟨r2, er2, hsp⟩ := hk_b hsp
  obtain ⟨kr2, hsp⟩ := hk_k hsp
  refine hk_getR F9 G kr1 hkc_6 (k := 0) (by decide) qw_269 rfl er2 dX11_truncateInput_6 ?_
  refine hk_getI F9 G kr2 hkc_2 (k := 1) (by decide) qw_256 rfl dX11_truncateInput_9 ?_
  rcases hk_xe hsp with ⟨k4, T5, er3, rfl⟩ | ⟨r3, er3, hsp⟩
  · exact hk_xSt (As := [.int x1, .int 0, .int (S r2 1)]) (rest := []) F9 G (kX11_requireRange l hst g E F n S x1 0 (S r2 1) _  er3) qv_RX11_96 ⟨rfl, rfl, (Nat.le_of_ble_eq_true rfl), (Nat.le_of_ble_eq_true rfl)⟩ rfl hl.1 rfl (Nat.le_of_ble_eq_true rfl) ⟨(Nat.le_of_ble_eq_true rfl), (Nat.le_of_ble_eq_true rfl)⟩ dX11_truncateInput_12 ht hlocks ⟨(Nat.le_of_ble_eq_true rfl), (Nat.le_of_ble_eq_true rfl)⟩
  refine hk_xSv (As := [.int x1, .int 0, .int (S r2 1)]) (rest := []) F9 G (kX11_requireRange l hst g E F n S x1 0 (S r2 1) _  er3) qv_RX11_96 ⟨rfl, rfl, (Nat.le_of_ble_eq_true rfl), (Nat.le_of_ble_eq_true rfl)⟩ rfl hl.1 rfl (Nat.le_of_ble_eq_true rfl) ⟨(Nat.le_of_ble_eq_true rfl), (Nat.le_of_ble_eq_true rfl)⟩ dX11_truncateInput_12 (fun H locs G => ?_)
  refine lv_aload_n hx hb dX11_truncateInput_15 rfl (lv_at hl 0 rfl) ?_
  refine hk_getR F9 G h0 hkc_8 (k := 4) (by decide) qw_403 rfl er1 dX11_truncateInput_16 ?_
  refine hk_getR F9 G kr1 hkc_6 (k := 0) (by decide) qw_269 rfl er2 dX11_truncateInput_19 ?_
  refine lv_iload_n hx hb dX11_truncateInput_22 rfl (lv_at hl 1 rfl) ?_
  obtain ⟨S6, eS6, hsp⟩ := hk_l hsp
  refine hk_putI F9 G kr2 hkc_2 (k := 1) (by decide) qw_256 rfl rfl (tyX4_ok 1 (by decide)) rfl rfl dX11_truncateInput_23 (fun H locs G => ?_)
  rw [eS6] at G
  refine lv_iload_n hx hb dX11_truncateInput_26 rfl (lv_at hl 1 rfl) ?_
  obtain rfl := hk_s hsp
  exact vx_ret (W.widen (k := 1) (n := 6) (Nat.le_of_ble_eq_true rfl) (Nat.le_of_ble_eq_true rfl) (W.iret (v := x1) hx hb hr (fun t ht hW => ⟨_, rfl, hk_end G ht hW⟩) G.2.1.2.2 dX11_truncateInput_27))
def mX11_humidityAt (E : hk_E) (F : Nat) (S : hk_S) (a0 : Nat) (x1 : Int32) : Option (Sum (Nat × hk_S) (Int32 × hk_S)) :=
hk_xb (mX11_requireRange E F S x1 0 2000) (fun r1 => (E.2.2.2 a0 0).bind (fun r4 => if E.2.1 r4 = 4 then ((E.2.2.2 r4 0).bind (fun r5 => if E.2.1 r5 = 1 then ((mX1_humidityOf E F r1 r5 x1).bind (fun r6 => some (.inr ((r6.1, r6.2))))) else none)) else none))
set_option maxHeartbeats 4000000 in
set_option maxRecDepth 100000 in
theorem kX11_humidityAt (l : Launch) (hst : l.stackTraces = false) (g : hk_G) (E : hk_E) (F n : Nat) (S : hk_S) (a0 : Nat) (x1 : Int32) (o : Sum (Nat × hk_S) (Int32 × hk_S)) (h0 : E.2.1 a0 = 9) (hsp : mX11_humidityAt E F S a0 x1 = some o) : vx_Met l yX11_humidityAt (hk_ws yX11_humidityAt cX11_humidityAt 2 (Option.some Jvm.ClassFile.FieldType.int)) ({ frames := 7, cells := 1, slots := 6, locals := 104 }) (hk_Pc g E S n [.ref (g.1 + a0), .int x1]) (hk_XQ g E n o (fun x => x.2) (fun x => some (.int x.1))) (hk_XX g E o) 1 6 (hk_A g) := by
  refine vx_ofW (cc := cX11_humidityAt) (maxL := 2) (ret := (Option.some Jvm.ClassFile.FieldType.int)) (by decide) rfl ?_
  intro p e s m args below meth c s₁ B hml ht hv
  obtain ⟨rfl, G⟩ := hk_begin hv
  have F9 : CallFix p m c cX11_humidityAt 2 s [.ref (g.1 + a0), .int x1].toArray hk_W RX11 := ⟨B.exec, B.bytes, hml, findClass_of_methodNamed B.named, fun w h => atoms_spec (ws := hk_ws yX11_humidityAt cX11_humidityAt 2 (Option.some Jvm.ClassFile.FieldType.int)) B.pre w (hk_in h)⟩
  have hx := B.exec
  have hb := B.bytes
  have hr := B.returns
  have hlocks := B.notSynchronized
  have hl := lv_entry ([.ref (g.1 + a0), .int x1]) (n := 2) (Nat.le_of_ble_eq_true rfl)
  rw [lg_entry_eq]
  generalize (lg_sl ([.ref (g.1 + a0), .int x1]) ++ List.replicate (2 - (lg_sl ([.ref (g.1 + a0), .int x1])).length) Slot.unset).toArray = ls at hl ⊢
  have hl : lv_has ls 2 [(0, .ref (g.1 + a0)), (1, .int x1)] := hl
  unfold mX11_humidityAt at hsp
  have G : hk_GG g E S n s s.heap [] := G
  refine lv_iload_n hx hb dX11_humidityAt_0 rfl (lv_at hl 1 rfl) ?_
  refine lv_iconst (v := 0) hx hb dX11_humidityAt_1 (by decide) ?_
  refine lv_sipush (v := 2000) hx hb dX11_humidityAt_2 (by decide) ?_
  rcases hk_xe hsp with ⟨k2, T3, er1, rfl⟩ | ⟨r1, er1, hsp⟩
  · exact hk_xSt (As := [.int x1, .int 0, .int 2000]) (rest := []) F9 G (kX11_requireRange l hst g E F n S x1 0 2000 _  er1) qv_RX11_96 ⟨rfl, rfl, (Nat.le_of_ble_eq_true rfl), (Nat.le_of_ble_eq_true rfl)⟩ rfl hl.1 rfl (Nat.le_of_ble_eq_true rfl) ⟨(Nat.le_of_ble_eq_true rfl), (Nat.le_of_ble_eq_true rfl)⟩ dX11_humidityAt_5 ht hlocks ⟨(Nat.le_of_ble_eq_true rfl), (Nat.le_of_ble_eq_true rfl)⟩
  refine hk_xSv (As := [.int x1, .int 0, .int 2000]) (rest := []) F9 G (kX11_requireRange l hst g E F n S x1 0 2000 _  er1) qv_RX11_96 ⟨rfl, rfl, (Nat.le_of_ble_eq_true rfl), (Nat.le_of_ble_eq_true rfl)⟩ rfl hl.1 rfl (Nat.le_of_ble_eq_true rfl) ⟨(Nat.le_of_ble_eq_true rfl), (Nat.le_of_ble_eq_true rfl)⟩ dX11_humidityAt_5 (fun H locs G => ?_)
  refine lv_aload_n hx hb dX11_humidityAt_8 rfl (lv_at hl 0 rfl) ?_
  obtain ⟨r4, er4, hsp⟩ := hk_b hsp
  obtain ⟨kr4, hsp⟩ := hk_k hsp
  refine hk_getR F9 G h0 hkc_8 (k := 0) (by decide) qw_399 rfl er4 dX11_humidityAt_9 ?_
  obtain ⟨r5, er5, hsp⟩ := hk_b hsp
  obtain ⟨kr5, hsp⟩ := hk_k hsp
  refine hk_getR F9 G kr4 hkc_3 (k := 0) (by decide) qw_172 rfl er5 dX11_humidityAt_12 ?_
  refine lv_iload_n hx hb dX11_humidityAt_15 rfl (lv_at hl 1 rfl) ?_
  obtain ⟨r6, er6, hsp⟩ := hk_b hsp
  refine hk_callVi (As := [.int x1]) (rest := []) F9 G kr5 hkc_0 rfl (kX1_humidityOf l g E F n r1 r5 x1 r6 kr5 er6) qv_RX11_227 ⟨rfl, rfl, (Nat.le_of_ble_eq_true rfl), (Nat.le_of_ble_eq_true rfl)⟩ rfl hl.1 rfl (Nat.le_of_ble_eq_true rfl) ⟨(Nat.le_of_ble_eq_true rfl), (Nat.le_of_ble_eq_true rfl)⟩ dX11_humidityAt_16 (fun H locs G => ?_)
  obtain rfl := hk_s hsp
  exact vx_ret (W.widen (k := 1) (n := 6) (Nat.le_of_ble_eq_true rfl) (Nat.le_of_ble_eq_true rfl) (W.iret (v := r6.1) hx hb hr (fun t ht hW => ⟨_, rfl, hk_end G ht hW⟩) G.2.1.2.2 dX11_humidityAt_19))
def mX11_capacity (E : hk_E) (F : Nat) (S : hk_S) (a0 : Nat) (x1 : Int32) : Option (Sum (Nat × hk_S) (Int32 × hk_S)) :=
hk_xb (mX11_existingTrough E F S a0 x1) (fun r1 => if E.2.1 r1.1 = 8 then (some (.inr (((r1.2 r1.1 0), r1.2)))) else none)
set_option maxHeartbeats 4000000 in
set_option maxRecDepth 100000 in
theorem kX11_capacity (l : Launch) (hst : l.stackTraces = false) (g : hk_G) (E : hk_E) (F n : Nat) (S : hk_S) (a0 : Nat) (x1 : Int32) (o : Sum (Nat × hk_S) (Int32 × hk_S)) (h0 : E.2.1 a0 = 9) (hsp : mX11_capacity E F S a0 x1 = some o) : vx_Met l yX11_capacity (hk_ws yX11_capacity cX11_capacity 2 (Option.some Jvm.ClassFile.FieldType.int)) ({ frames := 7, cells := 1, slots := 6, locals := 103 }) (hk_Pc g E S n [.ref (g.1 + a0), .int x1]) (hk_XQ g E n o (fun x => x.2) (fun x => some (.int x.1))) (hk_XX g E o) 1 6 (hk_A g) := by
  refine vx_ofW (cc := cX11_capacity) (maxL := 2) (ret := (Option.some Jvm.ClassFile.FieldType.int)) (by decide) rfl ?_
  intro p e s m args below meth c s₁ B hml ht hv
  obtain ⟨rfl, G⟩ := hk_begin hv
  have F9 : CallFix p m c cX11_capacity 2 s [.ref (g.1 + a0), .int x1].toArray hk_W RX11 := ⟨B.exec, B.bytes, hml, findClass_of_methodNamed B.named, fun w h => atoms_spec (ws := hk_ws yX11_capacity cX11_capacity 2 (Option.some Jvm.ClassFile.FieldType.int)) B.pre w (hk_in h)⟩
  have hx := B.exec
  have hb := B.bytes
  have hr := B.returns
  have hlocks := B.notSynchronized
  have hl := lv_entry ([.ref (g.1 + a0), .int x1]) (n := 2) (Nat.le_of_ble_eq_true rfl)
  rw [lg_entry_eq]
  generalize (lg_sl ([.ref (g.1 + a0), .int x1]) ++ List.replicate (2 - (lg_sl ([.ref (g.1 + a0), .int x1])).length) Slot.unset).toArray = ls at hl ⊢
  have hl : lv_has ls 2 [(0, .ref (g.1 + a0)), (1, .int x1)] := hl
  unfold mX11_capacity at hsp
  have G : hk_GG g E S n s s.heap [] := G
  refine lv_aload_n hx hb dX11_capacity_0 rfl (lv_at hl 0 rfl) ?_
  refine lv_iload_n hx hb dX11_capacity_1 rfl (lv_at hl 1 rfl) ?_
  rcases hk_xe hsp with ⟨k2, T3, er1, rfl⟩ | ⟨r1, er1, hsp⟩
  · exact hk_xVt (As := [.int x1]) (rest := []) F9 G h0 hkc_8 rfl (kX11_existingTrough l hst g E F n S a0 x1 _ h0 er1) qv_RX11_124 ⟨rfl, rfl, (Nat.le_of_ble_eq_true rfl), (Nat.le_of_ble_eq_true rfl)⟩ rfl hl.1 rfl (Nat.le_of_ble_eq_true rfl) ⟨(Nat.le_of_ble_eq_true rfl), (Nat.le_of_ble_eq_true rfl)⟩ dX11_capacity_2 ht hlocks ⟨(Nat.le_of_ble_eq_true rfl), (Nat.le_of_ble_eq_true rfl)⟩
  refine hk_xVr (As := [.int x1]) (rest := []) F9 G h0 hkc_8 rfl (kX11_existingTrough l hst g E F n S a0 x1 _ h0 er1) qv_RX11_124 ⟨rfl, rfl, (Nat.le_of_ble_eq_true rfl), (Nat.le_of_ble_eq_true rfl)⟩ rfl hl.1 rfl (Nat.le_of_ble_eq_true rfl) ⟨(Nat.le_of_ble_eq_true rfl), (Nat.le_of_ble_eq_true rfl)⟩ dX11_capacity_2 (fun H locs G => ?_)
  obtain ⟨q4, hsp⟩ := hk_k hsp
  refine hk_getI F9 G q4 hkc_7 (k := 0) (by decide) qw_82 rfl dX11_capacity_5 ?_
  obtain rfl := hk_s hsp
  exact vx_ret (W.widen (k := 1) (n := 6) (Nat.le_of_ble_eq_true rfl) (Nat.le_of_ble_eq_true rfl) (W.iret (v := (r1.2 r1.1 0)) hx hb hr (fun t ht hW => ⟨_, rfl, hk_end G ht hW⟩) G.2.1.2.2 dX11_capacity_8))
def mX11_kilograms (E : hk_E) (F : Nat) (S : hk_S) (a0 : Nat) (x1 : Int32) : Option (Sum (Nat × hk_S) (Int32 × hk_S)) :=
hk_xb (mX11_existingTrough E F S a0 x1) (fun r1 => if E.2.1 r1.1 = 8 then (some (.inr (((r1.2 r1.1 3), r1.2)))) else none)
set_option maxHeartbeats 4000000 in
set_option maxRecDepth 100000 in
theorem kX11_kilograms (l : Launch) (hst : l.stackTraces = false) (g : hk_G) (E : hk_E) (F n : Nat) (S : hk_S) (a0 : Nat) (x1 : Int32) (o : Sum (Nat × hk_S) (Int32 × hk_S)) (h0 : E.2.1 a0 = 9) (hsp : mX11_kilograms E F S a0 x1 = some o) : vx_Met l yX11_kilograms (hk_ws yX11_kilograms cX11_kilograms 2 (Option.some Jvm.ClassFile.FieldType.int)) ({ frames := 7, cells := 1, slots := 6, locals := 103 }) (hk_Pc g E S n [.ref (g.1 + a0), .int x1]) (hk_XQ g E n o (fun x => x.2) (fun x => some (.int x.1))) (hk_XX g E o) 1 6 (hk_A g) := by
  refine vx_ofW (cc := cX11_kilograms) (maxL := 2) (ret := (Option.some Jvm.ClassFile.FieldType.int)) (by decide) rfl ?_
  intro p e s m args below meth c s₁ B hml ht hv
  obtain ⟨rfl, G⟩ := hk_begin hv
  have F9 : CallFix p m c cX11_kilograms 2 s [.ref (g.1 + a0), .int x1].toArray hk_W RX11 := ⟨B.exec, B.bytes, hml, findClass_of_methodNamed B.named, fun w h => atoms_spec (ws := hk_ws yX11_kilograms cX11_kilograms 2 (Option.some Jvm.ClassFile.FieldType.int)) B.pre w (hk_in h)⟩
  have hx := B.exec
  have hb := B.bytes
  have hr := B.returns
  have hlocks := B.notSynchronized
  have hl := lv_entry ([.ref (g.1 + a0), .int x1]) (n := 2) (Nat.le_of_ble_eq_true rfl)
  rw [lg_entry_eq]
  generalize (lg_sl ([.ref (g.1 + a0), .int x1]) ++ List.replicate (2 - (lg_sl ([.ref (g.1 + a0), .int x1])).length) Slot.unset).toArray = ls at hl ⊢
  have hl : lv_has ls 2 [(0, .ref (g.1 + a0)), (1, .int x1)] := hl
  unfold mX11_kilograms at hsp
  have G : hk_GG g E S n s s.heap [] := G
  refine lv_aload_n hx hb dX11_kilograms_0 rfl (lv_at hl 0 rfl) ?_
  refine lv_iload_n hx hb dX11_kilograms_1 rfl (lv_at hl 1 rfl) ?_
  rcases hk_xe hsp with ⟨k2, T3, er1, rfl⟩ | ⟨r1, er1, hsp⟩
  · exact hk_xVt (As := [.int x1]) (rest := []) F9 G h0 hkc_8 rfl (kX11_existingTrough l hst g E F n S a0 x1 _ h0 er1) qv_RX11_124 ⟨rfl, rfl, (Nat.le_of_ble_eq_true rfl), (Nat.le_of_ble_eq_true rfl)⟩ rfl hl.1 rfl (Nat.le_of_ble_eq_true rfl) ⟨(Nat.le_of_ble_eq_true rfl), (Nat.le_of_ble_eq_true rfl)⟩ dX11_kilograms_2 ht hlocks ⟨(Nat.le_of_ble_eq_true rfl), (Nat.le_of_ble_eq_true rfl)⟩
  refine hk_xVr (As := [.int x1]) (rest := []) F9 G h0 hkc_8 rfl (kX11_existingTrough l hst g E F n S a0 x1 _ h0 er1) qv_RX11_124 ⟨rfl, rfl, (Nat.le_of_ble_eq_true rfl), (Nat.le_of_ble_eq_true rfl)⟩ rfl hl.1 rfl (Nat.le_of_ble_eq_true rfl) ⟨(Nat.le_of_ble_eq_true rfl), (Nat.le_of_ble_eq_true rfl)⟩ dX11_kilograms_2 (fun H locs G => ?_)
  obtain ⟨q4, hsp⟩ := hk_k hsp
  refine hk_getI F9 G q4 hkc_7 (k := 3) (by decide) qw_94 rfl dX11_kilograms_5 ?_
  obtain rfl := hk_s hsp
  exact vx_ret (W.widen (k := 1) (n := 6) (Nat.le_of_ble_eq_true rfl) (Nat.le_of_ble_eq_true rfl) (W.iret (v := (r1.2 r1.1 3)) hx hb hr (fun t ht hW => ⟨_, rfl, hk_end G ht hW⟩) G.2.1.2.2 dX11_kilograms_8))
def mX11_fill (E : hk_E) (F : Nat) (S : hk_S) (a0 : Nat) (x1 : Int32) : Option (Sum (Nat × hk_S) (Int32 × hk_S)) :=
hk_xb (mX11_existingTrough E F S a0 x1) (fun r1 => if E.2.1 r1.1 = 8 then (some (.inr (((r1.2 r1.1 4), r1.2)))) else none)
set_option maxHeartbeats 4000000 in
set_option maxRecDepth 100000 in
theorem kX11_fill (l : Launch) (hst : l.stackTraces = false) (g : hk_G) (E : hk_E) (F n : Nat) (S : hk_S) (a0 : Nat) (x1 : Int32) (o : Sum (Nat × hk_S) (Int32 × hk_S)) (h0 : E.2.1 a0 = 9) (hsp : mX11_fill E F S a0 x1 = some o) : vx_Met l yX11_fill (hk_ws yX11_fill cX11_fill 2 (Option.some Jvm.ClassFile.FieldType.int)) ({ frames := 7, cells := 1, slots := 6, locals := 103 }) (hk_Pc g E S n [.ref (g.1 + a0), .int x1]) (hk_XQ g E n o (fun x => x.2) (fun x => some (.int x.1))) (hk_XX g E o) 1 6 (hk_A g) := by
  refine vx_ofW (cc := cX11_fill) (maxL := 2) (ret := (Option.some Jvm.ClassFile.FieldType.int)) (by decide) rfl ?_
  intro p e s m args below meth c s₁ B hml ht hv
  obtain ⟨rfl, G⟩ := hk_begin hv
  have F9 : CallFix p m c cX11_fill 2 s [.ref (g.1 + a0), .int x1].toArray hk_W RX11 := ⟨B.exec, B.bytes, hml, findClass_of_methodNamed B.named, fun w h => atoms_spec (ws := hk_ws yX11_fill cX11_fill 2 (Option.some Jvm.ClassFile.FieldType.int)) B.pre w (hk_in h)⟩
  have hx := B.exec
  have hb := B.bytes
  have hr := B.returns
  have hlocks := B.notSynchronized
  have hl := lv_entry ([.ref (g.1 + a0), .int x1]) (n := 2) (Nat.le_of_ble_eq_true rfl)
  rw [lg_entry_eq]
  generalize (lg_sl ([.ref (g.1 + a0), .int x1]) ++ List.replicate (2 - (lg_sl ([.ref (g.1 + a0), .int x1])).length) Slot.unset).toArray = ls at hl ⊢
  have hl : lv_has ls 2 [(0, .ref (g.1 + a0)), (1, .int x1)] := hl
  unfold mX11_fill at hsp
  have G : hk_GG g E S n s s.heap [] := G
  refine lv_aload_n hx hb dX11_fill_0 rfl (lv_at hl 0 rfl) ?_
  refine lv_iload_n hx hb dX11_fill_1 rfl (lv_at hl 1 rfl) ?_
  rcases hk_xe hsp with ⟨k2, T3, er1, rfl⟩ | ⟨r1, er1, hsp⟩
  · exact hk_xVt (As := [.int x1]) (rest := []) F9 G h0 hkc_8 rfl (kX11_existingTrough l hst g E F n S a0 x1 _ h0 er1) qv_RX11_124 ⟨rfl, rfl, (Nat.le_of_ble_eq_true rfl), (Nat.le_of_ble_eq_true rfl)⟩ rfl hl.1 rfl (Nat.le_of_ble_eq_true rfl) ⟨(Nat.le_of_ble_eq_true rfl), (Nat.le_of_ble_eq_true rfl)⟩ dX11_fill_2 ht hlocks ⟨(Nat.le_of_ble_eq_true rfl), (Nat.le_of_ble_eq_true rfl)⟩
  refine hk_xVr (As := [.int x1]) (rest := []) F9 G h0 hkc_8 rfl (kX11_existingTrough l hst g E F n S a0 x1 _ h0 er1) qv_RX11_124 ⟨rfl, rfl, (Nat.le_of_ble_eq_true rfl), (Nat.le_of_ble_eq_true rfl)⟩ rfl hl.1 rfl (Nat.le_of_ble_eq_true rfl) ⟨(Nat.le_of_ble_eq_true rfl), (Nat.le_of_ble_eq_true rfl)⟩ dX11_fill_2 (fun H locs G => ?_)
  obtain ⟨q4, hsp⟩ := hk_k hsp
  refine hk_getI F9 G q4 hkc_7 (k := 4) (by decide) qw_96 rfl dX11_fill_5 ?_
  obtain rfl := hk_s hsp
  exact vx_ret (W.widen (k := 1) (n := 6) (Nat.le_of_ble_eq_true rfl) (Nat.le_of_ble_eq_true rfl) (W.iret (v := (r1.2 r1.1 4)) hx hb hr (fun t ht hW => ⟨_, rfl, hk_end G ht hW⟩) G.2.1.2.2 dX11_fill_8))
def mX11_speed (E : hk_E) (F : Nat) (S : hk_S) (a0 : Nat) (x1 : Int32) : Option (Sum (Nat × hk_S) (Int32 × hk_S)) :=
hk_xb (mX11_existingTrough E F S a0 x1) (fun r1 => if E.2.1 r1.1 = 8 then (some (.inr (((r1.2 r1.1 1), r1.2)))) else none)
set_option maxHeartbeats 4000000 in
set_option maxRecDepth 100000 in
theorem kX11_speed (l : Launch) (hst : l.stackTraces = false) (g : hk_G) (E : hk_E) (F n : Nat) (S : hk_S) (a0 : Nat) (x1 : Int32) (o : Sum (Nat × hk_S) (Int32 × hk_S)) (h0 : E.2.1 a0 = 9) (hsp : mX11_speed E F S a0 x1 = some o) : vx_Met l yX11_speed (hk_ws yX11_speed cX11_speed 2 (Option.some Jvm.ClassFile.FieldType.int)) ({ frames := 7, cells := 1, slots := 6, locals := 103 }) (hk_Pc g E S n [.ref (g.1 + a0), .int x1]) (hk_XQ g E n o (fun x => x.2) (fun x => some (.int x.1))) (hk_XX g E o) 1 6 (hk_A g) := by
  refine vx_ofW (cc := cX11_speed) (maxL := 2) (ret := (Option.some Jvm.ClassFile.FieldType.int)) (by decide) rfl ?_
  intro p e s m args below meth c s₁ B hml ht hv
  obtain ⟨rfl, G⟩ := hk_begin hv
  have F9 : CallFix p m c cX11_speed 2 s [.ref (g.1 + a0), .int x1].toArray hk_W RX11 := ⟨B.exec, B.bytes, hml, findClass_of_methodNamed B.named, fun w h => atoms_spec (ws := hk_ws yX11_speed cX11_speed 2 (Option.some Jvm.ClassFile.FieldType.int)) B.pre w (hk_in h)⟩
  have hx := B.exec
  have hb := B.bytes
  have hr := B.returns
  have hlocks := B.notSynchronized
  have hl := lv_entry ([.ref (g.1 + a0), .int x1]) (n := 2) (Nat.le_of_ble_eq_true rfl)
  rw [lg_entry_eq]
  generalize (lg_sl ([.ref (g.1 + a0), .int x1]) ++ List.replicate (2 - (lg_sl ([.ref (g.1 + a0), .int x1])).length) Slot.unset).toArray = ls at hl ⊢
  have hl : lv_has ls 2 [(0, .ref (g.1 + a0)), (1, .int x1)] := hl
  unfold mX11_speed at hsp
  have G : hk_GG g E S n s s.heap [] := G
  refine lv_aload_n hx hb dX11_speed_0 rfl (lv_at hl 0 rfl) ?_
  refine lv_iload_n hx hb dX11_speed_1 rfl (lv_at hl 1 rfl) ?_
  rcases hk_xe hsp with ⟨k2, T3, er1, rfl⟩ | ⟨r1, er1, hsp⟩
  · exact hk_xVt (As := [.int x1]) (rest := []) F9 G h0 hkc_8 rfl (kX11_existingTrough l hst g E F n S a0 x1 _ h0 er1) qv_RX11_124 ⟨rfl, rfl, (Nat.le_of_ble_eq_true rfl), (Nat.le_of_ble_eq_true rfl)⟩ rfl hl.1 rfl (Nat.le_of_ble_eq_true rfl) ⟨(Nat.le_of_ble_eq_true rfl), (Nat.le_of_ble_eq_true rfl)⟩ dX11_speed_2 ht hlocks ⟨(Nat.le_of_ble_eq_true rfl), (Nat.le_of_ble_eq_true rfl)⟩
  refine hk_xVr (As := [.int x1]) (rest := []) F9 G h0 hkc_8 rfl (kX11_existingTrough l hst g E F n S a0 x1 _ h0 er1) qv_RX11_124 ⟨rfl, rfl, (Nat.le_of_ble_eq_true rfl), (Nat.le_of_ble_eq_true rfl)⟩ rfl hl.1 rfl (Nat.le_of_ble_eq_true rfl) ⟨(Nat.le_of_ble_eq_true rfl), (Nat.le_of_ble_eq_true rfl)⟩ dX11_speed_2 (fun H locs G => ?_)
  obtain ⟨q4, hsp⟩ := hk_k hsp
  refine hk_getI F9 G q4 hkc_7 (k := 1) (by decide) qw_84 rfl dX11_speed_5 ?_
  obtain rfl := hk_s hsp
  exact vx_ret (W.widen (k := 1) (n := 6) (Nat.le_of_ble_eq_true rfl) (Nat.le_of_ble_eq_true rfl) (W.iret (v := (r1.2 r1.1 1)) hx hb hr (fun t ht hW => ⟨_, rfl, hk_end G ht hW⟩) G.2.1.2.2 dX11_speed_8))
def mX11_isUpwards (E : hk_E) (F : Nat) (S : hk_S) (a0 : Nat) (x1 : Int32) : Option (Sum (Nat × hk_S) (Int32 × hk_S)) :=
hk_xb (mX11_existingTrough E F S a0 x1) (fun r1 => if E.2.1 r1.1 = 8 then (if (r1.2 r1.1 2) = 0 ∨ (r1.2 r1.1 2) = 1 then (some (.inr (((r1.2 r1.1 2), r1.2)))) else none) else none)
set_option maxHeartbeats 4000000 in
set_option maxRecDepth 100000 in
theorem kX11_isUpwards (l : Launch) (hst : l.stackTraces = false) (g : hk_G) (E : hk_E) (F n : Nat) (S : hk_S) (a0 : Nat) (x1 : Int32) (o : Sum (Nat × hk_S) (Int32 × hk_S)) (h0 : E.2.1 a0 = 9) (hsp : mX11_isUpwards E F S a0 x1 = some o) : vx_Met l yX11_isUpwards (hk_ws yX11_isUpwards cX11_isUpwards 2 (Option.some Jvm.ClassFile.FieldType.boolean)) ({ frames := 7, cells := 1, slots := 6, locals := 103 }) (hk_Pc g E S n [.ref (g.1 + a0), .int x1]) (hk_XQ g E n o (fun x => x.2) (fun x => some (.int x.1))) (hk_XX g E o) 1 6 (hk_A g) := by
  refine vx_ofW (cc := cX11_isUpwards) (maxL := 2) (ret := (Option.some Jvm.ClassFile.FieldType.boolean)) (by decide) rfl ?_
  intro p e s m args below meth c s₁ B hml ht hv
  obtain ⟨rfl, G⟩ := hk_begin hv
  have F9 : CallFix p m c cX11_isUpwards 2 s [.ref (g.1 + a0), .int x1].toArray hk_W RX11 := ⟨B.exec, B.bytes, hml, findClass_of_methodNamed B.named, fun w h => atoms_spec (ws := hk_ws yX11_isUpwards cX11_isUpwards 2 (Option.some Jvm.ClassFile.FieldType.boolean)) B.pre w (hk_in h)⟩
  have hx := B.exec
  have hb := B.bytes
  have hr := B.returns
  have hlocks := B.notSynchronized
  have hl := lv_entry ([.ref (g.1 + a0), .int x1]) (n := 2) (Nat.le_of_ble_eq_true rfl)
  rw [lg_entry_eq]
  generalize (lg_sl ([.ref (g.1 + a0), .int x1]) ++ List.replicate (2 - (lg_sl ([.ref (g.1 + a0), .int x1])).length) Slot.unset).toArray = ls at hl ⊢
  have hl : lv_has ls 2 [(0, .ref (g.1 + a0)), (1, .int x1)] := hl
  unfold mX11_isUpwards at hsp
  have G : hk_GG g E S n s s.heap [] := G
  refine lv_aload_n hx hb dX11_isUpwards_0 rfl (lv_at hl 0 rfl) ?_
  refine lv_iload_n hx hb dX11_isUpwards_1 rfl (lv_at hl 1 rfl) ?_
  rcases hk_xe hsp with ⟨k2, T3, er1, rfl⟩ | ⟨r1, er1, hsp⟩
  · exact hk_xVt (As := [.int x1]) (rest := []) F9 G h0 hkc_8 rfl (kX11_existingTrough l hst g E F n S a0 x1 _ h0 er1) qv_RX11_124 ⟨rfl, rfl, (Nat.le_of_ble_eq_true rfl), (Nat.le_of_ble_eq_true rfl)⟩ rfl hl.1 rfl (Nat.le_of_ble_eq_true rfl) ⟨(Nat.le_of_ble_eq_true rfl), (Nat.le_of_ble_eq_true rfl)⟩ dX11_isUpwards_2 ht hlocks ⟨(Nat.le_of_ble_eq_true rfl), (Nat.le_of_ble_eq_true rfl)⟩
  refine hk_xVr (As := [.int x1]) (rest := []) F9 G h0 hkc_8 rfl (kX11_existingTrough l hst g E F n S a0 x1 _ h0 er1) qv_RX11_124 ⟨rfl, rfl, (Nat.le_of_ble_eq_true rfl), (Nat.le_of_ble_eq_true rfl)⟩ rfl hl.1 rfl (Nat.le_of_ble_eq_true rfl) ⟨(Nat.le_of_ble_eq_true rfl), (Nat.le_of_ble_eq_true rfl)⟩ dX11_isUpwards_2 (fun H locs G => ?_)
  obtain ⟨q4, hsp⟩ := hk_k hsp
  refine hk_getI F9 G q4 hkc_7 (k := 2) (by decide) qw_88 rfl dX11_isUpwards_5 ?_
  obtain ⟨q5, hsp⟩ := hk_k hsp
  obtain rfl := hk_s hsp
  exact vx_ret (W.widen (k := 1) (n := 6) (Nat.le_of_ble_eq_true rfl) (Nat.le_of_ble_eq_true rfl) (W.zret (v := (r1.2 r1.1 2)) hx hb hr (hk_z q5).1 (fun t ht hW => ⟨_, rfl, hk_end G ht hW⟩) G.2.1.2.2 dX11_isUpwards_8))
def mX11_moisture (E : hk_E) (F : Nat) (S : hk_S) (a0 : Nat) (x1 : Int32) (x2 : Int32) : Option (Sum (Nat × hk_S) (Int32 × hk_S)) :=
hk_xb (mX11_existingTrough E F S a0 x1) (fun r1 => if E.2.1 r1.1 = 8 then (hk_xb (mX11_requireRange E F r1.2 x2 0 1) (fun r5 => (mX10_hasLeaf E F r5 r1.1).bind (fun r8 => if r8.1 = 0 then (some (.inr (((-1), r8.2)))) else ((mX10_moistureOf E F r8.2 r1.1 x2).bind (fun r10 => some (.inr ((r10.1, r10.2)))))))) else none)
set_option maxHeartbeats 4000000 in
set_option maxRecDepth 100000 in
theorem kX11_moisture (l : Launch) (hst : l.stackTraces = false) (g : hk_G) (E : hk_E) (F n : Nat) (S : hk_S) (a0 : Nat) (x1 : Int32) (x2 : Int32) (o : Sum (Nat × hk_S) (Int32 × hk_S)) (h0 : E.2.1 a0 = 9) (hsp : mX11_moisture E F S a0 x1 x2 = some o) : vx_Met l yX11_moisture (hk_ws yX11_moisture cX11_moisture 4 (Option.some Jvm.ClassFile.FieldType.int)) ({ frames := 7, cells := 2, slots := 12, locals := 104 }) (hk_Pc g E S n [.ref (g.1 + a0), .int x1, .int x2]) (hk_XQ g E n o (fun x => x.2) (fun x => some (.int x.1))) (hk_XX g E o) 2 12 (hk_A g) := by
  refine vx_ofW (cc := cX11_moisture) (maxL := 4) (ret := (Option.some Jvm.ClassFile.FieldType.int)) (by decide) rfl ?_
  intro p e s m args below meth c s₁ B hml ht hv
  obtain ⟨rfl, G⟩ := hk_begin hv
  have F9 : CallFix p m c cX11_moisture 4 s [.ref (g.1 + a0), .int x1, .int x2].toArray hk_W RX11 := ⟨B.exec, B.bytes, hml, findClass_of_methodNamed B.named, fun w h => atoms_spec (ws := hk_ws yX11_moisture cX11_moisture 4 (Option.some Jvm.ClassFile.FieldType.int)) B.pre w (hk_in h)⟩
  have hx := B.exec
  have hb := B.bytes
  have hr := B.returns
  have hlocks := B.notSynchronized
  have hl := lv_entry ([.ref (g.1 + a0), .int x1, .int x2]) (n := 4) (Nat.le_of_ble_eq_true rfl)
  rw [lg_entry_eq]
  generalize (lg_sl ([.ref (g.1 + a0), .int x1, .int x2]) ++ List.replicate (4 - (lg_sl ([.ref (g.1 + a0), .int x1, .int x2])).length) Slot.unset).toArray = ls at hl ⊢
  have hl : lv_has ls 4 [(0, .ref (g.1 + a0)), (1, .int x1), (2, .int x2)] := hl
  unfold mX11_moisture at hsp
  have G : hk_GG g E S n s s.heap [] := G
  refine lv_aload_n hx hb dX11_moisture_0 rfl (lv_at hl 0 rfl) ?_
  refine lv_iload_n hx hb dX11_moisture_1 rfl (lv_at hl 1 rfl) ?_
  rcases hk_xe hsp with ⟨k2, T3, er1, rfl⟩ | ⟨r1, er1, hsp⟩
  · exact hk_xVt (As := [.int x1]) (rest := []) F9 G h0 hkc_8 rfl (kX11_existingTrough l hst g E F n S a0 x1 _ h0 er1) qv_RX11_124 ⟨rfl, rfl, (Nat.le_of_ble_eq_true rfl), (Nat.le_of_ble_eq_true rfl)⟩ rfl hl.1 rfl (Nat.le_of_ble_eq_true rfl) ⟨(Nat.le_of_ble_eq_true rfl), (Nat.le_of_ble_eq_true rfl)⟩ dX11_moisture_2 ht hlocks ⟨(Nat.le_of_ble_eq_true rfl), (Nat.le_of_ble_eq_true rfl)⟩
  refine hk_xVr (As := [.int x1]) (rest := []) F9 G h0 hkc_8 rfl (kX11_existingTrough l hst g E F n S a0 x1 _ h0 er1) qv_RX11_124 ⟨rfl, rfl, (Nat.le_of_ble_eq_true rfl), (Nat.le_of_ble_eq_true rfl)⟩ rfl hl.1 rfl (Nat.le_of_ble_eq_true rfl) ⟨(Nat.le_of_ble_eq_true rfl), (Nat.le_of_ble_eq_true rfl)⟩ dX11_moisture_2 (fun H locs G => ?_)
  obtain ⟨q4, hsp⟩ := hk_k hsp
  refine lv_astore_n (lv' := [(3, .ref (g.1 + r1.1)), (0, .ref (g.1 + a0)), (1, .int x1), (2, .int x2)]) hx hb dX11_moisture_5 rfl hl (by decide) rfl (fun ls hl => ?_)
  refine lv_iload_n hx hb dX11_moisture_6 rfl (lv_at hl 3 rfl) ?_
  refine lv_iconst (v := 0) hx hb dX11_moisture_7 (by decide) ?_
  refine lv_iconst (v := 1) hx hb dX11_moisture_8 (by decide) ?_
  rcases hk_xe hsp with ⟨k6, T7, er5, rfl⟩ | ⟨r5, er5, hsp⟩
  · exact hk_xSt (As := [.int x2, .int 0, .int 1]) (rest := []) F9 G (kX11_requireRange l hst g E F n r1.2 x2 0 1 _  er5) qv_RX11_96 ⟨rfl, rfl, (Nat.le_of_ble_eq_true rfl), (Nat.le_of_ble_eq_true rfl)⟩ rfl hl.1 rfl (Nat.le_of_ble_eq_true rfl) ⟨(Nat.le_of_ble_eq_true rfl), (Nat.le_of_ble_eq_true rfl)⟩ dX11_moisture_9 ht hlocks ⟨(Nat.le_of_ble_eq_true rfl), (Nat.le_of_ble_eq_true rfl)⟩
  refine hk_xSv (As := [.int x2, .int 0, .int 1]) (rest := []) F9 G (kX11_requireRange l hst g E F n r1.2 x2 0 1 _  er5) qv_RX11_96 ⟨rfl, rfl, (Nat.le_of_ble_eq_true rfl), (Nat.le_of_ble_eq_true rfl)⟩ rfl hl.1 rfl (Nat.le_of_ble_eq_true rfl) ⟨(Nat.le_of_ble_eq_true rfl), (Nat.le_of_ble_eq_true rfl)⟩ dX11_moisture_9 (fun H locs G => ?_)
  refine lv_aload_n hx hb dX11_moisture_12 rfl (lv_at hl 0 rfl) ?_
  obtain ⟨r8, er8, hsp⟩ := hk_b hsp
  refine hk_callVi (As := []) (rest := []) F9 G q4 hkc_7 rfl (kX10_hasLeaf l g E F n r5 r1.1 r8 q4 er8) qv_RX11_130 ⟨rfl, rfl, (Nat.le_of_ble_eq_true rfl), (Nat.le_of_ble_eq_true rfl)⟩ rfl hl.1 rfl (Nat.le_of_ble_eq_true rfl) ⟨(Nat.le_of_ble_eq_true rfl), (Nat.le_of_ble_eq_true rfl)⟩ dX11_moisture_13 (fun H locs G => ?_)
  refine lv_if_eq (tgt := 27) hx hb dX11_moisture_16 (by decide) (fun c9 => ?_) (fun c9 => ?_)
  · have hsp := hk_t c9 hsp
    refine lv_iconst (v := (-1)) hx hb dX11_moisture_27 (by decide) ?_
    obtain rfl := hk_s hsp
    exact vx_ret (W.widen (k := 2) (n := 12) (Nat.le_of_ble_eq_true rfl) (Nat.le_of_ble_eq_true rfl) (W.iret (v := (-1)) hx hb hr (fun t ht hW => ⟨_, rfl, hk_end G ht hW⟩) G.2.1.2.2 dX11_moisture_28))
  · have hsp := hk_f c9 hsp
    refine lv_aload_n hx hb dX11_moisture_19 rfl (lv_at hl 0 rfl) ?_
    refine lv_iload_n hx hb dX11_moisture_20 rfl (lv_at hl 3 rfl) ?_
    obtain ⟨r10, er10, hsp⟩ := hk_b hsp
    refine hk_callVi (As := [.int x2]) (rest := []) F9 G q4 hkc_7 rfl (kX10_moistureOf l g E F n r8.2 r1.1 x2 r10 q4 er10) qv_RX11_245 ⟨rfl, rfl, (Nat.le_of_ble_eq_true rfl), (Nat.le_of_ble_eq_true rfl)⟩ rfl hl.1 rfl (Nat.le_of_ble_eq_true rfl) ⟨(Nat.le_of_ble_eq_true rfl), (Nat.le_of_ble_eq_true rfl)⟩ dX11_moisture_21 (fun H locs G => ?_)
    refine lv_goto (tgt := 28) hx hb dX11_moisture_24 (by decide) ?_
    obtain rfl := hk_s hsp
    exact vx_ret (W.widen (k := 2) (n := 12) (Nat.le_of_ble_eq_true rfl) (Nat.le_of_ble_eq_true rfl) (W.iret (v := r10.1) hx hb hr (fun t ht hW => ⟨_, rfl, hk_end G ht hW⟩) G.2.1.2.2 dX11_moisture_28))
def mX11_spread (E : hk_E) (F : Nat) (S : hk_S) (a0 : Nat) (x1 : Int32) : Option (Sum (Nat × hk_S) (Int32 × hk_S)) :=
hk_xb (mX11_existingTrough E F S a0 x1) (fun r1 => if E.2.1 r1.1 = 8 then ((mX10_hasLeaf E F r1.2 r1.1).bind (fun r5 => if r5.1 = 0 then (some (.inr (((-1), r5.2)))) else ((mX10_gap E F r5.2 r1.1).bind (fun r7 => some (.inr ((r7.1, r7.2))))))) else none)
set_option maxHeartbeats 4000000 in
set_option maxRecDepth 100000 in
theorem kX11_spread (l : Launch) (hst : l.stackTraces = false) (g : hk_G) (E : hk_E) (F n : Nat) (S : hk_S) (a0 : Nat) (x1 : Int32) (o : Sum (Nat × hk_S) (Int32 × hk_S)) (h0 : E.2.1 a0 = 9) (hsp : mX11_spread E F S a0 x1 = some o) : vx_Met l yX11_spread (hk_ws yX11_spread cX11_spread 3 (Option.some Jvm.ClassFile.FieldType.int)) ({ frames := 7, cells := 1, slots := 6, locals := 103 }) (hk_Pc g E S n [.ref (g.1 + a0), .int x1]) (hk_XQ g E n o (fun x => x.2) (fun x => some (.int x.1))) (hk_XX g E o) 1 6 (hk_A g) := by
  refine vx_ofW (cc := cX11_spread) (maxL := 3) (ret := (Option.some Jvm.ClassFile.FieldType.int)) (by decide) rfl ?_
  intro p e s m args below meth c s₁ B hml ht hv
  obtain ⟨rfl, G⟩ := hk_begin hv
  have F9 : CallFix p m c cX11_spread 3 s [.ref (g.1 + a0), .int x1].toArray hk_W RX11 := ⟨B.exec, B.bytes, hml, findClass_of_methodNamed B.named, fun w h => atoms_spec (ws := hk_ws yX11_spread cX11_spread 3 (Option.some Jvm.ClassFile.FieldType.int)) B.pre w (hk_in h)⟩
  have hx := B.exec
  have hb := B.bytes
  have hr := B.returns
  have hlocks := B.notSynchronized
  have hl := lv_entry ([.ref (g.1 + a0), .int x1]) (n := 3) (Nat.le_of_ble_eq_true rfl)
  rw [lg_entry_eq]
  generalize (lg_sl ([.ref (g.1 + a0), .int x1]) ++ List.replicate (3 - (lg_sl ([.ref (g.1 + a0), .int x1])).length) Slot.unset).toArray = ls at hl ⊢
  have hl : lv_has ls 3 [(0, .ref (g.1 + a0)), (1, .int x1)] := hl
  unfold mX11_spread at hsp
  have G : hk_GG g E S n s s.heap [] := G
  refine lv_aload_n hx hb dX11_spread_0 rfl (lv_at hl 0 rfl) ?_
  refine lv_iload_n hx hb dX11_spread_1 rfl (lv_at hl 1 rfl) ?_
  rcases hk_xe hsp with ⟨k2, T3, er1, rfl⟩ | ⟨r1, er1, hsp⟩
  · exact hk_xVt (As := [.int x1]) (rest := []) F9 G h0 hkc_8 rfl (kX11_existingTrough l hst g E F n S a0 x1 _ h0 er1) qv_RX11_124 ⟨rfl, rfl, (Nat.le_of_ble_eq_true rfl), (Nat.le_of_ble_eq_true rfl)⟩ rfl hl.1 rfl (Nat.le_of_ble_eq_true rfl) ⟨(Nat.le_of_ble_eq_true rfl), (Nat.le_of_ble_eq_true rfl)⟩ dX11_spread_2 ht hlocks ⟨(Nat.le_of_ble_eq_true rfl), (Nat.le_of_ble_eq_true rfl)⟩
  refine hk_xVr (As := [.int x1]) (rest := []) F9 G h0 hkc_8 rfl (kX11_existingTrough l hst g E F n S a0 x1 _ h0 er1) qv_RX11_124 ⟨rfl, rfl, (Nat.le_of_ble_eq_true rfl), (Nat.le_of_ble_eq_true rfl)⟩ rfl hl.1 rfl (Nat.le_of_ble_eq_true rfl) ⟨(Nat.le_of_ble_eq_true rfl), (Nat.le_of_ble_eq_true rfl)⟩ dX11_spread_2 (fun H locs G => ?_)
  obtain ⟨q4, hsp⟩ := hk_k hsp
  refine lv_astore_n (lv' := [(2, .ref (g.1 + r1.1)), (0, .ref (g.1 + a0)), (1, .int x1)]) hx hb dX11_spread_5 rfl hl (by decide) rfl (fun ls hl => ?_)
  refine lv_aload_n hx hb dX11_spread_6 rfl (lv_at hl 0 rfl) ?_
  obtain ⟨r5, er5, hsp⟩ := hk_b hsp
  refine hk_callVi (As := []) (rest := []) F9 G q4 hkc_7 rfl (kX10_hasLeaf l g E F n r1.2 r1.1 r5 q4 er5) qv_RX11_130 ⟨rfl, rfl, (Nat.le_of_ble_eq_true rfl), (Nat.le_of_ble_eq_true rfl)⟩ rfl hl.1 rfl (Nat.le_of_ble_eq_true rfl) ⟨(Nat.le_of_ble_eq_true rfl), (Nat.le_of_ble_eq_true rfl)⟩ dX11_spread_7 (fun H locs G => ?_)
  refine lv_if_eq (tgt := 20) hx hb dX11_spread_10 (by decide) (fun c6 => ?_) (fun c6 => ?_)
  · have hsp := hk_t c6 hsp
    refine lv_iconst (v := (-1)) hx hb dX11_spread_20 (by decide) ?_
    obtain rfl := hk_s hsp
    exact vx_ret (W.widen (k := 1) (n := 6) (Nat.le_of_ble_eq_true rfl) (Nat.le_of_ble_eq_true rfl) (W.iret (v := (-1)) hx hb hr (fun t ht hW => ⟨_, rfl, hk_end G ht hW⟩) G.2.1.2.2 dX11_spread_21))
  · have hsp := hk_f c6 hsp
    refine lv_aload_n hx hb dX11_spread_13 rfl (lv_at hl 0 rfl) ?_
    obtain ⟨r7, er7, hsp⟩ := hk_b hsp
    refine hk_callVi (As := []) (rest := []) F9 G q4 hkc_7 rfl (kX10_gap l g E F n r5.2 r1.1 r7 q4 er7) qv_RX11_248 ⟨rfl, rfl, (Nat.le_of_ble_eq_true rfl), (Nat.le_of_ble_eq_true rfl)⟩ rfl hl.1 rfl (Nat.le_of_ble_eq_true rfl) ⟨(Nat.le_of_ble_eq_true rfl), (Nat.le_of_ble_eq_true rfl)⟩ dX11_spread_14 (fun H locs G => ?_)
    refine lv_goto (tgt := 21) hx hb dX11_spread_17 (by decide) ?_
    obtain rfl := hk_s hsp
    exact vx_ret (W.widen (k := 1) (n := 6) (Nat.le_of_ble_eq_true rfl) (Nat.le_of_ble_eq_true rfl) (W.iret (v := r7.1) hx hb hr (fun t ht hW => ⟨_, rfl, hk_end G ht hW⟩) G.2.1.2.2 dX11_spread_21))
def mX11_warmth (E : hk_E) (F : Nat) (S : hk_S) (a0 : Nat) (x1 : Int32) : Option (Sum (Nat × hk_S) (Int32 × hk_S)) :=
hk_xb (mX11_existingTrough E F S a0 x1) (fun r1 => if E.2.1 r1.1 = 8 then ((mX10_hasLeaf E F r1.2 r1.1).bind (fun r5 => if r5.1 = 0 then (some (.inr (((-1), r5.2)))) else (some (.inr (((r5.2 r1.1 8), r5.2)))))) else none)
set_option maxHeartbeats 4000000 in
set_option maxRecDepth 100000 in
theorem kX11_warmth (l : Launch) (hst : l.stackTraces = false) (g : hk_G) (E : hk_E) (F n : Nat) (S : hk_S) (a0 : Nat) (x1 : Int32) (o : Sum (Nat × hk_S) (Int32 × hk_S)) (h0 : E.2.1 a0 = 9) (hsp : mX11_warmth E F S a0 x1 = some o) : vx_Met l yX11_warmth (hk_ws yX11_warmth cX11_warmth 3 (Option.some Jvm.ClassFile.FieldType.int)) ({ frames := 7, cells := 1, slots := 6, locals := 103 }) (hk_Pc g E S n [.ref (g.1 + a0), .int x1]) (hk_XQ g E n o (fun x => x.2) (fun x => some (.int x.1))) (hk_XX g E o) 1 6 (hk_A g) := by
  refine vx_ofW (cc := cX11_warmth) (maxL := 3) (ret := (Option.some Jvm.ClassFile.FieldType.int)) (by decide) rfl ?_
  intro p e s m args below meth c s₁ B hml ht hv
  obtain ⟨rfl, G⟩ := hk_begin hv
  have F9 : CallFix p m c cX11_warmth 3 s [.ref (g.1 + a0), .int x1].toArray hk_W RX11 := ⟨B.exec, B.bytes, hml, findClass_of_methodNamed B.named, fun w h => atoms_spec (ws := hk_ws yX11_warmth cX11_warmth 3 (Option.some Jvm.ClassFile.FieldType.int)) B.pre w (hk_in h)⟩
  have hx := B.exec
  have hb := B.bytes
  have hr := B.returns
  have hlocks := B.notSynchronized
  have hl := lv_entry ([.ref (g.1 + a0), .int x1]) (n := 3) (Nat.le_of_ble_eq_true rfl)
  rw [lg_entry_eq]
  generalize (lg_sl ([.ref (g.1 + a0), .int x1]) ++ List.replicate (3 - (lg_sl ([.ref (g.1 + a0), .int x1])).length) Slot.unset).toArray = ls at hl ⊢
  have hl : lv_has ls 3 [(0, .ref (g.1 + a0)), (1, .int x1)] := hl
  unfold mX11_warmth at hsp
  have G : hk_GG g E S n s s.heap [] := G
  refine lv_aload_n hx hb dX11_warmth_0 rfl (lv_at hl 0 rfl) ?_
  refine lv_iload_n hx hb dX11_warmth_1 rfl (lv_at hl 1 rfl) ?_
  rcases hk_xe hsp with ⟨k2, T3, er1, rfl⟩ | ⟨r1, er1, hsp⟩
  · exact hk_xVt (As := [.int x1]) (rest := []) F9 G h0 hkc_8 rfl (kX11_existingTrough l hst g E F n S a0 x1 _ h0 er1) qv_RX11_124 ⟨rfl, rfl, (Nat.le_of_ble_eq_true rfl), (Nat.le_of_ble_eq_true rfl)⟩ rfl hl.1 rfl (Nat.le_of_ble_eq_true rfl) ⟨(Nat.le_of_ble_eq_true rfl), (Nat.le_of_ble_eq_true rfl)⟩ dX11_warmth_2 ht hlocks ⟨(Nat.le_of_ble_eq_true rfl), (Nat.le_of_ble_eq_true rfl)⟩
  refine hk_xVr (As := [.int x1]) (rest := []) F9 G h0 hkc_8 rfl (kX11_existingTrough l hst g E F n S a0 x1 _ h0 er1) qv_RX11_124 ⟨rfl, rfl, (Nat.le_of_ble_eq_true rfl), (Nat.le_of_ble_eq_true rfl)⟩ rfl hl.1 rfl (Nat.le_of_ble_eq_true rfl) ⟨(Nat.le_of_ble_eq_true rfl), (Nat.le_of_ble_eq_true rfl)⟩ dX11_warmth_2 (fun H locs G => ?_)
  obtain ⟨q4, hsp⟩ := hk_k hsp
  refine lv_astore_n (lv' := [(2, .ref (g.1 + r1.1)), (0, .ref (g.1 + a0)), (1, .int x1)]) hx hb dX11_warmth_5 rfl hl (by decide) rfl (fun ls hl => ?_)
  refine lv_aload_n hx hb dX11_warmth_6 rfl (lv_at hl 0 rfl) ?_
  obtain ⟨r5, er5, hsp⟩ := hk_b hsp
  refine hk_callVi (As := []) (rest := []) F9 G q4 hkc_7 rfl (kX10_hasLeaf l g E F n r1.2 r1.1 r5 q4 er5) qv_RX11_130 ⟨rfl, rfl, (Nat.le_of_ble_eq_true rfl), (Nat.le_of_ble_eq_true rfl)⟩ rfl hl.1 rfl (Nat.le_of_ble_eq_true rfl) ⟨(Nat.le_of_ble_eq_true rfl), (Nat.le_of_ble_eq_true rfl)⟩ dX11_warmth_7 (fun H locs G => ?_)
  refine lv_if_eq (tgt := 20) hx hb dX11_warmth_10 (by decide) (fun c6 => ?_) (fun c6 => ?_)
  · have hsp := hk_t c6 hsp
    refine lv_iconst (v := (-1)) hx hb dX11_warmth_20 (by decide) ?_
    obtain rfl := hk_s hsp
    exact vx_ret (W.widen (k := 1) (n := 6) (Nat.le_of_ble_eq_true rfl) (Nat.le_of_ble_eq_true rfl) (W.iret (v := (-1)) hx hb hr (fun t ht hW => ⟨_, rfl, hk_end G ht hW⟩) G.2.1.2.2 dX11_warmth_21))
  · have hsp := hk_f c6 hsp
    refine lv_aload_n hx hb dX11_warmth_13 rfl (lv_at hl 0 rfl) ?_
    refine hk_getI F9 G q4 hkc_7 (k := 8) (by decide) qw_109 rfl dX11_warmth_14 ?_
    refine lv_goto (tgt := 21) hx hb dX11_warmth_17 (by decide) ?_
    obtain rfl := hk_s hsp
    exact vx_ret (W.widen (k := 1) (n := 6) (Nat.le_of_ble_eq_true rfl) (Nat.le_of_ble_eq_true rfl) (W.iret (v := (r5.2 r1.1 8)) hx hb hr (fun t ht hW => ⟨_, rfl, hk_end G ht hW⟩) G.2.1.2.2 dX11_warmth_21))
def mX11_damage (E : hk_E) (F : Nat) (S : hk_S) (a0 : Nat) (x1 : Int32) : Option (Sum (Nat × hk_S) (Int32 × hk_S)) :=
hk_xb (mX11_existingTrough E F S a0 x1) (fun r1 => if E.2.1 r1.1 = 8 then ((mX10_hasLeaf E F r1.2 r1.1).bind (fun r5 => if r5.1 = 0 then (some (.inr (((-1), r5.2)))) else (some (.inr (((r5.2 r1.1 9), r5.2)))))) else none)
set_option maxHeartbeats 4000000 in
set_option maxRecDepth 100000 in
theorem kX11_damage (l : Launch) (hst : l.stackTraces = false) (g : hk_G) (E : hk_E) (F n : Nat) (S : hk_S) (a0 : Nat) (x1 : Int32) (o : Sum (Nat × hk_S) (Int32 × hk_S)) (h0 : E.2.1 a0 = 9) (hsp : mX11_damage E F S a0 x1 = some o) : vx_Met l yX11_damage (hk_ws yX11_damage cX11_damage 3 (Option.some Jvm.ClassFile.FieldType.int)) ({ frames := 7, cells := 1, slots := 6, locals := 103 }) (hk_Pc g E S n [.ref (g.1 + a0), .int x1]) (hk_XQ g E n o (fun x => x.2) (fun x => some (.int x.1))) (hk_XX g E o) 1 6 (hk_A g) := by
  refine vx_ofW (cc := cX11_damage) (maxL := 3) (ret := (Option.some Jvm.ClassFile.FieldType.int)) (by decide) rfl ?_
  intro p e s m args below meth c s₁ B hml ht hv
  obtain ⟨rfl, G⟩ := hk_begin hv
  have F9 : CallFix p m c cX11_damage 3 s [.ref (g.1 + a0), .int x1].toArray hk_W RX11 := ⟨B.exec, B.bytes, hml, findClass_of_methodNamed B.named, fun w h => atoms_spec (ws := hk_ws yX11_damage cX11_damage 3 (Option.some Jvm.ClassFile.FieldType.int)) B.pre w (hk_in h)⟩
  have hx := B.exec
  have hb := B.bytes
  have hr := B.returns
  have hlocks := B.notSynchronized
  have hl := lv_entry ([.ref (g.1 + a0), .int x1]) (n := 3) (Nat.le_of_ble_eq_true rfl)
  rw [lg_entry_eq]
  generalize (lg_sl ([.ref (g.1 + a0), .int x1]) ++ List.replicate (3 - (lg_sl ([.ref (g.1 + a0), .int x1])).length) Slot.unset).toArray = ls at hl ⊢
  have hl : lv_has ls 3 [(0, .ref (g.1 + a0)), (1, .int x1)] := hl
  unfold mX11_damage at hsp
  have G : hk_GG g E S n s s.heap [] := G
  refine lv_aload_n hx hb dX11_damage_0 rfl (lv_at hl 0 rfl) ?_
  refine lv_iload_n hx hb dX11_damage_1 rfl (lv_at hl 1 rfl) ?_
  rcases hk_xe hsp with ⟨k2, T3, er1, rfl⟩ | ⟨r1, er1, hsp⟩
  · exact hk_xVt (As := [.int x1]) (rest := []) F9 G h0 hkc_8 rfl (kX11_existingTrough l hst g E F n S a0 x1 _ h0 er1) qv_RX11_124 ⟨rfl, rfl, (Nat.le_of_ble_eq_true rfl), (Nat.le_of_ble_eq_true rfl)⟩ rfl hl.1 rfl (Nat.le_of_ble_eq_true rfl) ⟨(Nat.le_of_ble_eq_true rfl), (Nat.le_of_ble_eq_true rfl)⟩ dX11_damage_2 ht hlocks ⟨(Nat.le_of_ble_eq_true rfl), (Nat.le_of_ble_eq_true rfl)⟩
  refine hk_xVr (As := [.int x1]) (rest := []) F9 G h0 hkc_8 rfl (kX11_existingTrough l hst g E F n S a0 x1 _ h0 er1) qv_RX11_124 ⟨rfl, rfl, (Nat.le_of_ble_eq_true rfl), (Nat.le_of_ble_eq_true rfl)⟩ rfl hl.1 rfl (Nat.le_of_ble_eq_true rfl) ⟨(Nat.le_of_ble_eq_true rfl), (Nat.le_of_ble_eq_true rfl)⟩ dX11_damage_2 (fun H locs G => ?_)
  obtain ⟨q4, hsp⟩ := hk_k hsp
  refine lv_astore_n (lv' := [(2, .ref (g.1 + r1.1)), (0, .ref (g.1 + a0)), (1, .int x1)]) hx hb dX11_damage_5 rfl hl (by decide) rfl (fun ls hl => ?_)
  refine lv_aload_n hx hb dX11_damage_6 rfl (lv_at hl 0 rfl) ?_
  obtain ⟨r5, er5, hsp⟩ := hk_b hsp
  refine hk_callVi (As := []) (rest := []) F9 G q4 hkc_7 rfl (kX10_hasLeaf l g E F n r1.2 r1.1 r5 q4 er5) qv_RX11_130 ⟨rfl, rfl, (Nat.le_of_ble_eq_true rfl), (Nat.le_of_ble_eq_true rfl)⟩ rfl hl.1 rfl (Nat.le_of_ble_eq_true rfl) ⟨(Nat.le_of_ble_eq_true rfl), (Nat.le_of_ble_eq_true rfl)⟩ dX11_damage_7 (fun H locs G => ?_)
  refine lv_if_eq (tgt := 20) hx hb dX11_damage_10 (by decide) (fun c6 => ?_) (fun c6 => ?_)
  · have hsp := hk_t c6 hsp
    refine lv_iconst (v := (-1)) hx hb dX11_damage_20 (by decide) ?_
    obtain rfl := hk_s hsp
    exact vx_ret (W.widen (k := 1) (n := 6) (Nat.le_of_ble_eq_true rfl) (Nat.le_of_ble_eq_true rfl) (W.iret (v := (-1)) hx hb hr (fun t ht hW => ⟨_, rfl, hk_end G ht hW⟩) G.2.1.2.2 dX11_damage_21))
  · have hsp := hk_f c6 hsp
    refine lv_aload_n hx hb dX11_damage_13 rfl (lv_at hl 0 rfl) ?_
    refine hk_getI F9 G q4 hkc_7 (k := 9) (by decide) qw_111 rfl dX11_damage_14 ?_
    refine lv_goto (tgt := 21) hx hb dX11_damage_17 (by decide) ?_
    obtain rfl := hk_s hsp
    exact vx_ret (W.widen (k := 1) (n := 6) (Nat.le_of_ble_eq_true rfl) (Nat.le_of_ble_eq_true rfl) (W.iret (v := (r5.2 r1.1 9)) hx hb hr (fun t ht hW => ⟨_, rfl, hk_end G ht hW⟩) G.2.1.2.2 dX11_damage_21))
def mX11_marks (E : hk_E) (F : Nat) (S : hk_S) (a0 : Nat) (x1 : Int32) : Option (Sum (Nat × hk_S) (Int32 × hk_S)) :=
hk_xb (mX11_existingTrough E F S a0 x1) (fun r1 => if E.2.1 r1.1 = 8 then ((mX10_hasLeaf E F r1.2 r1.1).bind (fun r5 => if r5.1 = 0 then (some (.inr (((-1), r5.2)))) else ((mX10_quality E F r5.2 r1.1).bind (fun r7 => some (.inr ((r7.1, r7.2))))))) else none)
set_option maxHeartbeats 4000000 in
set_option maxRecDepth 100000 in
theorem kX11_marks (l : Launch) (hst : l.stackTraces = false) (g : hk_G) (E : hk_E) (F n : Nat) (S : hk_S) (a0 : Nat) (x1 : Int32) (o : Sum (Nat × hk_S) (Int32 × hk_S)) (h0 : E.2.1 a0 = 9) (hsp : mX11_marks E F S a0 x1 = some o) : vx_Met l yX11_marks (hk_ws yX11_marks cX11_marks 3 (Option.some Jvm.ClassFile.FieldType.int)) ({ frames := 7, cells := 1, slots := 6, locals := 103 }) (hk_Pc g E S n [.ref (g.1 + a0), .int x1]) (hk_XQ g E n o (fun x => x.2) (fun x => some (.int x.1))) (hk_XX g E o) 1 6 (hk_A g) := by
  refine vx_ofW (cc := cX11_marks) (maxL := 3) (ret := (Option.some Jvm.ClassFile.FieldType.int)) (by decide) rfl ?_
  intro p e s m args below meth c s₁ B hml ht hv
  obtain ⟨rfl, G⟩ := hk_begin hv
  have F9 : CallFix p m c cX11_marks 3 s [.ref (g.1 + a0), .int x1].toArray hk_W RX11 := ⟨B.exec, B.bytes, hml, findClass_of_methodNamed B.named, fun w h => atoms_spec (ws := hk_ws yX11_marks cX11_marks 3 (Option.some Jvm.ClassFile.FieldType.int)) B.pre w (hk_in h)⟩
  have hx := B.exec
  have hb := B.bytes
  have hr := B.returns
  have hlocks := B.notSynchronized
  have hl := lv_entry ([.ref (g.1 + a0), .int x1]) (n := 3) (Nat.le_of_ble_eq_true rfl)
  rw [lg_entry_eq]
  generalize (lg_sl ([.ref (g.1 + a0), .int x1]) ++ List.replicate (3 - (lg_sl ([.ref (g.1 + a0), .int x1])).length) Slot.unset).toArray = ls at hl ⊢
  have hl : lv_has ls 3 [(0, .ref (g.1 + a0)), (1, .int x1)] := hl
  unfold mX11_marks at hsp
  have G : hk_GG g E S n s s.heap [] := G
  refine lv_aload_n hx hb dX11_marks_0 rfl (lv_at hl 0 rfl) ?_
  refine lv_iload_n hx hb dX11_marks_1 rfl (lv_at hl 1 rfl) ?_
  rcases hk_xe hsp with ⟨k2, T3, er1, rfl⟩ | ⟨r1, er1, hsp⟩
  · exact hk_xVt (As := [.int x1]) (rest := []) F9 G h0 hkc_8 rfl (kX11_existingTrough l hst g E F n S a0 x1 _ h0 er1) qv_RX11_124 ⟨rfl, rfl, (Nat.le_of_ble_eq_true rfl), (Nat.le_of_ble_eq_true rfl)⟩ rfl hl.1 rfl (Nat.le_of_ble_eq_true rfl) ⟨(Nat.le_of_ble_eq_true rfl), (Nat.le_of_ble_eq_true rfl)⟩ dX11_marks_2 ht hlocks ⟨(Nat.le_of_ble_eq_true rfl), (Nat.le_of_ble_eq_true rfl)⟩
  refine hk_xVr (As := [.int x1]) (rest := []) F9 G h0 hkc_8 rfl (kX11_existingTrough l hst g E F n S a0 x1 _ h0 er1) qv_RX11_124 ⟨rfl, rfl, (Nat.le_of_ble_eq_true rfl), (Nat.le_of_ble_eq_true rfl)⟩ rfl hl.1 rfl (Nat.le_of_ble_eq_true rfl) ⟨(Nat.le_of_ble_eq_true rfl), (Nat.le_of_ble_eq_true rfl)⟩ dX11_marks_2 (fun H locs G => ?_)
  obtain ⟨q4, hsp⟩ := hk_k hsp
  refine lv_astore_n (lv' := [(2, .ref (g.1 + r1.1)), (0, .ref (g.1 + a0)), (1, .int x1)]) hx hb dX11_marks_5 rfl hl (by decide) rfl (fun ls hl => ?_)
  refine lv_aload_n hx hb dX11_marks_6 rfl (lv_at hl 0 rfl) ?_
  obtain ⟨r5, er5, hsp⟩ := hk_b hsp
  refine hk_callVi (As := []) (rest := []) F9 G q4 hkc_7 rfl (kX10_hasLeaf l g E F n r1.2 r1.1 r5 q4 er5) qv_RX11_130 ⟨rfl, rfl, (Nat.le_of_ble_eq_true rfl), (Nat.le_of_ble_eq_true rfl)⟩ rfl hl.1 rfl (Nat.le_of_ble_eq_true rfl) ⟨(Nat.le_of_ble_eq_true rfl), (Nat.le_of_ble_eq_true rfl)⟩ dX11_marks_7 (fun H locs G => ?_)
  refine lv_if_eq (tgt := 20) hx hb dX11_marks_10 (by decide) (fun c6 => ?_) (fun c6 => ?_)
  · have hsp := hk_t c6 hsp
    refine lv_iconst (v := (-1)) hx hb dX11_marks_20 (by decide) ?_
    obtain rfl := hk_s hsp
    exact vx_ret (W.widen (k := 1) (n := 6) (Nat.le_of_ble_eq_true rfl) (Nat.le_of_ble_eq_true rfl) (W.iret (v := (-1)) hx hb hr (fun t ht hW => ⟨_, rfl, hk_end G ht hW⟩) G.2.1.2.2 dX11_marks_21))
  · have hsp := hk_f c6 hsp
    refine lv_aload_n hx hb dX11_marks_13 rfl (lv_at hl 0 rfl) ?_
    obtain ⟨r7, er7, hsp⟩ := hk_b hsp
    refine hk_callVi (As := []) (rest := []) F9 G q4 hkc_7 rfl (kX10_quality l g E F n r5.2 r1.1 r7 q4 er7) qv_RX11_257 ⟨rfl, rfl, (Nat.le_of_ble_eq_true rfl), (Nat.le_of_ble_eq_true rfl)⟩ rfl hl.1 rfl (Nat.le_of_ble_eq_true rfl) ⟨(Nat.le_of_ble_eq_true rfl), (Nat.le_of_ble_eq_true rfl)⟩ dX11_marks_14 (fun H locs G => ?_)
    refine lv_goto (tgt := 21) hx hb dX11_marks_17 (by decide) ?_
    obtain rfl := hk_s hsp
    exact vx_ret (W.widen (k := 1) (n := 6) (Nat.le_of_ble_eq_true rfl) (Nat.le_of_ble_eq_true rfl) (W.iret (v := r7.1) hx hb hr (fun t ht hW => ⟨_, rfl, hk_end G ht hW⟩) G.2.1.2.2 dX11_marks_21))
def mX11_loss (E : hk_E) (F : Nat) (S : hk_S) (a0 : Nat) (x1 : Int32) : Option (Sum (Nat × hk_S) (Int32 × hk_S)) :=
hk_xb (mX11_existingTrough E F S a0 x1) (fun r1 => if E.2.1 r1.1 = 8 then ((E.2.2.2 a0 0).bind (fun r5 => if E.2.1 r5 = 4 then ((E.2.2.2 r5 0).bind (fun r6 => if E.2.1 r6 = 1 then ((mX1_drynessOf E F r1.2 r6 (r1.2 r6 0)).bind (fun r7 => (mX10_lossAt E F r7.2 r1.1 r7.1).bind (fun r8 => some (.inr ((r8.1, r8.2)))))) else none)) else none)) else none)
set_option maxHeartbeats 4000000 in
set_option maxRecDepth 100000 in
theorem kX11_loss (l : Launch) (hst : l.stackTraces = false) (g : hk_G) (E : hk_E) (F n : Nat) (S : hk_S) (a0 : Nat) (x1 : Int32) (o : Sum (Nat × hk_S) (Int32 × hk_S)) (h0 : E.2.1 a0 = 9) (hsp : mX11_loss E F S a0 x1 = some o) : vx_Met l yX11_loss (hk_ws yX11_loss cX11_loss 2 (Option.some Jvm.ClassFile.FieldType.int)) ({ frames := 7, cells := 1, slots := 6, locals := 103 }) (hk_Pc g E S n [.ref (g.1 + a0), .int x1]) (hk_XQ g E n o (fun x => x.2) (fun x => some (.int x.1))) (hk_XX g E o) 1 6 (hk_A g) := by
  refine vx_ofW (cc := cX11_loss) (maxL := 2) (ret := (Option.some Jvm.ClassFile.FieldType.int)) (by decide) rfl ?_
  intro p e s m args below meth c s₁ B hml ht hv
  obtain ⟨rfl, G⟩ := hk_begin hv
  have F9 : CallFix p m c cX11_loss 2 s [.ref (g.1 + a0), .int x1].toArray hk_W RX11 := ⟨B.exec, B.bytes, hml, findClass_of_methodNamed B.named, fun w h => atoms_spec (ws := hk_ws yX11_loss cX11_loss 2 (Option.some Jvm.ClassFile.FieldType.int)) B.pre w (hk_in h)⟩
  have hx := B.exec
  have hb := B.bytes
  have hr := B.returns
  have hlocks := B.notSynchronized
  have hl := lv_entry ([.ref (g.1 + a0), .int x1]) (n := 2) (Nat.le_of_ble_eq_true rfl)
  rw [lg_entry_eq]
  generalize (lg_sl ([.ref (g.1 + a0), .int x1]) ++ List.replicate (2 - (lg_sl ([.ref (g.1 + a0), .int x1])).length) Slot.unset).toArray = ls at hl ⊢
  have hl : lv_has ls 2 [(0, .ref (g.1 + a0)), (1, .int x1)] := hl
  unfold mX11_loss at hsp
  have G : hk_GG g E S n s s.heap [] := G
  refine lv_aload_n hx hb dX11_loss_0 rfl (lv_at hl 0 rfl) ?_
  refine lv_iload_n hx hb dX11_loss_1 rfl (lv_at hl 1 rfl) ?_
  rcases hk_xe hsp with ⟨k2, T3, er1, rfl⟩ | ⟨r1, er1, hsp⟩
  · exact hk_xVt (As := [.int x1]) (rest := []) F9 G h0 hkc_8 rfl (kX11_existingTrough l hst g E F n S a0 x1 _ h0 er1) qv_RX11_124 ⟨rfl, rfl, (Nat.le_of_ble_eq_true rfl), (Nat.le_of_ble_eq_true rfl)⟩ rfl hl.1 rfl (Nat.le_of_ble_eq_true rfl) ⟨(Nat.le_of_ble_eq_true rfl), (Nat.le_of_ble_eq_true rfl)⟩ dX11_loss_2 ht hlocks ⟨(Nat.le_of_ble_eq_true rfl), (Nat.le_of_ble_eq_true rfl)⟩
  refine hk_xVr (As := [.int x1]) (rest := []) F9 G h0 hkc_8 rfl (kX11_existingTrough l hst g E F n S a0 x1 _ h0 er1) qv_RX11_124 ⟨rfl, rfl, (Nat.le_of_ble_eq_true rfl), (Nat.le_of_ble_eq_true rfl)⟩ rfl hl.1 rfl (Nat.le_of_ble_eq_true rfl) ⟨(Nat.le_of_ble_eq_true rfl), (Nat.le_of_ble_eq_true rfl)⟩ dX11_loss_2 (fun H locs G => ?_)
  obtain ⟨q4, hsp⟩ := hk_k hsp
  refine lv_aload_n hx hb dX11_loss_5 rfl (lv_at hl 0 rfl) ?_
  obtain ⟨r5, er5, hsp⟩ := hk_b hsp
  obtain ⟨kr5, hsp⟩ := hk_k hsp
  refine hk_getR F9 G h0 hkc_8 (k := 0) (by decide) qw_399 rfl er5 dX11_loss_6 ?_
  obtain ⟨r6, er6, hsp⟩ := hk_b hsp
  obtain ⟨kr6, hsp⟩ := hk_k hsp
  refine hk_getR F9 G kr5 hkc_3 (k := 0) (by decide) qw_172 rfl er6 dX11_loss_9 ?_
  refine lv_aload_n hx hb dX11_loss_12 rfl (lv_at hl 0 rfl) ?_
  refine hk_getR F9 G h0 hkc_8 (k := 0) (by decide) qw_399 rfl er5 dX11_loss_13 ?_
  refine hk_getR F9 G kr5 hkc_3 (k := 0) (by decide) qw_172 rfl er6 dX11_loss_16 ?_
  refine hk_getI F9 G kr6 hkc_0 (k := 0) (by decide) qw_50 rfl dX11_loss_19 ?_
  obtain ⟨r7, er7, hsp⟩ := hk_b hsp
  refine hk_callVi (As := [.int (r1.2 r6 0)]) (rest := [.ref (g.1 + r1.1)]) F9 G kr6 hkc_0 rfl (kX1_drynessOf l g E F n r1.2 r6 (r1.2 r6 0) r7 kr6 er7) qv_RX11_230 ⟨rfl, rfl, (Nat.le_of_ble_eq_true rfl), (Nat.le_of_ble_eq_true rfl)⟩ rfl hl.1 rfl (Nat.le_of_ble_eq_true rfl) ⟨(Nat.le_of_ble_eq_true rfl), (Nat.le_of_ble_eq_true rfl)⟩ dX11_loss_22 (fun H locs G => ?_)
  obtain ⟨r8, er8, hsp⟩ := hk_b hsp
  refine hk_callVi (As := [.int r7.1]) (rest := []) F9 G q4 hkc_7 rfl (kX10_lossAt l g E F n r7.2 r1.1 r7.1 r8 q4 er8) qv_RX11_260 ⟨rfl, rfl, (Nat.le_of_ble_eq_true rfl), (Nat.le_of_ble_eq_true rfl)⟩ rfl hl.1 rfl (Nat.le_of_ble_eq_true rfl) ⟨(Nat.le_of_ble_eq_true rfl), (Nat.le_of_ble_eq_true rfl)⟩ dX11_loss_25 (fun H locs G => ?_)
  obtain rfl := hk_s hsp
  exact vx_ret (W.widen (k := 1) (n := 6) (Nat.le_of_ble_eq_true rfl) (Nat.le_of_ble_eq_true rfl) (W.iret (v := r8.1) hx hb hr (fun t ht hW => ⟨_, rfl, hk_end G ht hW⟩) G.2.1.2.2 dX11_loss_28))
def mX11_whyNoDischarge (E : hk_E) (F : Nat) (S : hk_S) (a0 : Nat) (x1 : Int32) : Option (Sum (Nat × hk_S) (Int32 × hk_S)) :=
(E.2.2.2 a0 0).bind (fun r1 => if E.2.1 r1 = 4 then (hk_xb (mX11_existingTrough E F S a0 x1) (fun r2 => if E.2.1 r2.1 = 8 then ((mX5_refusalOf E F r2.2 r1 r2.1).bind (fun r6 => some (.inr ((r6.1, r6.2))))) else none)) else none)
set_option maxHeartbeats 4000000 in
set_option maxRecDepth 100000 in
theorem kX11_whyNoDischarge (l : Launch) (hst : l.stackTraces = false) (g : hk_G) (E : hk_E) (F n : Nat) (S : hk_S) (a0 : Nat) (x1 : Int32) (o : Sum (Nat × hk_S) (Int32 × hk_S)) (h0 : E.2.1 a0 = 9) (hsp : mX11_whyNoDischarge E F S a0 x1 = some o) : vx_Met l yX11_whyNoDischarge (hk_ws yX11_whyNoDischarge cX11_whyNoDischarge 2 (Option.some Jvm.ClassFile.FieldType.int)) ({ frames := 7, cells := 1, slots := 6, locals := 103 }) (hk_Pc g E S n [.ref (g.1 + a0), .int x1]) (hk_XQ g E n o (fun x => x.2) (fun x => some (.int x.1))) (hk_XX g E o) 1 6 (hk_A g) := by
  refine vx_ofW (cc := cX11_whyNoDischarge) (maxL := 2) (ret := (Option.some Jvm.ClassFile.FieldType.int)) (by decide) rfl ?_
  intro p e s m args below meth c s₁ B hml ht hv
  obtain ⟨rfl, G⟩ := hk_begin hv
  have F9 : CallFix p m c cX11_whyNoDischarge 2 s [.ref (g.1 + a0), .int x1].toArray hk_W RX11 := ⟨B.exec, B.bytes, hml, findClass_of_methodNamed B.named, fun w h => atoms_spec (ws := hk_ws yX11_whyNoDischarge cX11_whyNoDischarge 2 (Option.some Jvm.ClassFile.FieldType.int)) B.pre w (hk_in h)⟩
  have hx := B.exec
  have hb := B.bytes
  have hr := B.returns
  have hlocks := B.notSynchronized
  have hl := lv_entry ([.ref (g.1 + a0), .int x1]) (n := 2) (Nat.le_of_ble_eq_true rfl)
  rw [lg_entry_eq]
  generalize (lg_sl ([.ref (g.1 + a0), .int x1]) ++ List.replicate (2 - (lg_sl ([.ref (g.1 + a0), .int x1])).length) Slot.unset).toArray = ls at hl ⊢
  have hl : lv_has ls 2 [(0, .ref (g.1 + a0)), (1, .int x1)] := hl
  unfold mX11_whyNoDischarge at hsp
  have G : hk_GG g E S n s s.heap [] := G
  refine lv_aload_n hx hb dX11_whyNoDischarge_0 rfl (lv_at hl 0 rfl) ?_
  obtain ⟨r1, er1, hsp⟩ := hk_b hsp
  obtain ⟨kr1, hsp⟩ := hk_k hsp
  refine hk_getR F9 G h0 hkc_8 (k := 0) (by decide) qw_399 rfl er1 dX11_whyNoDischarge_1 ?_
  refine lv_aload_n hx hb dX11_whyNoDischarge_4 rfl (lv_at hl 0 rfl) ?_
  refine lv_iload_n hx hb dX11_whyNoDischarge_5 rfl (lv_at hl 1 rfl) ?_
  rcases hk_xe hsp with ⟨k3, T4, er2, rfl⟩ | ⟨r2, er2, hsp⟩
  · exact hk_xVt (As := [.int x1]) (rest := [.ref (g.1 + r1)]) F9 G h0 hkc_8 rfl (kX11_existingTrough l hst g E F n S a0 x1 _ h0 er2) qv_RX11_124 ⟨rfl, rfl, (Nat.le_of_ble_eq_true rfl), (Nat.le_of_ble_eq_true rfl)⟩ rfl hl.1 rfl (Nat.le_of_ble_eq_true rfl) ⟨(Nat.le_of_ble_eq_true rfl), (Nat.le_of_ble_eq_true rfl)⟩ dX11_whyNoDischarge_6 ht hlocks ⟨(Nat.le_of_ble_eq_true rfl), (Nat.le_of_ble_eq_true rfl)⟩
  refine hk_xVr (As := [.int x1]) (rest := [.ref (g.1 + r1)]) F9 G h0 hkc_8 rfl (kX11_existingTrough l hst g E F n S a0 x1 _ h0 er2) qv_RX11_124 ⟨rfl, rfl, (Nat.le_of_ble_eq_true rfl), (Nat.le_of_ble_eq_true rfl)⟩ rfl hl.1 rfl (Nat.le_of_ble_eq_true rfl) ⟨(Nat.le_of_ble_eq_true rfl), (Nat.le_of_ble_eq_true rfl)⟩ dX11_whyNoDischarge_6 (fun H locs G => ?_)
  obtain ⟨q5, hsp⟩ := hk_k hsp
  obtain ⟨r6, er6, hsp⟩ := hk_b hsp
  refine hk_callVi (As := [.ref (g.1 + r2.1)]) (rest := []) F9 G kr1 hkc_3 rfl (kX5_refusalOf l g E F n r2.2 r1 r2.1 r6 kr1 q5 er6) qv_RX11_170 ⟨rfl, rfl, (Nat.le_of_ble_eq_true rfl), (Nat.le_of_ble_eq_true rfl)⟩ rfl hl.1 rfl (Nat.le_of_ble_eq_true rfl) ⟨(Nat.le_of_ble_eq_true rfl), (Nat.le_of_ble_eq_true rfl)⟩ dX11_whyNoDischarge_9 (fun H locs G => ?_)
  obtain rfl := hk_s hsp
  exact vx_ret (W.widen (k := 1) (n := 6) (Nat.le_of_ble_eq_true rfl) (Nat.le_of_ble_eq_true rfl) (W.iret (v := r6.1) hx hb hr (fun t ht hW => ⟨_, rfl, hk_end G ht hW⟩) G.2.1.2.2 dX11_whyNoDischarge_12))
def mX11_weight (E : hk_E) (F : Nat) (S : hk_S) (a0 : Nat) (x1 : Int32) : Option (Sum (Nat × hk_S) (Int32 × hk_S)) :=
hk_xb (mX11_existingTrough E F S a0 x1) (fun r1 => if E.2.1 r1.1 = 8 then (some (.inr (((r1.2 r1.1 5), r1.2)))) else none)
set_option maxHeartbeats 4000000 in
set_option maxRecDepth 100000 in
theorem kX11_weight (l : Launch) (hst : l.stackTraces = false) (g : hk_G) (E : hk_E) (F n : Nat) (S : hk_S) (a0 : Nat) (x1 : Int32) (o : Sum (Nat × hk_S) (Int32 × hk_S)) (h0 : E.2.1 a0 = 9) (hsp : mX11_weight E F S a0 x1 = some o) : vx_Met l yX11_weight (hk_ws yX11_weight cX11_weight 2 (Option.some Jvm.ClassFile.FieldType.int)) ({ frames := 7, cells := 1, slots := 6, locals := 103 }) (hk_Pc g E S n [.ref (g.1 + a0), .int x1]) (hk_XQ g E n o (fun x => x.2) (fun x => some (.int x.1))) (hk_XX g E o) 1 6 (hk_A g) := by
  refine vx_ofW (cc := cX11_weight) (maxL := 2) (ret := (Option.some Jvm.ClassFile.FieldType.int)) (by decide) rfl ?_
  intro p e s m args below meth c s₁ B hml ht hv
  obtain ⟨rfl, G⟩ := hk_begin hv
  have F9 : CallFix p m c cX11_weight 2 s [.ref (g.1 + a0), .int x1].toArray hk_W RX11 := ⟨B.exec, B.bytes, hml, findClass_of_methodNamed B.named, fun w h => atoms_spec (ws := hk_ws yX11_weight cX11_weight 2 (Option.some Jvm.ClassFile.FieldType.int)) B.pre w (hk_in h)⟩
  have hx := B.exec
  have hb := B.bytes
  have hr := B.returns
  have hlocks := B.notSynchronized
  have hl := lv_entry ([.ref (g.1 + a0), .int x1]) (n := 2) (Nat.le_of_ble_eq_true rfl)
  rw [lg_entry_eq]
  generalize (lg_sl ([.ref (g.1 + a0), .int x1]) ++ List.replicate (2 - (lg_sl ([.ref (g.1 + a0), .int x1])).length) Slot.unset).toArray = ls at hl ⊢
  have hl : lv_has ls 2 [(0, .ref (g.1 + a0)), (1, .int x1)] := hl
  unfold mX11_weight at hsp
  have G : hk_GG g E S n s s.heap [] := G
  refine lv_aload_n hx hb dX11_weight_0 rfl (lv_at hl 0 rfl) ?_
  refine lv_iload_n hx hb dX11_weight_1 rfl (lv_at hl 1 rfl) ?_
  rcases hk_xe hsp with ⟨k2, T3, er1, rfl⟩ | ⟨r1, er1, hsp⟩
  · exact hk_xVt (As := [.int x1]) (rest := []) F9 G h0 hkc_8 rfl (kX11_existingTrough l hst g E F n S a0 x1 _ h0 er1) qv_RX11_124 ⟨rfl, rfl, (Nat.le_of_ble_eq_true rfl), (Nat.le_of_ble_eq_true rfl)⟩ rfl hl.1 rfl (Nat.le_of_ble_eq_true rfl) ⟨(Nat.le_of_ble_eq_true rfl), (Nat.le_of_ble_eq_true rfl)⟩ dX11_weight_2 ht hlocks ⟨(Nat.le_of_ble_eq_true rfl), (Nat.le_of_ble_eq_true rfl)⟩
  refine hk_xVr (As := [.int x1]) (rest := []) F9 G h0 hkc_8 rfl (kX11_existingTrough l hst g E F n S a0 x1 _ h0 er1) qv_RX11_124 ⟨rfl, rfl, (Nat.le_of_ble_eq_true rfl), (Nat.le_of_ble_eq_true rfl)⟩ rfl hl.1 rfl (Nat.le_of_ble_eq_true rfl) ⟨(Nat.le_of_ble_eq_true rfl), (Nat.le_of_ble_eq_true rfl)⟩ dX11_weight_2 (fun H locs G => ?_)
  obtain ⟨q4, hsp⟩ := hk_k hsp
  refine hk_getI F9 G q4 hkc_7 (k := 5) (by decide) qw_99 rfl dX11_weight_5 ?_
  obtain rfl := hk_s hsp
  exact vx_ret (W.widen (k := 1) (n := 6) (Nat.le_of_ble_eq_true rfl) (Nat.le_of_ble_eq_true rfl) (W.iret (v := (r1.2 r1.1 5)) hx hb hr (fun t ht hW => ⟨_, rfl, hk_end G ht hW⟩) G.2.1.2.2 dX11_weight_8))
def mX11_reading (E : hk_E) (F : Nat) (S : hk_S) (a0 : Nat) (x1 : Int32) : Option (Sum (Nat × hk_S) (Int32 × hk_S)) :=
(E.2.2.2 a0 0).bind (fun r1 => if E.2.1 r1 = 4 then (hk_xb (mX11_existingProbe E F S a0 x1) (fun r2 => if E.2.1 r2.1 = 5 then ((mX5_readingOf E F r2.2 r1 r2.1).bind (fun r6 => some (.inr ((r6.1, r6.2))))) else none)) else none)
set_option maxHeartbeats 4000000 in
set_option maxRecDepth 100000 in
theorem kX11_reading (l : Launch) (hst : l.stackTraces = false) (g : hk_G) (E : hk_E) (F n : Nat) (S : hk_S) (a0 : Nat) (x1 : Int32) (o : Sum (Nat × hk_S) (Int32 × hk_S)) (h0 : E.2.1 a0 = 9) (hsp : mX11_reading E F S a0 x1 = some o) : vx_Met l yX11_reading (hk_ws yX11_reading cX11_reading 2 (Option.some Jvm.ClassFile.FieldType.int)) ({ frames := 7, cells := 1, slots := 6, locals := 103 }) (hk_Pc g E S n [.ref (g.1 + a0), .int x1]) (hk_XQ g E n o (fun x => x.2) (fun x => some (.int x.1))) (hk_XX g E o) 1 6 (hk_A g) := by
  refine vx_ofW (cc := cX11_reading) (maxL := 2) (ret := (Option.some Jvm.ClassFile.FieldType.int)) (by decide) rfl ?_
  intro p e s m args below meth c s₁ B hml ht hv
  obtain ⟨rfl, G⟩ := hk_begin hv
  have F9 : CallFix p m c cX11_reading 2 s [.ref (g.1 + a0), .int x1].toArray hk_W RX11 := ⟨B.exec, B.bytes, hml, findClass_of_methodNamed B.named, fun w h => atoms_spec (ws := hk_ws yX11_reading cX11_reading 2 (Option.some Jvm.ClassFile.FieldType.int)) B.pre w (hk_in h)⟩
  have hx := B.exec
  have hb := B.bytes
  have hr := B.returns
  have hlocks := B.notSynchronized
  have hl := lv_entry ([.ref (g.1 + a0), .int x1]) (n := 2) (Nat.le_of_ble_eq_true rfl)
  rw [lg_entry_eq]
  generalize (lg_sl ([.ref (g.1 + a0), .int x1]) ++ List.replicate (2 - (lg_sl ([.ref (g.1 + a0), .int x1])).length) Slot.unset).toArray = ls at hl ⊢
  have hl : lv_has ls 2 [(0, .ref (g.1 + a0)), (1, .int x1)] := hl
  unfold mX11_reading at hsp
  have G : hk_GG g E S n s s.heap [] := G
  refine lv_aload_n hx hb dX11_reading_0 rfl (lv_at hl 0 rfl) ?_
  obtain ⟨r1, er1, hsp⟩ := hk_b hsp
  obtain ⟨kr1, hsp⟩ := hk_k hsp
  refine hk_getR F9 G h0 hkc_8 (k := 0) (by decide) qw_399 rfl er1 dX11_reading_1 ?_
  refine lv_aload_n hx hb dX11_reading_4 rfl (lv_at hl 0 rfl) ?_
  refine lv_iload_n hx hb dX11_reading_5 rfl (lv_at hl 1 rfl) ?_
  rcases hk_xe hsp with ⟨k3, T4, er2, rfl⟩ | ⟨r2, er2, hsp⟩
  · exact hk_xVt (As := [.int x1]) (rest := [.ref (g.1 + r1)]) F9 G h0 hkc_8 rfl (kX11_existingProbe l hst g E F n S a0 x1 _ h0 er2) qv_RX11_183 ⟨rfl, rfl, (Nat.le_of_ble_eq_true rfl), (Nat.le_of_ble_eq_true rfl)⟩ rfl hl.1 rfl (Nat.le_of_ble_eq_true rfl) ⟨(Nat.le_of_ble_eq_true rfl), (Nat.le_of_ble_eq_true rfl)⟩ dX11_reading_6 ht hlocks ⟨(Nat.le_of_ble_eq_true rfl), (Nat.le_of_ble_eq_true rfl)⟩
  refine hk_xVr (As := [.int x1]) (rest := [.ref (g.1 + r1)]) F9 G h0 hkc_8 rfl (kX11_existingProbe l hst g E F n S a0 x1 _ h0 er2) qv_RX11_183 ⟨rfl, rfl, (Nat.le_of_ble_eq_true rfl), (Nat.le_of_ble_eq_true rfl)⟩ rfl hl.1 rfl (Nat.le_of_ble_eq_true rfl) ⟨(Nat.le_of_ble_eq_true rfl), (Nat.le_of_ble_eq_true rfl)⟩ dX11_reading_6 (fun H locs G => ?_)
  obtain ⟨q5, hsp⟩ := hk_k hsp
  obtain ⟨r6, er6, hsp⟩ := hk_b hsp
  refine hk_callVi (As := [.ref (g.1 + r2.1)]) (rest := []) F9 G kr1 hkc_3 rfl (kX5_readingOf l g E F n r2.2 r1 r2.1 r6 kr1 q5 er6) qv_RX11_266 ⟨rfl, rfl, (Nat.le_of_ble_eq_true rfl), (Nat.le_of_ble_eq_true rfl)⟩ rfl hl.1 rfl (Nat.le_of_ble_eq_true rfl) ⟨(Nat.le_of_ble_eq_true rfl), (Nat.le_of_ble_eq_true rfl)⟩ dX11_reading_9 (fun H locs G => ?_)
  obtain rfl := hk_s hsp
  exact vx_ret (W.widen (k := 1) (n := 6) (Nat.le_of_ble_eq_true rfl) (Nat.le_of_ble_eq_true rfl) (W.iret (v := r6.1) hx hb hr (fun t ht hW => ⟨_, rfl, hk_end G ht hW⟩) G.2.1.2.2 dX11_reading_12))
def mX11_probeTrough (E : hk_E) (F : Nat) (S : hk_S) (a0 : Nat) (x1 : Int32) : Option (Sum (Nat × hk_S) (Int32 × hk_S)) :=
hk_xb (mX11_existingProbe E F S a0 x1) (fun r1 => if E.2.1 r1.1 = 5 then (some (.inr (((r1.2 r1.1 0), r1.2)))) else none)
set_option maxHeartbeats 4000000 in
set_option maxRecDepth 100000 in
theorem kX11_probeTrough (l : Launch) (hst : l.stackTraces = false) (g : hk_G) (E : hk_E) (F n : Nat) (S : hk_S) (a0 : Nat) (x1 : Int32) (o : Sum (Nat × hk_S) (Int32 × hk_S)) (h0 : E.2.1 a0 = 9) (hsp : mX11_probeTrough E F S a0 x1 = some o) : vx_Met l yX11_probeTrough (hk_ws yX11_probeTrough cX11_probeTrough 2 (Option.some Jvm.ClassFile.FieldType.int)) ({ frames := 7, cells := 1, slots := 6, locals := 103 }) (hk_Pc g E S n [.ref (g.1 + a0), .int x1]) (hk_XQ g E n o (fun x => x.2) (fun x => some (.int x.1))) (hk_XX g E o) 1 6 (hk_A g) := by
  refine vx_ofW (cc := cX11_probeTrough) (maxL := 2) (ret := (Option.some Jvm.ClassFile.FieldType.int)) (by decide) rfl ?_
  intro p e s m args below meth c s₁ B hml ht hv
  obtain ⟨rfl, G⟩ := hk_begin hv
  have F9 : CallFix p m c cX11_probeTrough 2 s [.ref (g.1 + a0), .int x1].toArray hk_W RX11 := ⟨B.exec, B.bytes, hml, findClass_of_methodNamed B.named, fun w h => atoms_spec (ws := hk_ws yX11_probeTrough cX11_probeTrough 2 (Option.some Jvm.ClassFile.FieldType.int)) B.pre w (hk_in h)⟩
  have hx := B.exec
  have hb := B.bytes
  have hr := B.returns
  have hlocks := B.notSynchronized
  have hl := lv_entry ([.ref (g.1 + a0), .int x1]) (n := 2) (Nat.le_of_ble_eq_true rfl)
  rw [lg_entry_eq]
  generalize (lg_sl ([.ref (g.1 + a0), .int x1]) ++ List.replicate (2 - (lg_sl ([.ref (g.1 + a0), .int x1])).length) Slot.unset).toArray = ls at hl ⊢
  have hl : lv_has ls 2 [(0, .ref (g.1 + a0)), (1, .int x1)] := hl
  unfold mX11_probeTrough at hsp
  have G : hk_GG g E S n s s.heap [] := G
  refine lv_aload_n hx hb dX11_probeTrough_0 rfl (lv_at hl 0 rfl) ?_
  refine lv_iload_n hx hb dX11_probeTrough_1 rfl (lv_at hl 1 rfl) ?_
  rcases hk_xe hsp with ⟨k2, T3, er1, rfl⟩ | ⟨r1, er1, hsp⟩
  · exact hk_xVt (As := [.int x1]) (rest := []) F9 G h0 hkc_8 rfl (kX11_existingProbe l hst g E F n S a0 x1 _ h0 er1) qv_RX11_183 ⟨rfl, rfl, (Nat.le_of_ble_eq_true rfl), (Nat.le_of_ble_eq_true rfl)⟩ rfl hl.1 rfl (Nat.le_of_ble_eq_true rfl) ⟨(Nat.le_of_ble_eq_true rfl), (Nat.le_of_ble_eq_true rfl)⟩ dX11_probeTrough_2 ht hlocks ⟨(Nat.le_of_ble_eq_true rfl), (Nat.le_of_ble_eq_true rfl)⟩
  refine hk_xVr (As := [.int x1]) (rest := []) F9 G h0 hkc_8 rfl (kX11_existingProbe l hst g E F n S a0 x1 _ h0 er1) qv_RX11_183 ⟨rfl, rfl, (Nat.le_of_ble_eq_true rfl), (Nat.le_of_ble_eq_true rfl)⟩ rfl hl.1 rfl (Nat.le_of_ble_eq_true rfl) ⟨(Nat.le_of_ble_eq_true rfl), (Nat.le_of_ble_eq_true rfl)⟩ dX11_probeTrough_2 (fun H locs G => ?_)
  obtain ⟨q4, hsp⟩ := hk_k hsp
  refine hk_getI F9 G q4 hkc_4 (k := 0) (by decide) qw_140 rfl dX11_probeTrough_5 ?_
  obtain rfl := hk_s hsp
  exact vx_ret (W.widen (k := 1) (n := 6) (Nat.le_of_ble_eq_true rfl) (Nat.le_of_ble_eq_true rfl) (W.iret (v := (r1.2 r1.1 0)) hx hb hr (fun t ht hW => ⟨_, rfl, hk_end G ht hW⟩) G.2.1.2.2 dX11_probeTrough_8))
def mX11_probeLayer (E : hk_E) (F : Nat) (S : hk_S) (a0 : Nat) (x1 : Int32) : Option (Sum (Nat × hk_S) (Int32 × hk_S)) :=
hk_xb (mX11_existingProbe E F S a0 x1) (fun r1 => if E.2.1 r1.1 = 5 then (some (.inr (((r1.2 r1.1 1), r1.2)))) else none)
set_option maxHeartbeats 4000000 in
set_option maxRecDepth 100000 in
theorem kX11_probeLayer (l : Launch) (hst : l.stackTraces = false) (g : hk_G) (E : hk_E) (F n : Nat) (S : hk_S) (a0 : Nat) (x1 : Int32) (o : Sum (Nat × hk_S) (Int32 × hk_S)) (h0 : E.2.1 a0 = 9) (hsp : mX11_probeLayer E F S a0 x1 = some o) : vx_Met l yX11_probeLayer (hk_ws yX11_probeLayer cX11_probeLayer 2 (Option.some Jvm.ClassFile.FieldType.int)) ({ frames := 7, cells := 1, slots := 6, locals := 103 }) (hk_Pc g E S n [.ref (g.1 + a0), .int x1]) (hk_XQ g E n o (fun x => x.2) (fun x => some (.int x.1))) (hk_XX g E o) 1 6 (hk_A g) := by
  refine vx_ofW (cc := cX11_probeLayer) (maxL := 2) (ret := (Option.some Jvm.ClassFile.FieldType.int)) (by decide) rfl ?_
  intro p e s m args below meth c s₁ B hml ht hv
  obtain ⟨rfl, G⟩ := hk_begin hv
  have F9 : CallFix p m c cX11_probeLayer 2 s [.ref (g.1 + a0), .int x1].toArray hk_W RX11 := ⟨B.exec, B.bytes, hml, findClass_of_methodNamed B.named, fun w h => atoms_spec (ws := hk_ws yX11_probeLayer cX11_probeLayer 2 (Option.some Jvm.ClassFile.FieldType.int)) B.pre w (hk_in h)⟩
  have hx := B.exec
  have hb := B.bytes
  have hr := B.returns
  have hlocks := B.notSynchronized
  have hl := lv_entry ([.ref (g.1 + a0), .int x1]) (n := 2) (Nat.le_of_ble_eq_true rfl)
  rw [lg_entry_eq]
  generalize (lg_sl ([.ref (g.1 + a0), .int x1]) ++ List.replicate (2 - (lg_sl ([.ref (g.1 + a0), .int x1])).length) Slot.unset).toArray = ls at hl ⊢
  have hl : lv_has ls 2 [(0, .ref (g.1 + a0)), (1, .int x1)] := hl
  unfold mX11_probeLayer at hsp
  have G : hk_GG g E S n s s.heap [] := G
  refine lv_aload_n hx hb dX11_probeLayer_0 rfl (lv_at hl 0 rfl) ?_
  refine lv_iload_n hx hb dX11_probeLayer_1 rfl (lv_at hl 1 rfl) ?_
  rcases hk_xe hsp with ⟨k2, T3, er1, rfl⟩ | ⟨r1, er1, hsp⟩
  · exact hk_xVt (As := [.int x1]) (rest := []) F9 G h0 hkc_8 rfl (kX11_existingProbe l hst g E F n S a0 x1 _ h0 er1) qv_RX11_183 ⟨rfl, rfl, (Nat.le_of_ble_eq_true rfl), (Nat.le_of_ble_eq_true rfl)⟩ rfl hl.1 rfl (Nat.le_of_ble_eq_true rfl) ⟨(Nat.le_of_ble_eq_true rfl), (Nat.le_of_ble_eq_true rfl)⟩ dX11_probeLayer_2 ht hlocks ⟨(Nat.le_of_ble_eq_true rfl), (Nat.le_of_ble_eq_true rfl)⟩
  refine hk_xVr (As := [.int x1]) (rest := []) F9 G h0 hkc_8 rfl (kX11_existingProbe l hst g E F n S a0 x1 _ h0 er1) qv_RX11_183 ⟨rfl, rfl, (Nat.le_of_ble_eq_true rfl), (Nat.le_of_ble_eq_true rfl)⟩ rfl hl.1 rfl (Nat.le_of_ble_eq_true rfl) ⟨(Nat.le_of_ble_eq_true rfl), (Nat.le_of_ble_eq_true rfl)⟩ dX11_probeLayer_2 (fun H locs G => ?_)
  obtain ⟨q4, hsp⟩ := hk_k hsp
  refine hk_getI F9 G q4 hkc_4 (k := 1) (by decide) qw_143 rfl dX11_probeLayer_5 ?_
  obtain rfl := hk_s hsp
  exact vx_ret (W.widen (k := 1) (n := 6) (Nat.le_of_ble_eq_true rfl) (Nat.le_of_ble_eq_true rfl) (W.iret (v := (r1.2 r1.1 1)) hx hb hr (fun t ht hW => ⟨_, rfl, hk_end G ht hW⟩) G.2.1.2.2 dX11_probeLayer_8))
def mX11_meanReading (E : hk_E) (F : Nat) (S : hk_S) (a0 : Nat) (x1 : Int32) : Option (Sum (Nat × hk_S) (Int32 × hk_S)) :=
hk_xb (mX11_existingTrough E F S a0 x1) (fun r1 => if E.2.1 r1.1 = 8 then ((E.2.2.2 a0 0).bind (fun r5 => if E.2.1 r5 = 4 then ((mX5_meanReadingOf E F r1.2 r5 x1).bind (fun r6 => some (.inr ((r6.1, r6.2))))) else none)) else none)
set_option maxHeartbeats 4000000 in
set_option maxRecDepth 100000 in
theorem kX11_meanReading (l : Launch) (hst : l.stackTraces = false) (g : hk_G) (E : hk_E) (F n : Nat) (S : hk_S) (a0 : Nat) (x1 : Int32) (o : Sum (Nat × hk_S) (Int32 × hk_S)) (h0 : E.2.1 a0 = 9) (hsp : mX11_meanReading E F S a0 x1 = some o) : vx_Met l yX11_meanReading (hk_ws yX11_meanReading cX11_meanReading 2 (Option.some Jvm.ClassFile.FieldType.int)) ({ frames := 7, cells := 1, slots := 6, locals := 103 }) (hk_Pc g E S n [.ref (g.1 + a0), .int x1]) (hk_XQ g E n o (fun x => x.2) (fun x => some (.int x.1))) (hk_XX g E o) 1 6 (hk_A g) := by
  refine vx_ofW (cc := cX11_meanReading) (maxL := 2) (ret := (Option.some Jvm.ClassFile.FieldType.int)) (by decide) rfl ?_
  intro p e s m args below meth c s₁ B hml ht hv
  obtain ⟨rfl, G⟩ := hk_begin hv
  have F9 : CallFix p m c cX11_meanReading 2 s [.ref (g.1 + a0), .int x1].toArray hk_W RX11 := ⟨B.exec, B.bytes, hml, findClass_of_methodNamed B.named, fun w h => atoms_spec (ws := hk_ws yX11_meanReading cX11_meanReading 2 (Option.some Jvm.ClassFile.FieldType.int)) B.pre w (hk_in h)⟩
  have hx := B.exec
  have hb := B.bytes
  have hr := B.returns
  have hlocks := B.notSynchronized
  have hl := lv_entry ([.ref (g.1 + a0), .int x1]) (n := 2) (Nat.le_of_ble_eq_true rfl)
  rw [lg_entry_eq]
  generalize (lg_sl ([.ref (g.1 + a0), .int x1]) ++ List.replicate (2 - (lg_sl ([.ref (g.1 + a0), .int x1])).length) Slot.unset).toArray = ls at hl ⊢
  have hl : lv_has ls 2 [(0, .ref (g.1 + a0)), (1, .int x1)] := hl
  unfold mX11_meanReading at hsp
  have G : hk_GG g E S n s s.heap [] := G
  refine lv_aload_n hx hb dX11_meanReading_0 rfl (lv_at hl 0 rfl) ?_
  refine lv_iload_n hx hb dX11_meanReading_1 rfl (lv_at hl 1 rfl) ?_
  rcases hk_xe hsp with ⟨k2, T3, er1, rfl⟩ | ⟨r1, er1, hsp⟩
  · exact hk_xVt (As := [.int x1]) (rest := []) F9 G h0 hkc_8 rfl (kX11_existingTrough l hst g E F n S a0 x1 _ h0 er1) qv_RX11_124 ⟨rfl, rfl, (Nat.le_of_ble_eq_true rfl), (Nat.le_of_ble_eq_true rfl)⟩ rfl hl.1 rfl (Nat.le_of_ble_eq_true rfl) ⟨(Nat.le_of_ble_eq_true rfl), (Nat.le_of_ble_eq_true rfl)⟩ dX11_meanReading_2 ht hlocks ⟨(Nat.le_of_ble_eq_true rfl), (Nat.le_of_ble_eq_true rfl)⟩
  refine hk_xVr (As := [.int x1]) (rest := []) F9 G h0 hkc_8 rfl (kX11_existingTrough l hst g E F n S a0 x1 _ h0 er1) qv_RX11_124 ⟨rfl, rfl, (Nat.le_of_ble_eq_true rfl), (Nat.le_of_ble_eq_true rfl)⟩ rfl hl.1 rfl (Nat.le_of_ble_eq_true rfl) ⟨(Nat.le_of_ble_eq_true rfl), (Nat.le_of_ble_eq_true rfl)⟩ dX11_meanReading_2 (fun H locs G => ?_)
  obtain ⟨q4, hsp⟩ := hk_k hsp
  refine lv_pop hx hb dX11_meanReading_5 rfl ?_
  refine lv_aload_n hx hb dX11_meanReading_6 rfl (lv_at hl 0 rfl) ?_
  obtain ⟨r5, er5, hsp⟩ := hk_b hsp
  obtain ⟨kr5, hsp⟩ := hk_k hsp
  refine hk_getR F9 G h0 hkc_8 (k := 0) (by decide) qw_399 rfl er5 dX11_meanReading_7 ?_
  refine lv_iload_n hx hb dX11_meanReading_10 rfl (lv_at hl 1 rfl) ?_
  obtain ⟨r6, er6, hsp⟩ := hk_b hsp
  refine hk_callVi (As := [.int x1]) (rest := []) F9 G kr5 hkc_3 rfl (kX5_meanReadingOf l g E F n r1.2 r5 x1 r6 kr5 er6) qv_RX11_270 ⟨rfl, rfl, (Nat.le_of_ble_eq_true rfl), (Nat.le_of_ble_eq_true rfl)⟩ rfl hl.1 rfl (Nat.le_of_ble_eq_true rfl) ⟨(Nat.le_of_ble_eq_true rfl), (Nat.le_of_ble_eq_true rfl)⟩ dX11_meanReading_11 (fun H locs G => ?_)
  obtain rfl := hk_s hsp
  exact vx_ret (W.widen (k := 1) (n := 6) (Nat.le_of_ble_eq_true rfl) (Nat.le_of_ble_eq_true rfl) (W.iret (v := r6.1) hx hb hr (fun t ht hW => ⟨_, rfl, hk_end G ht hW⟩) G.2.1.2.2 dX11_meanReading_14))
def mX11_addTrough (E : hk_E) (F : Nat) (S : hk_S) (a0 : Nat) (x1 : Int32) : Option (Sum (Nat × hk_S) (Int32 × hk_S)) :=
hk_xb (mX11_requireRange E F S x1 10 500) (fun r1 => (E.2.2.2 a0 0).bind (fun r4 => if E.2.1 r4 = 4 then ((mX5_hasRoomForTrough E F r1 r4).bind (fun r5 => if ¬ r5.1 = 0 then (hk_xb (mX11_refuseIf E F r5.2 0) (fun r7 => (E.2.2.2 a0 3).bind (fun r10 => if E.2.1 r10 = 2 then ((mX3_remember E F r7 r10 r4).bind (fun r11 => (mX5_placeTrough E F r11 r4 x1).bind (fun r12 => some (.inr ((r12.1, r12.2)))))) else none))) else (hk_xb (mX11_refuseIf E F r5.2 1) (fun r13 => (E.2.2.2 a0 3).bind (fun r16 => if E.2.1 r16 = 2 then ((mX3_remember E F r13 r16 r4).bind (fun r17 => (mX5_placeTrough E F r17 r4 x1).bind (fun r18 => some (.inr ((r18.1, r18.2)))))) else none))))) else none))
set_option maxHeartbeats 4000000 in
set_option maxRecDepth 100000 in
theorem kX11_addTrough (l : Launch) (hst : l.stackTraces = false) (g : hk_G) (E : hk_E) (F n : Nat) (S : hk_S) (a0 : Nat) (x1 : Int32) (o : Sum (Nat × hk_S) (Int32 × hk_S)) (h0 : E.2.1 a0 = 9) (hsp : mX11_addTrough E F S a0 x1 = some o) : vx_Met l yX11_addTrough (hk_ws yX11_addTrough cX11_addTrough 2 (Option.some Jvm.ClassFile.FieldType.int)) ({ frames := 7, cells := 2, slots := 12, locals := 104 }) (hk_Pc g E S n [.ref (g.1 + a0), .int x1]) (hk_XQ g E n o (fun x => x.2) (fun x => some (.int x.1))) (hk_XX g E o) 2 12 (hk_A g) := by
  refine vx_ofW (cc := cX11_addTrough) (maxL := 2) (ret := (Option.some Jvm.ClassFile.FieldType.int)) (by decide) rfl ?_
  intro p e s m args below meth c s₁ B hml ht hv
  obtain ⟨rfl, G⟩ := hk_begin hv
  have F9 : CallFix p m c cX11_addTrough 2 s [.ref (g.1 + a0), .int x1].toArray hk_W RX11 := ⟨B.exec, B.bytes, hml, findClass_of_methodNamed B.named, fun w h => atoms_spec (ws := hk_ws yX11_addTrough cX11_addTrough 2 (Option.some Jvm.ClassFile.FieldType.int)) B.pre w (hk_in h)⟩
  have hx := B.exec
  have hb := B.bytes
  have hr := B.returns
  have hlocks := B.notSynchronized
  have hl := lv_entry ([.ref (g.1 + a0), .int x1]) (n := 2) (Nat.le_of_ble_eq_true rfl)
  rw [lg_entry_eq]
  generalize (lg_sl ([.ref (g.1 + a0), .int x1]) ++ List.replicate (2 - (lg_sl ([.ref (g.1 + a0), .int x1])).length) Slot.unset).toArray = ls at hl ⊢
  have hl : lv_has ls 2 [(0, .ref (g.1 + a0)), (1, .int x1)] := hl
  unfold mX11_addTrough at hsp
  have G : hk_GG g E S n s s.heap [] := G
  refine lv_iload_n hx hb dX11_addTrough_0 rfl (lv_at hl 1 rfl) ?_
  refine lv_bipush (v := 10) hx hb dX11_addTrough_1 (by decide) ?_
  refine lv_sipush (v := 500) hx hb dX11_addTrough_3 (by decide) ?_
  rcases hk_xe hsp with ⟨k2, T3, er1, rfl⟩ | ⟨r1, er1, hsp⟩
  · exact hk_xSt (As := [.int x1, .int 10, .int 500]) (rest := []) F9 G (kX11_requireRange l hst g E F n S x1 10 500 _  er1) qv_RX11_96 ⟨rfl, rfl, (Nat.le_of_ble_eq_true rfl), (Nat.le_of_ble_eq_true rfl)⟩ rfl hl.1 rfl (Nat.le_of_ble_eq_true rfl) ⟨(Nat.le_of_ble_eq_true rfl), (Nat.le_of_ble_eq_true rfl)⟩ dX11_addTrough_6 ht hlocks ⟨(Nat.le_of_ble_eq_true rfl), (Nat.le_of_ble_eq_true rfl)⟩
  refine hk_xSv (As := [.int x1, .int 10, .int 500]) (rest := []) F9 G (kX11_requireRange l hst g E F n S x1 10 500 _  er1) qv_RX11_96 ⟨rfl, rfl, (Nat.le_of_ble_eq_true rfl), (Nat.le_of_ble_eq_true rfl)⟩ rfl hl.1 rfl (Nat.le_of_ble_eq_true rfl) ⟨(Nat.le_of_ble_eq_true rfl), (Nat.le_of_ble_eq_true rfl)⟩ dX11_addTrough_6 (fun H locs G => ?_)
  refine lv_aload_n hx hb dX11_addTrough_9 rfl (lv_at hl 0 rfl) ?_
  obtain ⟨r4, er4, hsp⟩ := hk_b hsp
  obtain ⟨kr4, hsp⟩ := hk_k hsp
  refine hk_getR F9 G h0 hkc_8 (k := 0) (by decide) qw_399 rfl er4 dX11_addTrough_10 ?_
  obtain ⟨r5, er5, hsp⟩ := hk_b hsp
  refine hk_callVi (As := []) (rest := []) F9 G kr4 hkc_3 rfl (kX5_hasRoomForTrough l g E F n r1 r4 r5 kr4 er5) qv_RX11_117 ⟨rfl, rfl, (Nat.le_of_ble_eq_true rfl), (Nat.le_of_ble_eq_true rfl)⟩ rfl hl.1 rfl (Nat.le_of_ble_eq_true rfl) ⟨(Nat.le_of_ble_eq_true rfl), (Nat.le_of_ble_eq_true rfl)⟩ dX11_addTrough_13 (fun H locs G => ?_)
  refine lv_if_ne (tgt := 23) hx hb dX11_addTrough_16 (by decide) (fun c6 => ?_) (fun c6 => ?_)
  · have hsp := hk_t c6 hsp
    refine lv_iconst (v := 0) hx hb dX11_addTrough_23 (by decide) ?_
    rcases hk_xe hsp with ⟨k8, T9, er7, rfl⟩ | ⟨r7, er7, hsp⟩
    · exact hk_xSt (As := [.int 0]) (rest := []) F9 G (kX11_refuseIf l hst g E F n r5.2 0 _  er7) qv_RX11_120 ⟨rfl, rfl, (Nat.le_of_ble_eq_true rfl), (Nat.le_of_ble_eq_true rfl)⟩ rfl hl.1 rfl (Nat.le_of_ble_eq_true rfl) ⟨(Nat.le_of_ble_eq_true rfl), (Nat.le_of_ble_eq_true rfl)⟩ dX11_addTrough_24 ht hlocks ⟨(Nat.le_of_ble_eq_true rfl), (Nat.le_of_ble_eq_true rfl)⟩
    refine hk_xSv (As := [.int 0]) (rest := []) F9 G (kX11_refuseIf l hst g E F n r5.2 0 _  er7) qv_RX11_120 ⟨rfl, rfl, (Nat.le_of_ble_eq_true rfl), (Nat.le_of_ble_eq_true rfl)⟩ rfl hl.1 rfl (Nat.le_of_ble_eq_true rfl) ⟨(Nat.le_of_ble_eq_true rfl), (Nat.le_of_ble_eq_true rfl)⟩ dX11_addTrough_24 (fun H locs G => ?_)
    refine lv_aload_n hx hb dX11_addTrough_27 rfl (lv_at hl 0 rfl) ?_
    obtain ⟨r10, er10, hsp⟩ := hk_b hsp
    obtain ⟨kr10, hsp⟩ := hk_k hsp
    refine hk_getR F9 G h0 hkc_8 (k := 3) (by decide) qw_402 rfl er10 dX11_addTrough_28 ?_
    refine lv_aload_n hx hb dX11_addTrough_31 rfl (lv_at hl 0 rfl) ?_
    refine hk_getR F9 G h0 hkc_8 (k := 0) (by decide) qw_399 rfl er4 dX11_addTrough_32 ?_
    obtain ⟨r11, er11, hsp⟩ := hk_b hsp
    refine hk_callVv (As := [.ref (g.1 + r4)]) (rest := []) F9 G kr10 hkc_1 rfl (kX3_remember l g E F n r7 r10 r4 r11 kr10 kr4 er11) qv_RX11_104 ⟨rfl, rfl, (Nat.le_of_ble_eq_true rfl), (Nat.le_of_ble_eq_true rfl)⟩ rfl hl.1 rfl (Nat.le_of_ble_eq_true rfl) ⟨(Nat.le_of_ble_eq_true rfl), (Nat.le_of_ble_eq_true rfl)⟩ dX11_addTrough_35 (fun H locs G => ?_)
    refine lv_aload_n hx hb dX11_addTrough_38 rfl (lv_at hl 0 rfl) ?_
    refine hk_getR F9 G h0 hkc_8 (k := 0) (by decide) qw_399 rfl er4 dX11_addTrough_39 ?_
    refine lv_iload_n hx hb dX11_addTrough_42 rfl (lv_at hl 1 rfl) ?_
    obtain ⟨r12, er12, hsp⟩ := hk_b hsp
    refine hk_callVi (As := [.int x1]) (rest := []) F9 G kr4 hkc_3 rfl (kX5_placeTrough l g E F n r11 r4 x1 r12 kr4 er12) qv_RX11_47 ⟨rfl, rfl, (Nat.le_of_ble_eq_true rfl), (Nat.le_of_ble_eq_true rfl)⟩ rfl hl.1 rfl (Nat.le_of_ble_eq_true rfl) ⟨(Nat.le_of_ble_eq_true rfl), (Nat.le_of_ble_eq_true rfl)⟩ dX11_addTrough_43 (fun H locs G => ?_)
    obtain rfl := hk_s hsp
    exact vx_ret (W.widen (k := 2) (n := 12) (Nat.le_of_ble_eq_true rfl) (Nat.le_of_ble_eq_true rfl) (W.iret (v := r12.1) hx hb hr (fun t ht hW => ⟨_, rfl, hk_end G ht hW⟩) G.2.1.2.2 dX11_addTrough_46))
  · have hsp := hk_g c6 hsp
    refine lv_iconst (v := 1) hx hb dX11_addTrough_19 (by decide) ?_
    refine lv_goto (tgt := 24) hx hb dX11_addTrough_20 (by decide) ?_
    rcases hk_xe hsp with ⟨k14, T15, er13, rfl⟩ | ⟨r13, er13, hsp⟩
    · exact hk_xSt (As := [.int 1]) (rest := []) F9 G (kX11_refuseIf l hst g E F n r5.2 1 _  er13) qv_RX11_120 ⟨rfl, rfl, (Nat.le_of_ble_eq_true rfl), (Nat.le_of_ble_eq_true rfl)⟩ rfl hl.1 rfl (Nat.le_of_ble_eq_true rfl) ⟨(Nat.le_of_ble_eq_true rfl), (Nat.le_of_ble_eq_true rfl)⟩ dX11_addTrough_24 ht hlocks ⟨(Nat.le_of_ble_eq_true rfl), (Nat.le_of_ble_eq_true rfl)⟩
    refine hk_xSv (As := [.int 1]) (rest := []) F9 G (kX11_refuseIf l hst g E F n r5.2 1 _  er13) qv_RX11_120 ⟨rfl, rfl, (Nat.le_of_ble_eq_true rfl), (Nat.le_of_ble_eq_true rfl)⟩ rfl hl.1 rfl (Nat.le_of_ble_eq_true rfl) ⟨(Nat.le_of_ble_eq_true rfl), (Nat.le_of_ble_eq_true rfl)⟩ dX11_addTrough_24 (fun H locs G => ?_)
    refine lv_aload_n hx hb dX11_addTrough_27 rfl (lv_at hl 0 rfl) ?_
    obtain ⟨r16, er16, hsp⟩ := hk_b hsp
    obtain ⟨kr16, hsp⟩ := hk_k hsp
    refine hk_getR F9 G h0 hkc_8 (k := 3) (by decide) qw_402 rfl er16 dX11_addTrough_28 ?_
    refine lv_aload_n hx hb dX11_addTrough_31 rfl (lv_at hl 0 rfl) ?_
    refine hk_getR F9 G h0 hkc_8 (k := 0) (by decide) qw_399 rfl er4 dX11_addTrough_32 ?_
    obtain ⟨r17, er17, hsp⟩ := hk_b hsp
    refine hk_callVv (As := [.ref (g.1 + r4)]) (rest := []) F9 G kr16 hkc_1 rfl (kX3_remember l g E F n r13 r16 r4 r17 kr16 kr4 er17) qv_RX11_104 ⟨rfl, rfl, (Nat.le_of_ble_eq_true rfl), (Nat.le_of_ble_eq_true rfl)⟩ rfl hl.1 rfl (Nat.le_of_ble_eq_true rfl) ⟨(Nat.le_of_ble_eq_true rfl), (Nat.le_of_ble_eq_true rfl)⟩ dX11_addTrough_35 (fun H locs G => ?_)
    refine lv_aload_n hx hb dX11_addTrough_38 rfl (lv_at hl 0 rfl) ?_
    refine hk_getR F9 G h0 hkc_8 (k := 0) (by decide) qw_399 rfl er4 dX11_addTrough_39 ?_
    refine lv_iload_n hx hb dX11_addTrough_42 rfl (lv_at hl 1 rfl) ?_
    obtain ⟨r18, er18, hsp⟩ := hk_b hsp
    refine hk_callVi (As := [.int x1]) (rest := []) F9 G kr4 hkc_3 rfl (kX5_placeTrough l g E F n r17 r4 x1 r18 kr4 er18) qv_RX11_47 ⟨rfl, rfl, (Nat.le_of_ble_eq_true rfl), (Nat.le_of_ble_eq_true rfl)⟩ rfl hl.1 rfl (Nat.le_of_ble_eq_true rfl) ⟨(Nat.le_of_ble_eq_true rfl), (Nat.le_of_ble_eq_true rfl)⟩ dX11_addTrough_43 (fun H locs G => ?_)
    obtain rfl := hk_s hsp
    exact vx_ret (W.widen (k := 2) (n := 12) (Nat.le_of_ble_eq_true rfl) (Nat.le_of_ble_eq_true rfl) (W.iret (v := r18.1) hx hb hr (fun t ht hW => ⟨_, rfl, hk_end G ht hW⟩) G.2.1.2.2 dX11_addTrough_46))
def mX11_load (E : hk_E) (F : Nat) (S : hk_S) (a0 : Nat) (x1 : Int32) (x2 : Int32) (x3 : Int32) : Option (Sum (Nat × hk_S) (Int32 × hk_S)) :=
hk_xb (mX11_existingTrough E F S a0 x1) (fun r1 => if E.2.1 r1.1 = 8 then (hk_xb (mX11_requireRange E F r1.2 x2 1 (r1.2 r1.1 0)) (fun r5 => hk_xb (mX11_requireRange E F r5 x3 600 900) (fun r8 => (mX10_hasLeaf E F r8 r1.1).bind (fun r11 => hk_xb (mX11_refuseIf E F r11.2 r11.1) (fun r12 => (E.2.2.2 a0 3).bind (fun r15 => if E.2.1 r15 = 2 then ((E.2.2.2 a0 0).bind (fun r16 => if E.2.1 r16 = 4 then ((mX3_remember E F r12 r15 r16).bind (fun r17 => (mX5_putLeaf E F r17 r16 r1.1 x2 x3).bind (fun r18 => some (.inr (((r18 r1.1 4), r18)))))) else none)) else none)))))) else none)
set_option maxHeartbeats 4000000 in
set_option maxRecDepth 100000 in
theorem kX11_load (l : Launch) (hst : l.stackTraces = false) (g : hk_G) (E : hk_E) (F n : Nat) (S : hk_S) (a0 : Nat) (x1 : Int32) (x2 : Int32) (x3 : Int32) (o : Sum (Nat × hk_S) (Int32 × hk_S)) (h0 : E.2.1 a0 = 9) (hsp : mX11_load E F S a0 x1 x2 x3 = some o) : vx_Met l yX11_load (hk_ws yX11_load cX11_load 5 (Option.some Jvm.ClassFile.FieldType.int)) ({ frames := 7, cells := 4, slots := 24, locals := 104 }) (hk_Pc g E S n [.ref (g.1 + a0), .int x1, .int x2, .int x3]) (hk_XQ g E n o (fun x => x.2) (fun x => some (.int x.1))) (hk_XX g E o) 4 24 (hk_A g) := by
  refine vx_ofW (cc := cX11_load) (maxL := 5) (ret := (Option.some Jvm.ClassFile.FieldType.int)) (by decide) rfl ?_
  intro p e s m args below meth c s₁ B hml ht hv
  obtain ⟨rfl, G⟩ := hk_begin hv
  have F9 : CallFix p m c cX11_load 5 s [.ref (g.1 + a0), .int x1, .int x2, .int x3].toArray hk_W RX11 := ⟨B.exec, B.bytes, hml, findClass_of_methodNamed B.named, fun w h => atoms_spec (ws := hk_ws yX11_load cX11_load 5 (Option.some Jvm.ClassFile.FieldType.int)) B.pre w (hk_in h)⟩
  have hx := B.exec
  have hb := B.bytes
  have hr := B.returns
  have hlocks := B.notSynchronized
  have hl := lv_entry ([.ref (g.1 + a0), .int x1, .int x2, .int x3]) (n := 5) (Nat.le_of_ble_eq_true rfl)
  rw [lg_entry_eq]
  generalize (lg_sl ([.ref (g.1 + a0), .int x1, .int x2, .int x3]) ++ List.replicate (5 - (lg_sl ([.ref (g.1 + a0), .int x1, .int x2, .int x3])).length) Slot.unset).toArray = ls at hl ⊢
  have hl : lv_has ls 5 [(0, .ref (g.1 + a0)), (1, .int x1), (2, .int x2), (3, .int x3)] := hl
  unfold mX11_load at hsp
  have G : hk_GG g E S n s s.heap [] := G
  refine lv_aload_n hx hb dX11_load_0 rfl (lv_at hl 0 rfl) ?_
  refine lv_iload_n hx hb dX11_load_1 rfl (lv_at hl 1 rfl) ?_
  rcases hk_xe hsp with ⟨k2, T3, er1, rfl⟩ | ⟨r1, er1, hsp⟩
  · exact hk_xVt (As := [.int x1]) (rest := []) F9 G h0 hkc_8 rfl (kX11_existingTrough l hst g E F n S a0 x1 _ h0 er1) qv_RX11_124 ⟨rfl, rfl, (Nat.le_of_ble_eq_true rfl), (Nat.le_of_ble_eq_true rfl)⟩ rfl hl.1 rfl (Nat.le_of_ble_eq_true rfl) ⟨(Nat.le_of_ble_eq_true rfl), (Nat.le_of_ble_eq_true rfl)⟩ dX11_load_2 ht hlocks ⟨(Nat.le_of_ble_eq_true rfl), (Nat.le_of_ble_eq_true rfl)⟩
  refine hk_xVr (As := [.int x1]) (rest := []) F9 G h0 hkc_8 rfl (kX11_existingTrough l hst g E F n S a0 x1 _ h0 er1) qv_RX11_124 ⟨rfl, rfl, (Nat.le_of_ble_eq_true rfl), (Nat.le_of_ble_eq_true rfl)⟩ rfl hl.1 rfl (Nat.le_of_ble_eq_true rfl) ⟨(Nat.le_of_ble_eq_true rfl), (Nat.le_of_ble_eq_true rfl)⟩ dX11_load_2 (fun H locs G => ?_)
  obtain ⟨q4, hsp⟩ := hk_k hsp
  refine lv_astore (lv' := [(4, .ref (g.1 + r1.1)), (0, .ref (g.1 + a0)), (1, .int x1), (2, .int x2), (3, .int x3)]) hx hb dX11_load_5  hl (by decide) rfl (fun ls hl => ?_)
  refine lv_iload_n hx hb dX11_load_7 rfl (lv_at hl 3 rfl) ?_
  refine lv_iconst (v := 1) hx hb dX11_load_8 (by decide) ?_
  refine lv_aload hx hb dX11_load_9 (lv_at hl 0 rfl) ?_
  refine hk_getI F9 G q4 hkc_7 (k := 0) (by decide) qw_82 rfl dX11_load_11 ?_
  rcases hk_xe hsp with ⟨k6, T7, er5, rfl⟩ | ⟨r5, er5, hsp⟩
  · exact hk_xSt (As := [.int x2, .int 1, .int (r1.2 r1.1 0)]) (rest := []) F9 G (kX11_requireRange l hst g E F n r1.2 x2 1 (r1.2 r1.1 0) _  er5) qv_RX11_96 ⟨rfl, rfl, (Nat.le_of_ble_eq_true rfl), (Nat.le_of_ble_eq_true rfl)⟩ rfl hl.1 rfl (Nat.le_of_ble_eq_true rfl) ⟨(Nat.le_of_ble_eq_true rfl), (Nat.le_of_ble_eq_true rfl)⟩ dX11_load_14 ht hlocks ⟨(Nat.le_of_ble_eq_true rfl), (Nat.le_of_ble_eq_true rfl)⟩
  refine hk_xSv (As := [.int x2, .int 1, .int (r1.2 r1.1 0)]) (rest := []) F9 G (kX11_requireRange l hst g E F n r1.2 x2 1 (r1.2 r1.1 0) _  er5) qv_RX11_96 ⟨rfl, rfl, (Nat.le_of_ble_eq_true rfl), (Nat.le_of_ble_eq_true rfl)⟩ rfl hl.1 rfl (Nat.le_of_ble_eq_true rfl) ⟨(Nat.le_of_ble_eq_true rfl), (Nat.le_of_ble_eq_true rfl)⟩ dX11_load_14 (fun H locs G => ?_)
  refine lv_iload_n hx hb dX11_load_17 rfl (lv_at hl 4 rfl) ?_
  refine lv_sipush (v := 600) hx hb dX11_load_18 (by decide) ?_
  refine lv_sipush (v := 900) hx hb dX11_load_21 (by decide) ?_
  rcases hk_xe hsp with ⟨k9, T10, er8, rfl⟩ | ⟨r8, er8, hsp⟩
  · exact hk_xSt (As := [.int x3, .int 600, .int 900]) (rest := []) F9 G (kX11_requireRange l hst g E F n r5 x3 600 900 _  er8) qv_RX11_96 ⟨rfl, rfl, (Nat.le_of_ble_eq_true rfl), (Nat.le_of_ble_eq_true rfl)⟩ rfl hl.1 rfl (Nat.le_of_ble_eq_true rfl) ⟨(Nat.le_of_ble_eq_true rfl), (Nat.le_of_ble_eq_true rfl)⟩ dX11_load_24 ht hlocks ⟨(Nat.le_of_ble_eq_true rfl), (Nat.le_of_ble_eq_true rfl)⟩
  refine hk_xSv (As := [.int x3, .int 600, .int 900]) (rest := []) F9 G (kX11_requireRange l hst g E F n r5 x3 600 900 _  er8) qv_RX11_96 ⟨rfl, rfl, (Nat.le_of_ble_eq_true rfl), (Nat.le_of_ble_eq_true rfl)⟩ rfl hl.1 rfl (Nat.le_of_ble_eq_true rfl) ⟨(Nat.le_of_ble_eq_true rfl), (Nat.le_of_ble_eq_true rfl)⟩ dX11_load_24 (fun H locs G => ?_)
  refine lv_aload hx hb dX11_load_27 (lv_at hl 0 rfl) ?_
  obtain ⟨r11, er11, hsp⟩ := hk_b hsp
  refine hk_callVi (As := []) (rest := []) F9 G q4 hkc_7 rfl (kX10_hasLeaf l g E F n r8 r1.1 r11 q4 er11) qv_RX11_130 ⟨rfl, rfl, (Nat.le_of_ble_eq_true rfl), (Nat.le_of_ble_eq_true rfl)⟩ rfl hl.1 rfl (Nat.le_of_ble_eq_true rfl) ⟨(Nat.le_of_ble_eq_true rfl), (Nat.le_of_ble_eq_true rfl)⟩ dX11_load_29 (fun H locs G => ?_)
  rcases hk_xe hsp with ⟨k13, T14, er12, rfl⟩ | ⟨r12, er12, hsp⟩
  · exact hk_xSt (As := [.int r11.1]) (rest := []) F9 G (kX11_refuseIf l hst g E F n r11.2 r11.1 _  er12) qv_RX11_120 ⟨rfl, rfl, (Nat.le_of_ble_eq_true rfl), (Nat.le_of_ble_eq_true rfl)⟩ rfl hl.1 rfl (Nat.le_of_ble_eq_true rfl) ⟨(Nat.le_of_ble_eq_true rfl), (Nat.le_of_ble_eq_true rfl)⟩ dX11_load_32 ht hlocks ⟨(Nat.le_of_ble_eq_true rfl), (Nat.le_of_ble_eq_true rfl)⟩
  refine hk_xSv (As := [.int r11.1]) (rest := []) F9 G (kX11_refuseIf l hst g E F n r11.2 r11.1 _  er12) qv_RX11_120 ⟨rfl, rfl, (Nat.le_of_ble_eq_true rfl), (Nat.le_of_ble_eq_true rfl)⟩ rfl hl.1 rfl (Nat.le_of_ble_eq_true rfl) ⟨(Nat.le_of_ble_eq_true rfl), (Nat.le_of_ble_eq_true rfl)⟩ dX11_load_32 (fun H locs G => ?_)
  refine lv_aload_n hx hb dX11_load_35 rfl (lv_at hl 1 rfl) ?_
  obtain ⟨r15, er15, hsp⟩ := hk_b hsp
  obtain ⟨kr15, hsp⟩ := hk_k hsp
  refine hk_getR F9 G h0 hkc_8 (k := 3) (by decide) qw_402 rfl er15 dX11_load_36 ?_
  refine lv_aload_n hx hb dX11_load_39 rfl (lv_at hl 1 rfl) ?_
  obtain ⟨r16, er16, hsp⟩ := hk_b hsp
  obtain ⟨kr16, hsp⟩ := hk_k hsp
  refine hk_getR F9 G h0 hkc_8 (k := 0) (by decide) qw_399 rfl er16 dX11_load_40 ?_
  obtain ⟨r17, er17, hsp⟩ := hk_b hsp
  refine hk_callVv (As := [.ref (g.1 + r16)]) (rest := []) F9 G kr15 hkc_1 rfl (kX3_remember l g E F n r12 r15 r16 r17 kr15 kr16 er17) qv_RX11_104 ⟨rfl, rfl, (Nat.le_of_ble_eq_true rfl), (Nat.le_of_ble_eq_true rfl)⟩ rfl hl.1 rfl (Nat.le_of_ble_eq_true rfl) ⟨(Nat.le_of_ble_eq_true rfl), (Nat.le_of_ble_eq_true rfl)⟩ dX11_load_43 (fun H locs G => ?_)
  refine lv_aload_n hx hb dX11_load_46 rfl (lv_at hl 1 rfl) ?_
  refine hk_getR F9 G h0 hkc_8 (k := 0) (by decide) qw_399 rfl er16 dX11_load_47 ?_
  refine lv_aload hx hb dX11_load_50 (lv_at hl 0 rfl) ?_
  refine lv_iload_n hx hb dX11_load_52 rfl (lv_at hl 3 rfl) ?_
  refine lv_iload_n hx hb dX11_load_53 rfl (lv_at hl 4 rfl) ?_
  obtain ⟨r18, er18, hsp⟩ := hk_b hsp
  refine hk_callVv (As := [.ref (g.1 + r1.1), .int x2, .int x3]) (rest := []) F9 G kr16 hkc_3 rfl (kX5_putLeaf l g E F n r17 r16 r1.1 x2 x3 r18 kr16 q4 er18) qv_RX11_55 ⟨rfl, rfl, (Nat.le_of_ble_eq_true rfl), (Nat.le_of_ble_eq_true rfl)⟩ rfl hl.1 rfl (Nat.le_of_ble_eq_true rfl) ⟨(Nat.le_of_ble_eq_true rfl), (Nat.le_of_ble_eq_true rfl)⟩ dX11_load_54 (fun H locs G => ?_)
  refine lv_aload hx hb dX11_load_57 (lv_at hl 0 rfl) ?_
  refine hk_getI F9 G q4 hkc_7 (k := 4) (by decide) qw_96 rfl dX11_load_59 ?_
  obtain rfl := hk_s hsp
  exact vx_ret (W.widen (k := 4) (n := 24) (Nat.le_of_ble_eq_true rfl) (Nat.le_of_ble_eq_true rfl) (W.iret (v := (r18 r1.1 4)) hx hb hr (fun t ht hW => ⟨_, rfl, hk_end G ht hW⟩) G.2.1.2.2 dX11_load_62))
def mX11_setFan (E : hk_E) (F : Nat) (S : hk_S) (a0 : Nat) (x1 : Int32) (x2 : Int32) : Option (Sum (Nat × hk_S) (Int32 × hk_S)) :=
hk_xb (mX11_existingTrough E F S a0 x1) (fun r1 => if E.2.1 r1.1 = 8 then (hk_xb (mX11_requireRange E F r1.2 x2 0 5) (fun r5 => (E.2.2.2 a0 3).bind (fun r8 => if E.2.1 r8 = 2 then ((E.2.2.2 a0 0).bind (fun r9 => if E.2.1 r9 = 4 then ((mX3_remember E F r5 r8 r9).bind (fun r10 => hk_let (r10 r1.1 1) (fun y11 => hk_let (hk_up r10 r1.1 1 x2) (fun S12 => some (.inr ((y11, S12))))))) else none)) else none))) else none)
set_option maxHeartbeats 4000000 in
set_option maxRecDepth 100000 in
theorem kX11_setFan (l : Launch) (hst : l.stackTraces = false) (g : hk_G) (E : hk_E) (F n : Nat) (S : hk_S) (a0 : Nat) (x1 : Int32) (x2 : Int32) (o : Sum (Nat × hk_S) (Int32 × hk_S)) (h0 : E.2.1 a0 = 9) (hsp : mX11_setFan E F S a0 x1 x2 = some o) : vx_Met l yX11_setFan (hk_ws yX11_setFan cX11_setFan 5 (Option.some Jvm.ClassFile.FieldType.int)) ({ frames := 7, cells := 2, slots := 12, locals := 104 }) (hk_Pc g E S n [.ref (g.1 + a0), .int x1, .int x2]) (hk_XQ g E n o (fun x => x.2) (fun x => some (.int x.1))) (hk_XX g E o) 2 12 (hk_A g) := by
  refine vx_ofW (cc := cX11_setFan) (maxL := 5) (ret := (Option.some Jvm.ClassFile.FieldType.int)) (by decide) rfl ?_
  intro p e s m args below meth c s₁ B hml ht hv
  obtain ⟨rfl, G⟩ := hk_begin hv
  have F9 : CallFix p m c cX11_setFan 5 s [.ref (g.1 + a0), .int x1, .int x2].toArray hk_W RX11 := ⟨B.exec, B.bytes, hml, findClass_of_methodNamed B.named, fun w h => atoms_spec (ws := hk_ws yX11_setFan cX11_setFan 5 (Option.some Jvm.ClassFile.FieldType.int)) B.pre w (hk_in h)⟩
  have hx := B.exec
  have hb := B.bytes
  have hr := B.returns
  have hlocks := B.notSynchronized
  have hl := lv_entry ([.ref (g.1 + a0), .int x1, .int x2]) (n := 5) (Nat.le_of_ble_eq_true rfl)
  rw [lg_entry_eq]
  generalize (lg_sl ([.ref (g.1 + a0), .int x1, .int x2]) ++ List.replicate (5 - (lg_sl ([.ref (g.1 + a0), .int x1, .int x2])).length) Slot.unset).toArray = ls at hl ⊢
  have hl : lv_has ls 5 [(0, .ref (g.1 + a0)), (1, .int x1), (2, .int x2)] := hl
  unfold mX11_setFan at hsp
  have G : hk_GG g E S n s s.heap [] := G
  refine lv_aload_n hx hb dX11_setFan_0 rfl (lv_at hl 0 rfl) ?_
  refine lv_iload_n hx hb dX11_setFan_1 rfl (lv_at hl 1 rfl) ?_
  rcases hk_xe hsp with ⟨k2, T3, er1, rfl⟩ | ⟨r1, er1, hsp⟩
  · exact hk_xVt (As := [.int x1]) (rest := []) F9 G h0 hkc_8 rfl (kX11_existingTrough l hst g E F n S a0 x1 _ h0 er1) qv_RX11_124 ⟨rfl, rfl, (Nat.le_of_ble_eq_true rfl), (Nat.le_of_ble_eq_true rfl)⟩ rfl hl.1 rfl (Nat.le_of_ble_eq_true rfl) ⟨(Nat.le_of_ble_eq_true rfl), (Nat.le_of_ble_eq_true rfl)⟩ dX11_setFan_2 ht hlocks ⟨(Nat.le_of_ble_eq_true rfl), (Nat.le_of_ble_eq_true rfl)⟩
  refine hk_xVr (As := [.int x1]) (rest := []) F9 G h0 hkc_8 rfl (kX11_existingTrough l hst g E F n S a0 x1 _ h0 er1) qv_RX11_124 ⟨rfl, rfl, (Nat.le_of_ble_eq_true rfl), (Nat.le_of_ble_eq_true rfl)⟩ rfl hl.1 rfl (Nat.le_of_ble_eq_true rfl) ⟨(Nat.le_of_ble_eq_true rfl), (Nat.le_of_ble_eq_true rfl)⟩ dX11_setFan_2 (fun H locs G => ?_)
  obtain ⟨q4, hsp⟩ := hk_k hsp
  refine lv_astore_n (lv' := [(3, .ref (g.1 + r1.1)), (0, .ref (g.1 + a0)), (1, .int x1), (2, .int x2)]) hx hb dX11_setFan_5 rfl hl (by decide) rfl (fun ls hl => ?_)
  refine lv_iload_n hx hb dX11_setFan_6 rfl (lv_at hl 3 rfl) ?_
  refine lv_iconst (v := 0) hx hb dX11_setFan_7 (by decide) ?_
  refine lv_iconst (v := 5) hx hb dX11_setFan_8 (by decide) ?_
  rcases hk_xe hsp with ⟨k6, T7, er5, rfl⟩ | ⟨r5, er5, hsp⟩
  · exact hk_xSt (As := [.int x2, .int 0, .int 5]) (rest := []) F9 G (kX11_requireRange l hst g E F n r1.2 x2 0 5 _  er5) qv_RX11_96 ⟨rfl, rfl, (Nat.le_of_ble_eq_true rfl), (Nat.le_of_ble_eq_true rfl)⟩ rfl hl.1 rfl (Nat.le_of_ble_eq_true rfl) ⟨(Nat.le_of_ble_eq_true rfl), (Nat.le_of_ble_eq_true rfl)⟩ dX11_setFan_9 ht hlocks ⟨(Nat.le_of_ble_eq_true rfl), (Nat.le_of_ble_eq_true rfl)⟩
  refine hk_xSv (As := [.int x2, .int 0, .int 5]) (rest := []) F9 G (kX11_requireRange l hst g E F n r1.2 x2 0 5 _  er5) qv_RX11_96 ⟨rfl, rfl, (Nat.le_of_ble_eq_true rfl), (Nat.le_of_ble_eq_true rfl)⟩ rfl hl.1 rfl (Nat.le_of_ble_eq_true rfl) ⟨(Nat.le_of_ble_eq_true rfl), (Nat.le_of_ble_eq_true rfl)⟩ dX11_setFan_9 (fun H locs G => ?_)
  refine lv_aload_n hx hb dX11_setFan_12 rfl (lv_at hl 1 rfl) ?_
  obtain ⟨r8, er8, hsp⟩ := hk_b hsp
  obtain ⟨kr8, hsp⟩ := hk_k hsp
  refine hk_getR F9 G h0 hkc_8 (k := 3) (by decide) qw_402 rfl er8 dX11_setFan_13 ?_
  refine lv_aload_n hx hb dX11_setFan_16 rfl (lv_at hl 1 rfl) ?_
  obtain ⟨r9, er9, hsp⟩ := hk_b hsp
  obtain ⟨kr9, hsp⟩ := hk_k hsp
  refine hk_getR F9 G h0 hkc_8 (k := 0) (by decide) qw_399 rfl er9 dX11_setFan_17 ?_
  obtain ⟨r10, er10, hsp⟩ := hk_b hsp
  refine hk_callVv (As := [.ref (g.1 + r9)]) (rest := []) F9 G kr8 hkc_1 rfl (kX3_remember l g E F n r5 r8 r9 r10 kr8 kr9 er10) qv_RX11_104 ⟨rfl, rfl, (Nat.le_of_ble_eq_true rfl), (Nat.le_of_ble_eq_true rfl)⟩ rfl hl.1 rfl (Nat.le_of_ble_eq_true rfl) ⟨(Nat.le_of_ble_eq_true rfl), (Nat.le_of_ble_eq_true rfl)⟩ dX11_setFan_20 (fun H locs G => ?_)
  refine lv_aload_n hx hb dX11_setFan_23 rfl (lv_at hl 0 rfl) ?_
  refine hk_getI F9 G q4 hkc_7 (k := 1) (by decide) qw_84 rfl dX11_setFan_24 ?_
  obtain ⟨y11, ey11, hsp⟩ := hk_l hsp
  refine hk_top ey11 ?_
  refine lv_istore (lv' := [(4, .int y11), (3, .ref (g.1 + r1.1)), (0, .ref (g.1 + a0)), (1, .int x1), (2, .int x2)]) hx hb dX11_setFan_27  hl (by decide) rfl (fun ls hl => ?_)
  refine lv_aload_n hx hb dX11_setFan_29 rfl (lv_at hl 1 rfl) ?_
  refine lv_iload_n hx hb dX11_setFan_30 rfl (lv_at hl 4 rfl) ?_
  obtain ⟨S12, eS12, hsp⟩ := hk_l hsp
  refine hk_putI F9 G q4 hkc_7 (k := 1) (by decide) qw_84 rfl rfl (tyX10_ok 1 (by decide)) rfl rfl dX11_setFan_31 (fun H locs G => ?_)
  rw [eS12] at G
  refine lv_iload hx hb dX11_setFan_34 (lv_at hl 0 rfl) ?_
  obtain rfl := hk_s hsp
  exact vx_ret (W.widen (k := 2) (n := 12) (Nat.le_of_ble_eq_true rfl) (Nat.le_of_ble_eq_true rfl) (W.iret (v := y11) hx hb hr (fun t ht hW => ⟨_, rfl, hk_end G ht hW⟩) G.2.1.2.2 dX11_setFan_36))
def mX11_reverse (E : hk_E) (F : Nat) (S : hk_S) (a0 : Nat) (x1 : Int32) : Option (Sum (Nat × hk_S) (Int32 × hk_S)) :=
hk_xb (mX11_existingTrough E F S a0 x1) (fun r1 => if E.2.1 r1.1 = 8 then ((E.2.2.2 a0 3).bind (fun r5 => if E.2.1 r5 = 2 then ((E.2.2.2 a0 0).bind (fun r6 => if E.2.1 r6 = 4 then ((mX3_remember E F r1.2 r5 r6).bind (fun r7 => if ¬ (r7 r1.1 2) = 0 then (hk_let (hk_up r7 r1.1 2 0) (fun S9 => if (S9 r1.1 2) = 0 ∨ (S9 r1.1 2) = 1 then (some (.inr (((S9 r1.1 2), S9)))) else none)) else (hk_let (hk_up r7 r1.1 2 1) (fun S11 => if (S11 r1.1 2) = 0 ∨ (S11 r1.1 2) = 1 then (some (.inr (((S11 r1.1 2), S11)))) else none)))) else none)) else none)) else none)
set_option maxHeartbeats 4000000 in
set_option maxRecDepth 100000 in
theorem kX11_reverse (l : Launch) (hst : l.stackTraces = false) (g : hk_G) (E : hk_E) (F n : Nat) (S : hk_S) (a0 : Nat) (x1 : Int32) (o : Sum (Nat × hk_S) (Int32 × hk_S)) (h0 : E.2.1 a0 = 9) (hsp : mX11_reverse E F S a0 x1 = some o) : vx_Met l yX11_reverse (hk_ws yX11_reverse cX11_reverse 3 (Option.some Jvm.ClassFile.FieldType.boolean)) ({ frames := 7, cells := 1, slots := 6, locals := 103 }) (hk_Pc g E S n [.ref (g.1 + a0), .int x1]) (hk_XQ g E n o (fun x => x.2) (fun x => some (.int x.1))) (hk_XX g E o) 1 6 (hk_A g) := by
  refine vx_ofW (cc := cX11_reverse) (maxL := 3) (ret := (Option.some Jvm.ClassFile.FieldType.boolean)) (by decide) rfl ?_
  intro p e s m args below meth c s₁ B hml ht hv
  obtain ⟨rfl, G⟩ := hk_begin hv
  have F9 : CallFix p m c cX11_reverse 3 s [.ref (g.1 + a0), .int x1].toArray hk_W RX11 := ⟨B.exec, B.bytes, hml, findClass_of_methodNamed B.named, fun w h => atoms_spec (ws := hk_ws yX11_reverse cX11_reverse 3 (Option.some Jvm.ClassFile.FieldType.boolean)) B.pre w (hk_in h)⟩
  have hx := B.exec
  have hb := B.bytes
  have hr := B.returns
  have hlocks := B.notSynchronized
  have hl := lv_entry ([.ref (g.1 + a0), .int x1]) (n := 3) (Nat.le_of_ble_eq_true rfl)
  rw [lg_entry_eq]
  generalize (lg_sl ([.ref (g.1 + a0), .int x1]) ++ List.replicate (3 - (lg_sl ([.ref (g.1 + a0), .int x1])).length) Slot.unset).toArray = ls at hl ⊢
  have hl : lv_has ls 3 [(0, .ref (g.1 + a0)), (1, .int x1)] := hl
  unfold mX11_reverse at hsp
  have G : hk_GG g E S n s s.heap [] := G
  refine lv_aload_n hx hb dX11_reverse_0 rfl (lv_at hl 0 rfl) ?_
  refine lv_iload_n hx hb dX11_reverse_1 rfl (lv_at hl 1 rfl) ?_
  rcases hk_xe hsp with ⟨k2, T3, er1, rfl⟩ | ⟨r1, er1, hsp⟩
  · exact hk_xVt (As := [.int x1]) (rest := []) F9 G h0 hkc_8 rfl (kX11_existingTrough l hst g E F n S a0 x1 _ h0 er1) qv_RX11_124 ⟨rfl, rfl, (Nat.le_of_ble_eq_true rfl), (Nat.le_of_ble_eq_true rfl)⟩ rfl hl.1 rfl (Nat.le_of_ble_eq_true rfl) ⟨(Nat.le_of_ble_eq_true rfl), (Nat.le_of_ble_eq_true rfl)⟩ dX11_reverse_2 ht hlocks ⟨(Nat.le_of_ble_eq_true rfl), (Nat.le_of_ble_eq_true rfl)⟩
  refine hk_xVr (As := [.int x1]) (rest := []) F9 G h0 hkc_8 rfl (kX11_existingTrough l hst g E F n S a0 x1 _ h0 er1) qv_RX11_124 ⟨rfl, rfl, (Nat.le_of_ble_eq_true rfl), (Nat.le_of_ble_eq_true rfl)⟩ rfl hl.1 rfl (Nat.le_of_ble_eq_true rfl) ⟨(Nat.le_of_ble_eq_true rfl), (Nat.le_of_ble_eq_true rfl)⟩ dX11_reverse_2 (fun H locs G => ?_)
  obtain ⟨q4, hsp⟩ := hk_k hsp
  refine lv_astore_n (lv' := [(2, .ref (g.1 + r1.1)), (0, .ref (g.1 + a0)), (1, .int x1)]) hx hb dX11_reverse_5 rfl hl (by decide) rfl (fun ls hl => ?_)
  refine lv_aload_n hx hb dX11_reverse_6 rfl (lv_at hl 1 rfl) ?_
  obtain ⟨r5, er5, hsp⟩ := hk_b hsp
  obtain ⟨kr5, hsp⟩ := hk_k hsp
  refine hk_getR F9 G h0 hkc_8 (k := 3) (by decide) qw_402 rfl er5 dX11_reverse_7 ?_
  refine lv_aload_n hx hb dX11_reverse_10 rfl (lv_at hl 1 rfl) ?_
  obtain ⟨r6, er6, hsp⟩ := hk_b hsp
  obtain ⟨kr6, hsp⟩ := hk_k hsp
  refine hk_getR F9 G h0 hkc_8 (k := 0) (by decide) qw_399 rfl er6 dX11_reverse_11 ?_
  obtain ⟨r7, er7, hsp⟩ := hk_b hsp
  refine hk_callVv (As := [.ref (g.1 + r6)]) (rest := []) F9 G kr5 hkc_1 rfl (kX3_remember l g E F n r1.2 r5 r6 r7 kr5 kr6 er7) qv_RX11_104 ⟨rfl, rfl, (Nat.le_of_ble_eq_true rfl), (Nat.le_of_ble_eq_true rfl)⟩ rfl hl.1 rfl (Nat.le_of_ble_eq_true rfl) ⟨(Nat.le_of_ble_eq_true rfl), (Nat.le_of_ble_eq_true rfl)⟩ dX11_reverse_14 (fun H locs G => ?_)
  refine lv_aload_n hx hb dX11_reverse_17 rfl (lv_at hl 0 rfl) ?_
  refine lv_aload_n hx hb dX11_reverse_18 rfl (lv_at hl 0 rfl) ?_
  refine hk_getI F9 G q4 hkc_7 (k := 2) (by decide) qw_88 rfl dX11_reverse_19 ?_
  refine lv_if_ne (tgt := 29) hx hb dX11_reverse_22 (by decide) (fun c8 => ?_) (fun c8 => ?_)
  · have hsp := hk_t c8 hsp
    refine lv_iconst (v := 0) hx hb dX11_reverse_29 (by decide) ?_
    obtain ⟨S9, eS9, hsp⟩ := hk_l hsp
    refine hk_putI F9 G q4 hkc_7 (k := 2) (by decide) qw_88 rfl rfl (tyX10_ok 2 (by decide)) (hk_z (by decide)).1 (hk_z (by decide)).2 dX11_reverse_30 (fun H locs G => ?_)
    rw [eS9] at G
    refine lv_aload_n hx hb dX11_reverse_33 rfl (lv_at hl 0 rfl) ?_
    refine hk_getI F9 G q4 hkc_7 (k := 2) (by decide) qw_88 rfl dX11_reverse_34 ?_
    obtain ⟨q10, hsp⟩ := hk_k hsp
    obtain rfl := hk_s hsp
    exact vx_ret (W.widen (k := 1) (n := 6) (Nat.le_of_ble_eq_true rfl) (Nat.le_of_ble_eq_true rfl) (W.zret (v := (S9 r1.1 2)) hx hb hr (hk_z q10).1 (fun t ht hW => ⟨_, rfl, hk_end G ht hW⟩) G.2.1.2.2 dX11_reverse_37))
  · have hsp := hk_g c8 hsp
    refine lv_iconst (v := 1) hx hb dX11_reverse_25 (by decide) ?_
    refine lv_goto (tgt := 30) hx hb dX11_reverse_26 (by decide) ?_
    obtain ⟨S11, eS11, hsp⟩ := hk_l hsp
    refine hk_putI F9 G q4 hkc_7 (k := 2) (by decide) qw_88 rfl rfl (tyX10_ok 2 (by decide)) (hk_z (by decide)).1 (hk_z (by decide)).2 dX11_reverse_30 (fun H locs G => ?_)
    rw [eS11] at G
    refine lv_aload_n hx hb dX11_reverse_33 rfl (lv_at hl 0 rfl) ?_
    refine hk_getI F9 G q4 hkc_7 (k := 2) (by decide) qw_88 rfl dX11_reverse_34 ?_
    obtain ⟨q12, hsp⟩ := hk_k hsp
    obtain rfl := hk_s hsp
    exact vx_ret (W.widen (k := 1) (n := 6) (Nat.le_of_ble_eq_true rfl) (Nat.le_of_ble_eq_true rfl) (W.zret (v := (S11 r1.1 2)) hx hb hr (hk_z q12).1 (fun t ht hW => ⟨_, rfl, hk_end G ht hW⟩) G.2.1.2.2 dX11_reverse_37))
def mX11_setHeat (E : hk_E) (F : Nat) (S : hk_S) (a0 : Nat) (x1 : Int32) : Option (Sum (Nat × hk_S) (Int32 × hk_S)) :=
hk_xb (mX11_requireRange E F S x1 0 5) (fun r1 => (E.2.2.2 a0 3).bind (fun r4 => if E.2.1 r4 = 2 then ((E.2.2.2 a0 0).bind (fun r5 => if E.2.1 r5 = 4 then ((mX3_remember E F r1 r4 r5).bind (fun r6 => (E.2.2.2 r5 0).bind (fun r7 => if E.2.1 r7 = 1 then (hk_let (r6 r7 2) (fun y8 => hk_let (hk_up r6 r7 2 x1) (fun S9 => some (.inr ((y8, S9)))))) else none))) else none)) else none))
set_option maxHeartbeats 4000000 in
set_option maxRecDepth 100000 in
theorem kX11_setHeat (l : Launch) (hst : l.stackTraces = false) (g : hk_G) (E : hk_E) (F n : Nat) (S : hk_S) (a0 : Nat) (x1 : Int32) (o : Sum (Nat × hk_S) (Int32 × hk_S)) (h0 : E.2.1 a0 = 9) (hsp : mX11_setHeat E F S a0 x1 = some o) : vx_Met l yX11_setHeat (hk_ws yX11_setHeat cX11_setHeat 3 (Option.some Jvm.ClassFile.FieldType.int)) ({ frames := 7, cells := 1, slots := 6, locals := 104 }) (hk_Pc g E S n [.ref (g.1 + a0), .int x1]) (hk_XQ g E n o (fun x => x.2) (fun x => some (.int x.1))) (hk_XX g E o) 1 6 (hk_A g) := by
  refine vx_ofW (cc := cX11_setHeat) (maxL := 3) (ret := (Option.some Jvm.ClassFile.FieldType.int)) (by decide) rfl ?_
  intro p e s m args below meth c s₁ B hml ht hv
  obtain ⟨rfl, G⟩ := hk_begin hv
  have F9 : CallFix p m c cX11_setHeat 3 s [.ref (g.1 + a0), .int x1].toArray hk_W RX11 := ⟨B.exec, B.bytes, hml, findClass_of_methodNamed B.named, fun w h => atoms_spec (ws := hk_ws yX11_setHeat cX11_setHeat 3 (Option.some Jvm.ClassFile.FieldType.int)) B.pre w (hk_in h)⟩
  have hx := B.exec
  have hb := B.bytes
  have hr := B.returns
  have hlocks := B.notSynchronized
  have hl := lv_entry ([.ref (g.1 + a0), .int x1]) (n := 3) (Nat.le_of_ble_eq_true rfl)
  rw [lg_entry_eq]
  generalize (lg_sl ([.ref (g.1 + a0), .int x1]) ++ List.replicate (3 - (lg_sl ([.ref (g.1 + a0), .int x1])).length) Slot.unset).toArray = ls at hl ⊢
  have hl : lv_has ls 3 [(0, .ref (g.1 + a0)), (1, .int x1)] := hl
  unfold mX11_setHeat at hsp
  have G : hk_GG g E S n s s.heap [] := G
  refine lv_iload_n hx hb dX11_setHeat_0 rfl (lv_at hl 1 rfl) ?_
  refine lv_iconst (v := 0) hx hb dX11_setHeat_1 (by decide) ?_
  refine lv_iconst (v := 5) hx hb dX11_setHeat_2 (by decide) ?_
  rcases hk_xe hsp with ⟨k2, T3, er1, rfl⟩ | ⟨r1, er1, hsp⟩
  · exact hk_xSt (As := [.int x1, .int 0, .int 5]) (rest := []) F9 G (kX11_requireRange l hst g E F n S x1 0 5 _  er1) qv_RX11_96 ⟨rfl, rfl, (Nat.le_of_ble_eq_true rfl), (Nat.le_of_ble_eq_true rfl)⟩ rfl hl.1 rfl (Nat.le_of_ble_eq_true rfl) ⟨(Nat.le_of_ble_eq_true rfl), (Nat.le_of_ble_eq_true rfl)⟩ dX11_setHeat_3 ht hlocks ⟨(Nat.le_of_ble_eq_true rfl), (Nat.le_of_ble_eq_true rfl)⟩
  refine hk_xSv (As := [.int x1, .int 0, .int 5]) (rest := []) F9 G (kX11_requireRange l hst g E F n S x1 0 5 _  er1) qv_RX11_96 ⟨rfl, rfl, (Nat.le_of_ble_eq_true rfl), (Nat.le_of_ble_eq_true rfl)⟩ rfl hl.1 rfl (Nat.le_of_ble_eq_true rfl) ⟨(Nat.le_of_ble_eq_true rfl), (Nat.le_of_ble_eq_true rfl)⟩ dX11_setHeat_3 (fun H locs G => ?_)
  refine lv_aload_n hx hb dX11_setHeat_6 rfl (lv_at hl 0 rfl) ?_
  obtain ⟨r4, er4, hsp⟩ := hk_b hsp
  obtain ⟨kr4, hsp⟩ := hk_k hsp
  refine hk_getR F9 G h0 hkc_8 (k := 3) (by decide) qw_402 rfl er4 dX11_setHeat_7 ?_
  refine lv_aload_n hx hb dX11_setHeat_10 rfl (lv_at hl 0 rfl) ?_
  obtain ⟨r5, er5, hsp⟩ := hk_b hsp
  obtain ⟨kr5, hsp⟩ := hk_k hsp
  refine hk_getR F9 G h0 hkc_8 (k := 0) (by decide) qw_399 rfl er5 dX11_setHeat_11 ?_
  obtain ⟨r6, er6, hsp⟩ := hk_b hsp
  refine hk_callVv (As := [.ref (g.1 + r5)]) (rest := []) F9 G kr4 hkc_1 rfl (kX3_remember l g E F n r1 r4 r5 r6 kr4 kr5 er6) qv_RX11_104 ⟨rfl, rfl, (Nat.le_of_ble_eq_true rfl), (Nat.le_of_ble_eq_true rfl)⟩ rfl hl.1 rfl (Nat.le_of_ble_eq_true rfl) ⟨(Nat.le_of_ble_eq_true rfl), (Nat.le_of_ble_eq_true rfl)⟩ dX11_setHeat_14 (fun H locs G => ?_)
  refine lv_aload_n hx hb dX11_setHeat_17 rfl (lv_at hl 0 rfl) ?_
  refine hk_getR F9 G h0 hkc_8 (k := 0) (by decide) qw_399 rfl er5 dX11_setHeat_18 ?_
  obtain ⟨r7, er7, hsp⟩ := hk_b hsp
  obtain ⟨kr7, hsp⟩ := hk_k hsp
  refine hk_getR F9 G kr5 hkc_3 (k := 0) (by decide) qw_172 rfl er7 dX11_setHeat_21 ?_
  refine hk_getI F9 G kr7 hkc_0 (k := 2) (by decide) qw_55 rfl dX11_setHeat_24 ?_
  obtain ⟨y8, ey8, hsp⟩ := hk_l hsp
  refine hk_top ey8 ?_
  refine lv_istore_n (lv' := [(2, .int y8), (0, .ref (g.1 + a0)), (1, .int x1)]) hx hb dX11_setHeat_27 rfl hl (by decide) rfl (fun ls hl => ?_)
  refine lv_aload_n hx hb dX11_setHeat_28 rfl (lv_at hl 1 rfl) ?_
  refine hk_getR F9 G h0 hkc_8 (k := 0) (by decide) qw_399 rfl er5 dX11_setHeat_29 ?_
  refine hk_getR F9 G kr5 hkc_3 (k := 0) (by decide) qw_172 rfl er7 dX11_setHeat_32 ?_
  refine lv_iload_n hx hb dX11_setHeat_35 rfl (lv_at hl 2 rfl) ?_
  obtain ⟨S9, eS9, hsp⟩ := hk_l hsp
  refine hk_putI F9 G kr7 hkc_0 (k := 2) (by decide) qw_55 rfl rfl (tyX1_ok 2 (by decide)) rfl rfl dX11_setHeat_36 (fun H locs G => ?_)
  rw [eS9] at G
  refine lv_iload_n hx hb dX11_setHeat_39 rfl (lv_at hl 0 rfl) ?_
  obtain rfl := hk_s hsp
  exact vx_ret (W.widen (k := 1) (n := 6) (Nat.le_of_ble_eq_true rfl) (Nat.le_of_ble_eq_true rfl) (W.iret (v := y8) hx hb hr (fun t ht hW => ⟨_, rfl, hk_end G ht hW⟩) G.2.1.2.2 dX11_setHeat_40))
def mX11_setHumidity (E : hk_E) (F : Nat) (S : hk_S) (a0 : Nat) (x1 : Int32) : Option (Sum (Nat × hk_S) (Int32 × hk_S)) :=
hk_xb (mX11_requireRange E F S x1 20 95) (fun r1 => (E.2.2.2 a0 3).bind (fun r4 => if E.2.1 r4 = 2 then ((E.2.2.2 a0 0).bind (fun r5 => if E.2.1 r5 = 4 then ((mX3_remember E F r1 r4 r5).bind (fun r6 => (E.2.2.2 r5 0).bind (fun r7 => if E.2.1 r7 = 1 then (hk_let (r6 r7 1) (fun y8 => hk_let (hk_up r6 r7 1 x1) (fun S9 => some (.inr ((y8, S9)))))) else none))) else none)) else none))
set_option maxHeartbeats 4000000 in
set_option maxRecDepth 100000 in
theorem kX11_setHumidity (l : Launch) (hst : l.stackTraces = false) (g : hk_G) (E : hk_E) (F n : Nat) (S : hk_S) (a0 : Nat) (x1 : Int32) (o : Sum (Nat × hk_S) (Int32 × hk_S)) (h0 : E.2.1 a0 = 9) (hsp : mX11_setHumidity E F S a0 x1 = some o) : vx_Met l yX11_setHumidity (hk_ws yX11_setHumidity cX11_setHumidity 3 (Option.some Jvm.ClassFile.FieldType.int)) ({ frames := 7, cells := 1, slots := 6, locals := 104 }) (hk_Pc g E S n [.ref (g.1 + a0), .int x1]) (hk_XQ g E n o (fun x => x.2) (fun x => some (.int x.1))) (hk_XX g E o) 1 6 (hk_A g) := by
  refine vx_ofW (cc := cX11_setHumidity) (maxL := 3) (ret := (Option.some Jvm.ClassFile.FieldType.int)) (by decide) rfl ?_
  intro p e s m args below meth c s₁ B hml ht hv
  obtain ⟨rfl, G⟩ := hk_begin hv
  have F9 : CallFix p m c cX11_setHumidity 3 s [.ref (g.1 + a0), .int x1].toArray hk_W RX11 := ⟨B.exec, B.bytes, hml, findClass_of_methodNamed B.named, fun w h => atoms_spec (ws := hk_ws yX11_setHumidity cX11_setHumidity 3 (Option.some Jvm.ClassFile.FieldType.int)) B.pre w (hk_in h)⟩
  have hx := B.exec
  have hb := B.bytes
  have hr := B.returns
  have hlocks := B.notSynchronized
  have hl := lv_entry ([.ref (g.1 + a0), .int x1]) (n := 3) (Nat.le_of_ble_eq_true rfl)
  rw [lg_entry_eq]
  generalize (lg_sl ([.ref (g.1 + a0), .int x1]) ++ List.replicate (3 - (lg_sl ([.ref (g.1 + a0), .int x1])).length) Slot.unset).toArray = ls at hl ⊢
  have hl : lv_has ls 3 [(0, .ref (g.1 + a0)), (1, .int x1)] := hl
  unfold mX11_setHumidity at hsp
  have G : hk_GG g E S n s s.heap [] := G
  refine lv_iload_n hx hb dX11_setHumidity_0 rfl (lv_at hl 1 rfl) ?_
  refine lv_bipush (v := 20) hx hb dX11_setHumidity_1 (by decide) ?_
  refine lv_bipush (v := 95) hx hb dX11_setHumidity_3 (by decide) ?_
  rcases hk_xe hsp with ⟨k2, T3, er1, rfl⟩ | ⟨r1, er1, hsp⟩
  · exact hk_xSt (As := [.int x1, .int 20, .int 95]) (rest := []) F9 G (kX11_requireRange l hst g E F n S x1 20 95 _  er1) qv_RX11_96 ⟨rfl, rfl, (Nat.le_of_ble_eq_true rfl), (Nat.le_of_ble_eq_true rfl)⟩ rfl hl.1 rfl (Nat.le_of_ble_eq_true rfl) ⟨(Nat.le_of_ble_eq_true rfl), (Nat.le_of_ble_eq_true rfl)⟩ dX11_setHumidity_5 ht hlocks ⟨(Nat.le_of_ble_eq_true rfl), (Nat.le_of_ble_eq_true rfl)⟩
  refine hk_xSv (As := [.int x1, .int 20, .int 95]) (rest := []) F9 G (kX11_requireRange l hst g E F n S x1 20 95 _  er1) qv_RX11_96 ⟨rfl, rfl, (Nat.le_of_ble_eq_true rfl), (Nat.le_of_ble_eq_true rfl)⟩ rfl hl.1 rfl (Nat.le_of_ble_eq_true rfl) ⟨(Nat.le_of_ble_eq_true rfl), (Nat.le_of_ble_eq_true rfl)⟩ dX11_setHumidity_5 (fun H locs G => ?_)
  refine lv_aload_n hx hb dX11_setHumidity_8 rfl (lv_at hl 0 rfl) ?_
  obtain ⟨r4, er4, hsp⟩ := hk_b hsp
  obtain ⟨kr4, hsp⟩ := hk_k hsp
  refine hk_getR F9 G h0 hkc_8 (k := 3) (by decide) qw_402 rfl er4 dX11_setHumidity_9 ?_
  refine lv_aload_n hx hb dX11_setHumidity_12 rfl (lv_at hl 0 rfl) ?_
  obtain ⟨r5, er5, hsp⟩ := hk_b hsp
  obtain ⟨kr5, hsp⟩ := hk_k hsp
  refine hk_getR F9 G h0 hkc_8 (k := 0) (by decide) qw_399 rfl er5 dX11_setHumidity_13 ?_
  obtain ⟨r6, er6, hsp⟩ := hk_b hsp
  refine hk_callVv (As := [.ref (g.1 + r5)]) (rest := []) F9 G kr4 hkc_1 rfl (kX3_remember l g E F n r1 r4 r5 r6 kr4 kr5 er6) qv_RX11_104 ⟨rfl, rfl, (Nat.le_of_ble_eq_true rfl), (Nat.le_of_ble_eq_true rfl)⟩ rfl hl.1 rfl (Nat.le_of_ble_eq_true rfl) ⟨(Nat.le_of_ble_eq_true rfl), (Nat.le_of_ble_eq_true rfl)⟩ dX11_setHumidity_16 (fun H locs G => ?_)
  refine lv_aload_n hx hb dX11_setHumidity_19 rfl (lv_at hl 0 rfl) ?_
  refine hk_getR F9 G h0 hkc_8 (k := 0) (by decide) qw_399 rfl er5 dX11_setHumidity_20 ?_
  obtain ⟨r7, er7, hsp⟩ := hk_b hsp
  obtain ⟨kr7, hsp⟩ := hk_k hsp
  refine hk_getR F9 G kr5 hkc_3 (k := 0) (by decide) qw_172 rfl er7 dX11_setHumidity_23 ?_
  refine hk_getI F9 G kr7 hkc_0 (k := 1) (by decide) qw_53 rfl dX11_setHumidity_26 ?_
  obtain ⟨y8, ey8, hsp⟩ := hk_l hsp
  refine hk_top ey8 ?_
  refine lv_istore_n (lv' := [(2, .int y8), (0, .ref (g.1 + a0)), (1, .int x1)]) hx hb dX11_setHumidity_29 rfl hl (by decide) rfl (fun ls hl => ?_)
  refine lv_aload_n hx hb dX11_setHumidity_30 rfl (lv_at hl 1 rfl) ?_
  refine hk_getR F9 G h0 hkc_8 (k := 0) (by decide) qw_399 rfl er5 dX11_setHumidity_31 ?_
  refine hk_getR F9 G kr5 hkc_3 (k := 0) (by decide) qw_172 rfl er7 dX11_setHumidity_34 ?_
  refine lv_iload_n hx hb dX11_setHumidity_37 rfl (lv_at hl 2 rfl) ?_
  obtain ⟨S9, eS9, hsp⟩ := hk_l hsp
  refine hk_putI F9 G kr7 hkc_0 (k := 1) (by decide) qw_53 rfl rfl (tyX1_ok 1 (by decide)) rfl rfl dX11_setHumidity_38 (fun H locs G => ?_)
  rw [eS9] at G
  refine lv_iload_n hx hb dX11_setHumidity_41 rfl (lv_at hl 0 rfl) ?_
  obtain rfl := hk_s hsp
  exact vx_ret (W.widen (k := 1) (n := 6) (Nat.le_of_ble_eq_true rfl) (Nat.le_of_ble_eq_true rfl) (W.iret (v := y8) hx hb hr (fun t ht hW => ⟨_, rfl, hk_end G ht hW⟩) G.2.1.2.2 dX11_setHumidity_42))
def mX11_announceMonsoon (E : hk_E) (F : Nat) (S : hk_S) (a0 : Nat) (x1 : Int32) : Option (Sum (Nat × hk_S) (Int32 × hk_S)) :=
(E.2.2.2 a0 0).bind (fun r1 => if E.2.1 r1 = 4 then ((E.2.2.2 r1 0).bind (fun r2 => if E.2.1 r2 = 1 then ((mX1_presentDay E F S r2).bind (fun r3 => hk_xb (mX11_requireRange E F r3.2 x1 r3.1 83) (fun r4 => (mX1_hasRoomForMonsoon E F r4 r2).bind (fun r7 => if ¬ r7.1 = 0 then (hk_xb (mX11_refuseIf E F r7.2 0) (fun r9 => (E.2.2.2 a0 3).bind (fun r12 => if E.2.1 r12 = 2 then ((mX3_remember E F r9 r12 r1).bind (fun r13 => (mX1_addMonsoon E F r13 r2 x1).bind (fun r14 => some (.inr (((r14 r2 3), r14)))))) else none))) else (hk_xb (mX11_refuseIf E F r7.2 1) (fun r15 => (E.2.2.2 a0 3).bind (fun r18 => if E.2.1 r18 = 2 then ((mX3_remember E F r15 r18 r1).bind (fun r19 => (mX1_addMonsoon E F r19 r2 x1).bind (fun r20 => some (.inr (((r20 r2 3), r20)))))) else none))))))) else none)) else none)
set_option maxHeartbeats 4000000 in
set_option maxRecDepth 100000 in
theorem kX11_announceMonsoon (l : Launch) (hst : l.stackTraces = false) (g : hk_G) (E : hk_E) (F n : Nat) (S : hk_S) (a0 : Nat) (x1 : Int32) (o : Sum (Nat × hk_S) (Int32 × hk_S)) (h0 : E.2.1 a0 = 9) (hsp : mX11_announceMonsoon E F S a0 x1 = some o) : vx_Met l yX11_announceMonsoon (hk_ws yX11_announceMonsoon cX11_announceMonsoon 2 (Option.some Jvm.ClassFile.FieldType.int)) ({ frames := 7, cells := 2, slots := 12, locals := 104 }) (hk_Pc g E S n [.ref (g.1 + a0), .int x1]) (hk_XQ g E n o (fun x => x.2) (fun x => some (.int x.1))) (hk_XX g E o) 2 12 (hk_A g) := by
  refine vx_ofW (cc := cX11_announceMonsoon) (maxL := 2) (ret := (Option.some Jvm.ClassFile.FieldType.int)) (by decide) rfl ?_
  intro p e s m args below meth c s₁ B hml ht hv
  obtain ⟨rfl, G⟩ := hk_begin hv
  have F9 : CallFix p m c cX11_announceMonsoon 2 s [.ref (g.1 + a0), .int x1].toArray hk_W RX11 := ⟨B.exec, B.bytes, hml, findClass_of_methodNamed B.named, fun w h => atoms_spec (ws := hk_ws yX11_announceMonsoon cX11_announceMonsoon 2 (Option.some Jvm.ClassFile.FieldType.int)) B.pre w (hk_in h)⟩
  have hx := B.exec
  have hb := B.bytes
  have hr := B.returns
  have hlocks := B.notSynchronized
  have hl := lv_entry ([.ref (g.1 + a0), .int x1]) (n := 2) (Nat.le_of_ble_eq_true rfl)
  rw [lg_entry_eq]
  generalize (lg_sl ([.ref (g.1 + a0), .int x1]) ++ List.replicate (2 - (lg_sl ([.ref (g.1 + a0), .int x1])).length) Slot.unset).toArray = ls at hl ⊢
  have hl : lv_has ls 2 [(0, .ref (g.1 + a0)), (1, .int x1)] := hl
  unfold mX11_announceMonsoon at hsp
  have G : hk_GG g E S n s s.heap [] := G
  refine lv_iload_n hx hb dX11_announceMonsoon_0 rfl (lv_at hl 1 rfl) ?_
  refine lv_aload_n hx hb dX11_announceMonsoon_1 rfl (lv_at hl 0 rfl) ?_
  obtain ⟨r1, er1, hsp⟩ := hk_b hsp
  obtain ⟨kr1, hsp⟩ := hk_k hsp
  refine hk_getR F9 G h0 hkc_8 (k := 0) (by decide) qw_399 rfl er1 dX11_announceMonsoon_2 ?_
  obtain ⟨r2, er2, hsp⟩ := hk_b hsp
  obtain ⟨kr2, hsp⟩ := hk_k hsp
  refine hk_getR F9 G kr1 hkc_3 (k := 0) (by decide) qw_172 rfl er2 dX11_announceMonsoon_5 ?_
  obtain ⟨r3, er3, hsp⟩ := hk_b hsp
  refine hk_callVi (As := []) (rest := [.int x1]) F9 G kr2 hkc_0 rfl (kX1_presentDay l g E F n S r2 r3 kr2 er3) qv_RX11_142 ⟨rfl, rfl, (Nat.le_of_ble_eq_true rfl), (Nat.le_of_ble_eq_true rfl)⟩ rfl hl.1 rfl (Nat.le_of_ble_eq_true rfl) ⟨(Nat.le_of_ble_eq_true rfl), (Nat.le_of_ble_eq_true rfl)⟩ dX11_announceMonsoon_8 (fun H locs G => ?_)
  refine lv_bipush (v := 83) hx hb dX11_announceMonsoon_11 (by decide) ?_
  rcases hk_xe hsp with ⟨k5, T6, er4, rfl⟩ | ⟨r4, er4, hsp⟩
  · exact hk_xSt (As := [.int x1, .int r3.1, .int 83]) (rest := []) F9 G (kX11_requireRange l hst g E F n r3.2 x1 r3.1 83 _  er4) qv_RX11_96 ⟨rfl, rfl, (Nat.le_of_ble_eq_true rfl), (Nat.le_of_ble_eq_true rfl)⟩ rfl hl.1 rfl (Nat.le_of_ble_eq_true rfl) ⟨(Nat.le_of_ble_eq_true rfl), (Nat.le_of_ble_eq_true rfl)⟩ dX11_announceMonsoon_13 ht hlocks ⟨(Nat.le_of_ble_eq_true rfl), (Nat.le_of_ble_eq_true rfl)⟩
  refine hk_xSv (As := [.int x1, .int r3.1, .int 83]) (rest := []) F9 G (kX11_requireRange l hst g E F n r3.2 x1 r3.1 83 _  er4) qv_RX11_96 ⟨rfl, rfl, (Nat.le_of_ble_eq_true rfl), (Nat.le_of_ble_eq_true rfl)⟩ rfl hl.1 rfl (Nat.le_of_ble_eq_true rfl) ⟨(Nat.le_of_ble_eq_true rfl), (Nat.le_of_ble_eq_true rfl)⟩ dX11_announceMonsoon_13 (fun H locs G => ?_)
  refine lv_aload_n hx hb dX11_announceMonsoon_16 rfl (lv_at hl 0 rfl) ?_
  refine hk_getR F9 G h0 hkc_8 (k := 0) (by decide) qw_399 rfl er1 dX11_announceMonsoon_17 ?_
  refine hk_getR F9 G kr1 hkc_3 (k := 0) (by decide) qw_172 rfl er2 dX11_announceMonsoon_20 ?_
  obtain ⟨r7, er7, hsp⟩ := hk_b hsp
  refine hk_callVi (As := []) (rest := []) F9 G kr2 hkc_0 rfl (kX1_hasRoomForMonsoon l g E F n r4 r2 r7 kr2 er7) qv_RX11_146 ⟨rfl, rfl, (Nat.le_of_ble_eq_true rfl), (Nat.le_of_ble_eq_true rfl)⟩ rfl hl.1 rfl (Nat.le_of_ble_eq_true rfl) ⟨(Nat.le_of_ble_eq_true rfl), (Nat.le_of_ble_eq_true rfl)⟩ dX11_announceMonsoon_23 (fun H locs G => ?_)
  refine lv_if_ne (tgt := 33) hx hb dX11_announceMonsoon_26 (by decide) (fun c8 => ?_) (fun c8 => ?_)
  · have hsp := hk_t c8 hsp
    refine lv_iconst (v := 0) hx hb dX11_announceMonsoon_33 (by decide) ?_
    rcases hk_xe hsp with ⟨k10, T11, er9, rfl⟩ | ⟨r9, er9, hsp⟩
    · exact hk_xSt (As := [.int 0]) (rest := []) F9 G (kX11_refuseIf l hst g E F n r7.2 0 _  er9) qv_RX11_120 ⟨rfl, rfl, (Nat.le_of_ble_eq_true rfl), (Nat.le_of_ble_eq_true rfl)⟩ rfl hl.1 rfl (Nat.le_of_ble_eq_true rfl) ⟨(Nat.le_of_ble_eq_true rfl), (Nat.le_of_ble_eq_true rfl)⟩ dX11_announceMonsoon_34 ht hlocks ⟨(Nat.le_of_ble_eq_true rfl), (Nat.le_of_ble_eq_true rfl)⟩
    refine hk_xSv (As := [.int 0]) (rest := []) F9 G (kX11_refuseIf l hst g E F n r7.2 0 _  er9) qv_RX11_120 ⟨rfl, rfl, (Nat.le_of_ble_eq_true rfl), (Nat.le_of_ble_eq_true rfl)⟩ rfl hl.1 rfl (Nat.le_of_ble_eq_true rfl) ⟨(Nat.le_of_ble_eq_true rfl), (Nat.le_of_ble_eq_true rfl)⟩ dX11_announceMonsoon_34 (fun H locs G => ?_)
    refine lv_aload_n hx hb dX11_announceMonsoon_37 rfl (lv_at hl 0 rfl) ?_
    obtain ⟨r12, er12, hsp⟩ := hk_b hsp
    obtain ⟨kr12, hsp⟩ := hk_k hsp
    refine hk_getR F9 G h0 hkc_8 (k := 3) (by decide) qw_402 rfl er12 dX11_announceMonsoon_38 ?_
    refine lv_aload_n hx hb dX11_announceMonsoon_41 rfl (lv_at hl 0 rfl) ?_
    refine hk_getR F9 G h0 hkc_8 (k := 0) (by decide) qw_399 rfl er1 dX11_announceMonsoon_42 ?_
    obtain ⟨r13, er13, hsp⟩ := hk_b hsp
    refine hk_callVv (As := [.ref (g.1 + r1)]) (rest := []) F9 G kr12 hkc_1 rfl (kX3_remember l g E F n r9 r12 r1 r13 kr12 kr1 er13) qv_RX11_104 ⟨rfl, rfl, (Nat.le_of_ble_eq_true rfl), (Nat.le_of_ble_eq_true rfl)⟩ rfl hl.1 rfl (Nat.le_of_ble_eq_true rfl) ⟨(Nat.le_of_ble_eq_true rfl), (Nat.le_of_ble_eq_true rfl)⟩ dX11_announceMonsoon_45 (fun H locs G => ?_)
    refine lv_aload_n hx hb dX11_announceMonsoon_48 rfl (lv_at hl 0 rfl) ?_
    refine hk_getR F9 G h0 hkc_8 (k := 0) (by decide) qw_399 rfl er1 dX11_announceMonsoon_49 ?_
    refine hk_getR F9 G kr1 hkc_3 (k := 0) (by decide) qw_172 rfl er2 dX11_announceMonsoon_52 ?_
    refine lv_iload_n hx hb dX11_announceMonsoon_55 rfl (lv_at hl 1 rfl) ?_
    obtain ⟨r14, er14, hsp⟩ := hk_b hsp
    refine hk_callVv (As := [.int x1]) (rest := []) F9 G kr2 hkc_0 rfl (kX1_addMonsoon l g E F n r13 r2 x1 r14 kr2 er14) qv_RX11_67 ⟨rfl, rfl, (Nat.le_of_ble_eq_true rfl), (Nat.le_of_ble_eq_true rfl)⟩ rfl hl.1 rfl (Nat.le_of_ble_eq_true rfl) ⟨(Nat.le_of_ble_eq_true rfl), (Nat.le_of_ble_eq_true rfl)⟩ dX11_announceMonsoon_56 (fun H locs G => ?_)
    refine lv_aload_n hx hb dX11_announceMonsoon_59 rfl (lv_at hl 0 rfl) ?_
    refine hk_getR F9 G h0 hkc_8 (k := 0) (by decide) qw_399 rfl er1 dX11_announceMonsoon_60 ?_
    refine hk_getR F9 G kr1 hkc_3 (k := 0) (by decide) qw_172 rfl er2 dX11_announceMonsoon_63 ?_
    refine hk_getI F9 G kr2 hkc_0 (k := 3) (by decide) qw_58 rfl dX11_announceMonsoon_66 ?_
    obtain rfl := hk_s hsp
    exact vx_ret (W.widen (k := 2) (n := 12) (Nat.le_of_ble_eq_true rfl) (Nat.le_of_ble_eq_true rfl) (W.iret (v := (r14 r2 3)) hx hb hr (fun t ht hW => ⟨_, rfl, hk_end G ht hW⟩) G.2.1.2.2 dX11_announceMonsoon_69))
  · have hsp := hk_g c8 hsp
    refine lv_iconst (v := 1) hx hb dX11_announceMonsoon_29 (by decide) ?_
    refine lv_goto (tgt := 34) hx hb dX11_announceMonsoon_30 (by decide) ?_
    rcases hk_xe hsp with ⟨k16, T17, er15, rfl⟩ | ⟨r15, er15, hsp⟩
    · exact hk_xSt (As := [.int 1]) (rest := []) F9 G (kX11_refuseIf l hst g E F n r7.2 1 _  er15) qv_RX11_120 ⟨rfl, rfl, (Nat.le_of_ble_eq_true rfl), (Nat.le_of_ble_eq_true rfl)⟩ rfl hl.1 rfl (Nat.le_of_ble_eq_true rfl) ⟨(Nat.le_of_ble_eq_true rfl), (Nat.le_of_ble_eq_true rfl)⟩ dX11_announceMonsoon_34 ht hlocks ⟨(Nat.le_of_ble_eq_true rfl), (Nat.le_of_ble_eq_true rfl)⟩
    refine hk_xSv (As := [.int 1]) (rest := []) F9 G (kX11_refuseIf l hst g E F n r7.2 1 _  er15) qv_RX11_120 ⟨rfl, rfl, (Nat.le_of_ble_eq_true rfl), (Nat.le_of_ble_eq_true rfl)⟩ rfl hl.1 rfl (Nat.le_of_ble_eq_true rfl) ⟨(Nat.le_of_ble_eq_true rfl), (Nat.le_of_ble_eq_true rfl)⟩ dX11_announceMonsoon_34 (fun H locs G => ?_)
    refine lv_aload_n hx hb dX11_announceMonsoon_37 rfl (lv_at hl 0 rfl) ?_
    obtain ⟨r18, er18, hsp⟩ := hk_b hsp
    obtain ⟨kr18, hsp⟩ := hk_k hsp
    refine hk_getR F9 G h0 hkc_8 (k := 3) (by decide) qw_402 rfl er18 dX11_announceMonsoon_38 ?_
    refine lv_aload_n hx hb dX11_announceMonsoon_41 rfl (lv_at hl 0 rfl) ?_
    refine hk_getR F9 G h0 hkc_8 (k := 0) (by decide) qw_399 rfl er1 dX11_announceMonsoon_42 ?_
    obtain ⟨r19, er19, hsp⟩ := hk_b hsp
    refine hk_callVv (As := [.ref (g.1 + r1)]) (rest := []) F9 G kr18 hkc_1 rfl (kX3_remember l g E F n r15 r18 r1 r19 kr18 kr1 er19) qv_RX11_104 ⟨rfl, rfl, (Nat.le_of_ble_eq_true rfl), (Nat.le_of_ble_eq_true rfl)⟩ rfl hl.1 rfl (Nat.le_of_ble_eq_true rfl) ⟨(Nat.le_of_ble_eq_true rfl), (Nat.le_of_ble_eq_true rfl)⟩ dX11_announceMonsoon_45 (fun H locs G => ?_)
    refine lv_aload_n hx hb dX11_announceMonsoon_48 rfl (lv_at hl 0 rfl) ?_
    refine hk_getR F9 G h0 hkc_8 (k := 0) (by decide) qw_399 rfl er1 dX11_announceMonsoon_49 ?_
    refine hk_getR F9 G kr1 hkc_3 (k := 0) (by decide) qw_172 rfl er2 dX11_announceMonsoon_52 ?_
    refine lv_iload_n hx hb dX11_announceMonsoon_55 rfl (lv_at hl 1 rfl) ?_
    obtain ⟨r20, er20, hsp⟩ := hk_b hsp
    refine hk_callVv (As := [.int x1]) (rest := []) F9 G kr2 hkc_0 rfl (kX1_addMonsoon l g E F n r19 r2 x1 r20 kr2 er20) qv_RX11_67 ⟨rfl, rfl, (Nat.le_of_ble_eq_true rfl), (Nat.le_of_ble_eq_true rfl)⟩ rfl hl.1 rfl (Nat.le_of_ble_eq_true rfl) ⟨(Nat.le_of_ble_eq_true rfl), (Nat.le_of_ble_eq_true rfl)⟩ dX11_announceMonsoon_56 (fun H locs G => ?_)
    refine lv_aload_n hx hb dX11_announceMonsoon_59 rfl (lv_at hl 0 rfl) ?_
    refine hk_getR F9 G h0 hkc_8 (k := 0) (by decide) qw_399 rfl er1 dX11_announceMonsoon_60 ?_
    refine hk_getR F9 G kr1 hkc_3 (k := 0) (by decide) qw_172 rfl er2 dX11_announceMonsoon_63 ?_
    refine hk_getI F9 G kr2 hkc_0 (k := 3) (by decide) qw_58 rfl dX11_announceMonsoon_66 ?_
    obtain rfl := hk_s hsp
    exact vx_ret (W.widen (k := 2) (n := 12) (Nat.le_of_ble_eq_true rfl) (Nat.le_of_ble_eq_true rfl) (W.iret (v := (r20 r2 3)) hx hb hr (fun t ht hW => ⟨_, rfl, hk_end G ht hW⟩) G.2.1.2.2 dX11_announceMonsoon_69))
def mX11_setTarget (E : hk_E) (F : Nat) (S : hk_S) (a0 : Nat) (x1 : Int32) (x2 : Int32) : Option (Sum (Nat × hk_S) (Int32 × hk_S)) :=
hk_xb (mX11_requireRange E F S x1 500 700) (fun r1 => hk_xb (mX11_requireRange E F r1 x2 5 50) (fun r4 => (E.2.2.2 a0 3).bind (fun r7 => if E.2.1 r7 = 2 then ((E.2.2.2 a0 0).bind (fun r8 => if E.2.1 r8 = 4 then ((mX3_remember E F r4 r7 r8).bind (fun r9 => (mX5_aimAt E F r9 r8 x1 x2).bind (fun r10 => (mX5_setOfReady E F r10 r8).bind (fun r11 => (mJ6_bitCount_0f7a4 E F r11.2 r11.1).bind (fun r12 => some (.inr ((r12.1, r12.2)))))))) else none)) else none)))
set_option maxHeartbeats 4000000 in
set_option maxRecDepth 100000 in
theorem kX11_setTarget (l : Launch) (hst : l.stackTraces = false) (g : hk_G) (E : hk_E) (F n : Nat) (S : hk_S) (a0 : Nat) (x1 : Int32) (x2 : Int32) (o : Sum (Nat × hk_S) (Int32 × hk_S)) (h0 : E.2.1 a0 = 9) (hsp : mX11_setTarget E F S a0 x1 x2 = some o) : vx_Met l yX11_setTarget (hk_ws yX11_setTarget cX11_setTarget 3 (Option.some Jvm.ClassFile.FieldType.int)) ({ frames := 7, cells := 2, slots := 12, locals := 104 }) (hk_Pc g E S n [.ref (g.1 + a0), .int x1, .int x2]) (hk_XQ g E n o (fun x => x.2) (fun x => some (.int x.1))) (hk_XX g E o) 2 12 (hk_A g) := by
  refine vx_ofW (cc := cX11_setTarget) (maxL := 3) (ret := (Option.some Jvm.ClassFile.FieldType.int)) (by decide) rfl ?_
  intro p e s m args below meth c s₁ B hml ht hv
  obtain ⟨rfl, G⟩ := hk_begin hv
  have F9 : CallFix p m c cX11_setTarget 3 s [.ref (g.1 + a0), .int x1, .int x2].toArray hk_W RX11 := ⟨B.exec, B.bytes, hml, findClass_of_methodNamed B.named, fun w h => atoms_spec (ws := hk_ws yX11_setTarget cX11_setTarget 3 (Option.some Jvm.ClassFile.FieldType.int)) B.pre w (hk_in h)⟩
  have hx := B.exec
  have hb := B.bytes
  have hr := B.returns
  have hlocks := B.notSynchronized
  have hl := lv_entry ([.ref (g.1 + a0), .int x1, .int x2]) (n := 3) (Nat.le_of_ble_eq_true rfl)
  rw [lg_entry_eq]
  generalize (lg_sl ([.ref (g.1 + a0), .int x1, .int x2]) ++ List.replicate (3 - (lg_sl ([.ref (g.1 + a0), .int x1, .int x2])).length) Slot.unset).toArray = ls at hl ⊢
  have hl : lv_has ls 3 [(0, .ref (g.1 + a0)), (1, .int x1), (2, .int x2)] := hl
  unfold mX11_setTarget at hsp
  have G : hk_GG g E S n s s.heap [] := G
  refine lv_iload_n hx hb dX11_setTarget_0 rfl (lv_at hl 1 rfl) ?_
  refine lv_sipush (v := 500) hx hb dX11_setTarget_1 (by decide) ?_
  refine lv_sipush (v := 700) hx hb dX11_setTarget_4 (by decide) ?_
  rcases hk_xe hsp with ⟨k2, T3, er1, rfl⟩ | ⟨r1, er1, hsp⟩
  · exact hk_xSt (As := [.int x1, .int 500, .int 700]) (rest := []) F9 G (kX11_requireRange l hst g E F n S x1 500 700 _  er1) qv_RX11_96 ⟨rfl, rfl, (Nat.le_of_ble_eq_true rfl), (Nat.le_of_ble_eq_true rfl)⟩ rfl hl.1 rfl (Nat.le_of_ble_eq_true rfl) ⟨(Nat.le_of_ble_eq_true rfl), (Nat.le_of_ble_eq_true rfl)⟩ dX11_setTarget_7 ht hlocks ⟨(Nat.le_of_ble_eq_true rfl), (Nat.le_of_ble_eq_true rfl)⟩
  refine hk_xSv (As := [.int x1, .int 500, .int 700]) (rest := []) F9 G (kX11_requireRange l hst g E F n S x1 500 700 _  er1) qv_RX11_96 ⟨rfl, rfl, (Nat.le_of_ble_eq_true rfl), (Nat.le_of_ble_eq_true rfl)⟩ rfl hl.1 rfl (Nat.le_of_ble_eq_true rfl) ⟨(Nat.le_of_ble_eq_true rfl), (Nat.le_of_ble_eq_true rfl)⟩ dX11_setTarget_7 (fun H locs G => ?_)
  refine lv_iload_n hx hb dX11_setTarget_10 rfl (lv_at hl 2 rfl) ?_
  refine lv_iconst (v := 5) hx hb dX11_setTarget_11 (by decide) ?_
  refine lv_bipush (v := 50) hx hb dX11_setTarget_12 (by decide) ?_
  rcases hk_xe hsp with ⟨k5, T6, er4, rfl⟩ | ⟨r4, er4, hsp⟩
  · exact hk_xSt (As := [.int x2, .int 5, .int 50]) (rest := []) F9 G (kX11_requireRange l hst g E F n r1 x2 5 50 _  er4) qv_RX11_96 ⟨rfl, rfl, (Nat.le_of_ble_eq_true rfl), (Nat.le_of_ble_eq_true rfl)⟩ rfl hl.1 rfl (Nat.le_of_ble_eq_true rfl) ⟨(Nat.le_of_ble_eq_true rfl), (Nat.le_of_ble_eq_true rfl)⟩ dX11_setTarget_14 ht hlocks ⟨(Nat.le_of_ble_eq_true rfl), (Nat.le_of_ble_eq_true rfl)⟩
  refine hk_xSv (As := [.int x2, .int 5, .int 50]) (rest := []) F9 G (kX11_requireRange l hst g E F n r1 x2 5 50 _  er4) qv_RX11_96 ⟨rfl, rfl, (Nat.le_of_ble_eq_true rfl), (Nat.le_of_ble_eq_true rfl)⟩ rfl hl.1 rfl (Nat.le_of_ble_eq_true rfl) ⟨(Nat.le_of_ble_eq_true rfl), (Nat.le_of_ble_eq_true rfl)⟩ dX11_setTarget_14 (fun H locs G => ?_)
  refine lv_aload_n hx hb dX11_setTarget_17 rfl (lv_at hl 0 rfl) ?_
  obtain ⟨r7, er7, hsp⟩ := hk_b hsp
  obtain ⟨kr7, hsp⟩ := hk_k hsp
  refine hk_getR F9 G h0 hkc_8 (k := 3) (by decide) qw_402 rfl er7 dX11_setTarget_18 ?_
  refine lv_aload_n hx hb dX11_setTarget_21 rfl (lv_at hl 0 rfl) ?_
  obtain ⟨r8, er8, hsp⟩ := hk_b hsp
  obtain ⟨kr8, hsp⟩ := hk_k hsp
  refine hk_getR F9 G h0 hkc_8 (k := 0) (by decide) qw_399 rfl er8 dX11_setTarget_22 ?_
  obtain ⟨r9, er9, hsp⟩ := hk_b hsp
  refine hk_callVv (As := [.ref (g.1 + r8)]) (rest := []) F9 G kr7 hkc_1 rfl (kX3_remember l g E F n r4 r7 r8 r9 kr7 kr8 er9) qv_RX11_104 ⟨rfl, rfl, (Nat.le_of_ble_eq_true rfl), (Nat.le_of_ble_eq_true rfl)⟩ rfl hl.1 rfl (Nat.le_of_ble_eq_true rfl) ⟨(Nat.le_of_ble_eq_true rfl), (Nat.le_of_ble_eq_true rfl)⟩ dX11_setTarget_25 (fun H locs G => ?_)
  refine lv_aload_n hx hb dX11_setTarget_28 rfl (lv_at hl 0 rfl) ?_
  refine hk_getR F9 G h0 hkc_8 (k := 0) (by decide) qw_399 rfl er8 dX11_setTarget_29 ?_
  refine lv_iload_n hx hb dX11_setTarget_32 rfl (lv_at hl 1 rfl) ?_
  refine lv_iload_n hx hb dX11_setTarget_33 rfl (lv_at hl 2 rfl) ?_
  obtain ⟨r10, er10, hsp⟩ := hk_b hsp
  refine hk_callVv (As := [.int x1, .int x2]) (rest := []) F9 G kr8 hkc_3 rfl (kX5_aimAt l g E F n r9 r8 x1 x2 r10 kr8 er10) qv_RX11_152 ⟨rfl, rfl, (Nat.le_of_ble_eq_true rfl), (Nat.le_of_ble_eq_true rfl)⟩ rfl hl.1 rfl (Nat.le_of_ble_eq_true rfl) ⟨(Nat.le_of_ble_eq_true rfl), (Nat.le_of_ble_eq_true rfl)⟩ dX11_setTarget_34 (fun H locs G => ?_)
  refine lv_aload_n hx hb dX11_setTarget_37 rfl (lv_at hl 0 rfl) ?_
  refine hk_getR F9 G h0 hkc_8 (k := 0) (by decide) qw_399 rfl er8 dX11_setTarget_38 ?_
  obtain ⟨r11, er11, hsp⟩ := hk_b hsp
  refine hk_callVi (As := []) (rest := []) F9 G kr8 hkc_3 rfl (kX5_setOfReady l g E F n r10 r8 r11 kr8 er11) qv_RX11_156 ⟨rfl, rfl, (Nat.le_of_ble_eq_true rfl), (Nat.le_of_ble_eq_true rfl)⟩ rfl hl.1 rfl (Nat.le_of_ble_eq_true rfl) ⟨(Nat.le_of_ble_eq_true rfl), (Nat.le_of_ble_eq_true rfl)⟩ dX11_setTarget_41 (fun H locs G => ?_)
  obtain ⟨r12, er12, hsp⟩ := hk_b hsp
  refine hk_callSi (As := [.int r11.1]) (rest := []) F9 G (kJ6_bitCount_0f7a4 l g E F n r11.2 r11.1 r12  er12) qv_RX11_159 ⟨rfl, rfl, (Nat.le_of_ble_eq_true rfl), (Nat.le_of_ble_eq_true rfl)⟩ rfl hl.1 rfl (Nat.le_of_ble_eq_true rfl) ⟨(Nat.le_of_ble_eq_true rfl), (Nat.le_of_ble_eq_true rfl)⟩ dX11_setTarget_44 (fun H locs G => ?_)
  obtain rfl := hk_s hsp
  exact vx_ret (W.widen (k := 2) (n := 12) (Nat.le_of_ble_eq_true rfl) (Nat.le_of_ble_eq_true rfl) (W.iret (v := r12.1) hx hb hr (fun t ht hW => ⟨_, rfl, hk_end G ht hW⟩) G.2.1.2.2 dX11_setTarget_47))
def mX11_turnLeaf (E : hk_E) (F : Nat) (S : hk_S) (a0 : Nat) (x1 : Int32) : Option (Sum (Nat × hk_S) (Int32 × hk_S)) :=
hk_xb (mX11_existingTrough E F S a0 x1) (fun r1 => if E.2.1 r1.1 = 8 then ((mX10_hasLeaf E F r1.2 r1.1).bind (fun r5 => if ¬ r5.1 = 0 then (hk_xb (mX11_refuseIf E F r5.2 0) (fun r7 => (E.2.2.2 a0 3).bind (fun r10 => if E.2.1 r10 = 2 then ((E.2.2.2 a0 0).bind (fun r11 => if E.2.1 r11 = 4 then ((mX3_remember E F r7 r10 r11).bind (fun r12 => (mX10_mixLayers E F r12 r1.1).bind (fun r13 => some (.inr (((r13 r1.1 7), r13)))))) else none)) else none))) else (hk_xb (mX11_refuseIf E F r5.2 1) (fun r14 => (E.2.2.2 a0 3).bind (fun r17 => if E.2.1 r17 = 2 then ((E.2.2.2 a0 0).bind (fun r18 => if E.2.1 r18 = 4 then ((mX3_remember E F r14 r17 r18).bind (fun r19 => (mX10_mixLayers E F r19 r1.1).bind (fun r20 => some (.inr (((r20 r1.1 7), r20)))))) else none)) else none))))) else none)
set_option maxHeartbeats 4000000 in
set_option maxRecDepth 100000 in
theorem kX11_turnLeaf (l : Launch) (hst : l.stackTraces = false) (g : hk_G) (E : hk_E) (F n : Nat) (S : hk_S) (a0 : Nat) (x1 : Int32) (o : Sum (Nat × hk_S) (Int32 × hk_S)) (h0 : E.2.1 a0 = 9) (hsp : mX11_turnLeaf E F S a0 x1 = some o) : vx_Met l yX11_turnLeaf (hk_ws yX11_turnLeaf cX11_turnLeaf 3 (Option.some Jvm.ClassFile.FieldType.int)) ({ frames := 7, cells := 2, slots := 12, locals := 103 }) (hk_Pc g E S n [.ref (g.1 + a0), .int x1]) (hk_XQ g E n o (fun x => x.2) (fun x => some (.int x.1))) (hk_XX g E o) 2 12 (hk_A g) := by
  refine vx_ofW (cc := cX11_turnLeaf) (maxL := 3) (ret := (Option.some Jvm.ClassFile.FieldType.int)) (by decide) rfl ?_
  intro p e s m args below meth c s₁ B hml ht hv
  obtain ⟨rfl, G⟩ := hk_begin hv
  have F9 : CallFix p m c cX11_turnLeaf 3 s [.ref (g.1 + a0), .int x1].toArray hk_W RX11 := ⟨B.exec, B.bytes, hml, findClass_of_methodNamed B.named, fun w h => atoms_spec (ws := hk_ws yX11_turnLeaf cX11_turnLeaf 3 (Option.some Jvm.ClassFile.FieldType.int)) B.pre w (hk_in h)⟩
  have hx := B.exec
  have hb := B.bytes
  have hr := B.returns
  have hlocks := B.notSynchronized
  have hl := lv_entry ([.ref (g.1 + a0), .int x1]) (n := 3) (Nat.le_of_ble_eq_true rfl)
  rw [lg_entry_eq]
  generalize (lg_sl ([.ref (g.1 + a0), .int x1]) ++ List.replicate (3 - (lg_sl ([.ref (g.1 + a0), .int x1])).length) Slot.unset).toArray = ls at hl ⊢
  have hl : lv_has ls 3 [(0, .ref (g.1 + a0)), (1, .int x1)] := hl
  unfold mX11_turnLeaf at hsp
  have G : hk_GG g E S n s s.heap [] := G
  refine lv_aload_n hx hb dX11_turnLeaf_0 rfl (lv_at hl 0 rfl) ?_
  refine lv_iload_n hx hb dX11_turnLeaf_1 rfl (lv_at hl 1 rfl) ?_
  rcases hk_xe hsp with ⟨k2, T3, er1, rfl⟩ | ⟨r1, er1, hsp⟩
  · exact hk_xVt (As := [.int x1]) (rest := []) F9 G h0 hkc_8 rfl (kX11_existingTrough l hst g E F n S a0 x1 _ h0 er1) qv_RX11_124 ⟨rfl, rfl, (Nat.le_of_ble_eq_true rfl), (Nat.le_of_ble_eq_true rfl)⟩ rfl hl.1 rfl (Nat.le_of_ble_eq_true rfl) ⟨(Nat.le_of_ble_eq_true rfl), (Nat.le_of_ble_eq_true rfl)⟩ dX11_turnLeaf_2 ht hlocks ⟨(Nat.le_of_ble_eq_true rfl), (Nat.le_of_ble_eq_true rfl)⟩
  refine hk_xVr (As := [.int x1]) (rest := []) F9 G h0 hkc_8 rfl (kX11_existingTrough l hst g E F n S a0 x1 _ h0 er1) qv_RX11_124 ⟨rfl, rfl, (Nat.le_of_ble_eq_true rfl), (Nat.le_of_ble_eq_true rfl)⟩ rfl hl.1 rfl (Nat.le_of_ble_eq_true rfl) ⟨(Nat.le_of_ble_eq_true rfl), (Nat.le_of_ble_eq_true rfl)⟩ dX11_turnLeaf_2 (fun H locs G => ?_)
  obtain ⟨q4, hsp⟩ := hk_k hsp
  refine lv_astore_n (lv' := [(2, .ref (g.1 + r1.1)), (0, .ref (g.1 + a0)), (1, .int x1)]) hx hb dX11_turnLeaf_5 rfl hl (by decide) rfl (fun ls hl => ?_)
  refine lv_aload_n hx hb dX11_turnLeaf_6 rfl (lv_at hl 0 rfl) ?_
  obtain ⟨r5, er5, hsp⟩ := hk_b hsp
  refine hk_callVi (As := []) (rest := []) F9 G q4 hkc_7 rfl (kX10_hasLeaf l g E F n r1.2 r1.1 r5 q4 er5) qv_RX11_130 ⟨rfl, rfl, (Nat.le_of_ble_eq_true rfl), (Nat.le_of_ble_eq_true rfl)⟩ rfl hl.1 rfl (Nat.le_of_ble_eq_true rfl) ⟨(Nat.le_of_ble_eq_true rfl), (Nat.le_of_ble_eq_true rfl)⟩ dX11_turnLeaf_7 (fun H locs G => ?_)
  refine lv_if_ne (tgt := 17) hx hb dX11_turnLeaf_10 (by decide) (fun c6 => ?_) (fun c6 => ?_)
  · have hsp := hk_t c6 hsp
    refine lv_iconst (v := 0) hx hb dX11_turnLeaf_17 (by decide) ?_
    rcases hk_xe hsp with ⟨k8, T9, er7, rfl⟩ | ⟨r7, er7, hsp⟩
    · exact hk_xSt (As := [.int 0]) (rest := []) F9 G (kX11_refuseIf l hst g E F n r5.2 0 _  er7) qv_RX11_120 ⟨rfl, rfl, (Nat.le_of_ble_eq_true rfl), (Nat.le_of_ble_eq_true rfl)⟩ rfl hl.1 rfl (Nat.le_of_ble_eq_true rfl) ⟨(Nat.le_of_ble_eq_true rfl), (Nat.le_of_ble_eq_true rfl)⟩ dX11_turnLeaf_18 ht hlocks ⟨(Nat.le_of_ble_eq_true rfl), (Nat.le_of_ble_eq_true rfl)⟩
    refine hk_xSv (As := [.int 0]) (rest := []) F9 G (kX11_refuseIf l hst g E F n r5.2 0 _  er7) qv_RX11_120 ⟨rfl, rfl, (Nat.le_of_ble_eq_true rfl), (Nat.le_of_ble_eq_true rfl)⟩ rfl hl.1 rfl (Nat.le_of_ble_eq_true rfl) ⟨(Nat.le_of_ble_eq_true rfl), (Nat.le_of_ble_eq_true rfl)⟩ dX11_turnLeaf_18 (fun H locs G => ?_)
    refine lv_aload_n hx hb dX11_turnLeaf_21 rfl (lv_at hl 1 rfl) ?_
    obtain ⟨r10, er10, hsp⟩ := hk_b hsp
    obtain ⟨kr10, hsp⟩ := hk_k hsp
    refine hk_getR F9 G h0 hkc_8 (k := 3) (by decide) qw_402 rfl er10 dX11_turnLeaf_22 ?_
    refine lv_aload_n hx hb dX11_turnLeaf_25 rfl (lv_at hl 1 rfl) ?_
    obtain ⟨r11, er11, hsp⟩ := hk_b hsp
    obtain ⟨kr11, hsp⟩ := hk_k hsp
    refine hk_getR F9 G h0 hkc_8 (k := 0) (by decide) qw_399 rfl er11 dX11_turnLeaf_26 ?_
    obtain ⟨r12, er12, hsp⟩ := hk_b hsp
    refine hk_callVv (As := [.ref (g.1 + r11)]) (rest := []) F9 G kr10 hkc_1 rfl (kX3_remember l g E F n r7 r10 r11 r12 kr10 kr11 er12) qv_RX11_104 ⟨rfl, rfl, (Nat.le_of_ble_eq_true rfl), (Nat.le_of_ble_eq_true rfl)⟩ rfl hl.1 rfl (Nat.le_of_ble_eq_true rfl) ⟨(Nat.le_of_ble_eq_true rfl), (Nat.le_of_ble_eq_true rfl)⟩ dX11_turnLeaf_29 (fun H locs G => ?_)
    refine lv_aload_n hx hb dX11_turnLeaf_32 rfl (lv_at hl 0 rfl) ?_
    obtain ⟨r13, er13, hsp⟩ := hk_b hsp
    refine hk_callVv (As := []) (rest := []) F9 G q4 hkc_7 rfl (kX10_mixLayers l g E F n r12 r1.1 r13 q4 er13) qv_RX11_164 ⟨rfl, rfl, (Nat.le_of_ble_eq_true rfl), (Nat.le_of_ble_eq_true rfl)⟩ rfl hl.1 rfl (Nat.le_of_ble_eq_true rfl) ⟨(Nat.le_of_ble_eq_true rfl), (Nat.le_of_ble_eq_true rfl)⟩ dX11_turnLeaf_33 (fun H locs G => ?_)
    refine lv_aload_n hx hb dX11_turnLeaf_36 rfl (lv_at hl 0 rfl) ?_
    refine hk_getI F9 G q4 hkc_7 (k := 7) (by decide) qw_106 rfl dX11_turnLeaf_37 ?_
    obtain rfl := hk_s hsp
    exact vx_ret (W.widen (k := 2) (n := 12) (Nat.le_of_ble_eq_true rfl) (Nat.le_of_ble_eq_true rfl) (W.iret (v := (r13 r1.1 7)) hx hb hr (fun t ht hW => ⟨_, rfl, hk_end G ht hW⟩) G.2.1.2.2 dX11_turnLeaf_40))
  · have hsp := hk_g c6 hsp
    refine lv_iconst (v := 1) hx hb dX11_turnLeaf_13 (by decide) ?_
    refine lv_goto (tgt := 18) hx hb dX11_turnLeaf_14 (by decide) ?_
    rcases hk_xe hsp with ⟨k15, T16, er14, rfl⟩ | ⟨r14, er14, hsp⟩
    · exact hk_xSt (As := [.int 1]) (rest := []) F9 G (kX11_refuseIf l hst g E F n r5.2 1 _  er14) qv_RX11_120 ⟨rfl, rfl, (Nat.le_of_ble_eq_true rfl), (Nat.le_of_ble_eq_true rfl)⟩ rfl hl.1 rfl (Nat.le_of_ble_eq_true rfl) ⟨(Nat.le_of_ble_eq_true rfl), (Nat.le_of_ble_eq_true rfl)⟩ dX11_turnLeaf_18 ht hlocks ⟨(Nat.le_of_ble_eq_true rfl), (Nat.le_of_ble_eq_true rfl)⟩
    refine hk_xSv (As := [.int 1]) (rest := []) F9 G (kX11_refuseIf l hst g E F n r5.2 1 _  er14) qv_RX11_120 ⟨rfl, rfl, (Nat.le_of_ble_eq_true rfl), (Nat.le_of_ble_eq_true rfl)⟩ rfl hl.1 rfl (Nat.le_of_ble_eq_true rfl) ⟨(Nat.le_of_ble_eq_true rfl), (Nat.le_of_ble_eq_true rfl)⟩ dX11_turnLeaf_18 (fun H locs G => ?_)
    refine lv_aload_n hx hb dX11_turnLeaf_21 rfl (lv_at hl 1 rfl) ?_
    obtain ⟨r17, er17, hsp⟩ := hk_b hsp
    obtain ⟨kr17, hsp⟩ := hk_k hsp
    refine hk_getR F9 G h0 hkc_8 (k := 3) (by decide) qw_402 rfl er17 dX11_turnLeaf_22 ?_
    refine lv_aload_n hx hb dX11_turnLeaf_25 rfl (lv_at hl 1 rfl) ?_
    obtain ⟨r18, er18, hsp⟩ := hk_b hsp
    obtain ⟨kr18, hsp⟩ := hk_k hsp
    refine hk_getR F9 G h0 hkc_8 (k := 0) (by decide) qw_399 rfl er18 dX11_turnLeaf_26 ?_
    obtain ⟨r19, er19, hsp⟩ := hk_b hsp
    refine hk_callVv (As := [.ref (g.1 + r18)]) (rest := []) F9 G kr17 hkc_1 rfl (kX3_remember l g E F n r14 r17 r18 r19 kr17 kr18 er19) qv_RX11_104 ⟨rfl, rfl, (Nat.le_of_ble_eq_true rfl), (Nat.le_of_ble_eq_true rfl)⟩ rfl hl.1 rfl (Nat.le_of_ble_eq_true rfl) ⟨(Nat.le_of_ble_eq_true rfl), (Nat.le_of_ble_eq_true rfl)⟩ dX11_turnLeaf_29 (fun H locs G => ?_)
    refine lv_aload_n hx hb dX11_turnLeaf_32 rfl (lv_at hl 0 rfl) ?_
    obtain ⟨r20, er20, hsp⟩ := hk_b hsp
    refine hk_callVv (As := []) (rest := []) F9 G q4 hkc_7 rfl (kX10_mixLayers l g E F n r19 r1.1 r20 q4 er20) qv_RX11_164 ⟨rfl, rfl, (Nat.le_of_ble_eq_true rfl), (Nat.le_of_ble_eq_true rfl)⟩ rfl hl.1 rfl (Nat.le_of_ble_eq_true rfl) ⟨(Nat.le_of_ble_eq_true rfl), (Nat.le_of_ble_eq_true rfl)⟩ dX11_turnLeaf_33 (fun H locs G => ?_)
    refine lv_aload_n hx hb dX11_turnLeaf_36 rfl (lv_at hl 0 rfl) ?_
    refine hk_getI F9 G q4 hkc_7 (k := 7) (by decide) qw_106 rfl dX11_turnLeaf_37 ?_
    obtain rfl := hk_s hsp
    exact vx_ret (W.widen (k := 2) (n := 12) (Nat.le_of_ble_eq_true rfl) (Nat.le_of_ble_eq_true rfl) (W.iret (v := (r20 r1.1 7)) hx hb hr (fun t ht hW => ⟨_, rfl, hk_end G ht hW⟩) G.2.1.2.2 dX11_turnLeaf_40))
def mX11_discharge (E : hk_E) (F : Nat) (S : hk_S) (a0 : Nat) (x1 : Int32) : Option (Sum (Nat × hk_S) (Int32 × hk_S)) :=
hk_xb (mX11_existingTrough E F S a0 x1) (fun r1 => if E.2.1 r1.1 = 8 then ((E.2.2.2 a0 0).bind (fun r5 => if E.2.1 r5 = 4 then ((mX5_refusalOf E F r1.2 r5 r1.1).bind (fun r6 => if r6.1 = 0 then (hk_xb (mX11_refuseIf E F r6.2 0) (fun r8 => (E.2.2.2 a0 3).bind (fun r11 => if E.2.1 r11 = 2 then ((mX3_remember E F r8 r11 r5).bind (fun r12 => (mX5_dischargeLeaf E F r12 r5 r1.1).bind (fun r13 => some (.inr ((r13.1, r13.2)))))) else none))) else (hk_xb (mX11_refuseIf E F r6.2 1) (fun r14 => (E.2.2.2 a0 3).bind (fun r17 => if E.2.1 r17 = 2 then ((mX3_remember E F r14 r17 r5).bind (fun r18 => (mX5_dischargeLeaf E F r18 r5 r1.1).bind (fun r19 => some (.inr ((r19.1, r19.2)))))) else none))))) else none)) else none)
set_option maxHeartbeats 4000000 in
set_option maxRecDepth 100000 in
theorem kX11_discharge (l : Launch) (hst : l.stackTraces = false) (g : hk_G) (E : hk_E) (F n : Nat) (S : hk_S) (a0 : Nat) (x1 : Int32) (o : Sum (Nat × hk_S) (Int32 × hk_S)) (h0 : E.2.1 a0 = 9) (hsp : mX11_discharge E F S a0 x1 = some o) : vx_Met l yX11_discharge (hk_ws yX11_discharge cX11_discharge 3 (Option.some Jvm.ClassFile.FieldType.int)) ({ frames := 7, cells := 2, slots := 12, locals := 103 }) (hk_Pc g E S n [.ref (g.1 + a0), .int x1]) (hk_XQ g E n o (fun x => x.2) (fun x => some (.int x.1))) (hk_XX g E o) 2 12 (hk_A g) := by
  refine vx_ofW (cc := cX11_discharge) (maxL := 3) (ret := (Option.some Jvm.ClassFile.FieldType.int)) (by decide) rfl ?_
  intro p e s m args below meth c s₁ B hml ht hv
  obtain ⟨rfl, G⟩ := hk_begin hv
  have F9 : CallFix p m c cX11_discharge 3 s [.ref (g.1 + a0), .int x1].toArray hk_W RX11 := ⟨B.exec, B.bytes, hml, findClass_of_methodNamed B.named, fun w h => atoms_spec (ws := hk_ws yX11_discharge cX11_discharge 3 (Option.some Jvm.ClassFile.FieldType.int)) B.pre w (hk_in h)⟩
  have hx := B.exec
  have hb := B.bytes
  have hr := B.returns
  have hlocks := B.notSynchronized
  have hl := lv_entry ([.ref (g.1 + a0), .int x1]) (n := 3) (Nat.le_of_ble_eq_true rfl)
  rw [lg_entry_eq]
  generalize (lg_sl ([.ref (g.1 + a0), .int x1]) ++ List.replicate (3 - (lg_sl ([.ref (g.1 + a0), .int x1])).length) Slot.unset).toArray = ls at hl ⊢
  have hl : lv_has ls 3 [(0, .ref (g.1 + a0)), (1, .int x1)] := hl
  unfold mX11_discharge at hsp
  have G : hk_GG g E S n s s.heap [] := G
  refine lv_aload_n hx hb dX11_discharge_0 rfl (lv_at hl 0 rfl) ?_
  refine lv_iload_n hx hb dX11_discharge_1 rfl (lv_at hl 1 rfl) ?_
  rcases hk_xe hsp with ⟨k2, T3, er1, rfl⟩ | ⟨r1, er1, hsp⟩
  · exact hk_xVt (As := [.int x1]) (rest := []) F9 G h0 hkc_8 rfl (kX11_existingTrough l hst g E F n S a0 x1 _ h0 er1) qv_RX11_124 ⟨rfl, rfl, (Nat.le_of_ble_eq_true rfl), (Nat.le_of_ble_eq_true rfl)⟩ rfl hl.1 rfl (Nat.le_of_ble_eq_true rfl) ⟨(Nat.le_of_ble_eq_true rfl), (Nat.le_of_ble_eq_true rfl)⟩ dX11_discharge_2 ht hlocks ⟨(Nat.le_of_ble_eq_true rfl), (Nat.le_of_ble_eq_true rfl)⟩
  refine hk_xVr (As := [.int x1]) (rest := []) F9 G h0 hkc_8 rfl (kX11_existingTrough l hst g E F n S a0 x1 _ h0 er1) qv_RX11_124 ⟨rfl, rfl, (Nat.le_of_ble_eq_true rfl), (Nat.le_of_ble_eq_true rfl)⟩ rfl hl.1 rfl (Nat.le_of_ble_eq_true rfl) ⟨(Nat.le_of_ble_eq_true rfl), (Nat.le_of_ble_eq_true rfl)⟩ dX11_discharge_2 (fun H locs G => ?_)
  obtain ⟨q4, hsp⟩ := hk_k hsp
  refine lv_astore_n (lv' := [(2, .ref (g.1 + r1.1)), (0, .ref (g.1 + a0)), (1, .int x1)]) hx hb dX11_discharge_5 rfl hl (by decide) rfl (fun ls hl => ?_)
  refine lv_aload_n hx hb dX11_discharge_6 rfl (lv_at hl 1 rfl) ?_
  obtain ⟨r5, er5, hsp⟩ := hk_b hsp
  obtain ⟨kr5, hsp⟩ := hk_k hsp
  refine hk_getR F9 G h0 hkc_8 (k := 0) (by decide) qw_399 rfl er5 dX11_discharge_7 ?_
  refine lv_aload_n hx hb dX11_discharge_10 rfl (lv_at hl 0 rfl) ?_
  obtain ⟨r6, er6, hsp⟩ := hk_b hsp
  refine hk_callVi (As := [.ref (g.1 + r1.1)]) (rest := []) F9 G kr5 hkc_3 rfl (kX5_refusalOf l g E F n r1.2 r5 r1.1 r6 kr5 q4 er6) qv_RX11_170 ⟨rfl, rfl, (Nat.le_of_ble_eq_true rfl), (Nat.le_of_ble_eq_true rfl)⟩ rfl hl.1 rfl (Nat.le_of_ble_eq_true rfl) ⟨(Nat.le_of_ble_eq_true rfl), (Nat.le_of_ble_eq_true rfl)⟩ dX11_discharge_11 (fun H locs G => ?_)
  refine lv_if_eq (tgt := 21) hx hb dX11_discharge_14 (by decide) (fun c7 => ?_) (fun c7 => ?_)
  · have hsp := hk_t c7 hsp
    refine lv_iconst (v := 0) hx hb dX11_discharge_21 (by decide) ?_
    rcases hk_xe hsp with ⟨k9, T10, er8, rfl⟩ | ⟨r8, er8, hsp⟩
    · exact hk_xSt (As := [.int 0]) (rest := []) F9 G (kX11_refuseIf l hst g E F n r6.2 0 _  er8) qv_RX11_120 ⟨rfl, rfl, (Nat.le_of_ble_eq_true rfl), (Nat.le_of_ble_eq_true rfl)⟩ rfl hl.1 rfl (Nat.le_of_ble_eq_true rfl) ⟨(Nat.le_of_ble_eq_true rfl), (Nat.le_of_ble_eq_true rfl)⟩ dX11_discharge_22 ht hlocks ⟨(Nat.le_of_ble_eq_true rfl), (Nat.le_of_ble_eq_true rfl)⟩
    refine hk_xSv (As := [.int 0]) (rest := []) F9 G (kX11_refuseIf l hst g E F n r6.2 0 _  er8) qv_RX11_120 ⟨rfl, rfl, (Nat.le_of_ble_eq_true rfl), (Nat.le_of_ble_eq_true rfl)⟩ rfl hl.1 rfl (Nat.le_of_ble_eq_true rfl) ⟨(Nat.le_of_ble_eq_true rfl), (Nat.le_of_ble_eq_true rfl)⟩ dX11_discharge_22 (fun H locs G => ?_)
    refine lv_aload_n hx hb dX11_discharge_25 rfl (lv_at hl 1 rfl) ?_
    obtain ⟨r11, er11, hsp⟩ := hk_b hsp
    obtain ⟨kr11, hsp⟩ := hk_k hsp
    refine hk_getR F9 G h0 hkc_8 (k := 3) (by decide) qw_402 rfl er11 dX11_discharge_26 ?_
    refine lv_aload_n hx hb dX11_discharge_29 rfl (lv_at hl 1 rfl) ?_
    refine hk_getR F9 G h0 hkc_8 (k := 0) (by decide) qw_399 rfl er5 dX11_discharge_30 ?_
    obtain ⟨r12, er12, hsp⟩ := hk_b hsp
    refine hk_callVv (As := [.ref (g.1 + r5)]) (rest := []) F9 G kr11 hkc_1 rfl (kX3_remember l g E F n r8 r11 r5 r12 kr11 kr5 er12) qv_RX11_104 ⟨rfl, rfl, (Nat.le_of_ble_eq_true rfl), (Nat.le_of_ble_eq_true rfl)⟩ rfl hl.1 rfl (Nat.le_of_ble_eq_true rfl) ⟨(Nat.le_of_ble_eq_true rfl), (Nat.le_of_ble_eq_true rfl)⟩ dX11_discharge_33 (fun H locs G => ?_)
    refine lv_aload_n hx hb dX11_discharge_36 rfl (lv_at hl 1 rfl) ?_
    refine hk_getR F9 G h0 hkc_8 (k := 0) (by decide) qw_399 rfl er5 dX11_discharge_37 ?_
    refine lv_aload_n hx hb dX11_discharge_40 rfl (lv_at hl 0 rfl) ?_
    obtain ⟨r13, er13, hsp⟩ := hk_b hsp
    refine hk_callVi (As := [.ref (g.1 + r1.1)]) (rest := []) F9 G kr5 hkc_3 rfl (kX5_dischargeLeaf l g E F n r12 r5 r1.1 r13 kr5 q4 er13) qv_RX11_174 ⟨rfl, rfl, (Nat.le_of_ble_eq_true rfl), (Nat.le_of_ble_eq_true rfl)⟩ rfl hl.1 rfl (Nat.le_of_ble_eq_true rfl) ⟨(Nat.le_of_ble_eq_true rfl), (Nat.le_of_ble_eq_true rfl)⟩ dX11_discharge_41 (fun H locs G => ?_)
    obtain rfl := hk_s hsp
    exact vx_ret (W.widen (k := 2) (n := 12) (Nat.le_of_ble_eq_true rfl) (Nat.le_of_ble_eq_true rfl) (W.iret (v := r13.1) hx hb hr (fun t ht hW => ⟨_, rfl, hk_end G ht hW⟩) G.2.1.2.2 dX11_discharge_44))
  · have hsp := hk_f c7 hsp
    refine lv_iconst (v := 1) hx hb dX11_discharge_17 (by decide) ?_
    refine lv_goto (tgt := 22) hx hb dX11_discharge_18 (by decide) ?_
    rcases hk_xe hsp with ⟨k15, T16, er14, rfl⟩ | ⟨r14, er14, hsp⟩
    · exact hk_xSt (As := [.int 1]) (rest := []) F9 G (kX11_refuseIf l hst g E F n r6.2 1 _  er14) qv_RX11_120 ⟨rfl, rfl, (Nat.le_of_ble_eq_true rfl), (Nat.le_of_ble_eq_true rfl)⟩ rfl hl.1 rfl (Nat.le_of_ble_eq_true rfl) ⟨(Nat.le_of_ble_eq_true rfl), (Nat.le_of_ble_eq_true rfl)⟩ dX11_discharge_22 ht hlocks ⟨(Nat.le_of_ble_eq_true rfl), (Nat.le_of_ble_eq_true rfl)⟩
    refine hk_xSv (As := [.int 1]) (rest := []) F9 G (kX11_refuseIf l hst g E F n r6.2 1 _  er14) qv_RX11_120 ⟨rfl, rfl, (Nat.le_of_ble_eq_true rfl), (Nat.le_of_ble_eq_true rfl)⟩ rfl hl.1 rfl (Nat.le_of_ble_eq_true rfl) ⟨(Nat.le_of_ble_eq_true rfl), (Nat.le_of_ble_eq_true rfl)⟩ dX11_discharge_22 (fun H locs G => ?_)
    refine lv_aload_n hx hb dX11_discharge_25 rfl (lv_at hl 1 rfl) ?_
    obtain ⟨r17, er17, hsp⟩ := hk_b hsp
    obtain ⟨kr17, hsp⟩ := hk_k hsp
    refine hk_getR F9 G h0 hkc_8 (k := 3) (by decide) qw_402 rfl er17 dX11_discharge_26 ?_
    refine lv_aload_n hx hb dX11_discharge_29 rfl (lv_at hl 1 rfl) ?_
    refine hk_getR F9 G h0 hkc_8 (k := 0) (by decide) qw_399 rfl er5 dX11_discharge_30 ?_
    obtain ⟨r18, er18, hsp⟩ := hk_b hsp
    refine hk_callVv (As := [.ref (g.1 + r5)]) (rest := []) F9 G kr17 hkc_1 rfl (kX3_remember l g E F n r14 r17 r5 r18 kr17 kr5 er18) qv_RX11_104 ⟨rfl, rfl, (Nat.le_of_ble_eq_true rfl), (Nat.le_of_ble_eq_true rfl)⟩ rfl hl.1 rfl (Nat.le_of_ble_eq_true rfl) ⟨(Nat.le_of_ble_eq_true rfl), (Nat.le_of_ble_eq_true rfl)⟩ dX11_discharge_33 (fun H locs G => ?_)
    refine lv_aload_n hx hb dX11_discharge_36 rfl (lv_at hl 1 rfl) ?_
    refine hk_getR F9 G h0 hkc_8 (k := 0) (by decide) qw_399 rfl er5 dX11_discharge_37 ?_
    refine lv_aload_n hx hb dX11_discharge_40 rfl (lv_at hl 0 rfl) ?_
    obtain ⟨r19, er19, hsp⟩ := hk_b hsp
    refine hk_callVi (As := [.ref (g.1 + r1.1)]) (rest := []) F9 G kr5 hkc_3 rfl (kX5_dischargeLeaf l g E F n r18 r5 r1.1 r19 kr5 q4 er19) qv_RX11_174 ⟨rfl, rfl, (Nat.le_of_ble_eq_true rfl), (Nat.le_of_ble_eq_true rfl)⟩ rfl hl.1 rfl (Nat.le_of_ble_eq_true rfl) ⟨(Nat.le_of_ble_eq_true rfl), (Nat.le_of_ble_eq_true rfl)⟩ dX11_discharge_41 (fun H locs G => ?_)
    obtain rfl := hk_s hsp
    exact vx_ret (W.widen (k := 2) (n := 12) (Nat.le_of_ble_eq_true rfl) (Nat.le_of_ble_eq_true rfl) (W.iret (v := r19.1) hx hb hr (fun t ht hW => ⟨_, rfl, hk_end G ht hW⟩) G.2.1.2.2 dX11_discharge_44))
def mX11_discard (E : hk_E) (F : Nat) (S : hk_S) (a0 : Nat) (x1 : Int32) : Option (Sum (Nat × hk_S) (Int32 × hk_S)) :=
hk_xb (mX11_existingTrough E F S a0 x1) (fun r1 => if E.2.1 r1.1 = 8 then ((mX10_hasLeaf E F r1.2 r1.1).bind (fun r5 => if ¬ r5.1 = 0 then (hk_xb (mX11_refuseIf E F r5.2 0) (fun r7 => (E.2.2.2 a0 3).bind (fun r10 => if E.2.1 r10 = 2 then ((E.2.2.2 a0 0).bind (fun r11 => if E.2.1 r11 = 4 then ((mX3_remember E F r7 r10 r11).bind (fun r12 => (mX5_discardLeaf E F r12 r11 r1.1).bind (fun r13 => some (.inr ((r13.1, r13.2)))))) else none)) else none))) else (hk_xb (mX11_refuseIf E F r5.2 1) (fun r14 => (E.2.2.2 a0 3).bind (fun r17 => if E.2.1 r17 = 2 then ((E.2.2.2 a0 0).bind (fun r18 => if E.2.1 r18 = 4 then ((mX3_remember E F r14 r17 r18).bind (fun r19 => (mX5_discardLeaf E F r19 r18 r1.1).bind (fun r20 => some (.inr ((r20.1, r20.2)))))) else none)) else none))))) else none)
set_option maxHeartbeats 4000000 in
set_option maxRecDepth 100000 in
theorem kX11_discard (l : Launch) (hst : l.stackTraces = false) (g : hk_G) (E : hk_E) (F n : Nat) (S : hk_S) (a0 : Nat) (x1 : Int32) (o : Sum (Nat × hk_S) (Int32 × hk_S)) (h0 : E.2.1 a0 = 9) (hsp : mX11_discard E F S a0 x1 = some o) : vx_Met l yX11_discard (hk_ws yX11_discard cX11_discard 3 (Option.some Jvm.ClassFile.FieldType.int)) ({ frames := 7, cells := 2, slots := 12, locals := 103 }) (hk_Pc g E S n [.ref (g.1 + a0), .int x1]) (hk_XQ g E n o (fun x => x.2) (fun x => some (.int x.1))) (hk_XX g E o) 2 12 (hk_A g) := by
  refine vx_ofW (cc := cX11_discard) (maxL := 3) (ret := (Option.some Jvm.ClassFile.FieldType.int)) (by decide) rfl ?_
  intro p e s m args below meth c s₁ B hml ht hv
  obtain ⟨rfl, G⟩ := hk_begin hv
  have F9 : CallFix p m c cX11_discard 3 s [.ref (g.1 + a0), .int x1].toArray hk_W RX11 := ⟨B.exec, B.bytes, hml, findClass_of_methodNamed B.named, fun w h => atoms_spec (ws := hk_ws yX11_discard cX11_discard 3 (Option.some Jvm.ClassFile.FieldType.int)) B.pre w (hk_in h)⟩
  have hx := B.exec
  have hb := B.bytes
  have hr := B.returns
  have hlocks := B.notSynchronized
  have hl := lv_entry ([.ref (g.1 + a0), .int x1]) (n := 3) (Nat.le_of_ble_eq_true rfl)
  rw [lg_entry_eq]
  generalize (lg_sl ([.ref (g.1 + a0), .int x1]) ++ List.replicate (3 - (lg_sl ([.ref (g.1 + a0), .int x1])).length) Slot.unset).toArray = ls at hl ⊢
  have hl : lv_has ls 3 [(0, .ref (g.1 + a0)), (1, .int x1)] := hl
  unfold mX11_discard at hsp
  have G : hk_GG g E S n s s.heap [] := G
  refine lv_aload_n hx hb dX11_discard_0 rfl (lv_at hl 0 rfl) ?_
  refine lv_iload_n hx hb dX11_discard_1 rfl (lv_at hl 1 rfl) ?_
  rcases hk_xe hsp with ⟨k2, T3, er1, rfl⟩ | ⟨r1, er1, hsp⟩
  · exact hk_xVt (As := [.int x1]) (rest := []) F9 G h0 hkc_8 rfl (kX11_existingTrough l hst g E F n S a0 x1 _ h0 er1) qv_RX11_124 ⟨rfl, rfl, (Nat.le_of_ble_eq_true rfl), (Nat.le_of_ble_eq_true rfl)⟩ rfl hl.1 rfl (Nat.le_of_ble_eq_true rfl) ⟨(Nat.le_of_ble_eq_true rfl), (Nat.le_of_ble_eq_true rfl)⟩ dX11_discard_2 ht hlocks ⟨(Nat.le_of_ble_eq_true rfl), (Nat.le_of_ble_eq_true rfl)⟩
  refine hk_xVr (As := [.int x1]) (rest := []) F9 G h0 hkc_8 rfl (kX11_existingTrough l hst g E F n S a0 x1 _ h0 er1) qv_RX11_124 ⟨rfl, rfl, (Nat.le_of_ble_eq_true rfl), (Nat.le_of_ble_eq_true rfl)⟩ rfl hl.1 rfl (Nat.le_of_ble_eq_true rfl) ⟨(Nat.le_of_ble_eq_true rfl), (Nat.le_of_ble_eq_true rfl)⟩ dX11_discard_2 (fun H locs G => ?_)
  obtain ⟨q4, hsp⟩ := hk_k hsp
  refine lv_astore_n (lv' := [(2, .ref (g.1 + r1.1)), (0, .ref (g.1 + a0)), (1, .int x1)]) hx hb dX11_discard_5 rfl hl (by decide) rfl (fun ls hl => ?_)
  refine lv_aload_n hx hb dX11_discard_6 rfl (lv_at hl 0 rfl) ?_
  obtain ⟨r5, er5, hsp⟩ := hk_b hsp
  refine hk_callVi (As := []) (rest := []) F9 G q4 hkc_7 rfl (kX10_hasLeaf l g E F n r1.2 r1.1 r5 q4 er5) qv_RX11_130 ⟨rfl, rfl, (Nat.le_of_ble_eq_true rfl), (Nat.le_of_ble_eq_true rfl)⟩ rfl hl.1 rfl (Nat.le_of_ble_eq_true rfl) ⟨(Nat.le_of_ble_eq_true rfl), (Nat.le_of_ble_eq_true rfl)⟩ dX11_discard_7 (fun H locs G => ?_)
  refine lv_if_ne (tgt := 17) hx hb dX11_discard_10 (by decide) (fun c6 => ?_) (fun c6 => ?_)
  · have hsp := hk_t c6 hsp
    refine lv_iconst (v := 0) hx hb dX11_discard_17 (by decide) ?_
    rcases hk_xe hsp with ⟨k8, T9, er7, rfl⟩ | ⟨r7, er7, hsp⟩
    · exact hk_xSt (As := [.int 0]) (rest := []) F9 G (kX11_refuseIf l hst g E F n r5.2 0 _  er7) qv_RX11_120 ⟨rfl, rfl, (Nat.le_of_ble_eq_true rfl), (Nat.le_of_ble_eq_true rfl)⟩ rfl hl.1 rfl (Nat.le_of_ble_eq_true rfl) ⟨(Nat.le_of_ble_eq_true rfl), (Nat.le_of_ble_eq_true rfl)⟩ dX11_discard_18 ht hlocks ⟨(Nat.le_of_ble_eq_true rfl), (Nat.le_of_ble_eq_true rfl)⟩
    refine hk_xSv (As := [.int 0]) (rest := []) F9 G (kX11_refuseIf l hst g E F n r5.2 0 _  er7) qv_RX11_120 ⟨rfl, rfl, (Nat.le_of_ble_eq_true rfl), (Nat.le_of_ble_eq_true rfl)⟩ rfl hl.1 rfl (Nat.le_of_ble_eq_true rfl) ⟨(Nat.le_of_ble_eq_true rfl), (Nat.le_of_ble_eq_true rfl)⟩ dX11_discard_18 (fun H locs G => ?_)
    refine lv_aload_n hx hb dX11_discard_21 rfl (lv_at hl 1 rfl) ?_
    obtain ⟨r10, er10, hsp⟩ := hk_b hsp
    obtain ⟨kr10, hsp⟩ := hk_k hsp
    refine hk_getR F9 G h0 hkc_8 (k := 3) (by decide) qw_402 rfl er10 dX11_discard_22 ?_
    refine lv_aload_n hx hb dX11_discard_25 rfl (lv_at hl 1 rfl) ?_
    obtain ⟨r11, er11, hsp⟩ := hk_b hsp
    obtain ⟨kr11, hsp⟩ := hk_k hsp
    refine hk_getR F9 G h0 hkc_8 (k := 0) (by decide) qw_399 rfl er11 dX11_discard_26 ?_
    obtain ⟨r12, er12, hsp⟩ := hk_b hsp
    refine hk_callVv (As := [.ref (g.1 + r11)]) (rest := []) F9 G kr10 hkc_1 rfl (kX3_remember l g E F n r7 r10 r11 r12 kr10 kr11 er12) qv_RX11_104 ⟨rfl, rfl, (Nat.le_of_ble_eq_true rfl), (Nat.le_of_ble_eq_true rfl)⟩ rfl hl.1 rfl (Nat.le_of_ble_eq_true rfl) ⟨(Nat.le_of_ble_eq_true rfl), (Nat.le_of_ble_eq_true rfl)⟩ dX11_discard_29 (fun H locs G => ?_)
    refine lv_aload_n hx hb dX11_discard_32 rfl (lv_at hl 1 rfl) ?_
    refine hk_getR F9 G h0 hkc_8 (k := 0) (by decide) qw_399 rfl er11 dX11_discard_33 ?_
    refine lv_aload_n hx hb dX11_discard_36 rfl (lv_at hl 0 rfl) ?_
    obtain ⟨r13, er13, hsp⟩ := hk_b hsp
    refine hk_callVi (As := [.ref (g.1 + r1.1)]) (rest := []) F9 G kr11 hkc_3 rfl (kX5_discardLeaf l g E F n r12 r11 r1.1 r13 kr11 q4 er13) qv_RX11_177 ⟨rfl, rfl, (Nat.le_of_ble_eq_true rfl), (Nat.le_of_ble_eq_true rfl)⟩ rfl hl.1 rfl (Nat.le_of_ble_eq_true rfl) ⟨(Nat.le_of_ble_eq_true rfl), (Nat.le_of_ble_eq_true rfl)⟩ dX11_discard_37 (fun H locs G => ?_)
    obtain rfl := hk_s hsp
    exact vx_ret (W.widen (k := 2) (n := 12) (Nat.le_of_ble_eq_true rfl) (Nat.le_of_ble_eq_true rfl) (W.iret (v := r13.1) hx hb hr (fun t ht hW => ⟨_, rfl, hk_end G ht hW⟩) G.2.1.2.2 dX11_discard_40))
  · have hsp := hk_g c6 hsp
    refine lv_iconst (v := 1) hx hb dX11_discard_13 (by decide) ?_
    refine lv_goto (tgt := 18) hx hb dX11_discard_14 (by decide) ?_
    rcases hk_xe hsp with ⟨k15, T16, er14, rfl⟩ | ⟨r14, er14, hsp⟩
    · exact hk_xSt (As := [.int 1]) (rest := []) F9 G (kX11_refuseIf l hst g E F n r5.2 1 _  er14) qv_RX11_120 ⟨rfl, rfl, (Nat.le_of_ble_eq_true rfl), (Nat.le_of_ble_eq_true rfl)⟩ rfl hl.1 rfl (Nat.le_of_ble_eq_true rfl) ⟨(Nat.le_of_ble_eq_true rfl), (Nat.le_of_ble_eq_true rfl)⟩ dX11_discard_18 ht hlocks ⟨(Nat.le_of_ble_eq_true rfl), (Nat.le_of_ble_eq_true rfl)⟩
    refine hk_xSv (As := [.int 1]) (rest := []) F9 G (kX11_refuseIf l hst g E F n r5.2 1 _  er14) qv_RX11_120 ⟨rfl, rfl, (Nat.le_of_ble_eq_true rfl), (Nat.le_of_ble_eq_true rfl)⟩ rfl hl.1 rfl (Nat.le_of_ble_eq_true rfl) ⟨(Nat.le_of_ble_eq_true rfl), (Nat.le_of_ble_eq_true rfl)⟩ dX11_discard_18 (fun H locs G => ?_)
    refine lv_aload_n hx hb dX11_discard_21 rfl (lv_at hl 1 rfl) ?_
    obtain ⟨r17, er17, hsp⟩ := hk_b hsp
    obtain ⟨kr17, hsp⟩ := hk_k hsp
    refine hk_getR F9 G h0 hkc_8 (k := 3) (by decide) qw_402 rfl er17 dX11_discard_22 ?_
    refine lv_aload_n hx hb dX11_discard_25 rfl (lv_at hl 1 rfl) ?_
    obtain ⟨r18, er18, hsp⟩ := hk_b hsp
    obtain ⟨kr18, hsp⟩ := hk_k hsp
    refine hk_getR F9 G h0 hkc_8 (k := 0) (by decide) qw_399 rfl er18 dX11_discard_26 ?_
    obtain ⟨r19, er19, hsp⟩ := hk_b hsp
    refine hk_callVv (As := [.ref (g.1 + r18)]) (rest := []) F9 G kr17 hkc_1 rfl (kX3_remember l g E F n r14 r17 r18 r19 kr17 kr18 er19) qv_RX11_104 ⟨rfl, rfl, (Nat.le_of_ble_eq_true rfl), (Nat.le_of_ble_eq_true rfl)⟩ rfl hl.1 rfl (Nat.le_of_ble_eq_true rfl) ⟨(Nat.le_of_ble_eq_true rfl), (Nat.le_of_ble_eq_true rfl)⟩ dX11_discard_29 (fun H locs G => ?_)
    refine lv_aload_n hx hb dX11_discard_32 rfl (lv_at hl 1 rfl) ?_
    refine hk_getR F9 G h0 hkc_8 (k := 0) (by decide) qw_399 rfl er18 dX11_discard_33 ?_
    refine lv_aload_n hx hb dX11_discard_36 rfl (lv_at hl 0 rfl) ?_
    obtain ⟨r20, er20, hsp⟩ := hk_b hsp
    refine hk_callVi (As := [.ref (g.1 + r1.1)]) (rest := []) F9 G kr18 hkc_3 rfl (kX5_discardLeaf l g E F n r19 r18 r1.1 r20 kr18 q4 er20) qv_RX11_177 ⟨rfl, rfl, (Nat.le_of_ble_eq_true rfl), (Nat.le_of_ble_eq_true rfl)⟩ rfl hl.1 rfl (Nat.le_of_ble_eq_true rfl) ⟨(Nat.le_of_ble_eq_true rfl), (Nat.le_of_ble_eq_true rfl)⟩ dX11_discard_37 (fun H locs G => ?_)
    obtain rfl := hk_s hsp
    exact vx_ret (W.widen (k := 2) (n := 12) (Nat.le_of_ble_eq_true rfl) (Nat.le_of_ble_eq_true rfl) (W.iret (v := r20.1) hx hb hr (fun t ht hW => ⟨_, rfl, hk_end G ht hW⟩) G.2.1.2.2 dX11_discard_40))
def mX11_addProbe (E : hk_E) (F : Nat) (S : hk_S) (a0 : Nat) (x1 : Int32) (x2 : Int32) (x3 : Int32) : Option (Sum (Nat × hk_S) (Int32 × hk_S)) :=
hk_xb (mX11_existingTrough E F S a0 x1) (fun r1 => if E.2.1 r1.1 = 8 then (hk_xb (mX11_requireRange E F r1.2 x2 0 1) (fun r5 => hk_xb (mX11_requireRange E F r5 x3 (-50) 50) (fun r8 => (E.2.2.2 a0 0).bind (fun r11 => if E.2.1 r11 = 4 then ((mX5_hasRoomForProbe E F r8 r11).bind (fun r12 => if ¬ r12.1 = 0 then (hk_xb (mX11_refuseIf E F r12.2 0) (fun r14 => (E.2.2.2 a0 3).bind (fun r17 => if E.2.1 r17 = 2 then ((mX3_remember E F r14 r17 r11).bind (fun r18 => (mX5_placeProbe E F r18 r11 x1 x2 x3).bind (fun r19 => some (.inr ((r19.1, r19.2)))))) else none))) else (hk_xb (mX11_refuseIf E F r12.2 1) (fun r20 => (E.2.2.2 a0 3).bind (fun r23 => if E.2.1 r23 = 2 then ((mX3_remember E F r20 r23 r11).bind (fun r24 => (mX5_placeProbe E F r24 r11 x1 x2 x3).bind (fun r25 => some (.inr ((r25.1, r25.2)))))) else none))))) else none)))) else none)
set_option maxHeartbeats 4000000 in
set_option maxRecDepth 100000 in
theorem kX11_addProbe (l : Launch) (hst : l.stackTraces = false) (g : hk_G) (E : hk_E) (F n : Nat) (S : hk_S) (a0 : Nat) (x1 : Int32) (x2 : Int32) (x3 : Int32) (o : Sum (Nat × hk_S) (Int32 × hk_S)) (h0 : E.2.1 a0 = 9) (hsp : mX11_addProbe E F S a0 x1 x2 x3 = some o) : vx_Met l yX11_addProbe (hk_ws yX11_addProbe cX11_addProbe 4 (Option.some Jvm.ClassFile.FieldType.int)) ({ frames := 7, cells := 4, slots := 24, locals := 104 }) (hk_Pc g E S n [.ref (g.1 + a0), .int x1, .int x2, .int x3]) (hk_XQ g E n o (fun x => x.2) (fun x => some (.int x.1))) (hk_XX g E o) 4 24 (hk_A g) := by
  refine vx_ofW (cc := cX11_addProbe) (maxL := 4) (ret := (Option.some Jvm.ClassFile.FieldType.int)) (by decide) rfl ?_
  intro p e s m args below meth c s₁ B hml ht hv
  obtain ⟨rfl, G⟩ := hk_begin hv
  have F9 : CallFix p m c cX11_addProbe 4 s [.ref (g.1 + a0), .int x1, .int x2, .int x3].toArray hk_W RX11 := ⟨B.exec, B.bytes, hml, findClass_of_methodNamed B.named, fun w h => atoms_spec (ws := hk_ws yX11_addProbe cX11_addProbe 4 (Option.some Jvm.ClassFile.FieldType.int)) B.pre w (hk_in h)⟩
  have hx := B.exec
  have hb := B.bytes
  have hr := B.returns
  have hlocks := B.notSynchronized
  have hl := lv_entry ([.ref (g.1 + a0), .int x1, .int x2, .int x3]) (n := 4) (Nat.le_of_ble_eq_true rfl)
  rw [lg_entry_eq]
  generalize (lg_sl ([.ref (g.1 + a0), .int x1, .int x2, .int x3]) ++ List.replicate (4 - (lg_sl ([.ref (g.1 + a0), .int x1, .int x2, .int x3])).length) Slot.unset).toArray = ls at hl ⊢
  have hl : lv_has ls 4 [(0, .ref (g.1 + a0)), (1, .int x1), (2, .int x2), (3, .int x3)] := hl
  unfold mX11_addProbe at hsp
  have G : hk_GG g E S n s s.heap [] := G
  refine lv_aload_n hx hb dX11_addProbe_0 rfl (lv_at hl 0 rfl) ?_
  refine lv_iload_n hx hb dX11_addProbe_1 rfl (lv_at hl 1 rfl) ?_
  rcases hk_xe hsp with ⟨k2, T3, er1, rfl⟩ | ⟨r1, er1, hsp⟩
  · exact hk_xVt (As := [.int x1]) (rest := []) F9 G h0 hkc_8 rfl (kX11_existingTrough l hst g E F n S a0 x1 _ h0 er1) qv_RX11_124 ⟨rfl, rfl, (Nat.le_of_ble_eq_true rfl), (Nat.le_of_ble_eq_true rfl)⟩ rfl hl.1 rfl (Nat.le_of_ble_eq_true rfl) ⟨(Nat.le_of_ble_eq_true rfl), (Nat.le_of_ble_eq_true rfl)⟩ dX11_addProbe_2 ht hlocks ⟨(Nat.le_of_ble_eq_true rfl), (Nat.le_of_ble_eq_true rfl)⟩
  refine hk_xVr (As := [.int x1]) (rest := []) F9 G h0 hkc_8 rfl (kX11_existingTrough l hst g E F n S a0 x1 _ h0 er1) qv_RX11_124 ⟨rfl, rfl, (Nat.le_of_ble_eq_true rfl), (Nat.le_of_ble_eq_true rfl)⟩ rfl hl.1 rfl (Nat.le_of_ble_eq_true rfl) ⟨(Nat.le_of_ble_eq_true rfl), (Nat.le_of_ble_eq_true rfl)⟩ dX11_addProbe_2 (fun H locs G => ?_)
  obtain ⟨q4, hsp⟩ := hk_k hsp
  refine lv_pop hx hb dX11_addProbe_5 rfl ?_
  refine lv_iload_n hx hb dX11_addProbe_6 rfl (lv_at hl 2 rfl) ?_
  refine lv_iconst (v := 0) hx hb dX11_addProbe_7 (by decide) ?_
  refine lv_iconst (v := 1) hx hb dX11_addProbe_8 (by decide) ?_
  rcases hk_xe hsp with ⟨k6, T7, er5, rfl⟩ | ⟨r5, er5, hsp⟩
  · exact hk_xSt (As := [.int x2, .int 0, .int 1]) (rest := []) F9 G (kX11_requireRange l hst g E F n r1.2 x2 0 1 _  er5) qv_RX11_96 ⟨rfl, rfl, (Nat.le_of_ble_eq_true rfl), (Nat.le_of_ble_eq_true rfl)⟩ rfl hl.1 rfl (Nat.le_of_ble_eq_true rfl) ⟨(Nat.le_of_ble_eq_true rfl), (Nat.le_of_ble_eq_true rfl)⟩ dX11_addProbe_9 ht hlocks ⟨(Nat.le_of_ble_eq_true rfl), (Nat.le_of_ble_eq_true rfl)⟩
  refine hk_xSv (As := [.int x2, .int 0, .int 1]) (rest := []) F9 G (kX11_requireRange l hst g E F n r1.2 x2 0 1 _  er5) qv_RX11_96 ⟨rfl, rfl, (Nat.le_of_ble_eq_true rfl), (Nat.le_of_ble_eq_true rfl)⟩ rfl hl.1 rfl (Nat.le_of_ble_eq_true rfl) ⟨(Nat.le_of_ble_eq_true rfl), (Nat.le_of_ble_eq_true rfl)⟩ dX11_addProbe_9 (fun H locs G => ?_)
  refine lv_iload_n hx hb dX11_addProbe_12 rfl (lv_at hl 3 rfl) ?_
  refine lv_bipush (v := (-50)) hx hb dX11_addProbe_13 (by decide) ?_
  refine lv_bipush (v := 50) hx hb dX11_addProbe_15 (by decide) ?_
  rcases hk_xe hsp with ⟨k9, T10, er8, rfl⟩ | ⟨r8, er8, hsp⟩
  · exact hk_xSt (As := [.int x3, .int (-50), .int 50]) (rest := []) F9 G (kX11_requireRange l hst g E F n r5 x3 (-50) 50 _  er8) qv_RX11_96 ⟨rfl, rfl, (Nat.le_of_ble_eq_true rfl), (Nat.le_of_ble_eq_true rfl)⟩ rfl hl.1 rfl (Nat.le_of_ble_eq_true rfl) ⟨(Nat.le_of_ble_eq_true rfl), (Nat.le_of_ble_eq_true rfl)⟩ dX11_addProbe_17 ht hlocks ⟨(Nat.le_of_ble_eq_true rfl), (Nat.le_of_ble_eq_true rfl)⟩
  refine hk_xSv (As := [.int x3, .int (-50), .int 50]) (rest := []) F9 G (kX11_requireRange l hst g E F n r5 x3 (-50) 50 _  er8) qv_RX11_96 ⟨rfl, rfl, (Nat.le_of_ble_eq_true rfl), (Nat.le_of_ble_eq_true rfl)⟩ rfl hl.1 rfl (Nat.le_of_ble_eq_true rfl) ⟨(Nat.le_of_ble_eq_true rfl), (Nat.le_of_ble_eq_true rfl)⟩ dX11_addProbe_17 (fun H locs G => ?_)
  refine lv_aload_n hx hb dX11_addProbe_20 rfl (lv_at hl 0 rfl) ?_
  obtain ⟨r11, er11, hsp⟩ := hk_b hsp
  obtain ⟨kr11, hsp⟩ := hk_k hsp
  refine hk_getR F9 G h0 hkc_8 (k := 0) (by decide) qw_399 rfl er11 dX11_addProbe_21 ?_
  obtain ⟨r12, er12, hsp⟩ := hk_b hsp
  refine hk_callVi (As := []) (rest := []) F9 G kr11 hkc_3 rfl (kX5_hasRoomForProbe l g E F n r8 r11 r12 kr11 er12) qv_RX11_180 ⟨rfl, rfl, (Nat.le_of_ble_eq_true rfl), (Nat.le_of_ble_eq_true rfl)⟩ rfl hl.1 rfl (Nat.le_of_ble_eq_true rfl) ⟨(Nat.le_of_ble_eq_true rfl), (Nat.le_of_ble_eq_true rfl)⟩ dX11_addProbe_24 (fun H locs G => ?_)
  refine lv_if_ne (tgt := 34) hx hb dX11_addProbe_27 (by decide) (fun c13 => ?_) (fun c13 => ?_)
  · have hsp := hk_t c13 hsp
    refine lv_iconst (v := 0) hx hb dX11_addProbe_34 (by decide) ?_
    rcases hk_xe hsp with ⟨k15, T16, er14, rfl⟩ | ⟨r14, er14, hsp⟩
    · exact hk_xSt (As := [.int 0]) (rest := []) F9 G (kX11_refuseIf l hst g E F n r12.2 0 _  er14) qv_RX11_120 ⟨rfl, rfl, (Nat.le_of_ble_eq_true rfl), (Nat.le_of_ble_eq_true rfl)⟩ rfl hl.1 rfl (Nat.le_of_ble_eq_true rfl) ⟨(Nat.le_of_ble_eq_true rfl), (Nat.le_of_ble_eq_true rfl)⟩ dX11_addProbe_35 ht hlocks ⟨(Nat.le_of_ble_eq_true rfl), (Nat.le_of_ble_eq_true rfl)⟩
    refine hk_xSv (As := [.int 0]) (rest := []) F9 G (kX11_refuseIf l hst g E F n r12.2 0 _  er14) qv_RX11_120 ⟨rfl, rfl, (Nat.le_of_ble_eq_true rfl), (Nat.le_of_ble_eq_true rfl)⟩ rfl hl.1 rfl (Nat.le_of_ble_eq_true rfl) ⟨(Nat.le_of_ble_eq_true rfl), (Nat.le_of_ble_eq_true rfl)⟩ dX11_addProbe_35 (fun H locs G => ?_)
    refine lv_aload_n hx hb dX11_addProbe_38 rfl (lv_at hl 0 rfl) ?_
    obtain ⟨r17, er17, hsp⟩ := hk_b hsp
    obtain ⟨kr17, hsp⟩ := hk_k hsp
    refine hk_getR F9 G h0 hkc_8 (k := 3) (by decide) qw_402 rfl er17 dX11_addProbe_39 ?_
    refine lv_aload_n hx hb dX11_addProbe_42 rfl (lv_at hl 0 rfl) ?_
    refine hk_getR F9 G h0 hkc_8 (k := 0) (by decide) qw_399 rfl er11 dX11_addProbe_43 ?_
    obtain ⟨r18, er18, hsp⟩ := hk_b hsp
    refine hk_callVv (As := [.ref (g.1 + r11)]) (rest := []) F9 G kr17 hkc_1 rfl (kX3_remember l g E F n r14 r17 r11 r18 kr17 kr11 er18) qv_RX11_104 ⟨rfl, rfl, (Nat.le_of_ble_eq_true rfl), (Nat.le_of_ble_eq_true rfl)⟩ rfl hl.1 rfl (Nat.le_of_ble_eq_true rfl) ⟨(Nat.le_of_ble_eq_true rfl), (Nat.le_of_ble_eq_true rfl)⟩ dX11_addProbe_46 (fun H locs G => ?_)
    refine lv_aload_n hx hb dX11_addProbe_49 rfl (lv_at hl 0 rfl) ?_
    refine hk_getR F9 G h0 hkc_8 (k := 0) (by decide) qw_399 rfl er11 dX11_addProbe_50 ?_
    refine lv_iload_n hx hb dX11_addProbe_53 rfl (lv_at hl 1 rfl) ?_
    refine lv_iload_n hx hb dX11_addProbe_54 rfl (lv_at hl 2 rfl) ?_
    refine lv_iload_n hx hb dX11_addProbe_55 rfl (lv_at hl 3 rfl) ?_
    obtain ⟨r19, er19, hsp⟩ := hk_b hsp
    refine hk_callVi (As := [.int x1, .int x2, .int x3]) (rest := []) F9 G kr11 hkc_3 rfl (kX5_placeProbe l g E F n r18 r11 x1 x2 x3 r19 kr11 er19) qv_RX11_73 ⟨rfl, rfl, (Nat.le_of_ble_eq_true rfl), (Nat.le_of_ble_eq_true rfl)⟩ rfl hl.1 rfl (Nat.le_of_ble_eq_true rfl) ⟨(Nat.le_of_ble_eq_true rfl), (Nat.le_of_ble_eq_true rfl)⟩ dX11_addProbe_56 (fun H locs G => ?_)
    obtain rfl := hk_s hsp
    exact vx_ret (W.widen (k := 4) (n := 24) (Nat.le_of_ble_eq_true rfl) (Nat.le_of_ble_eq_true rfl) (W.iret (v := r19.1) hx hb hr (fun t ht hW => ⟨_, rfl, hk_end G ht hW⟩) G.2.1.2.2 dX11_addProbe_59))
  · have hsp := hk_g c13 hsp
    refine lv_iconst (v := 1) hx hb dX11_addProbe_30 (by decide) ?_
    refine lv_goto (tgt := 35) hx hb dX11_addProbe_31 (by decide) ?_
    rcases hk_xe hsp with ⟨k21, T22, er20, rfl⟩ | ⟨r20, er20, hsp⟩
    · exact hk_xSt (As := [.int 1]) (rest := []) F9 G (kX11_refuseIf l hst g E F n r12.2 1 _  er20) qv_RX11_120 ⟨rfl, rfl, (Nat.le_of_ble_eq_true rfl), (Nat.le_of_ble_eq_true rfl)⟩ rfl hl.1 rfl (Nat.le_of_ble_eq_true rfl) ⟨(Nat.le_of_ble_eq_true rfl), (Nat.le_of_ble_eq_true rfl)⟩ dX11_addProbe_35 ht hlocks ⟨(Nat.le_of_ble_eq_true rfl), (Nat.le_of_ble_eq_true rfl)⟩
    refine hk_xSv (As := [.int 1]) (rest := []) F9 G (kX11_refuseIf l hst g E F n r12.2 1 _  er20) qv_RX11_120 ⟨rfl, rfl, (Nat.le_of_ble_eq_true rfl), (Nat.le_of_ble_eq_true rfl)⟩ rfl hl.1 rfl (Nat.le_of_ble_eq_true rfl) ⟨(Nat.le_of_ble_eq_true rfl), (Nat.le_of_ble_eq_true rfl)⟩ dX11_addProbe_35 (fun H locs G => ?_)
    refine lv_aload_n hx hb dX11_addProbe_38 rfl (lv_at hl 0 rfl) ?_
    obtain ⟨r23, er23, hsp⟩ := hk_b hsp
    obtain ⟨kr23, hsp⟩ := hk_k hsp
    refine hk_getR F9 G h0 hkc_8 (k := 3) (by decide) qw_402 rfl er23 dX11_addProbe_39 ?_
    refine lv_aload_n hx hb dX11_addProbe_42 rfl (lv_at hl 0 rfl) ?_
    refine hk_getR F9 G h0 hkc_8 (k := 0) (by decide) qw_399 rfl er11 dX11_addProbe_43 ?_
    obtain ⟨r24, er24, hsp⟩ := hk_b hsp
    refine hk_callVv (As := [.ref (g.1 + r11)]) (rest := []) F9 G kr23 hkc_1 rfl (kX3_remember l g E F n r20 r23 r11 r24 kr23 kr11 er24) qv_RX11_104 ⟨rfl, rfl, (Nat.le_of_ble_eq_true rfl), (Nat.le_of_ble_eq_true rfl)⟩ rfl hl.1 rfl (Nat.le_of_ble_eq_true rfl) ⟨(Nat.le_of_ble_eq_true rfl), (Nat.le_of_ble_eq_true rfl)⟩ dX11_addProbe_46 (fun H locs G => ?_)
    refine lv_aload_n hx hb dX11_addProbe_49 rfl (lv_at hl 0 rfl) ?_
    refine hk_getR F9 G h0 hkc_8 (k := 0) (by decide) qw_399 rfl er11 dX11_addProbe_50 ?_
    refine lv_iload_n hx hb dX11_addProbe_53 rfl (lv_at hl 1 rfl) ?_
    refine lv_iload_n hx hb dX11_addProbe_54 rfl (lv_at hl 2 rfl) ?_
    refine lv_iload_n hx hb dX11_addProbe_55 rfl (lv_at hl 3 rfl) ?_
    obtain ⟨r25, er25, hsp⟩ := hk_b hsp
    refine hk_callVi (As := [.int x1, .int x2, .int x3]) (rest := []) F9 G kr11 hkc_3 rfl (kX5_placeProbe l g E F n r24 r11 x1 x2 x3 r25 kr11 er25) qv_RX11_73 ⟨rfl, rfl, (Nat.le_of_ble_eq_true rfl), (Nat.le_of_ble_eq_true rfl)⟩ rfl hl.1 rfl (Nat.le_of_ble_eq_true rfl) ⟨(Nat.le_of_ble_eq_true rfl), (Nat.le_of_ble_eq_true rfl)⟩ dX11_addProbe_56 (fun H locs G => ?_)
    obtain rfl := hk_s hsp
    exact vx_ret (W.widen (k := 4) (n := 24) (Nat.le_of_ble_eq_true rfl) (Nat.le_of_ble_eq_true rfl) (W.iret (v := r25.1) hx hb hr (fun t ht hW => ⟨_, rfl, hk_end G ht hW⟩) G.2.1.2.2 dX11_addProbe_59))
def mX11_moveProbe (E : hk_E) (F : Nat) (S : hk_S) (a0 : Nat) (x1 : Int32) (x2 : Int32) (x3 : Int32) : Option (Sum (Nat × hk_S) (Int32 × hk_S)) :=
hk_xb (mX11_existingProbe E F S a0 x1) (fun r1 => if E.2.1 r1.1 = 5 then (hk_xb (mX11_existingTrough E F r1.2 a0 x2) (fun r5 => if E.2.1 r5.1 = 8 then (hk_xb (mX11_requireRange E F r5.2 x3 0 1) (fun r9 => (E.2.2.2 a0 3).bind (fun r12 => if E.2.1 r12 = 2 then ((E.2.2.2 a0 0).bind (fun r13 => if E.2.1 r13 = 4 then ((mX3_remember E F r9 r12 r13).bind (fun r14 => hk_let (r14 r1.1 0) (fun y15 => hk_let (hk_up r14 r1.1 0 x2) (fun S16 => hk_let (hk_up S16 r1.1 1 x3) (fun S17 => some (.inr ((y15, S17)))))))) else none)) else none))) else none)) else none)
set_option maxHeartbeats 4000000 in
set_option maxRecDepth 100000 in
theorem kX11_moveProbe (l : Launch) (hst : l.stackTraces = false) (g : hk_G) (E : hk_E) (F n : Nat) (S : hk_S) (a0 : Nat) (x1 : Int32) (x2 : Int32) (x3 : Int32) (o : Sum (Nat × hk_S) (Int32 × hk_S)) (h0 : E.2.1 a0 = 9) (hsp : mX11_moveProbe E F S a0 x1 x2 x3 = some o) : vx_Met l yX11_moveProbe (hk_ws yX11_moveProbe cX11_moveProbe 6 (Option.some Jvm.ClassFile.FieldType.int)) ({ frames := 7, cells := 3, slots := 18, locals := 104 }) (hk_Pc g E S n [.ref (g.1 + a0), .int x1, .int x2, .int x3]) (hk_XQ g E n o (fun x => x.2) (fun x => some (.int x.1))) (hk_XX g E o) 3 18 (hk_A g) := by
  refine vx_ofW (cc := cX11_moveProbe) (maxL := 6) (ret := (Option.some Jvm.ClassFile.FieldType.int)) (by decide) rfl ?_
  intro p e s m args below meth c s₁ B hml ht hv
  obtain ⟨rfl, G⟩ := hk_begin hv
  have F9 : CallFix p m c cX11_moveProbe 6 s [.ref (g.1 + a0), .int x1, .int x2, .int x3].toArray hk_W RX11 := ⟨B.exec, B.bytes, hml, findClass_of_methodNamed B.named, fun w h => atoms_spec (ws := hk_ws yX11_moveProbe cX11_moveProbe 6 (Option.some Jvm.ClassFile.FieldType.int)) B.pre w (hk_in h)⟩
  have hx := B.exec
  have hb := B.bytes
  have hr := B.returns
  have hlocks := B.notSynchronized
  have hl := lv_entry ([.ref (g.1 + a0), .int x1, .int x2, .int x3]) (n := 6) (Nat.le_of_ble_eq_true rfl)
  rw [lg_entry_eq]
  generalize (lg_sl ([.ref (g.1 + a0), .int x1, .int x2, .int x3]) ++ List.replicate (6 - (lg_sl ([.ref (g.1 + a0), .int x1, .int x2, .int x3])).length) Slot.unset).toArray = ls at hl ⊢
  have hl : lv_has ls 6 [(0, .ref (g.1 + a0)), (1, .int x1), (2, .int x2), (3, .int x3)] := hl
  unfold mX11_moveProbe at hsp
  have G : hk_GG g E S n s s.heap [] := G
  refine lv_aload_n hx hb dX11_moveProbe_0 rfl (lv_at hl 0 rfl) ?_
  refine lv_iload_n hx hb dX11_moveProbe_1 rfl (lv_at hl 1 rfl) ?_
  rcases hk_xe hsp with ⟨k2, T3, er1, rfl⟩ | ⟨r1, er1, hsp⟩
  · exact hk_xVt (As := [.int x1]) (rest := []) F9 G h0 hkc_8 rfl (kX11_existingProbe l hst g E F n S a0 x1 _ h0 er1) qv_RX11_183 ⟨rfl, rfl, (Nat.le_of_ble_eq_true rfl), (Nat.le_of_ble_eq_true rfl)⟩ rfl hl.1 rfl (Nat.le_of_ble_eq_true rfl) ⟨(Nat.le_of_ble_eq_true rfl), (Nat.le_of_ble_eq_true rfl)⟩ dX11_moveProbe_2 ht hlocks ⟨(Nat.le_of_ble_eq_true rfl), (Nat.le_of_ble_eq_true rfl)⟩
  refine hk_xVr (As := [.int x1]) (rest := []) F9 G h0 hkc_8 rfl (kX11_existingProbe l hst g E F n S a0 x1 _ h0 er1) qv_RX11_183 ⟨rfl, rfl, (Nat.le_of_ble_eq_true rfl), (Nat.le_of_ble_eq_true rfl)⟩ rfl hl.1 rfl (Nat.le_of_ble_eq_true rfl) ⟨(Nat.le_of_ble_eq_true rfl), (Nat.le_of_ble_eq_true rfl)⟩ dX11_moveProbe_2 (fun H locs G => ?_)
  obtain ⟨q4, hsp⟩ := hk_k hsp
  refine lv_astore (lv' := [(4, .ref (g.1 + r1.1)), (0, .ref (g.1 + a0)), (1, .int x1), (2, .int x2), (3, .int x3)]) hx hb dX11_moveProbe_5  hl (by decide) rfl (fun ls hl => ?_)
  refine lv_aload_n hx hb dX11_moveProbe_7 rfl (lv_at hl 1 rfl) ?_
  refine lv_iload_n hx hb dX11_moveProbe_8 rfl (lv_at hl 3 rfl) ?_
  rcases hk_xe hsp with ⟨k6, T7, er5, rfl⟩ | ⟨r5, er5, hsp⟩
  · exact hk_xVt (As := [.int x2]) (rest := []) F9 G h0 hkc_8 rfl (kX11_existingTrough l hst g E F n r1.2 a0 x2 _ h0 er5) qv_RX11_124 ⟨rfl, rfl, (Nat.le_of_ble_eq_true rfl), (Nat.le_of_ble_eq_true rfl)⟩ rfl hl.1 rfl (Nat.le_of_ble_eq_true rfl) ⟨(Nat.le_of_ble_eq_true rfl), (Nat.le_of_ble_eq_true rfl)⟩ dX11_moveProbe_9 ht hlocks ⟨(Nat.le_of_ble_eq_true rfl), (Nat.le_of_ble_eq_true rfl)⟩
  refine hk_xVr (As := [.int x2]) (rest := []) F9 G h0 hkc_8 rfl (kX11_existingTrough l hst g E F n r1.2 a0 x2 _ h0 er5) qv_RX11_124 ⟨rfl, rfl, (Nat.le_of_ble_eq_true rfl), (Nat.le_of_ble_eq_true rfl)⟩ rfl hl.1 rfl (Nat.le_of_ble_eq_true rfl) ⟨(Nat.le_of_ble_eq_true rfl), (Nat.le_of_ble_eq_true rfl)⟩ dX11_moveProbe_9 (fun H locs G => ?_)
  obtain ⟨q8, hsp⟩ := hk_k hsp
  refine lv_pop hx hb dX11_moveProbe_12 rfl ?_
  refine lv_iload_n hx hb dX11_moveProbe_13 rfl (lv_at hl 4 rfl) ?_
  refine lv_iconst (v := 0) hx hb dX11_moveProbe_14 (by decide) ?_
  refine lv_iconst (v := 1) hx hb dX11_moveProbe_15 (by decide) ?_
  rcases hk_xe hsp with ⟨k10, T11, er9, rfl⟩ | ⟨r9, er9, hsp⟩
  · exact hk_xSt (As := [.int x3, .int 0, .int 1]) (rest := []) F9 G (kX11_requireRange l hst g E F n r5.2 x3 0 1 _  er9) qv_RX11_96 ⟨rfl, rfl, (Nat.le_of_ble_eq_true rfl), (Nat.le_of_ble_eq_true rfl)⟩ rfl hl.1 rfl (Nat.le_of_ble_eq_true rfl) ⟨(Nat.le_of_ble_eq_true rfl), (Nat.le_of_ble_eq_true rfl)⟩ dX11_moveProbe_16 ht hlocks ⟨(Nat.le_of_ble_eq_true rfl), (Nat.le_of_ble_eq_true rfl)⟩
  refine hk_xSv (As := [.int x3, .int 0, .int 1]) (rest := []) F9 G (kX11_requireRange l hst g E F n r5.2 x3 0 1 _  er9) qv_RX11_96 ⟨rfl, rfl, (Nat.le_of_ble_eq_true rfl), (Nat.le_of_ble_eq_true rfl)⟩ rfl hl.1 rfl (Nat.le_of_ble_eq_true rfl) ⟨(Nat.le_of_ble_eq_true rfl), (Nat.le_of_ble_eq_true rfl)⟩ dX11_moveProbe_16 (fun H locs G => ?_)
  refine lv_aload_n hx hb dX11_moveProbe_19 rfl (lv_at hl 1 rfl) ?_
  obtain ⟨r12, er12, hsp⟩ := hk_b hsp
  obtain ⟨kr12, hsp⟩ := hk_k hsp
  refine hk_getR F9 G h0 hkc_8 (k := 3) (by decide) qw_402 rfl er12 dX11_moveProbe_20 ?_
  refine lv_aload_n hx hb dX11_moveProbe_23 rfl (lv_at hl 1 rfl) ?_
  obtain ⟨r13, er13, hsp⟩ := hk_b hsp
  obtain ⟨kr13, hsp⟩ := hk_k hsp
  refine hk_getR F9 G h0 hkc_8 (k := 0) (by decide) qw_399 rfl er13 dX11_moveProbe_24 ?_
  obtain ⟨r14, er14, hsp⟩ := hk_b hsp
  refine hk_callVv (As := [.ref (g.1 + r13)]) (rest := []) F9 G kr12 hkc_1 rfl (kX3_remember l g E F n r9 r12 r13 r14 kr12 kr13 er14) qv_RX11_104 ⟨rfl, rfl, (Nat.le_of_ble_eq_true rfl), (Nat.le_of_ble_eq_true rfl)⟩ rfl hl.1 rfl (Nat.le_of_ble_eq_true rfl) ⟨(Nat.le_of_ble_eq_true rfl), (Nat.le_of_ble_eq_true rfl)⟩ dX11_moveProbe_27 (fun H locs G => ?_)
  refine lv_aload hx hb dX11_moveProbe_30 (lv_at hl 0 rfl) ?_
  refine hk_getI F9 G q4 hkc_4 (k := 0) (by decide) qw_140 rfl dX11_moveProbe_32 ?_
  obtain ⟨y15, ey15, hsp⟩ := hk_l hsp
  refine hk_top ey15 ?_
  refine lv_istore (lv' := [(5, .int y15), (4, .ref (g.1 + r1.1)), (0, .ref (g.1 + a0)), (1, .int x1), (2, .int x2), (3, .int x3)]) hx hb dX11_moveProbe_35  hl (by decide) rfl (fun ls hl => ?_)
  refine lv_aload hx hb dX11_moveProbe_37 (lv_at hl 1 rfl) ?_
  refine lv_iload_n hx hb dX11_moveProbe_39 rfl (lv_at hl 4 rfl) ?_
  obtain ⟨S16, eS16, hsp⟩ := hk_l hsp
  refine hk_putI F9 G q4 hkc_4 (k := 0) (by decide) qw_140 rfl rfl (tyX6_ok 0 (by decide)) rfl rfl dX11_moveProbe_40 (fun H locs G => ?_)
  rw [eS16] at G
  refine lv_aload hx hb dX11_moveProbe_43 (lv_at hl 1 rfl) ?_
  refine lv_iload_n hx hb dX11_moveProbe_45 rfl (lv_at hl 5 rfl) ?_
  obtain ⟨S17, eS17, hsp⟩ := hk_l hsp
  refine hk_putI F9 G q4 hkc_4 (k := 1) (by decide) qw_143 rfl rfl (tyX6_ok 1 (by decide)) rfl rfl dX11_moveProbe_46 (fun H locs G => ?_)
  rw [eS17] at G
  refine lv_iload hx hb dX11_moveProbe_49 (lv_at hl 0 rfl) ?_
  obtain rfl := hk_s hsp
  exact vx_ret (W.widen (k := 3) (n := 18) (Nat.le_of_ble_eq_true rfl) (Nat.le_of_ble_eq_true rfl) (W.iret (v := y15) hx hb hr (fun t ht hW => ⟨_, rfl, hk_end G ht hW⟩) G.2.1.2.2 dX11_moveProbe_51))
def mX11_calibrate (E : hk_E) (F : Nat) (S : hk_S) (a0 : Nat) (x1 : Int32) : Option (Sum (Nat × hk_S) (Int32 × hk_S)) :=
hk_xb (mX11_existingProbe E F S a0 x1) (fun r1 => if E.2.1 r1.1 = 5 then ((E.2.2.2 a0 3).bind (fun r5 => if E.2.1 r5 = 2 then ((E.2.2.2 a0 0).bind (fun r6 => if E.2.1 r6 = 4 then ((mX3_remember E F r1.2 r5 r6).bind (fun r7 => hk_let (r7 r1.1 2) (fun y8 => hk_let (hk_up r7 r1.1 2 0) (fun S9 => some (.inr ((y8, S9))))))) else none)) else none)) else none)
set_option maxHeartbeats 4000000 in
set_option maxRecDepth 100000 in
theorem kX11_calibrate (l : Launch) (hst : l.stackTraces = false) (g : hk_G) (E : hk_E) (F n : Nat) (S : hk_S) (a0 : Nat) (x1 : Int32) (o : Sum (Nat × hk_S) (Int32 × hk_S)) (h0 : E.2.1 a0 = 9) (hsp : mX11_calibrate E F S a0 x1 = some o) : vx_Met l yX11_calibrate (hk_ws yX11_calibrate cX11_calibrate 4 (Option.some Jvm.ClassFile.FieldType.int)) ({ frames := 7, cells := 1, slots := 6, locals := 103 }) (hk_Pc g E S n [.ref (g.1 + a0), .int x1]) (hk_XQ g E n o (fun x => x.2) (fun x => some (.int x.1))) (hk_XX g E o) 1 6 (hk_A g) := by
  refine vx_ofW (cc := cX11_calibrate) (maxL := 4) (ret := (Option.some Jvm.ClassFile.FieldType.int)) (by decide) rfl ?_
  intro p e s m args below meth c s₁ B hml ht hv
  obtain ⟨rfl, G⟩ := hk_begin hv
  have F9 : CallFix p m c cX11_calibrate 4 s [.ref (g.1 + a0), .int x1].toArray hk_W RX11 := ⟨B.exec, B.bytes, hml, findClass_of_methodNamed B.named, fun w h => atoms_spec (ws := hk_ws yX11_calibrate cX11_calibrate 4 (Option.some Jvm.ClassFile.FieldType.int)) B.pre w (hk_in h)⟩
  have hx := B.exec
  have hb := B.bytes
  have hr := B.returns
  have hlocks := B.notSynchronized
  have hl := lv_entry ([.ref (g.1 + a0), .int x1]) (n := 4) (Nat.le_of_ble_eq_true rfl)
  rw [lg_entry_eq]
  generalize (lg_sl ([.ref (g.1 + a0), .int x1]) ++ List.replicate (4 - (lg_sl ([.ref (g.1 + a0), .int x1])).length) Slot.unset).toArray = ls at hl ⊢
  have hl : lv_has ls 4 [(0, .ref (g.1 + a0)), (1, .int x1)] := hl
  unfold mX11_calibrate at hsp
  have G : hk_GG g E S n s s.heap [] := G
  refine lv_aload_n hx hb dX11_calibrate_0 rfl (lv_at hl 0 rfl) ?_
  refine lv_iload_n hx hb dX11_calibrate_1 rfl (lv_at hl 1 rfl) ?_
  rcases hk_xe hsp with ⟨k2, T3, er1, rfl⟩ | ⟨r1, er1, hsp⟩
  · exact hk_xVt (As := [.int x1]) (rest := []) F9 G h0 hkc_8 rfl (kX11_existingProbe l hst g E F n S a0 x1 _ h0 er1) qv_RX11_183 ⟨rfl, rfl, (Nat.le_of_ble_eq_true rfl), (Nat.le_of_ble_eq_true rfl)⟩ rfl hl.1 rfl (Nat.le_of_ble_eq_true rfl) ⟨(Nat.le_of_ble_eq_true rfl), (Nat.le_of_ble_eq_true rfl)⟩ dX11_calibrate_2 ht hlocks ⟨(Nat.le_of_ble_eq_true rfl), (Nat.le_of_ble_eq_true rfl)⟩
  refine hk_xVr (As := [.int x1]) (rest := []) F9 G h0 hkc_8 rfl (kX11_existingProbe l hst g E F n S a0 x1 _ h0 er1) qv_RX11_183 ⟨rfl, rfl, (Nat.le_of_ble_eq_true rfl), (Nat.le_of_ble_eq_true rfl)⟩ rfl hl.1 rfl (Nat.le_of_ble_eq_true rfl) ⟨(Nat.le_of_ble_eq_true rfl), (Nat.le_of_ble_eq_true rfl)⟩ dX11_calibrate_2 (fun H locs G => ?_)
  obtain ⟨q4, hsp⟩ := hk_k hsp
  refine lv_astore_n (lv' := [(2, .ref (g.1 + r1.1)), (0, .ref (g.1 + a0)), (1, .int x1)]) hx hb dX11_calibrate_5 rfl hl (by decide) rfl (fun ls hl => ?_)
  refine lv_aload_n hx hb dX11_calibrate_6 rfl (lv_at hl 1 rfl) ?_
  obtain ⟨r5, er5, hsp⟩ := hk_b hsp
  obtain ⟨kr5, hsp⟩ := hk_k hsp
  refine hk_getR F9 G h0 hkc_8 (k := 3) (by decide) qw_402 rfl er5 dX11_calibrate_7 ?_
  refine lv_aload_n hx hb dX11_calibrate_10 rfl (lv_at hl 1 rfl) ?_
  obtain ⟨r6, er6, hsp⟩ := hk_b hsp
  obtain ⟨kr6, hsp⟩ := hk_k hsp
  refine hk_getR F9 G h0 hkc_8 (k := 0) (by decide) qw_399 rfl er6 dX11_calibrate_11 ?_
  obtain ⟨r7, er7, hsp⟩ := hk_b hsp
  refine hk_callVv (As := [.ref (g.1 + r6)]) (rest := []) F9 G kr5 hkc_1 rfl (kX3_remember l g E F n r1.2 r5 r6 r7 kr5 kr6 er7) qv_RX11_104 ⟨rfl, rfl, (Nat.le_of_ble_eq_true rfl), (Nat.le_of_ble_eq_true rfl)⟩ rfl hl.1 rfl (Nat.le_of_ble_eq_true rfl) ⟨(Nat.le_of_ble_eq_true rfl), (Nat.le_of_ble_eq_true rfl)⟩ dX11_calibrate_14 (fun H locs G => ?_)
  refine lv_aload_n hx hb dX11_calibrate_17 rfl (lv_at hl 0 rfl) ?_
  refine hk_getI F9 G q4 hkc_4 (k := 2) (by decide) qw_147 rfl dX11_calibrate_18 ?_
  obtain ⟨y8, ey8, hsp⟩ := hk_l hsp
  refine hk_top ey8 ?_
  refine lv_istore_n (lv' := [(3, .int y8), (2, .ref (g.1 + r1.1)), (0, .ref (g.1 + a0)), (1, .int x1)]) hx hb dX11_calibrate_21 rfl hl (by decide) rfl (fun ls hl => ?_)
  refine lv_aload_n hx hb dX11_calibrate_22 rfl (lv_at hl 1 rfl) ?_
  refine lv_iconst (v := 0) hx hb dX11_calibrate_23 (by decide) ?_
  obtain ⟨S9, eS9, hsp⟩ := hk_l hsp
  refine hk_putI F9 G q4 hkc_4 (k := 2) (by decide) qw_147 rfl rfl (tyX6_ok 2 (by decide)) rfl rfl dX11_calibrate_24 (fun H locs G => ?_)
  rw [eS9] at G
  refine lv_iload_n hx hb dX11_calibrate_27 rfl (lv_at hl 0 rfl) ?_
  obtain rfl := hk_s hsp
  exact vx_ret (W.widen (k := 1) (n := 6) (Nat.le_of_ble_eq_true rfl) (Nat.le_of_ble_eq_true rfl) (W.iret (v := y8) hx hb hr (fun t ht hW => ⟨_, rfl, hk_end G ht hW⟩) G.2.1.2.2 dX11_calibrate_28))
def mX11_hoursToReady_25 (E : hk_E) (F : Nat) (a0 : Nat) (x1 : Int32) (c9 : Nat) (k : hk_S → Int32 → Option (Sum (Nat × hk_S) (Int32 × hk_S))) : Nat → hk_S → Int32 → Option (Sum (Nat × hk_S) (Int32 × hk_S))
  | 0 => fun _ _ => none
  | f + 1 => fun S z10 =>
    if 200 < z10 then (k S z10) else ((E.2.2.2 a0 0).bind (fun r12 => if E.2.1 r12 = 4 then ((E.2.2.2 a0 6).bind (fun r13 => if E.2.1 r13 = 8 then ((mX5_isReady E F S r12 r13).bind (fun r14 => if r14.1 = 0 then ((E.2.2.2 r12 0).bind (fun r16 => if E.2.1 r16 = 1 then ((mX1_drynessOf E F r14.2 r16 ((r14.2 r16 0) + z10)).bind (fun r17 => (mX10_passHour E F r17.2 r13 r17.1).bind (fun r18 => hk_let (z10 + 1) (fun y19 => mX11_hoursToReady_25 E F a0 x1 c9 k f r18.2 y19)))) else none)) else (some (.inr ((z10, r14.2)))))) else none)) else none))
def mX11_hoursToReady (E : hk_E) (F : Nat) (S : hk_S) (a0 : Nat) (x1 : Int32) : Option (Sum (Nat × hk_S) (Int32 × hk_S)) :=
hk_xb (mX11_existingTrough E F S a0 x1) (fun r1 => if E.2.1 r1.1 = 8 then ((mX10_hasLeaf E F r1.2 r1.1).bind (fun r5 => if ¬ r5.1 = 0 then ((E.2.2.2 a0 6).bind (fun r7 => if E.2.1 r7 = 8 then ((mX10_become E F r5.2 r7 r1.1).bind (fun r8 => mX11_hoursToReady_25 E F a0 x1 r1.1 (fun S20 z21 => some (.inr (((-1), S20)))) F r8 0)) else none)) else (some (.inr (((-1), r5.2)))))) else none)
set_option maxHeartbeats 4000000 in
set_option maxRecDepth 100000 in
theorem kX11_hoursToReady (l : Launch) (hst : l.stackTraces = false) (g : hk_G) (E : hk_E) (F n : Nat) (S : hk_S) (a0 : Nat) (x1 : Int32) (o : Sum (Nat × hk_S) (Int32 × hk_S)) (h0 : E.2.1 a0 = 9) (hsp : mX11_hoursToReady E F S a0 x1 = some o) : vx_Met l yX11_hoursToReady (hk_ws yX11_hoursToReady cX11_hoursToReady 4 (Option.some Jvm.ClassFile.FieldType.int)) ({ frames := 7, cells := 1, slots := 6, locals := 103 }) (hk_Pc g E S n [.ref (g.1 + a0), .int x1]) (hk_XQ g E n o (fun x => x.2) (fun x => some (.int x.1))) (hk_XX g E o) 1 6 (hk_A g) := by
  refine vx_ofW (cc := cX11_hoursToReady) (maxL := 4) (ret := (Option.some Jvm.ClassFile.FieldType.int)) (by decide) rfl ?_
  intro p e s m args below meth c s₁ B hml ht hv
  obtain ⟨rfl, G⟩ := hk_begin hv
  have F9 : CallFix p m c cX11_hoursToReady 4 s [.ref (g.1 + a0), .int x1].toArray hk_W RX11 := ⟨B.exec, B.bytes, hml, findClass_of_methodNamed B.named, fun w h => atoms_spec (ws := hk_ws yX11_hoursToReady cX11_hoursToReady 4 (Option.some Jvm.ClassFile.FieldType.int)) B.pre w (hk_in h)⟩
  have hx := B.exec
  have hb := B.bytes
  have hr := B.returns
  have hlocks := B.notSynchronized
  have hl := lv_entry ([.ref (g.1 + a0), .int x1]) (n := 4) (Nat.le_of_ble_eq_true rfl)
  rw [lg_entry_eq]
  generalize (lg_sl ([.ref (g.1 + a0), .int x1]) ++ List.replicate (4 - (lg_sl ([.ref (g.1 + a0), .int x1])).length) Slot.unset).toArray = ls at hl ⊢
  have hl : lv_has ls 4 [(0, .ref (g.1 + a0)), (1, .int x1)] := hl
  unfold mX11_hoursToReady at hsp
  have G : hk_GG g E S n s s.heap [] := G
  have L_25 : ∀ (c9 : Nat) (hc9 : E.2.1 c9 = 8) (k : hk_S → Int32 → Option (Sum (Nat × hk_S) (Int32 × hk_S))) (_ : ∀ (S : hk_S) (z10 : Int32) (H : Heap) (locs : List Loc) (ls : Array Slot), k S z10 = some o → hk_GG g E S n s H locs → lv_has ls 4 [(0, .ref (g.1 + a0)), (1, .int x1), (2, .ref (g.1 + c9)), (3, .int z10)] → W p l e (headSpec (hk_ws yX11_hoursToReady cX11_hoursToReady 4 (Option.some Jvm.ClassFile.FieldType.int)) ({ frames := 7, cells := 1, slots := 6, locals := 103 })).room s m [.ref (g.1 + a0), .int x1].toArray below meth c H locs 1 6 (vx_MQ below (hk_XQ g E n o (fun x => x.2) (fun x => some (.int x.1))) (hk_XX g E o) [.ref (g.1 + a0), .int x1].toArray s 1 6 (hk_A g)) (F0 m 84 ls [])) (f : Nat) (S : hk_S) (z10 : Int32) (H : Heap) (locs : List Loc) (ls : Array Slot), mX11_hoursToReady_25 E F a0 x1 c9 k f S z10 = some o → hk_GG g E S n s H locs → lv_has ls 4 [(0, .ref (g.1 + a0)), (1, .int x1), (2, .ref (g.1 + c9)), (3, .int z10)] → W p l e (headSpec (hk_ws yX11_hoursToReady cX11_hoursToReady 4 (Option.some Jvm.ClassFile.FieldType.int)) ({ frames := 7, cells := 1, slots := 6, locals := 103 })).room s m [.ref (g.1 + a0), .int x1].toArray below meth c H locs 1 6 (vx_MQ below (hk_XQ g E n o (fun x => x.2) (fun x => some (.int x.1))) (hk_XX g E o) [.ref (g.1 + a0), .int x1].toArray s 1 6 (hk_A g)) (F0 m 25 ls []) := by
    intro c9 hc9 k hk f
    induction f with
    | zero =>
      intro S z10 H locs ls hsp
      exact nomatch hsp
    | succ f ih =>
      intro S z10 H locs ls hsp G hl
      rw [mX11_hoursToReady_25] at hsp
      refine lv_iload_n hx hb dX11_hoursToReady_25 rfl (lv_at hl 3 rfl) ?_
      refine lv_sipush (v := 200) hx hb dX11_hoursToReady_26 (by decide) ?_
      refine lv_icmp_gt (tgt := 84) hx hb dX11_hoursToReady_29 (by decide) (fun c11 => ?_) (fun c11 => ?_)
      · have hsp := hk_t c11 hsp
        exact hk S z10 _ _ _ hsp G (lv_sub hl [0, 1, 2, 3] rfl)
      · have hsp := hk_f c11 hsp
        refine lv_aload_n hx hb dX11_hoursToReady_32 rfl (lv_at hl 0 rfl) ?_
        obtain ⟨r12, er12, hsp⟩ := hk_b hsp
        obtain ⟨kr12, hsp⟩ := hk_k hsp
        refine hk_getR F9 G h0 hkc_8 (k := 0) (by decide) qw_399 rfl er12 dX11_hoursToReady_33 ?_
        refine lv_aload_n hx hb dX11_hoursToReady_36 rfl (lv_at hl 0 rfl) ?_
        obtain ⟨r13, er13, hsp⟩ := hk_b hsp
        obtain ⟨kr13, hsp⟩ := hk_k hsp
        refine hk_getR F9 G h0 hkc_8 (k := 6) (by decide) qw_405 rfl er13 dX11_hoursToReady_37 ?_
        obtain ⟨r14, er14, hsp⟩ := hk_b hsp
        refine hk_callVi (As := [.ref (g.1 + r13)]) (rest := []) F9 G kr12 hkc_3 rfl (kX5_isReady l g E F n S r12 r13 r14 kr12 kr13 er14) qv_RX11_279 ⟨rfl, rfl, (Nat.le_of_ble_eq_true rfl), (Nat.le_of_ble_eq_true rfl)⟩ rfl hl.1 rfl (Nat.le_of_ble_eq_true rfl) ⟨(Nat.le_of_ble_eq_true rfl), (Nat.le_of_ble_eq_true rfl)⟩ dX11_hoursToReady_40 (fun H locs G => ?_)
        refine lv_if_eq (tgt := 48) hx hb dX11_hoursToReady_43 (by decide) (fun c15 => ?_) (fun c15 => ?_)
        · have hsp := hk_t c15 hsp
          refine lv_aload_n hx hb dX11_hoursToReady_48 rfl (lv_at hl 0 rfl) ?_
          refine hk_getR F9 G h0 hkc_8 (k := 6) (by decide) qw_405 rfl er13 dX11_hoursToReady_49 ?_
          refine lv_aload_n hx hb dX11_hoursToReady_52 rfl (lv_at hl 0 rfl) ?_
          refine hk_getR F9 G h0 hkc_8 (k := 0) (by decide) qw_399 rfl er12 dX11_hoursToReady_53 ?_
          obtain ⟨r16, er16, hsp⟩ := hk_b hsp
          obtain ⟨kr16, hsp⟩ := hk_k hsp
          refine hk_getR F9 G kr12 hkc_3 (k := 0) (by decide) qw_172 rfl er16 dX11_hoursToReady_56 ?_
          refine lv_aload_n hx hb dX11_hoursToReady_59 rfl (lv_at hl 0 rfl) ?_
          refine hk_getR F9 G h0 hkc_8 (k := 0) (by decide) qw_399 rfl er12 dX11_hoursToReady_60 ?_
          refine hk_getR F9 G kr12 hkc_3 (k := 0) (by decide) qw_172 rfl er16 dX11_hoursToReady_63 ?_
          refine hk_getI F9 G kr16 hkc_0 (k := 0) (by decide) qw_50 rfl dX11_hoursToReady_66 ?_
          refine lv_iload_n hx hb dX11_hoursToReady_69 rfl (lv_at hl 3 rfl) ?_
          refine lv_iadd hx hb dX11_hoursToReady_70 ?_
          obtain ⟨r17, er17, hsp⟩ := hk_b hsp
          refine hk_callVi (As := [.int ((r14.2 r16 0) + z10)]) (rest := [.ref (g.1 + r13)]) F9 G kr16 hkc_0 rfl (kX1_drynessOf l g E F n r14.2 r16 ((r14.2 r16 0) + z10) r17 kr16 er17) qv_RX11_230 ⟨rfl, rfl, (Nat.le_of_ble_eq_true rfl), (Nat.le_of_ble_eq_true rfl)⟩ rfl hl.1 rfl (Nat.le_of_ble_eq_true rfl) ⟨(Nat.le_of_ble_eq_true rfl), (Nat.le_of_ble_eq_true rfl)⟩ dX11_hoursToReady_71 (fun H locs G => ?_)
          obtain ⟨r18, er18, hsp⟩ := hk_b hsp
          refine hk_callVi (As := [.int r17.1]) (rest := []) F9 G kr13 hkc_7 rfl (kX10_passHour l g E F n r17.2 r13 r17.1 r18 kr13 er18) qv_RX11_283 ⟨rfl, rfl, (Nat.le_of_ble_eq_true rfl), (Nat.le_of_ble_eq_true rfl)⟩ rfl hl.1 rfl (Nat.le_of_ble_eq_true rfl) ⟨(Nat.le_of_ble_eq_true rfl), (Nat.le_of_ble_eq_true rfl)⟩ dX11_hoursToReady_74 (fun H locs G => ?_)
          refine lv_pop hx hb dX11_hoursToReady_77 rfl ?_
          obtain ⟨y19, ey19, hsp⟩ := hk_l hsp
          refine lv_iinc (v := y19) (lv' := [(3, .int y19), (0, .ref (g.1 + a0)), (1, .int x1), (2, .ref (g.1 + c9))]) hx hb dX11_hoursToReady_78 hl (k := 3) rfl (by rw [← ey19]; rfl) (by decide) rfl (fun ls hl => ?_)
          refine lv_goto (tgt := 25) hx hb dX11_hoursToReady_81 (by decide) ?_
          exact ih r18.2 y19 _ _ _ hsp G (lv_sub hl [1, 2, 3, 0] rfl)
        · have hsp := hk_f c15 hsp
          refine lv_iload_n hx hb dX11_hoursToReady_46 rfl (lv_at hl 3 rfl) ?_
          obtain rfl := hk_s hsp
          exact vx_ret (W.widen (k := 1) (n := 6) (Nat.le_of_ble_eq_true rfl) (Nat.le_of_ble_eq_true rfl) (W.iret (v := z10) hx hb hr (fun t ht hW => ⟨_, rfl, hk_end G ht hW⟩) G.2.1.2.2 dX11_hoursToReady_47))
  refine lv_aload_n hx hb dX11_hoursToReady_0 rfl (lv_at hl 0 rfl) ?_
  refine lv_iload_n hx hb dX11_hoursToReady_1 rfl (lv_at hl 1 rfl) ?_
  rcases hk_xe hsp with ⟨k2, T3, er1, rfl⟩ | ⟨r1, er1, hsp⟩
  · exact hk_xVt (As := [.int x1]) (rest := []) F9 G h0 hkc_8 rfl (kX11_existingTrough l hst g E F n S a0 x1 _ h0 er1) qv_RX11_124 ⟨rfl, rfl, (Nat.le_of_ble_eq_true rfl), (Nat.le_of_ble_eq_true rfl)⟩ rfl hl.1 rfl (Nat.le_of_ble_eq_true rfl) ⟨(Nat.le_of_ble_eq_true rfl), (Nat.le_of_ble_eq_true rfl)⟩ dX11_hoursToReady_2 ht hlocks ⟨(Nat.le_of_ble_eq_true rfl), (Nat.le_of_ble_eq_true rfl)⟩
  refine hk_xVr (As := [.int x1]) (rest := []) F9 G h0 hkc_8 rfl (kX11_existingTrough l hst g E F n S a0 x1 _ h0 er1) qv_RX11_124 ⟨rfl, rfl, (Nat.le_of_ble_eq_true rfl), (Nat.le_of_ble_eq_true rfl)⟩ rfl hl.1 rfl (Nat.le_of_ble_eq_true rfl) ⟨(Nat.le_of_ble_eq_true rfl), (Nat.le_of_ble_eq_true rfl)⟩ dX11_hoursToReady_2 (fun H locs G => ?_)
  obtain ⟨q4, hsp⟩ := hk_k hsp
  refine lv_astore_n (lv' := [(2, .ref (g.1 + r1.1)), (0, .ref (g.1 + a0)), (1, .int x1)]) hx hb dX11_hoursToReady_5 rfl hl (by decide) rfl (fun ls hl => ?_)
  refine lv_aload_n hx hb dX11_hoursToReady_6 rfl (lv_at hl 0 rfl) ?_
  obtain ⟨r5, er5, hsp⟩ := hk_b hsp
  refine hk_callVi (As := []) (rest := []) F9 G q4 hkc_7 rfl (kX10_hasLeaf l g E F n r1.2 r1.1 r5 q4 er5) qv_RX11_130 ⟨rfl, rfl, (Nat.le_of_ble_eq_true rfl), (Nat.le_of_ble_eq_true rfl)⟩ rfl hl.1 rfl (Nat.le_of_ble_eq_true rfl) ⟨(Nat.le_of_ble_eq_true rfl), (Nat.le_of_ble_eq_true rfl)⟩ dX11_hoursToReady_7 (fun H locs G => ?_)
  refine lv_if_ne (tgt := 15) hx hb dX11_hoursToReady_10 (by decide) (fun c6 => ?_) (fun c6 => ?_)
  · have hsp := hk_t c6 hsp
    refine lv_aload_n hx hb dX11_hoursToReady_15 rfl (lv_at hl 1 rfl) ?_
    obtain ⟨r7, er7, hsp⟩ := hk_b hsp
    obtain ⟨kr7, hsp⟩ := hk_k hsp
    refine hk_getR F9 G h0 hkc_8 (k := 6) (by decide) qw_405 rfl er7 dX11_hoursToReady_16 ?_
    refine lv_aload_n hx hb dX11_hoursToReady_19 rfl (lv_at hl 0 rfl) ?_
    obtain ⟨r8, er8, hsp⟩ := hk_b hsp
    refine hk_callVv (As := [.ref (g.1 + r1.1)]) (rest := []) F9 G kr7 hkc_7 rfl (kX10_become l g E F n r5.2 r7 r1.1 r8 kr7 q4 er8) qv_RX11_273 ⟨rfl, rfl, (Nat.le_of_ble_eq_true rfl), (Nat.le_of_ble_eq_true rfl)⟩ rfl hl.1 rfl (Nat.le_of_ble_eq_true rfl) ⟨(Nat.le_of_ble_eq_true rfl), (Nat.le_of_ble_eq_true rfl)⟩ dX11_hoursToReady_20 (fun H locs G => ?_)
    refine lv_iconst (v := 0) hx hb dX11_hoursToReady_23 (by decide) ?_
    refine lv_istore_n (lv' := [(3, .int 0), (2, .ref (g.1 + r1.1)), (0, .ref (g.1 + a0)), (1, .int x1)]) hx hb dX11_hoursToReady_24 rfl hl (by decide) rfl (fun ls hl => ?_)
    refine L_25 r1.1 q4 _ ?_ F r8 0 _ _ _ hsp G (lv_sub hl [2, 3, 1, 0] rfl)
    intro S20 z21 H locs ls hsp G hl
    refine lv_iconst (v := (-1)) hx hb dX11_hoursToReady_84 (by decide) ?_
    obtain rfl := hk_s hsp
    exact vx_ret (W.widen (k := 1) (n := 6) (Nat.le_of_ble_eq_true rfl) (Nat.le_of_ble_eq_true rfl) (W.iret (v := (-1)) hx hb hr (fun t ht hW => ⟨_, rfl, hk_end G ht hW⟩) G.2.1.2.2 dX11_hoursToReady_85))
  · have hsp := hk_g c6 hsp
    refine lv_iconst (v := (-1)) hx hb dX11_hoursToReady_13 (by decide) ?_
    obtain rfl := hk_s hsp
    exact vx_ret (W.widen (k := 1) (n := 6) (Nat.le_of_ble_eq_true rfl) (Nat.le_of_ble_eq_true rfl) (W.iret (v := (-1)) hx hb hr (fun t ht hW => ⟨_, rfl, hk_end G ht hW⟩) G.2.1.2.2 dX11_hoursToReady_14))
def mX11_hoursToDamage_25 (E : hk_E) (F : Nat) (a0 : Nat) (x1 : Int32) (c9 : Nat) (k : hk_S → Int32 → Option (Sum (Nat × hk_S) (Int32 × hk_S))) : Nat → hk_S → Int32 → Option (Sum (Nat × hk_S) (Int32 × hk_S))
  | 0 => fun _ _ => none
  | f + 1 => fun S z10 =>
    if 20 < z10 then (k S z10) else ((E.2.2.2 a0 6).bind (fun r12 => if E.2.1 r12 = 8 then ((E.2.2.2 a0 0).bind (fun r13 => if E.2.1 r13 = 4 then ((E.2.2.2 r13 0).bind (fun r14 => if E.2.1 r14 = 1 then ((mX1_drynessOf E F S r14 (((S r14 0) + z10) - 1)).bind (fun r15 => (mX10_passHour E F r15.2 r12 r15.1).bind (fun r16 => if (r16.2 r12 9) ≤ (r16.2 c9 9) then (hk_let (z10 + 1) (fun y18 => mX11_hoursToDamage_25 E F a0 x1 c9 k f r16.2 y18)) else (some (.inr ((z10, r16.2))))))) else none)) else none)) else none))
def mX11_hoursToDamage (E : hk_E) (F : Nat) (S : hk_S) (a0 : Nat) (x1 : Int32) : Option (Sum (Nat × hk_S) (Int32 × hk_S)) :=
hk_xb (mX11_existingTrough E F S a0 x1) (fun r1 => if E.2.1 r1.1 = 8 then ((mX10_hasLeaf E F r1.2 r1.1).bind (fun r5 => if ¬ r5.1 = 0 then ((E.2.2.2 a0 6).bind (fun r7 => if E.2.1 r7 = 8 then ((mX10_become E F r5.2 r7 r1.1).bind (fun r8 => mX11_hoursToDamage_25 E F a0 x1 r1.1 (fun S19 z20 => some (.inr (((-1), S19)))) F r8 1)) else none)) else (some (.inr (((-1), r5.2)))))) else none)
set_option maxHeartbeats 4000000 in
set_option maxRecDepth 100000 in
theorem kX11_hoursToDamage (l : Launch) (hst : l.stackTraces = false) (g : hk_G) (E : hk_E) (F n : Nat) (S : hk_S) (a0 : Nat) (x1 : Int32) (o : Sum (Nat × hk_S) (Int32 × hk_S)) (h0 : E.2.1 a0 = 9) (hsp : mX11_hoursToDamage E F S a0 x1 = some o) : vx_Met l yX11_hoursToDamage (hk_ws yX11_hoursToDamage cX11_hoursToDamage 4 (Option.some Jvm.ClassFile.FieldType.int)) ({ frames := 7, cells := 1, slots := 6, locals := 103 }) (hk_Pc g E S n [.ref (g.1 + a0), .int x1]) (hk_XQ g E n o (fun x => x.2) (fun x => some (.int x.1))) (hk_XX g E o) 1 6 (hk_A g) := by
  refine vx_ofW (cc := cX11_hoursToDamage) (maxL := 4) (ret := (Option.some Jvm.ClassFile.FieldType.int)) (by decide) rfl ?_
  intro p e s m args below meth c s₁ B hml ht hv
  obtain ⟨rfl, G⟩ := hk_begin hv
  have F9 : CallFix p m c cX11_hoursToDamage 4 s [.ref (g.1 + a0), .int x1].toArray hk_W RX11 := ⟨B.exec, B.bytes, hml, findClass_of_methodNamed B.named, fun w h => atoms_spec (ws := hk_ws yX11_hoursToDamage cX11_hoursToDamage 4 (Option.some Jvm.ClassFile.FieldType.int)) B.pre w (hk_in h)⟩
  have hx := B.exec
  have hb := B.bytes
  have hr := B.returns
  have hlocks := B.notSynchronized
  have hl := lv_entry ([.ref (g.1 + a0), .int x1]) (n := 4) (Nat.le_of_ble_eq_true rfl)
  rw [lg_entry_eq]
  generalize (lg_sl ([.ref (g.1 + a0), .int x1]) ++ List.replicate (4 - (lg_sl ([.ref (g.1 + a0), .int x1])).length) Slot.unset).toArray = ls at hl ⊢
  have hl : lv_has ls 4 [(0, .ref (g.1 + a0)), (1, .int x1)] := hl
  unfold mX11_hoursToDamage at hsp
  have G : hk_GG g E S n s s.heap [] := G
  have L_25 : ∀ (c9 : Nat) (hc9 : E.2.1 c9 = 8) (k : hk_S → Int32 → Option (Sum (Nat × hk_S) (Int32 × hk_S))) (_ : ∀ (S : hk_S) (z10 : Int32) (H : Heap) (locs : List Loc) (ls : Array Slot), k S z10 = some o → hk_GG g E S n s H locs → lv_has ls 4 [(0, .ref (g.1 + a0)), (1, .int x1), (2, .ref (g.1 + c9)), (3, .int z10)] → W p l e (headSpec (hk_ws yX11_hoursToDamage cX11_hoursToDamage 4 (Option.some Jvm.ClassFile.FieldType.int)) ({ frames := 7, cells := 1, slots := 6, locals := 103 })).room s m [.ref (g.1 + a0), .int x1].toArray below meth c H locs 1 6 (vx_MQ below (hk_XQ g E n o (fun x => x.2) (fun x => some (.int x.1))) (hk_XX g E o) [.ref (g.1 + a0), .int x1].toArray s 1 6 (hk_A g)) (F0 m 85 ls [])) (f : Nat) (S : hk_S) (z10 : Int32) (H : Heap) (locs : List Loc) (ls : Array Slot), mX11_hoursToDamage_25 E F a0 x1 c9 k f S z10 = some o → hk_GG g E S n s H locs → lv_has ls 4 [(0, .ref (g.1 + a0)), (1, .int x1), (2, .ref (g.1 + c9)), (3, .int z10)] → W p l e (headSpec (hk_ws yX11_hoursToDamage cX11_hoursToDamage 4 (Option.some Jvm.ClassFile.FieldType.int)) ({ frames := 7, cells := 1, slots := 6, locals := 103 })).room s m [.ref (g.1 + a0), .int x1].toArray below meth c H locs 1 6 (vx_MQ below (hk_XQ g E n o (fun x => x.2) (fun x => some (.int x.1))) (hk_XX g E o) [.ref (g.1 + a0), .int x1].toArray s 1 6 (hk_A g)) (F0 m 25 ls []) := by
    intro c9 hc9 k hk f
    induction f with
    | zero =>
      intro S z10 H locs ls hsp
      exact nomatch hsp
    | succ f ih =>
      intro S z10 H locs ls hsp G hl
      rw [mX11_hoursToDamage_25] at hsp
      refine lv_iload_n hx hb dX11_hoursToDamage_25 rfl (lv_at hl 3 rfl) ?_
      refine lv_bipush (v := 20) hx hb dX11_hoursToDamage_26 (by decide) ?_
      refine lv_icmp_gt (tgt := 85) hx hb dX11_hoursToDamage_28 (by decide) (fun c11 => ?_) (fun c11 => ?_)
      · have hsp := hk_t c11 hsp
        exact hk S z10 _ _ _ hsp G (lv_sub hl [0, 1, 2, 3] rfl)
      · have hsp := hk_f c11 hsp
        refine lv_aload_n hx hb dX11_hoursToDamage_31 rfl (lv_at hl 0 rfl) ?_
        obtain ⟨r12, er12, hsp⟩ := hk_b hsp
        obtain ⟨kr12, hsp⟩ := hk_k hsp
        refine hk_getR F9 G h0 hkc_8 (k := 6) (by decide) qw_405 rfl er12 dX11_hoursToDamage_32 ?_
        refine lv_aload_n hx hb dX11_hoursToDamage_35 rfl (lv_at hl 0 rfl) ?_
        obtain ⟨r13, er13, hsp⟩ := hk_b hsp
        obtain ⟨kr13, hsp⟩ := hk_k hsp
        refine hk_getR F9 G h0 hkc_8 (k := 0) (by decide) qw_399 rfl er13 dX11_hoursToDamage_36 ?_
        obtain ⟨r14, er14, hsp⟩ := hk_b hsp
        obtain ⟨kr14, hsp⟩ := hk_k hsp
        refine hk_getR F9 G kr13 hkc_3 (k := 0) (by decide) qw_172 rfl er14 dX11_hoursToDamage_39 ?_
        refine lv_aload_n hx hb dX11_hoursToDamage_42 rfl (lv_at hl 0 rfl) ?_
        refine hk_getR F9 G h0 hkc_8 (k := 0) (by decide) qw_399 rfl er13 dX11_hoursToDamage_43 ?_
        refine hk_getR F9 G kr13 hkc_3 (k := 0) (by decide) qw_172 rfl er14 dX11_hoursToDamage_46 ?_
        refine hk_getI F9 G kr14 hkc_0 (k := 0) (by decide) qw_50 rfl dX11_hoursToDamage_49 ?_
        refine lv_iload_n hx hb dX11_hoursToDamage_52 rfl (lv_at hl 3 rfl) ?_
        refine lv_iadd hx hb dX11_hoursToDamage_53 ?_
        refine lv_iconst (v := 1) hx hb dX11_hoursToDamage_54 (by decide) ?_
        refine lv_isub hx hb dX11_hoursToDamage_55 ?_
        obtain ⟨r15, er15, hsp⟩ := hk_b hsp
        refine hk_callVi (As := [.int (((S r14 0) + z10) - 1)]) (rest := [.ref (g.1 + r12)]) F9 G kr14 hkc_0 rfl (kX1_drynessOf l g E F n S r14 (((S r14 0) + z10) - 1) r15 kr14 er15) qv_RX11_230 ⟨rfl, rfl, (Nat.le_of_ble_eq_true rfl), (Nat.le_of_ble_eq_true rfl)⟩ rfl hl.1 rfl (Nat.le_of_ble_eq_true rfl) ⟨(Nat.le_of_ble_eq_true rfl), (Nat.le_of_ble_eq_true rfl)⟩ dX11_hoursToDamage_56 (fun H locs G => ?_)
        obtain ⟨r16, er16, hsp⟩ := hk_b hsp
        refine hk_callVi (As := [.int r15.1]) (rest := []) F9 G kr12 hkc_7 rfl (kX10_passHour l g E F n r15.2 r12 r15.1 r16 kr12 er16) qv_RX11_283 ⟨rfl, rfl, (Nat.le_of_ble_eq_true rfl), (Nat.le_of_ble_eq_true rfl)⟩ rfl hl.1 rfl (Nat.le_of_ble_eq_true rfl) ⟨(Nat.le_of_ble_eq_true rfl), (Nat.le_of_ble_eq_true rfl)⟩ dX11_hoursToDamage_59 (fun H locs G => ?_)
        refine lv_pop hx hb dX11_hoursToDamage_62 rfl ?_
        refine lv_aload_n hx hb dX11_hoursToDamage_63 rfl (lv_at hl 0 rfl) ?_
        refine hk_getR F9 G h0 hkc_8 (k := 6) (by decide) qw_405 rfl er12 dX11_hoursToDamage_64 ?_
        refine hk_getI F9 G kr12 hkc_7 (k := 9) (by decide) qw_111 rfl dX11_hoursToDamage_67 ?_
        refine lv_aload_n hx hb dX11_hoursToDamage_70 rfl (lv_at hl 2 rfl) ?_
        refine hk_getI F9 G hc9 hkc_7 (k := 9) (by decide) qw_111 rfl dX11_hoursToDamage_71 ?_
        refine lv_icmp_le (tgt := 79) hx hb dX11_hoursToDamage_74 (by decide) (fun c17 => ?_) (fun c17 => ?_)
        · have hsp := hk_t c17 hsp
          obtain ⟨y18, ey18, hsp⟩ := hk_l hsp
          refine lv_iinc (v := y18) (lv' := [(3, .int y18), (0, .ref (g.1 + a0)), (1, .int x1), (2, .ref (g.1 + c9))]) hx hb dX11_hoursToDamage_79 hl (k := 3) rfl (by rw [← ey18]; rfl) (by decide) rfl (fun ls hl => ?_)
          refine lv_goto (tgt := 25) hx hb dX11_hoursToDamage_82 (by decide) ?_
          exact ih r16.2 y18 _ _ _ hsp G (lv_sub hl [1, 2, 3, 0] rfl)
        · have hsp := hk_f c17 hsp
          refine lv_iload_n hx hb dX11_hoursToDamage_77 rfl (lv_at hl 3 rfl) ?_
          obtain rfl := hk_s hsp
          exact vx_ret (W.widen (k := 1) (n := 6) (Nat.le_of_ble_eq_true rfl) (Nat.le_of_ble_eq_true rfl) (W.iret (v := z10) hx hb hr (fun t ht hW => ⟨_, rfl, hk_end G ht hW⟩) G.2.1.2.2 dX11_hoursToDamage_78))
  refine lv_aload_n hx hb dX11_hoursToDamage_0 rfl (lv_at hl 0 rfl) ?_
  refine lv_iload_n hx hb dX11_hoursToDamage_1 rfl (lv_at hl 1 rfl) ?_
  rcases hk_xe hsp with ⟨k2, T3, er1, rfl⟩ | ⟨r1, er1, hsp⟩
  · exact hk_xVt (As := [.int x1]) (rest := []) F9 G h0 hkc_8 rfl (kX11_existingTrough l hst g E F n S a0 x1 _ h0 er1) qv_RX11_124 ⟨rfl, rfl, (Nat.le_of_ble_eq_true rfl), (Nat.le_of_ble_eq_true rfl)⟩ rfl hl.1 rfl (Nat.le_of_ble_eq_true rfl) ⟨(Nat.le_of_ble_eq_true rfl), (Nat.le_of_ble_eq_true rfl)⟩ dX11_hoursToDamage_2 ht hlocks ⟨(Nat.le_of_ble_eq_true rfl), (Nat.le_of_ble_eq_true rfl)⟩
  refine hk_xVr (As := [.int x1]) (rest := []) F9 G h0 hkc_8 rfl (kX11_existingTrough l hst g E F n S a0 x1 _ h0 er1) qv_RX11_124 ⟨rfl, rfl, (Nat.le_of_ble_eq_true rfl), (Nat.le_of_ble_eq_true rfl)⟩ rfl hl.1 rfl (Nat.le_of_ble_eq_true rfl) ⟨(Nat.le_of_ble_eq_true rfl), (Nat.le_of_ble_eq_true rfl)⟩ dX11_hoursToDamage_2 (fun H locs G => ?_)
  obtain ⟨q4, hsp⟩ := hk_k hsp
  refine lv_astore_n (lv' := [(2, .ref (g.1 + r1.1)), (0, .ref (g.1 + a0)), (1, .int x1)]) hx hb dX11_hoursToDamage_5 rfl hl (by decide) rfl (fun ls hl => ?_)
  refine lv_aload_n hx hb dX11_hoursToDamage_6 rfl (lv_at hl 0 rfl) ?_
  obtain ⟨r5, er5, hsp⟩ := hk_b hsp
  refine hk_callVi (As := []) (rest := []) F9 G q4 hkc_7 rfl (kX10_hasLeaf l g E F n r1.2 r1.1 r5 q4 er5) qv_RX11_130 ⟨rfl, rfl, (Nat.le_of_ble_eq_true rfl), (Nat.le_of_ble_eq_true rfl)⟩ rfl hl.1 rfl (Nat.le_of_ble_eq_true rfl) ⟨(Nat.le_of_ble_eq_true rfl), (Nat.le_of_ble_eq_true rfl)⟩ dX11_hoursToDamage_7 (fun H locs G => ?_)
  refine lv_if_ne (tgt := 15) hx hb dX11_hoursToDamage_10 (by decide) (fun c6 => ?_) (fun c6 => ?_)
  · have hsp := hk_t c6 hsp
    refine lv_aload_n hx hb dX11_hoursToDamage_15 rfl (lv_at hl 1 rfl) ?_
    obtain ⟨r7, er7, hsp⟩ := hk_b hsp
    obtain ⟨kr7, hsp⟩ := hk_k hsp
    refine hk_getR F9 G h0 hkc_8 (k := 6) (by decide) qw_405 rfl er7 dX11_hoursToDamage_16 ?_
    refine lv_aload_n hx hb dX11_hoursToDamage_19 rfl (lv_at hl 0 rfl) ?_
    obtain ⟨r8, er8, hsp⟩ := hk_b hsp
    refine hk_callVv (As := [.ref (g.1 + r1.1)]) (rest := []) F9 G kr7 hkc_7 rfl (kX10_become l g E F n r5.2 r7 r1.1 r8 kr7 q4 er8) qv_RX11_273 ⟨rfl, rfl, (Nat.le_of_ble_eq_true rfl), (Nat.le_of_ble_eq_true rfl)⟩ rfl hl.1 rfl (Nat.le_of_ble_eq_true rfl) ⟨(Nat.le_of_ble_eq_true rfl), (Nat.le_of_ble_eq_true rfl)⟩ dX11_hoursToDamage_20 (fun H locs G => ?_)
    refine lv_iconst (v := 1) hx hb dX11_hoursToDamage_23 (by decide) ?_
    refine lv_istore_n (lv' := [(3, .int 1), (2, .ref (g.1 + r1.1)), (0, .ref (g.1 + a0)), (1, .int x1)]) hx hb dX11_hoursToDamage_24 rfl hl (by decide) rfl (fun ls hl => ?_)
    refine L_25 r1.1 q4 _ ?_ F r8 1 _ _ _ hsp G (lv_sub hl [2, 3, 1, 0] rfl)
    intro S19 z20 H locs ls hsp G hl
    refine lv_iconst (v := (-1)) hx hb dX11_hoursToDamage_85 (by decide) ?_
    obtain rfl := hk_s hsp
    exact vx_ret (W.widen (k := 1) (n := 6) (Nat.le_of_ble_eq_true rfl) (Nat.le_of_ble_eq_true rfl) (W.iret (v := (-1)) hx hb hr (fun t ht hW => ⟨_, rfl, hk_end G ht hW⟩) G.2.1.2.2 dX11_hoursToDamage_86))
  · have hsp := hk_g c6 hsp
    refine lv_iconst (v := (-1)) hx hb dX11_hoursToDamage_13 (by decide) ?_
    obtain rfl := hk_s hsp
    exact vx_ret (W.widen (k := 1) (n := 6) (Nat.le_of_ble_eq_true rfl) (Nat.le_of_ble_eq_true rfl) (W.iret (v := (-1)) hx hb hr (fun t ht hW => ⟨_, rfl, hk_end G ht hW⟩) G.2.1.2.2 dX11_hoursToDamage_14))
def mX11_bestReversal (E : hk_E) (F : Nat) (S : hk_S) (a0 : Nat) (x1 : Int32) (x2 : Int32) : Option (Sum (Nat × hk_S) (Int32 × hk_S)) :=
hk_xb (mX11_existingTrough E F S a0 x1) (fun r1 => if E.2.1 r1.1 = 8 then (hk_xb (mX11_requireRange E F r1.2 x2 1 100) (fun r5 => (mX10_hasLeaf E F r5 r1.1).bind (fun r8 => if r8.1 = 0 then (some (.inr (((-1), r8.2)))) else ((mX11_bestHourToReverse E F r8.2 a0 r1.1 x2).bind (fun r10 => some (.inr ((r10.1, r10.2)))))))) else none)
set_option maxHeartbeats 4000000 in
set_option maxRecDepth 100000 in
theorem kX11_bestReversal (l : Launch) (hst : l.stackTraces = false) (g : hk_G) (E : hk_E) (F n : Nat) (S : hk_S) (a0 : Nat) (x1 : Int32) (x2 : Int32) (o : Sum (Nat × hk_S) (Int32 × hk_S)) (h0 : E.2.1 a0 = 9) (hsp : mX11_bestReversal E F S a0 x1 x2 = some o) : vx_Met l yX11_bestReversal (hk_ws yX11_bestReversal cX11_bestReversal 4 (Option.some Jvm.ClassFile.FieldType.int)) ({ frames := 7, cells := 2, slots := 12, locals := 104 }) (hk_Pc g E S n [.ref (g.1 + a0), .int x1, .int x2]) (hk_XQ g E n o (fun x => x.2) (fun x => some (.int x.1))) (hk_XX g E o) 2 12 (hk_A g) := by
  refine vx_ofW (cc := cX11_bestReversal) (maxL := 4) (ret := (Option.some Jvm.ClassFile.FieldType.int)) (by decide) rfl ?_
  intro p e s m args below meth c s₁ B hml ht hv
  obtain ⟨rfl, G⟩ := hk_begin hv
  have F9 : CallFix p m c cX11_bestReversal 4 s [.ref (g.1 + a0), .int x1, .int x2].toArray hk_W RX11 := ⟨B.exec, B.bytes, hml, findClass_of_methodNamed B.named, fun w h => atoms_spec (ws := hk_ws yX11_bestReversal cX11_bestReversal 4 (Option.some Jvm.ClassFile.FieldType.int)) B.pre w (hk_in h)⟩
  have hx := B.exec
  have hb := B.bytes
  have hr := B.returns
  have hlocks := B.notSynchronized
  have hl := lv_entry ([.ref (g.1 + a0), .int x1, .int x2]) (n := 4) (Nat.le_of_ble_eq_true rfl)
  rw [lg_entry_eq]
  generalize (lg_sl ([.ref (g.1 + a0), .int x1, .int x2]) ++ List.replicate (4 - (lg_sl ([.ref (g.1 + a0), .int x1, .int x2])).length) Slot.unset).toArray = ls at hl ⊢
  have hl : lv_has ls 4 [(0, .ref (g.1 + a0)), (1, .int x1), (2, .int x2)] := hl
  unfold mX11_bestReversal at hsp
  have G : hk_GG g E S n s s.heap [] := G
  refine lv_aload_n hx hb dX11_bestReversal_0 rfl (lv_at hl 0 rfl) ?_
  refine lv_iload_n hx hb dX11_bestReversal_1 rfl (lv_at hl 1 rfl) ?_
  rcases hk_xe hsp with ⟨k2, T3, er1, rfl⟩ | ⟨r1, er1, hsp⟩
  · exact hk_xVt (As := [.int x1]) (rest := []) F9 G h0 hkc_8 rfl (kX11_existingTrough l hst g E F n S a0 x1 _ h0 er1) qv_RX11_124 ⟨rfl, rfl, (Nat.le_of_ble_eq_true rfl), (Nat.le_of_ble_eq_true rfl)⟩ rfl hl.1 rfl (Nat.le_of_ble_eq_true rfl) ⟨(Nat.le_of_ble_eq_true rfl), (Nat.le_of_ble_eq_true rfl)⟩ dX11_bestReversal_2 ht hlocks ⟨(Nat.le_of_ble_eq_true rfl), (Nat.le_of_ble_eq_true rfl)⟩
  refine hk_xVr (As := [.int x1]) (rest := []) F9 G h0 hkc_8 rfl (kX11_existingTrough l hst g E F n S a0 x1 _ h0 er1) qv_RX11_124 ⟨rfl, rfl, (Nat.le_of_ble_eq_true rfl), (Nat.le_of_ble_eq_true rfl)⟩ rfl hl.1 rfl (Nat.le_of_ble_eq_true rfl) ⟨(Nat.le_of_ble_eq_true rfl), (Nat.le_of_ble_eq_true rfl)⟩ dX11_bestReversal_2 (fun H locs G => ?_)
  obtain ⟨q4, hsp⟩ := hk_k hsp
  refine lv_astore_n (lv' := [(3, .ref (g.1 + r1.1)), (0, .ref (g.1 + a0)), (1, .int x1), (2, .int x2)]) hx hb dX11_bestReversal_5 rfl hl (by decide) rfl (fun ls hl => ?_)
  refine lv_iload_n hx hb dX11_bestReversal_6 rfl (lv_at hl 3 rfl) ?_
  refine lv_iconst (v := 1) hx hb dX11_bestReversal_7 (by decide) ?_
  refine lv_bipush (v := 100) hx hb dX11_bestReversal_8 (by decide) ?_
  rcases hk_xe hsp with ⟨k6, T7, er5, rfl⟩ | ⟨r5, er5, hsp⟩
  · exact hk_xSt (As := [.int x2, .int 1, .int 100]) (rest := []) F9 G (kX11_requireRange l hst g E F n r1.2 x2 1 100 _  er5) qv_RX11_96 ⟨rfl, rfl, (Nat.le_of_ble_eq_true rfl), (Nat.le_of_ble_eq_true rfl)⟩ rfl hl.1 rfl (Nat.le_of_ble_eq_true rfl) ⟨(Nat.le_of_ble_eq_true rfl), (Nat.le_of_ble_eq_true rfl)⟩ dX11_bestReversal_10 ht hlocks ⟨(Nat.le_of_ble_eq_true rfl), (Nat.le_of_ble_eq_true rfl)⟩
  refine hk_xSv (As := [.int x2, .int 1, .int 100]) (rest := []) F9 G (kX11_requireRange l hst g E F n r1.2 x2 1 100 _  er5) qv_RX11_96 ⟨rfl, rfl, (Nat.le_of_ble_eq_true rfl), (Nat.le_of_ble_eq_true rfl)⟩ rfl hl.1 rfl (Nat.le_of_ble_eq_true rfl) ⟨(Nat.le_of_ble_eq_true rfl), (Nat.le_of_ble_eq_true rfl)⟩ dX11_bestReversal_10 (fun H locs G => ?_)
  refine lv_aload_n hx hb dX11_bestReversal_13 rfl (lv_at hl 0 rfl) ?_
  obtain ⟨r8, er8, hsp⟩ := hk_b hsp
  refine hk_callVi (As := []) (rest := []) F9 G q4 hkc_7 rfl (kX10_hasLeaf l g E F n r5 r1.1 r8 q4 er8) qv_RX11_130 ⟨rfl, rfl, (Nat.le_of_ble_eq_true rfl), (Nat.le_of_ble_eq_true rfl)⟩ rfl hl.1 rfl (Nat.le_of_ble_eq_true rfl) ⟨(Nat.le_of_ble_eq_true rfl), (Nat.le_of_ble_eq_true rfl)⟩ dX11_bestReversal_14 (fun H locs G => ?_)
  refine lv_if_eq (tgt := 29) hx hb dX11_bestReversal_17 (by decide) (fun c9 => ?_) (fun c9 => ?_)
  · have hsp := hk_t c9 hsp
    refine lv_iconst (v := (-1)) hx hb dX11_bestReversal_29 (by decide) ?_
    obtain rfl := hk_s hsp
    exact vx_ret (W.widen (k := 2) (n := 12) (Nat.le_of_ble_eq_true rfl) (Nat.le_of_ble_eq_true rfl) (W.iret (v := (-1)) hx hb hr (fun t ht hW => ⟨_, rfl, hk_end G ht hW⟩) G.2.1.2.2 dX11_bestReversal_30))
  · have hsp := hk_f c9 hsp
    refine lv_aload_n hx hb dX11_bestReversal_20 rfl (lv_at hl 1 rfl) ?_
    refine lv_aload_n hx hb dX11_bestReversal_21 rfl (lv_at hl 0 rfl) ?_
    refine lv_iload_n hx hb dX11_bestReversal_22 rfl (lv_at hl 3 rfl) ?_
    obtain ⟨r10, er10, hsp⟩ := hk_b hsp
    refine hk_callVi (As := [.ref (g.1 + r1.1), .int x2]) (rest := []) F9 G h0 hkc_8 rfl (kX11_bestHourToReverse l g E F n r8.2 a0 r1.1 x2 r10 h0 q4 er10) qv_RX11_286 ⟨rfl, rfl, (Nat.le_of_ble_eq_true rfl), (Nat.le_of_ble_eq_true rfl)⟩ rfl hl.1 rfl (Nat.le_of_ble_eq_true rfl) ⟨(Nat.le_of_ble_eq_true rfl), (Nat.le_of_ble_eq_true rfl)⟩ dX11_bestReversal_23 (fun H locs G => ?_)
    refine lv_goto (tgt := 30) hx hb dX11_bestReversal_26 (by decide) ?_
    obtain rfl := hk_s hsp
    exact vx_ret (W.widen (k := 2) (n := 12) (Nat.le_of_ble_eq_true rfl) (Nat.le_of_ble_eq_true rfl) (W.iret (v := r10.1) hx hb hr (fun t ht hW => ⟨_, rfl, hk_end G ht hW⟩) G.2.1.2.2 dX11_bestReversal_30))
def mX11_passHours (E : hk_E) (F : Nat) (S : hk_S) (a0 : Nat) (x1 : Int32) : Option (Sum (Nat × hk_S) (Int32 × hk_S)) :=
hk_xb (mX11_requireRange E F S x1 1 200) (fun r1 => (E.2.2.2 a0 0).bind (fun r4 => if E.2.1 r4 = 4 then ((E.2.2.2 r4 0).bind (fun r5 => if E.2.1 r5 = 1 then ((mX1_hasHoursLeft E F r1 r5 x1).bind (fun r6 => if ¬ r6.1 = 0 then (hk_xb (mX11_refuseIf E F r6.2 0) (fun r8 => (E.2.2.2 a0 3).bind (fun r11 => if E.2.1 r11 = 2 then ((mX3_remember E F r8 r11 r4).bind (fun r12 => (mX5_letHoursPass E F r12 r4 x1).bind (fun r13 => some (.inr (((r13 r5 0), r13)))))) else none))) else (hk_xb (mX11_refuseIf E F r6.2 1) (fun r14 => (E.2.2.2 a0 3).bind (fun r17 => if E.2.1 r17 = 2 then ((mX3_remember E F r14 r17 r4).bind (fun r18 => (mX5_letHoursPass E F r18 r4 x1).bind (fun r19 => some (.inr (((r19 r5 0), r19)))))) else none))))) else none)) else none))
set_option maxHeartbeats 4000000 in
set_option maxRecDepth 100000 in
theorem kX11_passHours (l : Launch) (hst : l.stackTraces = false) (g : hk_G) (E : hk_E) (F n : Nat) (S : hk_S) (a0 : Nat) (x1 : Int32) (o : Sum (Nat × hk_S) (Int32 × hk_S)) (h0 : E.2.1 a0 = 9) (hsp : mX11_passHours E F S a0 x1 = some o) : vx_Met l yX11_passHours (hk_ws yX11_passHours cX11_passHours 2 (Option.some Jvm.ClassFile.FieldType.int)) ({ frames := 7, cells := 2, slots := 12, locals := 104 }) (hk_Pc g E S n [.ref (g.1 + a0), .int x1]) (hk_XQ g E n o (fun x => x.2) (fun x => some (.int x.1))) (hk_XX g E o) 2 12 (hk_A g) := by
  refine vx_ofW (cc := cX11_passHours) (maxL := 2) (ret := (Option.some Jvm.ClassFile.FieldType.int)) (by decide) rfl ?_
  intro p e s m args below meth c s₁ B hml ht hv
  obtain ⟨rfl, G⟩ := hk_begin hv
  have F9 : CallFix p m c cX11_passHours 2 s [.ref (g.1 + a0), .int x1].toArray hk_W RX11 := ⟨B.exec, B.bytes, hml, findClass_of_methodNamed B.named, fun w h => atoms_spec (ws := hk_ws yX11_passHours cX11_passHours 2 (Option.some Jvm.ClassFile.FieldType.int)) B.pre w (hk_in h)⟩
  have hx := B.exec
  have hb := B.bytes
  have hr := B.returns
  have hlocks := B.notSynchronized
  have hl := lv_entry ([.ref (g.1 + a0), .int x1]) (n := 2) (Nat.le_of_ble_eq_true rfl)
  rw [lg_entry_eq]
  generalize (lg_sl ([.ref (g.1 + a0), .int x1]) ++ List.replicate (2 - (lg_sl ([.ref (g.1 + a0), .int x1])).length) Slot.unset).toArray = ls at hl ⊢
  have hl : lv_has ls 2 [(0, .ref (g.1 + a0)), (1, .int x1)] := hl
  unfold mX11_passHours at hsp
  have G : hk_GG g E S n s s.heap [] := G
  refine lv_iload_n hx hb dX11_passHours_0 rfl (lv_at hl 1 rfl) ?_
  refine lv_iconst (v := 1) hx hb dX11_passHours_1 (by decide) ?_
  refine lv_sipush (v := 200) hx hb dX11_passHours_2 (by decide) ?_
  rcases hk_xe hsp with ⟨k2, T3, er1, rfl⟩ | ⟨r1, er1, hsp⟩
  · exact hk_xSt (As := [.int x1, .int 1, .int 200]) (rest := []) F9 G (kX11_requireRange l hst g E F n S x1 1 200 _  er1) qv_RX11_96 ⟨rfl, rfl, (Nat.le_of_ble_eq_true rfl), (Nat.le_of_ble_eq_true rfl)⟩ rfl hl.1 rfl (Nat.le_of_ble_eq_true rfl) ⟨(Nat.le_of_ble_eq_true rfl), (Nat.le_of_ble_eq_true rfl)⟩ dX11_passHours_5 ht hlocks ⟨(Nat.le_of_ble_eq_true rfl), (Nat.le_of_ble_eq_true rfl)⟩
  refine hk_xSv (As := [.int x1, .int 1, .int 200]) (rest := []) F9 G (kX11_requireRange l hst g E F n S x1 1 200 _  er1) qv_RX11_96 ⟨rfl, rfl, (Nat.le_of_ble_eq_true rfl), (Nat.le_of_ble_eq_true rfl)⟩ rfl hl.1 rfl (Nat.le_of_ble_eq_true rfl) ⟨(Nat.le_of_ble_eq_true rfl), (Nat.le_of_ble_eq_true rfl)⟩ dX11_passHours_5 (fun H locs G => ?_)
  refine lv_aload_n hx hb dX11_passHours_8 rfl (lv_at hl 0 rfl) ?_
  obtain ⟨r4, er4, hsp⟩ := hk_b hsp
  obtain ⟨kr4, hsp⟩ := hk_k hsp
  refine hk_getR F9 G h0 hkc_8 (k := 0) (by decide) qw_399 rfl er4 dX11_passHours_9 ?_
  obtain ⟨r5, er5, hsp⟩ := hk_b hsp
  obtain ⟨kr5, hsp⟩ := hk_k hsp
  refine hk_getR F9 G kr4 hkc_3 (k := 0) (by decide) qw_172 rfl er5 dX11_passHours_12 ?_
  refine lv_iload_n hx hb dX11_passHours_15 rfl (lv_at hl 1 rfl) ?_
  obtain ⟨r6, er6, hsp⟩ := hk_b hsp
  refine hk_callVi (As := [.int x1]) (rest := []) F9 G kr5 hkc_0 rfl (kX1_hasHoursLeft l g E F n r1 r5 x1 r6 kr5 er6) qv_RX11_198 ⟨rfl, rfl, (Nat.le_of_ble_eq_true rfl), (Nat.le_of_ble_eq_true rfl)⟩ rfl hl.1 rfl (Nat.le_of_ble_eq_true rfl) ⟨(Nat.le_of_ble_eq_true rfl), (Nat.le_of_ble_eq_true rfl)⟩ dX11_passHours_16 (fun H locs G => ?_)
  refine lv_if_ne (tgt := 26) hx hb dX11_passHours_19 (by decide) (fun c7 => ?_) (fun c7 => ?_)
  · have hsp := hk_t c7 hsp
    refine lv_iconst (v := 0) hx hb dX11_passHours_26 (by decide) ?_
    rcases hk_xe hsp with ⟨k9, T10, er8, rfl⟩ | ⟨r8, er8, hsp⟩
    · exact hk_xSt (As := [.int 0]) (rest := []) F9 G (kX11_refuseIf l hst g E F n r6.2 0 _  er8) qv_RX11_120 ⟨rfl, rfl, (Nat.le_of_ble_eq_true rfl), (Nat.le_of_ble_eq_true rfl)⟩ rfl hl.1 rfl (Nat.le_of_ble_eq_true rfl) ⟨(Nat.le_of_ble_eq_true rfl), (Nat.le_of_ble_eq_true rfl)⟩ dX11_passHours_27 ht hlocks ⟨(Nat.le_of_ble_eq_true rfl), (Nat.le_of_ble_eq_true rfl)⟩
    refine hk_xSv (As := [.int 0]) (rest := []) F9 G (kX11_refuseIf l hst g E F n r6.2 0 _  er8) qv_RX11_120 ⟨rfl, rfl, (Nat.le_of_ble_eq_true rfl), (Nat.le_of_ble_eq_true rfl)⟩ rfl hl.1 rfl (Nat.le_of_ble_eq_true rfl) ⟨(Nat.le_of_ble_eq_true rfl), (Nat.le_of_ble_eq_true rfl)⟩ dX11_passHours_27 (fun H locs G => ?_)
    refine lv_aload_n hx hb dX11_passHours_30 rfl (lv_at hl 0 rfl) ?_
    obtain ⟨r11, er11, hsp⟩ := hk_b hsp
    obtain ⟨kr11, hsp⟩ := hk_k hsp
    refine hk_getR F9 G h0 hkc_8 (k := 3) (by decide) qw_402 rfl er11 dX11_passHours_31 ?_
    refine lv_aload_n hx hb dX11_passHours_34 rfl (lv_at hl 0 rfl) ?_
    refine hk_getR F9 G h0 hkc_8 (k := 0) (by decide) qw_399 rfl er4 dX11_passHours_35 ?_
    obtain ⟨r12, er12, hsp⟩ := hk_b hsp
    refine hk_callVv (As := [.ref (g.1 + r4)]) (rest := []) F9 G kr11 hkc_1 rfl (kX3_remember l g E F n r8 r11 r4 r12 kr11 kr4 er12) qv_RX11_104 ⟨rfl, rfl, (Nat.le_of_ble_eq_true rfl), (Nat.le_of_ble_eq_true rfl)⟩ rfl hl.1 rfl (Nat.le_of_ble_eq_true rfl) ⟨(Nat.le_of_ble_eq_true rfl), (Nat.le_of_ble_eq_true rfl)⟩ dX11_passHours_38 (fun H locs G => ?_)
    refine lv_aload_n hx hb dX11_passHours_41 rfl (lv_at hl 0 rfl) ?_
    refine hk_getR F9 G h0 hkc_8 (k := 0) (by decide) qw_399 rfl er4 dX11_passHours_42 ?_
    refine lv_iload_n hx hb dX11_passHours_45 rfl (lv_at hl 1 rfl) ?_
    obtain ⟨r13, er13, hsp⟩ := hk_b hsp
    refine hk_callVv (As := [.int x1]) (rest := []) F9 G kr4 hkc_3 rfl (kX5_letHoursPass l g E F n r12 r4 x1 r13 kr4 er13) qv_RX11_77 ⟨rfl, rfl, (Nat.le_of_ble_eq_true rfl), (Nat.le_of_ble_eq_true rfl)⟩ rfl hl.1 rfl (Nat.le_of_ble_eq_true rfl) ⟨(Nat.le_of_ble_eq_true rfl), (Nat.le_of_ble_eq_true rfl)⟩ dX11_passHours_46 (fun H locs G => ?_)
    refine lv_aload_n hx hb dX11_passHours_49 rfl (lv_at hl 0 rfl) ?_
    refine hk_getR F9 G h0 hkc_8 (k := 0) (by decide) qw_399 rfl er4 dX11_passHours_50 ?_
    refine hk_getR F9 G kr4 hkc_3 (k := 0) (by decide) qw_172 rfl er5 dX11_passHours_53 ?_
    refine hk_getI F9 G kr5 hkc_0 (k := 0) (by decide) qw_50 rfl dX11_passHours_56 ?_
    obtain rfl := hk_s hsp
    exact vx_ret (W.widen (k := 2) (n := 12) (Nat.le_of_ble_eq_true rfl) (Nat.le_of_ble_eq_true rfl) (W.iret (v := (r13 r5 0)) hx hb hr (fun t ht hW => ⟨_, rfl, hk_end G ht hW⟩) G.2.1.2.2 dX11_passHours_59))
  · have hsp := hk_g c7 hsp
    refine lv_iconst (v := 1) hx hb dX11_passHours_22 (by decide) ?_
    refine lv_goto (tgt := 27) hx hb dX11_passHours_23 (by decide) ?_
    rcases hk_xe hsp with ⟨k15, T16, er14, rfl⟩ | ⟨r14, er14, hsp⟩
    · exact hk_xSt (As := [.int 1]) (rest := []) F9 G (kX11_refuseIf l hst g E F n r6.2 1 _  er14) qv_RX11_120 ⟨rfl, rfl, (Nat.le_of_ble_eq_true rfl), (Nat.le_of_ble_eq_true rfl)⟩ rfl hl.1 rfl (Nat.le_of_ble_eq_true rfl) ⟨(Nat.le_of_ble_eq_true rfl), (Nat.le_of_ble_eq_true rfl)⟩ dX11_passHours_27 ht hlocks ⟨(Nat.le_of_ble_eq_true rfl), (Nat.le_of_ble_eq_true rfl)⟩
    refine hk_xSv (As := [.int 1]) (rest := []) F9 G (kX11_refuseIf l hst g E F n r6.2 1 _  er14) qv_RX11_120 ⟨rfl, rfl, (Nat.le_of_ble_eq_true rfl), (Nat.le_of_ble_eq_true rfl)⟩ rfl hl.1 rfl (Nat.le_of_ble_eq_true rfl) ⟨(Nat.le_of_ble_eq_true rfl), (Nat.le_of_ble_eq_true rfl)⟩ dX11_passHours_27 (fun H locs G => ?_)
    refine lv_aload_n hx hb dX11_passHours_30 rfl (lv_at hl 0 rfl) ?_
    obtain ⟨r17, er17, hsp⟩ := hk_b hsp
    obtain ⟨kr17, hsp⟩ := hk_k hsp
    refine hk_getR F9 G h0 hkc_8 (k := 3) (by decide) qw_402 rfl er17 dX11_passHours_31 ?_
    refine lv_aload_n hx hb dX11_passHours_34 rfl (lv_at hl 0 rfl) ?_
    refine hk_getR F9 G h0 hkc_8 (k := 0) (by decide) qw_399 rfl er4 dX11_passHours_35 ?_
    obtain ⟨r18, er18, hsp⟩ := hk_b hsp
    refine hk_callVv (As := [.ref (g.1 + r4)]) (rest := []) F9 G kr17 hkc_1 rfl (kX3_remember l g E F n r14 r17 r4 r18 kr17 kr4 er18) qv_RX11_104 ⟨rfl, rfl, (Nat.le_of_ble_eq_true rfl), (Nat.le_of_ble_eq_true rfl)⟩ rfl hl.1 rfl (Nat.le_of_ble_eq_true rfl) ⟨(Nat.le_of_ble_eq_true rfl), (Nat.le_of_ble_eq_true rfl)⟩ dX11_passHours_38 (fun H locs G => ?_)
    refine lv_aload_n hx hb dX11_passHours_41 rfl (lv_at hl 0 rfl) ?_
    refine hk_getR F9 G h0 hkc_8 (k := 0) (by decide) qw_399 rfl er4 dX11_passHours_42 ?_
    refine lv_iload_n hx hb dX11_passHours_45 rfl (lv_at hl 1 rfl) ?_
    obtain ⟨r19, er19, hsp⟩ := hk_b hsp
    refine hk_callVv (As := [.int x1]) (rest := []) F9 G kr4 hkc_3 rfl (kX5_letHoursPass l g E F n r18 r4 x1 r19 kr4 er19) qv_RX11_77 ⟨rfl, rfl, (Nat.le_of_ble_eq_true rfl), (Nat.le_of_ble_eq_true rfl)⟩ rfl hl.1 rfl (Nat.le_of_ble_eq_true rfl) ⟨(Nat.le_of_ble_eq_true rfl), (Nat.le_of_ble_eq_true rfl)⟩ dX11_passHours_46 (fun H locs G => ?_)
    refine lv_aload_n hx hb dX11_passHours_49 rfl (lv_at hl 0 rfl) ?_
    refine hk_getR F9 G h0 hkc_8 (k := 0) (by decide) qw_399 rfl er4 dX11_passHours_50 ?_
    refine hk_getR F9 G kr4 hkc_3 (k := 0) (by decide) qw_172 rfl er5 dX11_passHours_53 ?_
    refine hk_getI F9 G kr5 hkc_0 (k := 0) (by decide) qw_50 rfl dX11_passHours_56 ?_
    obtain rfl := hk_s hsp
    exact vx_ret (W.widen (k := 2) (n := 12) (Nat.le_of_ble_eq_true rfl) (Nat.le_of_ble_eq_true rfl) (W.iret (v := (r19 r5 0)) hx hb hr (fun t ht hW => ⟨_, rfl, hk_end G ht hW⟩) G.2.1.2.2 dX11_passHours_59))
def mX11_moistureAfter (E : hk_E) (F : Nat) (S : hk_S) (a0 : Nat) (x1 : Int32) (x2 : Int32) (x3 : Int32) : Option (Sum (Nat × hk_S) (Int32 × hk_S)) :=
hk_xb (mX11_existingTrough E F S a0 x1) (fun r1 => if E.2.1 r1.1 = 8 then (hk_xb (mX11_requireRange E F r1.2 x2 0 1) (fun r5 => hk_xb (mX11_requireRange E F r5 x3 0 200) (fun r8 => (mX10_hasLeaf E F r8 r1.1).bind (fun r11 => if ¬ r11.1 = 0 then ((E.2.2.2 a0 6).bind (fun r13 => if E.2.1 r13 = 8 then ((mX10_become E F r11.2 r13 r1.1).bind (fun r14 => (mX11_letTrialPass E F r14 a0 x3).bind (fun r15 => (mX10_moistureOf E F r15 r13 x2).bind (fun r16 => some (.inr ((r16.1, r16.2))))))) else none)) else (some (.inr (((-1), r11.2)))))))) else none)
set_option maxHeartbeats 4000000 in
set_option maxRecDepth 100000 in
theorem kX11_moistureAfter (l : Launch) (hst : l.stackTraces = false) (g : hk_G) (E : hk_E) (F n : Nat) (S : hk_S) (a0 : Nat) (x1 : Int32) (x2 : Int32) (x3 : Int32) (o : Sum (Nat × hk_S) (Int32 × hk_S)) (h0 : E.2.1 a0 = 9) (hsp : mX11_moistureAfter E F S a0 x1 x2 x3 = some o) : vx_Met l yX11_moistureAfter (hk_ws yX11_moistureAfter cX11_moistureAfter 5 (Option.some Jvm.ClassFile.FieldType.int)) ({ frames := 7, cells := 3, slots := 18, locals := 104 }) (hk_Pc g E S n [.ref (g.1 + a0), .int x1, .int x2, .int x3]) (hk_XQ g E n o (fun x => x.2) (fun x => some (.int x.1))) (hk_XX g E o) 3 18 (hk_A g) := by
  refine vx_ofW (cc := cX11_moistureAfter) (maxL := 5) (ret := (Option.some Jvm.ClassFile.FieldType.int)) (by decide) rfl ?_
  intro p e s m args below meth c s₁ B hml ht hv
  obtain ⟨rfl, G⟩ := hk_begin hv
  have F9 : CallFix p m c cX11_moistureAfter 5 s [.ref (g.1 + a0), .int x1, .int x2, .int x3].toArray hk_W RX11 := ⟨B.exec, B.bytes, hml, findClass_of_methodNamed B.named, fun w h => atoms_spec (ws := hk_ws yX11_moistureAfter cX11_moistureAfter 5 (Option.some Jvm.ClassFile.FieldType.int)) B.pre w (hk_in h)⟩
  have hx := B.exec
  have hb := B.bytes
  have hr := B.returns
  have hlocks := B.notSynchronized
  have hl := lv_entry ([.ref (g.1 + a0), .int x1, .int x2, .int x3]) (n := 5) (Nat.le_of_ble_eq_true rfl)
  rw [lg_entry_eq]
  generalize (lg_sl ([.ref (g.1 + a0), .int x1, .int x2, .int x3]) ++ List.replicate (5 - (lg_sl ([.ref (g.1 + a0), .int x1, .int x2, .int x3])).length) Slot.unset).toArray = ls at hl ⊢
  have hl : lv_has ls 5 [(0, .ref (g.1 + a0)), (1, .int x1), (2, .int x2), (3, .int x3)] := hl
  unfold mX11_moistureAfter at hsp
  have G : hk_GG g E S n s s.heap [] := G
  refine lv_aload_n hx hb dX11_moistureAfter_0 rfl (lv_at hl 0 rfl) ?_
  refine lv_iload_n hx hb dX11_moistureAfter_1 rfl (lv_at hl 1 rfl) ?_
  rcases hk_xe hsp with ⟨k2, T3, er1, rfl⟩ | ⟨r1, er1, hsp⟩
  · exact hk_xVt (As := [.int x1]) (rest := []) F9 G h0 hkc_8 rfl (kX11_existingTrough l hst g E F n S a0 x1 _ h0 er1) qv_RX11_124 ⟨rfl, rfl, (Nat.le_of_ble_eq_true rfl), (Nat.le_of_ble_eq_true rfl)⟩ rfl hl.1 rfl (Nat.le_of_ble_eq_true rfl) ⟨(Nat.le_of_ble_eq_true rfl), (Nat.le_of_ble_eq_true rfl)⟩ dX11_moistureAfter_2 ht hlocks ⟨(Nat.le_of_ble_eq_true rfl), (Nat.le_of_ble_eq_true rfl)⟩
  refine hk_xVr (As := [.int x1]) (rest := []) F9 G h0 hkc_8 rfl (kX11_existingTrough l hst g E F n S a0 x1 _ h0 er1) qv_RX11_124 ⟨rfl, rfl, (Nat.le_of_ble_eq_true rfl), (Nat.le_of_ble_eq_true rfl)⟩ rfl hl.1 rfl (Nat.le_of_ble_eq_true rfl) ⟨(Nat.le_of_ble_eq_true rfl), (Nat.le_of_ble_eq_true rfl)⟩ dX11_moistureAfter_2 (fun H locs G => ?_)
  obtain ⟨q4, hsp⟩ := hk_k hsp
  refine lv_astore (lv' := [(4, .ref (g.1 + r1.1)), (0, .ref (g.1 + a0)), (1, .int x1), (2, .int x2), (3, .int x3)]) hx hb dX11_moistureAfter_5  hl (by decide) rfl (fun ls hl => ?_)
  refine lv_iload_n hx hb dX11_moistureAfter_7 rfl (lv_at hl 3 rfl) ?_
  refine lv_iconst (v := 0) hx hb dX11_moistureAfter_8 (by decide) ?_
  refine lv_iconst (v := 1) hx hb dX11_moistureAfter_9 (by decide) ?_
  rcases hk_xe hsp with ⟨k6, T7, er5, rfl⟩ | ⟨r5, er5, hsp⟩
  · exact hk_xSt (As := [.int x2, .int 0, .int 1]) (rest := []) F9 G (kX11_requireRange l hst g E F n r1.2 x2 0 1 _  er5) qv_RX11_96 ⟨rfl, rfl, (Nat.le_of_ble_eq_true rfl), (Nat.le_of_ble_eq_true rfl)⟩ rfl hl.1 rfl (Nat.le_of_ble_eq_true rfl) ⟨(Nat.le_of_ble_eq_true rfl), (Nat.le_of_ble_eq_true rfl)⟩ dX11_moistureAfter_10 ht hlocks ⟨(Nat.le_of_ble_eq_true rfl), (Nat.le_of_ble_eq_true rfl)⟩
  refine hk_xSv (As := [.int x2, .int 0, .int 1]) (rest := []) F9 G (kX11_requireRange l hst g E F n r1.2 x2 0 1 _  er5) qv_RX11_96 ⟨rfl, rfl, (Nat.le_of_ble_eq_true rfl), (Nat.le_of_ble_eq_true rfl)⟩ rfl hl.1 rfl (Nat.le_of_ble_eq_true rfl) ⟨(Nat.le_of_ble_eq_true rfl), (Nat.le_of_ble_eq_true rfl)⟩ dX11_moistureAfter_10 (fun H locs G => ?_)
  refine lv_iload_n hx hb dX11_moistureAfter_13 rfl (lv_at hl 4 rfl) ?_
  refine lv_iconst (v := 0) hx hb dX11_moistureAfter_14 (by decide) ?_
  refine lv_sipush (v := 200) hx hb dX11_moistureAfter_15 (by decide) ?_
  rcases hk_xe hsp with ⟨k9, T10, er8, rfl⟩ | ⟨r8, er8, hsp⟩
  · exact hk_xSt (As := [.int x3, .int 0, .int 200]) (rest := []) F9 G (kX11_requireRange l hst g E F n r5 x3 0 200 _  er8) qv_RX11_96 ⟨rfl, rfl, (Nat.le_of_ble_eq_true rfl), (Nat.le_of_ble_eq_true rfl)⟩ rfl hl.1 rfl (Nat.le_of_ble_eq_true rfl) ⟨(Nat.le_of_ble_eq_true rfl), (Nat.le_of_ble_eq_true rfl)⟩ dX11_moistureAfter_18 ht hlocks ⟨(Nat.le_of_ble_eq_true rfl), (Nat.le_of_ble_eq_true rfl)⟩
  refine hk_xSv (As := [.int x3, .int 0, .int 200]) (rest := []) F9 G (kX11_requireRange l hst g E F n r5 x3 0 200 _  er8) qv_RX11_96 ⟨rfl, rfl, (Nat.le_of_ble_eq_true rfl), (Nat.le_of_ble_eq_true rfl)⟩ rfl hl.1 rfl (Nat.le_of_ble_eq_true rfl) ⟨(Nat.le_of_ble_eq_true rfl), (Nat.le_of_ble_eq_true rfl)⟩ dX11_moistureAfter_18 (fun H locs G => ?_)
  refine lv_aload hx hb dX11_moistureAfter_21 (lv_at hl 0 rfl) ?_
  obtain ⟨r11, er11, hsp⟩ := hk_b hsp
  refine hk_callVi (As := []) (rest := []) F9 G q4 hkc_7 rfl (kX10_hasLeaf l g E F n r8 r1.1 r11 q4 er11) qv_RX11_130 ⟨rfl, rfl, (Nat.le_of_ble_eq_true rfl), (Nat.le_of_ble_eq_true rfl)⟩ rfl hl.1 rfl (Nat.le_of_ble_eq_true rfl) ⟨(Nat.le_of_ble_eq_true rfl), (Nat.le_of_ble_eq_true rfl)⟩ dX11_moistureAfter_23 (fun H locs G => ?_)
  refine lv_if_ne (tgt := 31) hx hb dX11_moistureAfter_26 (by decide) (fun c12 => ?_) (fun c12 => ?_)
  · have hsp := hk_t c12 hsp
    refine lv_aload_n hx hb dX11_moistureAfter_31 rfl (lv_at hl 1 rfl) ?_
    obtain ⟨r13, er13, hsp⟩ := hk_b hsp
    obtain ⟨kr13, hsp⟩ := hk_k hsp
    refine hk_getR F9 G h0 hkc_8 (k := 6) (by decide) qw_405 rfl er13 dX11_moistureAfter_32 ?_
    refine lv_aload hx hb dX11_moistureAfter_35 (lv_at hl 0 rfl) ?_
    obtain ⟨r14, er14, hsp⟩ := hk_b hsp
    refine hk_callVv (As := [.ref (g.1 + r1.1)]) (rest := []) F9 G kr13 hkc_7 rfl (kX10_become l g E F n r11.2 r13 r1.1 r14 kr13 q4 er14) qv_RX11_273 ⟨rfl, rfl, (Nat.le_of_ble_eq_true rfl), (Nat.le_of_ble_eq_true rfl)⟩ rfl hl.1 rfl (Nat.le_of_ble_eq_true rfl) ⟨(Nat.le_of_ble_eq_true rfl), (Nat.le_of_ble_eq_true rfl)⟩ dX11_moistureAfter_37 (fun H locs G => ?_)
    refine lv_aload_n hx hb dX11_moistureAfter_40 rfl (lv_at hl 1 rfl) ?_
    refine lv_iload_n hx hb dX11_moistureAfter_41 rfl (lv_at hl 4 rfl) ?_
    obtain ⟨r15, er15, hsp⟩ := hk_b hsp
    refine hk_callVv (As := [.int x3]) (rest := []) F9 G h0 hkc_8 rfl (kX11_letTrialPass l g E F n r14 a0 x3 r15 h0 er15) qv_RX11_276 ⟨rfl, rfl, (Nat.le_of_ble_eq_true rfl), (Nat.le_of_ble_eq_true rfl)⟩ rfl hl.1 rfl (Nat.le_of_ble_eq_true rfl) ⟨(Nat.le_of_ble_eq_true rfl), (Nat.le_of_ble_eq_true rfl)⟩ dX11_moistureAfter_42 (fun H locs G => ?_)
    refine lv_aload_n hx hb dX11_moistureAfter_45 rfl (lv_at hl 1 rfl) ?_
    refine hk_getR F9 G h0 hkc_8 (k := 6) (by decide) qw_405 rfl er13 dX11_moistureAfter_46 ?_
    refine lv_iload_n hx hb dX11_moistureAfter_49 rfl (lv_at hl 3 rfl) ?_
    obtain ⟨r16, er16, hsp⟩ := hk_b hsp
    refine hk_callVi (As := [.int x2]) (rest := []) F9 G kr13 hkc_7 rfl (kX10_moistureOf l g E F n r15 r13 x2 r16 kr13 er16) qv_RX11_245 ⟨rfl, rfl, (Nat.le_of_ble_eq_true rfl), (Nat.le_of_ble_eq_true rfl)⟩ rfl hl.1 rfl (Nat.le_of_ble_eq_true rfl) ⟨(Nat.le_of_ble_eq_true rfl), (Nat.le_of_ble_eq_true rfl)⟩ dX11_moistureAfter_50 (fun H locs G => ?_)
    obtain rfl := hk_s hsp
    exact vx_ret (W.widen (k := 3) (n := 18) (Nat.le_of_ble_eq_true rfl) (Nat.le_of_ble_eq_true rfl) (W.iret (v := r16.1) hx hb hr (fun t ht hW => ⟨_, rfl, hk_end G ht hW⟩) G.2.1.2.2 dX11_moistureAfter_53))
  · have hsp := hk_g c12 hsp
    refine lv_iconst (v := (-1)) hx hb dX11_moistureAfter_29 (by decide) ?_
    obtain rfl := hk_s hsp
    exact vx_ret (W.widen (k := 3) (n := 18) (Nat.le_of_ble_eq_true rfl) (Nat.le_of_ble_eq_true rfl) (W.iret (v := (-1)) hx hb hr (fun t ht hW => ⟨_, rfl, hk_end G ht hW⟩) G.2.1.2.2 dX11_moistureAfter_30))
def mX11_slowestSpeed_26 (E : hk_E) (F : Nat) (a0 : Nat) (x1 : Int32) (x2 : Int32) (c10 : Nat) (k : hk_S → Int32 → Option (Sum (Nat × hk_S) (Int32 × hk_S))) : Nat → hk_S → Int32 → Option (Sum (Nat × hk_S) (Int32 × hk_S))
  | 0 => fun _ _ => none
  | f + 1 => fun S z11 =>
    if 5 < z11 then (k S z11) else ((E.2.2.2 a0 6).bind (fun r13 => if E.2.1 r13 = 8 then ((mX10_become E F S r13 c10).bind (fun r14 => hk_let (hk_up r14 r13 1 z11) (fun S15 => (mX11_letTrialPass E F S15 a0 x2).bind (fun r16 => (E.2.2.2 a0 0).bind (fun r17 => if E.2.1 r17 = 4 then ((mX5_isReady E F r16 r17 r13).bind (fun r18 => if r18.1 = 0 then (hk_let (z11 + 1) (fun y20 => mX11_slowestSpeed_26 E F a0 x1 x2 c10 k f r18.2 y20)) else (some (.inr ((z11, r18.2)))))) else none))))) else none))
def mX11_slowestSpeed (E : hk_E) (F : Nat) (S : hk_S) (a0 : Nat) (x1 : Int32) (x2 : Int32) : Option (Sum (Nat × hk_S) (Int32 × hk_S)) :=
hk_xb (mX11_existingTrough E F S a0 x1) (fun r1 => if E.2.1 r1.1 = 8 then (hk_xb (mX11_requireRange E F r1.2 x2 0 200) (fun r5 => (mX10_hasLeaf E F r5 r1.1).bind (fun r8 => if ¬ r8.1 = 0 then (mX11_slowestSpeed_26 E F a0 x1 x2 r1.1 (fun S21 z22 => some (.inr (((-1), S21)))) F r8.2 0) else (some (.inr (((-1), r8.2))))))) else none)
set_option maxHeartbeats 4000000 in
set_option maxRecDepth 100000 in
theorem kX11_slowestSpeed (l : Launch) (hst : l.stackTraces = false) (g : hk_G) (E : hk_E) (F n : Nat) (S : hk_S) (a0 : Nat) (x1 : Int32) (x2 : Int32) (o : Sum (Nat × hk_S) (Int32 × hk_S)) (h0 : E.2.1 a0 = 9) (hsp : mX11_slowestSpeed E F S a0 x1 x2 = some o) : vx_Met l yX11_slowestSpeed (hk_ws yX11_slowestSpeed cX11_slowestSpeed 5 (Option.some Jvm.ClassFile.FieldType.int)) ({ frames := 7, cells := 2, slots := 12, locals := 104 }) (hk_Pc g E S n [.ref (g.1 + a0), .int x1, .int x2]) (hk_XQ g E n o (fun x => x.2) (fun x => some (.int x.1))) (hk_XX g E o) 2 12 (hk_A g) := by
  refine vx_ofW (cc := cX11_slowestSpeed) (maxL := 5) (ret := (Option.some Jvm.ClassFile.FieldType.int)) (by decide) rfl ?_
  intro p e s m args below meth c s₁ B hml ht hv
  obtain ⟨rfl, G⟩ := hk_begin hv
  have F9 : CallFix p m c cX11_slowestSpeed 5 s [.ref (g.1 + a0), .int x1, .int x2].toArray hk_W RX11 := ⟨B.exec, B.bytes, hml, findClass_of_methodNamed B.named, fun w h => atoms_spec (ws := hk_ws yX11_slowestSpeed cX11_slowestSpeed 5 (Option.some Jvm.ClassFile.FieldType.int)) B.pre w (hk_in h)⟩
  have hx := B.exec
  have hb := B.bytes
  have hr := B.returns
  have hlocks := B.notSynchronized
  have hl := lv_entry ([.ref (g.1 + a0), .int x1, .int x2]) (n := 5) (Nat.le_of_ble_eq_true rfl)
  rw [lg_entry_eq]
  generalize (lg_sl ([.ref (g.1 + a0), .int x1, .int x2]) ++ List.replicate (5 - (lg_sl ([.ref (g.1 + a0), .int x1, .int x2])).length) Slot.unset).toArray = ls at hl ⊢
  have hl : lv_has ls 5 [(0, .ref (g.1 + a0)), (1, .int x1), (2, .int x2)] := hl
  unfold mX11_slowestSpeed at hsp
  have G : hk_GG g E S n s s.heap [] := G
  have L_26 : ∀ (c10 : Nat) (hc10 : E.2.1 c10 = 8) (k : hk_S → Int32 → Option (Sum (Nat × hk_S) (Int32 × hk_S))) (_ : ∀ (S : hk_S) (z11 : Int32) (H : Heap) (locs : List Loc) (ls : Array Slot), k S z11 = some o → hk_GG g E S n s H locs → lv_has ls 5 [(0, .ref (g.1 + a0)), (1, .int x1), (2, .int x2), (3, .ref (g.1 + c10)), (4, .int z11)] → W p l e (headSpec (hk_ws yX11_slowestSpeed cX11_slowestSpeed 5 (Option.some Jvm.ClassFile.FieldType.int)) ({ frames := 7, cells := 2, slots := 12, locals := 104 })).room s m [.ref (g.1 + a0), .int x1, .int x2].toArray below meth c H locs 2 12 (vx_MQ below (hk_XQ g E n o (fun x => x.2) (fun x => some (.int x.1))) (hk_XX g E o) [.ref (g.1 + a0), .int x1, .int x2].toArray s 2 12 (hk_A g)) (F0 m 77 ls [])) (f : Nat) (S : hk_S) (z11 : Int32) (H : Heap) (locs : List Loc) (ls : Array Slot), mX11_slowestSpeed_26 E F a0 x1 x2 c10 k f S z11 = some o → hk_GG g E S n s H locs → lv_has ls 5 [(0, .ref (g.1 + a0)), (1, .int x1), (2, .int x2), (3, .ref (g.1 + c10)), (4, .int z11)] → W p l e (headSpec (hk_ws yX11_slowestSpeed cX11_slowestSpeed 5 (Option.some Jvm.ClassFile.FieldType.int)) ({ frames := 7, cells := 2, slots := 12, locals := 104 })).room s m [.ref (g.1 + a0), .int x1, .int x2].toArray below meth c H locs 2 12 (vx_MQ below (hk_XQ g E n o (fun x => x.2) (fun x => some (.int x.1))) (hk_XX g E o) [.ref (g.1 + a0), .int x1, .int x2].toArray s 2 12 (hk_A g)) (F0 m 26 ls []) := by
    intro c10 hc10 k hk f
    induction f with
    | zero =>
      intro S z11 H locs ls hsp
      exact nomatch hsp
    | succ f ih =>
      intro S z11 H locs ls hsp G hl
      rw [mX11_slowestSpeed_26] at hsp
      refine lv_iload hx hb dX11_slowestSpeed_26 (lv_at hl 4 rfl) ?_
      refine lv_iconst (v := 5) hx hb dX11_slowestSpeed_28 (by decide) ?_
      refine lv_icmp_gt (tgt := 77) hx hb dX11_slowestSpeed_29 (by decide) (fun c12 => ?_) (fun c12 => ?_)
      · have hsp := hk_t c12 hsp
        exact hk S z11 _ _ _ hsp G (lv_sub hl [0, 1, 2, 3, 4] rfl)
      · have hsp := hk_f c12 hsp
        refine lv_aload_n hx hb dX11_slowestSpeed_32 rfl (lv_at hl 0 rfl) ?_
        obtain ⟨r13, er13, hsp⟩ := hk_b hsp
        obtain ⟨kr13, hsp⟩ := hk_k hsp
        refine hk_getR F9 G h0 hkc_8 (k := 6) (by decide) qw_405 rfl er13 dX11_slowestSpeed_33 ?_
        refine lv_aload_n hx hb dX11_slowestSpeed_36 rfl (lv_at hl 3 rfl) ?_
        obtain ⟨r14, er14, hsp⟩ := hk_b hsp
        refine hk_callVv (As := [.ref (g.1 + c10)]) (rest := []) F9 G kr13 hkc_7 rfl (kX10_become l g E F n S r13 c10 r14 kr13 hc10 er14) qv_RX11_273 ⟨rfl, rfl, (Nat.le_of_ble_eq_true rfl), (Nat.le_of_ble_eq_true rfl)⟩ rfl hl.1 rfl (Nat.le_of_ble_eq_true rfl) ⟨(Nat.le_of_ble_eq_true rfl), (Nat.le_of_ble_eq_true rfl)⟩ dX11_slowestSpeed_37 (fun H locs G => ?_)
        refine lv_aload_n hx hb dX11_slowestSpeed_40 rfl (lv_at hl 0 rfl) ?_
        refine hk_getR F9 G h0 hkc_8 (k := 6) (by decide) qw_405 rfl er13 dX11_slowestSpeed_41 ?_
        refine lv_iload hx hb dX11_slowestSpeed_44 (lv_at hl 4 rfl) ?_
        obtain ⟨S15, eS15, hsp⟩ := hk_l hsp
        refine hk_putI F9 G kr13 hkc_7 (k := 1) (by decide) qw_84 rfl rfl (tyX10_ok 1 (by decide)) rfl rfl dX11_slowestSpeed_46 (fun H locs G => ?_)
        rw [eS15] at G
        refine lv_aload_n hx hb dX11_slowestSpeed_49 rfl (lv_at hl 0 rfl) ?_
        refine lv_iload_n hx hb dX11_slowestSpeed_50 rfl (lv_at hl 2 rfl) ?_
        obtain ⟨r16, er16, hsp⟩ := hk_b hsp
        refine hk_callVv (As := [.int x2]) (rest := []) F9 G h0 hkc_8 rfl (kX11_letTrialPass l g E F n S15 a0 x2 r16 h0 er16) qv_RX11_276 ⟨rfl, rfl, (Nat.le_of_ble_eq_true rfl), (Nat.le_of_ble_eq_true rfl)⟩ rfl hl.1 rfl (Nat.le_of_ble_eq_true rfl) ⟨(Nat.le_of_ble_eq_true rfl), (Nat.le_of_ble_eq_true rfl)⟩ dX11_slowestSpeed_51 (fun H locs G => ?_)
        refine lv_aload_n hx hb dX11_slowestSpeed_54 rfl (lv_at hl 0 rfl) ?_
        obtain ⟨r17, er17, hsp⟩ := hk_b hsp
        obtain ⟨kr17, hsp⟩ := hk_k hsp
        refine hk_getR F9 G h0 hkc_8 (k := 0) (by decide) qw_399 rfl er17 dX11_slowestSpeed_55 ?_
        refine lv_aload_n hx hb dX11_slowestSpeed_58 rfl (lv_at hl 0 rfl) ?_
        refine hk_getR F9 G h0 hkc_8 (k := 6) (by decide) qw_405 rfl er13 dX11_slowestSpeed_59 ?_
        obtain ⟨r18, er18, hsp⟩ := hk_b hsp
        refine hk_callVi (As := [.ref (g.1 + r13)]) (rest := []) F9 G kr17 hkc_3 rfl (kX5_isReady l g E F n r16 r17 r13 r18 kr17 kr13 er18) qv_RX11_279 ⟨rfl, rfl, (Nat.le_of_ble_eq_true rfl), (Nat.le_of_ble_eq_true rfl)⟩ rfl hl.1 rfl (Nat.le_of_ble_eq_true rfl) ⟨(Nat.le_of_ble_eq_true rfl), (Nat.le_of_ble_eq_true rfl)⟩ dX11_slowestSpeed_62 (fun H locs G => ?_)
        refine lv_if_eq (tgt := 71) hx hb dX11_slowestSpeed_65 (by decide) (fun c19 => ?_) (fun c19 => ?_)
        · have hsp := hk_t c19 hsp
          obtain ⟨y20, ey20, hsp⟩ := hk_l hsp
          refine lv_iinc (v := y20) (lv' := [(4, .int y20), (0, .ref (g.1 + a0)), (1, .int x1), (2, .int x2), (3, .ref (g.1 + c10))]) hx hb dX11_slowestSpeed_71 hl (k := 4) rfl (by rw [← ey20]; rfl) (by decide) rfl (fun ls hl => ?_)
          refine lv_goto (tgt := 26) hx hb dX11_slowestSpeed_74 (by decide) ?_
          exact ih r18.2 y20 _ _ _ hsp G (lv_sub hl [1, 2, 3, 4, 0] rfl)
        · have hsp := hk_f c19 hsp
          refine lv_iload hx hb dX11_slowestSpeed_68 (lv_at hl 4 rfl) ?_
          obtain rfl := hk_s hsp
          exact vx_ret (W.widen (k := 2) (n := 12) (Nat.le_of_ble_eq_true rfl) (Nat.le_of_ble_eq_true rfl) (W.iret (v := z11) hx hb hr (fun t ht hW => ⟨_, rfl, hk_end G ht hW⟩) G.2.1.2.2 dX11_slowestSpeed_70))
  refine lv_aload_n hx hb dX11_slowestSpeed_0 rfl (lv_at hl 0 rfl) ?_
  refine lv_iload_n hx hb dX11_slowestSpeed_1 rfl (lv_at hl 1 rfl) ?_
  rcases hk_xe hsp with ⟨k2, T3, er1, rfl⟩ | ⟨r1, er1, hsp⟩
  · exact hk_xVt (As := [.int x1]) (rest := []) F9 G h0 hkc_8 rfl (kX11_existingTrough l hst g E F n S a0 x1 _ h0 er1) qv_RX11_124 ⟨rfl, rfl, (Nat.le_of_ble_eq_true rfl), (Nat.le_of_ble_eq_true rfl)⟩ rfl hl.1 rfl (Nat.le_of_ble_eq_true rfl) ⟨(Nat.le_of_ble_eq_true rfl), (Nat.le_of_ble_eq_true rfl)⟩ dX11_slowestSpeed_2 ht hlocks ⟨(Nat.le_of_ble_eq_true rfl), (Nat.le_of_ble_eq_true rfl)⟩
  refine hk_xVr (As := [.int x1]) (rest := []) F9 G h0 hkc_8 rfl (kX11_existingTrough l hst g E F n S a0 x1 _ h0 er1) qv_RX11_124 ⟨rfl, rfl, (Nat.le_of_ble_eq_true rfl), (Nat.le_of_ble_eq_true rfl)⟩ rfl hl.1 rfl (Nat.le_of_ble_eq_true rfl) ⟨(Nat.le_of_ble_eq_true rfl), (Nat.le_of_ble_eq_true rfl)⟩ dX11_slowestSpeed_2 (fun H locs G => ?_)
  obtain ⟨q4, hsp⟩ := hk_k hsp
  refine lv_astore_n (lv' := [(3, .ref (g.1 + r1.1)), (0, .ref (g.1 + a0)), (1, .int x1), (2, .int x2)]) hx hb dX11_slowestSpeed_5 rfl hl (by decide) rfl (fun ls hl => ?_)
  refine lv_iload_n hx hb dX11_slowestSpeed_6 rfl (lv_at hl 3 rfl) ?_
  refine lv_iconst (v := 0) hx hb dX11_slowestSpeed_7 (by decide) ?_
  refine lv_sipush (v := 200) hx hb dX11_slowestSpeed_8 (by decide) ?_
  rcases hk_xe hsp with ⟨k6, T7, er5, rfl⟩ | ⟨r5, er5, hsp⟩
  · exact hk_xSt (As := [.int x2, .int 0, .int 200]) (rest := []) F9 G (kX11_requireRange l hst g E F n r1.2 x2 0 200 _  er5) qv_RX11_96 ⟨rfl, rfl, (Nat.le_of_ble_eq_true rfl), (Nat.le_of_ble_eq_true rfl)⟩ rfl hl.1 rfl (Nat.le_of_ble_eq_true rfl) ⟨(Nat.le_of_ble_eq_true rfl), (Nat.le_of_ble_eq_true rfl)⟩ dX11_slowestSpeed_11 ht hlocks ⟨(Nat.le_of_ble_eq_true rfl), (Nat.le_of_ble_eq_true rfl)⟩
  refine hk_xSv (As := [.int x2, .int 0, .int 200]) (rest := []) F9 G (kX11_requireRange l hst g E F n r1.2 x2 0 200 _  er5) qv_RX11_96 ⟨rfl, rfl, (Nat.le_of_ble_eq_true rfl), (Nat.le_of_ble_eq_true rfl)⟩ rfl hl.1 rfl (Nat.le_of_ble_eq_true rfl) ⟨(Nat.le_of_ble_eq_true rfl), (Nat.le_of_ble_eq_true rfl)⟩ dX11_slowestSpeed_11 (fun H locs G => ?_)
  refine lv_aload_n hx hb dX11_slowestSpeed_14 rfl (lv_at hl 0 rfl) ?_
  obtain ⟨r8, er8, hsp⟩ := hk_b hsp
  refine hk_callVi (As := []) (rest := []) F9 G q4 hkc_7 rfl (kX10_hasLeaf l g E F n r5 r1.1 r8 q4 er8) qv_RX11_130 ⟨rfl, rfl, (Nat.le_of_ble_eq_true rfl), (Nat.le_of_ble_eq_true rfl)⟩ rfl hl.1 rfl (Nat.le_of_ble_eq_true rfl) ⟨(Nat.le_of_ble_eq_true rfl), (Nat.le_of_ble_eq_true rfl)⟩ dX11_slowestSpeed_15 (fun H locs G => ?_)
  refine lv_if_ne (tgt := 23) hx hb dX11_slowestSpeed_18 (by decide) (fun c9 => ?_) (fun c9 => ?_)
  · have hsp := hk_t c9 hsp
    refine lv_iconst (v := 0) hx hb dX11_slowestSpeed_23 (by decide) ?_
    refine lv_istore (lv' := [(4, .int 0), (3, .ref (g.1 + r1.1)), (0, .ref (g.1 + a0)), (1, .int x1), (2, .int x2)]) hx hb dX11_slowestSpeed_24  hl (by decide) rfl (fun ls hl => ?_)
    refine L_26 r1.1 q4 _ ?_ F r8.2 0 _ _ _ hsp G (lv_sub hl [2, 3, 4, 1, 0] rfl)
    intro S21 z22 H locs ls hsp G hl
    refine lv_iconst (v := (-1)) hx hb dX11_slowestSpeed_77 (by decide) ?_
    obtain rfl := hk_s hsp
    exact vx_ret (W.widen (k := 2) (n := 12) (Nat.le_of_ble_eq_true rfl) (Nat.le_of_ble_eq_true rfl) (W.iret (v := (-1)) hx hb hr (fun t ht hW => ⟨_, rfl, hk_end G ht hW⟩) G.2.1.2.2 dX11_slowestSpeed_78))
  · have hsp := hk_g c9 hsp
    refine lv_iconst (v := (-1)) hx hb dX11_slowestSpeed_21 (by decide) ?_
    obtain rfl := hk_s hsp
    exact vx_ret (W.widen (k := 2) (n := 12) (Nat.le_of_ble_eq_true rfl) (Nat.le_of_ble_eq_true rfl) (W.iret (v := (-1)) hx hb hr (fun t ht hW => ⟨_, rfl, hk_end G ht hW⟩) G.2.1.2.2 dX11_slowestSpeed_22))
