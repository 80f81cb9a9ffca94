def mX5_hasTrough (E : hk_E) (F : Nat) (S : hk_S) (a0 : Nat) (x1 : Int32) : Option (Int32 × hk_S) :=
if x1 < 0 then (some (0, S)) else (if (S a0 2) ≤ x1 then (some (0, S)) else (some (1, S)))
set_option maxHeartbeats 4000000 in
set_option maxRecDepth 100000 in
theorem kX5_hasTrough (l : Launch) (g : hk_G) (E : hk_E) (F n : Nat) (S : hk_S) (a0 : Nat) (x1 : Int32) (o : Int32 × hk_S) (h0 : E.2.1 a0 = 4) (hsp : mX5_hasTrough E F S a0 x1 = some o) : Met l yX5_hasTrough (hk_ws yX5_hasTrough cX5_hasTrough 2 (Option.some Jvm.ClassFile.FieldType.boolean)) ({ frames := 0, cells := 0, slots := 0, locals := 0 }) (hk_Pc g E S n [.ref (g.1 + a0), .int x1]) (hk_Q g E o.2 n (some (.int o.1))) 0 0 (hk_A g) := by
  refine Met.ofW (cc := cX5_hasTrough) (maxL := 2) (ret := (Option.some Jvm.ClassFile.FieldType.boolean)) (by decide) rfl ?_
  intro p e s m args below meth c s₁ B hml hv
  obtain ⟨rfl, G⟩ := hk_begin hv
  have F9 : CallFix p m c cX5_hasTrough 2 s [.ref (g.1 + a0), .int x1].toArray hk_W RX5 := ⟨B.exec, B.bytes, hml, findClass_of_methodNamed B.named, fun w h => atoms_spec (ws := hk_ws yX5_hasTrough cX5_hasTrough 2 (Option.some Jvm.ClassFile.FieldType.boolean)) B.pre w (hk_in h)⟩
  have hx := B.exec
  have hb := B.bytes
  have hr := B.returns
  have hlocks := B.notSynchronized
  have hl := lv_entry ([.ref (g.1 + a0), .int x1]) (n := 2) (Nat.le_of_ble_eq_true rfl)
  rw [lg_entry_eq]
  generalize (lg_sl ([.ref (g.1 + a0), .int x1]) ++ List.replicate (2 - (lg_sl ([.ref (g.1 + a0), .int x1])).length) Slot.unset).toArray = ls at hl ⊢
  have hl : lv_has ls 2 [(0, .ref (g.1 + a0)), (1, .int x1)] := hl
  unfold mX5_hasTrough at hsp
  have G : hk_GG g E S n s s.heap [] := G
  refine lv_iload_n hx hb dX5_hasTrough_0 rfl (lv_at hl 1 rfl) ?_
  refine lv_if_lt (tgt := 16) hx hb dX5_hasTrough_1 (by decide) (fun c1 => ?_) (fun c1 => ?_)
  · have hsp := hk_t c1 hsp
    refine lv_iconst (v := 0) hx hb dX5_hasTrough_16 (by decide) ?_
    obtain rfl := hk_s hsp
    exact W.zret (v := 0) hx hb hr (hk_z (by decide)).1 (fun t ht hW => hk_end G ht hW) G.2.1.2.2 dX5_hasTrough_17
  · have hsp := hk_f c1 hsp
    refine lv_iload_n hx hb dX5_hasTrough_4 rfl (lv_at hl 1 rfl) ?_
    refine lv_aload_n hx hb dX5_hasTrough_5 rfl (lv_at hl 0 rfl) ?_
    refine hk_getI F9 G h0 hkc_3 (k := 2) (by decide) qw_156 rfl dX5_hasTrough_6 ?_
    refine lv_icmp_ge (tgt := 16) hx hb dX5_hasTrough_9 (by decide) (fun c2 => ?_) (fun c2 => ?_)
    · have hsp := hk_t c2 hsp
      refine lv_iconst (v := 0) hx hb dX5_hasTrough_16 (by decide) ?_
      obtain rfl := hk_s hsp
      exact W.zret (v := 0) hx hb hr (hk_z (by decide)).1 (fun t ht hW => hk_end G ht hW) G.2.1.2.2 dX5_hasTrough_17
    · have hsp := hk_f c2 hsp
      refine lv_iconst (v := 1) hx hb dX5_hasTrough_12 (by decide) ?_
      refine lv_goto (tgt := 17) hx hb dX5_hasTrough_13 (by decide) ?_
      obtain rfl := hk_s hsp
      exact W.zret (v := 1) hx hb hr (hk_z (by decide)).1 (fun t ht hW => hk_end G ht hW) G.2.1.2.2 dX5_hasTrough_17
def mX5_troughAt (E : hk_E) (F : Nat) (S : hk_S) (a0 : Nat) (x1 : Int32) : Option (Nat × hk_S) :=
if x1 < 0 then ((E.2.2.2 a0 1).bind (fun r2 => if E.2.1 r2 = 16 then (if hk_ok 0 (E.2.2.1 r2) then ((E.2.2.2 r2 0).bind (fun r4 => if E.2.1 r4 = 8 then (some (r4, S)) else none)) else none) else none)) else (if 8 ≤ x1 then ((E.2.2.2 a0 1).bind (fun r6 => if E.2.1 r6 = 16 then (if hk_ok 0 (E.2.2.1 r6) then ((E.2.2.2 r6 0).bind (fun r8 => if E.2.1 r8 = 8 then (some (r8, S)) else none)) else none) else none)) else ((E.2.2.2 a0 1).bind (fun r9 => if E.2.1 r9 = 16 then (if hk_ok x1 (E.2.2.1 r9) then ((E.2.2.2 r9 ((x1).toNatClampNeg)).bind (fun r11 => if E.2.1 r11 = 8 then (some (r11, S)) else none)) else none) else none)))
set_option maxHeartbeats 4000000 in
set_option maxRecDepth 100000 in
theorem kX5_troughAt (l : Launch) (g : hk_G) (E : hk_E) (F n : Nat) (S : hk_S) (a0 : Nat) (x1 : Int32) (o : Nat × hk_S) (h0 : E.2.1 a0 = 4) (hsp : mX5_troughAt E F S a0 x1 = some o) : Met l yX5_troughAt (hk_ws yX5_troughAt cX5_troughAt 2 (Option.some (Jvm.ClassFile.FieldType.object "WitheringLoft$Trough"))) ({ frames := 0, cells := 0, slots := 0, locals := 0 }) (hk_Pc g E S n [.ref (g.1 + a0), .int x1]) (hk_Q g E o.2 n (some (.ref (g.1 + o.1)))) 0 0 (hk_A g) := by
  refine Met.ofW (cc := cX5_troughAt) (maxL := 2) (ret := (Option.some (Jvm.ClassFile.FieldType.object "WitheringLoft$Trough"))) (by decide) rfl ?_
  intro p e s m args below meth c s₁ B hml hv
  obtain ⟨rfl, G⟩ := hk_begin hv
  have F9 : CallFix p m c cX5_troughAt 2 s [.ref (g.1 + a0), .int x1].toArray hk_W RX5 := ⟨B.exec, B.bytes, hml, findClass_of_methodNamed B.named, fun w h => atoms_spec (ws := hk_ws yX5_troughAt cX5_troughAt 2 (Option.some (Jvm.ClassFile.FieldType.object "WitheringLoft$Trough"))) B.pre w (hk_in h)⟩
  have hx := B.exec
  have hb := B.bytes
  have hr := B.returns
  have hlocks := B.notSynchronized
  have hl := lv_entry ([.ref (g.1 + a0), .int x1]) (n := 2) (Nat.le_of_ble_eq_true rfl)
  rw [lg_entry_eq]
  generalize (lg_sl ([.ref (g.1 + a0), .int x1]) ++ List.replicate (2 - (lg_sl ([.ref (g.1 + a0), .int x1])).length) Slot.unset).toArray = ls at hl ⊢
  have hl : lv_has ls 2 [(0, .ref (g.1 + a0)), (1, .int x1)] := hl
  unfold mX5_troughAt at hsp
  have G : hk_GG g E S n s s.heap [] := G
  refine lv_iload_n hx hb dX5_troughAt_0 rfl (lv_at hl 1 rfl) ?_
  refine lv_if_lt (tgt := 19) hx hb dX5_troughAt_1 (by decide) (fun c1 => ?_) (fun c1 => ?_)
  · have hsp := hk_t c1 hsp
    refine lv_aload_n hx hb dX5_troughAt_19 rfl (lv_at hl 0 rfl) ?_
    obtain ⟨r2, er2, hsp⟩ := hk_b hsp
    obtain ⟨kr2, hsp⟩ := hk_k hsp
    refine hk_getR F9 G h0 hkc_3 (k := 1) (by decide) qw_155 rfl er2 dX5_troughAt_20 ?_
    refine lv_iconst (v := 0) hx hb dX5_troughAt_23 (by decide) ?_
    obtain ⟨q3, hsp⟩ := hk_k hsp
    obtain ⟨r4, er4, hsp⟩ := hk_b hsp
    obtain ⟨kr4, hsp⟩ := hk_k hsp
    refine hk_aald (t := 2) (j := 0) F9 G kr2 (by decide) rfl rfl q3 (by decide) er4 dX5_troughAt_24 ?_
    obtain rfl := hk_s hsp
    exact W.aret (v := .ref (g.1 + r4)) hx hb hr (Or.inl ⟨_, rfl⟩) (Or.inr ⟨_, rfl⟩) (fun t ht hW => hk_end G ht hW) G.2.1.2.2 dX5_troughAt_25
  · have hsp := hk_f c1 hsp
    refine lv_iload_n hx hb dX5_troughAt_4 rfl (lv_at hl 1 rfl) ?_
    refine lv_bipush (v := 8) hx hb dX5_troughAt_5 (by decide) ?_
    refine lv_icmp_ge (tgt := 19) hx hb dX5_troughAt_7 (by decide) (fun c5 => ?_) (fun c5 => ?_)
    · have hsp := hk_t c5 hsp
      refine lv_aload_n hx hb dX5_troughAt_19 rfl (lv_at hl 0 rfl) ?_
      obtain ⟨r6, er6, hsp⟩ := hk_b hsp
      obtain ⟨kr6, hsp⟩ := hk_k hsp
      refine hk_getR F9 G h0 hkc_3 (k := 1) (by decide) qw_155 rfl er6 dX5_troughAt_20 ?_
      refine lv_iconst (v := 0) hx hb dX5_troughAt_23 (by decide) ?_
      obtain ⟨q7, hsp⟩ := hk_k hsp
      obtain ⟨r8, er8, hsp⟩ := hk_b hsp
      obtain ⟨kr8, hsp⟩ := hk_k hsp
      refine hk_aald (t := 2) (j := 0) F9 G kr6 (by decide) rfl rfl q7 (by decide) er8 dX5_troughAt_24 ?_
      obtain rfl := hk_s hsp
      exact W.aret (v := .ref (g.1 + r8)) hx hb hr (Or.inl ⟨_, rfl⟩) (Or.inr ⟨_, rfl⟩) (fun t ht hW => hk_end G ht hW) G.2.1.2.2 dX5_troughAt_25
    · have hsp := hk_f c5 hsp
      refine lv_aload_n hx hb dX5_troughAt_10 rfl (lv_at hl 0 rfl) ?_
      obtain ⟨r9, er9, hsp⟩ := hk_b hsp
      obtain ⟨kr9, hsp⟩ := hk_k hsp
      refine hk_getR F9 G h0 hkc_3 (k := 1) (by decide) qw_155 rfl er9 dX5_troughAt_11 ?_
      refine lv_iload_n hx hb dX5_troughAt_14 rfl (lv_at hl 1 rfl) ?_
      obtain ⟨q10, hsp⟩ := hk_k hsp
      obtain ⟨r11, er11, hsp⟩ := hk_b hsp
      obtain ⟨kr11, hsp⟩ := hk_k hsp
      refine hk_aald (t := 2) (j := (x1).toNatClampNeg) F9 G kr9 (by decide) rfl rfl q10 rfl er11 dX5_troughAt_15 ?_
      refine lv_goto (tgt := 25) hx hb dX5_troughAt_16 (by decide) ?_
      obtain rfl := hk_s hsp
      exact W.aret (v := .ref (g.1 + r11)) hx hb hr (Or.inl ⟨_, rfl⟩) (Or.inr ⟨_, rfl⟩) (fun t ht hW => hk_end G ht hW) G.2.1.2.2 dX5_troughAt_25
def mX5_hasProbe (E : hk_E) (F : Nat) (S : hk_S) (a0 : Nat) (x1 : Int32) : Option (Int32 × hk_S) :=
if x1 < 0 then (some (0, S)) else (if (S a0 4) ≤ x1 then (some (0, S)) else (some (1, S)))
set_option maxHeartbeats 4000000 in
set_option maxRecDepth 100000 in
theorem kX5_hasProbe (l : Launch) (g : hk_G) (E : hk_E) (F n : Nat) (S : hk_S) (a0 : Nat) (x1 : Int32) (o : Int32 × hk_S) (h0 : E.2.1 a0 = 4) (hsp : mX5_hasProbe E F S a0 x1 = some o) : Met l yX5_hasProbe (hk_ws yX5_hasProbe cX5_hasProbe 2 (Option.some Jvm.ClassFile.FieldType.boolean)) ({ frames := 0, cells := 0, slots := 0, locals := 0 }) (hk_Pc g E S n [.ref (g.1 + a0), .int x1]) (hk_Q g E o.2 n (some (.int o.1))) 0 0 (hk_A g) := by
  refine Met.ofW (cc := cX5_hasProbe) (maxL := 2) (ret := (Option.some Jvm.ClassFile.FieldType.boolean)) (by decide) rfl ?_
  intro p e s m args below meth c s₁ B hml hv
  obtain ⟨rfl, G⟩ := hk_begin hv
  have F9 : CallFix p m c cX5_hasProbe 2 s [.ref (g.1 + a0), .int x1].toArray hk_W RX5 := ⟨B.exec, B.bytes, hml, findClass_of_methodNamed B.named, fun w h => atoms_spec (ws := hk_ws yX5_hasProbe cX5_hasProbe 2 (Option.some Jvm.ClassFile.FieldType.boolean)) B.pre w (hk_in h)⟩
  have hx := B.exec
  have hb := B.bytes
  have hr := B.returns
  have hlocks := B.notSynchronized
  have hl := lv_entry ([.ref (g.1 + a0), .int x1]) (n := 2) (Nat.le_of_ble_eq_true rfl)
  rw [lg_entry_eq]
  generalize (lg_sl ([.ref (g.1 + a0), .int x1]) ++ List.replicate (2 - (lg_sl ([.ref (g.1 + a0), .int x1])).length) Slot.unset).toArray = ls at hl ⊢
  have hl : lv_has ls 2 [(0, .ref (g.1 + a0)), (1, .int x1)] := hl
  unfold mX5_hasProbe at hsp
  have G : hk_GG g E S n s s.heap [] := G
  refine lv_iload_n hx hb dX5_hasProbe_0 rfl (lv_at hl 1 rfl) ?_
  refine lv_if_lt (tgt := 16) hx hb dX5_hasProbe_1 (by decide) (fun c1 => ?_) (fun c1 => ?_)
  · have hsp := hk_t c1 hsp
    refine lv_iconst (v := 0) hx hb dX5_hasProbe_16 (by decide) ?_
    obtain rfl := hk_s hsp
    exact W.zret (v := 0) hx hb hr (hk_z (by decide)).1 (fun t ht hW => hk_end G ht hW) G.2.1.2.2 dX5_hasProbe_17
  · have hsp := hk_f c1 hsp
    refine lv_iload_n hx hb dX5_hasProbe_4 rfl (lv_at hl 1 rfl) ?_
    refine lv_aload_n hx hb dX5_hasProbe_5 rfl (lv_at hl 0 rfl) ?_
    refine hk_getI F9 G h0 hkc_3 (k := 4) (by decide) qw_159 rfl dX5_hasProbe_6 ?_
    refine lv_icmp_ge (tgt := 16) hx hb dX5_hasProbe_9 (by decide) (fun c2 => ?_) (fun c2 => ?_)
    · have hsp := hk_t c2 hsp
      refine lv_iconst (v := 0) hx hb dX5_hasProbe_16 (by decide) ?_
      obtain rfl := hk_s hsp
      exact W.zret (v := 0) hx hb hr (hk_z (by decide)).1 (fun t ht hW => hk_end G ht hW) G.2.1.2.2 dX5_hasProbe_17
    · have hsp := hk_f c2 hsp
      refine lv_iconst (v := 1) hx hb dX5_hasProbe_12 (by decide) ?_
      refine lv_goto (tgt := 17) hx hb dX5_hasProbe_13 (by decide) ?_
      obtain rfl := hk_s hsp
      exact W.zret (v := 1) hx hb hr (hk_z (by decide)).1 (fun t ht hW => hk_end G ht hW) G.2.1.2.2 dX5_hasProbe_17
def mX5_probeAt (E : hk_E) (F : Nat) (S : hk_S) (a0 : Nat) (x1 : Int32) : Option (Nat × hk_S) :=
if x1 < 0 then ((E.2.2.2 a0 3).bind (fun r2 => if E.2.1 r2 = 15 then (if hk_ok 0 (E.2.2.1 r2) then ((E.2.2.2 r2 0).bind (fun r4 => if E.2.1 r4 = 5 then (some (r4, S)) else none)) else none) else none)) else (if 6 ≤ x1 then ((E.2.2.2 a0 3).bind (fun r6 => if E.2.1 r6 = 15 then (if hk_ok 0 (E.2.2.1 r6) then ((E.2.2.2 r6 0).bind (fun r8 => if E.2.1 r8 = 5 then (some (r8, S)) else none)) else none) else none)) else ((E.2.2.2 a0 3).bind (fun r9 => if E.2.1 r9 = 15 then (if hk_ok x1 (E.2.2.1 r9) then ((E.2.2.2 r9 ((x1).toNatClampNeg)).bind (fun r11 => if E.2.1 r11 = 5 then (some (r11, S)) else none)) else none) else none)))
set_option maxHeartbeats 4000000 in
set_option maxRecDepth 100000 in
theorem kX5_probeAt (l : Launch) (g : hk_G) (E : hk_E) (F n : Nat) (S : hk_S) (a0 : Nat) (x1 : Int32) (o : Nat × hk_S) (h0 : E.2.1 a0 = 4) (hsp : mX5_probeAt E F S a0 x1 = some o) : Met l yX5_probeAt (hk_ws yX5_probeAt cX5_probeAt 2 (Option.some (Jvm.ClassFile.FieldType.object "WitheringLoft$Probe"))) ({ frames := 0, cells := 0, slots := 0, locals := 0 }) (hk_Pc g E S n [.ref (g.1 + a0), .int x1]) (hk_Q g E o.2 n (some (.ref (g.1 + o.1)))) 0 0 (hk_A g) := by
  refine Met.ofW (cc := cX5_probeAt) (maxL := 2) (ret := (Option.some (Jvm.ClassFile.FieldType.object "WitheringLoft$Probe"))) (by decide) rfl ?_
  intro p e s m args below meth c s₁ B hml hv
  obtain ⟨rfl, G⟩ := hk_begin hv
  have F9 : CallFix p m c cX5_probeAt 2 s [.ref (g.1 + a0), .int x1].toArray hk_W RX5 := ⟨B.exec, B.bytes, hml, findClass_of_methodNamed B.named, fun w h => atoms_spec (ws := hk_ws yX5_probeAt cX5_probeAt 2 (Option.some (Jvm.ClassFile.FieldType.object "WitheringLoft$Probe"))) B.pre w (hk_in h)⟩
  have hx := B.exec
  have hb := B.bytes
  have hr := B.returns
  have hlocks := B.notSynchronized
  have hl := lv_entry ([.ref (g.1 + a0), .int x1]) (n := 2) (Nat.le_of_ble_eq_true rfl)
  rw [lg_entry_eq]
  generalize (lg_sl ([.ref (g.1 + a0), .int x1]) ++ List.replicate (2 - (lg_sl ([.ref (g.1 + a0), .int x1])).length) Slot.unset).toArray = ls at hl ⊢
  have hl : lv_has ls 2 [(0, .ref (g.1 + a0)), (1, .int x1)] := hl
  unfold mX5_probeAt at hsp
  have G : hk_GG g E S n s s.heap [] := G
  refine lv_iload_n hx hb dX5_probeAt_0 rfl (lv_at hl 1 rfl) ?_
  refine lv_if_lt (tgt := 19) hx hb dX5_probeAt_1 (by decide) (fun c1 => ?_) (fun c1 => ?_)
  · have hsp := hk_t c1 hsp
    refine lv_aload_n hx hb dX5_probeAt_19 rfl (lv_at hl 0 rfl) ?_
    obtain ⟨r2, er2, hsp⟩ := hk_b hsp
    obtain ⟨kr2, hsp⟩ := hk_k hsp
    refine hk_getR F9 G h0 hkc_3 (k := 3) (by decide) qw_158 rfl er2 dX5_probeAt_20 ?_
    refine lv_iconst (v := 0) hx hb dX5_probeAt_23 (by decide) ?_
    obtain ⟨q3, hsp⟩ := hk_k hsp
    obtain ⟨r4, er4, hsp⟩ := hk_b hsp
    obtain ⟨kr4, hsp⟩ := hk_k hsp
    refine hk_aald (t := 1) (j := 0) F9 G kr2 (by decide) rfl rfl q3 (by decide) er4 dX5_probeAt_24 ?_
    obtain rfl := hk_s hsp
    exact W.aret (v := .ref (g.1 + r4)) hx hb hr (Or.inl ⟨_, rfl⟩) (Or.inr ⟨_, rfl⟩) (fun t ht hW => hk_end G ht hW) G.2.1.2.2 dX5_probeAt_25
  · have hsp := hk_f c1 hsp
    refine lv_iload_n hx hb dX5_probeAt_4 rfl (lv_at hl 1 rfl) ?_
    refine lv_bipush (v := 6) hx hb dX5_probeAt_5 (by decide) ?_
    refine lv_icmp_ge (tgt := 19) hx hb dX5_probeAt_7 (by decide) (fun c5 => ?_) (fun c5 => ?_)
    · have hsp := hk_t c5 hsp
      refine lv_aload_n hx hb dX5_probeAt_19 rfl (lv_at hl 0 rfl) ?_
      obtain ⟨r6, er6, hsp⟩ := hk_b hsp
      obtain ⟨kr6, hsp⟩ := hk_k hsp
      refine hk_getR F9 G h0 hkc_3 (k := 3) (by decide) qw_158 rfl er6 dX5_probeAt_20 ?_
      refine lv_iconst (v := 0) hx hb dX5_probeAt_23 (by decide) ?_
      obtain ⟨q7, hsp⟩ := hk_k hsp
      obtain ⟨r8, er8, hsp⟩ := hk_b hsp
      obtain ⟨kr8, hsp⟩ := hk_k hsp
      refine hk_aald (t := 1) (j := 0) F9 G kr6 (by decide) rfl rfl q7 (by decide) er8 dX5_probeAt_24 ?_
      obtain rfl := hk_s hsp
      exact W.aret (v := .ref (g.1 + r8)) hx hb hr (Or.inl ⟨_, rfl⟩) (Or.inr ⟨_, rfl⟩) (fun t ht hW => hk_end G ht hW) G.2.1.2.2 dX5_probeAt_25
    · have hsp := hk_f c5 hsp
      refine lv_aload_n hx hb dX5_probeAt_10 rfl (lv_at hl 0 rfl) ?_
      obtain ⟨r9, er9, hsp⟩ := hk_b hsp
      obtain ⟨kr9, hsp⟩ := hk_k hsp
      refine hk_getR F9 G h0 hkc_3 (k := 3) (by decide) qw_158 rfl er9 dX5_probeAt_11 ?_
      refine lv_iload_n hx hb dX5_probeAt_14 rfl (lv_at hl 1 rfl) ?_
      obtain ⟨q10, hsp⟩ := hk_k hsp
      obtain ⟨r11, er11, hsp⟩ := hk_b hsp
      obtain ⟨kr11, hsp⟩ := hk_k hsp
      refine hk_aald (t := 1) (j := (x1).toNatClampNeg) F9 G kr9 (by decide) rfl rfl q10 rfl er11 dX5_probeAt_15 ?_
      refine lv_goto (tgt := 25) hx hb dX5_probeAt_16 (by decide) ?_
      obtain rfl := hk_s hsp
      exact W.aret (v := .ref (g.1 + r11)) hx hb hr (Or.inl ⟨_, rfl⟩) (Or.inr ⟨_, rfl⟩) (fun t ht hW => hk_end G ht hW) G.2.1.2.2 dX5_probeAt_25
def mX5_hasRoomForTrough (E : hk_E) (F : Nat) (S : hk_S) (a0 : Nat) : Option (Int32 × hk_S) :=
if 8 ≤ (S a0 2) then (some (0, S)) else (some (1, S))
set_option maxHeartbeats 4000000 in
set_option maxRecDepth 100000 in
theorem kX5_hasRoomForTrough (l : Launch) (g : hk_G) (E : hk_E) (F n : Nat) (S : hk_S) (a0 : Nat) (o : Int32 × hk_S) (h0 : E.2.1 a0 = 4) (hsp : mX5_hasRoomForTrough E F S a0 = some o) : Met l yX5_hasRoomForTrough (hk_ws yX5_hasRoomForTrough cX5_hasRoomForTrough 1 (Option.some Jvm.ClassFile.FieldType.boolean)) ({ frames := 0, cells := 0, slots := 0, locals := 0 }) (hk_Pc g E S n [.ref (g.1 + a0)]) (hk_Q g E o.2 n (some (.int o.1))) 0 0 (hk_A g) := by
  refine Met.ofW (cc := cX5_hasRoomForTrough) (maxL := 1) (ret := (Option.some Jvm.ClassFile.FieldType.boolean)) (by decide) rfl ?_
  intro p e s m args below meth c s₁ B hml hv
  obtain ⟨rfl, G⟩ := hk_begin hv
  have F9 : CallFix p m c cX5_hasRoomForTrough 1 s [.ref (g.1 + a0)].toArray hk_W RX5 := ⟨B.exec, B.bytes, hml, findClass_of_methodNamed B.named, fun w h => atoms_spec (ws := hk_ws yX5_hasRoomForTrough cX5_hasRoomForTrough 1 (Option.some Jvm.ClassFile.FieldType.boolean)) B.pre w (hk_in h)⟩
  have hx := B.exec
  have hb := B.bytes
  have hr := B.returns
  have hlocks := B.notSynchronized
  have hl := lv_entry ([.ref (g.1 + a0)]) (n := 1) (Nat.le_of_ble_eq_true rfl)
  rw [lg_entry_eq]
  generalize (lg_sl ([.ref (g.1 + a0)]) ++ List.replicate (1 - (lg_sl ([.ref (g.1 + a0)])).length) Slot.unset).toArray = ls at hl ⊢
  have hl : lv_has ls 1 [(0, .ref (g.1 + a0))] := hl
  unfold mX5_hasRoomForTrough at hsp
  have G : hk_GG g E S n s s.heap [] := G
  refine lv_aload_n hx hb dX5_hasRoomForTrough_0 rfl (lv_at hl 0 rfl) ?_
  refine hk_getI F9 G h0 hkc_3 (k := 2) (by decide) qw_156 rfl dX5_hasRoomForTrough_1 ?_
  refine lv_bipush (v := 8) hx hb dX5_hasRoomForTrough_4 (by decide) ?_
  refine lv_icmp_ge (tgt := 13) hx hb dX5_hasRoomForTrough_6 (by decide) (fun c1 => ?_) (fun c1 => ?_)
  · have hsp := hk_t c1 hsp
    refine lv_iconst (v := 0) hx hb dX5_hasRoomForTrough_13 (by decide) ?_
    obtain rfl := hk_s hsp
    exact W.zret (v := 0) hx hb hr (hk_z (by decide)).1 (fun t ht hW => hk_end G ht hW) G.2.1.2.2 dX5_hasRoomForTrough_14
  · have hsp := hk_f c1 hsp
    refine lv_iconst (v := 1) hx hb dX5_hasRoomForTrough_9 (by decide) ?_
    refine lv_goto (tgt := 14) hx hb dX5_hasRoomForTrough_10 (by decide) ?_
    obtain rfl := hk_s hsp
    exact W.zret (v := 1) hx hb hr (hk_z (by decide)).1 (fun t ht hW => hk_end G ht hW) G.2.1.2.2 dX5_hasRoomForTrough_14
def mX5_hasRoomForProbe (E : hk_E) (F : Nat) (S : hk_S) (a0 : Nat) : Option (Int32 × hk_S) :=
if 6 ≤ (S a0 4) then (some (0, S)) else (some (1, S))
set_option maxHeartbeats 4000000 in
set_option maxRecDepth 100000 in
theorem kX5_hasRoomForProbe (l : Launch) (g : hk_G) (E : hk_E) (F n : Nat) (S : hk_S) (a0 : Nat) (o : Int32 × hk_S) (h0 : E.2.1 a0 = 4) (hsp : mX5_hasRoomForProbe E F S a0 = some o) : Met l yX5_hasRoomForProbe (hk_ws yX5_hasRoomForProbe cX5_hasRoomForProbe 1 (Option.some Jvm.ClassFile.FieldType.boolean)) ({ frames := 0, cells := 0, slots := 0, locals := 0 }) (hk_Pc g E S n [.ref (g.1 + a0)]) (hk_Q g E o.2 n (some (.int o.1))) 0 0 (hk_A g) := by
  refine Met.ofW (cc := cX5_hasRoomForProbe) (maxL := 1) (ret := (Option.some Jvm.ClassFile.FieldType.boolean)) (by decide) rfl ?_
  intro p e s m args below meth c s₁ B hml hv
  obtain ⟨rfl, G⟩ := hk_begin hv
  have F9 : CallFix p m c cX5_hasRoomForProbe 1 s [.ref (g.1 + a0)].toArray hk_W RX5 := ⟨B.exec, B.bytes, hml, findClass_of_methodNamed B.named, fun w h => atoms_spec (ws := hk_ws yX5_hasRoomForProbe cX5_hasRoomForProbe 1 (Option.some Jvm.ClassFile.FieldType.boolean)) B.pre w (hk_in h)⟩
  have hx := B.exec
  have hb := B.bytes
  have hr := B.returns
  have hlocks := B.notSynchronized
  have hl := lv_entry ([.ref (g.1 + a0)]) (n := 1) (Nat.le_of_ble_eq_true rfl)
  rw [lg_entry_eq]
  generalize (lg_sl ([.ref (g.1 + a0)]) ++ List.replicate (1 - (lg_sl ([.ref (g.1 + a0)])).length) Slot.unset).toArray = ls at hl ⊢
  have hl : lv_has ls 1 [(0, .ref (g.1 + a0))] := hl
  unfold mX5_hasRoomForProbe at hsp
  have G : hk_GG g E S n s s.heap [] := G
  refine lv_aload_n hx hb dX5_hasRoomForProbe_0 rfl (lv_at hl 0 rfl) ?_
  refine hk_getI F9 G h0 hkc_3 (k := 4) (by decide) qw_159 rfl dX5_hasRoomForProbe_1 ?_
  refine lv_bipush (v := 6) hx hb dX5_hasRoomForProbe_4 (by decide) ?_
  refine lv_icmp_ge (tgt := 13) hx hb dX5_hasRoomForProbe_6 (by decide) (fun c1 => ?_) (fun c1 => ?_)
  · have hsp := hk_t c1 hsp
    refine lv_iconst (v := 0) hx hb dX5_hasRoomForProbe_13 (by decide) ?_
    obtain rfl := hk_s hsp
    exact W.zret (v := 0) hx hb hr (hk_z (by decide)).1 (fun t ht hW => hk_end G ht hW) G.2.1.2.2 dX5_hasRoomForProbe_14
  · have hsp := hk_f c1 hsp
    refine lv_iconst (v := 1) hx hb dX5_hasRoomForProbe_9 (by decide) ?_
    refine lv_goto (tgt := 14) hx hb dX5_hasRoomForProbe_10 (by decide) ?_
    obtain rfl := hk_s hsp
    exact W.zret (v := 1) hx hb hr (hk_z (by decide)).1 (fun t ht hW => hk_end G ht hW) G.2.1.2.2 dX5_hasRoomForProbe_14
def mX5_placeProbe (E : hk_E) (F : Nat) (S : hk_S) (a0 : Nat) (x1 : Int32) (x2 : Int32) (x3 : Int32) : Option (Int32 × hk_S) :=
(mX5_probeAt E F S a0 (S a0 4)).bind (fun r1 => if E.2.1 r1.1 = 5 then (hk_let (hk_up r1.2 r1.1 0 x1) (fun S3 => hk_let (hk_up S3 r1.1 1 x2) (fun S4 => hk_let (hk_up S4 r1.1 2 x3) (fun S5 => hk_let (hk_up S5 a0 4 ((S5 a0 4) + 1)) (fun S6 => some (((S6 a0 4) - 1), S6)))))) else none)
set_option maxHeartbeats 4000000 in
set_option maxRecDepth 100000 in
theorem kX5_placeProbe (l : Launch) (g : hk_G) (E : hk_E) (F n : Nat) (S : hk_S) (a0 : Nat) (x1 : Int32) (x2 : Int32) (x3 : Int32) (o : Int32 × hk_S) (h0 : E.2.1 a0 = 4) (hsp : mX5_placeProbe E F S a0 x1 x2 x3 = some o) : Met l yX5_placeProbe (hk_ws yX5_placeProbe cX5_placeProbe 5 (Option.some Jvm.ClassFile.FieldType.int)) ({ frames := 1, cells := 0, slots := 0, locals := 21 }) (hk_Pc g E S n [.ref (g.1 + a0), .int x1, .int x2, .int x3]) (hk_Q g E o.2 n (some (.int o.1))) 0 0 (hk_A g) := by
  refine Met.ofW (cc := cX5_placeProbe) (maxL := 5) (ret := (Option.some Jvm.ClassFile.FieldType.int)) (by decide) rfl ?_
  intro p e s m args below meth c s₁ B hml hv
  obtain ⟨rfl, G⟩ := hk_begin hv
  have F9 : CallFix p m c cX5_placeProbe 5 s [.ref (g.1 + a0), .int x1, .int x2, .int x3].toArray hk_W RX5 := ⟨B.exec, B.bytes, hml, findClass_of_methodNamed B.named, fun w h => atoms_spec (ws := hk_ws yX5_placeProbe cX5_placeProbe 5 (Option.some Jvm.ClassFile.FieldType.int)) B.pre w (hk_in h)⟩
  have hx := B.exec
  have hb := B.bytes
  have hr := B.returns
  have hlocks := B.notSynchronized
  have hl := lv_entry ([.ref (g.1 + a0), .int x1, .int x2, .int x3]) (n := 5) (Nat.le_of_ble_eq_true rfl)
  rw [lg_entry_eq]
  generalize (lg_sl ([.ref (g.1 + a0), .int x1, .int x2, .int x3]) ++ List.replicate (5 - (lg_sl ([.ref (g.1 + a0), .int x1, .int x2, .int x3])).length) Slot.unset).toArray = ls at hl ⊢
  have hl : lv_has ls 5 [(0, .ref (g.1 + a0)), (1, .int x1), (2, .int x2), (3, .int x3)] := hl
  unfold mX5_placeProbe at hsp
  have G : hk_GG g E S n s s.heap [] := G
  refine lv_aload_n hx hb dX5_placeProbe_0 rfl (lv_at hl 0 rfl) ?_
  refine lv_aload_n hx hb dX5_placeProbe_1 rfl (lv_at hl 0 rfl) ?_
  refine hk_getI F9 G h0 hkc_3 (k := 4) (by decide) qw_159 rfl dX5_placeProbe_2 ?_
  obtain ⟨r1, er1, hsp⟩ := hk_b hsp
  refine hk_callVr (As := [.int (S a0 4)]) (rest := []) F9 G h0 hkc_3 rfl (kX5_probeAt l g E F n S a0 (S a0 4) r1 h0 er1) qv_RX5_85 ⟨rfl, rfl, (Nat.le_of_ble_eq_true rfl), (Nat.le_of_ble_eq_true rfl)⟩ rfl hl.1 rfl (Nat.le_of_ble_eq_true rfl) ⟨Nat.zero_le _, Nat.zero_le _⟩ dX5_placeProbe_5 (fun H locs G => ?_)
  obtain ⟨q2, hsp⟩ := hk_k hsp
  refine lv_astore (lv' := [(4, .ref (g.1 + r1.1)), (0, .ref (g.1 + a0)), (1, .int x1), (2, .int x2), (3, .int x3)]) hx hb dX5_placeProbe_8  hl (by decide) rfl (fun ls hl => ?_)
  refine lv_aload hx hb dX5_placeProbe_10 (lv_at hl 0 rfl) ?_
  refine lv_iload_n hx hb dX5_placeProbe_12 rfl (lv_at hl 2 rfl) ?_
  obtain ⟨S3, eS3, hsp⟩ := hk_l hsp
  refine hk_putI F9 G q2 hkc_4 (k := 0) (by decide) qw_122 rfl rfl (tyX6_ok 0 (by decide)) rfl rfl dX5_placeProbe_13 (fun H locs G => ?_)
  rw [eS3] at G
  refine lv_aload hx hb dX5_placeProbe_16 (lv_at hl 0 rfl) ?_
  refine lv_iload_n hx hb dX5_placeProbe_18 rfl (lv_at hl 3 rfl) ?_
  obtain ⟨S4, eS4, hsp⟩ := hk_l hsp
  refine hk_putI F9 G q2 hkc_4 (k := 1) (by decide) qw_125 rfl rfl (tyX6_ok 1 (by decide)) rfl rfl dX5_placeProbe_19 (fun H locs G => ?_)
  rw [eS4] at G
  refine lv_aload hx hb dX5_placeProbe_22 (lv_at hl 0 rfl) ?_
  refine lv_iload_n hx hb dX5_placeProbe_24 rfl (lv_at hl 4 rfl) ?_
  obtain ⟨S5, eS5, hsp⟩ := hk_l hsp
  refine hk_putI F9 G q2 hkc_4 (k := 2) (by decide) qw_128 rfl rfl (tyX6_ok 2 (by decide)) rfl rfl dX5_placeProbe_25 (fun H locs G => ?_)
  rw [eS5] at G
  refine lv_aload_n hx hb dX5_placeProbe_28 rfl (lv_at hl 1 rfl) ?_
  refine lv_dup hx hb dX5_placeProbe_29 rfl ?_
  refine hk_getI F9 G h0 hkc_3 (k := 4) (by decide) qw_159 rfl dX5_placeProbe_30 ?_
  refine lv_iconst (v := 1) hx hb dX5_placeProbe_33 (by decide) ?_
  refine lv_iadd hx hb dX5_placeProbe_34 ?_
  obtain ⟨S6, eS6, hsp⟩ := hk_l hsp
  refine hk_putI F9 G h0 hkc_3 (k := 4) (by decide) qw_159 rfl rfl (tyX5_ok 4 (by decide)) rfl rfl dX5_placeProbe_35 (fun H locs G => ?_)
  rw [eS6] at G
  refine lv_aload_n hx hb dX5_placeProbe_38 rfl (lv_at hl 1 rfl) ?_
  refine hk_getI F9 G h0 hkc_3 (k := 4) (by decide) qw_159 rfl dX5_placeProbe_39 ?_
  refine lv_iconst (v := 1) hx hb dX5_placeProbe_42 (by decide) ?_
  refine lv_isub hx hb dX5_placeProbe_43 ?_
  obtain rfl := hk_s hsp
  exact W.iret (v := ((S6 a0 4) - 1)) hx hb hr (fun t ht hW => hk_end G ht hW) G.2.1.2.2 dX5_placeProbe_44
def mX5_aimAt (E : hk_E) (F : Nat) (S : hk_S) (a0 : Nat) (x1 : Int32) (x2 : Int32) : Option (hk_S) :=
hk_let (hk_up S a0 5 x1) (fun S1 => hk_let (hk_up S1 a0 6 x2) (fun S2 => some (S2)))
set_option maxHeartbeats 4000000 in
set_option maxRecDepth 100000 in
theorem kX5_aimAt (l : Launch) (g : hk_G) (E : hk_E) (F n : Nat) (S : hk_S) (a0 : Nat) (x1 : Int32) (x2 : Int32) (o : hk_S) (h0 : E.2.1 a0 = 4) (hsp : mX5_aimAt E F S a0 x1 x2 = some o) : Met l yX5_aimAt (hk_ws yX5_aimAt cX5_aimAt 3 (Option.none : Option Jvm.ClassFile.FieldType)) ({ frames := 0, cells := 0, slots := 0, locals := 0 }) (hk_Pc g E S n [.ref (g.1 + a0), .int x1, .int x2]) (hk_Q g E o n none) 0 0 (hk_A g) := by
  refine Met.ofW (cc := cX5_aimAt) (maxL := 3) (ret := (Option.none : Option Jvm.ClassFile.FieldType)) (by decide) rfl ?_
  intro p e s m args below meth c s₁ B hml hv
  obtain ⟨rfl, G⟩ := hk_begin hv
  have F9 : CallFix p m c cX5_aimAt 3 s [.ref (g.1 + a0), .int x1, .int x2].toArray hk_W RX5 := ⟨B.exec, B.bytes, hml, findClass_of_methodNamed B.named, fun w h => atoms_spec (ws := hk_ws yX5_aimAt cX5_aimAt 3 (Option.none : Option Jvm.ClassFile.FieldType)) B.pre w (hk_in h)⟩
  have hx := B.exec
  have hb := B.bytes
  have hr := B.returns
  have hlocks := B.notSynchronized
  have hl := lv_entry ([.ref (g.1 + a0), .int x1, .int x2]) (n := 3) (Nat.le_of_ble_eq_true rfl)
  rw [lg_entry_eq]
  generalize (lg_sl ([.ref (g.1 + a0), .int x1, .int x2]) ++ List.replicate (3 - (lg_sl ([.ref (g.1 + a0), .int x1, .int x2])).length) Slot.unset).toArray = ls at hl ⊢
  have hl : lv_has ls 3 [(0, .ref (g.1 + a0)), (1, .int x1), (2, .int x2)] := hl
  unfold mX5_aimAt at hsp
  have G : hk_GG g E S n s s.heap [] := G
  refine lv_aload_n hx hb dX5_aimAt_0 rfl (lv_at hl 0 rfl) ?_
  refine lv_iload_n hx hb dX5_aimAt_1 rfl (lv_at hl 1 rfl) ?_
  obtain ⟨S1, eS1, hsp⟩ := hk_l hsp
  refine hk_putI F9 G h0 hkc_3 (k := 5) (by decide) qw_161 rfl rfl (tyX5_ok 5 (by decide)) rfl rfl dX5_aimAt_2 (fun H locs G => ?_)
  rw [eS1] at G
  refine lv_aload_n hx hb dX5_aimAt_5 rfl (lv_at hl 0 rfl) ?_
  refine lv_iload_n hx hb dX5_aimAt_6 rfl (lv_at hl 2 rfl) ?_
  obtain ⟨S2, eS2, hsp⟩ := hk_l hsp
  refine hk_putI F9 G h0 hkc_3 (k := 6) (by decide) qw_162 rfl rfl (tyX5_ok 6 (by decide)) rfl rfl dX5_aimAt_7 (fun H locs G => ?_)
  rw [eS2] at G
  obtain rfl := hk_s hsp
  exact W.vret hx hb hr (fun t ht hW => hk_end G ht hW) G.2.1.2.2 dX5_aimAt_10
def mX5_ageProbes_2 (E : hk_E) (F : Nat) (a0 : Nat)  (k : hk_S → Int32 → Option (hk_S)) : Nat → hk_S → Int32 → Option (hk_S)
  | 0 => fun _ _ => none
  | f + 1 => fun S z1 =>
    if (S a0 4) ≤ z1 then (k S z1) else (if 6 ≤ z1 then (k S z1) else ((E.2.2.2 a0 3).bind (fun r4 => if E.2.1 r4 = 15 then (if hk_ok z1 (E.2.2.1 r4) then ((E.2.2.2 r4 ((z1).toNatClampNeg)).bind (fun r6 => if E.2.1 r6 = 5 then (if 50 ≤ (S r6 2) then (hk_let (z1 + 1) (fun y8 => mX5_ageProbes_2 E F a0 k f S y8)) else (if hk_ok z1 (E.2.2.1 r4) then (hk_let (hk_up S r6 2 ((S r6 2) + 1)) (fun S10 => hk_let (z1 + 1) (fun y11 => mX5_ageProbes_2 E F a0 k f S10 y11))) else none)) else none)) else none) else none)))
def mX5_ageProbes (E : hk_E) (F : Nat) (S : hk_S) (a0 : Nat) : Option (hk_S) :=
mX5_ageProbes_2 E F a0  (fun S12 z13 => some (S12)) F S 0
set_option maxHeartbeats 4000000 in
set_option maxRecDepth 100000 in
theorem kX5_ageProbes (l : Launch) (g : hk_G) (E : hk_E) (F n : Nat) (S : hk_S) (a0 : Nat) (o : hk_S) (h0 : E.2.1 a0 = 4) (hsp : mX5_ageProbes E F S a0 = some o) : Met l yX5_ageProbes (hk_ws yX5_ageProbes cX5_ageProbes 2 (Option.none : Option Jvm.ClassFile.FieldType)) ({ frames := 0, cells := 0, slots := 0, locals := 0 }) (hk_Pc g E S n [.ref (g.1 + a0)]) (hk_Q g E o n none) 0 0 (hk_A g) := by
  refine Met.ofW (cc := cX5_ageProbes) (maxL := 2) (ret := (Option.none : Option Jvm.ClassFile.FieldType)) (by decide) rfl ?_
  intro p e s m args below meth c s₁ B hml hv
  obtain ⟨rfl, G⟩ := hk_begin hv
  have F9 : CallFix p m c cX5_ageProbes 2 s [.ref (g.1 + a0)].toArray hk_W RX5 := ⟨B.exec, B.bytes, hml, findClass_of_methodNamed B.named, fun w h => atoms_spec (ws := hk_ws yX5_ageProbes cX5_ageProbes 2 (Option.none : Option Jvm.ClassFile.FieldType)) B.pre w (hk_in h)⟩
  have hx := B.exec
  have hb := B.bytes
  have hr := B.returns
  have hlocks := B.notSynchronized
  have hl := lv_entry ([.ref (g.1 + a0)]) (n := 2) (Nat.le_of_ble_eq_true rfl)
  rw [lg_entry_eq]
  generalize (lg_sl ([.ref (g.1 + a0)]) ++ List.replicate (2 - (lg_sl ([.ref (g.1 + a0)])).length) Slot.unset).toArray = ls at hl ⊢
  have hl : lv_has ls 2 [(0, .ref (g.1 + a0))] := hl
  unfold mX5_ageProbes at hsp
  have G : hk_GG g E S n s s.heap [] := G
  have L_2 : ∀   (k : hk_S → Int32 → Option (hk_S)) (_ : ∀ (S : hk_S) (z1 : Int32) (H : Heap) (locs : List Loc) (ls : Array Slot), k S z1 = some o → hk_GG g E S n s H locs → lv_has ls 2 [(0, .ref (g.1 + a0)), (1, .int z1)] → W p l e (headSpec (hk_ws yX5_ageProbes cX5_ageProbes 2 (Option.none : Option Jvm.ClassFile.FieldType)) ({ frames := 0, cells := 0, slots := 0, locals := 0 })).room s m [.ref (g.1 + a0)].toArray below meth c H locs 0 0 (MQ below (hk_Q g E o n none) [.ref (g.1 + a0)].toArray s 0 0 (hk_A g)) (F0 m 51 ls [])) (f : Nat) (S : hk_S) (z1 : Int32) (H : Heap) (locs : List Loc) (ls : Array Slot), mX5_ageProbes_2 E F a0 k f S z1 = some o → hk_GG g E S n s H locs → lv_has ls 2 [(0, .ref (g.1 + a0)), (1, .int z1)] → W p l e (headSpec (hk_ws yX5_ageProbes cX5_ageProbes 2 (Option.none : Option Jvm.ClassFile.FieldType)) ({ frames := 0, cells := 0, slots := 0, locals := 0 })).room s m [.ref (g.1 + a0)].toArray below meth c H locs 0 0 (MQ below (hk_Q g E o n none) [.ref (g.1 + a0)].toArray s 0 0 (hk_A g)) (F0 m 2 ls []) := by
    intro   k hk f
    induction f with
    | zero =>
      intro S z1 H locs ls hsp
      exact nomatch hsp
    | succ f ih =>
      intro S z1 H locs ls hsp G hl
      rw [mX5_ageProbes_2] at hsp
      refine lv_iload_n hx hb dX5_ageProbes_2 rfl (lv_at hl 1 rfl) ?_
      refine lv_aload_n hx hb dX5_ageProbes_3 rfl (lv_at hl 0 rfl) ?_
      refine hk_getI F9 G h0 hkc_3 (k := 4) (by decide) qw_159 rfl dX5_ageProbes_4 ?_
      refine lv_icmp_ge (tgt := 51) hx hb dX5_ageProbes_7 (by decide) (fun c2 => ?_) (fun c2 => ?_)
      · have hsp := hk_t c2 hsp
        exact hk S z1 _ _ _ hsp G (lv_sub hl [0, 1] rfl)
      · have hsp := hk_f c2 hsp
        refine lv_iload_n hx hb dX5_ageProbes_10 rfl (lv_at hl 1 rfl) ?_
        refine lv_bipush (v := 6) hx hb dX5_ageProbes_11 (by decide) ?_
        refine lv_icmp_ge (tgt := 51) hx hb dX5_ageProbes_13 (by decide) (fun c3 => ?_) (fun c3 => ?_)
        · have hsp := hk_t c3 hsp
          exact hk S z1 _ _ _ hsp G (lv_sub hl [0, 1] rfl)
        · have hsp := hk_f c3 hsp
          refine lv_aload_n hx hb dX5_ageProbes_16 rfl (lv_at hl 0 rfl) ?_
          obtain ⟨r4, er4, hsp⟩ := hk_b hsp
          obtain ⟨kr4, hsp⟩ := hk_k hsp
          refine hk_getR F9 G h0 hkc_3 (k := 3) (by decide) qw_158 rfl er4 dX5_ageProbes_17 ?_
          refine lv_iload_n hx hb dX5_ageProbes_20 rfl (lv_at hl 1 rfl) ?_
          obtain ⟨q5, hsp⟩ := hk_k hsp
          obtain ⟨r6, er6, hsp⟩ := hk_b hsp
          obtain ⟨kr6, hsp⟩ := hk_k hsp
          refine hk_aald (t := 1) (j := (z1).toNatClampNeg) F9 G kr4 (by decide) rfl rfl q5 rfl er6 dX5_ageProbes_21 ?_
          refine hk_getI F9 G kr6 hkc_4 (k := 2) (by decide) qw_128 rfl dX5_ageProbes_22 ?_
          refine lv_bipush (v := 50) hx hb dX5_ageProbes_25 (by decide) ?_
          refine lv_icmp_ge (tgt := 45) hx hb dX5_ageProbes_27 (by decide) (fun c7 => ?_) (fun c7 => ?_)
          · have hsp := hk_t c7 hsp
            obtain ⟨y8, ey8, hsp⟩ := hk_l hsp
            refine lv_iinc (v := y8) (lv' := [(1, .int y8), (0, .ref (g.1 + a0))]) hx hb dX5_ageProbes_45 hl (k := 1) rfl (by rw [← ey8]; rfl) (by decide) rfl (fun ls hl => ?_)
            refine lv_goto (tgt := 2) hx hb dX5_ageProbes_48 (by decide) ?_
            exact ih S y8 _ _ _ hsp G (lv_sub hl [1, 0] rfl)
          · have hsp := hk_f c7 hsp
            refine lv_aload_n hx hb dX5_ageProbes_30 rfl (lv_at hl 0 rfl) ?_
            refine hk_getR F9 G h0 hkc_3 (k := 3) (by decide) qw_158 rfl er4 dX5_ageProbes_31 ?_
            refine lv_iload_n hx hb dX5_ageProbes_34 rfl (lv_at hl 1 rfl) ?_
            obtain ⟨q9, hsp⟩ := hk_k hsp
            refine hk_aald (t := 1) (j := (z1).toNatClampNeg) F9 G kr4 (by decide) rfl rfl q9 rfl er6 dX5_ageProbes_35 ?_
            refine lv_dup hx hb dX5_ageProbes_36 rfl ?_
            refine hk_getI F9 G kr6 hkc_4 (k := 2) (by decide) qw_128 rfl dX5_ageProbes_37 ?_
            refine lv_iconst (v := 1) hx hb dX5_ageProbes_40 (by decide) ?_
            refine lv_iadd hx hb dX5_ageProbes_41 ?_
            obtain ⟨S10, eS10, hsp⟩ := hk_l hsp
            refine hk_putI F9 G kr6 hkc_4 (k := 2) (by decide) qw_128 rfl rfl (tyX6_ok 2 (by decide)) rfl rfl dX5_ageProbes_42 (fun H locs G => ?_)
            rw [eS10] at G
            obtain ⟨y11, ey11, hsp⟩ := hk_l hsp
            refine lv_iinc (v := y11) (lv' := [(1, .int y11), (0, .ref (g.1 + a0))]) hx hb dX5_ageProbes_45 hl (k := 1) rfl (by rw [← ey11]; rfl) (by decide) rfl (fun ls hl => ?_)
            refine lv_goto (tgt := 2) hx hb dX5_ageProbes_48 (by decide) ?_
            exact ih S10 y11 _ _ _ hsp G (lv_sub hl [1, 0] rfl)
  refine lv_iconst (v := 0) hx hb dX5_ageProbes_0 (by decide) ?_
  refine lv_istore_n (lv' := [(1, .int 0), (0, .ref (g.1 + a0))]) hx hb dX5_ageProbes_1 rfl hl (by decide) rfl (fun ls hl => ?_)
  refine L_2   _ ?_ F S 0 _ _ _ hsp G (lv_sub hl [1, 0] rfl)
  intro S12 z13 H locs ls hsp G hl
  obtain rfl := hk_s hsp
  exact W.vret hx hb hr (fun t ht hW => hk_end G ht hW) G.2.1.2.2 dX5_ageProbes_51
def mX5_isTooDry (E : hk_E) (F : Nat) (S : hk_S) (a0 : Nat) (a1 : Nat) : Option (Int32 × hk_S) :=
if (S a1 6) < ((S a0 5) - (S a0 6)) then (some (1, S)) else (if ((S a0 5) - (S a0 6)) ≤ (S a1 7) then (some (0, S)) else (some (1, S)))
set_option maxHeartbeats 4000000 in
set_option maxRecDepth 100000 in
theorem kX5_isTooDry (l : Launch) (g : hk_G) (E : hk_E) (F n : Nat) (S : hk_S) (a0 : Nat) (a1 : Nat) (o : Int32 × hk_S) (h0 : E.2.1 a0 = 4) (h1 : E.2.1 a1 = 8) (hsp : mX5_isTooDry E F S a0 a1 = some o) : Met l yX5_isTooDry (hk_ws yX5_isTooDry cX5_isTooDry 2 (Option.some Jvm.ClassFile.FieldType.boolean)) ({ frames := 0, cells := 0, slots := 0, locals := 0 }) (hk_Pc g E S n [.ref (g.1 + a0), .ref (g.1 + a1)]) (hk_Q g E o.2 n (some (.int o.1))) 0 0 (hk_A g) := by
  refine Met.ofW (cc := cX5_isTooDry) (maxL := 2) (ret := (Option.some Jvm.ClassFile.FieldType.boolean)) (by decide) rfl ?_
  intro p e s m args below meth c s₁ B hml hv
  obtain ⟨rfl, G⟩ := hk_begin hv
  have F9 : CallFix p m c cX5_isTooDry 2 s [.ref (g.1 + a0), .ref (g.1 + a1)].toArray hk_W RX5 := ⟨B.exec, B.bytes, hml, findClass_of_methodNamed B.named, fun w h => atoms_spec (ws := hk_ws yX5_isTooDry cX5_isTooDry 2 (Option.some Jvm.ClassFile.FieldType.boolean)) B.pre w (hk_in h)⟩
  have hx := B.exec
  have hb := B.bytes
  have hr := B.returns
  have hlocks := B.notSynchronized
  have hl := lv_entry ([.ref (g.1 + a0), .ref (g.1 + a1)]) (n := 2) (Nat.le_of_ble_eq_true rfl)
  rw [lg_entry_eq]
  generalize (lg_sl ([.ref (g.1 + a0), .ref (g.1 + a1)]) ++ List.replicate (2 - (lg_sl ([.ref (g.1 + a0), .ref (g.1 + a1)])).length) Slot.unset).toArray = ls at hl ⊢
  have hl : lv_has ls 2 [(0, .ref (g.1 + a0)), (1, .ref (g.1 + a1))] := hl
  unfold mX5_isTooDry at hsp
  have G : hk_GG g E S n s s.heap [] := G
  refine lv_aload_n hx hb dX5_isTooDry_0 rfl (lv_at hl 1 rfl) ?_
  refine hk_getI F9 G h1 hkc_7 (k := 6) (by decide) qw_87 rfl dX5_isTooDry_1 ?_
  refine lv_aload_n hx hb dX5_isTooDry_4 rfl (lv_at hl 0 rfl) ?_
  refine hk_getI F9 G h0 hkc_3 (k := 5) (by decide) qw_161 rfl dX5_isTooDry_5 ?_
  refine lv_aload_n hx hb dX5_isTooDry_8 rfl (lv_at hl 0 rfl) ?_
  refine hk_getI F9 G h0 hkc_3 (k := 6) (by decide) qw_162 rfl dX5_isTooDry_9 ?_
  refine lv_isub hx hb dX5_isTooDry_12 ?_
  refine lv_icmp_lt (tgt := 32) hx hb dX5_isTooDry_13 (by decide) (fun c1 => ?_) (fun c1 => ?_)
  · have hsp := hk_t c1 hsp
    refine lv_iconst (v := 1) hx hb dX5_isTooDry_32 (by decide) ?_
    refine lv_goto (tgt := 37) hx hb dX5_isTooDry_33 (by decide) ?_
    obtain rfl := hk_s hsp
    exact W.zret (v := 1) hx hb hr (hk_z (by decide)).1 (fun t ht hW => hk_end G ht hW) G.2.1.2.2 dX5_isTooDry_37
  · have hsp := hk_f c1 hsp
    refine lv_aload_n hx hb dX5_isTooDry_16 rfl (lv_at hl 1 rfl) ?_
    refine hk_getI F9 G h1 hkc_7 (k := 7) (by decide) qw_90 rfl dX5_isTooDry_17 ?_
    refine lv_aload_n hx hb dX5_isTooDry_20 rfl (lv_at hl 0 rfl) ?_
    refine hk_getI F9 G h0 hkc_3 (k := 5) (by decide) qw_161 rfl dX5_isTooDry_21 ?_
    refine lv_aload_n hx hb dX5_isTooDry_24 rfl (lv_at hl 0 rfl) ?_
    refine hk_getI F9 G h0 hkc_3 (k := 6) (by decide) qw_162 rfl dX5_isTooDry_25 ?_
    refine lv_isub hx hb dX5_isTooDry_28 ?_
    refine lv_icmp_ge (tgt := 36) hx hb dX5_isTooDry_29 (by decide) (fun c2 => ?_) (fun c2 => ?_)
    · have hsp := hk_t c2 hsp
      refine lv_iconst (v := 0) hx hb dX5_isTooDry_36 (by decide) ?_
      obtain rfl := hk_s hsp
      exact W.zret (v := 0) hx hb hr (hk_z (by decide)).1 (fun t ht hW => hk_end G ht hW) G.2.1.2.2 dX5_isTooDry_37
    · have hsp := hk_f c2 hsp
      refine lv_iconst (v := 1) hx hb dX5_isTooDry_32 (by decide) ?_
      refine lv_goto (tgt := 37) hx hb dX5_isTooDry_33 (by decide) ?_
      obtain rfl := hk_s hsp
      exact W.zret (v := 1) hx hb hr (hk_z (by decide)).1 (fun t ht hW => hk_end G ht hW) G.2.1.2.2 dX5_isTooDry_37
def mX5_become_13 (E : hk_E) (F : Nat) (a0 : Nat) (a1 : Nat)  (k : hk_S → Int32 → Option (hk_S)) : Nat → hk_S → Int32 → Option (hk_S)
  | 0 => fun _ _ => none
  | f + 1 => fun S z4 =>
    if 8 ≤ z4 then (k S z4) else ((E.2.2.2 a0 1).bind (fun r6 => if E.2.1 r6 = 16 then (if hk_ok z4 (E.2.2.1 r6) then ((E.2.2.2 r6 ((z4).toNatClampNeg)).bind (fun r8 => if E.2.1 r8 = 8 then ((E.2.2.2 a1 1).bind (fun r9 => if E.2.1 r9 = 16 then (if hk_ok z4 (E.2.2.1 r9) then ((E.2.2.2 r9 ((z4).toNatClampNeg)).bind (fun r11 => if E.2.1 r11 = 8 then ((mX10_become E F S r8 r11).bind (fun r12 => hk_let (z4 + 1) (fun y13 => mX5_become_13 E F a0 a1 k f r12 y13))) else none)) else none) else none)) else none)) else none) else none))
def mX5_become_50 (E : hk_E) (F : Nat) (a0 : Nat) (a1 : Nat)  (k : hk_S → Int32 → Option (hk_S)) : Nat → hk_S → Int32 → Option (hk_S)
  | 0 => fun _ _ => none
  | f + 1 => fun S z17 =>
    if 6 ≤ z17 then (k S z17) else ((E.2.2.2 a0 3).bind (fun r19 => if E.2.1 r19 = 15 then (if hk_ok z17 (E.2.2.1 r19) then ((E.2.2.2 r19 ((z17).toNatClampNeg)).bind (fun r21 => if E.2.1 r21 = 5 then ((E.2.2.2 a1 3).bind (fun r22 => if E.2.1 r22 = 15 then (if hk_ok z17 (E.2.2.1 r22) then ((E.2.2.2 r22 ((z17).toNatClampNeg)).bind (fun r24 => if E.2.1 r24 = 5 then ((mX6_become E F S r21 r24).bind (fun r25 => hk_let (z17 + 1) (fun y26 => mX5_become_50 E F a0 a1 k f r25 y26))) else none)) else none) else none)) else none)) else none) else none))
def mX5_become (E : hk_E) (F : Nat) (S : hk_S) (a0 : Nat) (a1 : Nat) : Option (hk_S) :=
(E.2.2.2 a0 0).bind (fun r1 => if E.2.1 r1 = 1 then ((E.2.2.2 a1 0).bind (fun r2 => if E.2.1 r2 = 1 then ((mX1_become E F S r1 r2).bind (fun r3 => mX5_become_13 E F a0 a1  (fun S14 z15 => hk_let (hk_up S14 a0 2 (S14 a1 2)) (fun S16 => mX5_become_50 E F a0 a1  (fun S27 z28 => hk_let (hk_up S27 a0 4 (S27 a1 4)) (fun S29 => hk_let (hk_up S29 a0 5 (S29 a1 5)) (fun S30 => hk_let (hk_up S30 a0 6 (S30 a1 6)) (fun S31 => hk_let (hk_up S31 a0 7 (S31 a1 7)) (fun S32 => hk_let (hk_up S32 a0 8 (S32 a1 8)) (fun S33 => hk_let (hk_up S33 a0 9 (S33 a1 9)) (fun S34 => hk_let (hk_up S34 a0 10 (S34 a1 10)) (fun S35 => hk_let (hk_up S35 a0 11 (S35 a1 11)) (fun S36 => hk_let (hk_up S36 a0 12 (S36 a1 12)) (fun S37 => some (S37))))))))))) F S16 0)) F r3 0)) else none)) else none)
set_option maxHeartbeats 4000000 in
set_option maxRecDepth 100000 in
theorem kX5_become (l : Launch) (g : hk_G) (E : hk_E) (F n : Nat) (S : hk_S) (a0 : Nat) (a1 : Nat) (o : hk_S) (h0 : E.2.1 a0 = 4) (h1 : E.2.1 a1 = 4) (hsp : mX5_become E F S a0 a1 = some o) : Met l yX5_become (hk_ws yX5_become cX5_become 3 (Option.none : Option Jvm.ClassFile.FieldType)) ({ frames := 1, cells := 0, slots := 0, locals := 22 }) (hk_Pc g E S n [.ref (g.1 + a0), .ref (g.1 + a1)]) (hk_Q g E o n none) 0 0 (hk_A g) := by
  refine Met.ofW (cc := cX5_become) (maxL := 3) (ret := (Option.none : Option Jvm.ClassFile.FieldType)) (by decide) rfl ?_
  intro p e s m args below meth c s₁ B hml hv
  obtain ⟨rfl, G⟩ := hk_begin hv
  have F9 : CallFix p m c cX5_become 3 s [.ref (g.1 + a0), .ref (g.1 + a1)].toArray hk_W RX5 := ⟨B.exec, B.bytes, hml, findClass_of_methodNamed B.named, fun w h => atoms_spec (ws := hk_ws yX5_become cX5_become 3 (Option.none : Option Jvm.ClassFile.FieldType)) B.pre w (hk_in h)⟩
  have hx := B.exec
  have hb := B.bytes
  have hr := B.returns
  have hlocks := B.notSynchronized
  have hl := lv_entry ([.ref (g.1 + a0), .ref (g.1 + a1)]) (n := 3) (Nat.le_of_ble_eq_true rfl)
  rw [lg_entry_eq]
  generalize (lg_sl ([.ref (g.1 + a0), .ref (g.1 + a1)]) ++ List.replicate (3 - (lg_sl ([.ref (g.1 + a0), .ref (g.1 + a1)])).length) Slot.unset).toArray = ls at hl ⊢
  have hl : lv_has ls 3 [(0, .ref (g.1 + a0)), (1, .ref (g.1 + a1))] := hl
  unfold mX5_become at hsp
  have G : hk_GG g E S n s s.heap [] := G
  have L_13 : ∀   (k : hk_S → Int32 → Option (hk_S)) (_ : ∀ (S : hk_S) (z4 : Int32) (H : Heap) (locs : List Loc) (ls : Array Slot), k S z4 = some o → hk_GG g E S n s H locs → lv_has ls 3 [(0, .ref (g.1 + a0)), (1, .ref (g.1 + a1)), (2, .int z4)] → W p l e (headSpec (hk_ws yX5_become cX5_become 3 (Option.none : Option Jvm.ClassFile.FieldType)) ({ frames := 1, cells := 0, slots := 0, locals := 22 })).room s m [.ref (g.1 + a0), .ref (g.1 + a1)].toArray below meth c H locs 0 0 (MQ below (hk_Q g E o n none) [.ref (g.1 + a0), .ref (g.1 + a1)].toArray s 0 0 (hk_A g)) (F0 m 40 ls [])) (f : Nat) (S : hk_S) (z4 : Int32) (H : Heap) (locs : List Loc) (ls : Array Slot), mX5_become_13 E F a0 a1 k f S z4 = some o → hk_GG g E S n s H locs → lv_has ls 3 [(0, .ref (g.1 + a0)), (1, .ref (g.1 + a1)), (2, .int z4)] → W p l e (headSpec (hk_ws yX5_become cX5_become 3 (Option.none : Option Jvm.ClassFile.FieldType)) ({ frames := 1, cells := 0, slots := 0, locals := 22 })).room s m [.ref (g.1 + a0), .ref (g.1 + a1)].toArray below meth c H locs 0 0 (MQ below (hk_Q g E o n none) [.ref (g.1 + a0), .ref (g.1 + a1)].toArray s 0 0 (hk_A g)) (F0 m 13 ls []) := by
    intro   k hk f
    induction f with
    | zero =>
      intro S z4 H locs ls hsp
      exact nomatch hsp
    | succ f ih =>
      intro S z4 H locs ls hsp G hl
      rw [mX5_become_13] at hsp
      refine lv_iload_n hx hb dX5_become_13 rfl (lv_at hl 2 rfl) ?_
      refine lv_bipush (v := 8) hx hb dX5_become_14 (by decide) ?_
      refine lv_icmp_ge (tgt := 40) hx hb dX5_become_16 (by decide) (fun c5 => ?_) (fun c5 => ?_)
      · have hsp := hk_t c5 hsp
        exact hk S z4 _ _ _ hsp G (lv_sub hl [0, 1, 2] rfl)
      · have hsp := hk_f c5 hsp
        refine lv_aload_n hx hb dX5_become_19 rfl (lv_at hl 0 rfl) ?_
        obtain ⟨r6, er6, hsp⟩ := hk_b hsp
        obtain ⟨kr6, hsp⟩ := hk_k hsp
        refine hk_getR F9 G h0 hkc_3 (k := 1) (by decide) qw_155 rfl er6 dX5_become_20 ?_
        refine lv_iload_n hx hb dX5_become_23 rfl (lv_at hl 2 rfl) ?_
        obtain ⟨q7, hsp⟩ := hk_k hsp
        obtain ⟨r8, er8, hsp⟩ := hk_b hsp
        obtain ⟨kr8, hsp⟩ := hk_k hsp
        refine hk_aald (t := 2) (j := (z4).toNatClampNeg) F9 G kr6 (by decide) rfl rfl q7 rfl er8 dX5_become_24 ?_
        refine lv_aload_n hx hb dX5_become_25 rfl (lv_at hl 1 rfl) ?_
        obtain ⟨r9, er9, hsp⟩ := hk_b hsp
        obtain ⟨kr9, hsp⟩ := hk_k hsp
        refine hk_getR F9 G h1 hkc_3 (k := 1) (by decide) qw_155 rfl er9 dX5_become_26 ?_
        refine lv_iload_n hx hb dX5_become_29 rfl (lv_at hl 2 rfl) ?_
        obtain ⟨q10, hsp⟩ := hk_k hsp
        obtain ⟨r11, er11, hsp⟩ := hk_b hsp
        obtain ⟨kr11, hsp⟩ := hk_k hsp
        refine hk_aald (t := 2) (j := (z4).toNatClampNeg) F9 G kr9 (by decide) rfl rfl q10 rfl er11 dX5_become_30 ?_
        obtain ⟨r12, er12, hsp⟩ := hk_b hsp
        refine hk_callVv (As := [.ref (g.1 + r11)]) (rest := []) F9 G kr8 hkc_7 rfl (kX10_become l g E F n S r8 r11 r12 kr8 kr11 er12) qv_RX5_75 ⟨rfl, rfl, (Nat.le_of_ble_eq_true rfl), (Nat.le_of_ble_eq_true rfl)⟩ rfl hl.1 rfl (Nat.le_of_ble_eq_true rfl) ⟨Nat.zero_le _, Nat.zero_le _⟩ dX5_become_31 (fun H locs G => ?_)
        obtain ⟨y13, ey13, hsp⟩ := hk_l hsp
        refine lv_iinc (v := y13) (lv' := [(2, .int y13), (0, .ref (g.1 + a0)), (1, .ref (g.1 + a1))]) hx hb dX5_become_34 hl (k := 2) rfl (by rw [← ey13]; rfl) (by decide) rfl (fun ls hl => ?_)
        refine lv_goto (tgt := 13) hx hb dX5_become_37 (by decide) ?_
        exact ih r12 y13 _ _ _ hsp G (lv_sub hl [1, 2, 0] rfl)
  have L_50 : ∀   (k : hk_S → Int32 → Option (hk_S)) (_ : ∀ (S : hk_S) (z17 : Int32) (H : Heap) (locs : List Loc) (ls : Array Slot), k S z17 = some o → hk_GG g E S n s H locs → lv_has ls 3 [(0, .ref (g.1 + a0)), (1, .ref (g.1 + a1)), (2, .int z17)] → W p l e (headSpec (hk_ws yX5_become cX5_become 3 (Option.none : Option Jvm.ClassFile.FieldType)) ({ frames := 1, cells := 0, slots := 0, locals := 22 })).room s m [.ref (g.1 + a0), .ref (g.1 + a1)].toArray below meth c H locs 0 0 (MQ below (hk_Q g E o n none) [.ref (g.1 + a0), .ref (g.1 + a1)].toArray s 0 0 (hk_A g)) (F0 m 77 ls [])) (f : Nat) (S : hk_S) (z17 : Int32) (H : Heap) (locs : List Loc) (ls : Array Slot), mX5_become_50 E F a0 a1 k f S z17 = some o → hk_GG g E S n s H locs → lv_has ls 3 [(0, .ref (g.1 + a0)), (1, .ref (g.1 + a1)), (2, .int z17)] → W p l e (headSpec (hk_ws yX5_become cX5_become 3 (Option.none : Option Jvm.ClassFile.FieldType)) ({ frames := 1, cells := 0, slots := 0, locals := 22 })).room s m [.ref (g.1 + a0), .ref (g.1 + a1)].toArray below meth c H locs 0 0 (MQ below (hk_Q g E o n none) [.ref (g.1 + a0), .ref (g.1 + a1)].toArray s 0 0 (hk_A g)) (F0 m 50 ls []) := by
    intro   k hk f
    induction f with
    | zero =>
      intro S z17 H locs ls hsp
      exact nomatch hsp
    | succ f ih =>
      intro S z17 H locs ls hsp G hl
      rw [mX5_become_50] at hsp
      refine lv_iload_n hx hb dX5_become_50 rfl (lv_at hl 2 rfl) ?_
      refine lv_bipush (v := 6) hx hb dX5_become_51 (by decide) ?_
      refine lv_icmp_ge (tgt := 77) hx hb dX5_become_53 (by decide) (fun c18 => ?_) (fun c18 => ?_)
      · have hsp := hk_t c18 hsp
        exact hk S z17 _ _ _ hsp G (lv_sub hl [0, 1, 2] rfl)
      · have hsp := hk_f c18 hsp
        refine lv_aload_n hx hb dX5_become_56 rfl (lv_at hl 0 rfl) ?_
        obtain ⟨r19, er19, hsp⟩ := hk_b hsp
        obtain ⟨kr19, hsp⟩ := hk_k hsp
        refine hk_getR F9 G h0 hkc_3 (k := 3) (by decide) qw_158 rfl er19 dX5_become_57 ?_
        refine lv_iload_n hx hb dX5_become_60 rfl (lv_at hl 2 rfl) ?_
        obtain ⟨q20, hsp⟩ := hk_k hsp
        obtain ⟨r21, er21, hsp⟩ := hk_b hsp
        obtain ⟨kr21, hsp⟩ := hk_k hsp
        refine hk_aald (t := 1) (j := (z17).toNatClampNeg) F9 G kr19 (by decide) rfl rfl q20 rfl er21 dX5_become_61 ?_
        refine lv_aload_n hx hb dX5_become_62 rfl (lv_at hl 1 rfl) ?_
        obtain ⟨r22, er22, hsp⟩ := hk_b hsp
        obtain ⟨kr22, hsp⟩ := hk_k hsp
        refine hk_getR F9 G h1 hkc_3 (k := 3) (by decide) qw_158 rfl er22 dX5_become_63 ?_
        refine lv_iload_n hx hb dX5_become_66 rfl (lv_at hl 2 rfl) ?_
        obtain ⟨q23, hsp⟩ := hk_k hsp
        obtain ⟨r24, er24, hsp⟩ := hk_b hsp
        obtain ⟨kr24, hsp⟩ := hk_k hsp
        refine hk_aald (t := 1) (j := (z17).toNatClampNeg) F9 G kr22 (by decide) rfl rfl q23 rfl er24 dX5_become_67 ?_
        obtain ⟨r25, er25, hsp⟩ := hk_b hsp
        refine hk_callVv (As := [.ref (g.1 + r24)]) (rest := []) F9 G kr21 hkc_4 rfl (kX6_become l g E F n S r21 r24 r25 kr21 kr24 er25) qv_RX5_78 ⟨rfl, rfl, (Nat.le_of_ble_eq_true rfl), (Nat.le_of_ble_eq_true rfl)⟩ rfl hl.1 rfl (Nat.le_of_ble_eq_true rfl) ⟨Nat.zero_le _, Nat.zero_le _⟩ dX5_become_68 (fun H locs G => ?_)
        obtain ⟨y26, ey26, hsp⟩ := hk_l hsp
        refine lv_iinc (v := y26) (lv' := [(2, .int y26), (0, .ref (g.1 + a0)), (1, .ref (g.1 + a1))]) hx hb dX5_become_71 hl (k := 2) rfl (by rw [← ey26]; rfl) (by decide) rfl (fun ls hl => ?_)
        refine lv_goto (tgt := 50) hx hb dX5_become_74 (by decide) ?_
        exact ih r25 y26 _ _ _ hsp G (lv_sub hl [1, 2, 0] rfl)
  refine lv_aload_n hx hb dX5_become_0 rfl (lv_at hl 0 rfl) ?_
  obtain ⟨r1, er1, hsp⟩ := hk_b hsp
  obtain ⟨kr1, hsp⟩ := hk_k hsp
  refine hk_getR F9 G h0 hkc_3 (k := 0) (by decide) qw_153 rfl er1 dX5_become_1 ?_
  refine lv_aload_n hx hb dX5_become_4 rfl (lv_at hl 1 rfl) ?_
  obtain ⟨r2, er2, hsp⟩ := hk_b hsp
  obtain ⟨kr2, hsp⟩ := hk_k hsp
  refine hk_getR F9 G h1 hkc_3 (k := 0) (by decide) qw_153 rfl er2 dX5_become_5 ?_
  obtain ⟨r3, er3, hsp⟩ := hk_b hsp
  refine hk_callVv (As := [.ref (g.1 + r2)]) (rest := []) F9 G kr1 hkc_0 rfl (kX1_become l g E F n S r1 r2 r3 kr1 kr2 er3) qv_RX5_71 ⟨rfl, rfl, (Nat.le_of_ble_eq_true rfl), (Nat.le_of_ble_eq_true rfl)⟩ rfl hl.1 rfl (Nat.le_of_ble_eq_true rfl) ⟨Nat.zero_le _, Nat.zero_le _⟩ dX5_become_8 (fun H locs G => ?_)
  refine lv_iconst (v := 0) hx hb dX5_become_11 (by decide) ?_
  refine lv_istore_n (lv' := [(2, .int 0), (0, .ref (g.1 + a0)), (1, .ref (g.1 + a1))]) hx hb dX5_become_12 rfl hl (by decide) rfl (fun ls hl => ?_)
  refine L_13   _ ?_ F r3 0 _ _ _ hsp G (lv_sub hl [1, 2, 0] rfl)
  intro S14 z15 H locs ls hsp G hl
  refine lv_aload_n hx hb dX5_become_40 rfl (lv_at hl 0 rfl) ?_
  refine lv_aload_n hx hb dX5_become_41 rfl (lv_at hl 1 rfl) ?_
  refine hk_getI F9 G h1 hkc_3 (k := 2) (by decide) qw_156 rfl dX5_become_42 ?_
  obtain ⟨S16, eS16, hsp⟩ := hk_l hsp
  refine hk_putI F9 G h0 hkc_3 (k := 2) (by decide) qw_156 rfl rfl (tyX5_ok 2 (by decide)) rfl rfl dX5_become_45 (fun H locs G => ?_)
  rw [eS16] at G
  refine lv_iconst (v := 0) hx hb dX5_become_48 (by decide) ?_
  refine lv_istore_n (lv' := [(2, .int 0), (0, .ref (g.1 + a0)), (1, .ref (g.1 + a1))]) hx hb dX5_become_49 rfl hl (by decide) rfl (fun ls hl => ?_)
  refine L_50   _ ?_ F S16 0 _ _ _ hsp G (lv_sub hl [1, 2, 0] rfl)
  intro S27 z28 H locs ls hsp G hl
  refine lv_aload_n hx hb dX5_become_77 rfl (lv_at hl 0 rfl) ?_
  refine lv_aload_n hx hb dX5_become_78 rfl (lv_at hl 1 rfl) ?_
  refine hk_getI F9 G h1 hkc_3 (k := 4) (by decide) qw_159 rfl dX5_become_79 ?_
  obtain ⟨S29, eS29, hsp⟩ := hk_l hsp
  refine hk_putI F9 G h0 hkc_3 (k := 4) (by decide) qw_159 rfl rfl (tyX5_ok 4 (by decide)) rfl rfl dX5_become_82 (fun H locs G => ?_)
  rw [eS29] at G
  refine lv_aload_n hx hb dX5_become_85 rfl (lv_at hl 0 rfl) ?_
  refine lv_aload_n hx hb dX5_become_86 rfl (lv_at hl 1 rfl) ?_
  refine hk_getI F9 G h1 hkc_3 (k := 5) (by decide) qw_161 rfl dX5_become_87 ?_
  obtain ⟨S30, eS30, hsp⟩ := hk_l hsp
  refine hk_putI F9 G h0 hkc_3 (k := 5) (by decide) qw_161 rfl rfl (tyX5_ok 5 (by decide)) rfl rfl dX5_become_90 (fun H locs G => ?_)
  rw [eS30] at G
  refine lv_aload_n hx hb dX5_become_93 rfl (lv_at hl 0 rfl) ?_
  refine lv_aload_n hx hb dX5_become_94 rfl (lv_at hl 1 rfl) ?_
  refine hk_getI F9 G h1 hkc_3 (k := 6) (by decide) qw_162 rfl dX5_become_95 ?_
  obtain ⟨S31, eS31, hsp⟩ := hk_l hsp
  refine hk_putI F9 G h0 hkc_3 (k := 6) (by decide) qw_162 rfl rfl (tyX5_ok 6 (by decide)) rfl rfl dX5_become_98 (fun H locs G => ?_)
  rw [eS31] at G
  refine lv_aload_n hx hb dX5_become_101 rfl (lv_at hl 0 rfl) ?_
  refine lv_aload_n hx hb dX5_become_102 rfl (lv_at hl 1 rfl) ?_
  refine hk_getI F9 G h1 hkc_3 (k := 7) (by decide) qw_163 rfl dX5_become_103 ?_
  obtain ⟨S32, eS32, hsp⟩ := hk_l hsp
  refine hk_putI F9 G h0 hkc_3 (k := 7) (by decide) qw_163 rfl rfl (tyX5_ok 7 (by decide)) rfl rfl dX5_become_106 (fun H locs G => ?_)
  rw [eS32] at G
  refine lv_aload_n hx hb dX5_become_109 rfl (lv_at hl 0 rfl) ?_
  refine lv_aload_n hx hb dX5_become_110 rfl (lv_at hl 1 rfl) ?_
  refine hk_getI F9 G h1 hkc_3 (k := 8) (by decide) qw_164 rfl dX5_become_111 ?_
  obtain ⟨S33, eS33, hsp⟩ := hk_l hsp
  refine hk_putI F9 G h0 hkc_3 (k := 8) (by decide) qw_164 rfl rfl (tyX5_ok 8 (by decide)) rfl rfl dX5_become_114 (fun H locs G => ?_)
  rw [eS33] at G
  refine lv_aload_n hx hb dX5_become_117 rfl (lv_at hl 0 rfl) ?_
  refine lv_aload_n hx hb dX5_become_118 rfl (lv_at hl 1 rfl) ?_
  refine hk_getI F9 G h1 hkc_3 (k := 9) (by decide) qw_166 rfl dX5_become_119 ?_
  obtain ⟨S34, eS34, hsp⟩ := hk_l hsp
  refine hk_putI F9 G h0 hkc_3 (k := 9) (by decide) qw_166 rfl rfl (tyX5_ok 9 (by decide)) rfl rfl dX5_become_122 (fun H locs G => ?_)
  rw [eS34] at G
  refine lv_aload_n hx hb dX5_become_125 rfl (lv_at hl 0 rfl) ?_
  refine lv_aload_n hx hb dX5_become_126 rfl (lv_at hl 1 rfl) ?_
  refine hk_getI F9 G h1 hkc_3 (k := 10) (by decide) qw_168 rfl dX5_become_127 ?_
  obtain ⟨S35, eS35, hsp⟩ := hk_l hsp
  refine hk_putI F9 G h0 hkc_3 (k := 10) (by decide) qw_168 rfl rfl (tyX5_ok 10 (by decide)) rfl rfl dX5_become_130 (fun H locs G => ?_)
  rw [eS35] at G
  refine lv_aload_n hx hb dX5_become_133 rfl (lv_at hl 0 rfl) ?_
  refine lv_aload_n hx hb dX5_become_134 rfl (lv_at hl 1 rfl) ?_
  refine hk_getI F9 G h1 hkc_3 (k := 11) (by decide) qw_169 rfl dX5_become_135 ?_
  obtain ⟨S36, eS36, hsp⟩ := hk_l hsp
  refine hk_putI F9 G h0 hkc_3 (k := 11) (by decide) qw_169 rfl rfl (tyX5_ok 11 (by decide)) rfl rfl dX5_become_138 (fun H locs G => ?_)
  rw [eS36] at G
  refine lv_aload_n hx hb dX5_become_141 rfl (lv_at hl 0 rfl) ?_
  refine lv_aload_n hx hb dX5_become_142 rfl (lv_at hl 1 rfl) ?_
  refine hk_getI F9 G h1 hkc_3 (k := 12) (by decide) qw_171 rfl dX5_become_143 ?_
  obtain ⟨S37, eS37, hsp⟩ := hk_l hsp
  refine hk_putI F9 G h0 hkc_3 (k := 12) (by decide) qw_171 rfl rfl (tyX5_ok 12 (by decide)) rfl rfl dX5_become_146 (fun H locs G => ?_)
  rw [eS37] at G
  obtain rfl := hk_s hsp
  exact W.vret hx hb hr (fun t ht hW => hk_end G ht hW) G.2.1.2.2 dX5_become_149
def mX5_putLeaf (E : hk_E) (F : Nat) (S : hk_S) (a0 : Nat) (a1 : Nat) (x2 : Int32) (x3 : Int32) : Option (hk_S) :=
(mX10_takeLeaf E F S a1 x2 x3).bind (fun r1 => hk_let (hk_up r1 a0 7 ((r1 a0 7) + x2)) (fun S2 => some (S2)))
set_option maxHeartbeats 4000000 in
set_option maxRecDepth 100000 in
theorem kX5_putLeaf (l : Launch) (g : hk_G) (E : hk_E) (F n : Nat) (S : hk_S) (a0 : Nat) (a1 : Nat) (x2 : Int32) (x3 : Int32) (o : hk_S) (h0 : E.2.1 a0 = 4) (h1 : E.2.1 a1 = 8) (hsp : mX5_putLeaf E F S a0 a1 x2 x3 = some o) : Met l yX5_putLeaf (hk_ws yX5_putLeaf cX5_putLeaf 4 (Option.none : Option Jvm.ClassFile.FieldType)) ({ frames := 1, cells := 0, slots := 0, locals := 22 }) (hk_Pc g E S n [.ref (g.1 + a0), .ref (g.1 + a1), .int x2, .int x3]) (hk_Q g E o n none) 0 0 (hk_A g) := by
  refine Met.ofW (cc := cX5_putLeaf) (maxL := 4) (ret := (Option.none : Option Jvm.ClassFile.FieldType)) (by decide) rfl ?_
  intro p e s m args below meth c s₁ B hml hv
  obtain ⟨rfl, G⟩ := hk_begin hv
  have F9 : CallFix p m c cX5_putLeaf 4 s [.ref (g.1 + a0), .ref (g.1 + a1), .int x2, .int x3].toArray hk_W RX5 := ⟨B.exec, B.bytes, hml, findClass_of_methodNamed B.named, fun w h => atoms_spec (ws := hk_ws yX5_putLeaf cX5_putLeaf 4 (Option.none : Option Jvm.ClassFile.FieldType)) B.pre w (hk_in h)⟩
  have hx := B.exec
  have hb := B.bytes
  have hr := B.returns
  have hlocks := B.notSynchronized
  have hl := lv_entry ([.ref (g.1 + a0), .ref (g.1 + a1), .int x2, .int x3]) (n := 4) (Nat.le_of_ble_eq_true rfl)
  rw [lg_entry_eq]
  generalize (lg_sl ([.ref (g.1 + a0), .ref (g.1 + a1), .int x2, .int x3]) ++ List.replicate (4 - (lg_sl ([.ref (g.1 + a0), .ref (g.1 + a1), .int x2, .int x3])).length) Slot.unset).toArray = ls at hl ⊢
  have hl : lv_has ls 4 [(0, .ref (g.1 + a0)), (1, .ref (g.1 + a1)), (2, .int x2), (3, .int x3)] := hl
  unfold mX5_putLeaf at hsp
  have G : hk_GG g E S n s s.heap [] := G
  refine lv_aload_n hx hb dX5_putLeaf_0 rfl (lv_at hl 1 rfl) ?_
  refine lv_iload_n hx hb dX5_putLeaf_1 rfl (lv_at hl 2 rfl) ?_
  refine lv_iload_n hx hb dX5_putLeaf_2 rfl (lv_at hl 3 rfl) ?_
  obtain ⟨r1, er1, hsp⟩ := hk_b hsp
  refine hk_callVv (As := [.int x2, .int x3]) (rest := []) F9 G h1 hkc_7 rfl (kX10_takeLeaf l g E F n S a1 x2 x3 r1 h1 er1) qv_RX5_98 ⟨rfl, rfl, (Nat.le_of_ble_eq_true rfl), (Nat.le_of_ble_eq_true rfl)⟩ rfl hl.1 rfl (Nat.le_of_ble_eq_true rfl) ⟨Nat.zero_le _, Nat.zero_le _⟩ dX5_putLeaf_3 (fun H locs G => ?_)
  refine lv_aload_n hx hb dX5_putLeaf_6 rfl (lv_at hl 0 rfl) ?_
  refine lv_dup hx hb dX5_putLeaf_7 rfl ?_
  refine hk_getI F9 G h0 hkc_3 (k := 7) (by decide) qw_163 rfl dX5_putLeaf_8 ?_
  refine lv_iload_n hx hb dX5_putLeaf_11 rfl (lv_at hl 2 rfl) ?_
  refine lv_iadd hx hb dX5_putLeaf_12 ?_
  obtain ⟨S2, eS2, hsp⟩ := hk_l hsp
  refine hk_putI F9 G h0 hkc_3 (k := 7) (by decide) qw_163 rfl rfl (tyX5_ok 7 (by decide)) rfl rfl dX5_putLeaf_13 (fun H locs G => ?_)
  rw [eS2] at G
  obtain rfl := hk_s hsp
  exact W.vret hx hb hr (fun t ht hW => hk_end G ht hW) G.2.1.2.2 dX5_putLeaf_16
def mX5_discardLeaf (E : hk_E) (F : Nat) (S : hk_S) (a0 : Nat) (a1 : Nat) : Option (Int32 × hk_S) :=
hk_let (S a1 3) (fun y1 => hk_let (hk_up S a0 9 ((S a0 9) + y1)) (fun S2 => hk_let (hk_up S2 a0 10 ((S2 a0 10) + (S2 a1 5))) (fun S3 => (mX10_removeLeaf E F S3 a1).bind (fun r4 => some (y1, r4)))))
set_option maxHeartbeats 4000000 in
set_option maxRecDepth 100000 in
theorem kX5_discardLeaf (l : Launch) (g : hk_G) (E : hk_E) (F n : Nat) (S : hk_S) (a0 : Nat) (a1 : Nat) (o : Int32 × hk_S) (h0 : E.2.1 a0 = 4) (h1 : E.2.1 a1 = 8) (hsp : mX5_discardLeaf E F S a0 a1 = some o) : Met l yX5_discardLeaf (hk_ws yX5_discardLeaf cX5_discardLeaf 3 (Option.some Jvm.ClassFile.FieldType.int)) ({ frames := 1, cells := 0, slots := 0, locals := 20 }) (hk_Pc g E S n [.ref (g.1 + a0), .ref (g.1 + a1)]) (hk_Q g E o.2 n (some (.int o.1))) 0 0 (hk_A g) := by
  refine Met.ofW (cc := cX5_discardLeaf) (maxL := 3) (ret := (Option.some Jvm.ClassFile.FieldType.int)) (by decide) rfl ?_
  intro p e s m args below meth c s₁ B hml hv
  obtain ⟨rfl, G⟩ := hk_begin hv
  have F9 : CallFix p m c cX5_discardLeaf 3 s [.ref (g.1 + a0), .ref (g.1 + a1)].toArray hk_W RX5 := ⟨B.exec, B.bytes, hml, findClass_of_methodNamed B.named, fun w h => atoms_spec (ws := hk_ws yX5_discardLeaf cX5_discardLeaf 3 (Option.some Jvm.ClassFile.FieldType.int)) B.pre w (hk_in h)⟩
  have hx := B.exec
  have hb := B.bytes
  have hr := B.returns
  have hlocks := B.notSynchronized
  have hl := lv_entry ([.ref (g.1 + a0), .ref (g.1 + a1)]) (n := 3) (Nat.le_of_ble_eq_true rfl)
  rw [lg_entry_eq]
  generalize (lg_sl ([.ref (g.1 + a0), .ref (g.1 + a1)]) ++ List.replicate (3 - (lg_sl ([.ref (g.1 + a0), .ref (g.1 + a1)])).length) Slot.unset).toArray = ls at hl ⊢
  have hl : lv_has ls 3 [(0, .ref (g.1 + a0)), (1, .ref (g.1 + a1))] := hl
  unfold mX5_discardLeaf at hsp
  have G : hk_GG g E S n s s.heap [] := G
  refine lv_aload_n hx hb dX5_discardLeaf_0 rfl (lv_at hl 1 rfl) ?_
  refine hk_getI F9 G h1 hkc_7 (k := 3) (by decide) qw_79 rfl dX5_discardLeaf_1 ?_
  obtain ⟨y1, ey1, hsp⟩ := hk_l hsp
  refine hk_top ey1 ?_
  refine lv_istore_n (lv' := [(2, .int y1), (0, .ref (g.1 + a0)), (1, .ref (g.1 + a1))]) hx hb dX5_discardLeaf_4 rfl hl (by decide) rfl (fun ls hl => ?_)
  refine lv_aload_n hx hb dX5_discardLeaf_5 rfl (lv_at hl 1 rfl) ?_
  refine lv_dup hx hb dX5_discardLeaf_6 rfl ?_
  refine hk_getI F9 G h0 hkc_3 (k := 9) (by decide) qw_166 rfl dX5_discardLeaf_7 ?_
  refine lv_iload_n hx hb dX5_discardLeaf_10 rfl (lv_at hl 0 rfl) ?_
  refine lv_iadd hx hb dX5_discardLeaf_11 ?_
  obtain ⟨S2, eS2, hsp⟩ := hk_l hsp
  refine hk_putI F9 G h0 hkc_3 (k := 9) (by decide) qw_166 rfl rfl (tyX5_ok 9 (by decide)) rfl rfl dX5_discardLeaf_12 (fun H locs G => ?_)
  rw [eS2] at G
  refine lv_aload_n hx hb dX5_discardLeaf_15 rfl (lv_at hl 1 rfl) ?_
  refine lv_dup hx hb dX5_discardLeaf_16 rfl ?_
  refine hk_getI F9 G h0 hkc_3 (k := 10) (by decide) qw_168 rfl dX5_discardLeaf_17 ?_
  refine lv_aload_n hx hb dX5_discardLeaf_20 rfl (lv_at hl 2 rfl) ?_
  refine hk_getI F9 G h1 hkc_7 (k := 5) (by decide) qw_84 rfl dX5_discardLeaf_21 ?_
  refine lv_iadd hx hb dX5_discardLeaf_24 ?_
  obtain ⟨S3, eS3, hsp⟩ := hk_l hsp
  refine hk_putI F9 G h0 hkc_3 (k := 10) (by decide) qw_168 rfl rfl (tyX5_ok 10 (by decide)) rfl rfl dX5_discardLeaf_25 (fun H locs G => ?_)
  rw [eS3] at G
  refine lv_aload_n hx hb dX5_discardLeaf_28 rfl (lv_at hl 2 rfl) ?_
  obtain ⟨r4, er4, hsp⟩ := hk_b hsp
  refine hk_callVv (As := []) (rest := []) F9 G h1 hkc_7 rfl (kX10_removeLeaf l g E F n S3 a1 r4 h1 er4) qv_RX5_112 ⟨rfl, rfl, (Nat.le_of_ble_eq_true rfl), (Nat.le_of_ble_eq_true rfl)⟩ rfl hl.1 rfl (Nat.le_of_ble_eq_true rfl) ⟨Nat.zero_le _, Nat.zero_le _⟩ dX5_discardLeaf_29 (fun H locs G => ?_)
  refine lv_iload_n hx hb dX5_discardLeaf_32 rfl (lv_at hl 0 rfl) ?_
  obtain rfl := hk_s hsp
  exact W.iret (v := y1) hx hb hr (fun t ht hW => hk_end G ht hW) G.2.1.2.2 dX5_discardLeaf_33
def mX5_isReady (E : hk_E) (F : Nat) (S : hk_S) (a0 : Nat) (a1 : Nat) : Option (Int32 × hk_S) :=
(mX10_hasLeaf E F S a1).bind (fun r1 => if r1.1 = 0 then (some (0, r1.2)) else ((mX5_isTooDry E F r1.2 a0 a1).bind (fun r3 => if ¬ r3.1 = 0 then (some (0, r3.2)) else (if ((r3.2 a0 5) + (r3.2 a0 6)) < (r3.2 a1 6) then (some (0, r3.2)) else (if ((r3.2 a0 5) + (r3.2 a0 6)) < (r3.2 a1 7) then (some (0, r3.2)) else (some (1, r3.2)))))))
set_option maxHeartbeats 4000000 in
set_option maxRecDepth 100000 in
theorem kX5_isReady (l : Launch) (g : hk_G) (E : hk_E) (F n : Nat) (S : hk_S) (a0 : Nat) (a1 : Nat) (o : Int32 × hk_S) (h0 : E.2.1 a0 = 4) (h1 : E.2.1 a1 = 8) (hsp : mX5_isReady E F S a0 a1 = some o) : Met l yX5_isReady (hk_ws yX5_isReady cX5_isReady 2 (Option.some Jvm.ClassFile.FieldType.boolean)) ({ frames := 1, cells := 0, slots := 0, locals := 21 }) (hk_Pc g E S n [.ref (g.1 + a0), .ref (g.1 + a1)]) (hk_Q g E o.2 n (some (.int o.1))) 0 0 (hk_A g) := by
  refine Met.ofW (cc := cX5_isReady) (maxL := 2) (ret := (Option.some Jvm.ClassFile.FieldType.boolean)) (by decide) rfl ?_
  intro p e s m args below meth c s₁ B hml hv
  obtain ⟨rfl, G⟩ := hk_begin hv
  have F9 : CallFix p m c cX5_isReady 2 s [.ref (g.1 + a0), .ref (g.1 + a1)].toArray hk_W RX5 := ⟨B.exec, B.bytes, hml, findClass_of_methodNamed B.named, fun w h => atoms_spec (ws := hk_ws yX5_isReady cX5_isReady 2 (Option.some Jvm.ClassFile.FieldType.boolean)) B.pre w (hk_in h)⟩
  have hx := B.exec
  have hb := B.bytes
  have hr := B.returns
  have hlocks := B.notSynchronized
  have hl := lv_entry ([.ref (g.1 + a0), .ref (g.1 + a1)]) (n := 2) (Nat.le_of_ble_eq_true rfl)
  rw [lg_entry_eq]
  generalize (lg_sl ([.ref (g.1 + a0), .ref (g.1 + a1)]) ++ List.replicate (2 - (lg_sl ([.ref (g.1 + a0), .ref (g.1 + a1)])).length) Slot.unset).toArray = ls at hl ⊢
  have hl : lv_has ls 2 [(0, .ref (g.1 + a0)), (1, .ref (g.1 + a1))] := hl
  unfold mX5_isReady at hsp
  have G : hk_GG g E S n s s.heap [] := G
  refine lv_aload_n hx hb dX5_isReady_0 rfl (lv_at hl 1 rfl) ?_
  obtain ⟨r1, er1, hsp⟩ := hk_b hsp
  refine hk_callVi (As := []) (rest := []) F9 G h1 hkc_7 rfl (kX10_hasLeaf l g E F n S a1 r1 h1 er1) qv_RX5_134 ⟨rfl, rfl, (Nat.le_of_ble_eq_true rfl), (Nat.le_of_ble_eq_true rfl)⟩ rfl hl.1 rfl (Nat.le_of_ble_eq_true rfl) ⟨Nat.zero_le _, Nat.zero_le _⟩ dX5_isReady_1 (fun H locs G => ?_)
  refine lv_if_eq (tgt := 51) hx hb dX5_isReady_4 (by decide) (fun c2 => ?_) (fun c2 => ?_)
  · have hsp := hk_t c2 hsp
    refine lv_iconst (v := 0) hx hb dX5_isReady_51 (by decide) ?_
    obtain rfl := hk_s hsp
    exact W.zret (v := 0) hx hb hr (hk_z (by decide)).1 (fun t ht hW => hk_end G ht hW) G.2.1.2.2 dX5_isReady_52
  · have hsp := hk_f c2 hsp
    refine lv_aload_n hx hb dX5_isReady_7 rfl (lv_at hl 0 rfl) ?_
    refine lv_aload_n hx hb dX5_isReady_8 rfl (lv_at hl 1 rfl) ?_
    obtain ⟨r3, er3, hsp⟩ := hk_b hsp
    refine hk_callVi (As := [.ref (g.1 + a1)]) (rest := []) F9 G h0 hkc_3 rfl (kX5_isTooDry l g E F n r1.2 a0 a1 r3 h0 h1 er3) qv_RX5_138 ⟨rfl, rfl, (Nat.le_of_ble_eq_true rfl), (Nat.le_of_ble_eq_true rfl)⟩ rfl hl.1 rfl (Nat.le_of_ble_eq_true rfl) ⟨Nat.zero_le _, Nat.zero_le _⟩ dX5_isReady_9 (fun H locs G => ?_)
    refine lv_if_ne (tgt := 51) hx hb dX5_isReady_12 (by decide) (fun c4 => ?_) (fun c4 => ?_)
    · have hsp := hk_t c4 hsp
      refine lv_iconst (v := 0) hx hb dX5_isReady_51 (by decide) ?_
      obtain rfl := hk_s hsp
      exact W.zret (v := 0) hx hb hr (hk_z (by decide)).1 (fun t ht hW => hk_end G ht hW) G.2.1.2.2 dX5_isReady_52
    · have hsp := hk_g c4 hsp
      refine lv_aload_n hx hb dX5_isReady_15 rfl (lv_at hl 1 rfl) ?_
      refine hk_getI F9 G h1 hkc_7 (k := 6) (by decide) qw_87 rfl dX5_isReady_16 ?_
      refine lv_aload_n hx hb dX5_isReady_19 rfl (lv_at hl 0 rfl) ?_
      refine hk_getI F9 G h0 hkc_3 (k := 5) (by decide) qw_161 rfl dX5_isReady_20 ?_
      refine lv_aload_n hx hb dX5_isReady_23 rfl (lv_at hl 0 rfl) ?_
      refine hk_getI F9 G h0 hkc_3 (k := 6) (by decide) qw_162 rfl dX5_isReady_24 ?_
      refine lv_iadd hx hb dX5_isReady_27 ?_
      refine lv_icmp_gt (tgt := 51) hx hb dX5_isReady_28 (by decide) (fun c5 => ?_) (fun c5 => ?_)
      · have hsp := hk_t c5 hsp
        refine lv_iconst (v := 0) hx hb dX5_isReady_51 (by decide) ?_
        obtain rfl := hk_s hsp
        exact W.zret (v := 0) hx hb hr (hk_z (by decide)).1 (fun t ht hW => hk_end G ht hW) G.2.1.2.2 dX5_isReady_52
      · have hsp := hk_f c5 hsp
        refine lv_aload_n hx hb dX5_isReady_31 rfl (lv_at hl 1 rfl) ?_
        refine hk_getI F9 G h1 hkc_7 (k := 7) (by decide) qw_90 rfl dX5_isReady_32 ?_
        refine lv_aload_n hx hb dX5_isReady_35 rfl (lv_at hl 0 rfl) ?_
        refine hk_getI F9 G h0 hkc_3 (k := 5) (by decide) qw_161 rfl dX5_isReady_36 ?_
        refine lv_aload_n hx hb dX5_isReady_39 rfl (lv_at hl 0 rfl) ?_
        refine hk_getI F9 G h0 hkc_3 (k := 6) (by decide) qw_162 rfl dX5_isReady_40 ?_
        refine lv_iadd hx hb dX5_isReady_43 ?_
        refine lv_icmp_gt (tgt := 51) hx hb dX5_isReady_44 (by decide) (fun c6 => ?_) (fun c6 => ?_)
        · have hsp := hk_t c6 hsp
          refine lv_iconst (v := 0) hx hb dX5_isReady_51 (by decide) ?_
          obtain rfl := hk_s hsp
          exact W.zret (v := 0) hx hb hr (hk_z (by decide)).1 (fun t ht hW => hk_end G ht hW) G.2.1.2.2 dX5_isReady_52
        · have hsp := hk_f c6 hsp
          refine lv_iconst (v := 1) hx hb dX5_isReady_47 (by decide) ?_
          refine lv_goto (tgt := 52) hx hb dX5_isReady_48 (by decide) ?_
          obtain rfl := hk_s hsp
          exact W.zret (v := 1) hx hb hr (hk_z (by decide)).1 (fun t ht hW => hk_end G ht hW) G.2.1.2.2 dX5_isReady_52
def mX5_refusalOf (E : hk_E) (F : Nat) (S : hk_S) (a0 : Nat) (a1 : Nat) : Option (Int32 × hk_S) :=
(mX10_hasLeaf E F S a1).bind (fun r1 => if ¬ r1.1 = 0 then ((mX5_isTooDry E F r1.2 a0 a1).bind (fun r3 => if r3.1 = 0 then ((mX5_isReady E F r3.2 a0 a1).bind (fun r5 => if r5.1 = 0 then (some (3, r5.2)) else (some (0, r5.2)))) else (some (2, r3.2)))) else (some (1, r1.2)))
set_option maxHeartbeats 4000000 in
set_option maxRecDepth 100000 in
theorem kX5_refusalOf (l : Launch) (g : hk_G) (E : hk_E) (F n : Nat) (S : hk_S) (a0 : Nat) (a1 : Nat) (o : Int32 × hk_S) (h0 : E.2.1 a0 = 4) (h1 : E.2.1 a1 = 8) (hsp : mX5_refusalOf E F S a0 a1 = some o) : Met l yX5_refusalOf (hk_ws yX5_refusalOf cX5_refusalOf 2 (Option.some Jvm.ClassFile.FieldType.int)) ({ frames := 2, cells := 0, slots := 0, locals := 42 }) (hk_Pc g E S n [.ref (g.1 + a0), .ref (g.1 + a1)]) (hk_Q g E o.2 n (some (.int o.1))) 0 0 (hk_A g) := by
  refine Met.ofW (cc := cX5_refusalOf) (maxL := 2) (ret := (Option.some Jvm.ClassFile.FieldType.int)) (by decide) rfl ?_
  intro p e s m args below meth c s₁ B hml hv
  obtain ⟨rfl, G⟩ := hk_begin hv
  have F9 : CallFix p m c cX5_refusalOf 2 s [.ref (g.1 + a0), .ref (g.1 + a1)].toArray hk_W RX5 := ⟨B.exec, B.bytes, hml, findClass_of_methodNamed B.named, fun w h => atoms_spec (ws := hk_ws yX5_refusalOf cX5_refusalOf 2 (Option.some Jvm.ClassFile.FieldType.int)) B.pre w (hk_in h)⟩
  have hx := B.exec
  have hb := B.bytes
  have hr := B.returns
  have hlocks := B.notSynchronized
  have hl := lv_entry ([.ref (g.1 + a0), .ref (g.1 + a1)]) (n := 2) (Nat.le_of_ble_eq_true rfl)
  rw [lg_entry_eq]
  generalize (lg_sl ([.ref (g.1 + a0), .ref (g.1 + a1)]) ++ List.replicate (2 - (lg_sl ([.ref (g.1 + a0), .ref (g.1 + a1)])).length) Slot.unset).toArray = ls at hl ⊢
  have hl : lv_has ls 2 [(0, .ref (g.1 + a0)), (1, .ref (g.1 + a1))] := hl
  unfold mX5_refusalOf at hsp
  have G : hk_GG g E S n s s.heap [] := G
  refine lv_aload_n hx hb dX5_refusalOf_0 rfl (lv_at hl 1 rfl) ?_
  obtain ⟨r1, er1, hsp⟩ := hk_b hsp
  refine hk_callVi (As := []) (rest := []) F9 G h1 hkc_7 rfl (kX10_hasLeaf l g E F n S a1 r1 h1 er1) qv_RX5_134 ⟨rfl, rfl, (Nat.le_of_ble_eq_true rfl), (Nat.le_of_ble_eq_true rfl)⟩ rfl hl.1 rfl (Nat.le_of_ble_eq_true rfl) ⟨Nat.zero_le _, Nat.zero_le _⟩ dX5_refusalOf_1 (fun H locs G => ?_)
  refine lv_if_ne (tgt := 9) hx hb dX5_refusalOf_4 (by decide) (fun c2 => ?_) (fun c2 => ?_)
  · have hsp := hk_t c2 hsp
    refine lv_aload_n hx hb dX5_refusalOf_9 rfl (lv_at hl 0 rfl) ?_
    refine lv_aload_n hx hb dX5_refusalOf_10 rfl (lv_at hl 1 rfl) ?_
    obtain ⟨r3, er3, hsp⟩ := hk_b hsp
    refine hk_callVi (As := [.ref (g.1 + a1)]) (rest := []) F9 G h0 hkc_3 rfl (kX5_isTooDry l g E F n r1.2 a0 a1 r3 h0 h1 er3) qv_RX5_138 ⟨rfl, rfl, (Nat.le_of_ble_eq_true rfl), (Nat.le_of_ble_eq_true rfl)⟩ rfl hl.1 rfl (Nat.le_of_ble_eq_true rfl) ⟨Nat.zero_le _, Nat.zero_le _⟩ dX5_refusalOf_11 (fun H locs G => ?_)
    refine lv_if_eq (tgt := 19) hx hb dX5_refusalOf_14 (by decide) (fun c4 => ?_) (fun c4 => ?_)
    · have hsp := hk_t c4 hsp
      refine lv_aload_n hx hb dX5_refusalOf_19 rfl (lv_at hl 0 rfl) ?_
      refine lv_aload_n hx hb dX5_refusalOf_20 rfl (lv_at hl 1 rfl) ?_
      obtain ⟨r5, er5, hsp⟩ := hk_b hsp
      refine hk_callVi (As := [.ref (g.1 + a1)]) (rest := []) F9 G h0 hkc_3 rfl (kX5_isReady l g E F n r3.2 a0 a1 r5 h0 h1 er5) qv_RX5_142 ⟨rfl, rfl, (Nat.le_of_ble_eq_true rfl), (Nat.le_of_ble_eq_true rfl)⟩ rfl hl.1 rfl (Nat.le_of_ble_eq_true rfl) ⟨Nat.zero_le _, Nat.zero_le _⟩ dX5_refusalOf_21 (fun H locs G => ?_)
      refine lv_if_eq (tgt := 31) hx hb dX5_refusalOf_24 (by decide) (fun c6 => ?_) (fun c6 => ?_)
      · have hsp := hk_t c6 hsp
        refine lv_iconst (v := 3) hx hb dX5_refusalOf_31 (by decide) ?_
        obtain rfl := hk_s hsp
        exact W.iret (v := 3) hx hb hr (fun t ht hW => hk_end G ht hW) G.2.1.2.2 dX5_refusalOf_32
      · have hsp := hk_f c6 hsp
        refine lv_iconst (v := 0) hx hb dX5_refusalOf_27 (by decide) ?_
        refine lv_goto (tgt := 32) hx hb dX5_refusalOf_28 (by decide) ?_
        obtain rfl := hk_s hsp
        exact W.iret (v := 0) hx hb hr (fun t ht hW => hk_end G ht hW) G.2.1.2.2 dX5_refusalOf_32
    · have hsp := hk_f c4 hsp
      refine lv_iconst (v := 2) hx hb dX5_refusalOf_17 (by decide) ?_
      obtain rfl := hk_s hsp
      exact W.iret (v := 2) hx hb hr (fun t ht hW => hk_end G ht hW) G.2.1.2.2 dX5_refusalOf_18
  · have hsp := hk_g c2 hsp
    refine lv_iconst (v := 1) hx hb dX5_refusalOf_7 (by decide) ?_
    obtain rfl := hk_s hsp
    exact W.iret (v := 1) hx hb hr (fun t ht hW => hk_end G ht hW) G.2.1.2.2 dX5_refusalOf_8
def mX5_setOfReady_4 (E : hk_E) (F : Nat) (a0 : Nat)  (k : hk_S → Int32 → Int32 → Option (Int32 × hk_S)) : Nat → hk_S → Int32 → Int32 → Option (Int32 × hk_S)
  | 0 => fun _ _ _ => none
  | f + 1 => fun S z1 z2 =>
    if 8 ≤ z2 then (k S z1 z2) else ((E.2.2.2 a0 1).bind (fun r4 => if E.2.1 r4 = 16 then (if hk_ok z2 (E.2.2.1 r4) then ((E.2.2.2 r4 ((z2).toNatClampNeg)).bind (fun r6 => if E.2.1 r6 = 8 then ((mX5_isReady E F S a0 r6).bind (fun r7 => if r7.1 = 0 then (hk_let (z2 + 1) (fun y9 => mX5_setOfReady_4 E F a0 k f r7.2 z1 y9)) else (hk_let (z1 ||| (1 <<< (z2 &&& 31))) (fun y10 => hk_let (z2 + 1) (fun y11 => mX5_setOfReady_4 E F a0 k f r7.2 y10 y11))))) else none)) else none) else none))
def mX5_setOfReady (E : hk_E) (F : Nat) (S : hk_S) (a0 : Nat) : Option (Int32 × hk_S) :=
mX5_setOfReady_4 E F a0  (fun S12 z13 z14 => some (z13, S12)) F S 0 0
set_option maxHeartbeats 4000000 in
set_option maxRecDepth 100000 in
theorem kX5_setOfReady (l : Launch) (g : hk_G) (E : hk_E) (F n : Nat) (S : hk_S) (a0 : Nat) (o : Int32 × hk_S) (h0 : E.2.1 a0 = 4) (hsp : mX5_setOfReady E F S a0 = some o) : Met l yX5_setOfReady (hk_ws yX5_setOfReady cX5_setOfReady 3 (Option.some Jvm.ClassFile.FieldType.int)) ({ frames := 2, cells := 0, slots := 0, locals := 42 }) (hk_Pc g E S n [.ref (g.1 + a0)]) (hk_Q g E o.2 n (some (.int o.1))) 0 0 (hk_A g) := by
  refine Met.ofW (cc := cX5_setOfReady) (maxL := 3) (ret := (Option.some Jvm.ClassFile.FieldType.int)) (by decide) rfl ?_
  intro p e s m args below meth c s₁ B hml hv
  obtain ⟨rfl, G⟩ := hk_begin hv
  have F9 : CallFix p m c cX5_setOfReady 3 s [.ref (g.1 + a0)].toArray hk_W RX5 := ⟨B.exec, B.bytes, hml, findClass_of_methodNamed B.named, fun w h => atoms_spec (ws := hk_ws yX5_setOfReady cX5_setOfReady 3 (Option.some Jvm.ClassFile.FieldType.int)) B.pre w (hk_in h)⟩
  have hx := B.exec
  have hb := B.bytes
  have hr := B.returns
  have hlocks := B.notSynchronized
  have hl := lv_entry ([.ref (g.1 + a0)]) (n := 3) (Nat.le_of_ble_eq_true rfl)
  rw [lg_entry_eq]
  generalize (lg_sl ([.ref (g.1 + a0)]) ++ List.replicate (3 - (lg_sl ([.ref (g.1 + a0)])).length) Slot.unset).toArray = ls at hl ⊢
  have hl : lv_has ls 3 [(0, .ref (g.1 + a0))] := hl
  unfold mX5_setOfReady at hsp
  have G : hk_GG g E S n s s.heap [] := G
  have L_4 : ∀   (k : hk_S → Int32 → Int32 → Option (Int32 × hk_S)) (_ : ∀ (S : hk_S) (z1 : Int32) (z2 : Int32) (H : Heap) (locs : List Loc) (ls : Array Slot), k S z1 z2 = some o → hk_GG g E S n s H locs → lv_has ls 3 [(0, .ref (g.1 + a0)), (1, .int z1), (2, .int z2)] → W p l e (headSpec (hk_ws yX5_setOfReady cX5_setOfReady 3 (Option.some Jvm.ClassFile.FieldType.int)) ({ frames := 2, cells := 0, slots := 0, locals := 42 })).room s m [.ref (g.1 + a0)].toArray below meth c H locs 0 0 (MQ below (hk_Q g E o.2 n (some (.int o.1))) [.ref (g.1 + a0)].toArray s 0 0 (hk_A g)) (F0 m 35 ls [])) (f : Nat) (S : hk_S) (z1 : Int32) (z2 : Int32) (H : Heap) (locs : List Loc) (ls : Array Slot), mX5_setOfReady_4 E F a0 k f S z1 z2 = some o → hk_GG g E S n s H locs → lv_has ls 3 [(0, .ref (g.1 + a0)), (1, .int z1), (2, .int z2)] → W p l e (headSpec (hk_ws yX5_setOfReady cX5_setOfReady 3 (Option.some Jvm.ClassFile.FieldType.int)) ({ frames := 2, cells := 0, slots := 0, locals := 42 })).room s m [.ref (g.1 + a0)].toArray below meth c H locs 0 0 (MQ below (hk_Q g E o.2 n (some (.int o.1))) [.ref (g.1 + a0)].toArray s 0 0 (hk_A g)) (F0 m 4 ls []) := by
    intro   k hk f
    induction f with
    | zero =>
      intro S z1 z2 H locs ls hsp
      exact nomatch hsp
    | succ f ih =>
      intro S z1 z2 H locs ls hsp G hl
      rw [mX5_setOfReady_4] at hsp
      refine lv_iload_n hx hb dX5_setOfReady_4 rfl (lv_at hl 2 rfl) ?_
      refine lv_bipush (v := 8) hx hb dX5_setOfReady_5 (by decide) ?_
      refine lv_icmp_ge (tgt := 35) hx hb dX5_setOfReady_7 (by decide) (fun c3 => ?_) (fun c3 => ?_)
      · have hsp := hk_t c3 hsp
        exact hk S z1 z2 _ _ _ hsp G (lv_sub hl [0, 1, 2] rfl)
      · have hsp := hk_f c3 hsp
        refine lv_aload_n hx hb dX5_setOfReady_10 rfl (lv_at hl 0 rfl) ?_
        refine lv_aload_n hx hb dX5_setOfReady_11 rfl (lv_at hl 0 rfl) ?_
        obtain ⟨r4, er4, hsp⟩ := hk_b hsp
        obtain ⟨kr4, hsp⟩ := hk_k hsp
        refine hk_getR F9 G h0 hkc_3 (k := 1) (by decide) qw_155 rfl er4 dX5_setOfReady_12 ?_
        refine lv_iload_n hx hb dX5_setOfReady_15 rfl (lv_at hl 2 rfl) ?_
        obtain ⟨q5, hsp⟩ := hk_k hsp
        obtain ⟨r6, er6, hsp⟩ := hk_b hsp
        obtain ⟨kr6, hsp⟩ := hk_k hsp
        refine hk_aald (t := 2) (j := (z2).toNatClampNeg) F9 G kr4 (by decide) rfl rfl q5 rfl er6 dX5_setOfReady_16 ?_
        obtain ⟨r7, er7, hsp⟩ := hk_b hsp
        refine hk_callVi (As := [.ref (g.1 + r6)]) (rest := []) F9 G h0 hkc_3 rfl (kX5_isReady l g E F n S a0 r6 r7 h0 kr6 er7) qv_RX5_142 ⟨rfl, rfl, (Nat.le_of_ble_eq_true rfl), (Nat.le_of_ble_eq_true rfl)⟩ rfl hl.1 rfl (Nat.le_of_ble_eq_true rfl) ⟨Nat.zero_le _, Nat.zero_le _⟩ dX5_setOfReady_17 (fun H locs G => ?_)
        refine lv_if_eq (tgt := 29) hx hb dX5_setOfReady_20 (by decide) (fun c8 => ?_) (fun c8 => ?_)
        · have hsp := hk_t c8 hsp
          obtain ⟨y9, ey9, hsp⟩ := hk_l hsp
          refine lv_iinc (v := y9) (lv' := [(2, .int y9), (0, .ref (g.1 + a0)), (1, .int z1)]) hx hb dX5_setOfReady_29 hl (k := 2) rfl (by rw [← ey9]; rfl) (by decide) rfl (fun ls hl => ?_)
          refine lv_goto (tgt := 4) hx hb dX5_setOfReady_32 (by decide) ?_
          exact ih r7.2 z1 y9 _ _ _ hsp G (lv_sub hl [1, 2, 0] rfl)
        · have hsp := hk_f c8 hsp
          refine lv_iload_n hx hb dX5_setOfReady_23 rfl (lv_at hl 1 rfl) ?_
          refine lv_iconst (v := 1) hx hb dX5_setOfReady_24 (by decide) ?_
          refine lv_iload_n hx hb dX5_setOfReady_25 rfl (lv_at hl 2 rfl) ?_
          refine lv_ishl hx hb dX5_setOfReady_26 ?_
          refine lv_ior hx hb dX5_setOfReady_27 ?_
          obtain ⟨y10, ey10, hsp⟩ := hk_l hsp
          refine hk_top ey10 ?_
          refine lv_istore_n (lv' := [(1, .int y10), (0, .ref (g.1 + a0)), (2, .int z2)]) hx hb dX5_setOfReady_28 rfl hl (by decide) rfl (fun ls hl => ?_)
          obtain ⟨y11, ey11, hsp⟩ := hk_l hsp
          refine lv_iinc (v := y11) (lv' := [(2, .int y11), (1, .int y10), (0, .ref (g.1 + a0))]) hx hb dX5_setOfReady_29 hl (k := 2) rfl (by rw [← ey11]; rfl) (by decide) rfl (fun ls hl => ?_)
          refine lv_goto (tgt := 4) hx hb dX5_setOfReady_32 (by decide) ?_
          exact ih r7.2 y10 y11 _ _ _ hsp G (lv_sub hl [2, 1, 0] rfl)
  refine lv_iconst (v := 0) hx hb dX5_setOfReady_0 (by decide) ?_
  refine lv_istore_n (lv' := [(1, .int 0), (0, .ref (g.1 + a0))]) hx hb dX5_setOfReady_1 rfl hl (by decide) rfl (fun ls hl => ?_)
  refine lv_iconst (v := 0) hx hb dX5_setOfReady_2 (by decide) ?_
  refine lv_istore_n (lv' := [(2, .int 0), (1, .int 0), (0, .ref (g.1 + a0))]) hx hb dX5_setOfReady_3 rfl hl (by decide) rfl (fun ls hl => ?_)
  refine L_4   _ ?_ F S 0 0 _ _ _ hsp G (lv_sub hl [2, 1, 0] rfl)
  intro S12 z13 z14 H locs ls hsp G hl
  refine lv_iload_n hx hb dX5_setOfReady_35 rfl (lv_at hl 1 rfl) ?_
  obtain rfl := hk_s hsp
  exact W.iret (v := z13) hx hb hr (fun t ht hW => hk_end G ht hW) G.2.1.2.2 dX5_setOfReady_36
def mX5_readingOf (E : hk_E) (F : Nat) (S : hk_S) (a0 : Nat) (a1 : Nat) : Option (Int32 × hk_S) :=
(mX5_troughAt E F S a0 (S a1 0)).bind (fun r1 => if E.2.1 r1.1 = 8 then ((mX10_hasLeaf E F r1.2 r1.1).bind (fun r3 => if r3.1 = 0 then (some ((-1), r3.2)) else ((mX10_moistureOf E F r3.2 r1.1 (r3.2 a1 1)).bind (fun r5 => some ((r5.1 + (r5.2 a1 2)), r5.2))))) else none)
set_option maxHeartbeats 4000000 in
set_option maxRecDepth 100000 in
theorem kX5_readingOf (l : Launch) (g : hk_G) (E : hk_E) (F n : Nat) (S : hk_S) (a0 : Nat) (a1 : Nat) (o : Int32 × hk_S) (h0 : E.2.1 a0 = 4) (h1 : E.2.1 a1 = 5) (hsp : mX5_readingOf E F S a0 a1 = some o) : Met l yX5_readingOf (hk_ws yX5_readingOf cX5_readingOf 3 (Option.some Jvm.ClassFile.FieldType.int)) ({ frames := 1, cells := 0, slots := 0, locals := 21 }) (hk_Pc g E S n [.ref (g.1 + a0), .ref (g.1 + a1)]) (hk_Q g E o.2 n (some (.int o.1))) 0 0 (hk_A g) := by
  refine Met.ofW (cc := cX5_readingOf) (maxL := 3) (ret := (Option.some Jvm.ClassFile.FieldType.int)) (by decide) rfl ?_
  intro p e s m args below meth c s₁ B hml hv
  obtain ⟨rfl, G⟩ := hk_begin hv
  have F9 : CallFix p m c cX5_readingOf 3 s [.ref (g.1 + a0), .ref (g.1 + a1)].toArray hk_W RX5 := ⟨B.exec, B.bytes, hml, findClass_of_methodNamed B.named, fun w h => atoms_spec (ws := hk_ws yX5_readingOf cX5_readingOf 3 (Option.some Jvm.ClassFile.FieldType.int)) B.pre w (hk_in h)⟩
  have hx := B.exec
  have hb := B.bytes
  have hr := B.returns
  have hlocks := B.notSynchronized
  have hl := lv_entry ([.ref (g.1 + a0), .ref (g.1 + a1)]) (n := 3) (Nat.le_of_ble_eq_true rfl)
  rw [lg_entry_eq]
  generalize (lg_sl ([.ref (g.1 + a0), .ref (g.1 + a1)]) ++ List.replicate (3 - (lg_sl ([.ref (g.1 + a0), .ref (g.1 + a1)])).length) Slot.unset).toArray = ls at hl ⊢
  have hl : lv_has ls 3 [(0, .ref (g.1 + a0)), (1, .ref (g.1 + a1))] := hl
  unfold mX5_readingOf at hsp
  have G : hk_GG g E S n s s.heap [] := G
  refine lv_aload_n hx hb dX5_readingOf_0 rfl (lv_at hl 0 rfl) ?_
  refine lv_aload_n hx hb dX5_readingOf_1 rfl (lv_at hl 1 rfl) ?_
  refine hk_getI F9 G h1 hkc_4 (k := 0) (by decide) qw_122 rfl dX5_readingOf_2 ?_
  obtain ⟨r1, er1, hsp⟩ := hk_b hsp
  refine hk_callVr (As := [.int (S a1 0)]) (rest := []) F9 G h0 hkc_3 rfl (kX5_troughAt l g E F n S a0 (S a1 0) r1 h0 er1) qv_RX5_81 ⟨rfl, rfl, (Nat.le_of_ble_eq_true rfl), (Nat.le_of_ble_eq_true rfl)⟩ rfl hl.1 rfl (Nat.le_of_ble_eq_true rfl) ⟨Nat.zero_le _, Nat.zero_le _⟩ dX5_readingOf_5 (fun H locs G => ?_)
  obtain ⟨q2, hsp⟩ := hk_k hsp
  refine lv_astore_n (lv' := [(2, .ref (g.1 + r1.1)), (0, .ref (g.1 + a0)), (1, .ref (g.1 + a1))]) hx hb dX5_readingOf_8 rfl hl (by decide) rfl (fun ls hl => ?_)
  refine lv_aload_n hx hb dX5_readingOf_9 rfl (lv_at hl 0 rfl) ?_
  obtain ⟨r3, er3, hsp⟩ := hk_b hsp
  refine hk_callVi (As := []) (rest := []) F9 G q2 hkc_7 rfl (kX10_hasLeaf l g E F n r1.2 r1.1 r3 q2 er3) qv_RX5_134 ⟨rfl, rfl, (Nat.le_of_ble_eq_true rfl), (Nat.le_of_ble_eq_true rfl)⟩ rfl hl.1 rfl (Nat.le_of_ble_eq_true rfl) ⟨Nat.zero_le _, Nat.zero_le _⟩ dX5_readingOf_10 (fun H locs G => ?_)
  refine lv_if_eq (tgt := 32) hx hb dX5_readingOf_13 (by decide) (fun c4 => ?_) (fun c4 => ?_)
  · have hsp := hk_t c4 hsp
    refine lv_iconst (v := (-1)) hx hb dX5_readingOf_32 (by decide) ?_
    obtain rfl := hk_s hsp
    exact W.iret (v := (-1)) hx hb hr (fun t ht hW => hk_end G ht hW) G.2.1.2.2 dX5_readingOf_33
  · have hsp := hk_f c4 hsp
    refine lv_aload_n hx hb dX5_readingOf_16 rfl (lv_at hl 0 rfl) ?_
    refine lv_aload_n hx hb dX5_readingOf_17 rfl (lv_at hl 2 rfl) ?_
    refine hk_getI F9 G h1 hkc_4 (k := 1) (by decide) qw_125 rfl dX5_readingOf_18 ?_
    obtain ⟨r5, er5, hsp⟩ := hk_b hsp
    refine hk_callVi (As := [.int (r3.2 a1 1)]) (rest := []) F9 G q2 hkc_7 rfl (kX10_moistureOf l g E F n r3.2 r1.1 (r3.2 a1 1) r5 q2 er5) qv_RX5_145 ⟨rfl, rfl, (Nat.le_of_ble_eq_true rfl), (Nat.le_of_ble_eq_true rfl)⟩ rfl hl.1 rfl (Nat.le_of_ble_eq_true rfl) ⟨Nat.zero_le _, Nat.zero_le _⟩ dX5_readingOf_21 (fun H locs G => ?_)
    refine lv_aload_n hx hb dX5_readingOf_24 rfl (lv_at hl 2 rfl) ?_
    refine hk_getI F9 G h1 hkc_4 (k := 2) (by decide) qw_128 rfl dX5_readingOf_25 ?_
    refine lv_iadd hx hb dX5_readingOf_28 ?_
    refine lv_goto (tgt := 33) hx hb dX5_readingOf_29 (by decide) ?_
    obtain rfl := hk_s hsp
    exact W.iret (v := (r5.1 + (r5.2 a1 2))) hx hb hr (fun t ht hW => hk_end G ht hW) G.2.1.2.2 dX5_readingOf_33
def mX5_countViolations_25 (E : hk_E) (F : Nat) (a0 : Nat)  (k : hk_S → Int32 → Int32 → Int32 → Int32 → Option (Int32 × hk_S)) : Nat → hk_S → Int32 → Int32 → Int32 → Int32 → Option (Int32 × hk_S)
  | 0 => fun _ _ _ _ _ => none
  | f + 1 => fun S z3 z4 z5 z6 =>
    if 8 ≤ z6 then (k S z3 z4 z5 z6) else ((E.2.2.2 a0 1).bind (fun r8 => if E.2.1 r8 = 16 then (if hk_ok z6 (E.2.2.1 r8) then ((E.2.2.2 r8 ((z6).toNatClampNeg)).bind (fun r10 => if E.2.1 r10 = 8 then (hk_let (z3 + (S r10 3)) (fun y11 => if hk_ok z6 (E.2.2.1 r8) then (hk_let (z4 + (S r10 5)) (fun y13 => if hk_ok z6 (E.2.2.1 r8) then ((mX10_countViolations E F S r10).bind (fun r15 => hk_let (z5 + r15.1) (fun y16 => hk_let (z6 + 1) (fun y17 => mX5_countViolations_25 E F a0 k f r15.2 y11 y13 y16 y17)))) else none)) else none)) else none)) else none) else none))
def mX5_countViolations (E : hk_E) (F : Nat) (S : hk_S) (a0 : Nat) : Option (Int32 × hk_S) :=
hk_let ((S a0 8) + (S a0 9)) (fun y1 => hk_let ((S a0 10) + (S a0 12)) (fun y2 => mX5_countViolations_25 E F a0  (fun S18 z19 z20 z21 z22 => (mJ9_abs_0f7a4 E F S18 ((S18 a0 7) - z19)).bind (fun r23 => hk_let (z21 + r23.1) (fun y24 => (mJ9_abs_0f7a4 E F r23.2 (((r23.2 a0 7) * 2000) - z20)).bind (fun r25 => hk_let (y24 + r25.1) (fun y26 => some (y26, r25.2)))))) F S y1 y2 0 0))
set_option maxHeartbeats 4000000 in
set_option maxRecDepth 100000 in
theorem kX5_countViolations (l : Launch) (g : hk_G) (E : hk_E) (F n : Nat) (S : hk_S) (a0 : Nat) (o : Int32 × hk_S) (h0 : E.2.1 a0 = 4) (hsp : mX5_countViolations E F S a0 = some o) : Met l yX5_countViolations (hk_ws yX5_countViolations cX5_countViolations 5 (Option.some Jvm.ClassFile.FieldType.int)) ({ frames := 2, cells := 0, slots := 0, locals := 41 }) (hk_Pc g E S n [.ref (g.1 + a0)]) (hk_Q g E o.2 n (some (.int o.1))) 0 0 (hk_A g) := by
  refine Met.ofW (cc := cX5_countViolations) (maxL := 5) (ret := (Option.some Jvm.ClassFile.FieldType.int)) (by decide) rfl ?_
  intro p e s m args below meth c s₁ B hml hv
  obtain ⟨rfl, G⟩ := hk_begin hv
  have F9 : CallFix p m c cX5_countViolations 5 s [.ref (g.1 + a0)].toArray hk_W RX5 := ⟨B.exec, B.bytes, hml, findClass_of_methodNamed B.named, fun w h => atoms_spec (ws := hk_ws yX5_countViolations cX5_countViolations 5 (Option.some Jvm.ClassFile.FieldType.int)) B.pre w (hk_in h)⟩
  have hx := B.exec
  have hb := B.bytes
  have hr := B.returns
  have hlocks := B.notSynchronized
  have hl := lv_entry ([.ref (g.1 + a0)]) (n := 5) (Nat.le_of_ble_eq_true rfl)
  rw [lg_entry_eq]
  generalize (lg_sl ([.ref (g.1 + a0)]) ++ List.replicate (5 - (lg_sl ([.ref (g.1 + a0)])).length) Slot.unset).toArray = ls at hl ⊢
  have hl : lv_has ls 5 [(0, .ref (g.1 + a0))] := hl
  unfold mX5_countViolations at hsp
  have G : hk_GG g E S n s s.heap [] := G
  have L_25 : ∀   (k : hk_S → Int32 → Int32 → Int32 → Int32 → Option (Int32 × hk_S)) (_ : ∀ (S : hk_S) (z3 : Int32) (z4 : Int32) (z5 : Int32) (z6 : Int32) (H : Heap) (locs : List Loc) (ls : Array Slot), k S z3 z4 z5 z6 = some o → hk_GG g E S n s H locs → lv_has ls 5 [(0, .ref (g.1 + a0)), (1, .int z3), (2, .int z4), (3, .int z5), (4, .int z6)] → W p l e (headSpec (hk_ws yX5_countViolations cX5_countViolations 5 (Option.some Jvm.ClassFile.FieldType.int)) ({ frames := 2, cells := 0, slots := 0, locals := 41 })).room s m [.ref (g.1 + a0)].toArray below meth c H locs 0 0 (MQ below (hk_Q g E o.2 n (some (.int o.1))) [.ref (g.1 + a0)].toArray s 0 0 (hk_A g)) (F0 m 77 ls [])) (f : Nat) (S : hk_S) (z3 : Int32) (z4 : Int32) (z5 : Int32) (z6 : Int32) (H : Heap) (locs : List Loc) (ls : Array Slot), mX5_countViolations_25 E F a0 k f S z3 z4 z5 z6 = some o → hk_GG g E S n s H locs → lv_has ls 5 [(0, .ref (g.1 + a0)), (1, .int z3), (2, .int z4), (3, .int z5), (4, .int z6)] → W p l e (headSpec (hk_ws yX5_countViolations cX5_countViolations 5 (Option.some Jvm.ClassFile.FieldType.int)) ({ frames := 2, cells := 0, slots := 0, locals := 41 })).room s m [.ref (g.1 + a0)].toArray below meth c H locs 0 0 (MQ below (hk_Q g E o.2 n (some (.int o.1))) [.ref (g.1 + a0)].toArray s 0 0 (hk_A g)) (F0 m 25 ls []) := by
    intro   k hk f
    induction f with
    | zero =>
      intro S z3 z4 z5 z6 H locs ls hsp
      exact nomatch hsp
    | succ f ih =>
      intro S z3 z4 z5 z6 H locs ls hsp G hl
      rw [mX5_countViolations_25] at hsp
      refine lv_iload hx hb dX5_countViolations_25 (lv_at hl 4 rfl) ?_
      refine lv_bipush (v := 8) hx hb dX5_countViolations_27 (by decide) ?_
      refine lv_icmp_ge (tgt := 77) hx hb dX5_countViolations_29 (by decide) (fun c7 => ?_) (fun c7 => ?_)
      · have hsp := hk_t c7 hsp
        exact hk S z3 z4 z5 z6 _ _ _ hsp G (lv_sub hl [0, 1, 2, 3, 4] rfl)
      · have hsp := hk_f c7 hsp
        refine lv_iload_n hx hb dX5_countViolations_32 rfl (lv_at hl 1 rfl) ?_
        refine lv_aload_n hx hb dX5_countViolations_33 rfl (lv_at hl 0 rfl) ?_
        obtain ⟨r8, er8, hsp⟩ := hk_b hsp
        obtain ⟨kr8, hsp⟩ := hk_k hsp
        refine hk_getR F9 G h0 hkc_3 (k := 1) (by decide) qw_155 rfl er8 dX5_countViolations_34 ?_
        refine lv_iload hx hb dX5_countViolations_37 (lv_at hl 4 rfl) ?_
        obtain ⟨q9, hsp⟩ := hk_k hsp
        obtain ⟨r10, er10, hsp⟩ := hk_b hsp
        obtain ⟨kr10, hsp⟩ := hk_k hsp
        refine hk_aald (t := 2) (j := (z6).toNatClampNeg) F9 G kr8 (by decide) rfl rfl q9 rfl er10 dX5_countViolations_39 ?_
        refine hk_getI F9 G kr10 hkc_7 (k := 3) (by decide) qw_79 rfl dX5_countViolations_40 ?_
        refine lv_iadd hx hb dX5_countViolations_43 ?_
        obtain ⟨y11, ey11, hsp⟩ := hk_l hsp
        refine hk_top ey11 ?_
        refine lv_istore_n (lv' := [(1, .int y11), (0, .ref (g.1 + a0)), (2, .int z4), (3, .int z5), (4, .int z6)]) hx hb dX5_countViolations_44 rfl hl (by decide) rfl (fun ls hl => ?_)
        refine lv_iload_n hx hb dX5_countViolations_45 rfl (lv_at hl 2 rfl) ?_
        refine lv_aload_n hx hb dX5_countViolations_46 rfl (lv_at hl 1 rfl) ?_
        refine hk_getR F9 G h0 hkc_3 (k := 1) (by decide) qw_155 rfl er8 dX5_countViolations_47 ?_
        refine lv_iload hx hb dX5_countViolations_50 (lv_at hl 4 rfl) ?_
        obtain ⟨q12, hsp⟩ := hk_k hsp
        refine hk_aald (t := 2) (j := (z6).toNatClampNeg) F9 G kr8 (by decide) rfl rfl q12 rfl er10 dX5_countViolations_52 ?_
        refine hk_getI F9 G kr10 hkc_7 (k := 5) (by decide) qw_84 rfl dX5_countViolations_53 ?_
        refine lv_iadd hx hb dX5_countViolations_56 ?_
        obtain ⟨y13, ey13, hsp⟩ := hk_l hsp
        refine hk_top ey13 ?_
        refine lv_istore_n (lv' := [(2, .int y13), (1, .int y11), (0, .ref (g.1 + a0)), (3, .int z5), (4, .int z6)]) hx hb dX5_countViolations_57 rfl hl (by decide) rfl (fun ls hl => ?_)
        refine lv_iload_n hx hb dX5_countViolations_58 rfl (lv_at hl 3 rfl) ?_
        refine lv_aload_n hx hb dX5_countViolations_59 rfl (lv_at hl 2 rfl) ?_
        refine hk_getR F9 G h0 hkc_3 (k := 1) (by decide) qw_155 rfl er8 dX5_countViolations_60 ?_
        refine lv_iload hx hb dX5_countViolations_63 (lv_at hl 4 rfl) ?_
        obtain ⟨q14, hsp⟩ := hk_k hsp
        refine hk_aald (t := 2) (j := (z6).toNatClampNeg) F9 G kr8 (by decide) rfl rfl q14 rfl er10 dX5_countViolations_65 ?_
        obtain ⟨r15, er15, hsp⟩ := hk_b hsp
        refine hk_callVi (As := []) (rest := [.int z5]) F9 G kr10 hkc_7 rfl (kX10_countViolations l g E F n S r10 r15 kr10 er15) qv_RX5_158 ⟨rfl, rfl, (Nat.le_of_ble_eq_true rfl), (Nat.le_of_ble_eq_true rfl)⟩ rfl hl.1 rfl (Nat.le_of_ble_eq_true rfl) ⟨Nat.zero_le _, Nat.zero_le _⟩ dX5_countViolations_66 (fun H locs G => ?_)
        refine lv_iadd hx hb dX5_countViolations_69 ?_
        obtain ⟨y16, ey16, hsp⟩ := hk_l hsp
        refine hk_top ey16 ?_
        refine lv_istore_n (lv' := [(3, .int y16), (2, .int y13), (1, .int y11), (0, .ref (g.1 + a0)), (4, .int z6)]) hx hb dX5_countViolations_70 rfl hl (by decide) rfl (fun ls hl => ?_)
        obtain ⟨y17, ey17, hsp⟩ := hk_l hsp
        refine lv_iinc (v := y17) (lv' := [(4, .int y17), (3, .int y16), (2, .int y13), (1, .int y11), (0, .ref (g.1 + a0))]) hx hb dX5_countViolations_71 hl (k := 4) rfl (by rw [← ey17]; rfl) (by decide) rfl (fun ls hl => ?_)
        refine lv_goto (tgt := 25) hx hb dX5_countViolations_74 (by decide) ?_
        exact ih r15.2 y11 y13 y16 y17 _ _ _ hsp G (lv_sub hl [4, 3, 2, 1, 0] rfl)
  refine lv_aload_n hx hb dX5_countViolations_0 rfl (lv_at hl 0 rfl) ?_
  refine hk_getI F9 G h0 hkc_3 (k := 8) (by decide) qw_164 rfl dX5_countViolations_1 ?_
  refine lv_aload_n hx hb dX5_countViolations_4 rfl (lv_at hl 0 rfl) ?_
  refine hk_getI F9 G h0 hkc_3 (k := 9) (by decide) qw_166 rfl dX5_countViolations_5 ?_
  refine lv_iadd hx hb dX5_countViolations_8 ?_
  obtain ⟨y1, ey1, hsp⟩ := hk_l hsp
  refine hk_top ey1 ?_
  refine lv_istore_n (lv' := [(1, .int y1), (0, .ref (g.1 + a0))]) hx hb dX5_countViolations_9 rfl hl (by decide) rfl (fun ls hl => ?_)
  refine lv_aload_n hx hb dX5_countViolations_10 rfl (lv_at hl 1 rfl) ?_
  refine hk_getI F9 G h0 hkc_3 (k := 10) (by decide) qw_168 rfl dX5_countViolations_11 ?_
  refine lv_aload_n hx hb dX5_countViolations_14 rfl (lv_at hl 1 rfl) ?_
  refine hk_getI F9 G h0 hkc_3 (k := 12) (by decide) qw_171 rfl dX5_countViolations_15 ?_
  refine lv_iadd hx hb dX5_countViolations_18 ?_
  obtain ⟨y2, ey2, hsp⟩ := hk_l hsp
  refine hk_top ey2 ?_
  refine lv_istore_n (lv' := [(2, .int y2), (1, .int y1), (0, .ref (g.1 + a0))]) hx hb dX5_countViolations_19 rfl hl (by decide) rfl (fun ls hl => ?_)
  refine lv_iconst (v := 0) hx hb dX5_countViolations_20 (by decide) ?_
  refine lv_istore_n (lv' := [(3, .int 0), (2, .int y2), (1, .int y1), (0, .ref (g.1 + a0))]) hx hb dX5_countViolations_21 rfl hl (by decide) rfl (fun ls hl => ?_)
  refine lv_iconst (v := 0) hx hb dX5_countViolations_22 (by decide) ?_
  refine lv_istore (lv' := [(4, .int 0), (3, .int 0), (2, .int y2), (1, .int y1), (0, .ref (g.1 + a0))]) hx hb dX5_countViolations_23  hl (by decide) rfl (fun ls hl => ?_)
  refine L_25   _ ?_ F S y1 y2 0 0 _ _ _ hsp G (lv_sub hl [4, 3, 2, 1, 0] rfl)
  intro S18 z19 z20 z21 z22 H locs ls hsp G hl
  refine lv_iload_n hx hb dX5_countViolations_77 rfl (lv_at hl 3 rfl) ?_
  refine lv_aload_n hx hb dX5_countViolations_78 rfl (lv_at hl 0 rfl) ?_
  refine hk_getI F9 G h0 hkc_3 (k := 7) (by decide) qw_163 rfl dX5_countViolations_79 ?_
  refine lv_iload_n hx hb dX5_countViolations_82 rfl (lv_at hl 1 rfl) ?_
  refine lv_isub hx hb dX5_countViolations_83 ?_
  obtain ⟨r23, er23, hsp⟩ := hk_b hsp
  refine hk_callSi (As := [.int ((S18 a0 7) - z19)]) (rest := [.int z21]) F9 G (kJ9_abs_0f7a4 l g E F n S18 ((S18 a0 7) - z19) r23  er23) qv_RX5_161 ⟨rfl, rfl, (Nat.le_of_ble_eq_true rfl), (Nat.le_of_ble_eq_true rfl)⟩ rfl hl.1 rfl (Nat.le_of_ble_eq_true rfl) ⟨Nat.zero_le _, Nat.zero_le _⟩ dX5_countViolations_84 (fun H locs G => ?_)
  refine lv_iadd hx hb dX5_countViolations_87 ?_
  obtain ⟨y24, ey24, hsp⟩ := hk_l hsp
  refine hk_top ey24 ?_
  refine lv_istore_n (lv' := [(3, .int y24), (0, .ref (g.1 + a0)), (1, .int z19), (2, .int z20), (4, .int z22)]) hx hb dX5_countViolations_88 rfl hl (by decide) rfl (fun ls hl => ?_)
  refine lv_iload_n hx hb dX5_countViolations_89 rfl (lv_at hl 0 rfl) ?_
  refine lv_aload_n hx hb dX5_countViolations_90 rfl (lv_at hl 1 rfl) ?_
  refine hk_getI F9 G h0 hkc_3 (k := 7) (by decide) qw_163 rfl dX5_countViolations_91 ?_
  refine lv_sipush (v := 2000) hx hb dX5_countViolations_94 (by decide) ?_
  refine lv_imul hx hb dX5_countViolations_97 ?_
  refine lv_iload_n hx hb dX5_countViolations_98 rfl (lv_at hl 3 rfl) ?_
  refine lv_isub hx hb dX5_countViolations_99 ?_
  obtain ⟨r25, er25, hsp⟩ := hk_b hsp
  refine hk_callSi (As := [.int (((r23.2 a0 7) * 2000) - z20)]) (rest := [.int y24]) F9 G (kJ9_abs_0f7a4 l g E F n r23.2 (((r23.2 a0 7) * 2000) - z20) r25  er25) qv_RX5_161 ⟨rfl, rfl, (Nat.le_of_ble_eq_true rfl), (Nat.le_of_ble_eq_true rfl)⟩ rfl hl.1 rfl (Nat.le_of_ble_eq_true rfl) ⟨Nat.zero_le _, Nat.zero_le _⟩ dX5_countViolations_100 (fun H locs G => ?_)
  refine lv_iadd hx hb dX5_countViolations_103 ?_
  obtain ⟨y26, ey26, hsp⟩ := hk_l hsp
  refine hk_top ey26 ?_
  refine lv_istore_n (lv' := [(3, .int y26), (0, .ref (g.1 + a0)), (1, .int z19), (2, .int z20), (4, .int z22)]) hx hb dX5_countViolations_104 rfl hl (by decide) rfl (fun ls hl => ?_)
  refine lv_iload_n hx hb dX5_countViolations_105 rfl (lv_at hl 0 rfl) ?_
  obtain rfl := hk_s hsp
  exact W.iret (v := y26) hx hb hr (fun t ht hW => hk_end G ht hW) G.2.1.2.2 dX5_countViolations_106
def mX3_remember (E : hk_E) (F : Nat) (S : hk_S) (a0 : Nat) (a1 : Nat) : Option (hk_S) :=
(E.2.2.2 a0 0).bind (fun r1 => if E.2.1 r1 = 14 then ((mJ9_floorMod_7cf53 E F S (S a0 1) 8).bind (fun r2 => if hk_ok r2.1 (E.2.2.1 r1) then ((E.2.2.2 r1 ((r2.1).toNatClampNeg)).bind (fun r4 => if E.2.1 r4 = 4 then ((mX5_become E F r2.2 r4 a1).bind (fun r5 => (mJ9_floorMod_7cf53 E F r5 ((r5 a0 1) + 1) 8).bind (fun r6 => hk_let (hk_up r6.2 a0 1 r6.1) (fun S7 => if 8 ≤ (S7 a0 2) then (some (S7)) else (hk_let (hk_up S7 a0 2 ((S7 a0 2) + 1)) (fun S9 => some (S9))))))) else none)) else none)) else none)
set_option maxHeartbeats 4000000 in
set_option maxRecDepth 100000 in
theorem kX3_remember (l : Launch) (g : hk_G) (E : hk_E) (F n : Nat) (S : hk_S) (a0 : Nat) (a1 : Nat) (o : hk_S) (h0 : E.2.1 a0 = 2) (h1 : E.2.1 a1 = 4) (hsp : mX3_remember E F S a0 a1 = some o) : Met l yX3_remember (hk_ws yX3_remember cX3_remember 2 (Option.none : Option Jvm.ClassFile.FieldType)) ({ frames := 2, cells := 0, slots := 0, locals := 44 }) (hk_Pc g E S n [.ref (g.1 + a0), .ref (g.1 + a1)]) (hk_Q g E o n none) 0 0 (hk_A g) := by
  refine Met.ofW (cc := cX3_remember) (maxL := 2) (ret := (Option.none : Option Jvm.ClassFile.FieldType)) (by decide) rfl ?_
  intro p e s m args below meth c s₁ B hml hv
  obtain ⟨rfl, G⟩ := hk_begin hv
  have F9 : CallFix p m c cX3_remember 2 s [.ref (g.1 + a0), .ref (g.1 + a1)].toArray hk_W RX3 := ⟨B.exec, B.bytes, hml, findClass_of_methodNamed B.named, fun w h => atoms_spec (ws := hk_ws yX3_remember cX3_remember 2 (Option.none : Option Jvm.ClassFile.FieldType)) B.pre w (hk_in h)⟩
  have hx := B.exec
  have hb := B.bytes
  have hr := B.returns
  have hlocks := B.notSynchronized
  have hl := lv_entry ([.ref (g.1 + a0), .ref (g.1 + a1)]) (n := 2) (Nat.le_of_ble_eq_true rfl)
  rw [lg_entry_eq]
  generalize (lg_sl ([.ref (g.1 + a0), .ref (g.1 + a1)]) ++ List.replicate (2 - (lg_sl ([.ref (g.1 + a0), .ref (g.1 + a1)])).length) Slot.unset).toArray = ls at hl ⊢
  have hl : lv_has ls 2 [(0, .ref (g.1 + a0)), (1, .ref (g.1 + a1))] := hl
  unfold mX3_remember at hsp
  have G : hk_GG g E S n s s.heap [] := G
  refine lv_aload_n hx hb dX3_remember_0 rfl (lv_at hl 0 rfl) ?_
  obtain ⟨r1, er1, hsp⟩ := hk_b hsp
  obtain ⟨kr1, hsp⟩ := hk_k hsp
  refine hk_getR F9 G h0 hkc_1 (k := 0) (by decide) qw_209 rfl er1 dX3_remember_1 ?_
  refine lv_aload_n hx hb dX3_remember_4 rfl (lv_at hl 0 rfl) ?_
  refine hk_getI F9 G h0 hkc_1 (k := 1) (by decide) qw_210 rfl dX3_remember_5 ?_
  refine lv_bipush (v := 8) hx hb dX3_remember_8 (by decide) ?_
  obtain ⟨r2, er2, hsp⟩ := hk_b hsp
  refine hk_callSi (As := [.int (S a0 1), .int 8]) (rest := [.ref (g.1 + r1)]) F9 G (kJ9_floorMod_7cf53 l g E F n S (S a0 1) 8 r2  er2) qv_RX3_22 ⟨rfl, rfl, (Nat.le_of_ble_eq_true rfl), (Nat.le_of_ble_eq_true rfl)⟩ rfl hl.1 rfl (Nat.le_of_ble_eq_true rfl) ⟨Nat.zero_le _, Nat.zero_le _⟩ dX3_remember_10 (fun H locs G => ?_)
  obtain ⟨q3, hsp⟩ := hk_k hsp
  obtain ⟨r4, er4, hsp⟩ := hk_b hsp
  obtain ⟨kr4, hsp⟩ := hk_k hsp
  refine hk_aald (t := 0) (j := (r2.1).toNatClampNeg) F9 G kr1 (by decide) rfl rfl q3 rfl er4 dX3_remember_13 ?_
  refine lv_aload_n hx hb dX3_remember_14 rfl (lv_at hl 1 rfl) ?_
  obtain ⟨r5, er5, hsp⟩ := hk_b hsp
  refine hk_callVv (As := [.ref (g.1 + a1)]) (rest := []) F9 G kr4 hkc_3 rfl (kX5_become l g E F n r2.2 r4 a1 r5 kr4 h1 er5) qv_RX3_28 ⟨rfl, rfl, (Nat.le_of_ble_eq_true rfl), (Nat.le_of_ble_eq_true rfl)⟩ rfl hl.1 rfl (Nat.le_of_ble_eq_true rfl) ⟨Nat.zero_le _, Nat.zero_le _⟩ dX3_remember_15 (fun H locs G => ?_)
  refine lv_aload_n hx hb dX3_remember_18 rfl (lv_at hl 0 rfl) ?_
  refine lv_aload_n hx hb dX3_remember_19 rfl (lv_at hl 0 rfl) ?_
  refine hk_getI F9 G h0 hkc_1 (k := 1) (by decide) qw_210 rfl dX3_remember_20 ?_
  refine lv_iconst (v := 1) hx hb dX3_remember_23 (by decide) ?_
  refine lv_iadd hx hb dX3_remember_24 ?_
  refine lv_bipush (v := 8) hx hb dX3_remember_25 (by decide) ?_
  obtain ⟨r6, er6, hsp⟩ := hk_b hsp
  refine hk_callSi (As := [.int ((r5 a0 1) + 1), .int 8]) (rest := [.ref (g.1 + a0)]) F9 G (kJ9_floorMod_7cf53 l g E F n r5 ((r5 a0 1) + 1) 8 r6  er6) qv_RX3_22 ⟨rfl, rfl, (Nat.le_of_ble_eq_true rfl), (Nat.le_of_ble_eq_true rfl)⟩ rfl hl.1 rfl (Nat.le_of_ble_eq_true rfl) ⟨Nat.zero_le _, Nat.zero_le _⟩ dX3_remember_27 (fun H locs G => ?_)
  obtain ⟨S7, eS7, hsp⟩ := hk_l hsp
  refine hk_putI F9 G h0 hkc_1 (k := 1) (by decide) qw_210 rfl rfl (tyX3_ok 1 (by decide)) rfl rfl dX3_remember_30 (fun H locs G => ?_)
  rw [eS7] at G
  refine lv_aload_n hx hb dX3_remember_33 rfl (lv_at hl 0 rfl) ?_
  refine hk_getI F9 G h0 hkc_1 (k := 2) (by decide) qw_211 rfl dX3_remember_34 ?_
  refine lv_bipush (v := 8) hx hb dX3_remember_37 (by decide) ?_
  refine lv_icmp_ge (tgt := 52) hx hb dX3_remember_39 (by decide) (fun c8 => ?_) (fun c8 => ?_)
  · have hsp := hk_t c8 hsp
    obtain rfl := hk_s hsp
    exact W.vret hx hb hr (fun t ht hW => hk_end G ht hW) G.2.1.2.2 dX3_remember_52
  · have hsp := hk_f c8 hsp
    refine lv_aload_n hx hb dX3_remember_42 rfl (lv_at hl 0 rfl) ?_
    refine lv_dup hx hb dX3_remember_43 rfl ?_
    refine hk_getI F9 G h0 hkc_1 (k := 2) (by decide) qw_211 rfl dX3_remember_44 ?_
    refine lv_iconst (v := 1) hx hb dX3_remember_47 (by decide) ?_
    refine lv_iadd hx hb dX3_remember_48 ?_
    obtain ⟨S9, eS9, hsp⟩ := hk_l hsp
    refine hk_putI F9 G h0 hkc_1 (k := 2) (by decide) qw_211 rfl rfl (tyX3_ok 2 (by decide)) rfl rfl dX3_remember_49 (fun H locs G => ?_)
    rw [eS9] at G
    obtain rfl := hk_s hsp
    exact W.vret hx hb hr (fun t ht hW => hk_end G ht hW) G.2.1.2.2 dX3_remember_52
def mX3_takeBack (E : hk_E) (F : Nat) (S : hk_S) (a0 : Nat) (a1 : Nat) : Option (hk_S) :=
(mJ9_floorMod_7cf53 E F S ((S a0 1) - 1) 8).bind (fun r1 => hk_let (hk_up r1.2 a0 1 r1.1) (fun S2 => (E.2.2.2 a0 0).bind (fun r3 => if E.2.1 r3 = 14 then (if hk_ok (S2 a0 1) (E.2.2.1 r3) then ((E.2.2.2 r3 (((S2 a0 1)).toNatClampNeg)).bind (fun r5 => if E.2.1 r5 = 4 then ((mX5_become E F S2 a1 r5).bind (fun r6 => hk_let (hk_up r6 a0 2 ((r6 a0 2) - 1)) (fun S7 => some (S7)))) else none)) else none) else none)))
set_option maxHeartbeats 4000000 in
set_option maxRecDepth 100000 in
theorem kX3_takeBack (l : Launch) (g : hk_G) (E : hk_E) (F n : Nat) (S : hk_S) (a0 : Nat) (a1 : Nat) (o : hk_S) (h0 : E.2.1 a0 = 2) (h1 : E.2.1 a1 = 4) (hsp : mX3_takeBack E F S a0 a1 = some o) : Met l yX3_takeBack (hk_ws yX3_takeBack cX3_takeBack 2 (Option.none : Option Jvm.ClassFile.FieldType)) ({ frames := 2, cells := 0, slots := 0, locals := 44 }) (hk_Pc g E S n [.ref (g.1 + a0), .ref (g.1 + a1)]) (hk_Q g E o n none) 0 0 (hk_A g) := by
  refine Met.ofW (cc := cX3_takeBack) (maxL := 2) (ret := (Option.none : Option Jvm.ClassFile.FieldType)) (by decide) rfl ?_
  intro p e s m args below meth c s₁ B hml hv
  obtain ⟨rfl, G⟩ := hk_begin hv
  have F9 : CallFix p m c cX3_takeBack 2 s [.ref (g.1 + a0), .ref (g.1 + a1)].toArray hk_W RX3 := ⟨B.exec, B.bytes, hml, findClass_of_methodNamed B.named, fun w h => atoms_spec (ws := hk_ws yX3_takeBack cX3_takeBack 2 (Option.none : Option Jvm.ClassFile.FieldType)) B.pre w (hk_in h)⟩
  have hx := B.exec
  have hb := B.bytes
  have hr := B.returns
  have hlocks := B.notSynchronized
  have hl := lv_entry ([.ref (g.1 + a0), .ref (g.1 + a1)]) (n := 2) (Nat.le_of_ble_eq_true rfl)
  rw [lg_entry_eq]
  generalize (lg_sl ([.ref (g.1 + a0), .ref (g.1 + a1)]) ++ List.replicate (2 - (lg_sl ([.ref (g.1 + a0), .ref (g.1 + a1)])).length) Slot.unset).toArray = ls at hl ⊢
  have hl : lv_has ls 2 [(0, .ref (g.1 + a0)), (1, .ref (g.1 + a1))] := hl
  unfold mX3_takeBack at hsp
  have G : hk_GG g E S n s s.heap [] := G
  refine lv_aload_n hx hb dX3_takeBack_0 rfl (lv_at hl 0 rfl) ?_
  refine lv_aload_n hx hb dX3_takeBack_1 rfl (lv_at hl 0 rfl) ?_
  refine hk_getI F9 G h0 hkc_1 (k := 1) (by decide) qw_210 rfl dX3_takeBack_2 ?_
  refine lv_iconst (v := 1) hx hb dX3_takeBack_5 (by decide) ?_
  refine lv_isub hx hb dX3_takeBack_6 ?_
  refine lv_bipush (v := 8) hx hb dX3_takeBack_7 (by decide) ?_
  obtain ⟨r1, er1, hsp⟩ := hk_b hsp
  refine hk_callSi (As := [.int ((S a0 1) - 1), .int 8]) (rest := [.ref (g.1 + a0)]) F9 G (kJ9_floorMod_7cf53 l g E F n S ((S a0 1) - 1) 8 r1  er1) qv_RX3_22 ⟨rfl, rfl, (Nat.le_of_ble_eq_true rfl), (Nat.le_of_ble_eq_true rfl)⟩ rfl hl.1 rfl (Nat.le_of_ble_eq_true rfl) ⟨Nat.zero_le _, Nat.zero_le _⟩ dX3_takeBack_9 (fun H locs G => ?_)
  obtain ⟨S2, eS2, hsp⟩ := hk_l hsp
  refine hk_putI F9 G h0 hkc_1 (k := 1) (by decide) qw_210 rfl rfl (tyX3_ok 1 (by decide)) rfl rfl dX3_takeBack_12 (fun H locs G => ?_)
  rw [eS2] at G
  refine lv_aload_n hx hb dX3_takeBack_15 rfl (lv_at hl 1 rfl) ?_
  refine lv_aload_n hx hb dX3_takeBack_16 rfl (lv_at hl 0 rfl) ?_
  obtain ⟨r3, er3, hsp⟩ := hk_b hsp
  obtain ⟨kr3, hsp⟩ := hk_k hsp
  refine hk_getR F9 G h0 hkc_1 (k := 0) (by decide) qw_209 rfl er3 dX3_takeBack_17 ?_
  refine lv_aload_n hx hb dX3_takeBack_20 rfl (lv_at hl 0 rfl) ?_
  refine hk_getI F9 G h0 hkc_1 (k := 1) (by decide) qw_210 rfl dX3_takeBack_21 ?_
  obtain ⟨q4, hsp⟩ := hk_k hsp
  obtain ⟨r5, er5, hsp⟩ := hk_b hsp
  obtain ⟨kr5, hsp⟩ := hk_k hsp
  refine hk_aald (t := 0) (j := ((S2 a0 1)).toNatClampNeg) F9 G kr3 (by decide) rfl rfl q4 rfl er5 dX3_takeBack_24 ?_
  obtain ⟨r6, er6, hsp⟩ := hk_b hsp
  refine hk_callVv (As := [.ref (g.1 + r5)]) (rest := []) F9 G h1 hkc_3 rfl (kX5_become l g E F n S2 a1 r5 r6 h1 kr5 er6) qv_RX3_28 ⟨rfl, rfl, (Nat.le_of_ble_eq_true rfl), (Nat.le_of_ble_eq_true rfl)⟩ rfl hl.1 rfl (Nat.le_of_ble_eq_true rfl) ⟨Nat.zero_le _, Nat.zero_le _⟩ dX3_takeBack_25 (fun H locs G => ?_)
  refine lv_aload_n hx hb dX3_takeBack_28 rfl (lv_at hl 0 rfl) ?_
  refine lv_dup hx hb dX3_takeBack_29 rfl ?_
  refine hk_getI F9 G h0 hkc_1 (k := 2) (by decide) qw_211 rfl dX3_takeBack_30 ?_
  refine lv_iconst (v := 1) hx hb dX3_takeBack_33 (by decide) ?_
  refine lv_isub hx hb dX3_takeBack_34 ?_
  obtain ⟨S7, eS7, hsp⟩ := hk_l hsp
  refine hk_putI F9 G h0 hkc_1 (k := 2) (by decide) qw_211 rfl rfl (tyX3_ok 2 (by decide)) rfl rfl dX3_takeBack_35 (fun H locs G => ?_)
  rw [eS7] at G
  obtain rfl := hk_s hsp
  exact W.vret hx hb hr (fun t ht hW => hk_end G ht hW) G.2.1.2.2 dX3_takeBack_38
def mX5_clear_9 (E : hk_E) (F : Nat) (a0 : Nat)  (k : hk_S → Int32 → Option (hk_S)) : Nat → hk_S → Int32 → Option (hk_S)
  | 0 => fun _ _ => none
  | f + 1 => fun S z3 =>
    if 8 ≤ z3 then (k S z3) else ((E.2.2.2 a0 1).bind (fun r5 => if E.2.1 r5 = 16 then (if hk_ok z3 (E.2.2.1 r5) then ((E.2.2.2 r5 ((z3).toNatClampNeg)).bind (fun r7 => if E.2.1 r7 = 8 then ((mX10_build E F S r7 0).bind (fun r8 => hk_let (z3 + 1) (fun y9 => mX5_clear_9 E F a0 k f r8 y9))) else none)) else none) else none))
def mX5_clear (E : hk_E) (F : Nat) (S : hk_S) (a0 : Nat) : Option (hk_S) :=
(E.2.2.2 a0 0).bind (fun r1 => if E.2.1 r1 = 1 then ((mX1_clear E F S r1).bind (fun r2 => mX5_clear_9 E F a0  (fun S10 z11 => hk_let (hk_up S10 a0 2 0) (fun S12 => hk_let (hk_up S12 a0 4 0) (fun S13 => hk_let (hk_up S13 a0 5 580) (fun S14 => hk_let (hk_up S14 a0 6 20) (fun S15 => hk_let (hk_up S15 a0 7 0) (fun S16 => hk_let (hk_up S16 a0 8 0) (fun S17 => hk_let (hk_up S17 a0 9 0) (fun S18 => hk_let (hk_up S18 a0 10 0) (fun S19 => hk_let (hk_up S19 a0 11 0) (fun S20 => hk_let (hk_up S20 a0 12 0) (fun S21 => some (S21)))))))))))) F r2 0)) else none)
set_option maxHeartbeats 4000000 in
set_option maxRecDepth 100000 in
theorem kX5_clear (l : Launch) (g : hk_G) (E : hk_E) (F n : Nat) (S : hk_S) (a0 : Nat) (o : hk_S) (h0 : E.2.1 a0 = 4) (hsp : mX5_clear E F S a0 = some o) : Met l yX5_clear (hk_ws yX5_clear cX5_clear 2 (Option.none : Option Jvm.ClassFile.FieldType)) ({ frames := 2, cells := 0, slots := 0, locals := 41 }) (hk_Pc g E S n [.ref (g.1 + a0)]) (hk_Q g E o n none) 0 0 (hk_A g) := by
  refine Met.ofW (cc := cX5_clear) (maxL := 2) (ret := (Option.none : Option Jvm.ClassFile.FieldType)) (by decide) rfl ?_
  intro p e s m args below meth c s₁ B hml hv
  obtain ⟨rfl, G⟩ := hk_begin hv
  have F9 : CallFix p m c cX5_clear 2 s [.ref (g.1 + a0)].toArray hk_W RX5 := ⟨B.exec, B.bytes, hml, findClass_of_methodNamed B.named, fun w h => atoms_spec (ws := hk_ws yX5_clear cX5_clear 2 (Option.none : Option Jvm.ClassFile.FieldType)) B.pre w (hk_in h)⟩
  have hx := B.exec
  have hb := B.bytes
  have hr := B.returns
  have hlocks := B.notSynchronized
  have hl := lv_entry ([.ref (g.1 + a0)]) (n := 2) (Nat.le_of_ble_eq_true rfl)
  rw [lg_entry_eq]
  generalize (lg_sl ([.ref (g.1 + a0)]) ++ List.replicate (2 - (lg_sl ([.ref (g.1 + a0)])).length) Slot.unset).toArray = ls at hl ⊢
  have hl : lv_has ls 2 [(0, .ref (g.1 + a0))] := hl
  unfold mX5_clear at hsp
  have G : hk_GG g E S n s s.heap [] := G
  have L_9 : ∀   (k : hk_S → Int32 → Option (hk_S)) (_ : ∀ (S : hk_S) (z3 : Int32) (H : Heap) (locs : List Loc) (ls : Array Slot), k S z3 = some o → hk_GG g E S n s H locs → lv_has ls 2 [(0, .ref (g.1 + a0)), (1, .int z3)] → W p l e (headSpec (hk_ws yX5_clear cX5_clear 2 (Option.none : Option Jvm.ClassFile.FieldType)) ({ frames := 2, cells := 0, slots := 0, locals := 41 })).room s m [.ref (g.1 + a0)].toArray below meth c H locs 0 0 (MQ below (hk_Q g E o n none) [.ref (g.1 + a0)].toArray s 0 0 (hk_A g)) (F0 m 31 ls [])) (f : Nat) (S : hk_S) (z3 : Int32) (H : Heap) (locs : List Loc) (ls : Array Slot), mX5_clear_9 E F a0 k f S z3 = some o → hk_GG g E S n s H locs → lv_has ls 2 [(0, .ref (g.1 + a0)), (1, .int z3)] → W p l e (headSpec (hk_ws yX5_clear cX5_clear 2 (Option.none : Option Jvm.ClassFile.FieldType)) ({ frames := 2, cells := 0, slots := 0, locals := 41 })).room s m [.ref (g.1 + a0)].toArray below meth c H locs 0 0 (MQ below (hk_Q g E o n none) [.ref (g.1 + a0)].toArray s 0 0 (hk_A g)) (F0 m 9 ls []) := by
    intro   k hk f
    induction f with
    | zero =>
      intro S z3 H locs ls hsp
      exact nomatch hsp
    | succ f ih =>
      intro S z3 H locs ls hsp G hl
      rw [mX5_clear_9] at hsp
      refine lv_iload_n hx hb dX5_clear_9 rfl (lv_at hl 1 rfl) ?_
      refine lv_bipush (v := 8) hx hb dX5_clear_10 (by decide) ?_
      refine lv_icmp_ge (tgt := 31) hx hb dX5_clear_12 (by decide) (fun c4 => ?_) (fun c4 => ?_)
      · have hsp := hk_t c4 hsp
        exact hk S z3 _ _ _ hsp G (lv_sub hl [0, 1] rfl)
      · have hsp := hk_f c4 hsp
        refine lv_aload_n hx hb dX5_clear_15 rfl (lv_at hl 0 rfl) ?_
        obtain ⟨r5, er5, hsp⟩ := hk_b hsp
        obtain ⟨kr5, hsp⟩ := hk_k hsp
        refine hk_getR F9 G h0 hkc_3 (k := 1) (by decide) qw_155 rfl er5 dX5_clear_16 ?_
        refine lv_iload_n hx hb dX5_clear_19 rfl (lv_at hl 1 rfl) ?_
        obtain ⟨q6, hsp⟩ := hk_k hsp
        obtain ⟨r7, er7, hsp⟩ := hk_b hsp
        obtain ⟨kr7, hsp⟩ := hk_k hsp
        refine hk_aald (t := 2) (j := (z3).toNatClampNeg) F9 G kr5 (by decide) rfl rfl q6 rfl er7 dX5_clear_20 ?_
        refine lv_iconst (v := 0) hx hb dX5_clear_21 (by decide) ?_
        obtain ⟨r8, er8, hsp⟩ := hk_b hsp
        refine hk_callVv (As := [.int 0]) (rest := []) F9 G kr7 hkc_7 rfl (kX10_build l g E F n S r7 0 r8 kr7 er8) qv_RX5_36 ⟨rfl, rfl, (Nat.le_of_ble_eq_true rfl), (Nat.le_of_ble_eq_true rfl)⟩ rfl hl.1 rfl (Nat.le_of_ble_eq_true rfl) ⟨Nat.zero_le _, Nat.zero_le _⟩ dX5_clear_22 (fun H locs G => ?_)
        obtain ⟨y9, ey9, hsp⟩ := hk_l hsp
        refine lv_iinc (v := y9) (lv' := [(1, .int y9), (0, .ref (g.1 + a0))]) hx hb dX5_clear_25 hl (k := 1) rfl (by rw [← ey9]; rfl) (by decide) rfl (fun ls hl => ?_)
        refine lv_goto (tgt := 9) hx hb dX5_clear_28 (by decide) ?_
        exact ih r8 y9 _ _ _ hsp G (lv_sub hl [1, 0] rfl)
  refine lv_aload_n hx hb dX5_clear_0 rfl (lv_at hl 0 rfl) ?_
  obtain ⟨r1, er1, hsp⟩ := hk_b hsp
  obtain ⟨kr1, hsp⟩ := hk_k hsp
  refine hk_getR F9 G h0 hkc_3 (k := 0) (by decide) qw_153 rfl er1 dX5_clear_1 ?_
  obtain ⟨r2, er2, hsp⟩ := hk_b hsp
  refine hk_callVv (As := []) (rest := []) F9 G kr1 hkc_0 rfl (kX1_clear l g E F n S r1 r2 kr1 er2) qv_RX5_35 ⟨rfl, rfl, (Nat.le_of_ble_eq_true rfl), (Nat.le_of_ble_eq_true rfl)⟩ rfl hl.1 rfl (Nat.le_of_ble_eq_true rfl) ⟨Nat.zero_le _, Nat.zero_le _⟩ dX5_clear_4 (fun H locs G => ?_)
  refine lv_iconst (v := 0) hx hb dX5_clear_7 (by decide) ?_
  refine lv_istore_n (lv' := [(1, .int 0), (0, .ref (g.1 + a0))]) hx hb dX5_clear_8 rfl hl (by decide) rfl (fun ls hl => ?_)
  refine L_9   _ ?_ F r2 0 _ _ _ hsp G (lv_sub hl [1, 0] rfl)
  intro S10 z11 H locs ls hsp G hl
  refine lv_aload_n hx hb dX5_clear_31 rfl (lv_at hl 0 rfl) ?_
  refine lv_iconst (v := 0) hx hb dX5_clear_32 (by decide) ?_
  obtain ⟨S12, eS12, hsp⟩ := hk_l hsp
  refine hk_putI F9 G h0 hkc_3 (k := 2) (by decide) qw_156 rfl rfl (tyX5_ok 2 (by decide)) rfl rfl dX5_clear_33 (fun H locs G => ?_)
  rw [eS12] at G
  refine lv_aload_n hx hb dX5_clear_36 rfl (lv_at hl 0 rfl) ?_
  refine lv_iconst (v := 0) hx hb dX5_clear_37 (by decide) ?_
  obtain ⟨S13, eS13, hsp⟩ := hk_l hsp
  refine hk_putI F9 G h0 hkc_3 (k := 4) (by decide) qw_159 rfl rfl (tyX5_ok 4 (by decide)) rfl rfl dX5_clear_38 (fun H locs G => ?_)
  rw [eS13] at G
  refine lv_aload_n hx hb dX5_clear_41 rfl (lv_at hl 0 rfl) ?_
  refine lv_sipush (v := 580) hx hb dX5_clear_42 (by decide) ?_
  obtain ⟨S14, eS14, hsp⟩ := hk_l hsp
  refine hk_putI F9 G h0 hkc_3 (k := 5) (by decide) qw_161 rfl rfl (tyX5_ok 5 (by decide)) rfl rfl dX5_clear_45 (fun H locs G => ?_)
  rw [eS14] at G
  refine lv_aload_n hx hb dX5_clear_48 rfl (lv_at hl 0 rfl) ?_
  refine lv_bipush (v := 20) hx hb dX5_clear_49 (by decide) ?_
  obtain ⟨S15, eS15, hsp⟩ := hk_l hsp
  refine hk_putI F9 G h0 hkc_3 (k := 6) (by decide) qw_162 rfl rfl (tyX5_ok 6 (by decide)) rfl rfl dX5_clear_51 (fun H locs G => ?_)
  rw [eS15] at G
  refine lv_aload_n hx hb dX5_clear_54 rfl (lv_at hl 0 rfl) ?_
  refine lv_iconst (v := 0) hx hb dX5_clear_55 (by decide) ?_
  obtain ⟨S16, eS16, hsp⟩ := hk_l hsp
  refine hk_putI F9 G h0 hkc_3 (k := 7) (by decide) qw_163 rfl rfl (tyX5_ok 7 (by decide)) rfl rfl dX5_clear_56 (fun H locs G => ?_)
  rw [eS16] at G
  refine lv_aload_n hx hb dX5_clear_59 rfl (lv_at hl 0 rfl) ?_
  refine lv_iconst (v := 0) hx hb dX5_clear_60 (by decide) ?_
  obtain ⟨S17, eS17, hsp⟩ := hk_l hsp
  refine hk_putI F9 G h0 hkc_3 (k := 8) (by decide) qw_164 rfl rfl (tyX5_ok 8 (by decide)) rfl rfl dX5_clear_61 (fun H locs G => ?_)
  rw [eS17] at G
  refine lv_aload_n hx hb dX5_clear_64 rfl (lv_at hl 0 rfl) ?_
  refine lv_iconst (v := 0) hx hb dX5_clear_65 (by decide) ?_
  obtain ⟨S18, eS18, hsp⟩ := hk_l hsp
  refine hk_putI F9 G h0 hkc_3 (k := 9) (by decide) qw_166 rfl rfl (tyX5_ok 9 (by decide)) rfl rfl dX5_clear_66 (fun H locs G => ?_)
  rw [eS18] at G
  refine lv_aload_n hx hb dX5_clear_69 rfl (lv_at hl 0 rfl) ?_
  refine lv_iconst (v := 0) hx hb dX5_clear_70 (by decide) ?_
  obtain ⟨S19, eS19, hsp⟩ := hk_l hsp
  refine hk_putI F9 G h0 hkc_3 (k := 10) (by decide) qw_168 rfl rfl (tyX5_ok 10 (by decide)) rfl rfl dX5_clear_71 (fun H locs G => ?_)
  rw [eS19] at G
  refine lv_aload_n hx hb dX5_clear_74 rfl (lv_at hl 0 rfl) ?_
  refine lv_iconst (v := 0) hx hb dX5_clear_75 (by decide) ?_
  obtain ⟨S20, eS20, hsp⟩ := hk_l hsp
  refine hk_putI F9 G h0 hkc_3 (k := 11) (by decide) qw_169 rfl rfl (tyX5_ok 11 (by decide)) rfl rfl dX5_clear_76 (fun H locs G => ?_)
  rw [eS20] at G
  refine lv_aload_n hx hb dX5_clear_79 rfl (lv_at hl 0 rfl) ?_
  refine lv_iconst (v := 0) hx hb dX5_clear_80 (by decide) ?_
  obtain ⟨S21, eS21, hsp⟩ := hk_l hsp
  refine hk_putI F9 G h0 hkc_3 (k := 12) (by decide) qw_171 rfl rfl (tyX5_ok 12 (by decide)) rfl rfl dX5_clear_81 (fun H locs G => ?_)
  rw [eS21] at G
  obtain rfl := hk_s hsp
  exact W.vret hx hb hr (fun t ht hW => hk_end G ht hW) G.2.1.2.2 dX5_clear_84
def mX5_placeTrough (E : hk_E) (F : Nat) (S : hk_S) (a0 : Nat) (x1 : Int32) : Option (Int32 × hk_S) :=
(mX5_troughAt E F S a0 (S a0 2)).bind (fun r1 => if E.2.1 r1.1 = 8 then ((mX10_build E F r1.2 r1.1 x1).bind (fun r3 => hk_let (hk_up r3 a0 2 ((r3 a0 2) + 1)) (fun S4 => some (((S4 a0 2) - 1), S4)))) else none)
set_option maxHeartbeats 4000000 in
set_option maxRecDepth 100000 in
theorem kX5_placeTrough (l : Launch) (g : hk_G) (E : hk_E) (F n : Nat) (S : hk_S) (a0 : Nat) (x1 : Int32) (o : Int32 × hk_S) (h0 : E.2.1 a0 = 4) (hsp : mX5_placeTrough E F S a0 x1 = some o) : Met l yX5_placeTrough (hk_ws yX5_placeTrough cX5_placeTrough 2 (Option.some Jvm.ClassFile.FieldType.int)) ({ frames := 2, cells := 0, slots := 0, locals := 41 }) (hk_Pc g E S n [.ref (g.1 + a0), .int x1]) (hk_Q g E o.2 n (some (.int o.1))) 0 0 (hk_A g) := by
  refine Met.ofW (cc := cX5_placeTrough) (maxL := 2) (ret := (Option.some Jvm.ClassFile.FieldType.int)) (by decide) rfl ?_
  intro p e s m args below meth c s₁ B hml hv
  obtain ⟨rfl, G⟩ := hk_begin hv
  have F9 : CallFix p m c cX5_placeTrough 2 s [.ref (g.1 + a0), .int x1].toArray hk_W RX5 := ⟨B.exec, B.bytes, hml, findClass_of_methodNamed B.named, fun w h => atoms_spec (ws := hk_ws yX5_placeTrough cX5_placeTrough 2 (Option.some Jvm.ClassFile.FieldType.int)) B.pre w (hk_in h)⟩
  have hx := B.exec
  have hb := B.bytes
  have hr := B.returns
  have hlocks := B.notSynchronized
  have hl := lv_entry ([.ref (g.1 + a0), .int x1]) (n := 2) (Nat.le_of_ble_eq_true rfl)
  rw [lg_entry_eq]
  generalize (lg_sl ([.ref (g.1 + a0), .int x1]) ++ List.replicate (2 - (lg_sl ([.ref (g.1 + a0), .int x1])).length) Slot.unset).toArray = ls at hl ⊢
  have hl : lv_has ls 2 [(0, .ref (g.1 + a0)), (1, .int x1)] := hl
  unfold mX5_placeTrough at hsp
  have G : hk_GG g E S n s s.heap [] := G
  refine lv_aload_n hx hb dX5_placeTrough_0 rfl (lv_at hl 0 rfl) ?_
  refine lv_aload_n hx hb dX5_placeTrough_1 rfl (lv_at hl 0 rfl) ?_
  refine hk_getI F9 G h0 hkc_3 (k := 2) (by decide) qw_156 rfl dX5_placeTrough_2 ?_
  obtain ⟨r1, er1, hsp⟩ := hk_b hsp
  refine hk_callVr (As := [.int (S a0 2)]) (rest := []) F9 G h0 hkc_3 rfl (kX5_troughAt l g E F n S a0 (S a0 2) r1 h0 er1) qv_RX5_81 ⟨rfl, rfl, (Nat.le_of_ble_eq_true rfl), (Nat.le_of_ble_eq_true rfl)⟩ rfl hl.1 rfl (Nat.le_of_ble_eq_true rfl) ⟨Nat.zero_le _, Nat.zero_le _⟩ dX5_placeTrough_5 (fun H locs G => ?_)
  obtain ⟨q2, hsp⟩ := hk_k hsp
  refine lv_iload_n hx hb dX5_placeTrough_8 rfl (lv_at hl 1 rfl) ?_
  obtain ⟨r3, er3, hsp⟩ := hk_b hsp
  refine hk_callVv (As := [.int x1]) (rest := []) F9 G q2 hkc_7 rfl (kX10_build l g E F n r1.2 r1.1 x1 r3 q2 er3) qv_RX5_36 ⟨rfl, rfl, (Nat.le_of_ble_eq_true rfl), (Nat.le_of_ble_eq_true rfl)⟩ rfl hl.1 rfl (Nat.le_of_ble_eq_true rfl) ⟨Nat.zero_le _, Nat.zero_le _⟩ dX5_placeTrough_9 (fun H locs G => ?_)
  refine lv_aload_n hx hb dX5_placeTrough_12 rfl (lv_at hl 0 rfl) ?_
  refine lv_dup hx hb dX5_placeTrough_13 rfl ?_
  refine hk_getI F9 G h0 hkc_3 (k := 2) (by decide) qw_156 rfl dX5_placeTrough_14 ?_
  refine lv_iconst (v := 1) hx hb dX5_placeTrough_17 (by decide) ?_
  refine lv_iadd hx hb dX5_placeTrough_18 ?_
  obtain ⟨S4, eS4, hsp⟩ := hk_l hsp
  refine hk_putI F9 G h0 hkc_3 (k := 2) (by decide) qw_156 rfl rfl (tyX5_ok 2 (by decide)) rfl rfl dX5_placeTrough_19 (fun H locs G => ?_)
  rw [eS4] at G
  refine lv_aload_n hx hb dX5_placeTrough_22 rfl (lv_at hl 0 rfl) ?_
  refine hk_getI F9 G h0 hkc_3 (k := 2) (by decide) qw_156 rfl dX5_placeTrough_23 ?_
  refine lv_iconst (v := 1) hx hb dX5_placeTrough_26 (by decide) ?_
  refine lv_isub hx hb dX5_placeTrough_27 ?_
  obtain rfl := hk_s hsp
  exact W.iret (v := ((S4 a0 2) - 1)) hx hb hr (fun t ht hW => hk_end G ht hW) G.2.1.2.2 dX5_placeTrough_28
def mX5_dischargeLeaf (E : hk_E) (F : Nat) (S : hk_S) (a0 : Nat) (a1 : Nat) : Option (Int32 × hk_S) :=
(mX10_quality E F S a1).bind (fun r1 => hk_let (((S a1 3) * r1.1) / 100) (fun y2 => hk_let (hk_up r1.2 a0 11 ((r1.2 a0 11) + y2)) (fun S3 => hk_let (hk_up S3 a0 8 ((S3 a0 8) + (S3 a1 3))) (fun S4 => hk_let (hk_up S4 a0 10 ((S4 a0 10) + (S4 a1 5))) (fun S5 => (mX10_removeLeaf E F S5 a1).bind (fun r6 => some (y2, r6)))))))
set_option maxHeartbeats 4000000 in
set_option maxRecDepth 100000 in
theorem kX5_dischargeLeaf (l : Launch) (g : hk_G) (E : hk_E) (F n : Nat) (S : hk_S) (a0 : Nat) (a1 : Nat) (o : Int32 × hk_S) (h0 : E.2.1 a0 = 4) (h1 : E.2.1 a1 = 8) (hsp : mX5_dischargeLeaf E F S a0 a1 = some o) : Met l yX5_dischargeLeaf (hk_ws yX5_dischargeLeaf cX5_dischargeLeaf 3 (Option.some Jvm.ClassFile.FieldType.int)) ({ frames := 3, cells := 0, slots := 0, locals := 61 }) (hk_Pc g E S n [.ref (g.1 + a0), .ref (g.1 + a1)]) (hk_Q g E o.2 n (some (.int o.1))) 0 0 (hk_A g) := by
  refine Met.ofW (cc := cX5_dischargeLeaf) (maxL := 3) (ret := (Option.some Jvm.ClassFile.FieldType.int)) (by decide) rfl ?_
  intro p e s m args below meth c s₁ B hml hv
  obtain ⟨rfl, G⟩ := hk_begin hv
  have F9 : CallFix p m c cX5_dischargeLeaf 3 s [.ref (g.1 + a0), .ref (g.1 + a1)].toArray hk_W RX5 := ⟨B.exec, B.bytes, hml, findClass_of_methodNamed B.named, fun w h => atoms_spec (ws := hk_ws yX5_dischargeLeaf cX5_dischargeLeaf 3 (Option.some Jvm.ClassFile.FieldType.int)) B.pre w (hk_in h)⟩
  have hx := B.exec
  have hb := B.bytes
  have hr := B.returns
  have hlocks := B.notSynchronized
  have hl := lv_entry ([.ref (g.1 + a0), .ref (g.1 + a1)]) (n := 3) (Nat.le_of_ble_eq_true rfl)
  rw [lg_entry_eq]
  generalize (lg_sl ([.ref (g.1 + a0), .ref (g.1 + a1)]) ++ List.replicate (3 - (lg_sl ([.ref (g.1 + a0), .ref (g.1 + a1)])).length) Slot.unset).toArray = ls at hl ⊢
  have hl : lv_has ls 3 [(0, .ref (g.1 + a0)), (1, .ref (g.1 + a1))] := hl
  unfold mX5_dischargeLeaf at hsp
  have G : hk_GG g E S n s s.heap [] := G
  refine lv_aload_n hx hb dX5_dischargeLeaf_0 rfl (lv_at hl 1 rfl) ?_
  refine hk_getI F9 G h1 hkc_7 (k := 3) (by decide) qw_79 rfl dX5_dischargeLeaf_1 ?_
  refine lv_aload_n hx hb dX5_dischargeLeaf_4 rfl (lv_at hl 1 rfl) ?_
  obtain ⟨r1, er1, hsp⟩ := hk_b hsp
  refine hk_callVi (As := []) (rest := [.int (S a1 3)]) F9 G h1 hkc_7 rfl (kX10_quality l g E F n S a1 r1 h1 er1) qv_RX5_105 ⟨rfl, rfl, (Nat.le_of_ble_eq_true rfl), (Nat.le_of_ble_eq_true rfl)⟩ rfl hl.1 rfl (Nat.le_of_ble_eq_true rfl) ⟨Nat.zero_le _, Nat.zero_le _⟩ dX5_dischargeLeaf_5 (fun H locs G => ?_)
  refine lv_imul hx hb dX5_dischargeLeaf_8 ?_
  refine lv_bipush (v := 100) hx hb dX5_dischargeLeaf_9 (by decide) ?_
  refine lv_idiv hx hb dX5_dischargeLeaf_11 (by decide) ?_
  obtain ⟨y2, ey2, hsp⟩ := hk_l hsp
  refine hk_top ey2 ?_
  refine lv_istore_n (lv' := [(2, .int y2), (0, .ref (g.1 + a0)), (1, .ref (g.1 + a1))]) hx hb dX5_dischargeLeaf_12 rfl hl (by decide) rfl (fun ls hl => ?_)
  refine lv_aload_n hx hb dX5_dischargeLeaf_13 rfl (lv_at hl 1 rfl) ?_
  refine lv_dup hx hb dX5_dischargeLeaf_14 rfl ?_
  refine hk_getI F9 G h0 hkc_3 (k := 11) (by decide) qw_169 rfl dX5_dischargeLeaf_15 ?_
  refine lv_iload_n hx hb dX5_dischargeLeaf_18 rfl (lv_at hl 0 rfl) ?_
  refine lv_iadd hx hb dX5_dischargeLeaf_19 ?_
  obtain ⟨S3, eS3, hsp⟩ := hk_l hsp
  refine hk_putI F9 G h0 hkc_3 (k := 11) (by decide) qw_169 rfl rfl (tyX5_ok 11 (by decide)) rfl rfl dX5_dischargeLeaf_20 (fun H locs G => ?_)
  rw [eS3] at G
  refine lv_aload_n hx hb dX5_dischargeLeaf_23 rfl (lv_at hl 1 rfl) ?_
  refine lv_dup hx hb dX5_dischargeLeaf_24 rfl ?_
  refine hk_getI F9 G h0 hkc_3 (k := 8) (by decide) qw_164 rfl dX5_dischargeLeaf_25 ?_
  refine lv_aload_n hx hb dX5_dischargeLeaf_28 rfl (lv_at hl 2 rfl) ?_
  refine hk_getI F9 G h1 hkc_7 (k := 3) (by decide) qw_79 rfl dX5_dischargeLeaf_29 ?_
  refine lv_iadd hx hb dX5_dischargeLeaf_32 ?_
  obtain ⟨S4, eS4, hsp⟩ := hk_l hsp
  refine hk_putI F9 G h0 hkc_3 (k := 8) (by decide) qw_164 rfl rfl (tyX5_ok 8 (by decide)) rfl rfl dX5_dischargeLeaf_33 (fun H locs G => ?_)
  rw [eS4] at G
  refine lv_aload_n hx hb dX5_dischargeLeaf_36 rfl (lv_at hl 1 rfl) ?_
  refine lv_dup hx hb dX5_dischargeLeaf_37 rfl ?_
  refine hk_getI F9 G h0 hkc_3 (k := 10) (by decide) qw_168 rfl dX5_dischargeLeaf_38 ?_
  refine lv_aload_n hx hb dX5_dischargeLeaf_41 rfl (lv_at hl 2 rfl) ?_
  refine hk_getI F9 G h1 hkc_7 (k := 5) (by decide) qw_84 rfl dX5_dischargeLeaf_42 ?_
  refine lv_iadd hx hb dX5_dischargeLeaf_45 ?_
  obtain ⟨S5, eS5, hsp⟩ := hk_l hsp
  refine hk_putI F9 G h0 hkc_3 (k := 10) (by decide) qw_168 rfl rfl (tyX5_ok 10 (by decide)) rfl rfl dX5_dischargeLeaf_46 (fun H locs G => ?_)
  rw [eS5] at G
  refine lv_aload_n hx hb dX5_dischargeLeaf_49 rfl (lv_at hl 2 rfl) ?_
  obtain ⟨r6, er6, hsp⟩ := hk_b hsp
  refine hk_callVv (As := []) (rest := []) F9 G h1 hkc_7 rfl (kX10_removeLeaf l g E F n S5 a1 r6 h1 er6) qv_RX5_112 ⟨rfl, rfl, (Nat.le_of_ble_eq_true rfl), (Nat.le_of_ble_eq_true rfl)⟩ rfl hl.1 rfl (Nat.le_of_ble_eq_true rfl) ⟨Nat.zero_le _, Nat.zero_le _⟩ dX5_dischargeLeaf_50 (fun H locs G => ?_)
  refine lv_iload_n hx hb dX5_dischargeLeaf_53 rfl (lv_at hl 0 rfl) ?_
  obtain rfl := hk_s hsp
  exact W.iret (v := y2) hx hb hr (fun t ht hW => hk_end G ht hW) G.2.1.2.2 dX5_dischargeLeaf_54
def mX5_letHoursPass_25 (E : hk_E) (F : Nat) (a0 : Nat) (x1 : Int32) (c5 : Int32) (c6 : Int32) (k : hk_S → Int32 → Option (hk_S)) : Nat → hk_S → Int32 → Option (hk_S)
  | 0 => fun _ _ => none
  | f + 1 => fun S z7 =>
    if (S a0 2) ≤ z7 then (k S z7) else (if 8 ≤ z7 then (k S z7) else ((E.2.2.2 a0 1).bind (fun r10 => if E.2.1 r10 = 16 then (if hk_ok z7 (E.2.2.1 r10) then ((E.2.2.2 r10 ((z7).toNatClampNeg)).bind (fun r12 => if E.2.1 r12 = 8 then ((mX10_passHour E F S r12 c6).bind (fun r13 => hk_let (hk_up r13.2 a0 12 ((S a0 12) + r13.1)) (fun S14 => hk_let (z7 + 1) (fun y15 => mX5_letHoursPass_25 E F a0 x1 c5 c6 k f S14 y15)))) else none)) else none) else none)))
def mX5_letHoursPass_2 (E : hk_E) (F : Nat) (a0 : Nat) (x1 : Int32)  (k : hk_S → Int32 → Option (hk_S)) : Nat → hk_S → Int32 → Option (hk_S)
  | 0 => fun _ _ => none
  | f + 1 => fun S z1 =>
    if x1 ≤ z1 then (k S z1) else ((E.2.2.2 a0 0).bind (fun r3 => if E.2.1 r3 = 1 then ((mX1_drynessOf E F S r3 (S r3 0)).bind (fun r4 => mX5_letHoursPass_25 E F a0 x1 z1 r4.1 (fun S16 z17 => hk_let (hk_up S16 r3 0 ((S16 r3 0) + 1)) (fun S18 => if ¬ ((S18 r3 0) - (S18 r3 0) / 24 * 24) = 0 then (hk_let (z1 + 1) (fun y20 => mX5_letHoursPass_2 E F a0 x1 k f S18 y20)) else ((mX5_ageProbes E F S18 a0).bind (fun r21 => hk_let (z1 + 1) (fun y22 => mX5_letHoursPass_2 E F a0 x1 k f r21 y22))))) F r4.2 0)) else none))
def mX5_letHoursPass (E : hk_E) (F : Nat) (S : hk_S) (a0 : Nat) (x1 : Int32) : Option (hk_S) :=
mX5_letHoursPass_2 E F a0 x1  (fun S23 z24 => some (S23)) F S 0
set_option maxHeartbeats 4000000 in
set_option maxRecDepth 100000 in
theorem kX5_letHoursPass (l : Launch) (g : hk_G) (E : hk_E) (F n : Nat) (S : hk_S) (a0 : Nat) (x1 : Int32) (o : hk_S) (h0 : E.2.1 a0 = 4) (hsp : mX5_letHoursPass E F S a0 x1 = some o) : Met l yX5_letHoursPass (hk_ws yX5_letHoursPass cX5_letHoursPass 5 (Option.none : Option Jvm.ClassFile.FieldType)) ({ frames := 3, cells := 0, slots := 0, locals := 65 }) (hk_Pc g E S n [.ref (g.1 + a0), .int x1]) (hk_Q g E o n none) 0 0 (hk_A g) := by
  refine Met.ofW (cc := cX5_letHoursPass) (maxL := 5) (ret := (Option.none : Option Jvm.ClassFile.FieldType)) (by decide) rfl ?_
  intro p e s m args below meth c s₁ B hml hv
  obtain ⟨rfl, G⟩ := hk_begin hv
  have F9 : CallFix p m c cX5_letHoursPass 5 s [.ref (g.1 + a0), .int x1].toArray hk_W RX5 := ⟨B.exec, B.bytes, hml, findClass_of_methodNamed B.named, fun w h => atoms_spec (ws := hk_ws yX5_letHoursPass cX5_letHoursPass 5 (Option.none : Option Jvm.ClassFile.FieldType)) B.pre w (hk_in h)⟩
  have hx := B.exec
  have hb := B.bytes
  have hr := B.returns
  have hlocks := B.notSynchronized
  have hl := lv_entry ([.ref (g.1 + a0), .int x1]) (n := 5) (Nat.le_of_ble_eq_true rfl)
  rw [lg_entry_eq]
  generalize (lg_sl ([.ref (g.1 + a0), .int x1]) ++ List.replicate (5 - (lg_sl ([.ref (g.1 + a0), .int x1])).length) Slot.unset).toArray = ls at hl ⊢
  have hl : lv_has ls 5 [(0, .ref (g.1 + a0)), (1, .int x1)] := hl
  unfold mX5_letHoursPass at hsp
  have G : hk_GG g E S n s s.heap [] := G
  have L_25 : ∀ (c5 : Int32) (c6 : Int32)  (k : hk_S → Int32 → Option (hk_S)) (_ : ∀ (S : hk_S) (z7 : Int32) (H : Heap) (locs : List Loc) (ls : Array Slot), k S z7 = some o → hk_GG g E S n s H locs → lv_has ls 5 [(0, .ref (g.1 + a0)), (1, .int x1), (2, .int c5), (3, .int c6), (4, .int z7)] → W p l e (headSpec (hk_ws yX5_letHoursPass cX5_letHoursPass 5 (Option.none : Option Jvm.ClassFile.FieldType)) ({ frames := 3, cells := 0, slots := 0, locals := 65 })).room s m [.ref (g.1 + a0), .int x1].toArray below meth c H locs 0 0 (MQ below (hk_Q g E o n none) [.ref (g.1 + a0), .int x1].toArray s 0 0 (hk_A g)) (F0 m 67 ls [])) (f : Nat) (S : hk_S) (z7 : Int32) (H : Heap) (locs : List Loc) (ls : Array Slot), mX5_letHoursPass_25 E F a0 x1 c5 c6 k f S z7 = some o → hk_GG g E S n s H locs → lv_has ls 5 [(0, .ref (g.1 + a0)), (1, .int x1), (2, .int c5), (3, .int c6), (4, .int z7)] → W p l e (headSpec (hk_ws yX5_letHoursPass cX5_letHoursPass 5 (Option.none : Option Jvm.ClassFile.FieldType)) ({ frames := 3, cells := 0, slots := 0, locals := 65 })).room s m [.ref (g.1 + a0), .int x1].toArray below meth c H locs 0 0 (MQ below (hk_Q g E o n none) [.ref (g.1 + a0), .int x1].toArray s 0 0 (hk_A g)) (F0 m 25 ls []) := by
    intro c5 c6  k hk f
    induction f with
    | zero =>
      intro S z7 H locs ls hsp
      exact nomatch hsp
    | succ f ih =>
      intro S z7 H locs ls hsp G hl
      rw [mX5_letHoursPass_25] at hsp
      refine lv_iload hx hb dX5_letHoursPass_25 (lv_at hl 4 rfl) ?_
      refine lv_aload_n hx hb dX5_letHoursPass_27 rfl (lv_at hl 0 rfl) ?_
      refine hk_getI F9 G h0 hkc_3 (k := 2) (by decide) qw_156 rfl dX5_letHoursPass_28 ?_
      refine lv_icmp_ge (tgt := 67) hx hb dX5_letHoursPass_31 (by decide) (fun c8 => ?_) (fun c8 => ?_)
      · have hsp := hk_t c8 hsp
        exact hk S z7 _ _ _ hsp G (lv_sub hl [0, 1, 2, 3, 4] rfl)
      · have hsp := hk_f c8 hsp
        refine lv_iload hx hb dX5_letHoursPass_34 (lv_at hl 4 rfl) ?_
        refine lv_bipush (v := 8) hx hb dX5_letHoursPass_36 (by decide) ?_
        refine lv_icmp_ge (tgt := 67) hx hb dX5_letHoursPass_38 (by decide) (fun c9 => ?_) (fun c9 => ?_)
        · have hsp := hk_t c9 hsp
          exact hk S z7 _ _ _ hsp G (lv_sub hl [0, 1, 2, 3, 4] rfl)
        · have hsp := hk_f c9 hsp
          refine lv_aload_n hx hb dX5_letHoursPass_41 rfl (lv_at hl 0 rfl) ?_
          refine lv_dup hx hb dX5_letHoursPass_42 rfl ?_
          refine hk_getI F9 G h0 hkc_3 (k := 12) (by decide) qw_171 rfl dX5_letHoursPass_43 ?_
          refine lv_aload_n hx hb dX5_letHoursPass_46 rfl (lv_at hl 0 rfl) ?_
          obtain ⟨r10, er10, hsp⟩ := hk_b hsp
          obtain ⟨kr10, hsp⟩ := hk_k hsp
          refine hk_getR F9 G h0 hkc_3 (k := 1) (by decide) qw_155 rfl er10 dX5_letHoursPass_47 ?_
          refine lv_iload hx hb dX5_letHoursPass_50 (lv_at hl 4 rfl) ?_
          obtain ⟨q11, hsp⟩ := hk_k hsp
          obtain ⟨r12, er12, hsp⟩ := hk_b hsp
          obtain ⟨kr12, hsp⟩ := hk_k hsp
          refine hk_aald (t := 2) (j := (z7).toNatClampNeg) F9 G kr10 (by decide) rfl rfl q11 rfl er12 dX5_letHoursPass_52 ?_
          refine lv_iload_n hx hb dX5_letHoursPass_53 rfl (lv_at hl 3 rfl) ?_
          obtain ⟨r13, er13, hsp⟩ := hk_b hsp
          refine hk_callVi (As := [.int c6]) (rest := [.int (S a0 12), .ref (g.1 + a0)]) F9 G kr12 hkc_7 rfl (kX10_passHour l g E F n S r12 c6 r13 kr12 er13) qv_RX5_122 ⟨rfl, rfl, (Nat.le_of_ble_eq_true rfl), (Nat.le_of_ble_eq_true rfl)⟩ rfl hl.1 rfl (Nat.le_of_ble_eq_true rfl) ⟨Nat.zero_le _, Nat.zero_le _⟩ dX5_letHoursPass_54 (fun H locs G => ?_)
          refine lv_iadd hx hb dX5_letHoursPass_57 ?_
          obtain ⟨S14, eS14, hsp⟩ := hk_l hsp
          refine hk_putI F9 G h0 hkc_3 (k := 12) (by decide) qw_171 rfl rfl (tyX5_ok 12 (by decide)) rfl rfl dX5_letHoursPass_58 (fun H locs G => ?_)
          rw [eS14] at G
          obtain ⟨y15, ey15, hsp⟩ := hk_l hsp
          refine lv_iinc (v := y15) (lv' := [(4, .int y15), (0, .ref (g.1 + a0)), (1, .int x1), (2, .int c5), (3, .int c6)]) hx hb dX5_letHoursPass_61 hl (k := 4) rfl (by rw [← ey15]; rfl) (by decide) rfl (fun ls hl => ?_)
          refine lv_goto (tgt := 25) hx hb dX5_letHoursPass_64 (by decide) ?_
          exact ih S14 y15 _ _ _ hsp G (lv_sub hl [1, 2, 3, 4, 0] rfl)
  have L_2 : ∀   (k : hk_S → Int32 → Option (hk_S)) (_ : ∀ (S : hk_S) (z1 : Int32) (H : Heap) (locs : List Loc) (ls : Array Slot), k S z1 = some o → hk_GG g E S n s H locs → lv_has ls 5 [(0, .ref (g.1 + a0)), (1, .int x1), (2, .int z1)] → W p l e (headSpec (hk_ws yX5_letHoursPass cX5_letHoursPass 5 (Option.none : Option Jvm.ClassFile.FieldType)) ({ frames := 3, cells := 0, slots := 0, locals := 65 })).room s m [.ref (g.1 + a0), .int x1].toArray below meth c H locs 0 0 (MQ below (hk_Q g E o n none) [.ref (g.1 + a0), .int x1].toArray s 0 0 (hk_A g)) (F0 m 103 ls [])) (f : Nat) (S : hk_S) (z1 : Int32) (H : Heap) (locs : List Loc) (ls : Array Slot), mX5_letHoursPass_2 E F a0 x1 k f S z1 = some o → hk_GG g E S n s H locs → lv_has ls 5 [(0, .ref (g.1 + a0)), (1, .int x1), (2, .int z1)] → W p l e (headSpec (hk_ws yX5_letHoursPass cX5_letHoursPass 5 (Option.none : Option Jvm.ClassFile.FieldType)) ({ frames := 3, cells := 0, slots := 0, locals := 65 })).room s m [.ref (g.1 + a0), .int x1].toArray below meth c H locs 0 0 (MQ below (hk_Q g E o n none) [.ref (g.1 + a0), .int x1].toArray s 0 0 (hk_A g)) (F0 m 2 ls []) := by
    intro   k hk f
    induction f with
    | zero =>
      intro S z1 H locs ls hsp
      exact nomatch hsp
    | succ f ih =>
      intro S z1 H locs ls hsp G hl
      rw [mX5_letHoursPass_2] at hsp
      refine lv_iload_n hx hb dX5_letHoursPass_2 rfl (lv_at hl 2 rfl) ?_
      refine lv_iload_n hx hb dX5_letHoursPass_3 rfl (lv_at hl 1 rfl) ?_
      refine lv_icmp_ge (tgt := 103) hx hb dX5_letHoursPass_4 (by decide) (fun c2 => ?_) (fun c2 => ?_)
      · have hsp := hk_t c2 hsp
        exact hk S z1 _ _ _ hsp G (lv_sub hl [0, 1, 2] rfl)
      · have hsp := hk_f c2 hsp
        refine lv_aload_n hx hb dX5_letHoursPass_7 rfl (lv_at hl 0 rfl) ?_
        obtain ⟨r3, er3, hsp⟩ := hk_b hsp
        obtain ⟨kr3, hsp⟩ := hk_k hsp
        refine hk_getR F9 G h0 hkc_3 (k := 0) (by decide) qw_153 rfl er3 dX5_letHoursPass_8 ?_
        refine lv_aload_n hx hb dX5_letHoursPass_11 rfl (lv_at hl 0 rfl) ?_
        refine hk_getR F9 G h0 hkc_3 (k := 0) (by decide) qw_153 rfl er3 dX5_letHoursPass_12 ?_
        refine hk_getI F9 G kr3 hkc_0 (k := 0) (by decide) qw_42 rfl dX5_letHoursPass_15 ?_
        obtain ⟨r4, er4, hsp⟩ := hk_b hsp
        refine hk_callVi (As := [.int (S r3 0)]) (rest := []) F9 G kr3 hkc_0 rfl (kX1_drynessOf l g E F n S r3 (S r3 0) r4 kr3 er4) qv_RX5_118 ⟨rfl, rfl, (Nat.le_of_ble_eq_true rfl), (Nat.le_of_ble_eq_true rfl)⟩ rfl hl.1 rfl (Nat.le_of_ble_eq_true rfl) ⟨Nat.zero_le _, Nat.zero_le _⟩ dX5_letHoursPass_18 (fun H locs G => ?_)
        refine lv_istore_n (lv' := [(3, .int r4.1), (0, .ref (g.1 + a0)), (1, .int x1), (2, .int z1)]) hx hb dX5_letHoursPass_21 rfl hl (by decide) rfl (fun ls hl => ?_)
        refine lv_iconst (v := 0) hx hb dX5_letHoursPass_22 (by decide) ?_
        refine lv_istore (lv' := [(4, .int 0), (3, .int r4.1), (0, .ref (g.1 + a0)), (1, .int x1), (2, .int z1)]) hx hb dX5_letHoursPass_23  hl (by decide) rfl (fun ls hl => ?_)
        refine L_25 z1 r4.1  _ ?_ F r4.2 0 _ _ _ hsp G (lv_sub hl [2, 3, 4, 1, 0] rfl)
        intro S16 z17 H locs ls hsp G hl
        refine lv_aload_n hx hb dX5_letHoursPass_67 rfl (lv_at hl 0 rfl) ?_
        refine hk_getR F9 G h0 hkc_3 (k := 0) (by decide) qw_153 rfl er3 dX5_letHoursPass_68 ?_
        refine lv_dup hx hb dX5_letHoursPass_71 rfl ?_
        refine hk_getI F9 G kr3 hkc_0 (k := 0) (by decide) qw_42 rfl dX5_letHoursPass_72 ?_
        refine lv_iconst (v := 1) hx hb dX5_letHoursPass_75 (by decide) ?_
        refine lv_iadd hx hb dX5_letHoursPass_76 ?_
        obtain ⟨S18, eS18, hsp⟩ := hk_l hsp
        refine hk_putI F9 G kr3 hkc_0 (k := 0) (by decide) qw_42 rfl rfl (tyX1_ok 0 (by decide)) rfl rfl dX5_letHoursPass_77 (fun H locs G => ?_)
        rw [eS18] at G
        refine lv_aload_n hx hb dX5_letHoursPass_80 rfl (lv_at hl 0 rfl) ?_
        refine hk_getR F9 G h0 hkc_3 (k := 0) (by decide) qw_153 rfl er3 dX5_letHoursPass_81 ?_
        refine hk_getI F9 G kr3 hkc_0 (k := 0) (by decide) qw_42 rfl dX5_letHoursPass_84 ?_
        refine lv_bipush (v := 24) hx hb dX5_letHoursPass_87 (by decide) ?_
        refine lv_irem hx hb dX5_letHoursPass_89 (by decide) ?_
        refine lv_if_ne (tgt := 97) hx hb dX5_letHoursPass_90 (by decide) (fun c19 => ?_) (fun c19 => ?_)
        · have hsp := hk_t c19 hsp
          obtain ⟨y20, ey20, hsp⟩ := hk_l hsp
          refine lv_iinc (v := y20) (lv' := [(2, .int y20), (0, .ref (g.1 + a0)), (1, .int x1), (3, .int r4.1), (4, .int z17)]) hx hb dX5_letHoursPass_97 hl (k := 2) rfl (by rw [← ey20]; rfl) (by decide) rfl (fun ls hl => ?_)
          refine lv_goto (tgt := 2) hx hb dX5_letHoursPass_100 (by decide) ?_
          exact ih S18 y20 _ _ _ hsp G (lv_sub hl [1, 2, 0] rfl)
        · have hsp := hk_g c19 hsp
          refine lv_aload_n hx hb dX5_letHoursPass_93 rfl (lv_at hl 0 rfl) ?_
          obtain ⟨r21, er21, hsp⟩ := hk_b hsp
          refine hk_callVv (As := []) (rest := []) F9 G h0 hkc_3 rfl (kX5_ageProbes l g E F n S18 a0 r21 h0 er21) qv_RX5_125 ⟨rfl, rfl, (Nat.le_of_ble_eq_true rfl), (Nat.le_of_ble_eq_true rfl)⟩ rfl hl.1 rfl (Nat.le_of_ble_eq_true rfl) ⟨Nat.zero_le _, Nat.zero_le _⟩ dX5_letHoursPass_94 (fun H locs G => ?_)
          obtain ⟨y22, ey22, hsp⟩ := hk_l hsp
          refine lv_iinc (v := y22) (lv' := [(2, .int y22), (0, .ref (g.1 + a0)), (1, .int x1), (3, .int r4.1), (4, .int z17)]) hx hb dX5_letHoursPass_97 hl (k := 2) rfl (by rw [← ey22]; rfl) (by decide) rfl (fun ls hl => ?_)
          refine lv_goto (tgt := 2) hx hb dX5_letHoursPass_100 (by decide) ?_
          exact ih r21 y22 _ _ _ hsp G (lv_sub hl [1, 2, 0] rfl)
  refine lv_iconst (v := 0) hx hb dX5_letHoursPass_0 (by decide) ?_
  refine lv_istore_n (lv' := [(2, .int 0), (0, .ref (g.1 + a0)), (1, .int x1)]) hx hb dX5_letHoursPass_1 rfl hl (by decide) rfl (fun ls hl => ?_)
  refine L_2   _ ?_ F S 0 _ _ _ hsp G (lv_sub hl [1, 2, 0] rfl)
  intro S23 z24 H locs ls hsp G hl
  obtain rfl := hk_s hsp
  exact W.vret hx hb hr (fun t ht hW => hk_end G ht hW) G.2.1.2.2 dX5_letHoursPass_103
