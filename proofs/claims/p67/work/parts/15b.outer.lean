def mX11_undoCount (E : hk_E) (F : Nat) (S : hk_S) (a0 : Nat) : Option (Int32 × hk_S) :=
(E.2.2.2 a0 3).bind (fun r1 => if E.2.1 r1 = 2 then (some ((S r1 2), S)) else none)
set_option maxHeartbeats 4000000 in
set_option maxRecDepth 100000 in
theorem kX11_undoCount (l : Launch) (g : hk_G) (E : hk_E) (F n : Nat) (S : hk_S) (a0 : Nat) (o : Int32 × hk_S) (h0 : E.2.1 a0 = 9) (hsp : mX11_undoCount E F S a0 = some o) : Met l yX11_undoCount (hk_ws yX11_undoCount cX11_undoCount 1 (Option.some Jvm.ClassFile.FieldType.int)) ({ frames := 0, cells := 0, slots := 0, locals := 0 }) (hk_Pc g E S n [.ref (g.1 + a0)]) (hk_Q g E o.2 n (some (.int o.1))) 0 0 (hk_A g) := by
  refine Met.ofW (cc := cX11_undoCount) (maxL := 1) (ret := (Option.some Jvm.ClassFile.FieldType.int)) (by decide) rfl ?_
  intro p e s m args below meth c s₁ B hml hv
  obtain ⟨rfl, G⟩ := hk_begin hv
  have F9 : CallFix p m c cX11_undoCount 1 s [.ref (g.1 + a0)].toArray hk_W RX11 := ⟨B.exec, B.bytes, hml, findClass_of_methodNamed B.named, fun w h => atoms_spec (ws := hk_ws yX11_undoCount cX11_undoCount 1 (Option.some Jvm.ClassFile.FieldType.int)) B.pre w (hk_in h)⟩
  have hx := B.exec
  have hb := B.bytes
  have hr := B.returns
  have hlocks := B.notSynchronized
  have hl := lv_entry ([.ref (g.1 + a0)]) (n := 1) (Nat.le_of_ble_eq_true rfl)
  rw [lg_entry_eq]
  generalize (lg_sl ([.ref (g.1 + a0)]) ++ List.replicate (1 - (lg_sl ([.ref (g.1 + a0)])).length) Slot.unset).toArray = ls at hl ⊢
  have hl : lv_has ls 1 [(0, .ref (g.1 + a0))] := hl
  unfold mX11_undoCount at hsp
  have G : hk_GG g E S n s s.heap [] := G
  refine lv_aload_n hx hb dX11_undoCount_0 rfl (lv_at hl 0 rfl) ?_
  obtain ⟨r1, er1, hsp⟩ := hk_b hsp
  obtain ⟨kr1, hsp⟩ := hk_k hsp
  refine hk_getR F9 G h0 hkc_8 (k := 3) (by decide) qw_363 rfl er1 dX11_undoCount_1 ?_
  refine hk_getI F9 G kr1 hkc_1 (k := 2) (by decide) qw_212 rfl dX11_undoCount_4 ?_
  obtain rfl := hk_s hsp
  exact W.iret (v := (S r1 2)) hx hb hr (fun t ht hW => hk_end G ht hW) G.2.1.2.2 dX11_undoCount_7
def mX11_hour (E : hk_E) (F : Nat) (S : hk_S) (a0 : Nat) : Option (Int32 × hk_S) :=
(E.2.2.2 a0 0).bind (fun r1 => if E.2.1 r1 = 4 then ((E.2.2.2 r1 0).bind (fun r2 => if E.2.1 r2 = 1 then (some ((S r2 0), S)) else none)) else none)
set_option maxHeartbeats 4000000 in
set_option maxRecDepth 100000 in
theorem kX11_hour (l : Launch) (g : hk_G) (E : hk_E) (F n : Nat) (S : hk_S) (a0 : Nat) (o : Int32 × hk_S) (h0 : E.2.1 a0 = 9) (hsp : mX11_hour E F S a0 = some o) : Met l yX11_hour (hk_ws yX11_hour cX11_hour 1 (Option.some Jvm.ClassFile.FieldType.int)) ({ frames := 0, cells := 0, slots := 0, locals := 0 }) (hk_Pc g E S n [.ref (g.1 + a0)]) (hk_Q g E o.2 n (some (.int o.1))) 0 0 (hk_A g) := by
  refine Met.ofW (cc := cX11_hour) (maxL := 1) (ret := (Option.some Jvm.ClassFile.FieldType.int)) (by decide) rfl ?_
  intro p e s m args below meth c s₁ B hml hv
  obtain ⟨rfl, G⟩ := hk_begin hv
  have F9 : CallFix p m c cX11_hour 1 s [.ref (g.1 + a0)].toArray hk_W RX11 := ⟨B.exec, B.bytes, hml, findClass_of_methodNamed B.named, fun w h => atoms_spec (ws := hk_ws yX11_hour cX11_hour 1 (Option.some Jvm.ClassFile.FieldType.int)) B.pre w (hk_in h)⟩
  have hx := B.exec
  have hb := B.bytes
  have hr := B.returns
  have hlocks := B.notSynchronized
  have hl := lv_entry ([.ref (g.1 + a0)]) (n := 1) (Nat.le_of_ble_eq_true rfl)
  rw [lg_entry_eq]
  generalize (lg_sl ([.ref (g.1 + a0)]) ++ List.replicate (1 - (lg_sl ([.ref (g.1 + a0)])).length) Slot.unset).toArray = ls at hl ⊢
  have hl : lv_has ls 1 [(0, .ref (g.1 + a0))] := hl
  unfold mX11_hour at hsp
  have G : hk_GG g E S n s s.heap [] := G
  refine lv_aload_n hx hb dX11_hour_0 rfl (lv_at hl 0 rfl) ?_
  obtain ⟨r1, er1, hsp⟩ := hk_b hsp
  obtain ⟨kr1, hsp⟩ := hk_k hsp
  refine hk_getR F9 G h0 hkc_8 (k := 0) (by decide) qw_360 rfl er1 dX11_hour_1 ?_
  obtain ⟨r2, er2, hsp⟩ := hk_b hsp
  obtain ⟨kr2, hsp⟩ := hk_k hsp
  refine hk_getR F9 G kr1 hkc_3 (k := 0) (by decide) qw_154 rfl er2 dX11_hour_4 ?_
  refine hk_getI F9 G kr2 hkc_0 (k := 0) (by decide) qw_43 rfl dX11_hour_7 ?_
  obtain rfl := hk_s hsp
  exact W.iret (v := (S r2 0)) hx hb hr (fun t ht hW => hk_end G ht hW) G.2.1.2.2 dX11_hour_10
def mX11_day (E : hk_E) (F : Nat) (S : hk_S) (a0 : Nat) : Option (Int32 × hk_S) :=
(E.2.2.2 a0 0).bind (fun r1 => if E.2.1 r1 = 4 then ((E.2.2.2 r1 0).bind (fun r2 => if E.2.1 r2 = 1 then ((mX1_presentDay E F S r2).bind (fun r3 => some (r3.1, r3.2))) else none)) else none)
set_option maxHeartbeats 4000000 in
set_option maxRecDepth 100000 in
theorem kX11_day (l : Launch) (g : hk_G) (E : hk_E) (F n : Nat) (S : hk_S) (a0 : Nat) (o : Int32 × hk_S) (h0 : E.2.1 a0 = 9) (hsp : mX11_day E F S a0 = some o) : Met l yX11_day (hk_ws yX11_day cX11_day 1 (Option.some Jvm.ClassFile.FieldType.int)) ({ frames := 1, cells := 0, slots := 0, locals := 20 }) (hk_Pc g E S n [.ref (g.1 + a0)]) (hk_Q g E o.2 n (some (.int o.1))) 0 0 (hk_A g) := by
  refine Met.ofW (cc := cX11_day) (maxL := 1) (ret := (Option.some Jvm.ClassFile.FieldType.int)) (by decide) rfl ?_
  intro p e s m args below meth c s₁ B hml hv
  obtain ⟨rfl, G⟩ := hk_begin hv
  have F9 : CallFix p m c cX11_day 1 s [.ref (g.1 + a0)].toArray hk_W RX11 := ⟨B.exec, B.bytes, hml, findClass_of_methodNamed B.named, fun w h => atoms_spec (ws := hk_ws yX11_day cX11_day 1 (Option.some Jvm.ClassFile.FieldType.int)) B.pre w (hk_in h)⟩
  have hx := B.exec
  have hb := B.bytes
  have hr := B.returns
  have hlocks := B.notSynchronized
  have hl := lv_entry ([.ref (g.1 + a0)]) (n := 1) (Nat.le_of_ble_eq_true rfl)
  rw [lg_entry_eq]
  generalize (lg_sl ([.ref (g.1 + a0)]) ++ List.replicate (1 - (lg_sl ([.ref (g.1 + a0)])).length) Slot.unset).toArray = ls at hl ⊢
  have hl : lv_has ls 1 [(0, .ref (g.1 + a0))] := hl
  unfold mX11_day at hsp
  have G : hk_GG g E S n s s.heap [] := G
  refine lv_aload_n hx hb dX11_day_0 rfl (lv_at hl 0 rfl) ?_
  obtain ⟨r1, er1, hsp⟩ := hk_b hsp
  obtain ⟨kr1, hsp⟩ := hk_k hsp
  refine hk_getR F9 G h0 hkc_8 (k := 0) (by decide) qw_360 rfl er1 dX11_day_1 ?_
  obtain ⟨r2, er2, hsp⟩ := hk_b hsp
  obtain ⟨kr2, hsp⟩ := hk_k hsp
  refine hk_getR F9 G kr1 hkc_3 (k := 0) (by decide) qw_154 rfl er2 dX11_day_4 ?_
  obtain ⟨r3, er3, hsp⟩ := hk_b hsp
  refine hk_callVi (As := []) (rest := []) F9 G kr2 hkc_0 rfl (kX1_presentDay l g E F n S r2 r3 kr2 er3) qv_RX11_142 ⟨rfl, rfl, (Nat.le_of_ble_eq_true rfl), (Nat.le_of_ble_eq_true rfl)⟩ rfl hl.1 rfl (Nat.le_of_ble_eq_true rfl) ⟨Nat.zero_le _, Nat.zero_le _⟩ dX11_day_7 (fun H locs G => ?_)
  obtain rfl := hk_s hsp
  exact W.iret (v := r3.1) hx hb hr (fun t ht hW => hk_end G ht hW) G.2.1.2.2 dX11_day_10
def mX11_dryness (E : hk_E) (F : Nat) (S : hk_S) (a0 : Nat) : Option (Int32 × hk_S) :=
(E.2.2.2 a0 0).bind (fun r1 => if E.2.1 r1 = 4 then ((E.2.2.2 r1 0).bind (fun r2 => if E.2.1 r2 = 1 then ((mX1_drynessOf E F S r2 (S r2 0)).bind (fun r3 => some (r3.1, r3.2))) else none)) else none)
set_option maxHeartbeats 4000000 in
set_option maxRecDepth 100000 in
theorem kX11_dryness (l : Launch) (g : hk_G) (E : hk_E) (F n : Nat) (S : hk_S) (a0 : Nat) (o : Int32 × hk_S) (h0 : E.2.1 a0 = 9) (hsp : mX11_dryness E F S a0 = some o) : Met l yX11_dryness (hk_ws yX11_dryness cX11_dryness 1 (Option.some Jvm.ClassFile.FieldType.int)) ({ frames := 3, cells := 0, slots := 0, locals := 65 }) (hk_Pc g E S n [.ref (g.1 + a0)]) (hk_Q g E o.2 n (some (.int o.1))) 0 0 (hk_A g) := by
  refine Met.ofW (cc := cX11_dryness) (maxL := 1) (ret := (Option.some Jvm.ClassFile.FieldType.int)) (by decide) rfl ?_
  intro p e s m args below meth c s₁ B hml hv
  obtain ⟨rfl, G⟩ := hk_begin hv
  have F9 : CallFix p m c cX11_dryness 1 s [.ref (g.1 + a0)].toArray hk_W RX11 := ⟨B.exec, B.bytes, hml, findClass_of_methodNamed B.named, fun w h => atoms_spec (ws := hk_ws yX11_dryness cX11_dryness 1 (Option.some Jvm.ClassFile.FieldType.int)) B.pre w (hk_in h)⟩
  have hx := B.exec
  have hb := B.bytes
  have hr := B.returns
  have hlocks := B.notSynchronized
  have hl := lv_entry ([.ref (g.1 + a0)]) (n := 1) (Nat.le_of_ble_eq_true rfl)
  rw [lg_entry_eq]
  generalize (lg_sl ([.ref (g.1 + a0)]) ++ List.replicate (1 - (lg_sl ([.ref (g.1 + a0)])).length) Slot.unset).toArray = ls at hl ⊢
  have hl : lv_has ls 1 [(0, .ref (g.1 + a0))] := hl
  unfold mX11_dryness at hsp
  have G : hk_GG g E S n s s.heap [] := G
  refine lv_aload_n hx hb dX11_dryness_0 rfl (lv_at hl 0 rfl) ?_
  obtain ⟨r1, er1, hsp⟩ := hk_b hsp
  obtain ⟨kr1, hsp⟩ := hk_k hsp
  refine hk_getR F9 G h0 hkc_8 (k := 0) (by decide) qw_360 rfl er1 dX11_dryness_1 ?_
  obtain ⟨r2, er2, hsp⟩ := hk_b hsp
  obtain ⟨kr2, hsp⟩ := hk_k hsp
  refine hk_getR F9 G kr1 hkc_3 (k := 0) (by decide) qw_154 rfl er2 dX11_dryness_4 ?_
  refine lv_aload_n hx hb dX11_dryness_7 rfl (lv_at hl 0 rfl) ?_
  refine hk_getR F9 G h0 hkc_8 (k := 0) (by decide) qw_360 rfl er1 dX11_dryness_8 ?_
  refine hk_getR F9 G kr1 hkc_3 (k := 0) (by decide) qw_154 rfl er2 dX11_dryness_11 ?_
  refine hk_getI F9 G kr2 hkc_0 (k := 0) (by decide) qw_43 rfl dX11_dryness_14 ?_
  obtain ⟨r3, er3, hsp⟩ := hk_b hsp
  refine hk_callVi (As := [.int (S r2 0)]) (rest := []) F9 G kr2 hkc_0 rfl (kX1_drynessOf l g E F n S r2 (S r2 0) r3 kr2 er3) qv_RX11_230 ⟨rfl, rfl, (Nat.le_of_ble_eq_true rfl), (Nat.le_of_ble_eq_true rfl)⟩ rfl hl.1 rfl (Nat.le_of_ble_eq_true rfl) ⟨Nat.zero_le _, Nat.zero_le _⟩ dX11_dryness_17 (fun H locs G => ?_)
  obtain rfl := hk_s hsp
  exact W.iret (v := r3.1) hx hb hr (fun t ht hW => hk_end G ht hW) G.2.1.2.2 dX11_dryness_20
def mX11_hoursToMonsoon (E : hk_E) (F : Nat) (S : hk_S) (a0 : Nat) : Option (Int32 × hk_S) :=
(E.2.2.2 a0 0).bind (fun r1 => if E.2.1 r1 = 4 then ((E.2.2.2 r1 0).bind (fun r2 => if E.2.1 r2 = 1 then ((mX1_hoursToNextMonsoon E F S r2).bind (fun r3 => some (r3.1, r3.2))) else none)) else none)
set_option maxHeartbeats 4000000 in
set_option maxRecDepth 100000 in
theorem kX11_hoursToMonsoon (l : Launch) (g : hk_G) (E : hk_E) (F n : Nat) (S : hk_S) (a0 : Nat) (o : Int32 × hk_S) (h0 : E.2.1 a0 = 9) (hsp : mX11_hoursToMonsoon E F S a0 = some o) : Met l yX11_hoursToMonsoon (hk_ws yX11_hoursToMonsoon cX11_hoursToMonsoon 1 (Option.some Jvm.ClassFile.FieldType.int)) ({ frames := 1, cells := 0, slots := 0, locals := 23 }) (hk_Pc g E S n [.ref (g.1 + a0)]) (hk_Q g E o.2 n (some (.int o.1))) 0 0 (hk_A g) := by
  refine Met.ofW (cc := cX11_hoursToMonsoon) (maxL := 1) (ret := (Option.some Jvm.ClassFile.FieldType.int)) (by decide) rfl ?_
  intro p e s m args below meth c s₁ B hml hv
  obtain ⟨rfl, G⟩ := hk_begin hv
  have F9 : CallFix p m c cX11_hoursToMonsoon 1 s [.ref (g.1 + a0)].toArray hk_W RX11 := ⟨B.exec, B.bytes, hml, findClass_of_methodNamed B.named, fun w h => atoms_spec (ws := hk_ws yX11_hoursToMonsoon cX11_hoursToMonsoon 1 (Option.some Jvm.ClassFile.FieldType.int)) B.pre w (hk_in h)⟩
  have hx := B.exec
  have hb := B.bytes
  have hr := B.returns
  have hlocks := B.notSynchronized
  have hl := lv_entry ([.ref (g.1 + a0)]) (n := 1) (Nat.le_of_ble_eq_true rfl)
  rw [lg_entry_eq]
  generalize (lg_sl ([.ref (g.1 + a0)]) ++ List.replicate (1 - (lg_sl ([.ref (g.1 + a0)])).length) Slot.unset).toArray = ls at hl ⊢
  have hl : lv_has ls 1 [(0, .ref (g.1 + a0))] := hl
  unfold mX11_hoursToMonsoon at hsp
  have G : hk_GG g E S n s s.heap [] := G
  refine lv_aload_n hx hb dX11_hoursToMonsoon_0 rfl (lv_at hl 0 rfl) ?_
  obtain ⟨r1, er1, hsp⟩ := hk_b hsp
  obtain ⟨kr1, hsp⟩ := hk_k hsp
  refine hk_getR F9 G h0 hkc_8 (k := 0) (by decide) qw_360 rfl er1 dX11_hoursToMonsoon_1 ?_
  obtain ⟨r2, er2, hsp⟩ := hk_b hsp
  obtain ⟨kr2, hsp⟩ := hk_k hsp
  refine hk_getR F9 G kr1 hkc_3 (k := 0) (by decide) qw_154 rfl er2 dX11_hoursToMonsoon_4 ?_
  obtain ⟨r3, er3, hsp⟩ := hk_b hsp
  refine hk_callVi (As := []) (rest := []) F9 G kr2 hkc_0 rfl (kX1_hoursToNextMonsoon l g E F n S r2 r3 kr2 er3) qv_RX11_233 ⟨rfl, rfl, (Nat.le_of_ble_eq_true rfl), (Nat.le_of_ble_eq_true rfl)⟩ rfl hl.1 rfl (Nat.le_of_ble_eq_true rfl) ⟨Nat.zero_le _, Nat.zero_le _⟩ dX11_hoursToMonsoon_7 (fun H locs G => ?_)
  obtain rfl := hk_s hsp
  exact W.iret (v := r3.1) hx hb hr (fun t ht hW => hk_end G ht hW) G.2.1.2.2 dX11_hoursToMonsoon_10
def mX11_troughCount (E : hk_E) (F : Nat) (S : hk_S) (a0 : Nat) : Option (Int32 × hk_S) :=
(E.2.2.2 a0 0).bind (fun r1 => if E.2.1 r1 = 4 then (some ((S r1 2), S)) else none)
set_option maxHeartbeats 4000000 in
set_option maxRecDepth 100000 in
theorem kX11_troughCount (l : Launch) (g : hk_G) (E : hk_E) (F n : Nat) (S : hk_S) (a0 : Nat) (o : Int32 × hk_S) (h0 : E.2.1 a0 = 9) (hsp : mX11_troughCount E F S a0 = some o) : Met l yX11_troughCount (hk_ws yX11_troughCount cX11_troughCount 1 (Option.some Jvm.ClassFile.FieldType.int)) ({ frames := 0, cells := 0, slots := 0, locals := 0 }) (hk_Pc g E S n [.ref (g.1 + a0)]) (hk_Q g E o.2 n (some (.int o.1))) 0 0 (hk_A g) := by
  refine Met.ofW (cc := cX11_troughCount) (maxL := 1) (ret := (Option.some Jvm.ClassFile.FieldType.int)) (by decide) rfl ?_
  intro p e s m args below meth c s₁ B hml hv
  obtain ⟨rfl, G⟩ := hk_begin hv
  have F9 : CallFix p m c cX11_troughCount 1 s [.ref (g.1 + a0)].toArray hk_W RX11 := ⟨B.exec, B.bytes, hml, findClass_of_methodNamed B.named, fun w h => atoms_spec (ws := hk_ws yX11_troughCount cX11_troughCount 1 (Option.some Jvm.ClassFile.FieldType.int)) B.pre w (hk_in h)⟩
  have hx := B.exec
  have hb := B.bytes
  have hr := B.returns
  have hlocks := B.notSynchronized
  have hl := lv_entry ([.ref (g.1 + a0)]) (n := 1) (Nat.le_of_ble_eq_true rfl)
  rw [lg_entry_eq]
  generalize (lg_sl ([.ref (g.1 + a0)]) ++ List.replicate (1 - (lg_sl ([.ref (g.1 + a0)])).length) Slot.unset).toArray = ls at hl ⊢
  have hl : lv_has ls 1 [(0, .ref (g.1 + a0))] := hl
  unfold mX11_troughCount at hsp
  have G : hk_GG g E S n s s.heap [] := G
  refine lv_aload_n hx hb dX11_troughCount_0 rfl (lv_at hl 0 rfl) ?_
  obtain ⟨r1, er1, hsp⟩ := hk_b hsp
  obtain ⟨kr1, hsp⟩ := hk_k hsp
  refine hk_getR F9 G h0 hkc_8 (k := 0) (by decide) qw_360 rfl er1 dX11_troughCount_1 ?_
  refine hk_getI F9 G kr1 hkc_3 (k := 2) (by decide) qw_157 rfl dX11_troughCount_4 ?_
  obtain rfl := hk_s hsp
  exact W.iret (v := (S r1 2)) hx hb hr (fun t ht hW => hk_end G ht hW) G.2.1.2.2 dX11_troughCount_7
def mX11_probeCount (E : hk_E) (F : Nat) (S : hk_S) (a0 : Nat) : Option (Int32 × hk_S) :=
(E.2.2.2 a0 0).bind (fun r1 => if E.2.1 r1 = 4 then (some ((S r1 4), S)) else none)
set_option maxHeartbeats 4000000 in
set_option maxRecDepth 100000 in
theorem kX11_probeCount (l : Launch) (g : hk_G) (E : hk_E) (F n : Nat) (S : hk_S) (a0 : Nat) (o : Int32 × hk_S) (h0 : E.2.1 a0 = 9) (hsp : mX11_probeCount E F S a0 = some o) : Met l yX11_probeCount (hk_ws yX11_probeCount cX11_probeCount 1 (Option.some Jvm.ClassFile.FieldType.int)) ({ frames := 0, cells := 0, slots := 0, locals := 0 }) (hk_Pc g E S n [.ref (g.1 + a0)]) (hk_Q g E o.2 n (some (.int o.1))) 0 0 (hk_A g) := by
  refine Met.ofW (cc := cX11_probeCount) (maxL := 1) (ret := (Option.some Jvm.ClassFile.FieldType.int)) (by decide) rfl ?_
  intro p e s m args below meth c s₁ B hml hv
  obtain ⟨rfl, G⟩ := hk_begin hv
  have F9 : CallFix p m c cX11_probeCount 1 s [.ref (g.1 + a0)].toArray hk_W RX11 := ⟨B.exec, B.bytes, hml, findClass_of_methodNamed B.named, fun w h => atoms_spec (ws := hk_ws yX11_probeCount cX11_probeCount 1 (Option.some Jvm.ClassFile.FieldType.int)) B.pre w (hk_in h)⟩
  have hx := B.exec
  have hb := B.bytes
  have hr := B.returns
  have hlocks := B.notSynchronized
  have hl := lv_entry ([.ref (g.1 + a0)]) (n := 1) (Nat.le_of_ble_eq_true rfl)
  rw [lg_entry_eq]
  generalize (lg_sl ([.ref (g.1 + a0)]) ++ List.replicate (1 - (lg_sl ([.ref (g.1 + a0)])).length) Slot.unset).toArray = ls at hl ⊢
  have hl : lv_has ls 1 [(0, .ref (g.1 + a0))] := hl
  unfold mX11_probeCount at hsp
  have G : hk_GG g E S n s s.heap [] := G
  refine lv_aload_n hx hb dX11_probeCount_0 rfl (lv_at hl 0 rfl) ?_
  obtain ⟨r1, er1, hsp⟩ := hk_b hsp
  obtain ⟨kr1, hsp⟩ := hk_k hsp
  refine hk_getR F9 G h0 hkc_8 (k := 0) (by decide) qw_360 rfl er1 dX11_probeCount_1 ?_
  refine hk_getI F9 G kr1 hkc_3 (k := 4) (by decide) qw_160 rfl dX11_probeCount_4 ?_
  obtain rfl := hk_s hsp
  exact W.iret (v := (S r1 4)) hx hb hr (fun t ht hW => hk_end G ht hW) G.2.1.2.2 dX11_probeCount_7
def mX11_dischargedKilograms (E : hk_E) (F : Nat) (S : hk_S) (a0 : Nat) : Option (Int32 × hk_S) :=
(E.2.2.2 a0 0).bind (fun r1 => if E.2.1 r1 = 4 then (some ((S r1 8), S)) else none)
set_option maxHeartbeats 4000000 in
set_option maxRecDepth 100000 in
theorem kX11_dischargedKilograms (l : Launch) (g : hk_G) (E : hk_E) (F n : Nat) (S : hk_S) (a0 : Nat) (o : Int32 × hk_S) (h0 : E.2.1 a0 = 9) (hsp : mX11_dischargedKilograms E F S a0 = some o) : Met l yX11_dischargedKilograms (hk_ws yX11_dischargedKilograms cX11_dischargedKilograms 1 (Option.some Jvm.ClassFile.FieldType.int)) ({ frames := 0, cells := 0, slots := 0, locals := 0 }) (hk_Pc g E S n [.ref (g.1 + a0)]) (hk_Q g E o.2 n (some (.int o.1))) 0 0 (hk_A g) := by
  refine Met.ofW (cc := cX11_dischargedKilograms) (maxL := 1) (ret := (Option.some Jvm.ClassFile.FieldType.int)) (by decide) rfl ?_
  intro p e s m args below meth c s₁ B hml hv
  obtain ⟨rfl, G⟩ := hk_begin hv
  have F9 : CallFix p m c cX11_dischargedKilograms 1 s [.ref (g.1 + a0)].toArray hk_W RX11 := ⟨B.exec, B.bytes, hml, findClass_of_methodNamed B.named, fun w h => atoms_spec (ws := hk_ws yX11_dischargedKilograms cX11_dischargedKilograms 1 (Option.some Jvm.ClassFile.FieldType.int)) B.pre w (hk_in h)⟩
  have hx := B.exec
  have hb := B.bytes
  have hr := B.returns
  have hlocks := B.notSynchronized
  have hl := lv_entry ([.ref (g.1 + a0)]) (n := 1) (Nat.le_of_ble_eq_true rfl)
  rw [lg_entry_eq]
  generalize (lg_sl ([.ref (g.1 + a0)]) ++ List.replicate (1 - (lg_sl ([.ref (g.1 + a0)])).length) Slot.unset).toArray = ls at hl ⊢
  have hl : lv_has ls 1 [(0, .ref (g.1 + a0))] := hl
  unfold mX11_dischargedKilograms at hsp
  have G : hk_GG g E S n s s.heap [] := G
  refine lv_aload_n hx hb dX11_dischargedKilograms_0 rfl (lv_at hl 0 rfl) ?_
  obtain ⟨r1, er1, hsp⟩ := hk_b hsp
  obtain ⟨kr1, hsp⟩ := hk_k hsp
  refine hk_getR F9 G h0 hkc_8 (k := 0) (by decide) qw_360 rfl er1 dX11_dischargedKilograms_1 ?_
  refine hk_getI F9 G kr1 hkc_3 (k := 8) (by decide) qw_165 rfl dX11_dischargedKilograms_4 ?_
  obtain rfl := hk_s hsp
  exact W.iret (v := (S r1 8)) hx hb hr (fun t ht hW => hk_end G ht hW) G.2.1.2.2 dX11_dischargedKilograms_7
def mX11_discardedKilograms (E : hk_E) (F : Nat) (S : hk_S) (a0 : Nat) : Option (Int32 × hk_S) :=
(E.2.2.2 a0 0).bind (fun r1 => if E.2.1 r1 = 4 then (some ((S r1 9), S)) else none)
set_option maxHeartbeats 4000000 in
set_option maxRecDepth 100000 in
theorem kX11_discardedKilograms (l : Launch) (g : hk_G) (E : hk_E) (F n : Nat) (S : hk_S) (a0 : Nat) (o : Int32 × hk_S) (h0 : E.2.1 a0 = 9) (hsp : mX11_discardedKilograms E F S a0 = some o) : Met l yX11_discardedKilograms (hk_ws yX11_discardedKilograms cX11_discardedKilograms 1 (Option.some Jvm.ClassFile.FieldType.int)) ({ frames := 0, cells := 0, slots := 0, locals := 0 }) (hk_Pc g E S n [.ref (g.1 + a0)]) (hk_Q g E o.2 n (some (.int o.1))) 0 0 (hk_A g) := by
  refine Met.ofW (cc := cX11_discardedKilograms) (maxL := 1) (ret := (Option.some Jvm.ClassFile.FieldType.int)) (by decide) rfl ?_
  intro p e s m args below meth c s₁ B hml hv
  obtain ⟨rfl, G⟩ := hk_begin hv
  have F9 : CallFix p m c cX11_discardedKilograms 1 s [.ref (g.1 + a0)].toArray hk_W RX11 := ⟨B.exec, B.bytes, hml, findClass_of_methodNamed B.named, fun w h => atoms_spec (ws := hk_ws yX11_discardedKilograms cX11_discardedKilograms 1 (Option.some Jvm.ClassFile.FieldType.int)) B.pre w (hk_in h)⟩
  have hx := B.exec
  have hb := B.bytes
  have hr := B.returns
  have hlocks := B.notSynchronized
  have hl := lv_entry ([.ref (g.1 + a0)]) (n := 1) (Nat.le_of_ble_eq_true rfl)
  rw [lg_entry_eq]
  generalize (lg_sl ([.ref (g.1 + a0)]) ++ List.replicate (1 - (lg_sl ([.ref (g.1 + a0)])).length) Slot.unset).toArray = ls at hl ⊢
  have hl : lv_has ls 1 [(0, .ref (g.1 + a0))] := hl
  unfold mX11_discardedKilograms at hsp
  have G : hk_GG g E S n s s.heap [] := G
  refine lv_aload_n hx hb dX11_discardedKilograms_0 rfl (lv_at hl 0 rfl) ?_
  obtain ⟨r1, er1, hsp⟩ := hk_b hsp
  obtain ⟨kr1, hsp⟩ := hk_k hsp
  refine hk_getR F9 G h0 hkc_8 (k := 0) (by decide) qw_360 rfl er1 dX11_discardedKilograms_1 ?_
  refine hk_getI F9 G kr1 hkc_3 (k := 9) (by decide) qw_167 rfl dX11_discardedKilograms_4 ?_
  obtain rfl := hk_s hsp
  exact W.iret (v := (S r1 9)) hx hb hr (fun t ht hW => hk_end G ht hW) G.2.1.2.2 dX11_discardedKilograms_7
def mX11_totalWorth (E : hk_E) (F : Nat) (S : hk_S) (a0 : Nat) : Option (Int32 × hk_S) :=
(E.2.2.2 a0 0).bind (fun r1 => if E.2.1 r1 = 4 then (some ((S r1 11), S)) else none)
set_option maxHeartbeats 4000000 in
set_option maxRecDepth 100000 in
theorem kX11_totalWorth (l : Launch) (g : hk_G) (E : hk_E) (F n : Nat) (S : hk_S) (a0 : Nat) (o : Int32 × hk_S) (h0 : E.2.1 a0 = 9) (hsp : mX11_totalWorth E F S a0 = some o) : Met l yX11_totalWorth (hk_ws yX11_totalWorth cX11_totalWorth 1 (Option.some Jvm.ClassFile.FieldType.int)) ({ frames := 0, cells := 0, slots := 0, locals := 0 }) (hk_Pc g E S n [.ref (g.1 + a0)]) (hk_Q g E o.2 n (some (.int o.1))) 0 0 (hk_A g) := by
  refine Met.ofW (cc := cX11_totalWorth) (maxL := 1) (ret := (Option.some Jvm.ClassFile.FieldType.int)) (by decide) rfl ?_
  intro p e s m args below meth c s₁ B hml hv
  obtain ⟨rfl, G⟩ := hk_begin hv
  have F9 : CallFix p m c cX11_totalWorth 1 s [.ref (g.1 + a0)].toArray hk_W RX11 := ⟨B.exec, B.bytes, hml, findClass_of_methodNamed B.named, fun w h => atoms_spec (ws := hk_ws yX11_totalWorth cX11_totalWorth 1 (Option.some Jvm.ClassFile.FieldType.int)) B.pre w (hk_in h)⟩
  have hx := B.exec
  have hb := B.bytes
  have hr := B.returns
  have hlocks := B.notSynchronized
  have hl := lv_entry ([.ref (g.1 + a0)]) (n := 1) (Nat.le_of_ble_eq_true rfl)
  rw [lg_entry_eq]
  generalize (lg_sl ([.ref (g.1 + a0)]) ++ List.replicate (1 - (lg_sl ([.ref (g.1 + a0)])).length) Slot.unset).toArray = ls at hl ⊢
  have hl : lv_has ls 1 [(0, .ref (g.1 + a0))] := hl
  unfold mX11_totalWorth at hsp
  have G : hk_GG g E S n s s.heap [] := G
  refine lv_aload_n hx hb dX11_totalWorth_0 rfl (lv_at hl 0 rfl) ?_
  obtain ⟨r1, er1, hsp⟩ := hk_b hsp
  obtain ⟨kr1, hsp⟩ := hk_k hsp
  refine hk_getR F9 G h0 hkc_8 (k := 0) (by decide) qw_360 rfl er1 dX11_totalWorth_1 ?_
  refine hk_getI F9 G kr1 hkc_3 (k := 11) (by decide) qw_170 rfl dX11_totalWorth_4 ?_
  obtain rfl := hk_s hsp
  exact W.iret (v := (S r1 11)) hx hb hr (fun t ht hW => hk_end G ht hW) G.2.1.2.2 dX11_totalWorth_7
def mX11_lostWater (E : hk_E) (F : Nat) (S : hk_S) (a0 : Nat) : Option (Int32 × hk_S) :=
(E.2.2.2 a0 0).bind (fun r1 => if E.2.1 r1 = 4 then (some ((S r1 12), S)) else none)
set_option maxHeartbeats 4000000 in
set_option maxRecDepth 100000 in
theorem kX11_lostWater (l : Launch) (g : hk_G) (E : hk_E) (F n : Nat) (S : hk_S) (a0 : Nat) (o : Int32 × hk_S) (h0 : E.2.1 a0 = 9) (hsp : mX11_lostWater E F S a0 = some o) : Met l yX11_lostWater (hk_ws yX11_lostWater cX11_lostWater 1 (Option.some Jvm.ClassFile.FieldType.int)) ({ frames := 0, cells := 0, slots := 0, locals := 0 }) (hk_Pc g E S n [.ref (g.1 + a0)]) (hk_Q g E o.2 n (some (.int o.1))) 0 0 (hk_A g) := by
  refine Met.ofW (cc := cX11_lostWater) (maxL := 1) (ret := (Option.some Jvm.ClassFile.FieldType.int)) (by decide) rfl ?_
  intro p e s m args below meth c s₁ B hml hv
  obtain ⟨rfl, G⟩ := hk_begin hv
  have F9 : CallFix p m c cX11_lostWater 1 s [.ref (g.1 + a0)].toArray hk_W RX11 := ⟨B.exec, B.bytes, hml, findClass_of_methodNamed B.named, fun w h => atoms_spec (ws := hk_ws yX11_lostWater cX11_lostWater 1 (Option.some Jvm.ClassFile.FieldType.int)) B.pre w (hk_in h)⟩
  have hx := B.exec
  have hb := B.bytes
  have hr := B.returns
  have hlocks := B.notSynchronized
  have hl := lv_entry ([.ref (g.1 + a0)]) (n := 1) (Nat.le_of_ble_eq_true rfl)
  rw [lg_entry_eq]
  generalize (lg_sl ([.ref (g.1 + a0)]) ++ List.replicate (1 - (lg_sl ([.ref (g.1 + a0)])).length) Slot.unset).toArray = ls at hl ⊢
  have hl : lv_has ls 1 [(0, .ref (g.1 + a0))] := hl
  unfold mX11_lostWater at hsp
  have G : hk_GG g E S n s s.heap [] := G
  refine lv_aload_n hx hb dX11_lostWater_0 rfl (lv_at hl 0 rfl) ?_
  obtain ⟨r1, er1, hsp⟩ := hk_b hsp
  obtain ⟨kr1, hsp⟩ := hk_k hsp
  refine hk_getR F9 G h0 hkc_8 (k := 0) (by decide) qw_360 rfl er1 dX11_lostWater_1 ?_
  refine hk_getI F9 G kr1 hkc_3 (k := 12) (by decide) qw_172 rfl dX11_lostWater_4 ?_
  obtain rfl := hk_s hsp
  exact W.iret (v := (S r1 12)) hx hb hr (fun t ht hW => hk_end G ht hW) G.2.1.2.2 dX11_lostWater_7
def mX11_existingTrough (E : hk_E) (F : Nat) (S : hk_S) (a0 : Nat) (x1 : Int32) : Option (Nat × hk_S) :=
(E.2.2.2 a0 0).bind (fun r1 => if E.2.1 r1 = 4 then ((mX5_hasTrough E F S r1 x1).bind (fun r2 => if ¬ r2.1 = 0 then ((mX5_troughAt E F r2.2 r1 x1).bind (fun r4 => if E.2.1 r4.1 = 8 then (some (r4.1, r4.2)) else none)) else (none))) else none)
set_option maxHeartbeats 4000000 in
set_option maxRecDepth 100000 in
theorem kX11_existingTrough (l : Launch) (g : hk_G) (E : hk_E) (F n : Nat) (S : hk_S) (a0 : Nat) (x1 : Int32) (o : Nat × hk_S) (h0 : E.2.1 a0 = 9) (hsp : mX11_existingTrough E F S a0 x1 = some o) : Met l yX11_existingTrough (hk_ws yX11_existingTrough cX11_existingTrough 2 (Option.some (Jvm.ClassFile.FieldType.object "WitheringLoft$Trough"))) ({ frames := 1, cells := 0, slots := 0, locals := 21 }) (hk_Pc g E S n [.ref (g.1 + a0), .int x1]) (hk_Q g E o.2 n (some (.ref (g.1 + o.1)))) 0 0 (hk_A g) := by
  refine Met.ofW (cc := cX11_existingTrough) (maxL := 2) (ret := (Option.some (Jvm.ClassFile.FieldType.object "WitheringLoft$Trough"))) (by decide) rfl ?_
  intro p e s m args below meth c s₁ B hml hv
  obtain ⟨rfl, G⟩ := hk_begin hv
  have F9 : CallFix p m c cX11_existingTrough 2 s [.ref (g.1 + a0), .int x1].toArray hk_W RX11 := ⟨B.exec, B.bytes, hml, findClass_of_methodNamed B.named, fun w h => atoms_spec (ws := hk_ws yX11_existingTrough cX11_existingTrough 2 (Option.some (Jvm.ClassFile.FieldType.object "WitheringLoft$Trough"))) B.pre w (hk_in h)⟩
  have hx := B.exec
  have hb := B.bytes
  have hr := B.returns
  have hlocks := B.notSynchronized
  have hl := lv_entry ([.ref (g.1 + a0), .int x1]) (n := 2) (Nat.le_of_ble_eq_true rfl)
  rw [lg_entry_eq]
  generalize (lg_sl ([.ref (g.1 + a0), .int x1]) ++ List.replicate (2 - (lg_sl ([.ref (g.1 + a0), .int x1])).length) Slot.unset).toArray = ls at hl ⊢
  have hl : lv_has ls 2 [(0, .ref (g.1 + a0)), (1, .int x1)] := hl
  unfold mX11_existingTrough at hsp
  have G : hk_GG g E S n s s.heap [] := G
  refine lv_aload_n hx hb dX11_existingTrough_0 rfl (lv_at hl 0 rfl) ?_
  obtain ⟨r1, er1, hsp⟩ := hk_b hsp
  obtain ⟨kr1, hsp⟩ := hk_k hsp
  refine hk_getR F9 G h0 hkc_8 (k := 0) (by decide) qw_360 rfl er1 dX11_existingTrough_1 ?_
  refine lv_iload_n hx hb dX11_existingTrough_4 rfl (lv_at hl 1 rfl) ?_
  obtain ⟨r2, er2, hsp⟩ := hk_b hsp
  refine hk_callVi (As := [.int x1]) (rest := []) F9 G kr1 hkc_3 rfl (kX5_hasTrough l g E F n S r1 x1 r2 kr1 er2) qv_RX11_318 ⟨rfl, rfl, (Nat.le_of_ble_eq_true rfl), (Nat.le_of_ble_eq_true rfl)⟩ rfl hl.1 rfl (Nat.le_of_ble_eq_true rfl) ⟨Nat.zero_le _, Nat.zero_le _⟩ dX11_existingTrough_5 (fun H locs G => ?_)
  refine lv_if_ne (tgt := 22) hx hb dX11_existingTrough_8 (by decide) (fun c3 => ?_) (fun c3 => ?_)
  · have hsp := hk_t c3 hsp
    refine lv_aload_n hx hb dX11_existingTrough_22 rfl (lv_at hl 0 rfl) ?_
    refine hk_getR F9 G h0 hkc_8 (k := 0) (by decide) qw_360 rfl er1 dX11_existingTrough_23 ?_
    refine lv_iload_n hx hb dX11_existingTrough_26 rfl (lv_at hl 1 rfl) ?_
    obtain ⟨r4, er4, hsp⟩ := hk_b hsp
    refine hk_callVr (As := [.int x1]) (rest := []) F9 G kr1 hkc_3 rfl (kX5_troughAt l g E F n r2.2 r1 x1 r4 kr1 er4) qv_RX11_51 ⟨rfl, rfl, (Nat.le_of_ble_eq_true rfl), (Nat.le_of_ble_eq_true rfl)⟩ rfl hl.1 rfl (Nat.le_of_ble_eq_true rfl) ⟨Nat.zero_le _, Nat.zero_le _⟩ dX11_existingTrough_27 (fun H locs G => ?_)
    obtain ⟨q5, hsp⟩ := hk_k hsp
    obtain rfl := hk_s hsp
    exact W.aret (v := .ref (g.1 + r4.1)) hx hb hr (Or.inl ⟨_, rfl⟩) (Or.inr ⟨_, rfl⟩) (fun t ht hW => hk_end G ht hW) G.2.1.2.2 dX11_existingTrough_30
  · have hsp := hk_g c3 hsp
    exact nomatch hsp
def mX11_existingProbe (E : hk_E) (F : Nat) (S : hk_S) (a0 : Nat) (x1 : Int32) : Option (Nat × hk_S) :=
(E.2.2.2 a0 0).bind (fun r1 => if E.2.1 r1 = 4 then ((mX5_hasProbe E F S r1 x1).bind (fun r2 => if ¬ r2.1 = 0 then ((mX5_probeAt E F r2.2 r1 x1).bind (fun r4 => if E.2.1 r4.1 = 5 then (some (r4.1, r4.2)) else none)) else (none))) else none)
set_option maxHeartbeats 4000000 in
set_option maxRecDepth 100000 in
theorem kX11_existingProbe (l : Launch) (g : hk_G) (E : hk_E) (F n : Nat) (S : hk_S) (a0 : Nat) (x1 : Int32) (o : Nat × hk_S) (h0 : E.2.1 a0 = 9) (hsp : mX11_existingProbe E F S a0 x1 = some o) : Met l yX11_existingProbe (hk_ws yX11_existingProbe cX11_existingProbe 2 (Option.some (Jvm.ClassFile.FieldType.object "WitheringLoft$Probe"))) ({ frames := 1, cells := 0, slots := 0, locals := 21 }) (hk_Pc g E S n [.ref (g.1 + a0), .int x1]) (hk_Q g E o.2 n (some (.ref (g.1 + o.1)))) 0 0 (hk_A g) := by
  refine Met.ofW (cc := cX11_existingProbe) (maxL := 2) (ret := (Option.some (Jvm.ClassFile.FieldType.object "WitheringLoft$Probe"))) (by decide) rfl ?_
  intro p e s m args below meth c s₁ B hml hv
  obtain ⟨rfl, G⟩ := hk_begin hv
  have F9 : CallFix p m c cX11_existingProbe 2 s [.ref (g.1 + a0), .int x1].toArray hk_W RX11 := ⟨B.exec, B.bytes, hml, findClass_of_methodNamed B.named, fun w h => atoms_spec (ws := hk_ws yX11_existingProbe cX11_existingProbe 2 (Option.some (Jvm.ClassFile.FieldType.object "WitheringLoft$Probe"))) B.pre w (hk_in h)⟩
  have hx := B.exec
  have hb := B.bytes
  have hr := B.returns
  have hlocks := B.notSynchronized
  have hl := lv_entry ([.ref (g.1 + a0), .int x1]) (n := 2) (Nat.le_of_ble_eq_true rfl)
  rw [lg_entry_eq]
  generalize (lg_sl ([.ref (g.1 + a0), .int x1]) ++ List.replicate (2 - (lg_sl ([.ref (g.1 + a0), .int x1])).length) Slot.unset).toArray = ls at hl ⊢
  have hl : lv_has ls 2 [(0, .ref (g.1 + a0)), (1, .int x1)] := hl
  unfold mX11_existingProbe at hsp
  have G : hk_GG g E S n s s.heap [] := G
  refine lv_aload_n hx hb dX11_existingProbe_0 rfl (lv_at hl 0 rfl) ?_
  obtain ⟨r1, er1, hsp⟩ := hk_b hsp
  obtain ⟨kr1, hsp⟩ := hk_k hsp
  refine hk_getR F9 G h0 hkc_8 (k := 0) (by decide) qw_360 rfl er1 dX11_existingProbe_1 ?_
  refine lv_iload_n hx hb dX11_existingProbe_4 rfl (lv_at hl 1 rfl) ?_
  obtain ⟨r2, er2, hsp⟩ := hk_b hsp
  refine hk_callVi (As := [.int x1]) (rest := []) F9 G kr1 hkc_3 rfl (kX5_hasProbe l g E F n S r1 x1 r2 kr1 er2) qv_RX11_326 ⟨rfl, rfl, (Nat.le_of_ble_eq_true rfl), (Nat.le_of_ble_eq_true rfl)⟩ rfl hl.1 rfl (Nat.le_of_ble_eq_true rfl) ⟨Nat.zero_le _, Nat.zero_le _⟩ dX11_existingProbe_5 (fun H locs G => ?_)
  refine lv_if_ne (tgt := 22) hx hb dX11_existingProbe_8 (by decide) (fun c3 => ?_) (fun c3 => ?_)
  · have hsp := hk_t c3 hsp
    refine lv_aload_n hx hb dX11_existingProbe_22 rfl (lv_at hl 0 rfl) ?_
    refine hk_getR F9 G h0 hkc_8 (k := 0) (by decide) qw_360 rfl er1 dX11_existingProbe_23 ?_
    refine lv_iload_n hx hb dX11_existingProbe_26 rfl (lv_at hl 1 rfl) ?_
    obtain ⟨r4, er4, hsp⟩ := hk_b hsp
    refine hk_callVr (As := [.int x1]) (rest := []) F9 G kr1 hkc_3 rfl (kX5_probeAt l g E F n r2.2 r1 x1 r4 kr1 er4) qv_RX11_331 ⟨rfl, rfl, (Nat.le_of_ble_eq_true rfl), (Nat.le_of_ble_eq_true rfl)⟩ rfl hl.1 rfl (Nat.le_of_ble_eq_true rfl) ⟨Nat.zero_le _, Nat.zero_le _⟩ dX11_existingProbe_27 (fun H locs G => ?_)
    obtain ⟨q5, hsp⟩ := hk_k hsp
    obtain rfl := hk_s hsp
    exact W.aret (v := .ref (g.1 + r4.1)) hx hb hr (Or.inl ⟨_, rfl⟩) (Or.inr ⟨_, rfl⟩) (fun t ht hW => hk_end G ht hW) G.2.1.2.2 dX11_existingProbe_30
  · have hsp := hk_g c3 hsp
    exact nomatch hsp
def mX11_requireRange (E : hk_E) (F : Nat) (S : hk_S) (x0 : Int32) (x1 : Int32) (x2 : Int32) : Option (hk_S) :=
if x0 < x1 then (none) else (if x0 ≤ x2 then (some (S)) else (none))
set_option maxHeartbeats 4000000 in
set_option maxRecDepth 100000 in
theorem kX11_requireRange (l : Launch) (g : hk_G) (E : hk_E) (F n : Nat) (S : hk_S) (x0 : Int32) (x1 : Int32) (x2 : Int32) (o : hk_S)  (hsp : mX11_requireRange E F S x0 x1 x2 = some o) : Met l yX11_requireRange (hk_ws yX11_requireRange cX11_requireRange 3 (Option.none : Option Jvm.ClassFile.FieldType)) ({ frames := 0, cells := 0, slots := 0, locals := 0 }) (hk_Pc g E S n [.int x0, .int x1, .int x2]) (hk_Q g E o n none) 0 0 (hk_A g) := by
  refine Met.ofW (cc := cX11_requireRange) (maxL := 3) (ret := (Option.none : Option Jvm.ClassFile.FieldType)) (by decide) rfl ?_
  intro p e s m args below meth c s₁ B hml hv
  obtain ⟨rfl, G⟩ := hk_begin hv
  have F9 : CallFix p m c cX11_requireRange 3 s [.int x0, .int x1, .int x2].toArray hk_W RX11 := ⟨B.exec, B.bytes, hml, findClass_of_methodNamed B.named, fun w h => atoms_spec (ws := hk_ws yX11_requireRange cX11_requireRange 3 (Option.none : Option Jvm.ClassFile.FieldType)) B.pre w (hk_in h)⟩
  have hx := B.exec
  have hb := B.bytes
  have hr := B.returns
  have hlocks := B.notSynchronized
  have hl := lv_entry ([.int x0, .int x1, .int x2]) (n := 3) (Nat.le_of_ble_eq_true rfl)
  rw [lg_entry_eq]
  generalize (lg_sl ([.int x0, .int x1, .int x2]) ++ List.replicate (3 - (lg_sl ([.int x0, .int x1, .int x2])).length) Slot.unset).toArray = ls at hl ⊢
  have hl : lv_has ls 3 [(0, .int x0), (1, .int x1), (2, .int x2)] := hl
  unfold mX11_requireRange at hsp
  have G : hk_GG g E S n s s.heap [] := G
  refine lv_iload_n hx hb dX11_requireRange_0 rfl (lv_at hl 0 rfl) ?_
  refine lv_iload_n hx hb dX11_requireRange_1 rfl (lv_at hl 1 rfl) ?_
  refine lv_icmp_lt (tgt := 10) hx hb dX11_requireRange_2 (by decide) (fun c1 => ?_) (fun c1 => ?_)
  · have hsp := hk_t c1 hsp
    exact nomatch hsp
  · have hsp := hk_f c1 hsp
    refine lv_iload_n hx hb dX11_requireRange_5 rfl (lv_at hl 0 rfl) ?_
    refine lv_iload_n hx hb dX11_requireRange_6 rfl (lv_at hl 2 rfl) ?_
    refine lv_icmp_le (tgt := 21) hx hb dX11_requireRange_7 (by decide) (fun c2 => ?_) (fun c2 => ?_)
    · have hsp := hk_t c2 hsp
      obtain rfl := hk_s hsp
      exact W.vret hx hb hr (fun t ht hW => hk_end G ht hW) G.2.1.2.2 dX11_requireRange_21
    · have hsp := hk_f c2 hsp
      exact nomatch hsp
def mX11_refuseIf (E : hk_E) (F : Nat) (S : hk_S) (x0 : Int32) : Option (hk_S) :=
if x0 = 0 then (some (S)) else (none)
set_option maxHeartbeats 4000000 in
set_option maxRecDepth 100000 in
theorem kX11_refuseIf (l : Launch) (g : hk_G) (E : hk_E) (F n : Nat) (S : hk_S) (x0 : Int32) (o : hk_S)  (hsp : mX11_refuseIf E F S x0 = some o) : Met l yX11_refuseIf (hk_ws yX11_refuseIf cX11_refuseIf 1 (Option.none : Option Jvm.ClassFile.FieldType)) ({ frames := 0, cells := 0, slots := 0, locals := 0 }) (hk_Pc g E S n [.int x0]) (hk_Q g E o n none) 0 0 (hk_A g) := by
  refine Met.ofW (cc := cX11_refuseIf) (maxL := 1) (ret := (Option.none : Option Jvm.ClassFile.FieldType)) (by decide) rfl ?_
  intro p e s m args below meth c s₁ B hml hv
  obtain ⟨rfl, G⟩ := hk_begin hv
  have F9 : CallFix p m c cX11_refuseIf 1 s [.int x0].toArray hk_W RX11 := ⟨B.exec, B.bytes, hml, findClass_of_methodNamed B.named, fun w h => atoms_spec (ws := hk_ws yX11_refuseIf cX11_refuseIf 1 (Option.none : Option Jvm.ClassFile.FieldType)) B.pre w (hk_in h)⟩
  have hx := B.exec
  have hb := B.bytes
  have hr := B.returns
  have hlocks := B.notSynchronized
  have hl := lv_entry ([.int x0]) (n := 1) (Nat.le_of_ble_eq_true rfl)
  rw [lg_entry_eq]
  generalize (lg_sl ([.int x0]) ++ List.replicate (1 - (lg_sl ([.int x0])).length) Slot.unset).toArray = ls at hl ⊢
  have hl : lv_has ls 1 [(0, .int x0)] := hl
  unfold mX11_refuseIf at hsp
  have G : hk_GG g E S n s s.heap [] := G
  refine lv_iload_n hx hb dX11_refuseIf_0 rfl (lv_at hl 0 rfl) ?_
  refine lv_if_eq (tgt := 15) hx hb dX11_refuseIf_1 (by decide) (fun c1 => ?_) (fun c1 => ?_)
  · have hsp := hk_t c1 hsp
    obtain rfl := hk_s hsp
    exact W.vret hx hb hr (fun t ht hW => hk_end G ht hW) G.2.1.2.2 dX11_refuseIf_15
  · have hsp := hk_f c1 hsp
    exact nomatch hsp
def mX11_saveSnapshot (E : hk_E) (F : Nat) (S : hk_S) (a0 : Nat) : Option (Int32 × hk_S) :=
(E.2.2.2 a0 1).bind (fun r1 => if E.2.1 r1 = 4 then ((E.2.2.2 a0 0).bind (fun r2 => if E.2.1 r2 = 4 then ((mX5_become E F S r1 r2).bind (fun r3 => hk_let (hk_up r3 a0 2 1) (fun S4 => (E.2.2.2 r2 0).bind (fun r5 => if E.2.1 r5 = 1 then (some ((S4 r5 0), S4)) else none)))) else none)) else none)
set_option maxHeartbeats 4000000 in
set_option maxRecDepth 100000 in
theorem kX11_saveSnapshot (l : Launch) (g : hk_G) (E : hk_E) (F n : Nat) (S : hk_S) (a0 : Nat) (o : Int32 × hk_S) (h0 : E.2.1 a0 = 9) (hsp : mX11_saveSnapshot E F S a0 = some o) : Met l yX11_saveSnapshot (hk_ws yX11_saveSnapshot cX11_saveSnapshot 1 (Option.some Jvm.ClassFile.FieldType.int)) ({ frames := 2, cells := 0, slots := 0, locals := 44 }) (hk_Pc g E S n [.ref (g.1 + a0)]) (hk_Q g E o.2 n (some (.int o.1))) 0 0 (hk_A g) := by
  refine Met.ofW (cc := cX11_saveSnapshot) (maxL := 1) (ret := (Option.some Jvm.ClassFile.FieldType.int)) (by decide) rfl ?_
  intro p e s m args below meth c s₁ B hml hv
  obtain ⟨rfl, G⟩ := hk_begin hv
  have F9 : CallFix p m c cX11_saveSnapshot 1 s [.ref (g.1 + a0)].toArray hk_W RX11 := ⟨B.exec, B.bytes, hml, findClass_of_methodNamed B.named, fun w h => atoms_spec (ws := hk_ws yX11_saveSnapshot cX11_saveSnapshot 1 (Option.some Jvm.ClassFile.FieldType.int)) B.pre w (hk_in h)⟩
  have hx := B.exec
  have hb := B.bytes
  have hr := B.returns
  have hlocks := B.notSynchronized
  have hl := lv_entry ([.ref (g.1 + a0)]) (n := 1) (Nat.le_of_ble_eq_true rfl)
  rw [lg_entry_eq]
  generalize (lg_sl ([.ref (g.1 + a0)]) ++ List.replicate (1 - (lg_sl ([.ref (g.1 + a0)])).length) Slot.unset).toArray = ls at hl ⊢
  have hl : lv_has ls 1 [(0, .ref (g.1 + a0))] := hl
  unfold mX11_saveSnapshot at hsp
  have G : hk_GG g E S n s s.heap [] := G
  refine lv_aload_n hx hb dX11_saveSnapshot_0 rfl (lv_at hl 0 rfl) ?_
  obtain ⟨r1, er1, hsp⟩ := hk_b hsp
  obtain ⟨kr1, hsp⟩ := hk_k hsp
  refine hk_getR F9 G h0 hkc_8 (k := 1) (by decide) qw_361 rfl er1 dX11_saveSnapshot_1 ?_
  refine lv_aload_n hx hb dX11_saveSnapshot_4 rfl (lv_at hl 0 rfl) ?_
  obtain ⟨r2, er2, hsp⟩ := hk_b hsp
  obtain ⟨kr2, hsp⟩ := hk_k hsp
  refine hk_getR F9 G h0 hkc_8 (k := 0) (by decide) qw_360 rfl er2 dX11_saveSnapshot_5 ?_
  obtain ⟨r3, er3, hsp⟩ := hk_b hsp
  refine hk_callVv (As := [.ref (g.1 + r2)]) (rest := []) F9 G kr1 hkc_3 rfl (kX5_become l g E F n S r1 r2 r3 kr1 kr2 er3) qv_RX11_111 ⟨rfl, rfl, (Nat.le_of_ble_eq_true rfl), (Nat.le_of_ble_eq_true rfl)⟩ rfl hl.1 rfl (Nat.le_of_ble_eq_true rfl) ⟨Nat.zero_le _, Nat.zero_le _⟩ dX11_saveSnapshot_8 (fun H locs G => ?_)
  refine lv_aload_n hx hb dX11_saveSnapshot_11 rfl (lv_at hl 0 rfl) ?_
  refine lv_iconst (v := 1) hx hb dX11_saveSnapshot_12 (by decide) ?_
  obtain ⟨S4, eS4, hsp⟩ := hk_l hsp
  refine hk_putI F9 G h0 hkc_8 (k := 2) (by decide) qw_362 rfl rfl (tyX11_ok 2 (by decide)) (hk_z (by decide)).1 (hk_z (by decide)).2 dX11_saveSnapshot_13 (fun H locs G => ?_)
  rw [eS4] at G
  refine lv_aload_n hx hb dX11_saveSnapshot_16 rfl (lv_at hl 0 rfl) ?_
  refine hk_getR F9 G h0 hkc_8 (k := 0) (by decide) qw_360 rfl er2 dX11_saveSnapshot_17 ?_
  obtain ⟨r5, er5, hsp⟩ := hk_b hsp
  obtain ⟨kr5, hsp⟩ := hk_k hsp
  refine hk_getR F9 G kr2 hkc_3 (k := 0) (by decide) qw_154 rfl er5 dX11_saveSnapshot_20 ?_
  refine hk_getI F9 G kr5 hkc_0 (k := 0) (by decide) qw_43 rfl dX11_saveSnapshot_23 ?_
  obtain rfl := hk_s hsp
  exact W.iret (v := (S4 r5 0)) hx hb hr (fun t ht hW => hk_end G ht hW) G.2.1.2.2 dX11_saveSnapshot_26
def mX11_restoreSnapshot (E : hk_E) (F : Nat) (S : hk_S) (a0 : Nat) : Option (Int32 × hk_S) :=
if ¬ (S a0 2) = 0 then ((E.2.2.2 a0 0).bind (fun r2 => if E.2.1 r2 = 4 then ((E.2.2.2 a0 1).bind (fun r3 => if E.2.1 r3 = 4 then ((mX5_become E F S r2 r3).bind (fun r4 => (E.2.2.2 a0 3).bind (fun r5 => if E.2.1 r5 = 2 then (hk_let (hk_up r4 r5 2 0) (fun S6 => (E.2.2.2 r2 0).bind (fun r7 => if E.2.1 r7 = 1 then (some ((S6 r7 0), S6)) else none))) else none))) else none)) else none)) else (none)
set_option maxHeartbeats 4000000 in
set_option maxRecDepth 100000 in
theorem kX11_restoreSnapshot (l : Launch) (g : hk_G) (E : hk_E) (F n : Nat) (S : hk_S) (a0 : Nat) (o : Int32 × hk_S) (h0 : E.2.1 a0 = 9) (hsp : mX11_restoreSnapshot E F S a0 = some o) : Met l yX11_restoreSnapshot (hk_ws yX11_restoreSnapshot cX11_restoreSnapshot 1 (Option.some Jvm.ClassFile.FieldType.int)) ({ frames := 2, cells := 0, slots := 0, locals := 44 }) (hk_Pc g E S n [.ref (g.1 + a0)]) (hk_Q g E o.2 n (some (.int o.1))) 0 0 (hk_A g) := by
  refine Met.ofW (cc := cX11_restoreSnapshot) (maxL := 1) (ret := (Option.some Jvm.ClassFile.FieldType.int)) (by decide) rfl ?_
  intro p e s m args below meth c s₁ B hml hv
  obtain ⟨rfl, G⟩ := hk_begin hv
  have F9 : CallFix p m c cX11_restoreSnapshot 1 s [.ref (g.1 + a0)].toArray hk_W RX11 := ⟨B.exec, B.bytes, hml, findClass_of_methodNamed B.named, fun w h => atoms_spec (ws := hk_ws yX11_restoreSnapshot cX11_restoreSnapshot 1 (Option.some Jvm.ClassFile.FieldType.int)) B.pre w (hk_in h)⟩
  have hx := B.exec
  have hb := B.bytes
  have hr := B.returns
  have hlocks := B.notSynchronized
  have hl := lv_entry ([.ref (g.1 + a0)]) (n := 1) (Nat.le_of_ble_eq_true rfl)
  rw [lg_entry_eq]
  generalize (lg_sl ([.ref (g.1 + a0)]) ++ List.replicate (1 - (lg_sl ([.ref (g.1 + a0)])).length) Slot.unset).toArray = ls at hl ⊢
  have hl : lv_has ls 1 [(0, .ref (g.1 + a0))] := hl
  unfold mX11_restoreSnapshot at hsp
  have G : hk_GG g E S n s s.heap [] := G
  refine lv_aload_n hx hb dX11_restoreSnapshot_0 rfl (lv_at hl 0 rfl) ?_
  refine hk_getI F9 G h0 hkc_8 (k := 2) (by decide) qw_362 rfl dX11_restoreSnapshot_1 ?_
  refine lv_if_ne (tgt := 17) hx hb dX11_restoreSnapshot_4 (by decide) (fun c1 => ?_) (fun c1 => ?_)
  · have hsp := hk_t c1 hsp
    refine lv_aload_n hx hb dX11_restoreSnapshot_17 rfl (lv_at hl 0 rfl) ?_
    obtain ⟨r2, er2, hsp⟩ := hk_b hsp
    obtain ⟨kr2, hsp⟩ := hk_k hsp
    refine hk_getR F9 G h0 hkc_8 (k := 0) (by decide) qw_360 rfl er2 dX11_restoreSnapshot_18 ?_
    refine lv_aload_n hx hb dX11_restoreSnapshot_21 rfl (lv_at hl 0 rfl) ?_
    obtain ⟨r3, er3, hsp⟩ := hk_b hsp
    obtain ⟨kr3, hsp⟩ := hk_k hsp
    refine hk_getR F9 G h0 hkc_8 (k := 1) (by decide) qw_361 rfl er3 dX11_restoreSnapshot_22 ?_
    obtain ⟨r4, er4, hsp⟩ := hk_b hsp
    refine hk_callVv (As := [.ref (g.1 + r3)]) (rest := []) F9 G kr2 hkc_3 rfl (kX5_become l g E F n S r2 r3 r4 kr2 kr3 er4) qv_RX11_111 ⟨rfl, rfl, (Nat.le_of_ble_eq_true rfl), (Nat.le_of_ble_eq_true rfl)⟩ rfl hl.1 rfl (Nat.le_of_ble_eq_true rfl) ⟨Nat.zero_le _, Nat.zero_le _⟩ dX11_restoreSnapshot_25 (fun H locs G => ?_)
    refine lv_aload_n hx hb dX11_restoreSnapshot_28 rfl (lv_at hl 0 rfl) ?_
    obtain ⟨r5, er5, hsp⟩ := hk_b hsp
    obtain ⟨kr5, hsp⟩ := hk_k hsp
    refine hk_getR F9 G h0 hkc_8 (k := 3) (by decide) qw_363 rfl er5 dX11_restoreSnapshot_29 ?_
    refine lv_iconst (v := 0) hx hb dX11_restoreSnapshot_32 (by decide) ?_
    obtain ⟨S6, eS6, hsp⟩ := hk_l hsp
    refine hk_putI F9 G kr5 hkc_1 (k := 2) (by decide) qw_212 rfl rfl (tyX3_ok 2 (by decide)) rfl rfl dX11_restoreSnapshot_33 (fun H locs G => ?_)
    rw [eS6] at G
    refine lv_aload_n hx hb dX11_restoreSnapshot_36 rfl (lv_at hl 0 rfl) ?_
    refine hk_getR F9 G h0 hkc_8 (k := 0) (by decide) qw_360 rfl er2 dX11_restoreSnapshot_37 ?_
    obtain ⟨r7, er7, hsp⟩ := hk_b hsp
    obtain ⟨kr7, hsp⟩ := hk_k hsp
    refine hk_getR F9 G kr2 hkc_3 (k := 0) (by decide) qw_154 rfl er7 dX11_restoreSnapshot_40 ?_
    refine hk_getI F9 G kr7 hkc_0 (k := 0) (by decide) qw_43 rfl dX11_restoreSnapshot_43 ?_
    obtain rfl := hk_s hsp
    exact W.iret (v := (S6 r7 0)) hx hb hr (fun t ht hW => hk_end G ht hW) G.2.1.2.2 dX11_restoreSnapshot_46
  · have hsp := hk_g c1 hsp
    exact nomatch hsp
def mX11_capacity (E : hk_E) (F : Nat) (S : hk_S) (a0 : Nat) (x1 : Int32) : Option (Int32 × hk_S) :=
(mX11_existingTrough E F S a0 x1).bind (fun r1 => if E.2.1 r1.1 = 8 then (some ((r1.2 r1.1 0), r1.2)) else none)
set_option maxHeartbeats 4000000 in
set_option maxRecDepth 100000 in
theorem kX11_capacity (l : Launch) (g : hk_G) (E : hk_E) (F n : Nat) (S : hk_S) (a0 : Nat) (x1 : Int32) (o : Int32 × hk_S) (h0 : E.2.1 a0 = 9) (hsp : mX11_capacity E F S a0 x1 = some o) : Met l yX11_capacity (hk_ws yX11_capacity cX11_capacity 2 (Option.some Jvm.ClassFile.FieldType.int)) ({ frames := 2, cells := 0, slots := 0, locals := 42 }) (hk_Pc g E S n [.ref (g.1 + a0), .int x1]) (hk_Q g E o.2 n (some (.int o.1))) 0 0 (hk_A g) := by
  refine Met.ofW (cc := cX11_capacity) (maxL := 2) (ret := (Option.some Jvm.ClassFile.FieldType.int)) (by decide) rfl ?_
  intro p e s m args below meth c s₁ B hml hv
  obtain ⟨rfl, G⟩ := hk_begin hv
  have F9 : CallFix p m c cX11_capacity 2 s [.ref (g.1 + a0), .int x1].toArray hk_W RX11 := ⟨B.exec, B.bytes, hml, findClass_of_methodNamed B.named, fun w h => atoms_spec (ws := hk_ws yX11_capacity cX11_capacity 2 (Option.some Jvm.ClassFile.FieldType.int)) B.pre w (hk_in h)⟩
  have hx := B.exec
  have hb := B.bytes
  have hr := B.returns
  have hlocks := B.notSynchronized
  have hl := lv_entry ([.ref (g.1 + a0), .int x1]) (n := 2) (Nat.le_of_ble_eq_true rfl)
  rw [lg_entry_eq]
  generalize (lg_sl ([.ref (g.1 + a0), .int x1]) ++ List.replicate (2 - (lg_sl ([.ref (g.1 + a0), .int x1])).length) Slot.unset).toArray = ls at hl ⊢
  have hl : lv_has ls 2 [(0, .ref (g.1 + a0)), (1, .int x1)] := hl
  unfold mX11_capacity at hsp
  have G : hk_GG g E S n s s.heap [] := G
  refine lv_aload_n hx hb dX11_capacity_0 rfl (lv_at hl 0 rfl) ?_
  refine lv_iload_n hx hb dX11_capacity_1 rfl (lv_at hl 1 rfl) ?_
  obtain ⟨r1, er1, hsp⟩ := hk_b hsp
  refine hk_callVr (As := [.int x1]) (rest := []) F9 G h0 hkc_8 rfl (kX11_existingTrough l g E F n S a0 x1 r1 h0 er1) qv_RX11_124 ⟨rfl, rfl, (Nat.le_of_ble_eq_true rfl), (Nat.le_of_ble_eq_true rfl)⟩ rfl hl.1 rfl (Nat.le_of_ble_eq_true rfl) ⟨Nat.zero_le _, Nat.zero_le _⟩ dX11_capacity_2 (fun H locs G => ?_)
  obtain ⟨q2, hsp⟩ := hk_k hsp
  refine hk_getI F9 G q2 hkc_7 (k := 0) (by decide) qw_73 rfl dX11_capacity_5 ?_
  obtain rfl := hk_s hsp
  exact W.iret (v := (r1.2 r1.1 0)) hx hb hr (fun t ht hW => hk_end G ht hW) G.2.1.2.2 dX11_capacity_8
def mX11_kilograms (E : hk_E) (F : Nat) (S : hk_S) (a0 : Nat) (x1 : Int32) : Option (Int32 × hk_S) :=
(mX11_existingTrough E F S a0 x1).bind (fun r1 => if E.2.1 r1.1 = 8 then (some ((r1.2 r1.1 3), r1.2)) else none)
set_option maxHeartbeats 4000000 in
set_option maxRecDepth 100000 in
theorem kX11_kilograms (l : Launch) (g : hk_G) (E : hk_E) (F n : Nat) (S : hk_S) (a0 : Nat) (x1 : Int32) (o : Int32 × hk_S) (h0 : E.2.1 a0 = 9) (hsp : mX11_kilograms E F S a0 x1 = some o) : Met l yX11_kilograms (hk_ws yX11_kilograms cX11_kilograms 2 (Option.some Jvm.ClassFile.FieldType.int)) ({ frames := 2, cells := 0, slots := 0, locals := 42 }) (hk_Pc g E S n [.ref (g.1 + a0), .int x1]) (hk_Q g E o.2 n (some (.int o.1))) 0 0 (hk_A g) := by
  refine Met.ofW (cc := cX11_kilograms) (maxL := 2) (ret := (Option.some Jvm.ClassFile.FieldType.int)) (by decide) rfl ?_
  intro p e s m args below meth c s₁ B hml hv
  obtain ⟨rfl, G⟩ := hk_begin hv
  have F9 : CallFix p m c cX11_kilograms 2 s [.ref (g.1 + a0), .int x1].toArray hk_W RX11 := ⟨B.exec, B.bytes, hml, findClass_of_methodNamed B.named, fun w h => atoms_spec (ws := hk_ws yX11_kilograms cX11_kilograms 2 (Option.some Jvm.ClassFile.FieldType.int)) B.pre w (hk_in h)⟩
  have hx := B.exec
  have hb := B.bytes
  have hr := B.returns
  have hlocks := B.notSynchronized
  have hl := lv_entry ([.ref (g.1 + a0), .int x1]) (n := 2) (Nat.le_of_ble_eq_true rfl)
  rw [lg_entry_eq]
  generalize (lg_sl ([.ref (g.1 + a0), .int x1]) ++ List.replicate (2 - (lg_sl ([.ref (g.1 + a0), .int x1])).length) Slot.unset).toArray = ls at hl ⊢
  have hl : lv_has ls 2 [(0, .ref (g.1 + a0)), (1, .int x1)] := hl
  unfold mX11_kilograms at hsp
  have G : hk_GG g E S n s s.heap [] := G
  refine lv_aload_n hx hb dX11_kilograms_0 rfl (lv_at hl 0 rfl) ?_
  refine lv_iload_n hx hb dX11_kilograms_1 rfl (lv_at hl 1 rfl) ?_
  obtain ⟨r1, er1, hsp⟩ := hk_b hsp
  refine hk_callVr (As := [.int x1]) (rest := []) F9 G h0 hkc_8 rfl (kX11_existingTrough l g E F n S a0 x1 r1 h0 er1) qv_RX11_124 ⟨rfl, rfl, (Nat.le_of_ble_eq_true rfl), (Nat.le_of_ble_eq_true rfl)⟩ rfl hl.1 rfl (Nat.le_of_ble_eq_true rfl) ⟨Nat.zero_le _, Nat.zero_le _⟩ dX11_kilograms_2 (fun H locs G => ?_)
  obtain ⟨q2, hsp⟩ := hk_k hsp
  refine hk_getI F9 G q2 hkc_7 (k := 3) (by decide) qw_80 rfl dX11_kilograms_5 ?_
  obtain rfl := hk_s hsp
  exact W.iret (v := (r1.2 r1.1 3)) hx hb hr (fun t ht hW => hk_end G ht hW) G.2.1.2.2 dX11_kilograms_8
def mX11_fill (E : hk_E) (F : Nat) (S : hk_S) (a0 : Nat) (x1 : Int32) : Option (Int32 × hk_S) :=
(mX11_existingTrough E F S a0 x1).bind (fun r1 => if E.2.1 r1.1 = 8 then (some ((r1.2 r1.1 4), r1.2)) else none)
set_option maxHeartbeats 4000000 in
set_option maxRecDepth 100000 in
theorem kX11_fill (l : Launch) (g : hk_G) (E : hk_E) (F n : Nat) (S : hk_S) (a0 : Nat) (x1 : Int32) (o : Int32 × hk_S) (h0 : E.2.1 a0 = 9) (hsp : mX11_fill E F S a0 x1 = some o) : Met l yX11_fill (hk_ws yX11_fill cX11_fill 2 (Option.some Jvm.ClassFile.FieldType.int)) ({ frames := 2, cells := 0, slots := 0, locals := 42 }) (hk_Pc g E S n [.ref (g.1 + a0), .int x1]) (hk_Q g E o.2 n (some (.int o.1))) 0 0 (hk_A g) := by
  refine Met.ofW (cc := cX11_fill) (maxL := 2) (ret := (Option.some Jvm.ClassFile.FieldType.int)) (by decide) rfl ?_
  intro p e s m args below meth c s₁ B hml hv
  obtain ⟨rfl, G⟩ := hk_begin hv
  have F9 : CallFix p m c cX11_fill 2 s [.ref (g.1 + a0), .int x1].toArray hk_W RX11 := ⟨B.exec, B.bytes, hml, findClass_of_methodNamed B.named, fun w h => atoms_spec (ws := hk_ws yX11_fill cX11_fill 2 (Option.some Jvm.ClassFile.FieldType.int)) B.pre w (hk_in h)⟩
  have hx := B.exec
  have hb := B.bytes
  have hr := B.returns
  have hlocks := B.notSynchronized
  have hl := lv_entry ([.ref (g.1 + a0), .int x1]) (n := 2) (Nat.le_of_ble_eq_true rfl)
  rw [lg_entry_eq]
  generalize (lg_sl ([.ref (g.1 + a0), .int x1]) ++ List.replicate (2 - (lg_sl ([.ref (g.1 + a0), .int x1])).length) Slot.unset).toArray = ls at hl ⊢
  have hl : lv_has ls 2 [(0, .ref (g.1 + a0)), (1, .int x1)] := hl
  unfold mX11_fill at hsp
  have G : hk_GG g E S n s s.heap [] := G
  refine lv_aload_n hx hb dX11_fill_0 rfl (lv_at hl 0 rfl) ?_
  refine lv_iload_n hx hb dX11_fill_1 rfl (lv_at hl 1 rfl) ?_
  obtain ⟨r1, er1, hsp⟩ := hk_b hsp
  refine hk_callVr (As := [.int x1]) (rest := []) F9 G h0 hkc_8 rfl (kX11_existingTrough l g E F n S a0 x1 r1 h0 er1) qv_RX11_124 ⟨rfl, rfl, (Nat.le_of_ble_eq_true rfl), (Nat.le_of_ble_eq_true rfl)⟩ rfl hl.1 rfl (Nat.le_of_ble_eq_true rfl) ⟨Nat.zero_le _, Nat.zero_le _⟩ dX11_fill_2 (fun H locs G => ?_)
  obtain ⟨q2, hsp⟩ := hk_k hsp
  refine hk_getI F9 G q2 hkc_7 (k := 4) (by decide) qw_82 rfl dX11_fill_5 ?_
  obtain rfl := hk_s hsp
  exact W.iret (v := (r1.2 r1.1 4)) hx hb hr (fun t ht hW => hk_end G ht hW) G.2.1.2.2 dX11_fill_8
def mX11_speed (E : hk_E) (F : Nat) (S : hk_S) (a0 : Nat) (x1 : Int32) : Option (Int32 × hk_S) :=
(mX11_existingTrough E F S a0 x1).bind (fun r1 => if E.2.1 r1.1 = 8 then (some ((r1.2 r1.1 1), r1.2)) else none)
set_option maxHeartbeats 4000000 in
set_option maxRecDepth 100000 in
theorem kX11_speed (l : Launch) (g : hk_G) (E : hk_E) (F n : Nat) (S : hk_S) (a0 : Nat) (x1 : Int32) (o : Int32 × hk_S) (h0 : E.2.1 a0 = 9) (hsp : mX11_speed E F S a0 x1 = some o) : Met l yX11_speed (hk_ws yX11_speed cX11_speed 2 (Option.some Jvm.ClassFile.FieldType.int)) ({ frames := 2, cells := 0, slots := 0, locals := 42 }) (hk_Pc g E S n [.ref (g.1 + a0), .int x1]) (hk_Q g E o.2 n (some (.int o.1))) 0 0 (hk_A g) := by
  refine Met.ofW (cc := cX11_speed) (maxL := 2) (ret := (Option.some Jvm.ClassFile.FieldType.int)) (by decide) rfl ?_
  intro p e s m args below meth c s₁ B hml hv
  obtain ⟨rfl, G⟩ := hk_begin hv
  have F9 : CallFix p m c cX11_speed 2 s [.ref (g.1 + a0), .int x1].toArray hk_W RX11 := ⟨B.exec, B.bytes, hml, findClass_of_methodNamed B.named, fun w h => atoms_spec (ws := hk_ws yX11_speed cX11_speed 2 (Option.some Jvm.ClassFile.FieldType.int)) B.pre w (hk_in h)⟩
  have hx := B.exec
  have hb := B.bytes
  have hr := B.returns
  have hlocks := B.notSynchronized
  have hl := lv_entry ([.ref (g.1 + a0), .int x1]) (n := 2) (Nat.le_of_ble_eq_true rfl)
  rw [lg_entry_eq]
  generalize (lg_sl ([.ref (g.1 + a0), .int x1]) ++ List.replicate (2 - (lg_sl ([.ref (g.1 + a0), .int x1])).length) Slot.unset).toArray = ls at hl ⊢
  have hl : lv_has ls 2 [(0, .ref (g.1 + a0)), (1, .int x1)] := hl
  unfold mX11_speed at hsp
  have G : hk_GG g E S n s s.heap [] := G
  refine lv_aload_n hx hb dX11_speed_0 rfl (lv_at hl 0 rfl) ?_
  refine lv_iload_n hx hb dX11_speed_1 rfl (lv_at hl 1 rfl) ?_
  obtain ⟨r1, er1, hsp⟩ := hk_b hsp
  refine hk_callVr (As := [.int x1]) (rest := []) F9 G h0 hkc_8 rfl (kX11_existingTrough l g E F n S a0 x1 r1 h0 er1) qv_RX11_124 ⟨rfl, rfl, (Nat.le_of_ble_eq_true rfl), (Nat.le_of_ble_eq_true rfl)⟩ rfl hl.1 rfl (Nat.le_of_ble_eq_true rfl) ⟨Nat.zero_le _, Nat.zero_le _⟩ dX11_speed_2 (fun H locs G => ?_)
  obtain ⟨q2, hsp⟩ := hk_k hsp
  refine hk_getI F9 G q2 hkc_7 (k := 1) (by decide) qw_74 rfl dX11_speed_5 ?_
  obtain rfl := hk_s hsp
  exact W.iret (v := (r1.2 r1.1 1)) hx hb hr (fun t ht hW => hk_end G ht hW) G.2.1.2.2 dX11_speed_8
def mX11_isUpwards (E : hk_E) (F : Nat) (S : hk_S) (a0 : Nat) (x1 : Int32) : Option (Int32 × hk_S) :=
(mX11_existingTrough E F S a0 x1).bind (fun r1 => if E.2.1 r1.1 = 8 then (if (r1.2 r1.1 2) = 0 ∨ (r1.2 r1.1 2) = 1 then (some ((r1.2 r1.1 2), r1.2)) else none) else none)
set_option maxHeartbeats 4000000 in
set_option maxRecDepth 100000 in
theorem kX11_isUpwards (l : Launch) (g : hk_G) (E : hk_E) (F n : Nat) (S : hk_S) (a0 : Nat) (x1 : Int32) (o : Int32 × hk_S) (h0 : E.2.1 a0 = 9) (hsp : mX11_isUpwards E F S a0 x1 = some o) : Met l yX11_isUpwards (hk_ws yX11_isUpwards cX11_isUpwards 2 (Option.some Jvm.ClassFile.FieldType.boolean)) ({ frames := 2, cells := 0, slots := 0, locals := 42 }) (hk_Pc g E S n [.ref (g.1 + a0), .int x1]) (hk_Q g E o.2 n (some (.int o.1))) 0 0 (hk_A g) := by
  refine Met.ofW (cc := cX11_isUpwards) (maxL := 2) (ret := (Option.some Jvm.ClassFile.FieldType.boolean)) (by decide) rfl ?_
  intro p e s m args below meth c s₁ B hml hv
  obtain ⟨rfl, G⟩ := hk_begin hv
  have F9 : CallFix p m c cX11_isUpwards 2 s [.ref (g.1 + a0), .int x1].toArray hk_W RX11 := ⟨B.exec, B.bytes, hml, findClass_of_methodNamed B.named, fun w h => atoms_spec (ws := hk_ws yX11_isUpwards cX11_isUpwards 2 (Option.some Jvm.ClassFile.FieldType.boolean)) B.pre w (hk_in h)⟩
  have hx := B.exec
  have hb := B.bytes
  have hr := B.returns
  have hlocks := B.notSynchronized
  have hl := lv_entry ([.ref (g.1 + a0), .int x1]) (n := 2) (Nat.le_of_ble_eq_true rfl)
  rw [lg_entry_eq]
  generalize (lg_sl ([.ref (g.1 + a0), .int x1]) ++ List.replicate (2 - (lg_sl ([.ref (g.1 + a0), .int x1])).length) Slot.unset).toArray = ls at hl ⊢
  have hl : lv_has ls 2 [(0, .ref (g.1 + a0)), (1, .int x1)] := hl
  unfold mX11_isUpwards at hsp
  have G : hk_GG g E S n s s.heap [] := G
  refine lv_aload_n hx hb dX11_isUpwards_0 rfl (lv_at hl 0 rfl) ?_
  refine lv_iload_n hx hb dX11_isUpwards_1 rfl (lv_at hl 1 rfl) ?_
  obtain ⟨r1, er1, hsp⟩ := hk_b hsp
  refine hk_callVr (As := [.int x1]) (rest := []) F9 G h0 hkc_8 rfl (kX11_existingTrough l g E F n S a0 x1 r1 h0 er1) qv_RX11_124 ⟨rfl, rfl, (Nat.le_of_ble_eq_true rfl), (Nat.le_of_ble_eq_true rfl)⟩ rfl hl.1 rfl (Nat.le_of_ble_eq_true rfl) ⟨Nat.zero_le _, Nat.zero_le _⟩ dX11_isUpwards_2 (fun H locs G => ?_)
  obtain ⟨q2, hsp⟩ := hk_k hsp
  refine hk_getI F9 G q2 hkc_7 (k := 2) (by decide) qw_76 rfl dX11_isUpwards_5 ?_
  obtain ⟨q3, hsp⟩ := hk_k hsp
  obtain rfl := hk_s hsp
  exact W.zret (v := (r1.2 r1.1 2)) hx hb hr (hk_z q3).1 (fun t ht hW => hk_end G ht hW) G.2.1.2.2 dX11_isUpwards_8
def mX11_moisture (E : hk_E) (F : Nat) (S : hk_S) (a0 : Nat) (x1 : Int32) (x2 : Int32) : Option (Int32 × hk_S) :=
(mX11_existingTrough E F S a0 x1).bind (fun r1 => if E.2.1 r1.1 = 8 then ((mX11_requireRange E F r1.2 x2 0 1).bind (fun r3 => (mX10_hasLeaf E F r3 r1.1).bind (fun r4 => if r4.1 = 0 then (some ((-1), r4.2)) else ((mX10_moistureOf E F r4.2 r1.1 x2).bind (fun r6 => some (r6.1, r6.2)))))) else none)
set_option maxHeartbeats 4000000 in
set_option maxRecDepth 100000 in
theorem kX11_moisture (l : Launch) (g : hk_G) (E : hk_E) (F n : Nat) (S : hk_S) (a0 : Nat) (x1 : Int32) (x2 : Int32) (o : Int32 × hk_S) (h0 : E.2.1 a0 = 9) (hsp : mX11_moisture E F S a0 x1 x2 = some o) : Met l yX11_moisture (hk_ws yX11_moisture cX11_moisture 4 (Option.some Jvm.ClassFile.FieldType.int)) ({ frames := 2, cells := 0, slots := 0, locals := 42 }) (hk_Pc g E S n [.ref (g.1 + a0), .int x1, .int x2]) (hk_Q g E o.2 n (some (.int o.1))) 0 0 (hk_A g) := by
  refine Met.ofW (cc := cX11_moisture) (maxL := 4) (ret := (Option.some Jvm.ClassFile.FieldType.int)) (by decide) rfl ?_
  intro p e s m args below meth c s₁ B hml hv
  obtain ⟨rfl, G⟩ := hk_begin hv
  have F9 : CallFix p m c cX11_moisture 4 s [.ref (g.1 + a0), .int x1, .int x2].toArray hk_W RX11 := ⟨B.exec, B.bytes, hml, findClass_of_methodNamed B.named, fun w h => atoms_spec (ws := hk_ws yX11_moisture cX11_moisture 4 (Option.some Jvm.ClassFile.FieldType.int)) B.pre w (hk_in h)⟩
  have hx := B.exec
  have hb := B.bytes
  have hr := B.returns
  have hlocks := B.notSynchronized
  have hl := lv_entry ([.ref (g.1 + a0), .int x1, .int x2]) (n := 4) (Nat.le_of_ble_eq_true rfl)
  rw [lg_entry_eq]
  generalize (lg_sl ([.ref (g.1 + a0), .int x1, .int x2]) ++ List.replicate (4 - (lg_sl ([.ref (g.1 + a0), .int x1, .int x2])).length) Slot.unset).toArray = ls at hl ⊢
  have hl : lv_has ls 4 [(0, .ref (g.1 + a0)), (1, .int x1), (2, .int x2)] := hl
  unfold mX11_moisture at hsp
  have G : hk_GG g E S n s s.heap [] := G
  refine lv_aload_n hx hb dX11_moisture_0 rfl (lv_at hl 0 rfl) ?_
  refine lv_iload_n hx hb dX11_moisture_1 rfl (lv_at hl 1 rfl) ?_
  obtain ⟨r1, er1, hsp⟩ := hk_b hsp
  refine hk_callVr (As := [.int x1]) (rest := []) F9 G h0 hkc_8 rfl (kX11_existingTrough l g E F n S a0 x1 r1 h0 er1) qv_RX11_124 ⟨rfl, rfl, (Nat.le_of_ble_eq_true rfl), (Nat.le_of_ble_eq_true rfl)⟩ rfl hl.1 rfl (Nat.le_of_ble_eq_true rfl) ⟨Nat.zero_le _, Nat.zero_le _⟩ dX11_moisture_2 (fun H locs G => ?_)
  obtain ⟨q2, hsp⟩ := hk_k hsp
  refine lv_astore_n (lv' := [(3, .ref (g.1 + r1.1)), (0, .ref (g.1 + a0)), (1, .int x1), (2, .int x2)]) hx hb dX11_moisture_5 rfl hl (by decide) rfl (fun ls hl => ?_)
  refine lv_iload_n hx hb dX11_moisture_6 rfl (lv_at hl 3 rfl) ?_
  refine lv_iconst (v := 0) hx hb dX11_moisture_7 (by decide) ?_
  refine lv_iconst (v := 1) hx hb dX11_moisture_8 (by decide) ?_
  obtain ⟨r3, er3, hsp⟩ := hk_b hsp
  refine hk_callSv (As := [.int x2, .int 0, .int 1]) (rest := []) F9 G (kX11_requireRange l g E F n r1.2 x2 0 1 r3  er3) qv_RX11_96 ⟨rfl, rfl, (Nat.le_of_ble_eq_true rfl), (Nat.le_of_ble_eq_true rfl)⟩ rfl hl.1 rfl (Nat.le_of_ble_eq_true rfl) ⟨Nat.zero_le _, Nat.zero_le _⟩ dX11_moisture_9 (fun H locs G => ?_)
  refine lv_aload_n hx hb dX11_moisture_12 rfl (lv_at hl 0 rfl) ?_
  obtain ⟨r4, er4, hsp⟩ := hk_b hsp
  refine hk_callVi (As := []) (rest := []) F9 G q2 hkc_7 rfl (kX10_hasLeaf l g E F n r3 r1.1 r4 q2 er4) qv_RX11_130 ⟨rfl, rfl, (Nat.le_of_ble_eq_true rfl), (Nat.le_of_ble_eq_true rfl)⟩ rfl hl.1 rfl (Nat.le_of_ble_eq_true rfl) ⟨Nat.zero_le _, Nat.zero_le _⟩ dX11_moisture_13 (fun H locs G => ?_)
  refine lv_if_eq (tgt := 27) hx hb dX11_moisture_16 (by decide) (fun c5 => ?_) (fun c5 => ?_)
  · have hsp := hk_t c5 hsp
    refine lv_iconst (v := (-1)) hx hb dX11_moisture_27 (by decide) ?_
    obtain rfl := hk_s hsp
    exact W.iret (v := (-1)) hx hb hr (fun t ht hW => hk_end G ht hW) G.2.1.2.2 dX11_moisture_28
  · have hsp := hk_f c5 hsp
    refine lv_aload_n hx hb dX11_moisture_19 rfl (lv_at hl 0 rfl) ?_
    refine lv_iload_n hx hb dX11_moisture_20 rfl (lv_at hl 3 rfl) ?_
    obtain ⟨r6, er6, hsp⟩ := hk_b hsp
    refine hk_callVi (As := [.int x2]) (rest := []) F9 G q2 hkc_7 rfl (kX10_moistureOf l g E F n r4.2 r1.1 x2 r6 q2 er6) qv_RX11_245 ⟨rfl, rfl, (Nat.le_of_ble_eq_true rfl), (Nat.le_of_ble_eq_true rfl)⟩ rfl hl.1 rfl (Nat.le_of_ble_eq_true rfl) ⟨Nat.zero_le _, Nat.zero_le _⟩ dX11_moisture_21 (fun H locs G => ?_)
    refine lv_goto (tgt := 28) hx hb dX11_moisture_24 (by decide) ?_
    obtain rfl := hk_s hsp
    exact W.iret (v := r6.1) hx hb hr (fun t ht hW => hk_end G ht hW) G.2.1.2.2 dX11_moisture_28
def mX11_spread (E : hk_E) (F : Nat) (S : hk_S) (a0 : Nat) (x1 : Int32) : Option (Int32 × hk_S) :=
(mX11_existingTrough E F S a0 x1).bind (fun r1 => if E.2.1 r1.1 = 8 then ((mX10_hasLeaf E F r1.2 r1.1).bind (fun r3 => if r3.1 = 0 then (some ((-1), r3.2)) else ((mX10_gap E F r3.2 r1.1).bind (fun r5 => some (r5.1, r5.2))))) else none)
set_option maxHeartbeats 4000000 in
set_option maxRecDepth 100000 in
theorem kX11_spread (l : Launch) (g : hk_G) (E : hk_E) (F n : Nat) (S : hk_S) (a0 : Nat) (x1 : Int32) (o : Int32 × hk_S) (h0 : E.2.1 a0 = 9) (hsp : mX11_spread E F S a0 x1 = some o) : Met l yX11_spread (hk_ws yX11_spread cX11_spread 3 (Option.some Jvm.ClassFile.FieldType.int)) ({ frames := 2, cells := 0, slots := 0, locals := 42 }) (hk_Pc g E S n [.ref (g.1 + a0), .int x1]) (hk_Q g E o.2 n (some (.int o.1))) 0 0 (hk_A g) := by
  refine Met.ofW (cc := cX11_spread) (maxL := 3) (ret := (Option.some Jvm.ClassFile.FieldType.int)) (by decide) rfl ?_
  intro p e s m args below meth c s₁ B hml hv
  obtain ⟨rfl, G⟩ := hk_begin hv
  have F9 : CallFix p m c cX11_spread 3 s [.ref (g.1 + a0), .int x1].toArray hk_W RX11 := ⟨B.exec, B.bytes, hml, findClass_of_methodNamed B.named, fun w h => atoms_spec (ws := hk_ws yX11_spread cX11_spread 3 (Option.some Jvm.ClassFile.FieldType.int)) B.pre w (hk_in h)⟩
  have hx := B.exec
  have hb := B.bytes
  have hr := B.returns
  have hlocks := B.notSynchronized
  have hl := lv_entry ([.ref (g.1 + a0), .int x1]) (n := 3) (Nat.le_of_ble_eq_true rfl)
  rw [lg_entry_eq]
  generalize (lg_sl ([.ref (g.1 + a0), .int x1]) ++ List.replicate (3 - (lg_sl ([.ref (g.1 + a0), .int x1])).length) Slot.unset).toArray = ls at hl ⊢
  have hl : lv_has ls 3 [(0, .ref (g.1 + a0)), (1, .int x1)] := hl
  unfold mX11_spread at hsp
  have G : hk_GG g E S n s s.heap [] := G
  refine lv_aload_n hx hb dX11_spread_0 rfl (lv_at hl 0 rfl) ?_
  refine lv_iload_n hx hb dX11_spread_1 rfl (lv_at hl 1 rfl) ?_
  obtain ⟨r1, er1, hsp⟩ := hk_b hsp
  refine hk_callVr (As := [.int x1]) (rest := []) F9 G h0 hkc_8 rfl (kX11_existingTrough l g E F n S a0 x1 r1 h0 er1) qv_RX11_124 ⟨rfl, rfl, (Nat.le_of_ble_eq_true rfl), (Nat.le_of_ble_eq_true rfl)⟩ rfl hl.1 rfl (Nat.le_of_ble_eq_true rfl) ⟨Nat.zero_le _, Nat.zero_le _⟩ dX11_spread_2 (fun H locs G => ?_)
  obtain ⟨q2, hsp⟩ := hk_k hsp
  refine lv_astore_n (lv' := [(2, .ref (g.1 + r1.1)), (0, .ref (g.1 + a0)), (1, .int x1)]) hx hb dX11_spread_5 rfl hl (by decide) rfl (fun ls hl => ?_)
  refine lv_aload_n hx hb dX11_spread_6 rfl (lv_at hl 0 rfl) ?_
  obtain ⟨r3, er3, hsp⟩ := hk_b hsp
  refine hk_callVi (As := []) (rest := []) F9 G q2 hkc_7 rfl (kX10_hasLeaf l g E F n r1.2 r1.1 r3 q2 er3) qv_RX11_130 ⟨rfl, rfl, (Nat.le_of_ble_eq_true rfl), (Nat.le_of_ble_eq_true rfl)⟩ rfl hl.1 rfl (Nat.le_of_ble_eq_true rfl) ⟨Nat.zero_le _, Nat.zero_le _⟩ dX11_spread_7 (fun H locs G => ?_)
  refine lv_if_eq (tgt := 20) hx hb dX11_spread_10 (by decide) (fun c4 => ?_) (fun c4 => ?_)
  · have hsp := hk_t c4 hsp
    refine lv_iconst (v := (-1)) hx hb dX11_spread_20 (by decide) ?_
    obtain rfl := hk_s hsp
    exact W.iret (v := (-1)) hx hb hr (fun t ht hW => hk_end G ht hW) G.2.1.2.2 dX11_spread_21
  · have hsp := hk_f c4 hsp
    refine lv_aload_n hx hb dX11_spread_13 rfl (lv_at hl 0 rfl) ?_
    obtain ⟨r5, er5, hsp⟩ := hk_b hsp
    refine hk_callVi (As := []) (rest := []) F9 G q2 hkc_7 rfl (kX10_gap l g E F n r3.2 r1.1 r5 q2 er5) qv_RX11_248 ⟨rfl, rfl, (Nat.le_of_ble_eq_true rfl), (Nat.le_of_ble_eq_true rfl)⟩ rfl hl.1 rfl (Nat.le_of_ble_eq_true rfl) ⟨Nat.zero_le _, Nat.zero_le _⟩ dX11_spread_14 (fun H locs G => ?_)
    refine lv_goto (tgt := 21) hx hb dX11_spread_17 (by decide) ?_
    obtain rfl := hk_s hsp
    exact W.iret (v := r5.1) hx hb hr (fun t ht hW => hk_end G ht hW) G.2.1.2.2 dX11_spread_21
def mX11_warmth (E : hk_E) (F : Nat) (S : hk_S) (a0 : Nat) (x1 : Int32) : Option (Int32 × hk_S) :=
(mX11_existingTrough E F S a0 x1).bind (fun r1 => if E.2.1 r1.1 = 8 then ((mX10_hasLeaf E F r1.2 r1.1).bind (fun r3 => if r3.1 = 0 then (some ((-1), r3.2)) else (some ((r3.2 r1.1 8), r3.2)))) else none)
set_option maxHeartbeats 4000000 in
set_option maxRecDepth 100000 in
theorem kX11_warmth (l : Launch) (g : hk_G) (E : hk_E) (F n : Nat) (S : hk_S) (a0 : Nat) (x1 : Int32) (o : Int32 × hk_S) (h0 : E.2.1 a0 = 9) (hsp : mX11_warmth E F S a0 x1 = some o) : Met l yX11_warmth (hk_ws yX11_warmth cX11_warmth 3 (Option.some Jvm.ClassFile.FieldType.int)) ({ frames := 2, cells := 0, slots := 0, locals := 42 }) (hk_Pc g E S n [.ref (g.1 + a0), .int x1]) (hk_Q g E o.2 n (some (.int o.1))) 0 0 (hk_A g) := by
  refine Met.ofW (cc := cX11_warmth) (maxL := 3) (ret := (Option.some Jvm.ClassFile.FieldType.int)) (by decide) rfl ?_
  intro p e s m args below meth c s₁ B hml hv
  obtain ⟨rfl, G⟩ := hk_begin hv
  have F9 : CallFix p m c cX11_warmth 3 s [.ref (g.1 + a0), .int x1].toArray hk_W RX11 := ⟨B.exec, B.bytes, hml, findClass_of_methodNamed B.named, fun w h => atoms_spec (ws := hk_ws yX11_warmth cX11_warmth 3 (Option.some Jvm.ClassFile.FieldType.int)) B.pre w (hk_in h)⟩
  have hx := B.exec
  have hb := B.bytes
  have hr := B.returns
  have hlocks := B.notSynchronized
  have hl := lv_entry ([.ref (g.1 + a0), .int x1]) (n := 3) (Nat.le_of_ble_eq_true rfl)
  rw [lg_entry_eq]
  generalize (lg_sl ([.ref (g.1 + a0), .int x1]) ++ List.replicate (3 - (lg_sl ([.ref (g.1 + a0), .int x1])).length) Slot.unset).toArray = ls at hl ⊢
  have hl : lv_has ls 3 [(0, .ref (g.1 + a0)), (1, .int x1)] := hl
  unfold mX11_warmth at hsp
  have G : hk_GG g E S n s s.heap [] := G
  refine lv_aload_n hx hb dX11_warmth_0 rfl (lv_at hl 0 rfl) ?_
  refine lv_iload_n hx hb dX11_warmth_1 rfl (lv_at hl 1 rfl) ?_
  obtain ⟨r1, er1, hsp⟩ := hk_b hsp
  refine hk_callVr (As := [.int x1]) (rest := []) F9 G h0 hkc_8 rfl (kX11_existingTrough l g E F n S a0 x1 r1 h0 er1) qv_RX11_124 ⟨rfl, rfl, (Nat.le_of_ble_eq_true rfl), (Nat.le_of_ble_eq_true rfl)⟩ rfl hl.1 rfl (Nat.le_of_ble_eq_true rfl) ⟨Nat.zero_le _, Nat.zero_le _⟩ dX11_warmth_2 (fun H locs G => ?_)
  obtain ⟨q2, hsp⟩ := hk_k hsp
  refine lv_astore_n (lv' := [(2, .ref (g.1 + r1.1)), (0, .ref (g.1 + a0)), (1, .int x1)]) hx hb dX11_warmth_5 rfl hl (by decide) rfl (fun ls hl => ?_)
  refine lv_aload_n hx hb dX11_warmth_6 rfl (lv_at hl 0 rfl) ?_
  obtain ⟨r3, er3, hsp⟩ := hk_b hsp
  refine hk_callVi (As := []) (rest := []) F9 G q2 hkc_7 rfl (kX10_hasLeaf l g E F n r1.2 r1.1 r3 q2 er3) qv_RX11_130 ⟨rfl, rfl, (Nat.le_of_ble_eq_true rfl), (Nat.le_of_ble_eq_true rfl)⟩ rfl hl.1 rfl (Nat.le_of_ble_eq_true rfl) ⟨Nat.zero_le _, Nat.zero_le _⟩ dX11_warmth_7 (fun H locs G => ?_)
  refine lv_if_eq (tgt := 20) hx hb dX11_warmth_10 (by decide) (fun c4 => ?_) (fun c4 => ?_)
  · have hsp := hk_t c4 hsp
    refine lv_iconst (v := (-1)) hx hb dX11_warmth_20 (by decide) ?_
    obtain rfl := hk_s hsp
    exact W.iret (v := (-1)) hx hb hr (fun t ht hW => hk_end G ht hW) G.2.1.2.2 dX11_warmth_21
  · have hsp := hk_f c4 hsp
    refine lv_aload_n hx hb dX11_warmth_13 rfl (lv_at hl 0 rfl) ?_
    refine hk_getI F9 G q2 hkc_7 (k := 8) (by decide) qw_92 rfl dX11_warmth_14 ?_
    refine lv_goto (tgt := 21) hx hb dX11_warmth_17 (by decide) ?_
    obtain rfl := hk_s hsp
    exact W.iret (v := (r3.2 r1.1 8)) hx hb hr (fun t ht hW => hk_end G ht hW) G.2.1.2.2 dX11_warmth_21
def mX11_damage (E : hk_E) (F : Nat) (S : hk_S) (a0 : Nat) (x1 : Int32) : Option (Int32 × hk_S) :=
(mX11_existingTrough E F S a0 x1).bind (fun r1 => if E.2.1 r1.1 = 8 then ((mX10_hasLeaf E F r1.2 r1.1).bind (fun r3 => if r3.1 = 0 then (some ((-1), r3.2)) else (some ((r3.2 r1.1 9), r3.2)))) else none)
set_option maxHeartbeats 4000000 in
set_option maxRecDepth 100000 in
theorem kX11_damage (l : Launch) (g : hk_G) (E : hk_E) (F n : Nat) (S : hk_S) (a0 : Nat) (x1 : Int32) (o : Int32 × hk_S) (h0 : E.2.1 a0 = 9) (hsp : mX11_damage E F S a0 x1 = some o) : Met l yX11_damage (hk_ws yX11_damage cX11_damage 3 (Option.some Jvm.ClassFile.FieldType.int)) ({ frames := 2, cells := 0, slots := 0, locals := 42 }) (hk_Pc g E S n [.ref (g.1 + a0), .int x1]) (hk_Q g E o.2 n (some (.int o.1))) 0 0 (hk_A g) := by
  refine Met.ofW (cc := cX11_damage) (maxL := 3) (ret := (Option.some Jvm.ClassFile.FieldType.int)) (by decide) rfl ?_
  intro p e s m args below meth c s₁ B hml hv
  obtain ⟨rfl, G⟩ := hk_begin hv
  have F9 : CallFix p m c cX11_damage 3 s [.ref (g.1 + a0), .int x1].toArray hk_W RX11 := ⟨B.exec, B.bytes, hml, findClass_of_methodNamed B.named, fun w h => atoms_spec (ws := hk_ws yX11_damage cX11_damage 3 (Option.some Jvm.ClassFile.FieldType.int)) B.pre w (hk_in h)⟩
  have hx := B.exec
  have hb := B.bytes
  have hr := B.returns
  have hlocks := B.notSynchronized
  have hl := lv_entry ([.ref (g.1 + a0), .int x1]) (n := 3) (Nat.le_of_ble_eq_true rfl)
  rw [lg_entry_eq]
  generalize (lg_sl ([.ref (g.1 + a0), .int x1]) ++ List.replicate (3 - (lg_sl ([.ref (g.1 + a0), .int x1])).length) Slot.unset).toArray = ls at hl ⊢
  have hl : lv_has ls 3 [(0, .ref (g.1 + a0)), (1, .int x1)] := hl
  unfold mX11_damage at hsp
  have G : hk_GG g E S n s s.heap [] := G
  refine lv_aload_n hx hb dX11_damage_0 rfl (lv_at hl 0 rfl) ?_
  refine lv_iload_n hx hb dX11_damage_1 rfl (lv_at hl 1 rfl) ?_
  obtain ⟨r1, er1, hsp⟩ := hk_b hsp
  refine hk_callVr (As := [.int x1]) (rest := []) F9 G h0 hkc_8 rfl (kX11_existingTrough l g E F n S a0 x1 r1 h0 er1) qv_RX11_124 ⟨rfl, rfl, (Nat.le_of_ble_eq_true rfl), (Nat.le_of_ble_eq_true rfl)⟩ rfl hl.1 rfl (Nat.le_of_ble_eq_true rfl) ⟨Nat.zero_le _, Nat.zero_le _⟩ dX11_damage_2 (fun H locs G => ?_)
  obtain ⟨q2, hsp⟩ := hk_k hsp
  refine lv_astore_n (lv' := [(2, .ref (g.1 + r1.1)), (0, .ref (g.1 + a0)), (1, .int x1)]) hx hb dX11_damage_5 rfl hl (by decide) rfl (fun ls hl => ?_)
  refine lv_aload_n hx hb dX11_damage_6 rfl (lv_at hl 0 rfl) ?_
  obtain ⟨r3, er3, hsp⟩ := hk_b hsp
  refine hk_callVi (As := []) (rest := []) F9 G q2 hkc_7 rfl (kX10_hasLeaf l g E F n r1.2 r1.1 r3 q2 er3) qv_RX11_130 ⟨rfl, rfl, (Nat.le_of_ble_eq_true rfl), (Nat.le_of_ble_eq_true rfl)⟩ rfl hl.1 rfl (Nat.le_of_ble_eq_true rfl) ⟨Nat.zero_le _, Nat.zero_le _⟩ dX11_damage_7 (fun H locs G => ?_)
  refine lv_if_eq (tgt := 20) hx hb dX11_damage_10 (by decide) (fun c4 => ?_) (fun c4 => ?_)
  · have hsp := hk_t c4 hsp
    refine lv_iconst (v := (-1)) hx hb dX11_damage_20 (by decide) ?_
    obtain rfl := hk_s hsp
    exact W.iret (v := (-1)) hx hb hr (fun t ht hW => hk_end G ht hW) G.2.1.2.2 dX11_damage_21
  · have hsp := hk_f c4 hsp
    refine lv_aload_n hx hb dX11_damage_13 rfl (lv_at hl 0 rfl) ?_
    refine hk_getI F9 G q2 hkc_7 (k := 9) (by decide) qw_94 rfl dX11_damage_14 ?_
    refine lv_goto (tgt := 21) hx hb dX11_damage_17 (by decide) ?_
    obtain rfl := hk_s hsp
    exact W.iret (v := (r3.2 r1.1 9)) hx hb hr (fun t ht hW => hk_end G ht hW) G.2.1.2.2 dX11_damage_21
def mX11_marks (E : hk_E) (F : Nat) (S : hk_S) (a0 : Nat) (x1 : Int32) : Option (Int32 × hk_S) :=
(mX11_existingTrough E F S a0 x1).bind (fun r1 => if E.2.1 r1.1 = 8 then ((mX10_hasLeaf E F r1.2 r1.1).bind (fun r3 => if r3.1 = 0 then (some ((-1), r3.2)) else ((mX10_quality E F r3.2 r1.1).bind (fun r5 => some (r5.1, r5.2))))) else none)
set_option maxHeartbeats 4000000 in
set_option maxRecDepth 100000 in
theorem kX11_marks (l : Launch) (g : hk_G) (E : hk_E) (F n : Nat) (S : hk_S) (a0 : Nat) (x1 : Int32) (o : Int32 × hk_S) (h0 : E.2.1 a0 = 9) (hsp : mX11_marks E F S a0 x1 = some o) : Met l yX11_marks (hk_ws yX11_marks cX11_marks 3 (Option.some Jvm.ClassFile.FieldType.int)) ({ frames := 3, cells := 0, slots := 0, locals := 61 }) (hk_Pc g E S n [.ref (g.1 + a0), .int x1]) (hk_Q g E o.2 n (some (.int o.1))) 0 0 (hk_A g) := by
  refine Met.ofW (cc := cX11_marks) (maxL := 3) (ret := (Option.some Jvm.ClassFile.FieldType.int)) (by decide) rfl ?_
  intro p e s m args below meth c s₁ B hml hv
  obtain ⟨rfl, G⟩ := hk_begin hv
  have F9 : CallFix p m c cX11_marks 3 s [.ref (g.1 + a0), .int x1].toArray hk_W RX11 := ⟨B.exec, B.bytes, hml, findClass_of_methodNamed B.named, fun w h => atoms_spec (ws := hk_ws yX11_marks cX11_marks 3 (Option.some Jvm.ClassFile.FieldType.int)) B.pre w (hk_in h)⟩
  have hx := B.exec
  have hb := B.bytes
  have hr := B.returns
  have hlocks := B.notSynchronized
  have hl := lv_entry ([.ref (g.1 + a0), .int x1]) (n := 3) (Nat.le_of_ble_eq_true rfl)
  rw [lg_entry_eq]
  generalize (lg_sl ([.ref (g.1 + a0), .int x1]) ++ List.replicate (3 - (lg_sl ([.ref (g.1 + a0), .int x1])).length) Slot.unset).toArray = ls at hl ⊢
  have hl : lv_has ls 3 [(0, .ref (g.1 + a0)), (1, .int x1)] := hl
  unfold mX11_marks at hsp
  have G : hk_GG g E S n s s.heap [] := G
  refine lv_aload_n hx hb dX11_marks_0 rfl (lv_at hl 0 rfl) ?_
  refine lv_iload_n hx hb dX11_marks_1 rfl (lv_at hl 1 rfl) ?_
  obtain ⟨r1, er1, hsp⟩ := hk_b hsp
  refine hk_callVr (As := [.int x1]) (rest := []) F9 G h0 hkc_8 rfl (kX11_existingTrough l g E F n S a0 x1 r1 h0 er1) qv_RX11_124 ⟨rfl, rfl, (Nat.le_of_ble_eq_true rfl), (Nat.le_of_ble_eq_true rfl)⟩ rfl hl.1 rfl (Nat.le_of_ble_eq_true rfl) ⟨Nat.zero_le _, Nat.zero_le _⟩ dX11_marks_2 (fun H locs G => ?_)
  obtain ⟨q2, hsp⟩ := hk_k hsp
  refine lv_astore_n (lv' := [(2, .ref (g.1 + r1.1)), (0, .ref (g.1 + a0)), (1, .int x1)]) hx hb dX11_marks_5 rfl hl (by decide) rfl (fun ls hl => ?_)
  refine lv_aload_n hx hb dX11_marks_6 rfl (lv_at hl 0 rfl) ?_
  obtain ⟨r3, er3, hsp⟩ := hk_b hsp
  refine hk_callVi (As := []) (rest := []) F9 G q2 hkc_7 rfl (kX10_hasLeaf l g E F n r1.2 r1.1 r3 q2 er3) qv_RX11_130 ⟨rfl, rfl, (Nat.le_of_ble_eq_true rfl), (Nat.le_of_ble_eq_true rfl)⟩ rfl hl.1 rfl (Nat.le_of_ble_eq_true rfl) ⟨Nat.zero_le _, Nat.zero_le _⟩ dX11_marks_7 (fun H locs G => ?_)
  refine lv_if_eq (tgt := 20) hx hb dX11_marks_10 (by decide) (fun c4 => ?_) (fun c4 => ?_)
  · have hsp := hk_t c4 hsp
    refine lv_iconst (v := (-1)) hx hb dX11_marks_20 (by decide) ?_
    obtain rfl := hk_s hsp
    exact W.iret (v := (-1)) hx hb hr (fun t ht hW => hk_end G ht hW) G.2.1.2.2 dX11_marks_21
  · have hsp := hk_f c4 hsp
    refine lv_aload_n hx hb dX11_marks_13 rfl (lv_at hl 0 rfl) ?_
    obtain ⟨r5, er5, hsp⟩ := hk_b hsp
    refine hk_callVi (As := []) (rest := []) F9 G q2 hkc_7 rfl (kX10_quality l g E F n r3.2 r1.1 r5 q2 er5) qv_RX11_257 ⟨rfl, rfl, (Nat.le_of_ble_eq_true rfl), (Nat.le_of_ble_eq_true rfl)⟩ rfl hl.1 rfl (Nat.le_of_ble_eq_true rfl) ⟨Nat.zero_le _, Nat.zero_le _⟩ dX11_marks_14 (fun H locs G => ?_)
    refine lv_goto (tgt := 21) hx hb dX11_marks_17 (by decide) ?_
    obtain rfl := hk_s hsp
    exact W.iret (v := r5.1) hx hb hr (fun t ht hW => hk_end G ht hW) G.2.1.2.2 dX11_marks_21
def mX11_whyNoDischarge (E : hk_E) (F : Nat) (S : hk_S) (a0 : Nat) (x1 : Int32) : Option (Int32 × hk_S) :=
(E.2.2.2 a0 0).bind (fun r1 => if E.2.1 r1 = 4 then ((mX11_existingTrough E F S a0 x1).bind (fun r2 => if E.2.1 r2.1 = 8 then ((mX5_refusalOf E F r2.2 r1 r2.1).bind (fun r4 => some (r4.1, r4.2))) else none)) else none)
set_option maxHeartbeats 4000000 in
set_option maxRecDepth 100000 in
theorem kX11_whyNoDischarge (l : Launch) (g : hk_G) (E : hk_E) (F n : Nat) (S : hk_S) (a0 : Nat) (x1 : Int32) (o : Int32 × hk_S) (h0 : E.2.1 a0 = 9) (hsp : mX11_whyNoDischarge E F S a0 x1 = some o) : Met l yX11_whyNoDischarge (hk_ws yX11_whyNoDischarge cX11_whyNoDischarge 2 (Option.some Jvm.ClassFile.FieldType.int)) ({ frames := 3, cells := 0, slots := 0, locals := 63 }) (hk_Pc g E S n [.ref (g.1 + a0), .int x1]) (hk_Q g E o.2 n (some (.int o.1))) 0 0 (hk_A g) := by
  refine Met.ofW (cc := cX11_whyNoDischarge) (maxL := 2) (ret := (Option.some Jvm.ClassFile.FieldType.int)) (by decide) rfl ?_
  intro p e s m args below meth c s₁ B hml hv
  obtain ⟨rfl, G⟩ := hk_begin hv
  have F9 : CallFix p m c cX11_whyNoDischarge 2 s [.ref (g.1 + a0), .int x1].toArray hk_W RX11 := ⟨B.exec, B.bytes, hml, findClass_of_methodNamed B.named, fun w h => atoms_spec (ws := hk_ws yX11_whyNoDischarge cX11_whyNoDischarge 2 (Option.some Jvm.ClassFile.FieldType.int)) B.pre w (hk_in h)⟩
  have hx := B.exec
  have hb := B.bytes
  have hr := B.returns
  have hlocks := B.notSynchronized
  have hl := lv_entry ([.ref (g.1 + a0), .int x1]) (n := 2) (Nat.le_of_ble_eq_true rfl)
  rw [lg_entry_eq]
  generalize (lg_sl ([.ref (g.1 + a0), .int x1]) ++ List.replicate (2 - (lg_sl ([.ref (g.1 + a0), .int x1])).length) Slot.unset).toArray = ls at hl ⊢
  have hl : lv_has ls 2 [(0, .ref (g.1 + a0)), (1, .int x1)] := hl
  unfold mX11_whyNoDischarge at hsp
  have G : hk_GG g E S n s s.heap [] := G
  refine lv_aload_n hx hb dX11_whyNoDischarge_0 rfl (lv_at hl 0 rfl) ?_
  obtain ⟨r1, er1, hsp⟩ := hk_b hsp
  obtain ⟨kr1, hsp⟩ := hk_k hsp
  refine hk_getR F9 G h0 hkc_8 (k := 0) (by decide) qw_360 rfl er1 dX11_whyNoDischarge_1 ?_
  refine lv_aload_n hx hb dX11_whyNoDischarge_4 rfl (lv_at hl 0 rfl) ?_
  refine lv_iload_n hx hb dX11_whyNoDischarge_5 rfl (lv_at hl 1 rfl) ?_
  obtain ⟨r2, er2, hsp⟩ := hk_b hsp
  refine hk_callVr (As := [.int x1]) (rest := [.ref (g.1 + r1)]) F9 G h0 hkc_8 rfl (kX11_existingTrough l g E F n S a0 x1 r2 h0 er2) qv_RX11_124 ⟨rfl, rfl, (Nat.le_of_ble_eq_true rfl), (Nat.le_of_ble_eq_true rfl)⟩ rfl hl.1 rfl (Nat.le_of_ble_eq_true rfl) ⟨Nat.zero_le _, Nat.zero_le _⟩ dX11_whyNoDischarge_6 (fun H locs G => ?_)
  obtain ⟨q3, hsp⟩ := hk_k hsp
  obtain ⟨r4, er4, hsp⟩ := hk_b hsp
  refine hk_callVi (As := [.ref (g.1 + r2.1)]) (rest := []) F9 G kr1 hkc_3 rfl (kX5_refusalOf l g E F n r2.2 r1 r2.1 r4 kr1 q3 er4) qv_RX11_170 ⟨rfl, rfl, (Nat.le_of_ble_eq_true rfl), (Nat.le_of_ble_eq_true rfl)⟩ rfl hl.1 rfl (Nat.le_of_ble_eq_true rfl) ⟨Nat.zero_le _, Nat.zero_le _⟩ dX11_whyNoDischarge_9 (fun H locs G => ?_)
  obtain rfl := hk_s hsp
  exact W.iret (v := r4.1) hx hb hr (fun t ht hW => hk_end G ht hW) G.2.1.2.2 dX11_whyNoDischarge_12
def mX11_readyTroughs (E : hk_E) (F : Nat) (S : hk_S) (a0 : Nat) : Option (Int32 × hk_S) :=
(E.2.2.2 a0 0).bind (fun r1 => if E.2.1 r1 = 4 then ((mX5_setOfReady E F S r1).bind (fun r2 => some (r2.1, r2.2))) else none)
set_option maxHeartbeats 4000000 in
set_option maxRecDepth 100000 in
theorem kX11_readyTroughs (l : Launch) (g : hk_G) (E : hk_E) (F n : Nat) (S : hk_S) (a0 : Nat) (o : Int32 × hk_S) (h0 : E.2.1 a0 = 9) (hsp : mX11_readyTroughs E F S a0 = some o) : Met l yX11_readyTroughs (hk_ws yX11_readyTroughs cX11_readyTroughs 1 (Option.some Jvm.ClassFile.FieldType.int)) ({ frames := 3, cells := 0, slots := 0, locals := 64 }) (hk_Pc g E S n [.ref (g.1 + a0)]) (hk_Q g E o.2 n (some (.int o.1))) 0 0 (hk_A g) := by
  refine Met.ofW (cc := cX11_readyTroughs) (maxL := 1) (ret := (Option.some Jvm.ClassFile.FieldType.int)) (by decide) rfl ?_
  intro p e s m args below meth c s₁ B hml hv
  obtain ⟨rfl, G⟩ := hk_begin hv
  have F9 : CallFix p m c cX11_readyTroughs 1 s [.ref (g.1 + a0)].toArray hk_W RX11 := ⟨B.exec, B.bytes, hml, findClass_of_methodNamed B.named, fun w h => atoms_spec (ws := hk_ws yX11_readyTroughs cX11_readyTroughs 1 (Option.some Jvm.ClassFile.FieldType.int)) B.pre w (hk_in h)⟩
  have hx := B.exec
  have hb := B.bytes
  have hr := B.returns
  have hlocks := B.notSynchronized
  have hl := lv_entry ([.ref (g.1 + a0)]) (n := 1) (Nat.le_of_ble_eq_true rfl)
  rw [lg_entry_eq]
  generalize (lg_sl ([.ref (g.1 + a0)]) ++ List.replicate (1 - (lg_sl ([.ref (g.1 + a0)])).length) Slot.unset).toArray = ls at hl ⊢
  have hl : lv_has ls 1 [(0, .ref (g.1 + a0))] := hl
  unfold mX11_readyTroughs at hsp
  have G : hk_GG g E S n s s.heap [] := G
  refine lv_aload_n hx hb dX11_readyTroughs_0 rfl (lv_at hl 0 rfl) ?_
  obtain ⟨r1, er1, hsp⟩ := hk_b hsp
  obtain ⟨kr1, hsp⟩ := hk_k hsp
  refine hk_getR F9 G h0 hkc_8 (k := 0) (by decide) qw_360 rfl er1 dX11_readyTroughs_1 ?_
  obtain ⟨r2, er2, hsp⟩ := hk_b hsp
  refine hk_callVi (As := []) (rest := []) F9 G kr1 hkc_3 rfl (kX5_setOfReady l g E F n S r1 r2 kr1 er2) qv_RX11_156 ⟨rfl, rfl, (Nat.le_of_ble_eq_true rfl), (Nat.le_of_ble_eq_true rfl)⟩ rfl hl.1 rfl (Nat.le_of_ble_eq_true rfl) ⟨Nat.zero_le _, Nat.zero_le _⟩ dX11_readyTroughs_4 (fun H locs G => ?_)
  obtain rfl := hk_s hsp
  exact W.iret (v := r2.1) hx hb hr (fun t ht hW => hk_end G ht hW) G.2.1.2.2 dX11_readyTroughs_7
def mX11_weight (E : hk_E) (F : Nat) (S : hk_S) (a0 : Nat) (x1 : Int32) : Option (Int32 × hk_S) :=
(mX11_existingTrough E F S a0 x1).bind (fun r1 => if E.2.1 r1.1 = 8 then (some ((r1.2 r1.1 5), r1.2)) else none)
set_option maxHeartbeats 4000000 in
set_option maxRecDepth 100000 in
theorem kX11_weight (l : Launch) (g : hk_G) (E : hk_E) (F n : Nat) (S : hk_S) (a0 : Nat) (x1 : Int32) (o : Int32 × hk_S) (h0 : E.2.1 a0 = 9) (hsp : mX11_weight E F S a0 x1 = some o) : Met l yX11_weight (hk_ws yX11_weight cX11_weight 2 (Option.some Jvm.ClassFile.FieldType.int)) ({ frames := 2, cells := 0, slots := 0, locals := 42 }) (hk_Pc g E S n [.ref (g.1 + a0), .int x1]) (hk_Q g E o.2 n (some (.int o.1))) 0 0 (hk_A g) := by
  refine Met.ofW (cc := cX11_weight) (maxL := 2) (ret := (Option.some Jvm.ClassFile.FieldType.int)) (by decide) rfl ?_
  intro p e s m args below meth c s₁ B hml hv
  obtain ⟨rfl, G⟩ := hk_begin hv
  have F9 : CallFix p m c cX11_weight 2 s [.ref (g.1 + a0), .int x1].toArray hk_W RX11 := ⟨B.exec, B.bytes, hml, findClass_of_methodNamed B.named, fun w h => atoms_spec (ws := hk_ws yX11_weight cX11_weight 2 (Option.some Jvm.ClassFile.FieldType.int)) B.pre w (hk_in h)⟩
  have hx := B.exec
  have hb := B.bytes
  have hr := B.returns
  have hlocks := B.notSynchronized
  have hl := lv_entry ([.ref (g.1 + a0), .int x1]) (n := 2) (Nat.le_of_ble_eq_true rfl)
  rw [lg_entry_eq]
  generalize (lg_sl ([.ref (g.1 + a0), .int x1]) ++ List.replicate (2 - (lg_sl ([.ref (g.1 + a0), .int x1])).length) Slot.unset).toArray = ls at hl ⊢
  have hl : lv_has ls 2 [(0, .ref (g.1 + a0)), (1, .int x1)] := hl
  unfold mX11_weight at hsp
  have G : hk_GG g E S n s s.heap [] := G
  refine lv_aload_n hx hb dX11_weight_0 rfl (lv_at hl 0 rfl) ?_
  refine lv_iload_n hx hb dX11_weight_1 rfl (lv_at hl 1 rfl) ?_
  obtain ⟨r1, er1, hsp⟩ := hk_b hsp
  refine hk_callVr (As := [.int x1]) (rest := []) F9 G h0 hkc_8 rfl (kX11_existingTrough l g E F n S a0 x1 r1 h0 er1) qv_RX11_124 ⟨rfl, rfl, (Nat.le_of_ble_eq_true rfl), (Nat.le_of_ble_eq_true rfl)⟩ rfl hl.1 rfl (Nat.le_of_ble_eq_true rfl) ⟨Nat.zero_le _, Nat.zero_le _⟩ dX11_weight_2 (fun H locs G => ?_)
  obtain ⟨q2, hsp⟩ := hk_k hsp
  refine hk_getI F9 G q2 hkc_7 (k := 5) (by decide) qw_85 rfl dX11_weight_5 ?_
  obtain rfl := hk_s hsp
  exact W.iret (v := (r1.2 r1.1 5)) hx hb hr (fun t ht hW => hk_end G ht hW) G.2.1.2.2 dX11_weight_8
def mX11_reading (E : hk_E) (F : Nat) (S : hk_S) (a0 : Nat) (x1 : Int32) : Option (Int32 × hk_S) :=
(E.2.2.2 a0 0).bind (fun r1 => if E.2.1 r1 = 4 then ((mX11_existingProbe E F S a0 x1).bind (fun r2 => if E.2.1 r2.1 = 5 then ((mX5_readingOf E F r2.2 r1 r2.1).bind (fun r4 => some (r4.1, r4.2))) else none)) else none)
set_option maxHeartbeats 4000000 in
set_option maxRecDepth 100000 in
theorem kX11_reading (l : Launch) (g : hk_G) (E : hk_E) (F n : Nat) (S : hk_S) (a0 : Nat) (x1 : Int32) (o : Int32 × hk_S) (h0 : E.2.1 a0 = 9) (hsp : mX11_reading E F S a0 x1 = some o) : Met l yX11_reading (hk_ws yX11_reading cX11_reading 2 (Option.some Jvm.ClassFile.FieldType.int)) ({ frames := 2, cells := 0, slots := 0, locals := 43 }) (hk_Pc g E S n [.ref (g.1 + a0), .int x1]) (hk_Q g E o.2 n (some (.int o.1))) 0 0 (hk_A g) := by
  refine Met.ofW (cc := cX11_reading) (maxL := 2) (ret := (Option.some Jvm.ClassFile.FieldType.int)) (by decide) rfl ?_
  intro p e s m args below meth c s₁ B hml hv
  obtain ⟨rfl, G⟩ := hk_begin hv
  have F9 : CallFix p m c cX11_reading 2 s [.ref (g.1 + a0), .int x1].toArray hk_W RX11 := ⟨B.exec, B.bytes, hml, findClass_of_methodNamed B.named, fun w h => atoms_spec (ws := hk_ws yX11_reading cX11_reading 2 (Option.some Jvm.ClassFile.FieldType.int)) B.pre w (hk_in h)⟩
  have hx := B.exec
  have hb := B.bytes
  have hr := B.returns
  have hlocks := B.notSynchronized
  have hl := lv_entry ([.ref (g.1 + a0), .int x1]) (n := 2) (Nat.le_of_ble_eq_true rfl)
  rw [lg_entry_eq]
  generalize (lg_sl ([.ref (g.1 + a0), .int x1]) ++ List.replicate (2 - (lg_sl ([.ref (g.1 + a0), .int x1])).length) Slot.unset).toArray = ls at hl ⊢
  have hl : lv_has ls 2 [(0, .ref (g.1 + a0)), (1, .int x1)] := hl
  unfold mX11_reading at hsp
  have G : hk_GG g E S n s s.heap [] := G
  refine lv_aload_n hx hb dX11_reading_0 rfl (lv_at hl 0 rfl) ?_
  obtain ⟨r1, er1, hsp⟩ := hk_b hsp
  obtain ⟨kr1, hsp⟩ := hk_k hsp
  refine hk_getR F9 G h0 hkc_8 (k := 0) (by decide) qw_360 rfl er1 dX11_reading_1 ?_
  refine lv_aload_n hx hb dX11_reading_4 rfl (lv_at hl 0 rfl) ?_
  refine lv_iload_n hx hb dX11_reading_5 rfl (lv_at hl 1 rfl) ?_
  obtain ⟨r2, er2, hsp⟩ := hk_b hsp
  refine hk_callVr (As := [.int x1]) (rest := [.ref (g.1 + r1)]) F9 G h0 hkc_8 rfl (kX11_existingProbe l g E F n S a0 x1 r2 h0 er2) qv_RX11_183 ⟨rfl, rfl, (Nat.le_of_ble_eq_true rfl), (Nat.le_of_ble_eq_true rfl)⟩ rfl hl.1 rfl (Nat.le_of_ble_eq_true rfl) ⟨Nat.zero_le _, Nat.zero_le _⟩ dX11_reading_6 (fun H locs G => ?_)
  obtain ⟨q3, hsp⟩ := hk_k hsp
  obtain ⟨r4, er4, hsp⟩ := hk_b hsp
  refine hk_callVi (As := [.ref (g.1 + r2.1)]) (rest := []) F9 G kr1 hkc_3 rfl (kX5_readingOf l g E F n r2.2 r1 r2.1 r4 kr1 q3 er4) qv_RX11_266 ⟨rfl, rfl, (Nat.le_of_ble_eq_true rfl), (Nat.le_of_ble_eq_true rfl)⟩ rfl hl.1 rfl (Nat.le_of_ble_eq_true rfl) ⟨Nat.zero_le _, Nat.zero_le _⟩ dX11_reading_9 (fun H locs G => ?_)
  obtain rfl := hk_s hsp
  exact W.iret (v := r4.1) hx hb hr (fun t ht hW => hk_end G ht hW) G.2.1.2.2 dX11_reading_12
def mX11_probeTrough (E : hk_E) (F : Nat) (S : hk_S) (a0 : Nat) (x1 : Int32) : Option (Int32 × hk_S) :=
(mX11_existingProbe E F S a0 x1).bind (fun r1 => if E.2.1 r1.1 = 5 then (some ((r1.2 r1.1 0), r1.2)) else none)
set_option maxHeartbeats 4000000 in
set_option maxRecDepth 100000 in
theorem kX11_probeTrough (l : Launch) (g : hk_G) (E : hk_E) (F n : Nat) (S : hk_S) (a0 : Nat) (x1 : Int32) (o : Int32 × hk_S) (h0 : E.2.1 a0 = 9) (hsp : mX11_probeTrough E F S a0 x1 = some o) : Met l yX11_probeTrough (hk_ws yX11_probeTrough cX11_probeTrough 2 (Option.some Jvm.ClassFile.FieldType.int)) ({ frames := 2, cells := 0, slots := 0, locals := 42 }) (hk_Pc g E S n [.ref (g.1 + a0), .int x1]) (hk_Q g E o.2 n (some (.int o.1))) 0 0 (hk_A g) := by
  refine Met.ofW (cc := cX11_probeTrough) (maxL := 2) (ret := (Option.some Jvm.ClassFile.FieldType.int)) (by decide) rfl ?_
  intro p e s m args below meth c s₁ B hml hv
  obtain ⟨rfl, G⟩ := hk_begin hv
  have F9 : CallFix p m c cX11_probeTrough 2 s [.ref (g.1 + a0), .int x1].toArray hk_W RX11 := ⟨B.exec, B.bytes, hml, findClass_of_methodNamed B.named, fun w h => atoms_spec (ws := hk_ws yX11_probeTrough cX11_probeTrough 2 (Option.some Jvm.ClassFile.FieldType.int)) B.pre w (hk_in h)⟩
  have hx := B.exec
  have hb := B.bytes
  have hr := B.returns
  have hlocks := B.notSynchronized
  have hl := lv_entry ([.ref (g.1 + a0), .int x1]) (n := 2) (Nat.le_of_ble_eq_true rfl)
  rw [lg_entry_eq]
  generalize (lg_sl ([.ref (g.1 + a0), .int x1]) ++ List.replicate (2 - (lg_sl ([.ref (g.1 + a0), .int x1])).length) Slot.unset).toArray = ls at hl ⊢
  have hl : lv_has ls 2 [(0, .ref (g.1 + a0)), (1, .int x1)] := hl
  unfold mX11_probeTrough at hsp
  have G : hk_GG g E S n s s.heap [] := G
  refine lv_aload_n hx hb dX11_probeTrough_0 rfl (lv_at hl 0 rfl) ?_
  refine lv_iload_n hx hb dX11_probeTrough_1 rfl (lv_at hl 1 rfl) ?_
  obtain ⟨r1, er1, hsp⟩ := hk_b hsp
  refine hk_callVr (As := [.int x1]) (rest := []) F9 G h0 hkc_8 rfl (kX11_existingProbe l g E F n S a0 x1 r1 h0 er1) qv_RX11_183 ⟨rfl, rfl, (Nat.le_of_ble_eq_true rfl), (Nat.le_of_ble_eq_true rfl)⟩ rfl hl.1 rfl (Nat.le_of_ble_eq_true rfl) ⟨Nat.zero_le _, Nat.zero_le _⟩ dX11_probeTrough_2 (fun H locs G => ?_)
  obtain ⟨q2, hsp⟩ := hk_k hsp
  refine hk_getI F9 G q2 hkc_4 (k := 0) (by decide) qw_123 rfl dX11_probeTrough_5 ?_
  obtain rfl := hk_s hsp
  exact W.iret (v := (r1.2 r1.1 0)) hx hb hr (fun t ht hW => hk_end G ht hW) G.2.1.2.2 dX11_probeTrough_8
def mX11_probeLayer (E : hk_E) (F : Nat) (S : hk_S) (a0 : Nat) (x1 : Int32) : Option (Int32 × hk_S) :=
(mX11_existingProbe E F S a0 x1).bind (fun r1 => if E.2.1 r1.1 = 5 then (some ((r1.2 r1.1 1), r1.2)) else none)
set_option maxHeartbeats 4000000 in
set_option maxRecDepth 100000 in
theorem kX11_probeLayer (l : Launch) (g : hk_G) (E : hk_E) (F n : Nat) (S : hk_S) (a0 : Nat) (x1 : Int32) (o : Int32 × hk_S) (h0 : E.2.1 a0 = 9) (hsp : mX11_probeLayer E F S a0 x1 = some o) : Met l yX11_probeLayer (hk_ws yX11_probeLayer cX11_probeLayer 2 (Option.some Jvm.ClassFile.FieldType.int)) ({ frames := 2, cells := 0, slots := 0, locals := 42 }) (hk_Pc g E S n [.ref (g.1 + a0), .int x1]) (hk_Q g E o.2 n (some (.int o.1))) 0 0 (hk_A g) := by
  refine Met.ofW (cc := cX11_probeLayer) (maxL := 2) (ret := (Option.some Jvm.ClassFile.FieldType.int)) (by decide) rfl ?_
  intro p e s m args below meth c s₁ B hml hv
  obtain ⟨rfl, G⟩ := hk_begin hv
  have F9 : CallFix p m c cX11_probeLayer 2 s [.ref (g.1 + a0), .int x1].toArray hk_W RX11 := ⟨B.exec, B.bytes, hml, findClass_of_methodNamed B.named, fun w h => atoms_spec (ws := hk_ws yX11_probeLayer cX11_probeLayer 2 (Option.some Jvm.ClassFile.FieldType.int)) B.pre w (hk_in h)⟩
  have hx := B.exec
  have hb := B.bytes
  have hr := B.returns
  have hlocks := B.notSynchronized
  have hl := lv_entry ([.ref (g.1 + a0), .int x1]) (n := 2) (Nat.le_of_ble_eq_true rfl)
  rw [lg_entry_eq]
  generalize (lg_sl ([.ref (g.1 + a0), .int x1]) ++ List.replicate (2 - (lg_sl ([.ref (g.1 + a0), .int x1])).length) Slot.unset).toArray = ls at hl ⊢
  have hl : lv_has ls 2 [(0, .ref (g.1 + a0)), (1, .int x1)] := hl
  unfold mX11_probeLayer at hsp
  have G : hk_GG g E S n s s.heap [] := G
  refine lv_aload_n hx hb dX11_probeLayer_0 rfl (lv_at hl 0 rfl) ?_
  refine lv_iload_n hx hb dX11_probeLayer_1 rfl (lv_at hl 1 rfl) ?_
  obtain ⟨r1, er1, hsp⟩ := hk_b hsp
  refine hk_callVr (As := [.int x1]) (rest := []) F9 G h0 hkc_8 rfl (kX11_existingProbe l g E F n S a0 x1 r1 h0 er1) qv_RX11_183 ⟨rfl, rfl, (Nat.le_of_ble_eq_true rfl), (Nat.le_of_ble_eq_true rfl)⟩ rfl hl.1 rfl (Nat.le_of_ble_eq_true rfl) ⟨Nat.zero_le _, Nat.zero_le _⟩ dX11_probeLayer_2 (fun H locs G => ?_)
  obtain ⟨q2, hsp⟩ := hk_k hsp
  refine hk_getI F9 G q2 hkc_4 (k := 1) (by decide) qw_126 rfl dX11_probeLayer_5 ?_
  obtain rfl := hk_s hsp
  exact W.iret (v := (r1.2 r1.1 1)) hx hb hr (fun t ht hW => hk_end G ht hW) G.2.1.2.2 dX11_probeLayer_8
def mX11_violations (E : hk_E) (F : Nat) (S : hk_S) (a0 : Nat) : Option (Int32 × hk_S) :=
(E.2.2.2 a0 0).bind (fun r1 => if E.2.1 r1 = 4 then ((mX5_countViolations E F S r1).bind (fun r2 => some (r2.1, r2.2))) else none)
set_option maxHeartbeats 4000000 in
set_option maxRecDepth 100000 in
theorem kX11_violations (l : Launch) (g : hk_G) (E : hk_E) (F n : Nat) (S : hk_S) (a0 : Nat) (o : Int32 × hk_S) (h0 : E.2.1 a0 = 9) (hsp : mX11_violations E F S a0 = some o) : Met l yX11_violations (hk_ws yX11_violations cX11_violations 1 (Option.some Jvm.ClassFile.FieldType.int)) ({ frames := 3, cells := 0, slots := 0, locals := 65 }) (hk_Pc g E S n [.ref (g.1 + a0)]) (hk_Q g E o.2 n (some (.int o.1))) 0 0 (hk_A g) := by
  refine Met.ofW (cc := cX11_violations) (maxL := 1) (ret := (Option.some Jvm.ClassFile.FieldType.int)) (by decide) rfl ?_
  intro p e s m args below meth c s₁ B hml hv
  obtain ⟨rfl, G⟩ := hk_begin hv
  have F9 : CallFix p m c cX11_violations 1 s [.ref (g.1 + a0)].toArray hk_W RX11 := ⟨B.exec, B.bytes, hml, findClass_of_methodNamed B.named, fun w h => atoms_spec (ws := hk_ws yX11_violations cX11_violations 1 (Option.some Jvm.ClassFile.FieldType.int)) B.pre w (hk_in h)⟩
  have hx := B.exec
  have hb := B.bytes
  have hr := B.returns
  have hlocks := B.notSynchronized
  have hl := lv_entry ([.ref (g.1 + a0)]) (n := 1) (Nat.le_of_ble_eq_true rfl)
  rw [lg_entry_eq]
  generalize (lg_sl ([.ref (g.1 + a0)]) ++ List.replicate (1 - (lg_sl ([.ref (g.1 + a0)])).length) Slot.unset).toArray = ls at hl ⊢
  have hl : lv_has ls 1 [(0, .ref (g.1 + a0))] := hl
  unfold mX11_violations at hsp
  have G : hk_GG g E S n s s.heap [] := G
  refine lv_aload_n hx hb dX11_violations_0 rfl (lv_at hl 0 rfl) ?_
  obtain ⟨r1, er1, hsp⟩ := hk_b hsp
  obtain ⟨kr1, hsp⟩ := hk_k hsp
  refine hk_getR F9 G h0 hkc_8 (k := 0) (by decide) qw_360 rfl er1 dX11_violations_1 ?_
  obtain ⟨r2, er2, hsp⟩ := hk_b hsp
  refine hk_callVi (As := []) (rest := []) F9 G kr1 hkc_3 rfl (kX5_countViolations l g E F n S r1 r2 kr1 er2) qv_RX11_308 ⟨rfl, rfl, (Nat.le_of_ble_eq_true rfl), (Nat.le_of_ble_eq_true rfl)⟩ rfl hl.1 rfl (Nat.le_of_ble_eq_true rfl) ⟨Nat.zero_le _, Nat.zero_le _⟩ dX11_violations_4 (fun H locs G => ?_)
  obtain rfl := hk_s hsp
  exact W.iret (v := r2.1) hx hb hr (fun t ht hW => hk_end G ht hW) G.2.1.2.2 dX11_violations_7
def mX11_addTrough (E : hk_E) (F : Nat) (S : hk_S) (a0 : Nat) (x1 : Int32) : Option (Int32 × hk_S) :=
(mX11_requireRange E F S x1 10 500).bind (fun r1 => (E.2.2.2 a0 0).bind (fun r2 => if E.2.1 r2 = 4 then ((mX5_hasRoomForTrough E F r1 r2).bind (fun r3 => if ¬ r3.1 = 0 then ((mX11_refuseIf E F r3.2 0).bind (fun r5 => (E.2.2.2 a0 3).bind (fun r6 => if E.2.1 r6 = 2 then ((mX3_remember E F r5 r6 r2).bind (fun r7 => (mX5_placeTrough E F r7 r2 x1).bind (fun r8 => some (r8.1, r8.2)))) else none))) else ((mX11_refuseIf E F r3.2 1).bind (fun r9 => (E.2.2.2 a0 3).bind (fun r10 => if E.2.1 r10 = 2 then ((mX3_remember E F r9 r10 r2).bind (fun r11 => (mX5_placeTrough E F r11 r2 x1).bind (fun r12 => some (r12.1, r12.2)))) else none))))) else none))
set_option maxHeartbeats 4000000 in
set_option maxRecDepth 100000 in
theorem kX11_addTrough (l : Launch) (g : hk_G) (E : hk_E) (F n : Nat) (S : hk_S) (a0 : Nat) (x1 : Int32) (o : Int32 × hk_S) (h0 : E.2.1 a0 = 9) (hsp : mX11_addTrough E F S a0 x1 = some o) : Met l yX11_addTrough (hk_ws yX11_addTrough cX11_addTrough 2 (Option.some Jvm.ClassFile.FieldType.int)) ({ frames := 3, cells := 0, slots := 0, locals := 65 }) (hk_Pc g E S n [.ref (g.1 + a0), .int x1]) (hk_Q g E o.2 n (some (.int o.1))) 0 0 (hk_A g) := by
  refine Met.ofW (cc := cX11_addTrough) (maxL := 2) (ret := (Option.some Jvm.ClassFile.FieldType.int)) (by decide) rfl ?_
  intro p e s m args below meth c s₁ B hml hv
  obtain ⟨rfl, G⟩ := hk_begin hv
  have F9 : CallFix p m c cX11_addTrough 2 s [.ref (g.1 + a0), .int x1].toArray hk_W RX11 := ⟨B.exec, B.bytes, hml, findClass_of_methodNamed B.named, fun w h => atoms_spec (ws := hk_ws yX11_addTrough cX11_addTrough 2 (Option.some Jvm.ClassFile.FieldType.int)) B.pre w (hk_in h)⟩
  have hx := B.exec
  have hb := B.bytes
  have hr := B.returns
  have hlocks := B.notSynchronized
  have hl := lv_entry ([.ref (g.1 + a0), .int x1]) (n := 2) (Nat.le_of_ble_eq_true rfl)
  rw [lg_entry_eq]
  generalize (lg_sl ([.ref (g.1 + a0), .int x1]) ++ List.replicate (2 - (lg_sl ([.ref (g.1 + a0), .int x1])).length) Slot.unset).toArray = ls at hl ⊢
  have hl : lv_has ls 2 [(0, .ref (g.1 + a0)), (1, .int x1)] := hl
  unfold mX11_addTrough at hsp
  have G : hk_GG g E S n s s.heap [] := G
  refine lv_iload_n hx hb dX11_addTrough_0 rfl (lv_at hl 1 rfl) ?_
  refine lv_bipush (v := 10) hx hb dX11_addTrough_1 (by decide) ?_
  refine lv_sipush (v := 500) hx hb dX11_addTrough_3 (by decide) ?_
  obtain ⟨r1, er1, hsp⟩ := hk_b hsp
  refine hk_callSv (As := [.int x1, .int 10, .int 500]) (rest := []) F9 G (kX11_requireRange l g E F n S x1 10 500 r1  er1) qv_RX11_96 ⟨rfl, rfl, (Nat.le_of_ble_eq_true rfl), (Nat.le_of_ble_eq_true rfl)⟩ rfl hl.1 rfl (Nat.le_of_ble_eq_true rfl) ⟨Nat.zero_le _, Nat.zero_le _⟩ dX11_addTrough_6 (fun H locs G => ?_)
  refine lv_aload_n hx hb dX11_addTrough_9 rfl (lv_at hl 0 rfl) ?_
  obtain ⟨r2, er2, hsp⟩ := hk_b hsp
  obtain ⟨kr2, hsp⟩ := hk_k hsp
  refine hk_getR F9 G h0 hkc_8 (k := 0) (by decide) qw_360 rfl er2 dX11_addTrough_10 ?_
  obtain ⟨r3, er3, hsp⟩ := hk_b hsp
  refine hk_callVi (As := []) (rest := []) F9 G kr2 hkc_3 rfl (kX5_hasRoomForTrough l g E F n r1 r2 r3 kr2 er3) qv_RX11_117 ⟨rfl, rfl, (Nat.le_of_ble_eq_true rfl), (Nat.le_of_ble_eq_true rfl)⟩ rfl hl.1 rfl (Nat.le_of_ble_eq_true rfl) ⟨Nat.zero_le _, Nat.zero_le _⟩ dX11_addTrough_13 (fun H locs G => ?_)
  refine lv_if_ne (tgt := 23) hx hb dX11_addTrough_16 (by decide) (fun c4 => ?_) (fun c4 => ?_)
  · have hsp := hk_t c4 hsp
    refine lv_iconst (v := 0) hx hb dX11_addTrough_23 (by decide) ?_
    obtain ⟨r5, er5, hsp⟩ := hk_b hsp
    refine hk_callSv (As := [.int 0]) (rest := []) F9 G (kX11_refuseIf l g E F n r3.2 0 r5  er5) qv_RX11_120 ⟨rfl, rfl, (Nat.le_of_ble_eq_true rfl), (Nat.le_of_ble_eq_true rfl)⟩ rfl hl.1 rfl (Nat.le_of_ble_eq_true rfl) ⟨Nat.zero_le _, Nat.zero_le _⟩ dX11_addTrough_24 (fun H locs G => ?_)
    refine lv_aload_n hx hb dX11_addTrough_27 rfl (lv_at hl 0 rfl) ?_
    obtain ⟨r6, er6, hsp⟩ := hk_b hsp
    obtain ⟨kr6, hsp⟩ := hk_k hsp
    refine hk_getR F9 G h0 hkc_8 (k := 3) (by decide) qw_363 rfl er6 dX11_addTrough_28 ?_
    refine lv_aload_n hx hb dX11_addTrough_31 rfl (lv_at hl 0 rfl) ?_
    refine hk_getR F9 G h0 hkc_8 (k := 0) (by decide) qw_360 rfl er2 dX11_addTrough_32 ?_
    obtain ⟨r7, er7, hsp⟩ := hk_b hsp
    refine hk_callVv (As := [.ref (g.1 + r2)]) (rest := []) F9 G kr6 hkc_1 rfl (kX3_remember l g E F n r5 r6 r2 r7 kr6 kr2 er7) qv_RX11_104 ⟨rfl, rfl, (Nat.le_of_ble_eq_true rfl), (Nat.le_of_ble_eq_true rfl)⟩ rfl hl.1 rfl (Nat.le_of_ble_eq_true rfl) ⟨Nat.zero_le _, Nat.zero_le _⟩ dX11_addTrough_35 (fun H locs G => ?_)
    refine lv_aload_n hx hb dX11_addTrough_38 rfl (lv_at hl 0 rfl) ?_
    refine hk_getR F9 G h0 hkc_8 (k := 0) (by decide) qw_360 rfl er2 dX11_addTrough_39 ?_
    refine lv_iload_n hx hb dX11_addTrough_42 rfl (lv_at hl 1 rfl) ?_
    obtain ⟨r8, er8, hsp⟩ := hk_b hsp
    refine hk_callVi (As := [.int x1]) (rest := []) F9 G kr2 hkc_3 rfl (kX5_placeTrough l g E F n r7 r2 x1 r8 kr2 er8) qv_RX11_47 ⟨rfl, rfl, (Nat.le_of_ble_eq_true rfl), (Nat.le_of_ble_eq_true rfl)⟩ rfl hl.1 rfl (Nat.le_of_ble_eq_true rfl) ⟨Nat.zero_le _, Nat.zero_le _⟩ dX11_addTrough_43 (fun H locs G => ?_)
    obtain rfl := hk_s hsp
    exact W.iret (v := r8.1) hx hb hr (fun t ht hW => hk_end G ht hW) G.2.1.2.2 dX11_addTrough_46
  · have hsp := hk_g c4 hsp
    refine lv_iconst (v := 1) hx hb dX11_addTrough_19 (by decide) ?_
    refine lv_goto (tgt := 24) hx hb dX11_addTrough_20 (by decide) ?_
    obtain ⟨r9, er9, hsp⟩ := hk_b hsp
    refine hk_callSv (As := [.int 1]) (rest := []) F9 G (kX11_refuseIf l g E F n r3.2 1 r9  er9) qv_RX11_120 ⟨rfl, rfl, (Nat.le_of_ble_eq_true rfl), (Nat.le_of_ble_eq_true rfl)⟩ rfl hl.1 rfl (Nat.le_of_ble_eq_true rfl) ⟨Nat.zero_le _, Nat.zero_le _⟩ dX11_addTrough_24 (fun H locs G => ?_)
    refine lv_aload_n hx hb dX11_addTrough_27 rfl (lv_at hl 0 rfl) ?_
    obtain ⟨r10, er10, hsp⟩ := hk_b hsp
    obtain ⟨kr10, hsp⟩ := hk_k hsp
    refine hk_getR F9 G h0 hkc_8 (k := 3) (by decide) qw_363 rfl er10 dX11_addTrough_28 ?_
    refine lv_aload_n hx hb dX11_addTrough_31 rfl (lv_at hl 0 rfl) ?_
    refine hk_getR F9 G h0 hkc_8 (k := 0) (by decide) qw_360 rfl er2 dX11_addTrough_32 ?_
    obtain ⟨r11, er11, hsp⟩ := hk_b hsp
    refine hk_callVv (As := [.ref (g.1 + r2)]) (rest := []) F9 G kr10 hkc_1 rfl (kX3_remember l g E F n r9 r10 r2 r11 kr10 kr2 er11) qv_RX11_104 ⟨rfl, rfl, (Nat.le_of_ble_eq_true rfl), (Nat.le_of_ble_eq_true rfl)⟩ rfl hl.1 rfl (Nat.le_of_ble_eq_true rfl) ⟨Nat.zero_le _, Nat.zero_le _⟩ dX11_addTrough_35 (fun H locs G => ?_)
    refine lv_aload_n hx hb dX11_addTrough_38 rfl (lv_at hl 0 rfl) ?_
    refine hk_getR F9 G h0 hkc_8 (k := 0) (by decide) qw_360 rfl er2 dX11_addTrough_39 ?_
    refine lv_iload_n hx hb dX11_addTrough_42 rfl (lv_at hl 1 rfl) ?_
    obtain ⟨r12, er12, hsp⟩ := hk_b hsp
    refine hk_callVi (As := [.int x1]) (rest := []) F9 G kr2 hkc_3 rfl (kX5_placeTrough l g E F n r11 r2 x1 r12 kr2 er12) qv_RX11_47 ⟨rfl, rfl, (Nat.le_of_ble_eq_true rfl), (Nat.le_of_ble_eq_true rfl)⟩ rfl hl.1 rfl (Nat.le_of_ble_eq_true rfl) ⟨Nat.zero_le _, Nat.zero_le _⟩ dX11_addTrough_43 (fun H locs G => ?_)
    obtain rfl := hk_s hsp
    exact W.iret (v := r12.1) hx hb hr (fun t ht hW => hk_end G ht hW) G.2.1.2.2 dX11_addTrough_46
def mX11_load (E : hk_E) (F : Nat) (S : hk_S) (a0 : Nat) (x1 : Int32) (x2 : Int32) (x3 : Int32) : Option (Int32 × hk_S) :=
(mX11_existingTrough E F S a0 x1).bind (fun r1 => if E.2.1 r1.1 = 8 then ((mX11_requireRange E F r1.2 x2 1 (r1.2 r1.1 0)).bind (fun r3 => (mX11_requireRange E F r3 x3 600 900).bind (fun r4 => (mX10_hasLeaf E F r4 r1.1).bind (fun r5 => (mX11_refuseIf E F r5.2 r5.1).bind (fun r6 => (E.2.2.2 a0 3).bind (fun r7 => if E.2.1 r7 = 2 then ((E.2.2.2 a0 0).bind (fun r8 => if E.2.1 r8 = 4 then ((mX3_remember E F r6 r7 r8).bind (fun r9 => (mX5_putLeaf E F r9 r8 r1.1 x2 x3).bind (fun r10 => some ((r10 r1.1 4), r10)))) else none)) else none)))))) else none)
set_option maxHeartbeats 4000000 in
set_option maxRecDepth 100000 in
theorem kX11_load (l : Launch) (g : hk_G) (E : hk_E) (F n : Nat) (S : hk_S) (a0 : Nat) (x1 : Int32) (x2 : Int32) (x3 : Int32) (o : Int32 × hk_S) (h0 : E.2.1 a0 = 9) (hsp : mX11_load E F S a0 x1 x2 x3 = some o) : Met l yX11_load (hk_ws yX11_load cX11_load 5 (Option.some Jvm.ClassFile.FieldType.int)) ({ frames := 3, cells := 0, slots := 0, locals := 65 }) (hk_Pc g E S n [.ref (g.1 + a0), .int x1, .int x2, .int x3]) (hk_Q g E o.2 n (some (.int o.1))) 0 0 (hk_A g) := by
  refine Met.ofW (cc := cX11_load) (maxL := 5) (ret := (Option.some Jvm.ClassFile.FieldType.int)) (by decide) rfl ?_
  intro p e s m args below meth c s₁ B hml hv
  obtain ⟨rfl, G⟩ := hk_begin hv
  have F9 : CallFix p m c cX11_load 5 s [.ref (g.1 + a0), .int x1, .int x2, .int x3].toArray hk_W RX11 := ⟨B.exec, B.bytes, hml, findClass_of_methodNamed B.named, fun w h => atoms_spec (ws := hk_ws yX11_load cX11_load 5 (Option.some Jvm.ClassFile.FieldType.int)) B.pre w (hk_in h)⟩
  have hx := B.exec
  have hb := B.bytes
  have hr := B.returns
  have hlocks := B.notSynchronized
  have hl := lv_entry ([.ref (g.1 + a0), .int x1, .int x2, .int x3]) (n := 5) (Nat.le_of_ble_eq_true rfl)
  rw [lg_entry_eq]
  generalize (lg_sl ([.ref (g.1 + a0), .int x1, .int x2, .int x3]) ++ List.replicate (5 - (lg_sl ([.ref (g.1 + a0), .int x1, .int x2, .int x3])).length) Slot.unset).toArray = ls at hl ⊢
  have hl : lv_has ls 5 [(0, .ref (g.1 + a0)), (1, .int x1), (2, .int x2), (3, .int x3)] := hl
  unfold mX11_load at hsp
  have G : hk_GG g E S n s s.heap [] := G
  refine lv_aload_n hx hb dX11_load_0 rfl (lv_at hl 0 rfl) ?_
  refine lv_iload_n hx hb dX11_load_1 rfl (lv_at hl 1 rfl) ?_
  obtain ⟨r1, er1, hsp⟩ := hk_b hsp
  refine hk_callVr (As := [.int x1]) (rest := []) F9 G h0 hkc_8 rfl (kX11_existingTrough l g E F n S a0 x1 r1 h0 er1) qv_RX11_124 ⟨rfl, rfl, (Nat.le_of_ble_eq_true rfl), (Nat.le_of_ble_eq_true rfl)⟩ rfl hl.1 rfl (Nat.le_of_ble_eq_true rfl) ⟨Nat.zero_le _, Nat.zero_le _⟩ dX11_load_2 (fun H locs G => ?_)
  obtain ⟨q2, hsp⟩ := hk_k hsp
  refine lv_astore (lv' := [(4, .ref (g.1 + r1.1)), (0, .ref (g.1 + a0)), (1, .int x1), (2, .int x2), (3, .int x3)]) hx hb dX11_load_5  hl (by decide) rfl (fun ls hl => ?_)
  refine lv_iload_n hx hb dX11_load_7 rfl (lv_at hl 3 rfl) ?_
  refine lv_iconst (v := 1) hx hb dX11_load_8 (by decide) ?_
  refine lv_aload hx hb dX11_load_9 (lv_at hl 0 rfl) ?_
  refine hk_getI F9 G q2 hkc_7 (k := 0) (by decide) qw_73 rfl dX11_load_11 ?_
  obtain ⟨r3, er3, hsp⟩ := hk_b hsp
  refine hk_callSv (As := [.int x2, .int 1, .int (r1.2 r1.1 0)]) (rest := []) F9 G (kX11_requireRange l g E F n r1.2 x2 1 (r1.2 r1.1 0) r3  er3) qv_RX11_96 ⟨rfl, rfl, (Nat.le_of_ble_eq_true rfl), (Nat.le_of_ble_eq_true rfl)⟩ rfl hl.1 rfl (Nat.le_of_ble_eq_true rfl) ⟨Nat.zero_le _, Nat.zero_le _⟩ dX11_load_14 (fun H locs G => ?_)
  refine lv_iload_n hx hb dX11_load_17 rfl (lv_at hl 4 rfl) ?_
  refine lv_sipush (v := 600) hx hb dX11_load_18 (by decide) ?_
  refine lv_sipush (v := 900) hx hb dX11_load_21 (by decide) ?_
  obtain ⟨r4, er4, hsp⟩ := hk_b hsp
  refine hk_callSv (As := [.int x3, .int 600, .int 900]) (rest := []) F9 G (kX11_requireRange l g E F n r3 x3 600 900 r4  er4) qv_RX11_96 ⟨rfl, rfl, (Nat.le_of_ble_eq_true rfl), (Nat.le_of_ble_eq_true rfl)⟩ rfl hl.1 rfl (Nat.le_of_ble_eq_true rfl) ⟨Nat.zero_le _, Nat.zero_le _⟩ dX11_load_24 (fun H locs G => ?_)
  refine lv_aload hx hb dX11_load_27 (lv_at hl 0 rfl) ?_
  obtain ⟨r5, er5, hsp⟩ := hk_b hsp
  refine hk_callVi (As := []) (rest := []) F9 G q2 hkc_7 rfl (kX10_hasLeaf l g E F n r4 r1.1 r5 q2 er5) qv_RX11_130 ⟨rfl, rfl, (Nat.le_of_ble_eq_true rfl), (Nat.le_of_ble_eq_true rfl)⟩ rfl hl.1 rfl (Nat.le_of_ble_eq_true rfl) ⟨Nat.zero_le _, Nat.zero_le _⟩ dX11_load_29 (fun H locs G => ?_)
  obtain ⟨r6, er6, hsp⟩ := hk_b hsp
  refine hk_callSv (As := [.int r5.1]) (rest := []) F9 G (kX11_refuseIf l g E F n r5.2 r5.1 r6  er6) qv_RX11_120 ⟨rfl, rfl, (Nat.le_of_ble_eq_true rfl), (Nat.le_of_ble_eq_true rfl)⟩ rfl hl.1 rfl (Nat.le_of_ble_eq_true rfl) ⟨Nat.zero_le _, Nat.zero_le _⟩ dX11_load_32 (fun H locs G => ?_)
  refine lv_aload_n hx hb dX11_load_35 rfl (lv_at hl 1 rfl) ?_
  obtain ⟨r7, er7, hsp⟩ := hk_b hsp
  obtain ⟨kr7, hsp⟩ := hk_k hsp
  refine hk_getR F9 G h0 hkc_8 (k := 3) (by decide) qw_363 rfl er7 dX11_load_36 ?_
  refine lv_aload_n hx hb dX11_load_39 rfl (lv_at hl 1 rfl) ?_
  obtain ⟨r8, er8, hsp⟩ := hk_b hsp
  obtain ⟨kr8, hsp⟩ := hk_k hsp
  refine hk_getR F9 G h0 hkc_8 (k := 0) (by decide) qw_360 rfl er8 dX11_load_40 ?_
  obtain ⟨r9, er9, hsp⟩ := hk_b hsp
  refine hk_callVv (As := [.ref (g.1 + r8)]) (rest := []) F9 G kr7 hkc_1 rfl (kX3_remember l g E F n r6 r7 r8 r9 kr7 kr8 er9) qv_RX11_104 ⟨rfl, rfl, (Nat.le_of_ble_eq_true rfl), (Nat.le_of_ble_eq_true rfl)⟩ rfl hl.1 rfl (Nat.le_of_ble_eq_true rfl) ⟨Nat.zero_le _, Nat.zero_le _⟩ dX11_load_43 (fun H locs G => ?_)
  refine lv_aload_n hx hb dX11_load_46 rfl (lv_at hl 1 rfl) ?_
  refine hk_getR F9 G h0 hkc_8 (k := 0) (by decide) qw_360 rfl er8 dX11_load_47 ?_
  refine lv_aload hx hb dX11_load_50 (lv_at hl 0 rfl) ?_
  refine lv_iload_n hx hb dX11_load_52 rfl (lv_at hl 3 rfl) ?_
  refine lv_iload_n hx hb dX11_load_53 rfl (lv_at hl 4 rfl) ?_
  obtain ⟨r10, er10, hsp⟩ := hk_b hsp
  refine hk_callVv (As := [.ref (g.1 + r1.1), .int x2, .int x3]) (rest := []) F9 G kr8 hkc_3 rfl (kX5_putLeaf l g E F n r9 r8 r1.1 x2 x3 r10 kr8 q2 er10) qv_RX11_55 ⟨rfl, rfl, (Nat.le_of_ble_eq_true rfl), (Nat.le_of_ble_eq_true rfl)⟩ rfl hl.1 rfl (Nat.le_of_ble_eq_true rfl) ⟨Nat.zero_le _, Nat.zero_le _⟩ dX11_load_54 (fun H locs G => ?_)
  refine lv_aload hx hb dX11_load_57 (lv_at hl 0 rfl) ?_
  refine hk_getI F9 G q2 hkc_7 (k := 4) (by decide) qw_82 rfl dX11_load_59 ?_
  obtain rfl := hk_s hsp
  exact W.iret (v := (r10 r1.1 4)) hx hb hr (fun t ht hW => hk_end G ht hW) G.2.1.2.2 dX11_load_62
def mX11_setFan (E : hk_E) (F : Nat) (S : hk_S) (a0 : Nat) (x1 : Int32) (x2 : Int32) : Option (Int32 × hk_S) :=
(mX11_existingTrough E F S a0 x1).bind (fun r1 => if E.2.1 r1.1 = 8 then ((mX11_requireRange E F r1.2 x2 0 5).bind (fun r3 => (E.2.2.2 a0 3).bind (fun r4 => if E.2.1 r4 = 2 then ((E.2.2.2 a0 0).bind (fun r5 => if E.2.1 r5 = 4 then ((mX3_remember E F r3 r4 r5).bind (fun r6 => hk_let (r6 r1.1 1) (fun y7 => hk_let (hk_up r6 r1.1 1 x2) (fun S8 => some (y7, S8))))) else none)) else none))) else none)
set_option maxHeartbeats 4000000 in
set_option maxRecDepth 100000 in
theorem kX11_setFan (l : Launch) (g : hk_G) (E : hk_E) (F n : Nat) (S : hk_S) (a0 : Nat) (x1 : Int32) (x2 : Int32) (o : Int32 × hk_S) (h0 : E.2.1 a0 = 9) (hsp : mX11_setFan E F S a0 x1 x2 = some o) : Met l yX11_setFan (hk_ws yX11_setFan cX11_setFan 5 (Option.some Jvm.ClassFile.FieldType.int)) ({ frames := 3, cells := 0, slots := 0, locals := 65 }) (hk_Pc g E S n [.ref (g.1 + a0), .int x1, .int x2]) (hk_Q g E o.2 n (some (.int o.1))) 0 0 (hk_A g) := by
  refine Met.ofW (cc := cX11_setFan) (maxL := 5) (ret := (Option.some Jvm.ClassFile.FieldType.int)) (by decide) rfl ?_
  intro p e s m args below meth c s₁ B hml hv
  obtain ⟨rfl, G⟩ := hk_begin hv
  have F9 : CallFix p m c cX11_setFan 5 s [.ref (g.1 + a0), .int x1, .int x2].toArray hk_W RX11 := ⟨B.exec, B.bytes, hml, findClass_of_methodNamed B.named, fun w h => atoms_spec (ws := hk_ws yX11_setFan cX11_setFan 5 (Option.some Jvm.ClassFile.FieldType.int)) B.pre w (hk_in h)⟩
  have hx := B.exec
  have hb := B.bytes
  have hr := B.returns
  have hlocks := B.notSynchronized
  have hl := lv_entry ([.ref (g.1 + a0), .int x1, .int x2]) (n := 5) (Nat.le_of_ble_eq_true rfl)
  rw [lg_entry_eq]
  generalize (lg_sl ([.ref (g.1 + a0), .int x1, .int x2]) ++ List.replicate (5 - (lg_sl ([.ref (g.1 + a0), .int x1, .int x2])).length) Slot.unset).toArray = ls at hl ⊢
  have hl : lv_has ls 5 [(0, .ref (g.1 + a0)), (1, .int x1), (2, .int x2)] := hl
  unfold mX11_setFan at hsp
  have G : hk_GG g E S n s s.heap [] := G
  refine lv_aload_n hx hb dX11_setFan_0 rfl (lv_at hl 0 rfl) ?_
  refine lv_iload_n hx hb dX11_setFan_1 rfl (lv_at hl 1 rfl) ?_
  obtain ⟨r1, er1, hsp⟩ := hk_b hsp
  refine hk_callVr (As := [.int x1]) (rest := []) F9 G h0 hkc_8 rfl (kX11_existingTrough l g E F n S a0 x1 r1 h0 er1) qv_RX11_124 ⟨rfl, rfl, (Nat.le_of_ble_eq_true rfl), (Nat.le_of_ble_eq_true rfl)⟩ rfl hl.1 rfl (Nat.le_of_ble_eq_true rfl) ⟨Nat.zero_le _, Nat.zero_le _⟩ dX11_setFan_2 (fun H locs G => ?_)
  obtain ⟨q2, hsp⟩ := hk_k hsp
  refine lv_astore_n (lv' := [(3, .ref (g.1 + r1.1)), (0, .ref (g.1 + a0)), (1, .int x1), (2, .int x2)]) hx hb dX11_setFan_5 rfl hl (by decide) rfl (fun ls hl => ?_)
  refine lv_iload_n hx hb dX11_setFan_6 rfl (lv_at hl 3 rfl) ?_
  refine lv_iconst (v := 0) hx hb dX11_setFan_7 (by decide) ?_
  refine lv_iconst (v := 5) hx hb dX11_setFan_8 (by decide) ?_
  obtain ⟨r3, er3, hsp⟩ := hk_b hsp
  refine hk_callSv (As := [.int x2, .int 0, .int 5]) (rest := []) F9 G (kX11_requireRange l g E F n r1.2 x2 0 5 r3  er3) qv_RX11_96 ⟨rfl, rfl, (Nat.le_of_ble_eq_true rfl), (Nat.le_of_ble_eq_true rfl)⟩ rfl hl.1 rfl (Nat.le_of_ble_eq_true rfl) ⟨Nat.zero_le _, Nat.zero_le _⟩ dX11_setFan_9 (fun H locs G => ?_)
  refine lv_aload_n hx hb dX11_setFan_12 rfl (lv_at hl 1 rfl) ?_
  obtain ⟨r4, er4, hsp⟩ := hk_b hsp
  obtain ⟨kr4, hsp⟩ := hk_k hsp
  refine hk_getR F9 G h0 hkc_8 (k := 3) (by decide) qw_363 rfl er4 dX11_setFan_13 ?_
  refine lv_aload_n hx hb dX11_setFan_16 rfl (lv_at hl 1 rfl) ?_
  obtain ⟨r5, er5, hsp⟩ := hk_b hsp
  obtain ⟨kr5, hsp⟩ := hk_k hsp
  refine hk_getR F9 G h0 hkc_8 (k := 0) (by decide) qw_360 rfl er5 dX11_setFan_17 ?_
  obtain ⟨r6, er6, hsp⟩ := hk_b hsp
  refine hk_callVv (As := [.ref (g.1 + r5)]) (rest := []) F9 G kr4 hkc_1 rfl (kX3_remember l g E F n r3 r4 r5 r6 kr4 kr5 er6) qv_RX11_104 ⟨rfl, rfl, (Nat.le_of_ble_eq_true rfl), (Nat.le_of_ble_eq_true rfl)⟩ rfl hl.1 rfl (Nat.le_of_ble_eq_true rfl) ⟨Nat.zero_le _, Nat.zero_le _⟩ dX11_setFan_20 (fun H locs G => ?_)
  refine lv_aload_n hx hb dX11_setFan_23 rfl (lv_at hl 0 rfl) ?_
  refine hk_getI F9 G q2 hkc_7 (k := 1) (by decide) qw_74 rfl dX11_setFan_24 ?_
  obtain ⟨y7, ey7, hsp⟩ := hk_l hsp
  refine hk_top ey7 ?_
  refine lv_istore (lv' := [(4, .int y7), (3, .ref (g.1 + r1.1)), (0, .ref (g.1 + a0)), (1, .int x1), (2, .int x2)]) hx hb dX11_setFan_27  hl (by decide) rfl (fun ls hl => ?_)
  refine lv_aload_n hx hb dX11_setFan_29 rfl (lv_at hl 1 rfl) ?_
  refine lv_iload_n hx hb dX11_setFan_30 rfl (lv_at hl 4 rfl) ?_
  obtain ⟨S8, eS8, hsp⟩ := hk_l hsp
  refine hk_putI F9 G q2 hkc_7 (k := 1) (by decide) qw_74 rfl rfl (tyX10_ok 1 (by decide)) rfl rfl dX11_setFan_31 (fun H locs G => ?_)
  rw [eS8] at G
  refine lv_iload hx hb dX11_setFan_34 (lv_at hl 0 rfl) ?_
  obtain rfl := hk_s hsp
  exact W.iret (v := y7) hx hb hr (fun t ht hW => hk_end G ht hW) G.2.1.2.2 dX11_setFan_36
def mX11_reverse (E : hk_E) (F : Nat) (S : hk_S) (a0 : Nat) (x1 : Int32) : Option (Int32 × hk_S) :=
(mX11_existingTrough E F S a0 x1).bind (fun r1 => if E.2.1 r1.1 = 8 then ((E.2.2.2 a0 3).bind (fun r3 => if E.2.1 r3 = 2 then ((E.2.2.2 a0 0).bind (fun r4 => if E.2.1 r4 = 4 then ((mX3_remember E F r1.2 r3 r4).bind (fun r5 => if ¬ (r5 r1.1 2) = 0 then (hk_let (hk_up r5 r1.1 2 0) (fun S7 => if (S7 r1.1 2) = 0 ∨ (S7 r1.1 2) = 1 then (some ((S7 r1.1 2), S7)) else none)) else (hk_let (hk_up r5 r1.1 2 1) (fun S9 => if (S9 r1.1 2) = 0 ∨ (S9 r1.1 2) = 1 then (some ((S9 r1.1 2), S9)) else none)))) else none)) else none)) else none)
set_option maxHeartbeats 4000000 in
set_option maxRecDepth 100000 in
theorem kX11_reverse (l : Launch) (g : hk_G) (E : hk_E) (F n : Nat) (S : hk_S) (a0 : Nat) (x1 : Int32) (o : Int32 × hk_S) (h0 : E.2.1 a0 = 9) (hsp : mX11_reverse E F S a0 x1 = some o) : Met l yX11_reverse (hk_ws yX11_reverse cX11_reverse 3 (Option.some Jvm.ClassFile.FieldType.boolean)) ({ frames := 3, cells := 0, slots := 0, locals := 65 }) (hk_Pc g E S n [.ref (g.1 + a0), .int x1]) (hk_Q g E o.2 n (some (.int o.1))) 0 0 (hk_A g) := by
  refine Met.ofW (cc := cX11_reverse) (maxL := 3) (ret := (Option.some Jvm.ClassFile.FieldType.boolean)) (by decide) rfl ?_
  intro p e s m args below meth c s₁ B hml hv
  obtain ⟨rfl, G⟩ := hk_begin hv
  have F9 : CallFix p m c cX11_reverse 3 s [.ref (g.1 + a0), .int x1].toArray hk_W RX11 := ⟨B.exec, B.bytes, hml, findClass_of_methodNamed B.named, fun w h => atoms_spec (ws := hk_ws yX11_reverse cX11_reverse 3 (Option.some Jvm.ClassFile.FieldType.boolean)) B.pre w (hk_in h)⟩
  have hx := B.exec
  have hb := B.bytes
  have hr := B.returns
  have hlocks := B.notSynchronized
  have hl := lv_entry ([.ref (g.1 + a0), .int x1]) (n := 3) (Nat.le_of_ble_eq_true rfl)
  rw [lg_entry_eq]
  generalize (lg_sl ([.ref (g.1 + a0), .int x1]) ++ List.replicate (3 - (lg_sl ([.ref (g.1 + a0), .int x1])).length) Slot.unset).toArray = ls at hl ⊢
  have hl : lv_has ls 3 [(0, .ref (g.1 + a0)), (1, .int x1)] := hl
  unfold mX11_reverse at hsp
  have G : hk_GG g E S n s s.heap [] := G
  refine lv_aload_n hx hb dX11_reverse_0 rfl (lv_at hl 0 rfl) ?_
  refine lv_iload_n hx hb dX11_reverse_1 rfl (lv_at hl 1 rfl) ?_
  obtain ⟨r1, er1, hsp⟩ := hk_b hsp
  refine hk_callVr (As := [.int x1]) (rest := []) F9 G h0 hkc_8 rfl (kX11_existingTrough l g E F n S a0 x1 r1 h0 er1) qv_RX11_124 ⟨rfl, rfl, (Nat.le_of_ble_eq_true rfl), (Nat.le_of_ble_eq_true rfl)⟩ rfl hl.1 rfl (Nat.le_of_ble_eq_true rfl) ⟨Nat.zero_le _, Nat.zero_le _⟩ dX11_reverse_2 (fun H locs G => ?_)
  obtain ⟨q2, hsp⟩ := hk_k hsp
  refine lv_astore_n (lv' := [(2, .ref (g.1 + r1.1)), (0, .ref (g.1 + a0)), (1, .int x1)]) hx hb dX11_reverse_5 rfl hl (by decide) rfl (fun ls hl => ?_)
  refine lv_aload_n hx hb dX11_reverse_6 rfl (lv_at hl 1 rfl) ?_
  obtain ⟨r3, er3, hsp⟩ := hk_b hsp
  obtain ⟨kr3, hsp⟩ := hk_k hsp
  refine hk_getR F9 G h0 hkc_8 (k := 3) (by decide) qw_363 rfl er3 dX11_reverse_7 ?_
  refine lv_aload_n hx hb dX11_reverse_10 rfl (lv_at hl 1 rfl) ?_
  obtain ⟨r4, er4, hsp⟩ := hk_b hsp
  obtain ⟨kr4, hsp⟩ := hk_k hsp
  refine hk_getR F9 G h0 hkc_8 (k := 0) (by decide) qw_360 rfl er4 dX11_reverse_11 ?_
  obtain ⟨r5, er5, hsp⟩ := hk_b hsp
  refine hk_callVv (As := [.ref (g.1 + r4)]) (rest := []) F9 G kr3 hkc_1 rfl (kX3_remember l g E F n r1.2 r3 r4 r5 kr3 kr4 er5) qv_RX11_104 ⟨rfl, rfl, (Nat.le_of_ble_eq_true rfl), (Nat.le_of_ble_eq_true rfl)⟩ rfl hl.1 rfl (Nat.le_of_ble_eq_true rfl) ⟨Nat.zero_le _, Nat.zero_le _⟩ dX11_reverse_14 (fun H locs G => ?_)
  refine lv_aload_n hx hb dX11_reverse_17 rfl (lv_at hl 0 rfl) ?_
  refine lv_aload_n hx hb dX11_reverse_18 rfl (lv_at hl 0 rfl) ?_
  refine hk_getI F9 G q2 hkc_7 (k := 2) (by decide) qw_76 rfl dX11_reverse_19 ?_
  refine lv_if_ne (tgt := 29) hx hb dX11_reverse_22 (by decide) (fun c6 => ?_) (fun c6 => ?_)
  · have hsp := hk_t c6 hsp
    refine lv_iconst (v := 0) hx hb dX11_reverse_29 (by decide) ?_
    obtain ⟨S7, eS7, hsp⟩ := hk_l hsp
    refine hk_putI F9 G q2 hkc_7 (k := 2) (by decide) qw_76 rfl rfl (tyX10_ok 2 (by decide)) (hk_z (by decide)).1 (hk_z (by decide)).2 dX11_reverse_30 (fun H locs G => ?_)
    rw [eS7] at G
    refine lv_aload_n hx hb dX11_reverse_33 rfl (lv_at hl 0 rfl) ?_
    refine hk_getI F9 G q2 hkc_7 (k := 2) (by decide) qw_76 rfl dX11_reverse_34 ?_
    obtain ⟨q8, hsp⟩ := hk_k hsp
    obtain rfl := hk_s hsp
    exact W.zret (v := (S7 r1.1 2)) hx hb hr (hk_z q8).1 (fun t ht hW => hk_end G ht hW) G.2.1.2.2 dX11_reverse_37
  · have hsp := hk_g c6 hsp
    refine lv_iconst (v := 1) hx hb dX11_reverse_25 (by decide) ?_
    refine lv_goto (tgt := 30) hx hb dX11_reverse_26 (by decide) ?_
    obtain ⟨S9, eS9, hsp⟩ := hk_l hsp
    refine hk_putI F9 G q2 hkc_7 (k := 2) (by decide) qw_76 rfl rfl (tyX10_ok 2 (by decide)) (hk_z (by decide)).1 (hk_z (by decide)).2 dX11_reverse_30 (fun H locs G => ?_)
    rw [eS9] at G
    refine lv_aload_n hx hb dX11_reverse_33 rfl (lv_at hl 0 rfl) ?_
    refine hk_getI F9 G q2 hkc_7 (k := 2) (by decide) qw_76 rfl dX11_reverse_34 ?_
    obtain ⟨q10, hsp⟩ := hk_k hsp
    obtain rfl := hk_s hsp
    exact W.zret (v := (S9 r1.1 2)) hx hb hr (hk_z q10).1 (fun t ht hW => hk_end G ht hW) G.2.1.2.2 dX11_reverse_37
def mX11_setHeat (E : hk_E) (F : Nat) (S : hk_S) (a0 : Nat) (x1 : Int32) : Option (Int32 × hk_S) :=
(mX11_requireRange E F S x1 0 5).bind (fun r1 => (E.2.2.2 a0 3).bind (fun r2 => if E.2.1 r2 = 2 then ((E.2.2.2 a0 0).bind (fun r3 => if E.2.1 r3 = 4 then ((mX3_remember E F r1 r2 r3).bind (fun r4 => (E.2.2.2 r3 0).bind (fun r5 => if E.2.1 r5 = 1 then (hk_let (r4 r5 2) (fun y6 => hk_let (hk_up r4 r5 2 x1) (fun S7 => some (y6, S7)))) else none))) else none)) else none))
set_option maxHeartbeats 4000000 in
set_option maxRecDepth 100000 in
theorem kX11_setHeat (l : Launch) (g : hk_G) (E : hk_E) (F n : Nat) (S : hk_S) (a0 : Nat) (x1 : Int32) (o : Int32 × hk_S) (h0 : E.2.1 a0 = 9) (hsp : mX11_setHeat E F S a0 x1 = some o) : Met l yX11_setHeat (hk_ws yX11_setHeat cX11_setHeat 3 (Option.some Jvm.ClassFile.FieldType.int)) ({ frames := 3, cells := 0, slots := 0, locals := 65 }) (hk_Pc g E S n [.ref (g.1 + a0), .int x1]) (hk_Q g E o.2 n (some (.int o.1))) 0 0 (hk_A g) := by
  refine Met.ofW (cc := cX11_setHeat) (maxL := 3) (ret := (Option.some Jvm.ClassFile.FieldType.int)) (by decide) rfl ?_
  intro p e s m args below meth c s₁ B hml hv
  obtain ⟨rfl, G⟩ := hk_begin hv
  have F9 : CallFix p m c cX11_setHeat 3 s [.ref (g.1 + a0), .int x1].toArray hk_W RX11 := ⟨B.exec, B.bytes, hml, findClass_of_methodNamed B.named, fun w h => atoms_spec (ws := hk_ws yX11_setHeat cX11_setHeat 3 (Option.some Jvm.ClassFile.FieldType.int)) B.pre w (hk_in h)⟩
  have hx := B.exec
  have hb := B.bytes
  have hr := B.returns
  have hlocks := B.notSynchronized
  have hl := lv_entry ([.ref (g.1 + a0), .int x1]) (n := 3) (Nat.le_of_ble_eq_true rfl)
  rw [lg_entry_eq]
  generalize (lg_sl ([.ref (g.1 + a0), .int x1]) ++ List.replicate (3 - (lg_sl ([.ref (g.1 + a0), .int x1])).length) Slot.unset).toArray = ls at hl ⊢
  have hl : lv_has ls 3 [(0, .ref (g.1 + a0)), (1, .int x1)] := hl
  unfold mX11_setHeat at hsp
  have G : hk_GG g E S n s s.heap [] := G
  refine lv_iload_n hx hb dX11_setHeat_0 rfl (lv_at hl 1 rfl) ?_
  refine lv_iconst (v := 0) hx hb dX11_setHeat_1 (by decide) ?_
  refine lv_iconst (v := 5) hx hb dX11_setHeat_2 (by decide) ?_
  obtain ⟨r1, er1, hsp⟩ := hk_b hsp
  refine hk_callSv (As := [.int x1, .int 0, .int 5]) (rest := []) F9 G (kX11_requireRange l g E F n S x1 0 5 r1  er1) qv_RX11_96 ⟨rfl, rfl, (Nat.le_of_ble_eq_true rfl), (Nat.le_of_ble_eq_true rfl)⟩ rfl hl.1 rfl (Nat.le_of_ble_eq_true rfl) ⟨Nat.zero_le _, Nat.zero_le _⟩ dX11_setHeat_3 (fun H locs G => ?_)
  refine lv_aload_n hx hb dX11_setHeat_6 rfl (lv_at hl 0 rfl) ?_
  obtain ⟨r2, er2, hsp⟩ := hk_b hsp
  obtain ⟨kr2, hsp⟩ := hk_k hsp
  refine hk_getR F9 G h0 hkc_8 (k := 3) (by decide) qw_363 rfl er2 dX11_setHeat_7 ?_
  refine lv_aload_n hx hb dX11_setHeat_10 rfl (lv_at hl 0 rfl) ?_
  obtain ⟨r3, er3, hsp⟩ := hk_b hsp
  obtain ⟨kr3, hsp⟩ := hk_k hsp
  refine hk_getR F9 G h0 hkc_8 (k := 0) (by decide) qw_360 rfl er3 dX11_setHeat_11 ?_
  obtain ⟨r4, er4, hsp⟩ := hk_b hsp
  refine hk_callVv (As := [.ref (g.1 + r3)]) (rest := []) F9 G kr2 hkc_1 rfl (kX3_remember l g E F n r1 r2 r3 r4 kr2 kr3 er4) qv_RX11_104 ⟨rfl, rfl, (Nat.le_of_ble_eq_true rfl), (Nat.le_of_ble_eq_true rfl)⟩ rfl hl.1 rfl (Nat.le_of_ble_eq_true rfl) ⟨Nat.zero_le _, Nat.zero_le _⟩ dX11_setHeat_14 (fun H locs G => ?_)
  refine lv_aload_n hx hb dX11_setHeat_17 rfl (lv_at hl 0 rfl) ?_
  refine hk_getR F9 G h0 hkc_8 (k := 0) (by decide) qw_360 rfl er3 dX11_setHeat_18 ?_
  obtain ⟨r5, er5, hsp⟩ := hk_b hsp
  obtain ⟨kr5, hsp⟩ := hk_k hsp
  refine hk_getR F9 G kr3 hkc_3 (k := 0) (by decide) qw_154 rfl er5 dX11_setHeat_21 ?_
  refine hk_getI F9 G kr5 hkc_0 (k := 2) (by decide) qw_47 rfl dX11_setHeat_24 ?_
  obtain ⟨y6, ey6, hsp⟩ := hk_l hsp
  refine hk_top ey6 ?_
  refine lv_istore_n (lv' := [(2, .int y6), (0, .ref (g.1 + a0)), (1, .int x1)]) hx hb dX11_setHeat_27 rfl hl (by decide) rfl (fun ls hl => ?_)
  refine lv_aload_n hx hb dX11_setHeat_28 rfl (lv_at hl 1 rfl) ?_
  refine hk_getR F9 G h0 hkc_8 (k := 0) (by decide) qw_360 rfl er3 dX11_setHeat_29 ?_
  refine hk_getR F9 G kr3 hkc_3 (k := 0) (by decide) qw_154 rfl er5 dX11_setHeat_32 ?_
  refine lv_iload_n hx hb dX11_setHeat_35 rfl (lv_at hl 2 rfl) ?_
  obtain ⟨S7, eS7, hsp⟩ := hk_l hsp
  refine hk_putI F9 G kr5 hkc_0 (k := 2) (by decide) qw_47 rfl rfl (tyX1_ok 2 (by decide)) rfl rfl dX11_setHeat_36 (fun H locs G => ?_)
  rw [eS7] at G
  refine lv_iload_n hx hb dX11_setHeat_39 rfl (lv_at hl 0 rfl) ?_
  obtain rfl := hk_s hsp
  exact W.iret (v := y6) hx hb hr (fun t ht hW => hk_end G ht hW) G.2.1.2.2 dX11_setHeat_40
def mX11_setHumidity (E : hk_E) (F : Nat) (S : hk_S) (a0 : Nat) (x1 : Int32) : Option (Int32 × hk_S) :=
(mX11_requireRange E F S x1 20 95).bind (fun r1 => (E.2.2.2 a0 3).bind (fun r2 => if E.2.1 r2 = 2 then ((E.2.2.2 a0 0).bind (fun r3 => if E.2.1 r3 = 4 then ((mX3_remember E F r1 r2 r3).bind (fun r4 => (E.2.2.2 r3 0).bind (fun r5 => if E.2.1 r5 = 1 then (hk_let (r4 r5 1) (fun y6 => hk_let (hk_up r4 r5 1 x1) (fun S7 => some (y6, S7)))) else none))) else none)) else none))
set_option maxHeartbeats 4000000 in
set_option maxRecDepth 100000 in
theorem kX11_setHumidity (l : Launch) (g : hk_G) (E : hk_E) (F n : Nat) (S : hk_S) (a0 : Nat) (x1 : Int32) (o : Int32 × hk_S) (h0 : E.2.1 a0 = 9) (hsp : mX11_setHumidity E F S a0 x1 = some o) : Met l yX11_setHumidity (hk_ws yX11_setHumidity cX11_setHumidity 3 (Option.some Jvm.ClassFile.FieldType.int)) ({ frames := 3, cells := 0, slots := 0, locals := 65 }) (hk_Pc g E S n [.ref (g.1 + a0), .int x1]) (hk_Q g E o.2 n (some (.int o.1))) 0 0 (hk_A g) := by
  refine Met.ofW (cc := cX11_setHumidity) (maxL := 3) (ret := (Option.some Jvm.ClassFile.FieldType.int)) (by decide) rfl ?_
  intro p e s m args below meth c s₁ B hml hv
  obtain ⟨rfl, G⟩ := hk_begin hv
  have F9 : CallFix p m c cX11_setHumidity 3 s [.ref (g.1 + a0), .int x1].toArray hk_W RX11 := ⟨B.exec, B.bytes, hml, findClass_of_methodNamed B.named, fun w h => atoms_spec (ws := hk_ws yX11_setHumidity cX11_setHumidity 3 (Option.some Jvm.ClassFile.FieldType.int)) B.pre w (hk_in h)⟩
  have hx := B.exec
  have hb := B.bytes
  have hr := B.returns
  have hlocks := B.notSynchronized
  have hl := lv_entry ([.ref (g.1 + a0), .int x1]) (n := 3) (Nat.le_of_ble_eq_true rfl)
  rw [lg_entry_eq]
  generalize (lg_sl ([.ref (g.1 + a0), .int x1]) ++ List.replicate (3 - (lg_sl ([.ref (g.1 + a0), .int x1])).length) Slot.unset).toArray = ls at hl ⊢
  have hl : lv_has ls 3 [(0, .ref (g.1 + a0)), (1, .int x1)] := hl
  unfold mX11_setHumidity at hsp
  have G : hk_GG g E S n s s.heap [] := G
  refine lv_iload_n hx hb dX11_setHumidity_0 rfl (lv_at hl 1 rfl) ?_
  refine lv_bipush (v := 20) hx hb dX11_setHumidity_1 (by decide) ?_
  refine lv_bipush (v := 95) hx hb dX11_setHumidity_3 (by decide) ?_
  obtain ⟨r1, er1, hsp⟩ := hk_b hsp
  refine hk_callSv (As := [.int x1, .int 20, .int 95]) (rest := []) F9 G (kX11_requireRange l g E F n S x1 20 95 r1  er1) qv_RX11_96 ⟨rfl, rfl, (Nat.le_of_ble_eq_true rfl), (Nat.le_of_ble_eq_true rfl)⟩ rfl hl.1 rfl (Nat.le_of_ble_eq_true rfl) ⟨Nat.zero_le _, Nat.zero_le _⟩ dX11_setHumidity_5 (fun H locs G => ?_)
  refine lv_aload_n hx hb dX11_setHumidity_8 rfl (lv_at hl 0 rfl) ?_
  obtain ⟨r2, er2, hsp⟩ := hk_b hsp
  obtain ⟨kr2, hsp⟩ := hk_k hsp
  refine hk_getR F9 G h0 hkc_8 (k := 3) (by decide) qw_363 rfl er2 dX11_setHumidity_9 ?_
  refine lv_aload_n hx hb dX11_setHumidity_12 rfl (lv_at hl 0 rfl) ?_
  obtain ⟨r3, er3, hsp⟩ := hk_b hsp
  obtain ⟨kr3, hsp⟩ := hk_k hsp
  refine hk_getR F9 G h0 hkc_8 (k := 0) (by decide) qw_360 rfl er3 dX11_setHumidity_13 ?_
  obtain ⟨r4, er4, hsp⟩ := hk_b hsp
  refine hk_callVv (As := [.ref (g.1 + r3)]) (rest := []) F9 G kr2 hkc_1 rfl (kX3_remember l g E F n r1 r2 r3 r4 kr2 kr3 er4) qv_RX11_104 ⟨rfl, rfl, (Nat.le_of_ble_eq_true rfl), (Nat.le_of_ble_eq_true rfl)⟩ rfl hl.1 rfl (Nat.le_of_ble_eq_true rfl) ⟨Nat.zero_le _, Nat.zero_le _⟩ dX11_setHumidity_16 (fun H locs G => ?_)
  refine lv_aload_n hx hb dX11_setHumidity_19 rfl (lv_at hl 0 rfl) ?_
  refine hk_getR F9 G h0 hkc_8 (k := 0) (by decide) qw_360 rfl er3 dX11_setHumidity_20 ?_
  obtain ⟨r5, er5, hsp⟩ := hk_b hsp
  obtain ⟨kr5, hsp⟩ := hk_k hsp
  refine hk_getR F9 G kr3 hkc_3 (k := 0) (by decide) qw_154 rfl er5 dX11_setHumidity_23 ?_
  refine hk_getI F9 G kr5 hkc_0 (k := 1) (by decide) qw_45 rfl dX11_setHumidity_26 ?_
  obtain ⟨y6, ey6, hsp⟩ := hk_l hsp
  refine hk_top ey6 ?_
  refine lv_istore_n (lv' := [(2, .int y6), (0, .ref (g.1 + a0)), (1, .int x1)]) hx hb dX11_setHumidity_29 rfl hl (by decide) rfl (fun ls hl => ?_)
  refine lv_aload_n hx hb dX11_setHumidity_30 rfl (lv_at hl 1 rfl) ?_
  refine hk_getR F9 G h0 hkc_8 (k := 0) (by decide) qw_360 rfl er3 dX11_setHumidity_31 ?_
  refine hk_getR F9 G kr3 hkc_3 (k := 0) (by decide) qw_154 rfl er5 dX11_setHumidity_34 ?_
  refine lv_iload_n hx hb dX11_setHumidity_37 rfl (lv_at hl 2 rfl) ?_
  obtain ⟨S7, eS7, hsp⟩ := hk_l hsp
  refine hk_putI F9 G kr5 hkc_0 (k := 1) (by decide) qw_45 rfl rfl (tyX1_ok 1 (by decide)) rfl rfl dX11_setHumidity_38 (fun H locs G => ?_)
  rw [eS7] at G
  refine lv_iload_n hx hb dX11_setHumidity_41 rfl (lv_at hl 0 rfl) ?_
  obtain rfl := hk_s hsp
  exact W.iret (v := y6) hx hb hr (fun t ht hW => hk_end G ht hW) G.2.1.2.2 dX11_setHumidity_42
def mX11_announceMonsoon (E : hk_E) (F : Nat) (S : hk_S) (a0 : Nat) (x1 : Int32) : Option (Int32 × hk_S) :=
(E.2.2.2 a0 0).bind (fun r1 => if E.2.1 r1 = 4 then ((E.2.2.2 r1 0).bind (fun r2 => if E.2.1 r2 = 1 then ((mX1_presentDay E F S r2).bind (fun r3 => (mX11_requireRange E F r3.2 x1 r3.1 83).bind (fun r4 => (mX1_hasRoomForMonsoon E F r4 r2).bind (fun r5 => if ¬ r5.1 = 0 then ((mX11_refuseIf E F r5.2 0).bind (fun r7 => (E.2.2.2 a0 3).bind (fun r8 => if E.2.1 r8 = 2 then ((mX3_remember E F r7 r8 r1).bind (fun r9 => (mX1_addMonsoon E F r9 r2 x1).bind (fun r10 => some ((r10 r2 3), r10)))) else none))) else ((mX11_refuseIf E F r5.2 1).bind (fun r11 => (E.2.2.2 a0 3).bind (fun r12 => if E.2.1 r12 = 2 then ((mX3_remember E F r11 r12 r1).bind (fun r13 => (mX1_addMonsoon E F r13 r2 x1).bind (fun r14 => some ((r14 r2 3), r14)))) else none))))))) else none)) else none)
set_option maxHeartbeats 4000000 in
set_option maxRecDepth 100000 in
theorem kX11_announceMonsoon (l : Launch) (g : hk_G) (E : hk_E) (F n : Nat) (S : hk_S) (a0 : Nat) (x1 : Int32) (o : Int32 × hk_S) (h0 : E.2.1 a0 = 9) (hsp : mX11_announceMonsoon E F S a0 x1 = some o) : Met l yX11_announceMonsoon (hk_ws yX11_announceMonsoon cX11_announceMonsoon 2 (Option.some Jvm.ClassFile.FieldType.int)) ({ frames := 3, cells := 0, slots := 0, locals := 65 }) (hk_Pc g E S n [.ref (g.1 + a0), .int x1]) (hk_Q g E o.2 n (some (.int o.1))) 0 0 (hk_A g) := by
  refine Met.ofW (cc := cX11_announceMonsoon) (maxL := 2) (ret := (Option.some Jvm.ClassFile.FieldType.int)) (by decide) rfl ?_
  intro p e s m args below meth c s₁ B hml hv
  obtain ⟨rfl, G⟩ := hk_begin hv
  have F9 : CallFix p m c cX11_announceMonsoon 2 s [.ref (g.1 + a0), .int x1].toArray hk_W RX11 := ⟨B.exec, B.bytes, hml, findClass_of_methodNamed B.named, fun w h => atoms_spec (ws := hk_ws yX11_announceMonsoon cX11_announceMonsoon 2 (Option.some Jvm.ClassFile.FieldType.int)) B.pre w (hk_in h)⟩
  have hx := B.exec
  have hb := B.bytes
  have hr := B.returns
  have hlocks := B.notSynchronized
  have hl := lv_entry ([.ref (g.1 + a0), .int x1]) (n := 2) (Nat.le_of_ble_eq_true rfl)
  rw [lg_entry_eq]
  generalize (lg_sl ([.ref (g.1 + a0), .int x1]) ++ List.replicate (2 - (lg_sl ([.ref (g.1 + a0), .int x1])).length) Slot.unset).toArray = ls at hl ⊢
  have hl : lv_has ls 2 [(0, .ref (g.1 + a0)), (1, .int x1)] := hl
  unfold mX11_announceMonsoon at hsp
  have G : hk_GG g E S n s s.heap [] := G
  refine lv_iload_n hx hb dX11_announceMonsoon_0 rfl (lv_at hl 1 rfl) ?_
  refine lv_aload_n hx hb dX11_announceMonsoon_1 rfl (lv_at hl 0 rfl) ?_
  obtain ⟨r1, er1, hsp⟩ := hk_b hsp
  obtain ⟨kr1, hsp⟩ := hk_k hsp
  refine hk_getR F9 G h0 hkc_8 (k := 0) (by decide) qw_360 rfl er1 dX11_announceMonsoon_2 ?_
  obtain ⟨r2, er2, hsp⟩ := hk_b hsp
  obtain ⟨kr2, hsp⟩ := hk_k hsp
  refine hk_getR F9 G kr1 hkc_3 (k := 0) (by decide) qw_154 rfl er2 dX11_announceMonsoon_5 ?_
  obtain ⟨r3, er3, hsp⟩ := hk_b hsp
  refine hk_callVi (As := []) (rest := [.int x1]) F9 G kr2 hkc_0 rfl (kX1_presentDay l g E F n S r2 r3 kr2 er3) qv_RX11_142 ⟨rfl, rfl, (Nat.le_of_ble_eq_true rfl), (Nat.le_of_ble_eq_true rfl)⟩ rfl hl.1 rfl (Nat.le_of_ble_eq_true rfl) ⟨Nat.zero_le _, Nat.zero_le _⟩ dX11_announceMonsoon_8 (fun H locs G => ?_)
  refine lv_bipush (v := 83) hx hb dX11_announceMonsoon_11 (by decide) ?_
  obtain ⟨r4, er4, hsp⟩ := hk_b hsp
  refine hk_callSv (As := [.int x1, .int r3.1, .int 83]) (rest := []) F9 G (kX11_requireRange l g E F n r3.2 x1 r3.1 83 r4  er4) qv_RX11_96 ⟨rfl, rfl, (Nat.le_of_ble_eq_true rfl), (Nat.le_of_ble_eq_true rfl)⟩ rfl hl.1 rfl (Nat.le_of_ble_eq_true rfl) ⟨Nat.zero_le _, Nat.zero_le _⟩ dX11_announceMonsoon_13 (fun H locs G => ?_)
  refine lv_aload_n hx hb dX11_announceMonsoon_16 rfl (lv_at hl 0 rfl) ?_
  refine hk_getR F9 G h0 hkc_8 (k := 0) (by decide) qw_360 rfl er1 dX11_announceMonsoon_17 ?_
  refine hk_getR F9 G kr1 hkc_3 (k := 0) (by decide) qw_154 rfl er2 dX11_announceMonsoon_20 ?_
  obtain ⟨r5, er5, hsp⟩ := hk_b hsp
  refine hk_callVi (As := []) (rest := []) F9 G kr2 hkc_0 rfl (kX1_hasRoomForMonsoon l g E F n r4 r2 r5 kr2 er5) qv_RX11_146 ⟨rfl, rfl, (Nat.le_of_ble_eq_true rfl), (Nat.le_of_ble_eq_true rfl)⟩ rfl hl.1 rfl (Nat.le_of_ble_eq_true rfl) ⟨Nat.zero_le _, Nat.zero_le _⟩ dX11_announceMonsoon_23 (fun H locs G => ?_)
  refine lv_if_ne (tgt := 33) hx hb dX11_announceMonsoon_26 (by decide) (fun c6 => ?_) (fun c6 => ?_)
  · have hsp := hk_t c6 hsp
    refine lv_iconst (v := 0) hx hb dX11_announceMonsoon_33 (by decide) ?_
    obtain ⟨r7, er7, hsp⟩ := hk_b hsp
    refine hk_callSv (As := [.int 0]) (rest := []) F9 G (kX11_refuseIf l g E F n r5.2 0 r7  er7) qv_RX11_120 ⟨rfl, rfl, (Nat.le_of_ble_eq_true rfl), (Nat.le_of_ble_eq_true rfl)⟩ rfl hl.1 rfl (Nat.le_of_ble_eq_true rfl) ⟨Nat.zero_le _, Nat.zero_le _⟩ dX11_announceMonsoon_34 (fun H locs G => ?_)
    refine lv_aload_n hx hb dX11_announceMonsoon_37 rfl (lv_at hl 0 rfl) ?_
    obtain ⟨r8, er8, hsp⟩ := hk_b hsp
    obtain ⟨kr8, hsp⟩ := hk_k hsp
    refine hk_getR F9 G h0 hkc_8 (k := 3) (by decide) qw_363 rfl er8 dX11_announceMonsoon_38 ?_
    refine lv_aload_n hx hb dX11_announceMonsoon_41 rfl (lv_at hl 0 rfl) ?_
    refine hk_getR F9 G h0 hkc_8 (k := 0) (by decide) qw_360 rfl er1 dX11_announceMonsoon_42 ?_
    obtain ⟨r9, er9, hsp⟩ := hk_b hsp
    refine hk_callVv (As := [.ref (g.1 + r1)]) (rest := []) F9 G kr8 hkc_1 rfl (kX3_remember l g E F n r7 r8 r1 r9 kr8 kr1 er9) qv_RX11_104 ⟨rfl, rfl, (Nat.le_of_ble_eq_true rfl), (Nat.le_of_ble_eq_true rfl)⟩ rfl hl.1 rfl (Nat.le_of_ble_eq_true rfl) ⟨Nat.zero_le _, Nat.zero_le _⟩ dX11_announceMonsoon_45 (fun H locs G => ?_)
    refine lv_aload_n hx hb dX11_announceMonsoon_48 rfl (lv_at hl 0 rfl) ?_
    refine hk_getR F9 G h0 hkc_8 (k := 0) (by decide) qw_360 rfl er1 dX11_announceMonsoon_49 ?_
    refine hk_getR F9 G kr1 hkc_3 (k := 0) (by decide) qw_154 rfl er2 dX11_announceMonsoon_52 ?_
    refine lv_iload_n hx hb dX11_announceMonsoon_55 rfl (lv_at hl 1 rfl) ?_
    obtain ⟨r10, er10, hsp⟩ := hk_b hsp
    refine hk_callVv (As := [.int x1]) (rest := []) F9 G kr2 hkc_0 rfl (kX1_addMonsoon l g E F n r9 r2 x1 r10 kr2 er10) qv_RX11_67 ⟨rfl, rfl, (Nat.le_of_ble_eq_true rfl), (Nat.le_of_ble_eq_true rfl)⟩ rfl hl.1 rfl (Nat.le_of_ble_eq_true rfl) ⟨Nat.zero_le _, Nat.zero_le _⟩ dX11_announceMonsoon_56 (fun H locs G => ?_)
    refine lv_aload_n hx hb dX11_announceMonsoon_59 rfl (lv_at hl 0 rfl) ?_
    refine hk_getR F9 G h0 hkc_8 (k := 0) (by decide) qw_360 rfl er1 dX11_announceMonsoon_60 ?_
    refine hk_getR F9 G kr1 hkc_3 (k := 0) (by decide) qw_154 rfl er2 dX11_announceMonsoon_63 ?_
    refine hk_getI F9 G kr2 hkc_0 (k := 3) (by decide) qw_49 rfl dX11_announceMonsoon_66 ?_
    obtain rfl := hk_s hsp
    exact W.iret (v := (r10 r2 3)) hx hb hr (fun t ht hW => hk_end G ht hW) G.2.1.2.2 dX11_announceMonsoon_69
  · have hsp := hk_g c6 hsp
    refine lv_iconst (v := 1) hx hb dX11_announceMonsoon_29 (by decide) ?_
    refine lv_goto (tgt := 34) hx hb dX11_announceMonsoon_30 (by decide) ?_
    obtain ⟨r11, er11, hsp⟩ := hk_b hsp
    refine hk_callSv (As := [.int 1]) (rest := []) F9 G (kX11_refuseIf l g E F n r5.2 1 r11  er11) qv_RX11_120 ⟨rfl, rfl, (Nat.le_of_ble_eq_true rfl), (Nat.le_of_ble_eq_true rfl)⟩ rfl hl.1 rfl (Nat.le_of_ble_eq_true rfl) ⟨Nat.zero_le _, Nat.zero_le _⟩ dX11_announceMonsoon_34 (fun H locs G => ?_)
    refine lv_aload_n hx hb dX11_announceMonsoon_37 rfl (lv_at hl 0 rfl) ?_
    obtain ⟨r12, er12, hsp⟩ := hk_b hsp
    obtain ⟨kr12, hsp⟩ := hk_k hsp
    refine hk_getR F9 G h0 hkc_8 (k := 3) (by decide) qw_363 rfl er12 dX11_announceMonsoon_38 ?_
    refine lv_aload_n hx hb dX11_announceMonsoon_41 rfl (lv_at hl 0 rfl) ?_
    refine hk_getR F9 G h0 hkc_8 (k := 0) (by decide) qw_360 rfl er1 dX11_announceMonsoon_42 ?_
    obtain ⟨r13, er13, hsp⟩ := hk_b hsp
    refine hk_callVv (As := [.ref (g.1 + r1)]) (rest := []) F9 G kr12 hkc_1 rfl (kX3_remember l g E F n r11 r12 r1 r13 kr12 kr1 er13) qv_RX11_104 ⟨rfl, rfl, (Nat.le_of_ble_eq_true rfl), (Nat.le_of_ble_eq_true rfl)⟩ rfl hl.1 rfl (Nat.le_of_ble_eq_true rfl) ⟨Nat.zero_le _, Nat.zero_le _⟩ dX11_announceMonsoon_45 (fun H locs G => ?_)
    refine lv_aload_n hx hb dX11_announceMonsoon_48 rfl (lv_at hl 0 rfl) ?_
    refine hk_getR F9 G h0 hkc_8 (k := 0) (by decide) qw_360 rfl er1 dX11_announceMonsoon_49 ?_
    refine hk_getR F9 G kr1 hkc_3 (k := 0) (by decide) qw_154 rfl er2 dX11_announceMonsoon_52 ?_
    refine lv_iload_n hx hb dX11_announceMonsoon_55 rfl (lv_at hl 1 rfl) ?_
    obtain ⟨r14, er14, hsp⟩ := hk_b hsp
    refine hk_callVv (As := [.int x1]) (rest := []) F9 G kr2 hkc_0 rfl (kX1_addMonsoon l g E F n r13 r2 x1 r14 kr2 er14) qv_RX11_67 ⟨rfl, rfl, (Nat.le_of_ble_eq_true rfl), (Nat.le_of_ble_eq_true rfl)⟩ rfl hl.1 rfl (Nat.le_of_ble_eq_true rfl) ⟨Nat.zero_le _, Nat.zero_le _⟩ dX11_announceMonsoon_56 (fun H locs G => ?_)
    refine lv_aload_n hx hb dX11_announceMonsoon_59 rfl (lv_at hl 0 rfl) ?_
    refine hk_getR F9 G h0 hkc_8 (k := 0) (by decide) qw_360 rfl er1 dX11_announceMonsoon_60 ?_
    refine hk_getR F9 G kr1 hkc_3 (k := 0) (by decide) qw_154 rfl er2 dX11_announceMonsoon_63 ?_
    refine hk_getI F9 G kr2 hkc_0 (k := 3) (by decide) qw_49 rfl dX11_announceMonsoon_66 ?_
    obtain rfl := hk_s hsp
    exact W.iret (v := (r14 r2 3)) hx hb hr (fun t ht hW => hk_end G ht hW) G.2.1.2.2 dX11_announceMonsoon_69
def mX11_setTarget (E : hk_E) (F : Nat) (S : hk_S) (a0 : Nat) (x1 : Int32) (x2 : Int32) : Option (Int32 × hk_S) :=
(mX11_requireRange E F S x1 500 700).bind (fun r1 => (mX11_requireRange E F r1 x2 5 50).bind (fun r2 => (E.2.2.2 a0 3).bind (fun r3 => if E.2.1 r3 = 2 then ((E.2.2.2 a0 0).bind (fun r4 => if E.2.1 r4 = 4 then ((mX3_remember E F r2 r3 r4).bind (fun r5 => (mX5_aimAt E F r5 r4 x1 x2).bind (fun r6 => (mX5_setOfReady E F r6 r4).bind (fun r7 => (mJ6_bitCount_0f7a4 E F r7.2 r7.1).bind (fun r8 => some (r8.1, r8.2)))))) else none)) else none)))
set_option maxHeartbeats 4000000 in
set_option maxRecDepth 100000 in
theorem kX11_setTarget (l : Launch) (g : hk_G) (E : hk_E) (F n : Nat) (S : hk_S) (a0 : Nat) (x1 : Int32) (x2 : Int32) (o : Int32 × hk_S) (h0 : E.2.1 a0 = 9) (hsp : mX11_setTarget E F S a0 x1 x2 = some o) : Met l yX11_setTarget (hk_ws yX11_setTarget cX11_setTarget 3 (Option.some Jvm.ClassFile.FieldType.int)) ({ frames := 3, cells := 0, slots := 0, locals := 65 }) (hk_Pc g E S n [.ref (g.1 + a0), .int x1, .int x2]) (hk_Q g E o.2 n (some (.int o.1))) 0 0 (hk_A g) := by
  refine Met.ofW (cc := cX11_setTarget) (maxL := 3) (ret := (Option.some Jvm.ClassFile.FieldType.int)) (by decide) rfl ?_
  intro p e s m args below meth c s₁ B hml hv
  obtain ⟨rfl, G⟩ := hk_begin hv
  have F9 : CallFix p m c cX11_setTarget 3 s [.ref (g.1 + a0), .int x1, .int x2].toArray hk_W RX11 := ⟨B.exec, B.bytes, hml, findClass_of_methodNamed B.named, fun w h => atoms_spec (ws := hk_ws yX11_setTarget cX11_setTarget 3 (Option.some Jvm.ClassFile.FieldType.int)) B.pre w (hk_in h)⟩
  have hx := B.exec
  have hb := B.bytes
  have hr := B.returns
  have hlocks := B.notSynchronized
  have hl := lv_entry ([.ref (g.1 + a0), .int x1, .int x2]) (n := 3) (Nat.le_of_ble_eq_true rfl)
  rw [lg_entry_eq]
  generalize (lg_sl ([.ref (g.1 + a0), .int x1, .int x2]) ++ List.replicate (3 - (lg_sl ([.ref (g.1 + a0), .int x1, .int x2])).length) Slot.unset).toArray = ls at hl ⊢
  have hl : lv_has ls 3 [(0, .ref (g.1 + a0)), (1, .int x1), (2, .int x2)] := hl
  unfold mX11_setTarget at hsp
  have G : hk_GG g E S n s s.heap [] := G
  refine lv_iload_n hx hb dX11_setTarget_0 rfl (lv_at hl 1 rfl) ?_
  refine lv_sipush (v := 500) hx hb dX11_setTarget_1 (by decide) ?_
  refine lv_sipush (v := 700) hx hb dX11_setTarget_4 (by decide) ?_
  obtain ⟨r1, er1, hsp⟩ := hk_b hsp
  refine hk_callSv (As := [.int x1, .int 500, .int 700]) (rest := []) F9 G (kX11_requireRange l g E F n S x1 500 700 r1  er1) qv_RX11_96 ⟨rfl, rfl, (Nat.le_of_ble_eq_true rfl), (Nat.le_of_ble_eq_true rfl)⟩ rfl hl.1 rfl (Nat.le_of_ble_eq_true rfl) ⟨Nat.zero_le _, Nat.zero_le _⟩ dX11_setTarget_7 (fun H locs G => ?_)
  refine lv_iload_n hx hb dX11_setTarget_10 rfl (lv_at hl 2 rfl) ?_
  refine lv_iconst (v := 5) hx hb dX11_setTarget_11 (by decide) ?_
  refine lv_bipush (v := 50) hx hb dX11_setTarget_12 (by decide) ?_
  obtain ⟨r2, er2, hsp⟩ := hk_b hsp
  refine hk_callSv (As := [.int x2, .int 5, .int 50]) (rest := []) F9 G (kX11_requireRange l g E F n r1 x2 5 50 r2  er2) qv_RX11_96 ⟨rfl, rfl, (Nat.le_of_ble_eq_true rfl), (Nat.le_of_ble_eq_true rfl)⟩ rfl hl.1 rfl (Nat.le_of_ble_eq_true rfl) ⟨Nat.zero_le _, Nat.zero_le _⟩ dX11_setTarget_14 (fun H locs G => ?_)
  refine lv_aload_n hx hb dX11_setTarget_17 rfl (lv_at hl 0 rfl) ?_
  obtain ⟨r3, er3, hsp⟩ := hk_b hsp
  obtain ⟨kr3, hsp⟩ := hk_k hsp
  refine hk_getR F9 G h0 hkc_8 (k := 3) (by decide) qw_363 rfl er3 dX11_setTarget_18 ?_
  refine lv_aload_n hx hb dX11_setTarget_21 rfl (lv_at hl 0 rfl) ?_
  obtain ⟨r4, er4, hsp⟩ := hk_b hsp
  obtain ⟨kr4, hsp⟩ := hk_k hsp
  refine hk_getR F9 G h0 hkc_8 (k := 0) (by decide) qw_360 rfl er4 dX11_setTarget_22 ?_
  obtain ⟨r5, er5, hsp⟩ := hk_b hsp
  refine hk_callVv (As := [.ref (g.1 + r4)]) (rest := []) F9 G kr3 hkc_1 rfl (kX3_remember l g E F n r2 r3 r4 r5 kr3 kr4 er5) qv_RX11_104 ⟨rfl, rfl, (Nat.le_of_ble_eq_true rfl), (Nat.le_of_ble_eq_true rfl)⟩ rfl hl.1 rfl (Nat.le_of_ble_eq_true rfl) ⟨Nat.zero_le _, Nat.zero_le _⟩ dX11_setTarget_25 (fun H locs G => ?_)
  refine lv_aload_n hx hb dX11_setTarget_28 rfl (lv_at hl 0 rfl) ?_
  refine hk_getR F9 G h0 hkc_8 (k := 0) (by decide) qw_360 rfl er4 dX11_setTarget_29 ?_
  refine lv_iload_n hx hb dX11_setTarget_32 rfl (lv_at hl 1 rfl) ?_
  refine lv_iload_n hx hb dX11_setTarget_33 rfl (lv_at hl 2 rfl) ?_
  obtain ⟨r6, er6, hsp⟩ := hk_b hsp
  refine hk_callVv (As := [.int x1, .int x2]) (rest := []) F9 G kr4 hkc_3 rfl (kX5_aimAt l g E F n r5 r4 x1 x2 r6 kr4 er6) qv_RX11_152 ⟨rfl, rfl, (Nat.le_of_ble_eq_true rfl), (Nat.le_of_ble_eq_true rfl)⟩ rfl hl.1 rfl (Nat.le_of_ble_eq_true rfl) ⟨Nat.zero_le _, Nat.zero_le _⟩ dX11_setTarget_34 (fun H locs G => ?_)
  refine lv_aload_n hx hb dX11_setTarget_37 rfl (lv_at hl 0 rfl) ?_
  refine hk_getR F9 G h0 hkc_8 (k := 0) (by decide) qw_360 rfl er4 dX11_setTarget_38 ?_
  obtain ⟨r7, er7, hsp⟩ := hk_b hsp
  refine hk_callVi (As := []) (rest := []) F9 G kr4 hkc_3 rfl (kX5_setOfReady l g E F n r6 r4 r7 kr4 er7) qv_RX11_156 ⟨rfl, rfl, (Nat.le_of_ble_eq_true rfl), (Nat.le_of_ble_eq_true rfl)⟩ rfl hl.1 rfl (Nat.le_of_ble_eq_true rfl) ⟨Nat.zero_le _, Nat.zero_le _⟩ dX11_setTarget_41 (fun H locs G => ?_)
  obtain ⟨r8, er8, hsp⟩ := hk_b hsp
  refine hk_callSi (As := [.int r7.1]) (rest := []) F9 G (kJ6_bitCount_0f7a4 l g E F n r7.2 r7.1 r8  er8) qv_RX11_159 ⟨rfl, rfl, (Nat.le_of_ble_eq_true rfl), (Nat.le_of_ble_eq_true rfl)⟩ rfl hl.1 rfl (Nat.le_of_ble_eq_true rfl) ⟨Nat.zero_le _, Nat.zero_le _⟩ dX11_setTarget_44 (fun H locs G => ?_)
  obtain rfl := hk_s hsp
  exact W.iret (v := r8.1) hx hb hr (fun t ht hW => hk_end G ht hW) G.2.1.2.2 dX11_setTarget_47
def mX11_turnLeaf (E : hk_E) (F : Nat) (S : hk_S) (a0 : Nat) (x1 : Int32) : Option (Int32 × hk_S) :=
(mX11_existingTrough E F S a0 x1).bind (fun r1 => if E.2.1 r1.1 = 8 then ((mX10_hasLeaf E F r1.2 r1.1).bind (fun r3 => if ¬ r3.1 = 0 then ((mX11_refuseIf E F r3.2 0).bind (fun r5 => (E.2.2.2 a0 3).bind (fun r6 => if E.2.1 r6 = 2 then ((E.2.2.2 a0 0).bind (fun r7 => if E.2.1 r7 = 4 then ((mX3_remember E F r5 r6 r7).bind (fun r8 => (mX10_mixLayers E F r8 r1.1).bind (fun r9 => some ((r9 r1.1 7), r9)))) else none)) else none))) else ((mX11_refuseIf E F r3.2 1).bind (fun r10 => (E.2.2.2 a0 3).bind (fun r11 => if E.2.1 r11 = 2 then ((E.2.2.2 a0 0).bind (fun r12 => if E.2.1 r12 = 4 then ((mX3_remember E F r10 r11 r12).bind (fun r13 => (mX10_mixLayers E F r13 r1.1).bind (fun r14 => some ((r14 r1.1 7), r14)))) else none)) else none))))) else none)
set_option maxHeartbeats 4000000 in
set_option maxRecDepth 100000 in
theorem kX11_turnLeaf (l : Launch) (g : hk_G) (E : hk_E) (F n : Nat) (S : hk_S) (a0 : Nat) (x1 : Int32) (o : Int32 × hk_S) (h0 : E.2.1 a0 = 9) (hsp : mX11_turnLeaf E F S a0 x1 = some o) : Met l yX11_turnLeaf (hk_ws yX11_turnLeaf cX11_turnLeaf 3 (Option.some Jvm.ClassFile.FieldType.int)) ({ frames := 3, cells := 0, slots := 0, locals := 65 }) (hk_Pc g E S n [.ref (g.1 + a0), .int x1]) (hk_Q g E o.2 n (some (.int o.1))) 0 0 (hk_A g) := by
  refine Met.ofW (cc := cX11_turnLeaf) (maxL := 3) (ret := (Option.some Jvm.ClassFile.FieldType.int)) (by decide) rfl ?_
  intro p e s m args below meth c s₁ B hml hv
  obtain ⟨rfl, G⟩ := hk_begin hv
  have F9 : CallFix p m c cX11_turnLeaf 3 s [.ref (g.1 + a0), .int x1].toArray hk_W RX11 := ⟨B.exec, B.bytes, hml, findClass_of_methodNamed B.named, fun w h => atoms_spec (ws := hk_ws yX11_turnLeaf cX11_turnLeaf 3 (Option.some Jvm.ClassFile.FieldType.int)) B.pre w (hk_in h)⟩
  have hx := B.exec
  have hb := B.bytes
  have hr := B.returns
  have hlocks := B.notSynchronized
  have hl := lv_entry ([.ref (g.1 + a0), .int x1]) (n := 3) (Nat.le_of_ble_eq_true rfl)
  rw [lg_entry_eq]
  generalize (lg_sl ([.ref (g.1 + a0), .int x1]) ++ List.replicate (3 - (lg_sl ([.ref (g.1 + a0), .int x1])).length) Slot.unset).toArray = ls at hl ⊢
  have hl : lv_has ls 3 [(0, .ref (g.1 + a0)), (1, .int x1)] := hl
  unfold mX11_turnLeaf at hsp
  have G : hk_GG g E S n s s.heap [] := G
  refine lv_aload_n hx hb dX11_turnLeaf_0 rfl (lv_at hl 0 rfl) ?_
  refine lv_iload_n hx hb dX11_turnLeaf_1 rfl (lv_at hl 1 rfl) ?_
  obtain ⟨r1, er1, hsp⟩ := hk_b hsp
  refine hk_callVr (As := [.int x1]) (rest := []) F9 G h0 hkc_8 rfl (kX11_existingTrough l g E F n S a0 x1 r1 h0 er1) qv_RX11_124 ⟨rfl, rfl, (Nat.le_of_ble_eq_true rfl), (Nat.le_of_ble_eq_true rfl)⟩ rfl hl.1 rfl (Nat.le_of_ble_eq_true rfl) ⟨Nat.zero_le _, Nat.zero_le _⟩ dX11_turnLeaf_2 (fun H locs G => ?_)
  obtain ⟨q2, hsp⟩ := hk_k hsp
  refine lv_astore_n (lv' := [(2, .ref (g.1 + r1.1)), (0, .ref (g.1 + a0)), (1, .int x1)]) hx hb dX11_turnLeaf_5 rfl hl (by decide) rfl (fun ls hl => ?_)
  refine lv_aload_n hx hb dX11_turnLeaf_6 rfl (lv_at hl 0 rfl) ?_
  obtain ⟨r3, er3, hsp⟩ := hk_b hsp
  refine hk_callVi (As := []) (rest := []) F9 G q2 hkc_7 rfl (kX10_hasLeaf l g E F n r1.2 r1.1 r3 q2 er3) qv_RX11_130 ⟨rfl, rfl, (Nat.le_of_ble_eq_true rfl), (Nat.le_of_ble_eq_true rfl)⟩ rfl hl.1 rfl (Nat.le_of_ble_eq_true rfl) ⟨Nat.zero_le _, Nat.zero_le _⟩ dX11_turnLeaf_7 (fun H locs G => ?_)
  refine lv_if_ne (tgt := 17) hx hb dX11_turnLeaf_10 (by decide) (fun c4 => ?_) (fun c4 => ?_)
  · have hsp := hk_t c4 hsp
    refine lv_iconst (v := 0) hx hb dX11_turnLeaf_17 (by decide) ?_
    obtain ⟨r5, er5, hsp⟩ := hk_b hsp
    refine hk_callSv (As := [.int 0]) (rest := []) F9 G (kX11_refuseIf l g E F n r3.2 0 r5  er5) qv_RX11_120 ⟨rfl, rfl, (Nat.le_of_ble_eq_true rfl), (Nat.le_of_ble_eq_true rfl)⟩ rfl hl.1 rfl (Nat.le_of_ble_eq_true rfl) ⟨Nat.zero_le _, Nat.zero_le _⟩ dX11_turnLeaf_18 (fun H locs G => ?_)
    refine lv_aload_n hx hb dX11_turnLeaf_21 rfl (lv_at hl 1 rfl) ?_
    obtain ⟨r6, er6, hsp⟩ := hk_b hsp
    obtain ⟨kr6, hsp⟩ := hk_k hsp
    refine hk_getR F9 G h0 hkc_8 (k := 3) (by decide) qw_363 rfl er6 dX11_turnLeaf_22 ?_
    refine lv_aload_n hx hb dX11_turnLeaf_25 rfl (lv_at hl 1 rfl) ?_
    obtain ⟨r7, er7, hsp⟩ := hk_b hsp
    obtain ⟨kr7, hsp⟩ := hk_k hsp
    refine hk_getR F9 G h0 hkc_8 (k := 0) (by decide) qw_360 rfl er7 dX11_turnLeaf_26 ?_
    obtain ⟨r8, er8, hsp⟩ := hk_b hsp
    refine hk_callVv (As := [.ref (g.1 + r7)]) (rest := []) F9 G kr6 hkc_1 rfl (kX3_remember l g E F n r5 r6 r7 r8 kr6 kr7 er8) qv_RX11_104 ⟨rfl, rfl, (Nat.le_of_ble_eq_true rfl), (Nat.le_of_ble_eq_true rfl)⟩ rfl hl.1 rfl (Nat.le_of_ble_eq_true rfl) ⟨Nat.zero_le _, Nat.zero_le _⟩ dX11_turnLeaf_29 (fun H locs G => ?_)
    refine lv_aload_n hx hb dX11_turnLeaf_32 rfl (lv_at hl 0 rfl) ?_
    obtain ⟨r9, er9, hsp⟩ := hk_b hsp
    refine hk_callVv (As := []) (rest := []) F9 G q2 hkc_7 rfl (kX10_mixLayers l g E F n r8 r1.1 r9 q2 er9) qv_RX11_164 ⟨rfl, rfl, (Nat.le_of_ble_eq_true rfl), (Nat.le_of_ble_eq_true rfl)⟩ rfl hl.1 rfl (Nat.le_of_ble_eq_true rfl) ⟨Nat.zero_le _, Nat.zero_le _⟩ dX11_turnLeaf_33 (fun H locs G => ?_)
    refine lv_aload_n hx hb dX11_turnLeaf_36 rfl (lv_at hl 0 rfl) ?_
    refine hk_getI F9 G q2 hkc_7 (k := 7) (by decide) qw_89 rfl dX11_turnLeaf_37 ?_
    obtain rfl := hk_s hsp
    exact W.iret (v := (r9 r1.1 7)) hx hb hr (fun t ht hW => hk_end G ht hW) G.2.1.2.2 dX11_turnLeaf_40
  · have hsp := hk_g c4 hsp
    refine lv_iconst (v := 1) hx hb dX11_turnLeaf_13 (by decide) ?_
    refine lv_goto (tgt := 18) hx hb dX11_turnLeaf_14 (by decide) ?_
    obtain ⟨r10, er10, hsp⟩ := hk_b hsp
    refine hk_callSv (As := [.int 1]) (rest := []) F9 G (kX11_refuseIf l g E F n r3.2 1 r10  er10) qv_RX11_120 ⟨rfl, rfl, (Nat.le_of_ble_eq_true rfl), (Nat.le_of_ble_eq_true rfl)⟩ rfl hl.1 rfl (Nat.le_of_ble_eq_true rfl) ⟨Nat.zero_le _, Nat.zero_le _⟩ dX11_turnLeaf_18 (fun H locs G => ?_)
    refine lv_aload_n hx hb dX11_turnLeaf_21 rfl (lv_at hl 1 rfl) ?_
    obtain ⟨r11, er11, hsp⟩ := hk_b hsp
    obtain ⟨kr11, hsp⟩ := hk_k hsp
    refine hk_getR F9 G h0 hkc_8 (k := 3) (by decide) qw_363 rfl er11 dX11_turnLeaf_22 ?_
    refine lv_aload_n hx hb dX11_turnLeaf_25 rfl (lv_at hl 1 rfl) ?_
    obtain ⟨r12, er12, hsp⟩ := hk_b hsp
    obtain ⟨kr12, hsp⟩ := hk_k hsp
    refine hk_getR F9 G h0 hkc_8 (k := 0) (by decide) qw_360 rfl er12 dX11_turnLeaf_26 ?_
    obtain ⟨r13, er13, hsp⟩ := hk_b hsp
    refine hk_callVv (As := [.ref (g.1 + r12)]) (rest := []) F9 G kr11 hkc_1 rfl (kX3_remember l g E F n r10 r11 r12 r13 kr11 kr12 er13) qv_RX11_104 ⟨rfl, rfl, (Nat.le_of_ble_eq_true rfl), (Nat.le_of_ble_eq_true rfl)⟩ rfl hl.1 rfl (Nat.le_of_ble_eq_true rfl) ⟨Nat.zero_le _, Nat.zero_le _⟩ dX11_turnLeaf_29 (fun H locs G => ?_)
    refine lv_aload_n hx hb dX11_turnLeaf_32 rfl (lv_at hl 0 rfl) ?_
    obtain ⟨r14, er14, hsp⟩ := hk_b hsp
    refine hk_callVv (As := []) (rest := []) F9 G q2 hkc_7 rfl (kX10_mixLayers l g E F n r13 r1.1 r14 q2 er14) qv_RX11_164 ⟨rfl, rfl, (Nat.le_of_ble_eq_true rfl), (Nat.le_of_ble_eq_true rfl)⟩ rfl hl.1 rfl (Nat.le_of_ble_eq_true rfl) ⟨Nat.zero_le _, Nat.zero_le _⟩ dX11_turnLeaf_33 (fun H locs G => ?_)
    refine lv_aload_n hx hb dX11_turnLeaf_36 rfl (lv_at hl 0 rfl) ?_
    refine hk_getI F9 G q2 hkc_7 (k := 7) (by decide) qw_89 rfl dX11_turnLeaf_37 ?_
    obtain rfl := hk_s hsp
    exact W.iret (v := (r14 r1.1 7)) hx hb hr (fun t ht hW => hk_end G ht hW) G.2.1.2.2 dX11_turnLeaf_40
def mX11_discharge (E : hk_E) (F : Nat) (S : hk_S) (a0 : Nat) (x1 : Int32) : Option (Int32 × hk_S) :=
(mX11_existingTrough E F S a0 x1).bind (fun r1 => if E.2.1 r1.1 = 8 then ((E.2.2.2 a0 0).bind (fun r3 => if E.2.1 r3 = 4 then ((mX5_refusalOf E F r1.2 r3 r1.1).bind (fun r4 => if r4.1 = 0 then ((mX11_refuseIf E F r4.2 0).bind (fun r6 => (E.2.2.2 a0 3).bind (fun r7 => if E.2.1 r7 = 2 then ((mX3_remember E F r6 r7 r3).bind (fun r8 => (mX5_dischargeLeaf E F r8 r3 r1.1).bind (fun r9 => some (r9.1, r9.2)))) else none))) else ((mX11_refuseIf E F r4.2 1).bind (fun r10 => (E.2.2.2 a0 3).bind (fun r11 => if E.2.1 r11 = 2 then ((mX3_remember E F r10 r11 r3).bind (fun r12 => (mX5_dischargeLeaf E F r12 r3 r1.1).bind (fun r13 => some (r13.1, r13.2)))) else none))))) else none)) else none)
set_option maxHeartbeats 4000000 in
set_option maxRecDepth 100000 in
theorem kX11_discharge (l : Launch) (g : hk_G) (E : hk_E) (F n : Nat) (S : hk_S) (a0 : Nat) (x1 : Int32) (o : Int32 × hk_S) (h0 : E.2.1 a0 = 9) (hsp : mX11_discharge E F S a0 x1 = some o) : Met l yX11_discharge (hk_ws yX11_discharge cX11_discharge 3 (Option.some Jvm.ClassFile.FieldType.int)) ({ frames := 4, cells := 0, slots := 0, locals := 83 }) (hk_Pc g E S n [.ref (g.1 + a0), .int x1]) (hk_Q g E o.2 n (some (.int o.1))) 0 0 (hk_A g) := by
  refine Met.ofW (cc := cX11_discharge) (maxL := 3) (ret := (Option.some Jvm.ClassFile.FieldType.int)) (by decide) rfl ?_
  intro p e s m args below meth c s₁ B hml hv
  obtain ⟨rfl, G⟩ := hk_begin hv
  have F9 : CallFix p m c cX11_discharge 3 s [.ref (g.1 + a0), .int x1].toArray hk_W RX11 := ⟨B.exec, B.bytes, hml, findClass_of_methodNamed B.named, fun w h => atoms_spec (ws := hk_ws yX11_discharge cX11_discharge 3 (Option.some Jvm.ClassFile.FieldType.int)) B.pre w (hk_in h)⟩
  have hx := B.exec
  have hb := B.bytes
  have hr := B.returns
  have hlocks := B.notSynchronized
  have hl := lv_entry ([.ref (g.1 + a0), .int x1]) (n := 3) (Nat.le_of_ble_eq_true rfl)
  rw [lg_entry_eq]
  generalize (lg_sl ([.ref (g.1 + a0), .int x1]) ++ List.replicate (3 - (lg_sl ([.ref (g.1 + a0), .int x1])).length) Slot.unset).toArray = ls at hl ⊢
  have hl : lv_has ls 3 [(0, .ref (g.1 + a0)), (1, .int x1)] := hl
  unfold mX11_discharge at hsp
  have G : hk_GG g E S n s s.heap [] := G
  refine lv_aload_n hx hb dX11_discharge_0 rfl (lv_at hl 0 rfl) ?_
  refine lv_iload_n hx hb dX11_discharge_1 rfl (lv_at hl 1 rfl) ?_
  obtain ⟨r1, er1, hsp⟩ := hk_b hsp
  refine hk_callVr (As := [.int x1]) (rest := []) F9 G h0 hkc_8 rfl (kX11_existingTrough l g E F n S a0 x1 r1 h0 er1) qv_RX11_124 ⟨rfl, rfl, (Nat.le_of_ble_eq_true rfl), (Nat.le_of_ble_eq_true rfl)⟩ rfl hl.1 rfl (Nat.le_of_ble_eq_true rfl) ⟨Nat.zero_le _, Nat.zero_le _⟩ dX11_discharge_2 (fun H locs G => ?_)
  obtain ⟨q2, hsp⟩ := hk_k hsp
  refine lv_astore_n (lv' := [(2, .ref (g.1 + r1.1)), (0, .ref (g.1 + a0)), (1, .int x1)]) hx hb dX11_discharge_5 rfl hl (by decide) rfl (fun ls hl => ?_)
  refine lv_aload_n hx hb dX11_discharge_6 rfl (lv_at hl 1 rfl) ?_
  obtain ⟨r3, er3, hsp⟩ := hk_b hsp
  obtain ⟨kr3, hsp⟩ := hk_k hsp
  refine hk_getR F9 G h0 hkc_8 (k := 0) (by decide) qw_360 rfl er3 dX11_discharge_7 ?_
  refine lv_aload_n hx hb dX11_discharge_10 rfl (lv_at hl 0 rfl) ?_
  obtain ⟨r4, er4, hsp⟩ := hk_b hsp
  refine hk_callVi (As := [.ref (g.1 + r1.1)]) (rest := []) F9 G kr3 hkc_3 rfl (kX5_refusalOf l g E F n r1.2 r3 r1.1 r4 kr3 q2 er4) qv_RX11_170 ⟨rfl, rfl, (Nat.le_of_ble_eq_true rfl), (Nat.le_of_ble_eq_true rfl)⟩ rfl hl.1 rfl (Nat.le_of_ble_eq_true rfl) ⟨Nat.zero_le _, Nat.zero_le _⟩ dX11_discharge_11 (fun H locs G => ?_)
  refine lv_if_eq (tgt := 21) hx hb dX11_discharge_14 (by decide) (fun c5 => ?_) (fun c5 => ?_)
  · have hsp := hk_t c5 hsp
    refine lv_iconst (v := 0) hx hb dX11_discharge_21 (by decide) ?_
    obtain ⟨r6, er6, hsp⟩ := hk_b hsp
    refine hk_callSv (As := [.int 0]) (rest := []) F9 G (kX11_refuseIf l g E F n r4.2 0 r6  er6) qv_RX11_120 ⟨rfl, rfl, (Nat.le_of_ble_eq_true rfl), (Nat.le_of_ble_eq_true rfl)⟩ rfl hl.1 rfl (Nat.le_of_ble_eq_true rfl) ⟨Nat.zero_le _, Nat.zero_le _⟩ dX11_discharge_22 (fun H locs G => ?_)
    refine lv_aload_n hx hb dX11_discharge_25 rfl (lv_at hl 1 rfl) ?_
    obtain ⟨r7, er7, hsp⟩ := hk_b hsp
    obtain ⟨kr7, hsp⟩ := hk_k hsp
    refine hk_getR F9 G h0 hkc_8 (k := 3) (by decide) qw_363 rfl er7 dX11_discharge_26 ?_
    refine lv_aload_n hx hb dX11_discharge_29 rfl (lv_at hl 1 rfl) ?_
    refine hk_getR F9 G h0 hkc_8 (k := 0) (by decide) qw_360 rfl er3 dX11_discharge_30 ?_
    obtain ⟨r8, er8, hsp⟩ := hk_b hsp
    refine hk_callVv (As := [.ref (g.1 + r3)]) (rest := []) F9 G kr7 hkc_1 rfl (kX3_remember l g E F n r6 r7 r3 r8 kr7 kr3 er8) qv_RX11_104 ⟨rfl, rfl, (Nat.le_of_ble_eq_true rfl), (Nat.le_of_ble_eq_true rfl)⟩ rfl hl.1 rfl (Nat.le_of_ble_eq_true rfl) ⟨Nat.zero_le _, Nat.zero_le _⟩ dX11_discharge_33 (fun H locs G => ?_)
    refine lv_aload_n hx hb dX11_discharge_36 rfl (lv_at hl 1 rfl) ?_
    refine hk_getR F9 G h0 hkc_8 (k := 0) (by decide) qw_360 rfl er3 dX11_discharge_37 ?_
    refine lv_aload_n hx hb dX11_discharge_40 rfl (lv_at hl 0 rfl) ?_
    obtain ⟨r9, er9, hsp⟩ := hk_b hsp
    refine hk_callVi (As := [.ref (g.1 + r1.1)]) (rest := []) F9 G kr3 hkc_3 rfl (kX5_dischargeLeaf l g E F n r8 r3 r1.1 r9 kr3 q2 er9) qv_RX11_174 ⟨rfl, rfl, (Nat.le_of_ble_eq_true rfl), (Nat.le_of_ble_eq_true rfl)⟩ rfl hl.1 rfl (Nat.le_of_ble_eq_true rfl) ⟨Nat.zero_le _, Nat.zero_le _⟩ dX11_discharge_41 (fun H locs G => ?_)
    obtain rfl := hk_s hsp
    exact W.iret (v := r9.1) hx hb hr (fun t ht hW => hk_end G ht hW) G.2.1.2.2 dX11_discharge_44
  · have hsp := hk_f c5 hsp
    refine lv_iconst (v := 1) hx hb dX11_discharge_17 (by decide) ?_
    refine lv_goto (tgt := 22) hx hb dX11_discharge_18 (by decide) ?_
    obtain ⟨r10, er10, hsp⟩ := hk_b hsp
    refine hk_callSv (As := [.int 1]) (rest := []) F9 G (kX11_refuseIf l g E F n r4.2 1 r10  er10) qv_RX11_120 ⟨rfl, rfl, (Nat.le_of_ble_eq_true rfl), (Nat.le_of_ble_eq_true rfl)⟩ rfl hl.1 rfl (Nat.le_of_ble_eq_true rfl) ⟨Nat.zero_le _, Nat.zero_le _⟩ dX11_discharge_22 (fun H locs G => ?_)
    refine lv_aload_n hx hb dX11_discharge_25 rfl (lv_at hl 1 rfl) ?_
    obtain ⟨r11, er11, hsp⟩ := hk_b hsp
    obtain ⟨kr11, hsp⟩ := hk_k hsp
    refine hk_getR F9 G h0 hkc_8 (k := 3) (by decide) qw_363 rfl er11 dX11_discharge_26 ?_
    refine lv_aload_n hx hb dX11_discharge_29 rfl (lv_at hl 1 rfl) ?_
    refine hk_getR F9 G h0 hkc_8 (k := 0) (by decide) qw_360 rfl er3 dX11_discharge_30 ?_
    obtain ⟨r12, er12, hsp⟩ := hk_b hsp
    refine hk_callVv (As := [.ref (g.1 + r3)]) (rest := []) F9 G kr11 hkc_1 rfl (kX3_remember l g E F n r10 r11 r3 r12 kr11 kr3 er12) qv_RX11_104 ⟨rfl, rfl, (Nat.le_of_ble_eq_true rfl), (Nat.le_of_ble_eq_true rfl)⟩ rfl hl.1 rfl (Nat.le_of_ble_eq_true rfl) ⟨Nat.zero_le _, Nat.zero_le _⟩ dX11_discharge_33 (fun H locs G => ?_)
    refine lv_aload_n hx hb dX11_discharge_36 rfl (lv_at hl 1 rfl) ?_
    refine hk_getR F9 G h0 hkc_8 (k := 0) (by decide) qw_360 rfl er3 dX11_discharge_37 ?_
    refine lv_aload_n hx hb dX11_discharge_40 rfl (lv_at hl 0 rfl) ?_
    obtain ⟨r13, er13, hsp⟩ := hk_b hsp
    refine hk_callVi (As := [.ref (g.1 + r1.1)]) (rest := []) F9 G kr3 hkc_3 rfl (kX5_dischargeLeaf l g E F n r12 r3 r1.1 r13 kr3 q2 er13) qv_RX11_174 ⟨rfl, rfl, (Nat.le_of_ble_eq_true rfl), (Nat.le_of_ble_eq_true rfl)⟩ rfl hl.1 rfl (Nat.le_of_ble_eq_true rfl) ⟨Nat.zero_le _, Nat.zero_le _⟩ dX11_discharge_41 (fun H locs G => ?_)
    obtain rfl := hk_s hsp
    exact W.iret (v := r13.1) hx hb hr (fun t ht hW => hk_end G ht hW) G.2.1.2.2 dX11_discharge_44
def mX11_discard (E : hk_E) (F : Nat) (S : hk_S) (a0 : Nat) (x1 : Int32) : Option (Int32 × hk_S) :=
(mX11_existingTrough E F S a0 x1).bind (fun r1 => if E.2.1 r1.1 = 8 then ((mX10_hasLeaf E F r1.2 r1.1).bind (fun r3 => if ¬ r3.1 = 0 then ((mX11_refuseIf E F r3.2 0).bind (fun r5 => (E.2.2.2 a0 3).bind (fun r6 => if E.2.1 r6 = 2 then ((E.2.2.2 a0 0).bind (fun r7 => if E.2.1 r7 = 4 then ((mX3_remember E F r5 r6 r7).bind (fun r8 => (mX5_discardLeaf E F r8 r7 r1.1).bind (fun r9 => some (r9.1, r9.2)))) else none)) else none))) else ((mX11_refuseIf E F r3.2 1).bind (fun r10 => (E.2.2.2 a0 3).bind (fun r11 => if E.2.1 r11 = 2 then ((E.2.2.2 a0 0).bind (fun r12 => if E.2.1 r12 = 4 then ((mX3_remember E F r10 r11 r12).bind (fun r13 => (mX5_discardLeaf E F r13 r12 r1.1).bind (fun r14 => some (r14.1, r14.2)))) else none)) else none))))) else none)
set_option maxHeartbeats 4000000 in
set_option maxRecDepth 100000 in
theorem kX11_discard (l : Launch) (g : hk_G) (E : hk_E) (F n : Nat) (S : hk_S) (a0 : Nat) (x1 : Int32) (o : Int32 × hk_S) (h0 : E.2.1 a0 = 9) (hsp : mX11_discard E F S a0 x1 = some o) : Met l yX11_discard (hk_ws yX11_discard cX11_discard 3 (Option.some Jvm.ClassFile.FieldType.int)) ({ frames := 3, cells := 0, slots := 0, locals := 65 }) (hk_Pc g E S n [.ref (g.1 + a0), .int x1]) (hk_Q g E o.2 n (some (.int o.1))) 0 0 (hk_A g) := by
  refine Met.ofW (cc := cX11_discard) (maxL := 3) (ret := (Option.some Jvm.ClassFile.FieldType.int)) (by decide) rfl ?_
  intro p e s m args below meth c s₁ B hml hv
  obtain ⟨rfl, G⟩ := hk_begin hv
  have F9 : CallFix p m c cX11_discard 3 s [.ref (g.1 + a0), .int x1].toArray hk_W RX11 := ⟨B.exec, B.bytes, hml, findClass_of_methodNamed B.named, fun w h => atoms_spec (ws := hk_ws yX11_discard cX11_discard 3 (Option.some Jvm.ClassFile.FieldType.int)) B.pre w (hk_in h)⟩
  have hx := B.exec
  have hb := B.bytes
  have hr := B.returns
  have hlocks := B.notSynchronized
  have hl := lv_entry ([.ref (g.1 + a0), .int x1]) (n := 3) (Nat.le_of_ble_eq_true rfl)
  rw [lg_entry_eq]
  generalize (lg_sl ([.ref (g.1 + a0), .int x1]) ++ List.replicate (3 - (lg_sl ([.ref (g.1 + a0), .int x1])).length) Slot.unset).toArray = ls at hl ⊢
  have hl : lv_has ls 3 [(0, .ref (g.1 + a0)), (1, .int x1)] := hl
  unfold mX11_discard at hsp
  have G : hk_GG g E S n s s.heap [] := G
  refine lv_aload_n hx hb dX11_discard_0 rfl (lv_at hl 0 rfl) ?_
  refine lv_iload_n hx hb dX11_discard_1 rfl (lv_at hl 1 rfl) ?_
  obtain ⟨r1, er1, hsp⟩ := hk_b hsp
  refine hk_callVr (As := [.int x1]) (rest := []) F9 G h0 hkc_8 rfl (kX11_existingTrough l g E F n S a0 x1 r1 h0 er1) qv_RX11_124 ⟨rfl, rfl, (Nat.le_of_ble_eq_true rfl), (Nat.le_of_ble_eq_true rfl)⟩ rfl hl.1 rfl (Nat.le_of_ble_eq_true rfl) ⟨Nat.zero_le _, Nat.zero_le _⟩ dX11_discard_2 (fun H locs G => ?_)
  obtain ⟨q2, hsp⟩ := hk_k hsp
  refine lv_astore_n (lv' := [(2, .ref (g.1 + r1.1)), (0, .ref (g.1 + a0)), (1, .int x1)]) hx hb dX11_discard_5 rfl hl (by decide) rfl (fun ls hl => ?_)
  refine lv_aload_n hx hb dX11_discard_6 rfl (lv_at hl 0 rfl) ?_
  obtain ⟨r3, er3, hsp⟩ := hk_b hsp
  refine hk_callVi (As := []) (rest := []) F9 G q2 hkc_7 rfl (kX10_hasLeaf l g E F n r1.2 r1.1 r3 q2 er3) qv_RX11_130 ⟨rfl, rfl, (Nat.le_of_ble_eq_true rfl), (Nat.le_of_ble_eq_true rfl)⟩ rfl hl.1 rfl (Nat.le_of_ble_eq_true rfl) ⟨Nat.zero_le _, Nat.zero_le _⟩ dX11_discard_7 (fun H locs G => ?_)
  refine lv_if_ne (tgt := 17) hx hb dX11_discard_10 (by decide) (fun c4 => ?_) (fun c4 => ?_)
  · have hsp := hk_t c4 hsp
    refine lv_iconst (v := 0) hx hb dX11_discard_17 (by decide) ?_
    obtain ⟨r5, er5, hsp⟩ := hk_b hsp
    refine hk_callSv (As := [.int 0]) (rest := []) F9 G (kX11_refuseIf l g E F n r3.2 0 r5  er5) qv_RX11_120 ⟨rfl, rfl, (Nat.le_of_ble_eq_true rfl), (Nat.le_of_ble_eq_true rfl)⟩ rfl hl.1 rfl (Nat.le_of_ble_eq_true rfl) ⟨Nat.zero_le _, Nat.zero_le _⟩ dX11_discard_18 (fun H locs G => ?_)
    refine lv_aload_n hx hb dX11_discard_21 rfl (lv_at hl 1 rfl) ?_
    obtain ⟨r6, er6, hsp⟩ := hk_b hsp
    obtain ⟨kr6, hsp⟩ := hk_k hsp
    refine hk_getR F9 G h0 hkc_8 (k := 3) (by decide) qw_363 rfl er6 dX11_discard_22 ?_
    refine lv_aload_n hx hb dX11_discard_25 rfl (lv_at hl 1 rfl) ?_
    obtain ⟨r7, er7, hsp⟩ := hk_b hsp
    obtain ⟨kr7, hsp⟩ := hk_k hsp
    refine hk_getR F9 G h0 hkc_8 (k := 0) (by decide) qw_360 rfl er7 dX11_discard_26 ?_
    obtain ⟨r8, er8, hsp⟩ := hk_b hsp
    refine hk_callVv (As := [.ref (g.1 + r7)]) (rest := []) F9 G kr6 hkc_1 rfl (kX3_remember l g E F n r5 r6 r7 r8 kr6 kr7 er8) qv_RX11_104 ⟨rfl, rfl, (Nat.le_of_ble_eq_true rfl), (Nat.le_of_ble_eq_true rfl)⟩ rfl hl.1 rfl (Nat.le_of_ble_eq_true rfl) ⟨Nat.zero_le _, Nat.zero_le _⟩ dX11_discard_29 (fun H locs G => ?_)
    refine lv_aload_n hx hb dX11_discard_32 rfl (lv_at hl 1 rfl) ?_
    refine hk_getR F9 G h0 hkc_8 (k := 0) (by decide) qw_360 rfl er7 dX11_discard_33 ?_
    refine lv_aload_n hx hb dX11_discard_36 rfl (lv_at hl 0 rfl) ?_
    obtain ⟨r9, er9, hsp⟩ := hk_b hsp
    refine hk_callVi (As := [.ref (g.1 + r1.1)]) (rest := []) F9 G kr7 hkc_3 rfl (kX5_discardLeaf l g E F n r8 r7 r1.1 r9 kr7 q2 er9) qv_RX11_177 ⟨rfl, rfl, (Nat.le_of_ble_eq_true rfl), (Nat.le_of_ble_eq_true rfl)⟩ rfl hl.1 rfl (Nat.le_of_ble_eq_true rfl) ⟨Nat.zero_le _, Nat.zero_le _⟩ dX11_discard_37 (fun H locs G => ?_)
    obtain rfl := hk_s hsp
    exact W.iret (v := r9.1) hx hb hr (fun t ht hW => hk_end G ht hW) G.2.1.2.2 dX11_discard_40
  · have hsp := hk_g c4 hsp
    refine lv_iconst (v := 1) hx hb dX11_discard_13 (by decide) ?_
    refine lv_goto (tgt := 18) hx hb dX11_discard_14 (by decide) ?_
    obtain ⟨r10, er10, hsp⟩ := hk_b hsp
    refine hk_callSv (As := [.int 1]) (rest := []) F9 G (kX11_refuseIf l g E F n r3.2 1 r10  er10) qv_RX11_120 ⟨rfl, rfl, (Nat.le_of_ble_eq_true rfl), (Nat.le_of_ble_eq_true rfl)⟩ rfl hl.1 rfl (Nat.le_of_ble_eq_true rfl) ⟨Nat.zero_le _, Nat.zero_le _⟩ dX11_discard_18 (fun H locs G => ?_)
    refine lv_aload_n hx hb dX11_discard_21 rfl (lv_at hl 1 rfl) ?_
    obtain ⟨r11, er11, hsp⟩ := hk_b hsp
    obtain ⟨kr11, hsp⟩ := hk_k hsp
    refine hk_getR F9 G h0 hkc_8 (k := 3) (by decide) qw_363 rfl er11 dX11_discard_22 ?_
    refine lv_aload_n hx hb dX11_discard_25 rfl (lv_at hl 1 rfl) ?_
    obtain ⟨r12, er12, hsp⟩ := hk_b hsp
    obtain ⟨kr12, hsp⟩ := hk_k hsp
    refine hk_getR F9 G h0 hkc_8 (k := 0) (by decide) qw_360 rfl er12 dX11_discard_26 ?_
    obtain ⟨r13, er13, hsp⟩ := hk_b hsp
    refine hk_callVv (As := [.ref (g.1 + r12)]) (rest := []) F9 G kr11 hkc_1 rfl (kX3_remember l g E F n r10 r11 r12 r13 kr11 kr12 er13) qv_RX11_104 ⟨rfl, rfl, (Nat.le_of_ble_eq_true rfl), (Nat.le_of_ble_eq_true rfl)⟩ rfl hl.1 rfl (Nat.le_of_ble_eq_true rfl) ⟨Nat.zero_le _, Nat.zero_le _⟩ dX11_discard_29 (fun H locs G => ?_)
    refine lv_aload_n hx hb dX11_discard_32 rfl (lv_at hl 1 rfl) ?_
    refine hk_getR F9 G h0 hkc_8 (k := 0) (by decide) qw_360 rfl er12 dX11_discard_33 ?_
    refine lv_aload_n hx hb dX11_discard_36 rfl (lv_at hl 0 rfl) ?_
    obtain ⟨r14, er14, hsp⟩ := hk_b hsp
    refine hk_callVi (As := [.ref (g.1 + r1.1)]) (rest := []) F9 G kr12 hkc_3 rfl (kX5_discardLeaf l g E F n r13 r12 r1.1 r14 kr12 q2 er14) qv_RX11_177 ⟨rfl, rfl, (Nat.le_of_ble_eq_true rfl), (Nat.le_of_ble_eq_true rfl)⟩ rfl hl.1 rfl (Nat.le_of_ble_eq_true rfl) ⟨Nat.zero_le _, Nat.zero_le _⟩ dX11_discard_37 (fun H locs G => ?_)
    obtain rfl := hk_s hsp
    exact W.iret (v := r14.1) hx hb hr (fun t ht hW => hk_end G ht hW) G.2.1.2.2 dX11_discard_40
def mX11_addProbe (E : hk_E) (F : Nat) (S : hk_S) (a0 : Nat) (x1 : Int32) (x2 : Int32) (x3 : Int32) : Option (Int32 × hk_S) :=
(mX11_existingTrough E F S a0 x1).bind (fun r1 => if E.2.1 r1.1 = 8 then ((mX11_requireRange E F r1.2 x2 0 1).bind (fun r3 => (mX11_requireRange E F r3 x3 (-50) 50).bind (fun r4 => (E.2.2.2 a0 0).bind (fun r5 => if E.2.1 r5 = 4 then ((mX5_hasRoomForProbe E F r4 r5).bind (fun r6 => if ¬ r6.1 = 0 then ((mX11_refuseIf E F r6.2 0).bind (fun r8 => (E.2.2.2 a0 3).bind (fun r9 => if E.2.1 r9 = 2 then ((mX3_remember E F r8 r9 r5).bind (fun r10 => (mX5_placeProbe E F r10 r5 x1 x2 x3).bind (fun r11 => some (r11.1, r11.2)))) else none))) else ((mX11_refuseIf E F r6.2 1).bind (fun r12 => (E.2.2.2 a0 3).bind (fun r13 => if E.2.1 r13 = 2 then ((mX3_remember E F r12 r13 r5).bind (fun r14 => (mX5_placeProbe E F r14 r5 x1 x2 x3).bind (fun r15 => some (r15.1, r15.2)))) else none))))) else none)))) else none)
set_option maxHeartbeats 4000000 in
set_option maxRecDepth 100000 in
theorem kX11_addProbe (l : Launch) (g : hk_G) (E : hk_E) (F n : Nat) (S : hk_S) (a0 : Nat) (x1 : Int32) (x2 : Int32) (x3 : Int32) (o : Int32 × hk_S) (h0 : E.2.1 a0 = 9) (hsp : mX11_addProbe E F S a0 x1 x2 x3 = some o) : Met l yX11_addProbe (hk_ws yX11_addProbe cX11_addProbe 4 (Option.some Jvm.ClassFile.FieldType.int)) ({ frames := 3, cells := 0, slots := 0, locals := 65 }) (hk_Pc g E S n [.ref (g.1 + a0), .int x1, .int x2, .int x3]) (hk_Q g E o.2 n (some (.int o.1))) 0 0 (hk_A g) := by
  refine Met.ofW (cc := cX11_addProbe) (maxL := 4) (ret := (Option.some Jvm.ClassFile.FieldType.int)) (by decide) rfl ?_
  intro p e s m args below meth c s₁ B hml hv
  obtain ⟨rfl, G⟩ := hk_begin hv
  have F9 : CallFix p m c cX11_addProbe 4 s [.ref (g.1 + a0), .int x1, .int x2, .int x3].toArray hk_W RX11 := ⟨B.exec, B.bytes, hml, findClass_of_methodNamed B.named, fun w h => atoms_spec (ws := hk_ws yX11_addProbe cX11_addProbe 4 (Option.some Jvm.ClassFile.FieldType.int)) B.pre w (hk_in h)⟩
  have hx := B.exec
  have hb := B.bytes
  have hr := B.returns
  have hlocks := B.notSynchronized
  have hl := lv_entry ([.ref (g.1 + a0), .int x1, .int x2, .int x3]) (n := 4) (Nat.le_of_ble_eq_true rfl)
  rw [lg_entry_eq]
  generalize (lg_sl ([.ref (g.1 + a0), .int x1, .int x2, .int x3]) ++ List.replicate (4 - (lg_sl ([.ref (g.1 + a0), .int x1, .int x2, .int x3])).length) Slot.unset).toArray = ls at hl ⊢
  have hl : lv_has ls 4 [(0, .ref (g.1 + a0)), (1, .int x1), (2, .int x2), (3, .int x3)] := hl
  unfold mX11_addProbe at hsp
  have G : hk_GG g E S n s s.heap [] := G
  refine lv_aload_n hx hb dX11_addProbe_0 rfl (lv_at hl 0 rfl) ?_
  refine lv_iload_n hx hb dX11_addProbe_1 rfl (lv_at hl 1 rfl) ?_
  obtain ⟨r1, er1, hsp⟩ := hk_b hsp
  refine hk_callVr (As := [.int x1]) (rest := []) F9 G h0 hkc_8 rfl (kX11_existingTrough l g E F n S a0 x1 r1 h0 er1) qv_RX11_124 ⟨rfl, rfl, (Nat.le_of_ble_eq_true rfl), (Nat.le_of_ble_eq_true rfl)⟩ rfl hl.1 rfl (Nat.le_of_ble_eq_true rfl) ⟨Nat.zero_le _, Nat.zero_le _⟩ dX11_addProbe_2 (fun H locs G => ?_)
  obtain ⟨q2, hsp⟩ := hk_k hsp
  refine lv_pop hx hb dX11_addProbe_5 rfl ?_
  refine lv_iload_n hx hb dX11_addProbe_6 rfl (lv_at hl 2 rfl) ?_
  refine lv_iconst (v := 0) hx hb dX11_addProbe_7 (by decide) ?_
  refine lv_iconst (v := 1) hx hb dX11_addProbe_8 (by decide) ?_
  obtain ⟨r3, er3, hsp⟩ := hk_b hsp
  refine hk_callSv (As := [.int x2, .int 0, .int 1]) (rest := []) F9 G (kX11_requireRange l g E F n r1.2 x2 0 1 r3  er3) qv_RX11_96 ⟨rfl, rfl, (Nat.le_of_ble_eq_true rfl), (Nat.le_of_ble_eq_true rfl)⟩ rfl hl.1 rfl (Nat.le_of_ble_eq_true rfl) ⟨Nat.zero_le _, Nat.zero_le _⟩ dX11_addProbe_9 (fun H locs G => ?_)
  refine lv_iload_n hx hb dX11_addProbe_12 rfl (lv_at hl 3 rfl) ?_
  refine lv_bipush (v := (-50)) hx hb dX11_addProbe_13 (by decide) ?_
  refine lv_bipush (v := 50) hx hb dX11_addProbe_15 (by decide) ?_
  obtain ⟨r4, er4, hsp⟩ := hk_b hsp
  refine hk_callSv (As := [.int x3, .int (-50), .int 50]) (rest := []) F9 G (kX11_requireRange l g E F n r3 x3 (-50) 50 r4  er4) qv_RX11_96 ⟨rfl, rfl, (Nat.le_of_ble_eq_true rfl), (Nat.le_of_ble_eq_true rfl)⟩ rfl hl.1 rfl (Nat.le_of_ble_eq_true rfl) ⟨Nat.zero_le _, Nat.zero_le _⟩ dX11_addProbe_17 (fun H locs G => ?_)
  refine lv_aload_n hx hb dX11_addProbe_20 rfl (lv_at hl 0 rfl) ?_
  obtain ⟨r5, er5, hsp⟩ := hk_b hsp
  obtain ⟨kr5, hsp⟩ := hk_k hsp
  refine hk_getR F9 G h0 hkc_8 (k := 0) (by decide) qw_360 rfl er5 dX11_addProbe_21 ?_
  obtain ⟨r6, er6, hsp⟩ := hk_b hsp
  refine hk_callVi (As := []) (rest := []) F9 G kr5 hkc_3 rfl (kX5_hasRoomForProbe l g E F n r4 r5 r6 kr5 er6) qv_RX11_180 ⟨rfl, rfl, (Nat.le_of_ble_eq_true rfl), (Nat.le_of_ble_eq_true rfl)⟩ rfl hl.1 rfl (Nat.le_of_ble_eq_true rfl) ⟨Nat.zero_le _, Nat.zero_le _⟩ dX11_addProbe_24 (fun H locs G => ?_)
  refine lv_if_ne (tgt := 34) hx hb dX11_addProbe_27 (by decide) (fun c7 => ?_) (fun c7 => ?_)
  · have hsp := hk_t c7 hsp
    refine lv_iconst (v := 0) hx hb dX11_addProbe_34 (by decide) ?_
    obtain ⟨r8, er8, hsp⟩ := hk_b hsp
    refine hk_callSv (As := [.int 0]) (rest := []) F9 G (kX11_refuseIf l g E F n r6.2 0 r8  er8) qv_RX11_120 ⟨rfl, rfl, (Nat.le_of_ble_eq_true rfl), (Nat.le_of_ble_eq_true rfl)⟩ rfl hl.1 rfl (Nat.le_of_ble_eq_true rfl) ⟨Nat.zero_le _, Nat.zero_le _⟩ dX11_addProbe_35 (fun H locs G => ?_)
    refine lv_aload_n hx hb dX11_addProbe_38 rfl (lv_at hl 0 rfl) ?_
    obtain ⟨r9, er9, hsp⟩ := hk_b hsp
    obtain ⟨kr9, hsp⟩ := hk_k hsp
    refine hk_getR F9 G h0 hkc_8 (k := 3) (by decide) qw_363 rfl er9 dX11_addProbe_39 ?_
    refine lv_aload_n hx hb dX11_addProbe_42 rfl (lv_at hl 0 rfl) ?_
    refine hk_getR F9 G h0 hkc_8 (k := 0) (by decide) qw_360 rfl er5 dX11_addProbe_43 ?_
    obtain ⟨r10, er10, hsp⟩ := hk_b hsp
    refine hk_callVv (As := [.ref (g.1 + r5)]) (rest := []) F9 G kr9 hkc_1 rfl (kX3_remember l g E F n r8 r9 r5 r10 kr9 kr5 er10) qv_RX11_104 ⟨rfl, rfl, (Nat.le_of_ble_eq_true rfl), (Nat.le_of_ble_eq_true rfl)⟩ rfl hl.1 rfl (Nat.le_of_ble_eq_true rfl) ⟨Nat.zero_le _, Nat.zero_le _⟩ dX11_addProbe_46 (fun H locs G => ?_)
    refine lv_aload_n hx hb dX11_addProbe_49 rfl (lv_at hl 0 rfl) ?_
    refine hk_getR F9 G h0 hkc_8 (k := 0) (by decide) qw_360 rfl er5 dX11_addProbe_50 ?_
    refine lv_iload_n hx hb dX11_addProbe_53 rfl (lv_at hl 1 rfl) ?_
    refine lv_iload_n hx hb dX11_addProbe_54 rfl (lv_at hl 2 rfl) ?_
    refine lv_iload_n hx hb dX11_addProbe_55 rfl (lv_at hl 3 rfl) ?_
    obtain ⟨r11, er11, hsp⟩ := hk_b hsp
    refine hk_callVi (As := [.int x1, .int x2, .int x3]) (rest := []) F9 G kr5 hkc_3 rfl (kX5_placeProbe l g E F n r10 r5 x1 x2 x3 r11 kr5 er11) qv_RX11_73 ⟨rfl, rfl, (Nat.le_of_ble_eq_true rfl), (Nat.le_of_ble_eq_true rfl)⟩ rfl hl.1 rfl (Nat.le_of_ble_eq_true rfl) ⟨Nat.zero_le _, Nat.zero_le _⟩ dX11_addProbe_56 (fun H locs G => ?_)
    obtain rfl := hk_s hsp
    exact W.iret (v := r11.1) hx hb hr (fun t ht hW => hk_end G ht hW) G.2.1.2.2 dX11_addProbe_59
  · have hsp := hk_g c7 hsp
    refine lv_iconst (v := 1) hx hb dX11_addProbe_30 (by decide) ?_
    refine lv_goto (tgt := 35) hx hb dX11_addProbe_31 (by decide) ?_
    obtain ⟨r12, er12, hsp⟩ := hk_b hsp
    refine hk_callSv (As := [.int 1]) (rest := []) F9 G (kX11_refuseIf l g E F n r6.2 1 r12  er12) qv_RX11_120 ⟨rfl, rfl, (Nat.le_of_ble_eq_true rfl), (Nat.le_of_ble_eq_true rfl)⟩ rfl hl.1 rfl (Nat.le_of_ble_eq_true rfl) ⟨Nat.zero_le _, Nat.zero_le _⟩ dX11_addProbe_35 (fun H locs G => ?_)
    refine lv_aload_n hx hb dX11_addProbe_38 rfl (lv_at hl 0 rfl) ?_
    obtain ⟨r13, er13, hsp⟩ := hk_b hsp
    obtain ⟨kr13, hsp⟩ := hk_k hsp
    refine hk_getR F9 G h0 hkc_8 (k := 3) (by decide) qw_363 rfl er13 dX11_addProbe_39 ?_
    refine lv_aload_n hx hb dX11_addProbe_42 rfl (lv_at hl 0 rfl) ?_
    refine hk_getR F9 G h0 hkc_8 (k := 0) (by decide) qw_360 rfl er5 dX11_addProbe_43 ?_
    obtain ⟨r14, er14, hsp⟩ := hk_b hsp
    refine hk_callVv (As := [.ref (g.1 + r5)]) (rest := []) F9 G kr13 hkc_1 rfl (kX3_remember l g E F n r12 r13 r5 r14 kr13 kr5 er14) qv_RX11_104 ⟨rfl, rfl, (Nat.le_of_ble_eq_true rfl), (Nat.le_of_ble_eq_true rfl)⟩ rfl hl.1 rfl (Nat.le_of_ble_eq_true rfl) ⟨Nat.zero_le _, Nat.zero_le _⟩ dX11_addProbe_46 (fun H locs G => ?_)
    refine lv_aload_n hx hb dX11_addProbe_49 rfl (lv_at hl 0 rfl) ?_
    refine hk_getR F9 G h0 hkc_8 (k := 0) (by decide) qw_360 rfl er5 dX11_addProbe_50 ?_
    refine lv_iload_n hx hb dX11_addProbe_53 rfl (lv_at hl 1 rfl) ?_
    refine lv_iload_n hx hb dX11_addProbe_54 rfl (lv_at hl 2 rfl) ?_
    refine lv_iload_n hx hb dX11_addProbe_55 rfl (lv_at hl 3 rfl) ?_
    obtain ⟨r15, er15, hsp⟩ := hk_b hsp
    refine hk_callVi (As := [.int x1, .int x2, .int x3]) (rest := []) F9 G kr5 hkc_3 rfl (kX5_placeProbe l g E F n r14 r5 x1 x2 x3 r15 kr5 er15) qv_RX11_73 ⟨rfl, rfl, (Nat.le_of_ble_eq_true rfl), (Nat.le_of_ble_eq_true rfl)⟩ rfl hl.1 rfl (Nat.le_of_ble_eq_true rfl) ⟨Nat.zero_le _, Nat.zero_le _⟩ dX11_addProbe_56 (fun H locs G => ?_)
    obtain rfl := hk_s hsp
    exact W.iret (v := r15.1) hx hb hr (fun t ht hW => hk_end G ht hW) G.2.1.2.2 dX11_addProbe_59
def mX11_moveProbe (E : hk_E) (F : Nat) (S : hk_S) (a0 : Nat) (x1 : Int32) (x2 : Int32) (x3 : Int32) : Option (Int32 × hk_S) :=
(mX11_existingProbe E F S a0 x1).bind (fun r1 => if E.2.1 r1.1 = 5 then ((mX11_existingTrough E F r1.2 a0 x2).bind (fun r3 => if E.2.1 r3.1 = 8 then ((mX11_requireRange E F r3.2 x3 0 1).bind (fun r5 => (E.2.2.2 a0 3).bind (fun r6 => if E.2.1 r6 = 2 then ((E.2.2.2 a0 0).bind (fun r7 => if E.2.1 r7 = 4 then ((mX3_remember E F r5 r6 r7).bind (fun r8 => hk_let (r8 r1.1 0) (fun y9 => hk_let (hk_up r8 r1.1 0 x2) (fun S10 => hk_let (hk_up S10 r1.1 1 x3) (fun S11 => some (y9, S11)))))) else none)) else none))) else none)) else none)
set_option maxHeartbeats 4000000 in
set_option maxRecDepth 100000 in
theorem kX11_moveProbe (l : Launch) (g : hk_G) (E : hk_E) (F n : Nat) (S : hk_S) (a0 : Nat) (x1 : Int32) (x2 : Int32) (x3 : Int32) (o : Int32 × hk_S) (h0 : E.2.1 a0 = 9) (hsp : mX11_moveProbe E F S a0 x1 x2 x3 = some o) : Met l yX11_moveProbe (hk_ws yX11_moveProbe cX11_moveProbe 6 (Option.some Jvm.ClassFile.FieldType.int)) ({ frames := 3, cells := 0, slots := 0, locals := 65 }) (hk_Pc g E S n [.ref (g.1 + a0), .int x1, .int x2, .int x3]) (hk_Q g E o.2 n (some (.int o.1))) 0 0 (hk_A g) := by
  refine Met.ofW (cc := cX11_moveProbe) (maxL := 6) (ret := (Option.some Jvm.ClassFile.FieldType.int)) (by decide) rfl ?_
  intro p e s m args below meth c s₁ B hml hv
  obtain ⟨rfl, G⟩ := hk_begin hv
  have F9 : CallFix p m c cX11_moveProbe 6 s [.ref (g.1 + a0), .int x1, .int x2, .int x3].toArray hk_W RX11 := ⟨B.exec, B.bytes, hml, findClass_of_methodNamed B.named, fun w h => atoms_spec (ws := hk_ws yX11_moveProbe cX11_moveProbe 6 (Option.some Jvm.ClassFile.FieldType.int)) B.pre w (hk_in h)⟩
  have hx := B.exec
  have hb := B.bytes
  have hr := B.returns
  have hlocks := B.notSynchronized
  have hl := lv_entry ([.ref (g.1 + a0), .int x1, .int x2, .int x3]) (n := 6) (Nat.le_of_ble_eq_true rfl)
  rw [lg_entry_eq]
  generalize (lg_sl ([.ref (g.1 + a0), .int x1, .int x2, .int x3]) ++ List.replicate (6 - (lg_sl ([.ref (g.1 + a0), .int x1, .int x2, .int x3])).length) Slot.unset).toArray = ls at hl ⊢
  have hl : lv_has ls 6 [(0, .ref (g.1 + a0)), (1, .int x1), (2, .int x2), (3, .int x3)] := hl
  unfold mX11_moveProbe at hsp
  have G : hk_GG g E S n s s.heap [] := G
  refine lv_aload_n hx hb dX11_moveProbe_0 rfl (lv_at hl 0 rfl) ?_
  refine lv_iload_n hx hb dX11_moveProbe_1 rfl (lv_at hl 1 rfl) ?_
  obtain ⟨r1, er1, hsp⟩ := hk_b hsp
  refine hk_callVr (As := [.int x1]) (rest := []) F9 G h0 hkc_8 rfl (kX11_existingProbe l g E F n S a0 x1 r1 h0 er1) qv_RX11_183 ⟨rfl, rfl, (Nat.le_of_ble_eq_true rfl), (Nat.le_of_ble_eq_true rfl)⟩ rfl hl.1 rfl (Nat.le_of_ble_eq_true rfl) ⟨Nat.zero_le _, Nat.zero_le _⟩ dX11_moveProbe_2 (fun H locs G => ?_)
  obtain ⟨q2, hsp⟩ := hk_k hsp
  refine lv_astore (lv' := [(4, .ref (g.1 + r1.1)), (0, .ref (g.1 + a0)), (1, .int x1), (2, .int x2), (3, .int x3)]) hx hb dX11_moveProbe_5  hl (by decide) rfl (fun ls hl => ?_)
  refine lv_aload_n hx hb dX11_moveProbe_7 rfl (lv_at hl 1 rfl) ?_
  refine lv_iload_n hx hb dX11_moveProbe_8 rfl (lv_at hl 3 rfl) ?_
  obtain ⟨r3, er3, hsp⟩ := hk_b hsp
  refine hk_callVr (As := [.int x2]) (rest := []) F9 G h0 hkc_8 rfl (kX11_existingTrough l g E F n r1.2 a0 x2 r3 h0 er3) qv_RX11_124 ⟨rfl, rfl, (Nat.le_of_ble_eq_true rfl), (Nat.le_of_ble_eq_true rfl)⟩ rfl hl.1 rfl (Nat.le_of_ble_eq_true rfl) ⟨Nat.zero_le _, Nat.zero_le _⟩ dX11_moveProbe_9 (fun H locs G => ?_)
  obtain ⟨q4, hsp⟩ := hk_k hsp
  refine lv_pop hx hb dX11_moveProbe_12 rfl ?_
  refine lv_iload_n hx hb dX11_moveProbe_13 rfl (lv_at hl 4 rfl) ?_
  refine lv_iconst (v := 0) hx hb dX11_moveProbe_14 (by decide) ?_
  refine lv_iconst (v := 1) hx hb dX11_moveProbe_15 (by decide) ?_
  obtain ⟨r5, er5, hsp⟩ := hk_b hsp
  refine hk_callSv (As := [.int x3, .int 0, .int 1]) (rest := []) F9 G (kX11_requireRange l g E F n r3.2 x3 0 1 r5  er5) qv_RX11_96 ⟨rfl, rfl, (Nat.le_of_ble_eq_true rfl), (Nat.le_of_ble_eq_true rfl)⟩ rfl hl.1 rfl (Nat.le_of_ble_eq_true rfl) ⟨Nat.zero_le _, Nat.zero_le _⟩ dX11_moveProbe_16 (fun H locs G => ?_)
  refine lv_aload_n hx hb dX11_moveProbe_19 rfl (lv_at hl 1 rfl) ?_
  obtain ⟨r6, er6, hsp⟩ := hk_b hsp
  obtain ⟨kr6, hsp⟩ := hk_k hsp
  refine hk_getR F9 G h0 hkc_8 (k := 3) (by decide) qw_363 rfl er6 dX11_moveProbe_20 ?_
  refine lv_aload_n hx hb dX11_moveProbe_23 rfl (lv_at hl 1 rfl) ?_
  obtain ⟨r7, er7, hsp⟩ := hk_b hsp
  obtain ⟨kr7, hsp⟩ := hk_k hsp
  refine hk_getR F9 G h0 hkc_8 (k := 0) (by decide) qw_360 rfl er7 dX11_moveProbe_24 ?_
  obtain ⟨r8, er8, hsp⟩ := hk_b hsp
  refine hk_callVv (As := [.ref (g.1 + r7)]) (rest := []) F9 G kr6 hkc_1 rfl (kX3_remember l g E F n r5 r6 r7 r8 kr6 kr7 er8) qv_RX11_104 ⟨rfl, rfl, (Nat.le_of_ble_eq_true rfl), (Nat.le_of_ble_eq_true rfl)⟩ rfl hl.1 rfl (Nat.le_of_ble_eq_true rfl) ⟨Nat.zero_le _, Nat.zero_le _⟩ dX11_moveProbe_27 (fun H locs G => ?_)
  refine lv_aload hx hb dX11_moveProbe_30 (lv_at hl 0 rfl) ?_
  refine hk_getI F9 G q2 hkc_4 (k := 0) (by decide) qw_123 rfl dX11_moveProbe_32 ?_
  obtain ⟨y9, ey9, hsp⟩ := hk_l hsp
  refine hk_top ey9 ?_
  refine lv_istore (lv' := [(5, .int y9), (4, .ref (g.1 + r1.1)), (0, .ref (g.1 + a0)), (1, .int x1), (2, .int x2), (3, .int x3)]) hx hb dX11_moveProbe_35  hl (by decide) rfl (fun ls hl => ?_)
  refine lv_aload hx hb dX11_moveProbe_37 (lv_at hl 1 rfl) ?_
  refine lv_iload_n hx hb dX11_moveProbe_39 rfl (lv_at hl 4 rfl) ?_
  obtain ⟨S10, eS10, hsp⟩ := hk_l hsp
  refine hk_putI F9 G q2 hkc_4 (k := 0) (by decide) qw_123 rfl rfl (tyX6_ok 0 (by decide)) rfl rfl dX11_moveProbe_40 (fun H locs G => ?_)
  rw [eS10] at G
  refine lv_aload hx hb dX11_moveProbe_43 (lv_at hl 1 rfl) ?_
  refine lv_iload_n hx hb dX11_moveProbe_45 rfl (lv_at hl 5 rfl) ?_
  obtain ⟨S11, eS11, hsp⟩ := hk_l hsp
  refine hk_putI F9 G q2 hkc_4 (k := 1) (by decide) qw_126 rfl rfl (tyX6_ok 1 (by decide)) rfl rfl dX11_moveProbe_46 (fun H locs G => ?_)
  rw [eS11] at G
  refine lv_iload hx hb dX11_moveProbe_49 (lv_at hl 0 rfl) ?_
  obtain rfl := hk_s hsp
  exact W.iret (v := y9) hx hb hr (fun t ht hW => hk_end G ht hW) G.2.1.2.2 dX11_moveProbe_51
def mX11_calibrate (E : hk_E) (F : Nat) (S : hk_S) (a0 : Nat) (x1 : Int32) : Option (Int32 × hk_S) :=
(mX11_existingProbe E F S a0 x1).bind (fun r1 => if E.2.1 r1.1 = 5 then ((E.2.2.2 a0 3).bind (fun r3 => if E.2.1 r3 = 2 then ((E.2.2.2 a0 0).bind (fun r4 => if E.2.1 r4 = 4 then ((mX3_remember E F r1.2 r3 r4).bind (fun r5 => hk_let (r5 r1.1 2) (fun y6 => hk_let (hk_up r5 r1.1 2 0) (fun S7 => some (y6, S7))))) else none)) else none)) else none)
set_option maxHeartbeats 4000000 in
set_option maxRecDepth 100000 in
theorem kX11_calibrate (l : Launch) (g : hk_G) (E : hk_E) (F n : Nat) (S : hk_S) (a0 : Nat) (x1 : Int32) (o : Int32 × hk_S) (h0 : E.2.1 a0 = 9) (hsp : mX11_calibrate E F S a0 x1 = some o) : Met l yX11_calibrate (hk_ws yX11_calibrate cX11_calibrate 4 (Option.some Jvm.ClassFile.FieldType.int)) ({ frames := 3, cells := 0, slots := 0, locals := 65 }) (hk_Pc g E S n [.ref (g.1 + a0), .int x1]) (hk_Q g E o.2 n (some (.int o.1))) 0 0 (hk_A g) := by
  refine Met.ofW (cc := cX11_calibrate) (maxL := 4) (ret := (Option.some Jvm.ClassFile.FieldType.int)) (by decide) rfl ?_
  intro p e s m args below meth c s₁ B hml hv
  obtain ⟨rfl, G⟩ := hk_begin hv
  have F9 : CallFix p m c cX11_calibrate 4 s [.ref (g.1 + a0), .int x1].toArray hk_W RX11 := ⟨B.exec, B.bytes, hml, findClass_of_methodNamed B.named, fun w h => atoms_spec (ws := hk_ws yX11_calibrate cX11_calibrate 4 (Option.some Jvm.ClassFile.FieldType.int)) B.pre w (hk_in h)⟩
  have hx := B.exec
  have hb := B.bytes
  have hr := B.returns
  have hlocks := B.notSynchronized
  have hl := lv_entry ([.ref (g.1 + a0), .int x1]) (n := 4) (Nat.le_of_ble_eq_true rfl)
  rw [lg_entry_eq]
  generalize (lg_sl ([.ref (g.1 + a0), .int x1]) ++ List.replicate (4 - (lg_sl ([.ref (g.1 + a0), .int x1])).length) Slot.unset).toArray = ls at hl ⊢
  have hl : lv_has ls 4 [(0, .ref (g.1 + a0)), (1, .int x1)] := hl
  unfold mX11_calibrate at hsp
  have G : hk_GG g E S n s s.heap [] := G
  refine lv_aload_n hx hb dX11_calibrate_0 rfl (lv_at hl 0 rfl) ?_
  refine lv_iload_n hx hb dX11_calibrate_1 rfl (lv_at hl 1 rfl) ?_
  obtain ⟨r1, er1, hsp⟩ := hk_b hsp
  refine hk_callVr (As := [.int x1]) (rest := []) F9 G h0 hkc_8 rfl (kX11_existingProbe l g E F n S a0 x1 r1 h0 er1) qv_RX11_183 ⟨rfl, rfl, (Nat.le_of_ble_eq_true rfl), (Nat.le_of_ble_eq_true rfl)⟩ rfl hl.1 rfl (Nat.le_of_ble_eq_true rfl) ⟨Nat.zero_le _, Nat.zero_le _⟩ dX11_calibrate_2 (fun H locs G => ?_)
  obtain ⟨q2, hsp⟩ := hk_k hsp
  refine lv_astore_n (lv' := [(2, .ref (g.1 + r1.1)), (0, .ref (g.1 + a0)), (1, .int x1)]) hx hb dX11_calibrate_5 rfl hl (by decide) rfl (fun ls hl => ?_)
  refine lv_aload_n hx hb dX11_calibrate_6 rfl (lv_at hl 1 rfl) ?_
  obtain ⟨r3, er3, hsp⟩ := hk_b hsp
  obtain ⟨kr3, hsp⟩ := hk_k hsp
  refine hk_getR F9 G h0 hkc_8 (k := 3) (by decide) qw_363 rfl er3 dX11_calibrate_7 ?_
  refine lv_aload_n hx hb dX11_calibrate_10 rfl (lv_at hl 1 rfl) ?_
  obtain ⟨r4, er4, hsp⟩ := hk_b hsp
  obtain ⟨kr4, hsp⟩ := hk_k hsp
  refine hk_getR F9 G h0 hkc_8 (k := 0) (by decide) qw_360 rfl er4 dX11_calibrate_11 ?_
  obtain ⟨r5, er5, hsp⟩ := hk_b hsp
  refine hk_callVv (As := [.ref (g.1 + r4)]) (rest := []) F9 G kr3 hkc_1 rfl (kX3_remember l g E F n r1.2 r3 r4 r5 kr3 kr4 er5) qv_RX11_104 ⟨rfl, rfl, (Nat.le_of_ble_eq_true rfl), (Nat.le_of_ble_eq_true rfl)⟩ rfl hl.1 rfl (Nat.le_of_ble_eq_true rfl) ⟨Nat.zero_le _, Nat.zero_le _⟩ dX11_calibrate_14 (fun H locs G => ?_)
  refine lv_aload_n hx hb dX11_calibrate_17 rfl (lv_at hl 0 rfl) ?_
  refine hk_getI F9 G q2 hkc_4 (k := 2) (by decide) qw_129 rfl dX11_calibrate_18 ?_
  obtain ⟨y6, ey6, hsp⟩ := hk_l hsp
  refine hk_top ey6 ?_
  refine lv_istore_n (lv' := [(3, .int y6), (2, .ref (g.1 + r1.1)), (0, .ref (g.1 + a0)), (1, .int x1)]) hx hb dX11_calibrate_21 rfl hl (by decide) rfl (fun ls hl => ?_)
  refine lv_aload_n hx hb dX11_calibrate_22 rfl (lv_at hl 1 rfl) ?_
  refine lv_iconst (v := 0) hx hb dX11_calibrate_23 (by decide) ?_
  obtain ⟨S7, eS7, hsp⟩ := hk_l hsp
  refine hk_putI F9 G q2 hkc_4 (k := 2) (by decide) qw_129 rfl rfl (tyX6_ok 2 (by decide)) rfl rfl dX11_calibrate_24 (fun H locs G => ?_)
  rw [eS7] at G
  refine lv_iload_n hx hb dX11_calibrate_27 rfl (lv_at hl 0 rfl) ?_
  obtain rfl := hk_s hsp
  exact W.iret (v := y6) hx hb hr (fun t ht hW => hk_end G ht hW) G.2.1.2.2 dX11_calibrate_28
def mX11_undo (E : hk_E) (F : Nat) (S : hk_S) (a0 : Nat) : Option (Int32 × hk_S) :=
(E.2.2.2 a0 3).bind (fun r1 => if E.2.1 r1 = 2 then (if ¬ (S r1 2) = 0 then ((E.2.2.2 a0 0).bind (fun r3 => if E.2.1 r3 = 4 then ((mX3_takeBack E F S r1 r3).bind (fun r4 => some ((r4 r1 2), r4))) else none)) else (some ((-1), S))) else none)
set_option maxHeartbeats 4000000 in
set_option maxRecDepth 100000 in
theorem kX11_undo (l : Launch) (g : hk_G) (E : hk_E) (F n : Nat) (S : hk_S) (a0 : Nat) (o : Int32 × hk_S) (h0 : E.2.1 a0 = 9) (hsp : mX11_undo E F S a0 = some o) : Met l yX11_undo (hk_ws yX11_undo cX11_undo 1 (Option.some Jvm.ClassFile.FieldType.int)) ({ frames := 3, cells := 0, slots := 0, locals := 65 }) (hk_Pc g E S n [.ref (g.1 + a0)]) (hk_Q g E o.2 n (some (.int o.1))) 0 0 (hk_A g) := by
  refine Met.ofW (cc := cX11_undo) (maxL := 1) (ret := (Option.some Jvm.ClassFile.FieldType.int)) (by decide) rfl ?_
  intro p e s m args below meth c s₁ B hml hv
  obtain ⟨rfl, G⟩ := hk_begin hv
  have F9 : CallFix p m c cX11_undo 1 s [.ref (g.1 + a0)].toArray hk_W RX11 := ⟨B.exec, B.bytes, hml, findClass_of_methodNamed B.named, fun w h => atoms_spec (ws := hk_ws yX11_undo cX11_undo 1 (Option.some Jvm.ClassFile.FieldType.int)) B.pre w (hk_in h)⟩
  have hx := B.exec
  have hb := B.bytes
  have hr := B.returns
  have hlocks := B.notSynchronized
  have hl := lv_entry ([.ref (g.1 + a0)]) (n := 1) (Nat.le_of_ble_eq_true rfl)
  rw [lg_entry_eq]
  generalize (lg_sl ([.ref (g.1 + a0)]) ++ List.replicate (1 - (lg_sl ([.ref (g.1 + a0)])).length) Slot.unset).toArray = ls at hl ⊢
  have hl : lv_has ls 1 [(0, .ref (g.1 + a0))] := hl
  unfold mX11_undo at hsp
  have G : hk_GG g E S n s s.heap [] := G
  refine lv_aload_n hx hb dX11_undo_0 rfl (lv_at hl 0 rfl) ?_
  obtain ⟨r1, er1, hsp⟩ := hk_b hsp
  obtain ⟨kr1, hsp⟩ := hk_k hsp
  refine hk_getR F9 G h0 hkc_8 (k := 3) (by decide) qw_363 rfl er1 dX11_undo_1 ?_
  refine hk_getI F9 G kr1 hkc_1 (k := 2) (by decide) qw_212 rfl dX11_undo_4 ?_
  refine lv_if_ne (tgt := 12) hx hb dX11_undo_7 (by decide) (fun c2 => ?_) (fun c2 => ?_)
  · have hsp := hk_t c2 hsp
    refine lv_aload_n hx hb dX11_undo_12 rfl (lv_at hl 0 rfl) ?_
    refine hk_getR F9 G h0 hkc_8 (k := 3) (by decide) qw_363 rfl er1 dX11_undo_13 ?_
    refine lv_aload_n hx hb dX11_undo_16 rfl (lv_at hl 0 rfl) ?_
    obtain ⟨r3, er3, hsp⟩ := hk_b hsp
    obtain ⟨kr3, hsp⟩ := hk_k hsp
    refine hk_getR F9 G h0 hkc_8 (k := 0) (by decide) qw_360 rfl er3 dX11_undo_17 ?_
    obtain ⟨r4, er4, hsp⟩ := hk_b hsp
    refine hk_callVv (As := [.ref (g.1 + r3)]) (rest := []) F9 G kr1 hkc_1 rfl (kX3_takeBack l g E F n S r1 r3 r4 kr1 kr3 er4) qv_RX11_208 ⟨rfl, rfl, (Nat.le_of_ble_eq_true rfl), (Nat.le_of_ble_eq_true rfl)⟩ rfl hl.1 rfl (Nat.le_of_ble_eq_true rfl) ⟨Nat.zero_le _, Nat.zero_le _⟩ dX11_undo_20 (fun H locs G => ?_)
    refine lv_aload_n hx hb dX11_undo_23 rfl (lv_at hl 0 rfl) ?_
    refine hk_getR F9 G h0 hkc_8 (k := 3) (by decide) qw_363 rfl er1 dX11_undo_24 ?_
    refine hk_getI F9 G kr1 hkc_1 (k := 2) (by decide) qw_212 rfl dX11_undo_27 ?_
    obtain rfl := hk_s hsp
    exact W.iret (v := (r4 r1 2)) hx hb hr (fun t ht hW => hk_end G ht hW) G.2.1.2.2 dX11_undo_30
  · have hsp := hk_g c2 hsp
    refine lv_iconst (v := (-1)) hx hb dX11_undo_10 (by decide) ?_
    obtain rfl := hk_s hsp
    exact W.iret (v := (-1)) hx hb hr (fun t ht hW => hk_end G ht hW) G.2.1.2.2 dX11_undo_11
def mX11_hoursToReady_25 (E : hk_E) (F : Nat) (a0 : Nat) (x1 : Int32) (c7 : Nat) (k : hk_S → Int32 → Option (Int32 × hk_S)) : Nat → hk_S → Int32 → Option (Int32 × hk_S)
  | 0 => fun _ _ => none
  | f + 1 => fun S z8 =>
    if 200 < z8 then (k S z8) else ((E.2.2.2 a0 0).bind (fun r10 => if E.2.1 r10 = 4 then ((E.2.2.2 a0 6).bind (fun r11 => if E.2.1 r11 = 8 then ((mX5_isReady E F S r10 r11).bind (fun r12 => if r12.1 = 0 then ((E.2.2.2 r10 0).bind (fun r14 => if E.2.1 r14 = 1 then ((mX1_drynessOf E F r12.2 r14 ((r12.2 r14 0) + z8)).bind (fun r15 => (mX10_passHour E F r15.2 r11 r15.1).bind (fun r16 => hk_let (z8 + 1) (fun y17 => mX11_hoursToReady_25 E F a0 x1 c7 k f r16.2 y17)))) else none)) else (some (z8, r12.2)))) else none)) else none))
def mX11_hoursToReady (E : hk_E) (F : Nat) (S : hk_S) (a0 : Nat) (x1 : Int32) : Option (Int32 × hk_S) :=
(mX11_existingTrough E F S a0 x1).bind (fun r1 => if E.2.1 r1.1 = 8 then ((mX10_hasLeaf E F r1.2 r1.1).bind (fun r3 => if ¬ r3.1 = 0 then ((E.2.2.2 a0 6).bind (fun r5 => if E.2.1 r5 = 8 then ((mX10_become E F r3.2 r5 r1.1).bind (fun r6 => mX11_hoursToReady_25 E F a0 x1 r1.1 (fun S18 z19 => some ((-1), S18)) F r6 0)) else none)) else (some ((-1), r3.2)))) else none)
set_option maxHeartbeats 4000000 in
set_option maxRecDepth 100000 in
theorem kX11_hoursToReady (l : Launch) (g : hk_G) (E : hk_E) (F n : Nat) (S : hk_S) (a0 : Nat) (x1 : Int32) (o : Int32 × hk_S) (h0 : E.2.1 a0 = 9) (hsp : mX11_hoursToReady E F S a0 x1 = some o) : Met l yX11_hoursToReady (hk_ws yX11_hoursToReady cX11_hoursToReady 4 (Option.some Jvm.ClassFile.FieldType.int)) ({ frames := 3, cells := 0, slots := 0, locals := 65 }) (hk_Pc g E S n [.ref (g.1 + a0), .int x1]) (hk_Q g E o.2 n (some (.int o.1))) 0 0 (hk_A g) := by
  refine Met.ofW (cc := cX11_hoursToReady) (maxL := 4) (ret := (Option.some Jvm.ClassFile.FieldType.int)) (by decide) rfl ?_
  intro p e s m args below meth c s₁ B hml hv
  obtain ⟨rfl, G⟩ := hk_begin hv
  have F9 : CallFix p m c cX11_hoursToReady 4 s [.ref (g.1 + a0), .int x1].toArray hk_W RX11 := ⟨B.exec, B.bytes, hml, findClass_of_methodNamed B.named, fun w h => atoms_spec (ws := hk_ws yX11_hoursToReady cX11_hoursToReady 4 (Option.some Jvm.ClassFile.FieldType.int)) B.pre w (hk_in h)⟩
  have hx := B.exec
  have hb := B.bytes
  have hr := B.returns
  have hlocks := B.notSynchronized
  have hl := lv_entry ([.ref (g.1 + a0), .int x1]) (n := 4) (Nat.le_of_ble_eq_true rfl)
  rw [lg_entry_eq]
  generalize (lg_sl ([.ref (g.1 + a0), .int x1]) ++ List.replicate (4 - (lg_sl ([.ref (g.1 + a0), .int x1])).length) Slot.unset).toArray = ls at hl ⊢
  have hl : lv_has ls 4 [(0, .ref (g.1 + a0)), (1, .int x1)] := hl
  unfold mX11_hoursToReady at hsp
  have G : hk_GG g E S n s s.heap [] := G
  have L_25 : ∀ (c7 : Nat) (hc7 : E.2.1 c7 = 8) (k : hk_S → Int32 → Option (Int32 × hk_S)) (_ : ∀ (S : hk_S) (z8 : Int32) (H : Heap) (locs : List Loc) (ls : Array Slot), k S z8 = some o → hk_GG g E S n s H locs → lv_has ls 4 [(0, .ref (g.1 + a0)), (1, .int x1), (2, .ref (g.1 + c7)), (3, .int z8)] → W p l e (headSpec (hk_ws yX11_hoursToReady cX11_hoursToReady 4 (Option.some Jvm.ClassFile.FieldType.int)) ({ frames := 3, cells := 0, slots := 0, locals := 65 })).room s m [.ref (g.1 + a0), .int x1].toArray below meth c H locs 0 0 (MQ below (hk_Q g E o.2 n (some (.int o.1))) [.ref (g.1 + a0), .int x1].toArray s 0 0 (hk_A g)) (F0 m 84 ls [])) (f : Nat) (S : hk_S) (z8 : Int32) (H : Heap) (locs : List Loc) (ls : Array Slot), mX11_hoursToReady_25 E F a0 x1 c7 k f S z8 = some o → hk_GG g E S n s H locs → lv_has ls 4 [(0, .ref (g.1 + a0)), (1, .int x1), (2, .ref (g.1 + c7)), (3, .int z8)] → W p l e (headSpec (hk_ws yX11_hoursToReady cX11_hoursToReady 4 (Option.some Jvm.ClassFile.FieldType.int)) ({ frames := 3, cells := 0, slots := 0, locals := 65 })).room s m [.ref (g.1 + a0), .int x1].toArray below meth c H locs 0 0 (MQ below (hk_Q g E o.2 n (some (.int o.1))) [.ref (g.1 + a0), .int x1].toArray s 0 0 (hk_A g)) (F0 m 25 ls []) := by
    intro c7 hc7 k hk f
    induction f with
    | zero =>
      intro S z8 H locs ls hsp
      exact nomatch hsp
    | succ f ih =>
      intro S z8 H locs ls hsp G hl
      rw [mX11_hoursToReady_25] at hsp
      refine lv_iload_n hx hb dX11_hoursToReady_25 rfl (lv_at hl 3 rfl) ?_
      refine lv_sipush (v := 200) hx hb dX11_hoursToReady_26 (by decide) ?_
      refine lv_icmp_gt (tgt := 84) hx hb dX11_hoursToReady_29 (by decide) (fun c9 => ?_) (fun c9 => ?_)
      · have hsp := hk_t c9 hsp
        exact hk S z8 _ _ _ hsp G (lv_sub hl [0, 1, 2, 3] rfl)
      · have hsp := hk_f c9 hsp
        refine lv_aload_n hx hb dX11_hoursToReady_32 rfl (lv_at hl 0 rfl) ?_
        obtain ⟨r10, er10, hsp⟩ := hk_b hsp
        obtain ⟨kr10, hsp⟩ := hk_k hsp
        refine hk_getR F9 G h0 hkc_8 (k := 0) (by decide) qw_360 rfl er10 dX11_hoursToReady_33 ?_
        refine lv_aload_n hx hb dX11_hoursToReady_36 rfl (lv_at hl 0 rfl) ?_
        obtain ⟨r11, er11, hsp⟩ := hk_b hsp
        obtain ⟨kr11, hsp⟩ := hk_k hsp
        refine hk_getR F9 G h0 hkc_8 (k := 6) (by decide) qw_366 rfl er11 dX11_hoursToReady_37 ?_
        obtain ⟨r12, er12, hsp⟩ := hk_b hsp
        refine hk_callVi (As := [.ref (g.1 + r11)]) (rest := []) F9 G kr10 hkc_3 rfl (kX5_isReady l g E F n S r10 r11 r12 kr10 kr11 er12) qv_RX11_279 ⟨rfl, rfl, (Nat.le_of_ble_eq_true rfl), (Nat.le_of_ble_eq_true rfl)⟩ rfl hl.1 rfl (Nat.le_of_ble_eq_true rfl) ⟨Nat.zero_le _, Nat.zero_le _⟩ dX11_hoursToReady_40 (fun H locs G => ?_)
        refine lv_if_eq (tgt := 48) hx hb dX11_hoursToReady_43 (by decide) (fun c13 => ?_) (fun c13 => ?_)
        · have hsp := hk_t c13 hsp
          refine lv_aload_n hx hb dX11_hoursToReady_48 rfl (lv_at hl 0 rfl) ?_
          refine hk_getR F9 G h0 hkc_8 (k := 6) (by decide) qw_366 rfl er11 dX11_hoursToReady_49 ?_
          refine lv_aload_n hx hb dX11_hoursToReady_52 rfl (lv_at hl 0 rfl) ?_
          refine hk_getR F9 G h0 hkc_8 (k := 0) (by decide) qw_360 rfl er10 dX11_hoursToReady_53 ?_
          obtain ⟨r14, er14, hsp⟩ := hk_b hsp
          obtain ⟨kr14, hsp⟩ := hk_k hsp
          refine hk_getR F9 G kr10 hkc_3 (k := 0) (by decide) qw_154 rfl er14 dX11_hoursToReady_56 ?_
          refine lv_aload_n hx hb dX11_hoursToReady_59 rfl (lv_at hl 0 rfl) ?_
          refine hk_getR F9 G h0 hkc_8 (k := 0) (by decide) qw_360 rfl er10 dX11_hoursToReady_60 ?_
          refine hk_getR F9 G kr10 hkc_3 (k := 0) (by decide) qw_154 rfl er14 dX11_hoursToReady_63 ?_
          refine hk_getI F9 G kr14 hkc_0 (k := 0) (by decide) qw_43 rfl dX11_hoursToReady_66 ?_
          refine lv_iload_n hx hb dX11_hoursToReady_69 rfl (lv_at hl 3 rfl) ?_
          refine lv_iadd hx hb dX11_hoursToReady_70 ?_
          obtain ⟨r15, er15, hsp⟩ := hk_b hsp
          refine hk_callVi (As := [.int ((r12.2 r14 0) + z8)]) (rest := [.ref (g.1 + r11)]) F9 G kr14 hkc_0 rfl (kX1_drynessOf l g E F n r12.2 r14 ((r12.2 r14 0) + z8) r15 kr14 er15) qv_RX11_230 ⟨rfl, rfl, (Nat.le_of_ble_eq_true rfl), (Nat.le_of_ble_eq_true rfl)⟩ rfl hl.1 rfl (Nat.le_of_ble_eq_true rfl) ⟨Nat.zero_le _, Nat.zero_le _⟩ dX11_hoursToReady_71 (fun H locs G => ?_)
          obtain ⟨r16, er16, hsp⟩ := hk_b hsp
          refine hk_callVi (As := [.int r15.1]) (rest := []) F9 G kr11 hkc_7 rfl (kX10_passHour l g E F n r15.2 r11 r15.1 r16 kr11 er16) qv_RX11_283 ⟨rfl, rfl, (Nat.le_of_ble_eq_true rfl), (Nat.le_of_ble_eq_true rfl)⟩ rfl hl.1 rfl (Nat.le_of_ble_eq_true rfl) ⟨Nat.zero_le _, Nat.zero_le _⟩ dX11_hoursToReady_74 (fun H locs G => ?_)
          refine lv_pop hx hb dX11_hoursToReady_77 rfl ?_
          obtain ⟨y17, ey17, hsp⟩ := hk_l hsp
          refine lv_iinc (v := y17) (lv' := [(3, .int y17), (0, .ref (g.1 + a0)), (1, .int x1), (2, .ref (g.1 + c7))]) hx hb dX11_hoursToReady_78 hl (k := 3) rfl (by rw [← ey17]; rfl) (by decide) rfl (fun ls hl => ?_)
          refine lv_goto (tgt := 25) hx hb dX11_hoursToReady_81 (by decide) ?_
          exact ih r16.2 y17 _ _ _ hsp G (lv_sub hl [1, 2, 3, 0] rfl)
        · have hsp := hk_f c13 hsp
          refine lv_iload_n hx hb dX11_hoursToReady_46 rfl (lv_at hl 3 rfl) ?_
          obtain rfl := hk_s hsp
          exact W.iret (v := z8) hx hb hr (fun t ht hW => hk_end G ht hW) G.2.1.2.2 dX11_hoursToReady_47
  refine lv_aload_n hx hb dX11_hoursToReady_0 rfl (lv_at hl 0 rfl) ?_
  refine lv_iload_n hx hb dX11_hoursToReady_1 rfl (lv_at hl 1 rfl) ?_
  obtain ⟨r1, er1, hsp⟩ := hk_b hsp
  refine hk_callVr (As := [.int x1]) (rest := []) F9 G h0 hkc_8 rfl (kX11_existingTrough l g E F n S a0 x1 r1 h0 er1) qv_RX11_124 ⟨rfl, rfl, (Nat.le_of_ble_eq_true rfl), (Nat.le_of_ble_eq_true rfl)⟩ rfl hl.1 rfl (Nat.le_of_ble_eq_true rfl) ⟨Nat.zero_le _, Nat.zero_le _⟩ dX11_hoursToReady_2 (fun H locs G => ?_)
  obtain ⟨q2, hsp⟩ := hk_k hsp
  refine lv_astore_n (lv' := [(2, .ref (g.1 + r1.1)), (0, .ref (g.1 + a0)), (1, .int x1)]) hx hb dX11_hoursToReady_5 rfl hl (by decide) rfl (fun ls hl => ?_)
  refine lv_aload_n hx hb dX11_hoursToReady_6 rfl (lv_at hl 0 rfl) ?_
  obtain ⟨r3, er3, hsp⟩ := hk_b hsp
  refine hk_callVi (As := []) (rest := []) F9 G q2 hkc_7 rfl (kX10_hasLeaf l g E F n r1.2 r1.1 r3 q2 er3) qv_RX11_130 ⟨rfl, rfl, (Nat.le_of_ble_eq_true rfl), (Nat.le_of_ble_eq_true rfl)⟩ rfl hl.1 rfl (Nat.le_of_ble_eq_true rfl) ⟨Nat.zero_le _, Nat.zero_le _⟩ dX11_hoursToReady_7 (fun H locs G => ?_)
  refine lv_if_ne (tgt := 15) hx hb dX11_hoursToReady_10 (by decide) (fun c4 => ?_) (fun c4 => ?_)
  · have hsp := hk_t c4 hsp
    refine lv_aload_n hx hb dX11_hoursToReady_15 rfl (lv_at hl 1 rfl) ?_
    obtain ⟨r5, er5, hsp⟩ := hk_b hsp
    obtain ⟨kr5, hsp⟩ := hk_k hsp
    refine hk_getR F9 G h0 hkc_8 (k := 6) (by decide) qw_366 rfl er5 dX11_hoursToReady_16 ?_
    refine lv_aload_n hx hb dX11_hoursToReady_19 rfl (lv_at hl 0 rfl) ?_
    obtain ⟨r6, er6, hsp⟩ := hk_b hsp
    refine hk_callVv (As := [.ref (g.1 + r1.1)]) (rest := []) F9 G kr5 hkc_7 rfl (kX10_become l g E F n r3.2 r5 r1.1 r6 kr5 q2 er6) qv_RX11_273 ⟨rfl, rfl, (Nat.le_of_ble_eq_true rfl), (Nat.le_of_ble_eq_true rfl)⟩ rfl hl.1 rfl (Nat.le_of_ble_eq_true rfl) ⟨Nat.zero_le _, Nat.zero_le _⟩ dX11_hoursToReady_20 (fun H locs G => ?_)
    refine lv_iconst (v := 0) hx hb dX11_hoursToReady_23 (by decide) ?_
    refine lv_istore_n (lv' := [(3, .int 0), (2, .ref (g.1 + r1.1)), (0, .ref (g.1 + a0)), (1, .int x1)]) hx hb dX11_hoursToReady_24 rfl hl (by decide) rfl (fun ls hl => ?_)
    refine L_25 r1.1 q2 _ ?_ F r6 0 _ _ _ hsp G (lv_sub hl [2, 3, 1, 0] rfl)
    intro S18 z19 H locs ls hsp G hl
    refine lv_iconst (v := (-1)) hx hb dX11_hoursToReady_84 (by decide) ?_
    obtain rfl := hk_s hsp
    exact W.iret (v := (-1)) hx hb hr (fun t ht hW => hk_end G ht hW) G.2.1.2.2 dX11_hoursToReady_85
  · have hsp := hk_g c4 hsp
    refine lv_iconst (v := (-1)) hx hb dX11_hoursToReady_13 (by decide) ?_
    obtain rfl := hk_s hsp
    exact W.iret (v := (-1)) hx hb hr (fun t ht hW => hk_end G ht hW) G.2.1.2.2 dX11_hoursToReady_14
def mX11_passHours (E : hk_E) (F : Nat) (S : hk_S) (a0 : Nat) (x1 : Int32) : Option (Int32 × hk_S) :=
(mX11_requireRange E F S x1 1 200).bind (fun r1 => (E.2.2.2 a0 0).bind (fun r2 => if E.2.1 r2 = 4 then ((E.2.2.2 r2 0).bind (fun r3 => if E.2.1 r3 = 1 then ((mX1_hasHoursLeft E F r1 r3 x1).bind (fun r4 => if ¬ r4.1 = 0 then ((mX11_refuseIf E F r4.2 0).bind (fun r6 => (E.2.2.2 a0 3).bind (fun r7 => if E.2.1 r7 = 2 then ((mX3_remember E F r6 r7 r2).bind (fun r8 => (mX5_letHoursPass E F r8 r2 x1).bind (fun r9 => some ((r9 r3 0), r9)))) else none))) else ((mX11_refuseIf E F r4.2 1).bind (fun r10 => (E.2.2.2 a0 3).bind (fun r11 => if E.2.1 r11 = 2 then ((mX3_remember E F r10 r11 r2).bind (fun r12 => (mX5_letHoursPass E F r12 r2 x1).bind (fun r13 => some ((r13 r3 0), r13)))) else none))))) else none)) else none))
set_option maxHeartbeats 4000000 in
set_option maxRecDepth 100000 in
theorem kX11_passHours (l : Launch) (g : hk_G) (E : hk_E) (F n : Nat) (S : hk_S) (a0 : Nat) (x1 : Int32) (o : Int32 × hk_S) (h0 : E.2.1 a0 = 9) (hsp : mX11_passHours E F S a0 x1 = some o) : Met l yX11_passHours (hk_ws yX11_passHours cX11_passHours 2 (Option.some Jvm.ClassFile.FieldType.int)) ({ frames := 4, cells := 0, slots := 0, locals := 89 }) (hk_Pc g E S n [.ref (g.1 + a0), .int x1]) (hk_Q g E o.2 n (some (.int o.1))) 0 0 (hk_A g) := by
  refine Met.ofW (cc := cX11_passHours) (maxL := 2) (ret := (Option.some Jvm.ClassFile.FieldType.int)) (by decide) rfl ?_
  intro p e s m args below meth c s₁ B hml hv
  obtain ⟨rfl, G⟩ := hk_begin hv
  have F9 : CallFix p m c cX11_passHours 2 s [.ref (g.1 + a0), .int x1].toArray hk_W RX11 := ⟨B.exec, B.bytes, hml, findClass_of_methodNamed B.named, fun w h => atoms_spec (ws := hk_ws yX11_passHours cX11_passHours 2 (Option.some Jvm.ClassFile.FieldType.int)) B.pre w (hk_in h)⟩
  have hx := B.exec
  have hb := B.bytes
  have hr := B.returns
  have hlocks := B.notSynchronized
  have hl := lv_entry ([.ref (g.1 + a0), .int x1]) (n := 2) (Nat.le_of_ble_eq_true rfl)
  rw [lg_entry_eq]
  generalize (lg_sl ([.ref (g.1 + a0), .int x1]) ++ List.replicate (2 - (lg_sl ([.ref (g.1 + a0), .int x1])).length) Slot.unset).toArray = ls at hl ⊢
  have hl : lv_has ls 2 [(0, .ref (g.1 + a0)), (1, .int x1)] := hl
  unfold mX11_passHours at hsp
  have G : hk_GG g E S n s s.heap [] := G
  refine lv_iload_n hx hb dX11_passHours_0 rfl (lv_at hl 1 rfl) ?_
  refine lv_iconst (v := 1) hx hb dX11_passHours_1 (by decide) ?_
  refine lv_sipush (v := 200) hx hb dX11_passHours_2 (by decide) ?_
  obtain ⟨r1, er1, hsp⟩ := hk_b hsp
  refine hk_callSv (As := [.int x1, .int 1, .int 200]) (rest := []) F9 G (kX11_requireRange l g E F n S x1 1 200 r1  er1) qv_RX11_96 ⟨rfl, rfl, (Nat.le_of_ble_eq_true rfl), (Nat.le_of_ble_eq_true rfl)⟩ rfl hl.1 rfl (Nat.le_of_ble_eq_true rfl) ⟨Nat.zero_le _, Nat.zero_le _⟩ dX11_passHours_5 (fun H locs G => ?_)
  refine lv_aload_n hx hb dX11_passHours_8 rfl (lv_at hl 0 rfl) ?_
  obtain ⟨r2, er2, hsp⟩ := hk_b hsp
  obtain ⟨kr2, hsp⟩ := hk_k hsp
  refine hk_getR F9 G h0 hkc_8 (k := 0) (by decide) qw_360 rfl er2 dX11_passHours_9 ?_
  obtain ⟨r3, er3, hsp⟩ := hk_b hsp
  obtain ⟨kr3, hsp⟩ := hk_k hsp
  refine hk_getR F9 G kr2 hkc_3 (k := 0) (by decide) qw_154 rfl er3 dX11_passHours_12 ?_
  refine lv_iload_n hx hb dX11_passHours_15 rfl (lv_at hl 1 rfl) ?_
  obtain ⟨r4, er4, hsp⟩ := hk_b hsp
  refine hk_callVi (As := [.int x1]) (rest := []) F9 G kr3 hkc_0 rfl (kX1_hasHoursLeft l g E F n r1 r3 x1 r4 kr3 er4) qv_RX11_198 ⟨rfl, rfl, (Nat.le_of_ble_eq_true rfl), (Nat.le_of_ble_eq_true rfl)⟩ rfl hl.1 rfl (Nat.le_of_ble_eq_true rfl) ⟨Nat.zero_le _, Nat.zero_le _⟩ dX11_passHours_16 (fun H locs G => ?_)
  refine lv_if_ne (tgt := 26) hx hb dX11_passHours_19 (by decide) (fun c5 => ?_) (fun c5 => ?_)
  · have hsp := hk_t c5 hsp
    refine lv_iconst (v := 0) hx hb dX11_passHours_26 (by decide) ?_
    obtain ⟨r6, er6, hsp⟩ := hk_b hsp
    refine hk_callSv (As := [.int 0]) (rest := []) F9 G (kX11_refuseIf l g E F n r4.2 0 r6  er6) qv_RX11_120 ⟨rfl, rfl, (Nat.le_of_ble_eq_true rfl), (Nat.le_of_ble_eq_true rfl)⟩ rfl hl.1 rfl (Nat.le_of_ble_eq_true rfl) ⟨Nat.zero_le _, Nat.zero_le _⟩ dX11_passHours_27 (fun H locs G => ?_)
    refine lv_aload_n hx hb dX11_passHours_30 rfl (lv_at hl 0 rfl) ?_
    obtain ⟨r7, er7, hsp⟩ := hk_b hsp
    obtain ⟨kr7, hsp⟩ := hk_k hsp
    refine hk_getR F9 G h0 hkc_8 (k := 3) (by decide) qw_363 rfl er7 dX11_passHours_31 ?_
    refine lv_aload_n hx hb dX11_passHours_34 rfl (lv_at hl 0 rfl) ?_
    refine hk_getR F9 G h0 hkc_8 (k := 0) (by decide) qw_360 rfl er2 dX11_passHours_35 ?_
    obtain ⟨r8, er8, hsp⟩ := hk_b hsp
    refine hk_callVv (As := [.ref (g.1 + r2)]) (rest := []) F9 G kr7 hkc_1 rfl (kX3_remember l g E F n r6 r7 r2 r8 kr7 kr2 er8) qv_RX11_104 ⟨rfl, rfl, (Nat.le_of_ble_eq_true rfl), (Nat.le_of_ble_eq_true rfl)⟩ rfl hl.1 rfl (Nat.le_of_ble_eq_true rfl) ⟨Nat.zero_le _, Nat.zero_le _⟩ dX11_passHours_38 (fun H locs G => ?_)
    refine lv_aload_n hx hb dX11_passHours_41 rfl (lv_at hl 0 rfl) ?_
    refine hk_getR F9 G h0 hkc_8 (k := 0) (by decide) qw_360 rfl er2 dX11_passHours_42 ?_
    refine lv_iload_n hx hb dX11_passHours_45 rfl (lv_at hl 1 rfl) ?_
    obtain ⟨r9, er9, hsp⟩ := hk_b hsp
    refine hk_callVv (As := [.int x1]) (rest := []) F9 G kr2 hkc_3 rfl (kX5_letHoursPass l g E F n r8 r2 x1 r9 kr2 er9) qv_RX11_77 ⟨rfl, rfl, (Nat.le_of_ble_eq_true rfl), (Nat.le_of_ble_eq_true rfl)⟩ rfl hl.1 rfl (Nat.le_of_ble_eq_true rfl) ⟨Nat.zero_le _, Nat.zero_le _⟩ dX11_passHours_46 (fun H locs G => ?_)
    refine lv_aload_n hx hb dX11_passHours_49 rfl (lv_at hl 0 rfl) ?_
    refine hk_getR F9 G h0 hkc_8 (k := 0) (by decide) qw_360 rfl er2 dX11_passHours_50 ?_
    refine hk_getR F9 G kr2 hkc_3 (k := 0) (by decide) qw_154 rfl er3 dX11_passHours_53 ?_
    refine hk_getI F9 G kr3 hkc_0 (k := 0) (by decide) qw_43 rfl dX11_passHours_56 ?_
    obtain rfl := hk_s hsp
    exact W.iret (v := (r9 r3 0)) hx hb hr (fun t ht hW => hk_end G ht hW) G.2.1.2.2 dX11_passHours_59
  · have hsp := hk_g c5 hsp
    refine lv_iconst (v := 1) hx hb dX11_passHours_22 (by decide) ?_
    refine lv_goto (tgt := 27) hx hb dX11_passHours_23 (by decide) ?_
    obtain ⟨r10, er10, hsp⟩ := hk_b hsp
    refine hk_callSv (As := [.int 1]) (rest := []) F9 G (kX11_refuseIf l g E F n r4.2 1 r10  er10) qv_RX11_120 ⟨rfl, rfl, (Nat.le_of_ble_eq_true rfl), (Nat.le_of_ble_eq_true rfl)⟩ rfl hl.1 rfl (Nat.le_of_ble_eq_true rfl) ⟨Nat.zero_le _, Nat.zero_le _⟩ dX11_passHours_27 (fun H locs G => ?_)
    refine lv_aload_n hx hb dX11_passHours_30 rfl (lv_at hl 0 rfl) ?_
    obtain ⟨r11, er11, hsp⟩ := hk_b hsp
    obtain ⟨kr11, hsp⟩ := hk_k hsp
    refine hk_getR F9 G h0 hkc_8 (k := 3) (by decide) qw_363 rfl er11 dX11_passHours_31 ?_
    refine lv_aload_n hx hb dX11_passHours_34 rfl (lv_at hl 0 rfl) ?_
    refine hk_getR F9 G h0 hkc_8 (k := 0) (by decide) qw_360 rfl er2 dX11_passHours_35 ?_
    obtain ⟨r12, er12, hsp⟩ := hk_b hsp
    refine hk_callVv (As := [.ref (g.1 + r2)]) (rest := []) F9 G kr11 hkc_1 rfl (kX3_remember l g E F n r10 r11 r2 r12 kr11 kr2 er12) qv_RX11_104 ⟨rfl, rfl, (Nat.le_of_ble_eq_true rfl), (Nat.le_of_ble_eq_true rfl)⟩ rfl hl.1 rfl (Nat.le_of_ble_eq_true rfl) ⟨Nat.zero_le _, Nat.zero_le _⟩ dX11_passHours_38 (fun H locs G => ?_)
    refine lv_aload_n hx hb dX11_passHours_41 rfl (lv_at hl 0 rfl) ?_
    refine hk_getR F9 G h0 hkc_8 (k := 0) (by decide) qw_360 rfl er2 dX11_passHours_42 ?_
    refine lv_iload_n hx hb dX11_passHours_45 rfl (lv_at hl 1 rfl) ?_
    obtain ⟨r13, er13, hsp⟩ := hk_b hsp
    refine hk_callVv (As := [.int x1]) (rest := []) F9 G kr2 hkc_3 rfl (kX5_letHoursPass l g E F n r12 r2 x1 r13 kr2 er13) qv_RX11_77 ⟨rfl, rfl, (Nat.le_of_ble_eq_true rfl), (Nat.le_of_ble_eq_true rfl)⟩ rfl hl.1 rfl (Nat.le_of_ble_eq_true rfl) ⟨Nat.zero_le _, Nat.zero_le _⟩ dX11_passHours_46 (fun H locs G => ?_)
    refine lv_aload_n hx hb dX11_passHours_49 rfl (lv_at hl 0 rfl) ?_
    refine hk_getR F9 G h0 hkc_8 (k := 0) (by decide) qw_360 rfl er2 dX11_passHours_50 ?_
    refine hk_getR F9 G kr2 hkc_3 (k := 0) (by decide) qw_154 rfl er3 dX11_passHours_53 ?_
    refine hk_getI F9 G kr3 hkc_0 (k := 0) (by decide) qw_43 rfl dX11_passHours_56 ?_
    obtain rfl := hk_s hsp
    exact W.iret (v := (r13 r3 0)) hx hb hr (fun t ht hW => hk_end G ht hW) G.2.1.2.2 dX11_passHours_59
