def mL_addProbe (E : hk_E) (F : Nat) (S : hk_S) (a0 : Nat) (x1 : Int32) (x2 : Int32) (x3 : Int32) (a4 : Nat) : Option (Int32 × hk_S) :=
  match mX11_addProbe E F S a0 x1 x2 x3 with
  | none => none
  | some (.inl (k, S1)) => if k = 0 then some (1, S1) else (if k = 1 then some (2, S1) else (if k = 2 then some (3, S1) else (none)))
  | some (.inr r) => if hk_ok 0 (E.2.2.1 a4) then (some (0, hk_up r.2 a4 0 r.1)) else none
set_option maxHeartbeats 4000000 in
set_option maxRecDepth 100000 in
theorem kL_addProbe (l : Launch) (hst : l.stackTraces = false) (g : hk_G) (E : hk_E) (F n : Nat) (S : hk_S) (a0 : Nat) (x1 : Int32) (x2 : Int32) (x3 : Int32) (a4 : Nat) (o : Int32 × hk_S) (h0 : E.2.1 a0 = 9) (hout : E.2.1 a4 = 17) (hsp : mL_addProbe E F S a0 x1 x2 x3 a4 = some o) : vx_Met l yL_addProbe (hk_wsW yL_addProbe cL_addProbe 6 (Option.some Jvm.ClassFile.FieldType.int) [(0, 12, 15, 24), (0, 12, 19, 13), (0, 12, 23, 18)]) ({ frames := 8, cells := 4, slots := 24, locals := 127 }) (hk_Pc g E S n [.ref (g.1 + a0), .int x1, .int x2, .int x3, .ref (g.1 + a4)]) (hk_QN g E o.2 (some (.int o.1))) hk_XF 4 24 (hk_A g) := by
  refine vx_ofWH (cc := cL_addProbe) (maxL := 6) (ret := (Option.some Jvm.ClassFile.FieldType.int)) (hh := [(0, 12, 15, 24), (0, 12, 19, 13), (0, 12, 23, 18)]) (by decide) rfl ?_
  intro p e s m args below meth c s₁ B hml hv
  obtain ⟨rfl, G⟩ := hk_begin hv
  have htab := vx_table (x := yL_addProbe) B (atoms_spec (ws := hk_wsW yL_addProbe cL_addProbe 6 (Option.some Jvm.ClassFile.FieldType.int) [(0, 12, 15, 24), (0, 12, 19, 13), (0, 12, 23, 18)]) B.pre _ List.mem_cons_self)
  have F9 : CallFix p m c cL_addProbe 6 s [.ref (g.1 + a0), .int x1, .int x2, .int x3, .ref (g.1 + a4)].toArray hk_W RL := ⟨B.exec, B.bytes, hml, findClass_of_methodNamed B.named, fun w h => atoms_spec (ws := hk_wsW yL_addProbe cL_addProbe 6 (Option.some Jvm.ClassFile.FieldType.int) [(0, 12, 15, 24), (0, 12, 19, 13), (0, 12, 23, 18)]) B.pre w (hk_inW h)⟩
  have hx := B.exec
  have hb := B.bytes
  have hr := B.returns
  have hlocks := B.notSynchronized
  have hl := lv_entry ([.ref (g.1 + a0), .int x1, .int x2, .int x3, .ref (g.1 + a4)]) (n := 6) (Nat.le_of_ble_eq_true rfl)
  rw [lg_entry_eq]
  generalize (lg_sl ([.ref (g.1 + a0), .int x1, .int x2, .int x3, .ref (g.1 + a4)]) ++ List.replicate (6 - (lg_sl ([.ref (g.1 + a0), .int x1, .int x2, .int x3, .ref (g.1 + a4)])).length) Slot.unset).toArray = ls at hl ⊢
  have hl : lv_has ls 6 [(0, .ref (g.1 + a0)), (1, .int x1), (2, .int x2), (3, .int x3), (4, .ref (g.1 + a4))] := hl
  unfold mL_addProbe at hsp
  have G : hk_GG g E S n s s.heap [] := G
  refine lv_aload hx hb dL_addProbe_0 (lv_at hl 4 rfl) ?_
  refine lv_iconst (v := 0) hx hb dL_addProbe_2 (by decide) ?_
  refine lv_aload_n hx hb dL_addProbe_3 rfl (lv_at hl 0 rfl) ?_
  refine lv_iload_n hx hb dL_addProbe_4 rfl (lv_at hl 1 rfl) ?_
  refine lv_iload_n hx hb dL_addProbe_5 rfl (lv_at hl 2 rfl) ?_
  refine lv_iload_n hx hb dL_addProbe_6 rfl (lv_at hl 3 rfl) ?_
  refine hk_xV (As := [.int x1, .int x2, .int x3]) (rest := [.int 0, .ref (g.1 + a4)]) F9 G h0 hkc_8 rfl (kX11_addProbe l hst g E F n S a0 x1 x2 x3 ((mX11_addProbe E F S a0 x1 x2 x3).getD (.inl (0, S))) h0 ?_) qv_RL_55 ⟨rfl, rfl, (Nat.le_of_ble_eq_true rfl), (Nat.le_of_ble_eq_true rfl)⟩ rfl hl.1 rfl (Nat.le_of_ble_eq_true rfl) ⟨(Nat.le_of_ble_eq_true rfl), (Nat.le_of_ble_eq_true rfl)⟩ dL_addProbe_7 (fun k S2 ho ce q9 n1 H locs G h1 h2 h3 => ?_) (fun x ho H locs G => ?_)
  · cases hm : mX11_addProbe E F S a0 x1 x2 x3 with
    | none => rw [hm] at hsp; exact nomatch hsp
    | some v => rfl
  · have hm : mX11_addProbe E F S a0 x1 x2 x3 = some (.inl (k, S2)) := by
      cases hm : mX11_addProbe E F S a0 x1 x2 x3 with
      | none => rw [hm] at hsp; exact nomatch hsp
      | some v => rw [hm] at ho; exact congrArg some ho
    rw [hm] at hsp
    rcases Classical.em (k = 0) with w0 | w0
    · have hsp := hk_t w0 hsp
      subst w0
      refine hk_caught F9 G h1 h2 h3 [] ⟨0, 12, 15, 24⟩ [⟨0, 12, 19, 13⟩, ⟨0, 12, 23, 18⟩] (by rw [htab]; rfl) (fun z hz => absurd hz List.not_mem_nil) (by decide) (by decide) (name := "java/lang/IndexOutOfBoundsException") qw_957 (by decide +kernel) ?_
      refine lv_astore (lv' := [(5, .ref q9), (0, .ref (g.1 + a0)), (1, .int x1), (2, .int x2), (3, .int x3), (4, .ref (g.1 + a4))]) hx hb dL_addProbe_15  hl (by decide) rfl (fun ls hl => ?_)
      refine lv_iconst (v := 1) hx hb dL_addProbe_17 (by decide) ?_
      obtain rfl := hk_s hsp
      exact vx_ret (W.widen (k := 4) (n := 24) (Nat.le_of_ble_eq_true rfl) (Nat.le_of_ble_eq_true rfl) (W.iret (v := 1) hx hb hr (fun t ht hW => hk_endN G ht hW) G.2.1.2.2 dL_addProbe_18))
    · have hsp := hk_f w0 hsp
      rcases Classical.em (k = 1) with w1 | w1
      · have hsp := hk_t w1 hsp
        subst w1
        refine hk_caught F9 G h1 h2 h3 [⟨0, 12, 15, 24⟩] ⟨0, 12, 19, 13⟩ [⟨0, 12, 23, 18⟩] (by rw [htab]; rfl) (List.forall_mem_cons.mpr ⟨Or.inr ⟨by decide, "java/lang/IndexOutOfBoundsException", qw_957, by decide +kernel⟩, fun z hz => absurd hz List.not_mem_nil⟩) (by decide) (by decide) (name := "java/lang/IllegalArgumentException") qw_850 (by decide +kernel) ?_
        refine lv_astore (lv' := [(5, .ref q9), (0, .ref (g.1 + a0)), (1, .int x1), (2, .int x2), (3, .int x3), (4, .ref (g.1 + a4))]) hx hb dL_addProbe_19  hl (by decide) rfl (fun ls hl => ?_)
        refine lv_iconst (v := 2) hx hb dL_addProbe_21 (by decide) ?_
        obtain rfl := hk_s hsp
        exact vx_ret (W.widen (k := 4) (n := 24) (Nat.le_of_ble_eq_true rfl) (Nat.le_of_ble_eq_true rfl) (W.iret (v := 2) hx hb hr (fun t ht hW => hk_endN G ht hW) G.2.1.2.2 dL_addProbe_22))
      · have hsp := hk_f w1 hsp
        rcases Classical.em (k = 2) with w2 | w2
        · have hsp := hk_t w2 hsp
          subst w2
          refine hk_caught F9 G h1 h2 h3 [⟨0, 12, 15, 24⟩, ⟨0, 12, 19, 13⟩] ⟨0, 12, 23, 18⟩ [] (by rw [htab]; rfl) (List.forall_mem_cons.mpr ⟨Or.inr ⟨by decide, "java/lang/IndexOutOfBoundsException", qw_957, by decide +kernel⟩, List.forall_mem_cons.mpr ⟨Or.inr ⟨by decide, "java/lang/IllegalArgumentException", qw_850, by decide +kernel⟩, fun z hz => absurd hz List.not_mem_nil⟩⟩) (by decide) (by decide) (name := "java/lang/IllegalStateException") qw_929 (by decide +kernel) ?_
          refine lv_astore (lv' := [(5, .ref q9), (0, .ref (g.1 + a0)), (1, .int x1), (2, .int x2), (3, .int x3), (4, .ref (g.1 + a4))]) hx hb dL_addProbe_23  hl (by decide) rfl (fun ls hl => ?_)
          refine lv_iconst (v := 3) hx hb dL_addProbe_25 (by decide) ?_
          obtain rfl := hk_s hsp
          exact vx_ret (W.widen (k := 4) (n := 24) (Nat.le_of_ble_eq_true rfl) (Nat.le_of_ble_eq_true rfl) (W.iret (v := 3) hx hb hr (fun t ht hW => hk_endN G ht hW) G.2.1.2.2 dL_addProbe_26))
        · have hsp := hk_f w2 hsp
          exact nomatch hsp
  · have hm : mX11_addProbe E F S a0 x1 x2 x3 = some (.inr x) := by
      cases hm : mX11_addProbe E F S a0 x1 x2 x3 with
      | none => rw [hm] at hsp; exact nomatch hsp
      | some v => rw [hm] at ho; exact congrArg some ho
    rw [hm] at hsp
    obtain ⟨qo, hsp⟩ := hk_k hsp
    refine lv_i2l (v := x.1.toInt64) hx hb dL_addProbe_10 rfl ?_
    refine hk_last (y := x.1) (j := 0) F9 G rfl hout rfl qo (by decide) dL_addProbe_11 (fun H locs G => ?_)
    refine lv_goto (tgt := 27) hx hb dL_addProbe_12 (by decide) ?_
    refine lv_iconst (v := 0) hx hb dL_addProbe_27 (by decide) ?_
    obtain rfl := hk_s hsp
    exact vx_ret (W.widen (k := 4) (n := 24) (Nat.le_of_ble_eq_true rfl) (Nat.le_of_ble_eq_true rfl) (W.iret (v := 0) hx hb hr (fun t ht hW => hk_endN G ht hW) G.2.1.2.2 dL_addProbe_28))
def mL_addTrough (E : hk_E) (F : Nat) (S : hk_S) (a0 : Nat) (x1 : Int32) (a2 : Nat) : Option (Int32 × hk_S) :=
  match mX11_addTrough E F S a0 x1 with
  | none => none
  | some (.inl (k, S1)) => if k = 1 then some (1, S1) else (if k = 2 then some (2, S1) else (none))
  | some (.inr r) => if hk_ok 0 (E.2.2.1 a2) then (some (0, hk_up r.2 a2 0 r.1)) else none
set_option maxHeartbeats 4000000 in
set_option maxRecDepth 100000 in
theorem kL_addTrough (l : Launch) (hst : l.stackTraces = false) (g : hk_G) (E : hk_E) (F n : Nat) (S : hk_S) (a0 : Nat) (x1 : Int32) (a2 : Nat) (o : Int32 × hk_S) (h0 : E.2.1 a0 = 9) (hout : E.2.1 a2 = 17) (hsp : mL_addTrough E F S a0 x1 a2 = some o) : vx_Met l yL_addTrough (hk_wsW yL_addTrough cL_addTrough 4 (Option.some Jvm.ClassFile.FieldType.int) [(0, 9, 12, 13), (0, 9, 15, 18)]) ({ frames := 8, cells := 2, slots := 12, locals := 125 }) (hk_Pc g E S n [.ref (g.1 + a0), .int x1, .ref (g.1 + a2)]) (hk_QN g E o.2 (some (.int o.1))) hk_XF 2 12 (hk_A g) := by
  refine vx_ofWH (cc := cL_addTrough) (maxL := 4) (ret := (Option.some Jvm.ClassFile.FieldType.int)) (hh := [(0, 9, 12, 13), (0, 9, 15, 18)]) (by decide) rfl ?_
  intro p e s m args below meth c s₁ B hml hv
  obtain ⟨rfl, G⟩ := hk_begin hv
  have htab := vx_table (x := yL_addTrough) B (atoms_spec (ws := hk_wsW yL_addTrough cL_addTrough 4 (Option.some Jvm.ClassFile.FieldType.int) [(0, 9, 12, 13), (0, 9, 15, 18)]) B.pre _ List.mem_cons_self)
  have F9 : CallFix p m c cL_addTrough 4 s [.ref (g.1 + a0), .int x1, .ref (g.1 + a2)].toArray hk_W RL := ⟨B.exec, B.bytes, hml, findClass_of_methodNamed B.named, fun w h => atoms_spec (ws := hk_wsW yL_addTrough cL_addTrough 4 (Option.some Jvm.ClassFile.FieldType.int) [(0, 9, 12, 13), (0, 9, 15, 18)]) B.pre w (hk_inW h)⟩
  have hx := B.exec
  have hb := B.bytes
  have hr := B.returns
  have hlocks := B.notSynchronized
  have hl := lv_entry ([.ref (g.1 + a0), .int x1, .ref (g.1 + a2)]) (n := 4) (Nat.le_of_ble_eq_true rfl)
  rw [lg_entry_eq]
  generalize (lg_sl ([.ref (g.1 + a0), .int x1, .ref (g.1 + a2)]) ++ List.replicate (4 - (lg_sl ([.ref (g.1 + a0), .int x1, .ref (g.1 + a2)])).length) Slot.unset).toArray = ls at hl ⊢
  have hl : lv_has ls 4 [(0, .ref (g.1 + a0)), (1, .int x1), (2, .ref (g.1 + a2))] := hl
  unfold mL_addTrough at hsp
  have G : hk_GG g E S n s s.heap [] := G
  refine lv_aload_n hx hb dL_addTrough_0 rfl (lv_at hl 2 rfl) ?_
  refine lv_iconst (v := 0) hx hb dL_addTrough_1 (by decide) ?_
  refine lv_aload_n hx hb dL_addTrough_2 rfl (lv_at hl 0 rfl) ?_
  refine lv_iload_n hx hb dL_addTrough_3 rfl (lv_at hl 1 rfl) ?_
  refine hk_xV (As := [.int x1]) (rest := [.int 0, .ref (g.1 + a2)]) F9 G h0 hkc_8 rfl (kX11_addTrough l hst g E F n S a0 x1 ((mX11_addTrough E F S a0 x1).getD (.inl (0, S))) h0 ?_) qv_RL_15 ⟨rfl, rfl, (Nat.le_of_ble_eq_true rfl), (Nat.le_of_ble_eq_true rfl)⟩ rfl hl.1 rfl (Nat.le_of_ble_eq_true rfl) ⟨(Nat.le_of_ble_eq_true rfl), (Nat.le_of_ble_eq_true rfl)⟩ dL_addTrough_4 (fun k S2 ho ce q9 n1 H locs G h1 h2 h3 => ?_) (fun x ho H locs G => ?_)
  · cases hm : mX11_addTrough E F S a0 x1 with
    | none => rw [hm] at hsp; exact nomatch hsp
    | some v => rfl
  · have hm : mX11_addTrough E F S a0 x1 = some (.inl (k, S2)) := by
      cases hm : mX11_addTrough E F S a0 x1 with
      | none => rw [hm] at hsp; exact nomatch hsp
      | some v => rw [hm] at ho; exact congrArg some ho
    rw [hm] at hsp
    rcases Classical.em (k = 1) with w0 | w0
    · have hsp := hk_t w0 hsp
      subst w0
      refine hk_caught F9 G h1 h2 h3 [] ⟨0, 9, 12, 13⟩ [⟨0, 9, 15, 18⟩] (by rw [htab]; rfl) (fun z hz => absurd hz List.not_mem_nil) (by decide) (by decide) (name := "java/lang/IllegalArgumentException") qw_850 (by decide +kernel) ?_
      refine lv_astore_n (lv' := [(3, .ref q9), (0, .ref (g.1 + a0)), (1, .int x1), (2, .ref (g.1 + a2))]) hx hb dL_addTrough_12 rfl hl (by decide) rfl (fun ls hl => ?_)
      refine lv_iconst (v := 1) hx hb dL_addTrough_13 (by decide) ?_
      obtain rfl := hk_s hsp
      exact vx_ret (W.widen (k := 2) (n := 12) (Nat.le_of_ble_eq_true rfl) (Nat.le_of_ble_eq_true rfl) (W.iret (v := 1) hx hb hr (fun t ht hW => hk_endN G ht hW) G.2.1.2.2 dL_addTrough_14))
    · have hsp := hk_f w0 hsp
      rcases Classical.em (k = 2) with w1 | w1
      · have hsp := hk_t w1 hsp
        subst w1
        refine hk_caught F9 G h1 h2 h3 [⟨0, 9, 12, 13⟩] ⟨0, 9, 15, 18⟩ [] (by rw [htab]; rfl) (List.forall_mem_cons.mpr ⟨Or.inr ⟨by decide, "java/lang/IllegalArgumentException", qw_850, by decide +kernel⟩, fun z hz => absurd hz List.not_mem_nil⟩) (by decide) (by decide) (name := "java/lang/IllegalStateException") qw_929 (by decide +kernel) ?_
        refine lv_astore_n (lv' := [(3, .ref q9), (0, .ref (g.1 + a0)), (1, .int x1), (2, .ref (g.1 + a2))]) hx hb dL_addTrough_15 rfl hl (by decide) rfl (fun ls hl => ?_)
        refine lv_iconst (v := 2) hx hb dL_addTrough_16 (by decide) ?_
        obtain rfl := hk_s hsp
        exact vx_ret (W.widen (k := 2) (n := 12) (Nat.le_of_ble_eq_true rfl) (Nat.le_of_ble_eq_true rfl) (W.iret (v := 2) hx hb hr (fun t ht hW => hk_endN G ht hW) G.2.1.2.2 dL_addTrough_17))
      · have hsp := hk_f w1 hsp
        exact nomatch hsp
  · have hm : mX11_addTrough E F S a0 x1 = some (.inr x) := by
      cases hm : mX11_addTrough E F S a0 x1 with
      | none => rw [hm] at hsp; exact nomatch hsp
      | some v => rw [hm] at ho; exact congrArg some ho
    rw [hm] at hsp
    obtain ⟨qo, hsp⟩ := hk_k hsp
    refine lv_i2l (v := x.1.toInt64) hx hb dL_addTrough_7 rfl ?_
    refine hk_last (y := x.1) (j := 0) F9 G rfl hout rfl qo (by decide) dL_addTrough_8 (fun H locs G => ?_)
    refine lv_goto (tgt := 18) hx hb dL_addTrough_9 (by decide) ?_
    refine lv_iconst (v := 0) hx hb dL_addTrough_18 (by decide) ?_
    obtain rfl := hk_s hsp
    exact vx_ret (W.widen (k := 2) (n := 12) (Nat.le_of_ble_eq_true rfl) (Nat.le_of_ble_eq_true rfl) (W.iret (v := 0) hx hb hr (fun t ht hW => hk_endN G ht hW) G.2.1.2.2 dL_addTrough_19))
def mL_announceMonsoon (E : hk_E) (F : Nat) (S : hk_S) (a0 : Nat) (x1 : Int32) (a2 : Nat) : Option (Int32 × hk_S) :=
  match mX11_announceMonsoon E F S a0 x1 with
  | none => none
  | some (.inl (k, S1)) => if k = 1 then some (1, S1) else (if k = 2 then some (2, S1) else (none))
  | some (.inr r) => if hk_ok 0 (E.2.2.1 a2) then (some (0, hk_up r.2 a2 0 r.1)) else none
set_option maxHeartbeats 4000000 in
set_option maxRecDepth 100000 in
theorem kL_announceMonsoon (l : Launch) (hst : l.stackTraces = false) (g : hk_G) (E : hk_E) (F n : Nat) (S : hk_S) (a0 : Nat) (x1 : Int32) (a2 : Nat) (o : Int32 × hk_S) (h0 : E.2.1 a0 = 9) (hout : E.2.1 a2 = 17) (hsp : mL_announceMonsoon E F S a0 x1 a2 = some o) : vx_Met l yL_announceMonsoon (hk_wsW yL_announceMonsoon cL_announceMonsoon 4 (Option.some Jvm.ClassFile.FieldType.int) [(0, 9, 12, 13), (0, 9, 15, 18)]) ({ frames := 8, cells := 2, slots := 12, locals := 125 }) (hk_Pc g E S n [.ref (g.1 + a0), .int x1, .ref (g.1 + a2)]) (hk_QN g E o.2 (some (.int o.1))) hk_XF 2 12 (hk_A g) := by
  refine vx_ofWH (cc := cL_announceMonsoon) (maxL := 4) (ret := (Option.some Jvm.ClassFile.FieldType.int)) (hh := [(0, 9, 12, 13), (0, 9, 15, 18)]) (by decide) rfl ?_
  intro p e s m args below meth c s₁ B hml hv
  obtain ⟨rfl, G⟩ := hk_begin hv
  have htab := vx_table (x := yL_announceMonsoon) B (atoms_spec (ws := hk_wsW yL_announceMonsoon cL_announceMonsoon 4 (Option.some Jvm.ClassFile.FieldType.int) [(0, 9, 12, 13), (0, 9, 15, 18)]) B.pre _ List.mem_cons_self)
  have F9 : CallFix p m c cL_announceMonsoon 4 s [.ref (g.1 + a0), .int x1, .ref (g.1 + a2)].toArray hk_W RL := ⟨B.exec, B.bytes, hml, findClass_of_methodNamed B.named, fun w h => atoms_spec (ws := hk_wsW yL_announceMonsoon cL_announceMonsoon 4 (Option.some Jvm.ClassFile.FieldType.int) [(0, 9, 12, 13), (0, 9, 15, 18)]) B.pre w (hk_inW h)⟩
  have hx := B.exec
  have hb := B.bytes
  have hr := B.returns
  have hlocks := B.notSynchronized
  have hl := lv_entry ([.ref (g.1 + a0), .int x1, .ref (g.1 + a2)]) (n := 4) (Nat.le_of_ble_eq_true rfl)
  rw [lg_entry_eq]
  generalize (lg_sl ([.ref (g.1 + a0), .int x1, .ref (g.1 + a2)]) ++ List.replicate (4 - (lg_sl ([.ref (g.1 + a0), .int x1, .ref (g.1 + a2)])).length) Slot.unset).toArray = ls at hl ⊢
  have hl : lv_has ls 4 [(0, .ref (g.1 + a0)), (1, .int x1), (2, .ref (g.1 + a2))] := hl
  unfold mL_announceMonsoon at hsp
  have G : hk_GG g E S n s s.heap [] := G
  refine lv_aload_n hx hb dL_announceMonsoon_0 rfl (lv_at hl 2 rfl) ?_
  refine lv_iconst (v := 0) hx hb dL_announceMonsoon_1 (by decide) ?_
  refine lv_aload_n hx hb dL_announceMonsoon_2 rfl (lv_at hl 0 rfl) ?_
  refine lv_iload_n hx hb dL_announceMonsoon_3 rfl (lv_at hl 1 rfl) ?_
  refine hk_xV (As := [.int x1]) (rest := [.int 0, .ref (g.1 + a2)]) F9 G h0 hkc_8 rfl (kX11_announceMonsoon l hst g E F n S a0 x1 ((mX11_announceMonsoon E F S a0 x1).getD (.inl (0, S))) h0 ?_) qv_RL_40 ⟨rfl, rfl, (Nat.le_of_ble_eq_true rfl), (Nat.le_of_ble_eq_true rfl)⟩ rfl hl.1 rfl (Nat.le_of_ble_eq_true rfl) ⟨(Nat.le_of_ble_eq_true rfl), (Nat.le_of_ble_eq_true rfl)⟩ dL_announceMonsoon_4 (fun k S2 ho ce q9 n1 H locs G h1 h2 h3 => ?_) (fun x ho H locs G => ?_)
  · cases hm : mX11_announceMonsoon E F S a0 x1 with
    | none => rw [hm] at hsp; exact nomatch hsp
    | some v => rfl
  · have hm : mX11_announceMonsoon E F S a0 x1 = some (.inl (k, S2)) := by
      cases hm : mX11_announceMonsoon E F S a0 x1 with
      | none => rw [hm] at hsp; exact nomatch hsp
      | some v => rw [hm] at ho; exact congrArg some ho
    rw [hm] at hsp
    rcases Classical.em (k = 1) with w0 | w0
    · have hsp := hk_t w0 hsp
      subst w0
      refine hk_caught F9 G h1 h2 h3 [] ⟨0, 9, 12, 13⟩ [⟨0, 9, 15, 18⟩] (by rw [htab]; rfl) (fun z hz => absurd hz List.not_mem_nil) (by decide) (by decide) (name := "java/lang/IllegalArgumentException") qw_850 (by decide +kernel) ?_
      refine lv_astore_n (lv' := [(3, .ref q9), (0, .ref (g.1 + a0)), (1, .int x1), (2, .ref (g.1 + a2))]) hx hb dL_announceMonsoon_12 rfl hl (by decide) rfl (fun ls hl => ?_)
      refine lv_iconst (v := 1) hx hb dL_announceMonsoon_13 (by decide) ?_
      obtain rfl := hk_s hsp
      exact vx_ret (W.widen (k := 2) (n := 12) (Nat.le_of_ble_eq_true rfl) (Nat.le_of_ble_eq_true rfl) (W.iret (v := 1) hx hb hr (fun t ht hW => hk_endN G ht hW) G.2.1.2.2 dL_announceMonsoon_14))
    · have hsp := hk_f w0 hsp
      rcases Classical.em (k = 2) with w1 | w1
      · have hsp := hk_t w1 hsp
        subst w1
        refine hk_caught F9 G h1 h2 h3 [⟨0, 9, 12, 13⟩] ⟨0, 9, 15, 18⟩ [] (by rw [htab]; rfl) (List.forall_mem_cons.mpr ⟨Or.inr ⟨by decide, "java/lang/IllegalArgumentException", qw_850, by decide +kernel⟩, fun z hz => absurd hz List.not_mem_nil⟩) (by decide) (by decide) (name := "java/lang/IllegalStateException") qw_929 (by decide +kernel) ?_
        refine lv_astore_n (lv' := [(3, .ref q9), (0, .ref (g.1 + a0)), (1, .int x1), (2, .ref (g.1 + a2))]) hx hb dL_announceMonsoon_15 rfl hl (by decide) rfl (fun ls hl => ?_)
        refine lv_iconst (v := 2) hx hb dL_announceMonsoon_16 (by decide) ?_
        obtain rfl := hk_s hsp
        exact vx_ret (W.widen (k := 2) (n := 12) (Nat.le_of_ble_eq_true rfl) (Nat.le_of_ble_eq_true rfl) (W.iret (v := 2) hx hb hr (fun t ht hW => hk_endN G ht hW) G.2.1.2.2 dL_announceMonsoon_17))
      · have hsp := hk_f w1 hsp
        exact nomatch hsp
  · have hm : mX11_announceMonsoon E F S a0 x1 = some (.inr x) := by
      cases hm : mX11_announceMonsoon E F S a0 x1 with
      | none => rw [hm] at hsp; exact nomatch hsp
      | some v => rw [hm] at ho; exact congrArg some ho
    rw [hm] at hsp
    obtain ⟨qo, hsp⟩ := hk_k hsp
    refine lv_i2l (v := x.1.toInt64) hx hb dL_announceMonsoon_7 rfl ?_
    refine hk_last (y := x.1) (j := 0) F9 G rfl hout rfl qo (by decide) dL_announceMonsoon_8 (fun H locs G => ?_)
    refine lv_goto (tgt := 18) hx hb dL_announceMonsoon_9 (by decide) ?_
    refine lv_iconst (v := 0) hx hb dL_announceMonsoon_18 (by decide) ?_
    obtain rfl := hk_s hsp
    exact vx_ret (W.widen (k := 2) (n := 12) (Nat.le_of_ble_eq_true rfl) (Nat.le_of_ble_eq_true rfl) (W.iret (v := 0) hx hb hr (fun t ht hW => hk_endN G ht hW) G.2.1.2.2 dL_announceMonsoon_19))
def mL_bestReversal (E : hk_E) (F : Nat) (S : hk_S) (a0 : Nat) (x1 : Int32) (x2 : Int32) (a3 : Nat) : Option (Int32 × hk_S) :=
  match mX11_bestReversal E F S a0 x1 x2 with
  | none => none
  | some (.inl (k, S1)) => if k = 0 then some (1, S1) else (if k = 1 then some (2, S1) else (none))
  | some (.inr r) => if hk_ok 0 (E.2.2.1 a3) then (some (0, hk_up r.2 a3 0 r.1)) else none
set_option maxHeartbeats 4000000 in
set_option maxRecDepth 100000 in
theorem kL_bestReversal (l : Launch) (hst : l.stackTraces = false) (g : hk_G) (E : hk_E) (F n : Nat) (S : hk_S) (a0 : Nat) (x1 : Int32) (x2 : Int32) (a3 : Nat) (o : Int32 × hk_S) (h0 : E.2.1 a0 = 9) (hout : E.2.1 a3 = 17) (hsp : mL_bestReversal E F S a0 x1 x2 a3 = some o) : vx_Met l yL_bestReversal (hk_wsW yL_bestReversal cL_bestReversal 5 (Option.some Jvm.ClassFile.FieldType.int) [(0, 10, 13, 24), (0, 10, 17, 13)]) ({ frames := 8, cells := 2, slots := 12, locals := 127 }) (hk_Pc g E S n [.ref (g.1 + a0), .int x1, .int x2, .ref (g.1 + a3)]) (hk_QN g E o.2 (some (.int o.1))) hk_XF 2 12 (hk_A g) := by
  refine vx_ofWH (cc := cL_bestReversal) (maxL := 5) (ret := (Option.some Jvm.ClassFile.FieldType.int)) (hh := [(0, 10, 13, 24), (0, 10, 17, 13)]) (by decide) rfl ?_
  intro p e s m args below meth c s₁ B hml hv
  obtain ⟨rfl, G⟩ := hk_begin hv
  have htab := vx_table (x := yL_bestReversal) B (atoms_spec (ws := hk_wsW yL_bestReversal cL_bestReversal 5 (Option.some Jvm.ClassFile.FieldType.int) [(0, 10, 13, 24), (0, 10, 17, 13)]) B.pre _ List.mem_cons_self)
  have F9 : CallFix p m c cL_bestReversal 5 s [.ref (g.1 + a0), .int x1, .int x2, .ref (g.1 + a3)].toArray hk_W RL := ⟨B.exec, B.bytes, hml, findClass_of_methodNamed B.named, fun w h => atoms_spec (ws := hk_wsW yL_bestReversal cL_bestReversal 5 (Option.some Jvm.ClassFile.FieldType.int) [(0, 10, 13, 24), (0, 10, 17, 13)]) B.pre w (hk_inW h)⟩
  have hx := B.exec
  have hb := B.bytes
  have hr := B.returns
  have hlocks := B.notSynchronized
  have hl := lv_entry ([.ref (g.1 + a0), .int x1, .int x2, .ref (g.1 + a3)]) (n := 5) (Nat.le_of_ble_eq_true rfl)
  rw [lg_entry_eq]
  generalize (lg_sl ([.ref (g.1 + a0), .int x1, .int x2, .ref (g.1 + a3)]) ++ List.replicate (5 - (lg_sl ([.ref (g.1 + a0), .int x1, .int x2, .ref (g.1 + a3)])).length) Slot.unset).toArray = ls at hl ⊢
  have hl : lv_has ls 5 [(0, .ref (g.1 + a0)), (1, .int x1), (2, .int x2), (3, .ref (g.1 + a3))] := hl
  unfold mL_bestReversal at hsp
  have G : hk_GG g E S n s s.heap [] := G
  refine lv_aload_n hx hb dL_bestReversal_0 rfl (lv_at hl 3 rfl) ?_
  refine lv_iconst (v := 0) hx hb dL_bestReversal_1 (by decide) ?_
  refine lv_aload_n hx hb dL_bestReversal_2 rfl (lv_at hl 0 rfl) ?_
  refine lv_iload_n hx hb dL_bestReversal_3 rfl (lv_at hl 1 rfl) ?_
  refine lv_iload_n hx hb dL_bestReversal_4 rfl (lv_at hl 2 rfl) ?_
  refine hk_xV (As := [.int x1, .int x2]) (rest := [.int 0, .ref (g.1 + a3)]) F9 G h0 hkc_8 rfl (kX11_bestReversal l hst g E F n S a0 x1 x2 ((mX11_bestReversal E F S a0 x1 x2).getD (.inl (0, S))) h0 ?_) qv_RL_136 ⟨rfl, rfl, (Nat.le_of_ble_eq_true rfl), (Nat.le_of_ble_eq_true rfl)⟩ rfl hl.1 rfl (Nat.le_of_ble_eq_true rfl) ⟨(Nat.le_of_ble_eq_true rfl), (Nat.le_of_ble_eq_true rfl)⟩ dL_bestReversal_5 (fun k S2 ho ce q9 n1 H locs G h1 h2 h3 => ?_) (fun x ho H locs G => ?_)
  · cases hm : mX11_bestReversal E F S a0 x1 x2 with
    | none => rw [hm] at hsp; exact nomatch hsp
    | some v => rfl
  · have hm : mX11_bestReversal E F S a0 x1 x2 = some (.inl (k, S2)) := by
      cases hm : mX11_bestReversal E F S a0 x1 x2 with
      | none => rw [hm] at hsp; exact nomatch hsp
      | some v => rw [hm] at ho; exact congrArg some ho
    rw [hm] at hsp
    rcases Classical.em (k = 0) with w0 | w0
    · have hsp := hk_t w0 hsp
      subst w0
      refine hk_caught F9 G h1 h2 h3 [] ⟨0, 10, 13, 24⟩ [⟨0, 10, 17, 13⟩] (by rw [htab]; rfl) (fun z hz => absurd hz List.not_mem_nil) (by decide) (by decide) (name := "java/lang/IndexOutOfBoundsException") qw_957 (by decide +kernel) ?_
      refine lv_astore (lv' := [(4, .ref q9), (0, .ref (g.1 + a0)), (1, .int x1), (2, .int x2), (3, .ref (g.1 + a3))]) hx hb dL_bestReversal_13  hl (by decide) rfl (fun ls hl => ?_)
      refine lv_iconst (v := 1) hx hb dL_bestReversal_15 (by decide) ?_
      obtain rfl := hk_s hsp
      exact vx_ret (W.widen (k := 2) (n := 12) (Nat.le_of_ble_eq_true rfl) (Nat.le_of_ble_eq_true rfl) (W.iret (v := 1) hx hb hr (fun t ht hW => hk_endN G ht hW) G.2.1.2.2 dL_bestReversal_16))
    · have hsp := hk_f w0 hsp
      rcases Classical.em (k = 1) with w1 | w1
      · have hsp := hk_t w1 hsp
        subst w1
        refine hk_caught F9 G h1 h2 h3 [⟨0, 10, 13, 24⟩] ⟨0, 10, 17, 13⟩ [] (by rw [htab]; rfl) (List.forall_mem_cons.mpr ⟨Or.inr ⟨by decide, "java/lang/IndexOutOfBoundsException", qw_957, by decide +kernel⟩, fun z hz => absurd hz List.not_mem_nil⟩) (by decide) (by decide) (name := "java/lang/IllegalArgumentException") qw_850 (by decide +kernel) ?_
        refine lv_astore (lv' := [(4, .ref q9), (0, .ref (g.1 + a0)), (1, .int x1), (2, .int x2), (3, .ref (g.1 + a3))]) hx hb dL_bestReversal_17  hl (by decide) rfl (fun ls hl => ?_)
        refine lv_iconst (v := 2) hx hb dL_bestReversal_19 (by decide) ?_
        obtain rfl := hk_s hsp
        exact vx_ret (W.widen (k := 2) (n := 12) (Nat.le_of_ble_eq_true rfl) (Nat.le_of_ble_eq_true rfl) (W.iret (v := 2) hx hb hr (fun t ht hW => hk_endN G ht hW) G.2.1.2.2 dL_bestReversal_20))
      · have hsp := hk_f w1 hsp
        exact nomatch hsp
  · have hm : mX11_bestReversal E F S a0 x1 x2 = some (.inr x) := by
      cases hm : mX11_bestReversal E F S a0 x1 x2 with
      | none => rw [hm] at hsp; exact nomatch hsp
      | some v => rw [hm] at ho; exact congrArg some ho
    rw [hm] at hsp
    obtain ⟨qo, hsp⟩ := hk_k hsp
    refine lv_i2l (v := x.1.toInt64) hx hb dL_bestReversal_8 rfl ?_
    refine hk_last (y := x.1) (j := 0) F9 G rfl hout rfl qo (by decide) dL_bestReversal_9 (fun H locs G => ?_)
    refine lv_goto (tgt := 21) hx hb dL_bestReversal_10 (by decide) ?_
    refine lv_iconst (v := 0) hx hb dL_bestReversal_21 (by decide) ?_
    obtain rfl := hk_s hsp
    exact vx_ret (W.widen (k := 2) (n := 12) (Nat.le_of_ble_eq_true rfl) (Nat.le_of_ble_eq_true rfl) (W.iret (v := 0) hx hb hr (fun t ht hW => hk_endN G ht hW) G.2.1.2.2 dL_bestReversal_22))
def mL_calibrate (E : hk_E) (F : Nat) (S : hk_S) (a0 : Nat) (x1 : Int32) (a2 : Nat) : Option (Int32 × hk_S) :=
  match mX11_calibrate E F S a0 x1 with
  | none => none
  | some (.inl (k, S1)) => if k = 0 then some (1, S1) else (none)
  | some (.inr r) => if hk_ok 0 (E.2.2.1 a2) then (some (0, hk_up r.2 a2 0 r.1)) else none
set_option maxHeartbeats 4000000 in
set_option maxRecDepth 100000 in
theorem kL_calibrate (l : Launch) (hst : l.stackTraces = false) (g : hk_G) (E : hk_E) (F n : Nat) (S : hk_S) (a0 : Nat) (x1 : Int32) (a2 : Nat) (o : Int32 × hk_S) (h0 : E.2.1 a0 = 9) (hout : E.2.1 a2 = 17) (hsp : mL_calibrate E F S a0 x1 a2 = some o) : vx_Met l yL_calibrate (hk_wsW yL_calibrate cL_calibrate 4 (Option.some Jvm.ClassFile.FieldType.int) [(0, 9, 12, 24)]) ({ frames := 8, cells := 1, slots := 6, locals := 126 }) (hk_Pc g E S n [.ref (g.1 + a0), .int x1, .ref (g.1 + a2)]) (hk_QN g E o.2 (some (.int o.1))) hk_XF 1 6 (hk_A g) := by
  refine vx_ofWH (cc := cL_calibrate) (maxL := 4) (ret := (Option.some Jvm.ClassFile.FieldType.int)) (hh := [(0, 9, 12, 24)]) (by decide) rfl ?_
  intro p e s m args below meth c s₁ B hml hv
  obtain ⟨rfl, G⟩ := hk_begin hv
  have htab := vx_table (x := yL_calibrate) B (atoms_spec (ws := hk_wsW yL_calibrate cL_calibrate 4 (Option.some Jvm.ClassFile.FieldType.int) [(0, 9, 12, 24)]) B.pre _ List.mem_cons_self)
  have F9 : CallFix p m c cL_calibrate 4 s [.ref (g.1 + a0), .int x1, .ref (g.1 + a2)].toArray hk_W RL := ⟨B.exec, B.bytes, hml, findClass_of_methodNamed B.named, fun w h => atoms_spec (ws := hk_wsW yL_calibrate cL_calibrate 4 (Option.some Jvm.ClassFile.FieldType.int) [(0, 9, 12, 24)]) B.pre w (hk_inW h)⟩
  have hx := B.exec
  have hb := B.bytes
  have hr := B.returns
  have hlocks := B.notSynchronized
  have hl := lv_entry ([.ref (g.1 + a0), .int x1, .ref (g.1 + a2)]) (n := 4) (Nat.le_of_ble_eq_true rfl)
  rw [lg_entry_eq]
  generalize (lg_sl ([.ref (g.1 + a0), .int x1, .ref (g.1 + a2)]) ++ List.replicate (4 - (lg_sl ([.ref (g.1 + a0), .int x1, .ref (g.1 + a2)])).length) Slot.unset).toArray = ls at hl ⊢
  have hl : lv_has ls 4 [(0, .ref (g.1 + a0)), (1, .int x1), (2, .ref (g.1 + a2))] := hl
  unfold mL_calibrate at hsp
  have G : hk_GG g E S n s s.heap [] := G
  refine lv_aload_n hx hb dL_calibrate_0 rfl (lv_at hl 2 rfl) ?_
  refine lv_iconst (v := 0) hx hb dL_calibrate_1 (by decide) ?_
  refine lv_aload_n hx hb dL_calibrate_2 rfl (lv_at hl 0 rfl) ?_
  refine lv_iload_n hx hb dL_calibrate_3 rfl (lv_at hl 1 rfl) ?_
  refine hk_xV (As := [.int x1]) (rest := [.int 0, .ref (g.1 + a2)]) F9 G h0 hkc_8 rfl (kX11_calibrate l hst g E F n S a0 x1 ((mX11_calibrate E F S a0 x1).getD (.inl (0, S))) h0 ?_) qv_RL_61 ⟨rfl, rfl, (Nat.le_of_ble_eq_true rfl), (Nat.le_of_ble_eq_true rfl)⟩ rfl hl.1 rfl (Nat.le_of_ble_eq_true rfl) ⟨(Nat.le_of_ble_eq_true rfl), (Nat.le_of_ble_eq_true rfl)⟩ dL_calibrate_4 (fun k S2 ho ce q9 n1 H locs G h1 h2 h3 => ?_) (fun x ho H locs G => ?_)
  · cases hm : mX11_calibrate E F S a0 x1 with
    | none => rw [hm] at hsp; exact nomatch hsp
    | some v => rfl
  · have hm : mX11_calibrate E F S a0 x1 = some (.inl (k, S2)) := by
      cases hm : mX11_calibrate E F S a0 x1 with
      | none => rw [hm] at hsp; exact nomatch hsp
      | some v => rw [hm] at ho; exact congrArg some ho
    rw [hm] at hsp
    rcases Classical.em (k = 0) with w0 | w0
    · have hsp := hk_t w0 hsp
      subst w0
      refine hk_caught F9 G h1 h2 h3 [] ⟨0, 9, 12, 24⟩ [] (by rw [htab]; rfl) (fun z hz => absurd hz List.not_mem_nil) (by decide) (by decide) (name := "java/lang/IndexOutOfBoundsException") qw_957 (by decide +kernel) ?_
      refine lv_astore_n (lv' := [(3, .ref q9), (0, .ref (g.1 + a0)), (1, .int x1), (2, .ref (g.1 + a2))]) hx hb dL_calibrate_12 rfl hl (by decide) rfl (fun ls hl => ?_)
      refine lv_iconst (v := 1) hx hb dL_calibrate_13 (by decide) ?_
      obtain rfl := hk_s hsp
      exact vx_ret (W.widen (k := 1) (n := 6) (Nat.le_of_ble_eq_true rfl) (Nat.le_of_ble_eq_true rfl) (W.iret (v := 1) hx hb hr (fun t ht hW => hk_endN G ht hW) G.2.1.2.2 dL_calibrate_14))
    · have hsp := hk_f w0 hsp
      exact nomatch hsp
  · have hm : mX11_calibrate E F S a0 x1 = some (.inr x) := by
      cases hm : mX11_calibrate E F S a0 x1 with
      | none => rw [hm] at hsp; exact nomatch hsp
      | some v => rw [hm] at ho; exact congrArg some ho
    rw [hm] at hsp
    obtain ⟨qo, hsp⟩ := hk_k hsp
    refine lv_i2l (v := x.1.toInt64) hx hb dL_calibrate_7 rfl ?_
    refine hk_last (y := x.1) (j := 0) F9 G rfl hout rfl qo (by decide) dL_calibrate_8 (fun H locs G => ?_)
    refine lv_goto (tgt := 15) hx hb dL_calibrate_9 (by decide) ?_
    refine lv_iconst (v := 0) hx hb dL_calibrate_15 (by decide) ?_
    obtain rfl := hk_s hsp
    exact vx_ret (W.widen (k := 1) (n := 6) (Nat.le_of_ble_eq_true rfl) (Nat.le_of_ble_eq_true rfl) (W.iret (v := 0) hx hb hr (fun t ht hW => hk_endN G ht hW) G.2.1.2.2 dL_calibrate_16))
def mL_capacity (E : hk_E) (F : Nat) (S : hk_S) (a0 : Nat) (x1 : Int32) (a2 : Nat) : Option (Int32 × hk_S) :=
  match mX11_capacity E F S a0 x1 with
  | none => none
  | some (.inl (k, S1)) => if k = 0 then some (1, S1) else (none)
  | some (.inr r) => if hk_ok 0 (E.2.2.1 a2) then (some (0, hk_up r.2 a2 0 r.1)) else none
set_option maxHeartbeats 4000000 in
set_option maxRecDepth 100000 in
theorem kL_capacity (l : Launch) (hst : l.stackTraces = false) (g : hk_G) (E : hk_E) (F n : Nat) (S : hk_S) (a0 : Nat) (x1 : Int32) (a2 : Nat) (o : Int32 × hk_S) (h0 : E.2.1 a0 = 9) (hout : E.2.1 a2 = 17) (hsp : mL_capacity E F S a0 x1 a2 = some o) : vx_Met l yL_capacity (hk_wsW yL_capacity cL_capacity 4 (Option.some Jvm.ClassFile.FieldType.int) [(0, 9, 12, 24)]) ({ frames := 8, cells := 1, slots := 6, locals := 124 }) (hk_Pc g E S n [.ref (g.1 + a0), .int x1, .ref (g.1 + a2)]) (hk_QN g E o.2 (some (.int o.1))) hk_XF 1 6 (hk_A g) := by
  refine vx_ofWH (cc := cL_capacity) (maxL := 4) (ret := (Option.some Jvm.ClassFile.FieldType.int)) (hh := [(0, 9, 12, 24)]) (by decide) rfl ?_
  intro p e s m args below meth c s₁ B hml hv
  obtain ⟨rfl, G⟩ := hk_begin hv
  have htab := vx_table (x := yL_capacity) B (atoms_spec (ws := hk_wsW yL_capacity cL_capacity 4 (Option.some Jvm.ClassFile.FieldType.int) [(0, 9, 12, 24)]) B.pre _ List.mem_cons_self)
  have F9 : CallFix p m c cL_capacity 4 s [.ref (g.1 + a0), .int x1, .ref (g.1 + a2)].toArray hk_W RL := ⟨B.exec, B.bytes, hml, findClass_of_methodNamed B.named, fun w h => atoms_spec (ws := hk_wsW yL_capacity cL_capacity 4 (Option.some Jvm.ClassFile.FieldType.int) [(0, 9, 12, 24)]) B.pre w (hk_inW h)⟩
  have hx := B.exec
  have hb := B.bytes
  have hr := B.returns
  have hlocks := B.notSynchronized
  have hl := lv_entry ([.ref (g.1 + a0), .int x1, .ref (g.1 + a2)]) (n := 4) (Nat.le_of_ble_eq_true rfl)
  rw [lg_entry_eq]
  generalize (lg_sl ([.ref (g.1 + a0), .int x1, .ref (g.1 + a2)]) ++ List.replicate (4 - (lg_sl ([.ref (g.1 + a0), .int x1, .ref (g.1 + a2)])).length) Slot.unset).toArray = ls at hl ⊢
  have hl : lv_has ls 4 [(0, .ref (g.1 + a0)), (1, .int x1), (2, .ref (g.1 + a2))] := hl
  unfold mL_capacity at hsp
  have G : hk_GG g E S n s s.heap [] := G
  refine lv_aload_n hx hb dL_capacity_0 rfl (lv_at hl 2 rfl) ?_
  refine lv_iconst (v := 0) hx hb dL_capacity_1 (by decide) ?_
  refine lv_aload_n hx hb dL_capacity_2 rfl (lv_at hl 0 rfl) ?_
  refine lv_iload_n hx hb dL_capacity_3 rfl (lv_at hl 1 rfl) ?_
  refine hk_xV (As := [.int x1]) (rest := [.int 0, .ref (g.1 + a2)]) F9 G h0 hkc_8 rfl (kX11_capacity l hst g E F n S a0 x1 ((mX11_capacity E F S a0 x1).getD (.inl (0, S))) h0 ?_) qv_RL_76 ⟨rfl, rfl, (Nat.le_of_ble_eq_true rfl), (Nat.le_of_ble_eq_true rfl)⟩ rfl hl.1 rfl (Nat.le_of_ble_eq_true rfl) ⟨(Nat.le_of_ble_eq_true rfl), (Nat.le_of_ble_eq_true rfl)⟩ dL_capacity_4 (fun k S2 ho ce q9 n1 H locs G h1 h2 h3 => ?_) (fun x ho H locs G => ?_)
  · cases hm : mX11_capacity E F S a0 x1 with
    | none => rw [hm] at hsp; exact nomatch hsp
    | some v => rfl
  · have hm : mX11_capacity E F S a0 x1 = some (.inl (k, S2)) := by
      cases hm : mX11_capacity E F S a0 x1 with
      | none => rw [hm] at hsp; exact nomatch hsp
      | some v => rw [hm] at ho; exact congrArg some ho
    rw [hm] at hsp
    rcases Classical.em (k = 0) with w0 | w0
    · have hsp := hk_t w0 hsp
      subst w0
      refine hk_caught F9 G h1 h2 h3 [] ⟨0, 9, 12, 24⟩ [] (by rw [htab]; rfl) (fun z hz => absurd hz List.not_mem_nil) (by decide) (by decide) (name := "java/lang/IndexOutOfBoundsException") qw_957 (by decide +kernel) ?_
      refine lv_astore_n (lv' := [(3, .ref q9), (0, .ref (g.1 + a0)), (1, .int x1), (2, .ref (g.1 + a2))]) hx hb dL_capacity_12 rfl hl (by decide) rfl (fun ls hl => ?_)
      refine lv_iconst (v := 1) hx hb dL_capacity_13 (by decide) ?_
      obtain rfl := hk_s hsp
      exact vx_ret (W.widen (k := 1) (n := 6) (Nat.le_of_ble_eq_true rfl) (Nat.le_of_ble_eq_true rfl) (W.iret (v := 1) hx hb hr (fun t ht hW => hk_endN G ht hW) G.2.1.2.2 dL_capacity_14))
    · have hsp := hk_f w0 hsp
      exact nomatch hsp
  · have hm : mX11_capacity E F S a0 x1 = some (.inr x) := by
      cases hm : mX11_capacity E F S a0 x1 with
      | none => rw [hm] at hsp; exact nomatch hsp
      | some v => rw [hm] at ho; exact congrArg some ho
    rw [hm] at hsp
    obtain ⟨qo, hsp⟩ := hk_k hsp
    refine lv_i2l (v := x.1.toInt64) hx hb dL_capacity_7 rfl ?_
    refine hk_last (y := x.1) (j := 0) F9 G rfl hout rfl qo (by decide) dL_capacity_8 (fun H locs G => ?_)
    refine lv_goto (tgt := 15) hx hb dL_capacity_9 (by decide) ?_
    refine lv_iconst (v := 0) hx hb dL_capacity_15 (by decide) ?_
    obtain rfl := hk_s hsp
    exact vx_ret (W.widen (k := 1) (n := 6) (Nat.le_of_ble_eq_true rfl) (Nat.le_of_ble_eq_true rfl) (W.iret (v := 0) hx hb hr (fun t ht hW => hk_endN G ht hW) G.2.1.2.2 dL_capacity_16))
def mL_damage (E : hk_E) (F : Nat) (S : hk_S) (a0 : Nat) (x1 : Int32) (a2 : Nat) : Option (Int32 × hk_S) :=
  match mX11_damage E F S a0 x1 with
  | none => none
  | some (.inl (k, S1)) => if k = 0 then some (1, S1) else (none)
  | some (.inr r) => if hk_ok 0 (E.2.2.1 a2) then (some (0, hk_up r.2 a2 0 r.1)) else none
set_option maxHeartbeats 4000000 in
set_option maxRecDepth 100000 in
theorem kL_damage (l : Launch) (hst : l.stackTraces = false) (g : hk_G) (E : hk_E) (F n : Nat) (S : hk_S) (a0 : Nat) (x1 : Int32) (a2 : Nat) (o : Int32 × hk_S) (h0 : E.2.1 a0 = 9) (hout : E.2.1 a2 = 17) (hsp : mL_damage E F S a0 x1 a2 = some o) : vx_Met l yL_damage (hk_wsW yL_damage cL_damage 4 (Option.some Jvm.ClassFile.FieldType.int) [(0, 9, 12, 24)]) ({ frames := 8, cells := 1, slots := 6, locals := 125 }) (hk_Pc g E S n [.ref (g.1 + a0), .int x1, .ref (g.1 + a2)]) (hk_QN g E o.2 (some (.int o.1))) hk_XF 1 6 (hk_A g) := by
  refine vx_ofWH (cc := cL_damage) (maxL := 4) (ret := (Option.some Jvm.ClassFile.FieldType.int)) (hh := [(0, 9, 12, 24)]) (by decide) rfl ?_
  intro p e s m args below meth c s₁ B hml hv
  obtain ⟨rfl, G⟩ := hk_begin hv
  have htab := vx_table (x := yL_damage) B (atoms_spec (ws := hk_wsW yL_damage cL_damage 4 (Option.some Jvm.ClassFile.FieldType.int) [(0, 9, 12, 24)]) B.pre _ List.mem_cons_self)
  have F9 : CallFix p m c cL_damage 4 s [.ref (g.1 + a0), .int x1, .ref (g.1 + a2)].toArray hk_W RL := ⟨B.exec, B.bytes, hml, findClass_of_methodNamed B.named, fun w h => atoms_spec (ws := hk_wsW yL_damage cL_damage 4 (Option.some Jvm.ClassFile.FieldType.int) [(0, 9, 12, 24)]) B.pre w (hk_inW h)⟩
  have hx := B.exec
  have hb := B.bytes
  have hr := B.returns
  have hlocks := B.notSynchronized
  have hl := lv_entry ([.ref (g.1 + a0), .int x1, .ref (g.1 + a2)]) (n := 4) (Nat.le_of_ble_eq_true rfl)
  rw [lg_entry_eq]
  generalize (lg_sl ([.ref (g.1 + a0), .int x1, .ref (g.1 + a2)]) ++ List.replicate (4 - (lg_sl ([.ref (g.1 + a0), .int x1, .ref (g.1 + a2)])).length) Slot.unset).toArray = ls at hl ⊢
  have hl : lv_has ls 4 [(0, .ref (g.1 + a0)), (1, .int x1), (2, .ref (g.1 + a2))] := hl
  unfold mL_damage at hsp
  have G : hk_GG g E S n s s.heap [] := G
  refine lv_aload_n hx hb dL_damage_0 rfl (lv_at hl 2 rfl) ?_
  refine lv_iconst (v := 0) hx hb dL_damage_1 (by decide) ?_
  refine lv_aload_n hx hb dL_damage_2 rfl (lv_at hl 0 rfl) ?_
  refine lv_iload_n hx hb dL_damage_3 rfl (lv_at hl 1 rfl) ?_
  refine hk_xV (As := [.int x1]) (rest := [.int 0, .ref (g.1 + a2)]) F9 G h0 hkc_8 rfl (kX11_damage l hst g E F n S a0 x1 ((mX11_damage E F S a0 x1).getD (.inl (0, S))) h0 ?_) qv_RL_100 ⟨rfl, rfl, (Nat.le_of_ble_eq_true rfl), (Nat.le_of_ble_eq_true rfl)⟩ rfl hl.1 rfl (Nat.le_of_ble_eq_true rfl) ⟨(Nat.le_of_ble_eq_true rfl), (Nat.le_of_ble_eq_true rfl)⟩ dL_damage_4 (fun k S2 ho ce q9 n1 H locs G h1 h2 h3 => ?_) (fun x ho H locs G => ?_)
  · cases hm : mX11_damage E F S a0 x1 with
    | none => rw [hm] at hsp; exact nomatch hsp
    | some v => rfl
  · have hm : mX11_damage E F S a0 x1 = some (.inl (k, S2)) := by
      cases hm : mX11_damage E F S a0 x1 with
      | none => rw [hm] at hsp; exact nomatch hsp
      | some v => rw [hm] at ho; exact congrArg some ho
    rw [hm] at hsp
    rcases Classical.em (k = 0) with w0 | w0
    · have hsp := hk_t w0 hsp
      subst w0
      refine hk_caught F9 G h1 h2 h3 [] ⟨0, 9, 12, 24⟩ [] (by rw [htab]; rfl) (fun z hz => absurd hz List.not_mem_nil) (by decide) (by decide) (name := "java/lang/IndexOutOfBoundsException") qw_957 (by decide +kernel) ?_
      refine lv_astore_n (lv' := [(3, .ref q9), (0, .ref (g.1 + a0)), (1, .int x1), (2, .ref (g.1 + a2))]) hx hb dL_damage_12 rfl hl (by decide) rfl (fun ls hl => ?_)
      refine lv_iconst (v := 1) hx hb dL_damage_13 (by decide) ?_
      obtain rfl := hk_s hsp
      exact vx_ret (W.widen (k := 1) (n := 6) (Nat.le_of_ble_eq_true rfl) (Nat.le_of_ble_eq_true rfl) (W.iret (v := 1) hx hb hr (fun t ht hW => hk_endN G ht hW) G.2.1.2.2 dL_damage_14))
    · have hsp := hk_f w0 hsp
      exact nomatch hsp
  · have hm : mX11_damage E F S a0 x1 = some (.inr x) := by
      cases hm : mX11_damage E F S a0 x1 with
      | none => rw [hm] at hsp; exact nomatch hsp
      | some v => rw [hm] at ho; exact congrArg some ho
    rw [hm] at hsp
    obtain ⟨qo, hsp⟩ := hk_k hsp
    refine lv_i2l (v := x.1.toInt64) hx hb dL_damage_7 rfl ?_
    refine hk_last (y := x.1) (j := 0) F9 G rfl hout rfl qo (by decide) dL_damage_8 (fun H locs G => ?_)
    refine lv_goto (tgt := 15) hx hb dL_damage_9 (by decide) ?_
    refine lv_iconst (v := 0) hx hb dL_damage_15 (by decide) ?_
    obtain rfl := hk_s hsp
    exact vx_ret (W.widen (k := 1) (n := 6) (Nat.le_of_ble_eq_true rfl) (Nat.le_of_ble_eq_true rfl) (W.iret (v := 0) hx hb hr (fun t ht hW => hk_endN G ht hW) G.2.1.2.2 dL_damage_16))
def mL_discard (E : hk_E) (F : Nat) (S : hk_S) (a0 : Nat) (x1 : Int32) (a2 : Nat) : Option (Int32 × hk_S) :=
  match mX11_discard E F S a0 x1 with
  | none => none
  | some (.inl (k, S1)) => if k = 0 then some (1, S1) else (if k = 2 then some (2, S1) else (none))
  | some (.inr r) => if hk_ok 0 (E.2.2.1 a2) then (some (0, hk_up r.2 a2 0 r.1)) else none
set_option maxHeartbeats 4000000 in
set_option maxRecDepth 100000 in
theorem kL_discard (l : Launch) (hst : l.stackTraces = false) (g : hk_G) (E : hk_E) (F n : Nat) (S : hk_S) (a0 : Nat) (x1 : Int32) (a2 : Nat) (o : Int32 × hk_S) (h0 : E.2.1 a0 = 9) (hout : E.2.1 a2 = 17) (hsp : mL_discard E F S a0 x1 a2 = some o) : vx_Met l yL_discard (hk_wsW yL_discard cL_discard 4 (Option.some Jvm.ClassFile.FieldType.int) [(0, 9, 12, 24), (0, 9, 15, 18)]) ({ frames := 8, cells := 2, slots := 12, locals := 125 }) (hk_Pc g E S n [.ref (g.1 + a0), .int x1, .ref (g.1 + a2)]) (hk_QN g E o.2 (some (.int o.1))) hk_XF 2 12 (hk_A g) := by
  refine vx_ofWH (cc := cL_discard) (maxL := 4) (ret := (Option.some Jvm.ClassFile.FieldType.int)) (hh := [(0, 9, 12, 24), (0, 9, 15, 18)]) (by decide) rfl ?_
  intro p e s m args below meth c s₁ B hml hv
  obtain ⟨rfl, G⟩ := hk_begin hv
  have htab := vx_table (x := yL_discard) B (atoms_spec (ws := hk_wsW yL_discard cL_discard 4 (Option.some Jvm.ClassFile.FieldType.int) [(0, 9, 12, 24), (0, 9, 15, 18)]) B.pre _ List.mem_cons_self)
  have F9 : CallFix p m c cL_discard 4 s [.ref (g.1 + a0), .int x1, .ref (g.1 + a2)].toArray hk_W RL := ⟨B.exec, B.bytes, hml, findClass_of_methodNamed B.named, fun w h => atoms_spec (ws := hk_wsW yL_discard cL_discard 4 (Option.some Jvm.ClassFile.FieldType.int) [(0, 9, 12, 24), (0, 9, 15, 18)]) B.pre w (hk_inW h)⟩
  have hx := B.exec
  have hb := B.bytes
  have hr := B.returns
  have hlocks := B.notSynchronized
  have hl := lv_entry ([.ref (g.1 + a0), .int x1, .ref (g.1 + a2)]) (n := 4) (Nat.le_of_ble_eq_true rfl)
  rw [lg_entry_eq]
  generalize (lg_sl ([.ref (g.1 + a0), .int x1, .ref (g.1 + a2)]) ++ List.replicate (4 - (lg_sl ([.ref (g.1 + a0), .int x1, .ref (g.1 + a2)])).length) Slot.unset).toArray = ls at hl ⊢
  have hl : lv_has ls 4 [(0, .ref (g.1 + a0)), (1, .int x1), (2, .ref (g.1 + a2))] := hl
  unfold mL_discard at hsp
  have G : hk_GG g E S n s s.heap [] := G
  refine lv_aload_n hx hb dL_discard_0 rfl (lv_at hl 2 rfl) ?_
  refine lv_iconst (v := 0) hx hb dL_discard_1 (by decide) ?_
  refine lv_aload_n hx hb dL_discard_2 rfl (lv_at hl 0 rfl) ?_
  refine lv_iload_n hx hb dL_discard_3 rfl (lv_at hl 1 rfl) ?_
  refine hk_xV (As := [.int x1]) (rest := [.int 0, .ref (g.1 + a2)]) F9 G h0 hkc_8 rfl (kX11_discard l hst g E F n S a0 x1 ((mX11_discard E F S a0 x1).getD (.inl (0, S))) h0 ?_) qv_RL_52 ⟨rfl, rfl, (Nat.le_of_ble_eq_true rfl), (Nat.le_of_ble_eq_true rfl)⟩ rfl hl.1 rfl (Nat.le_of_ble_eq_true rfl) ⟨(Nat.le_of_ble_eq_true rfl), (Nat.le_of_ble_eq_true rfl)⟩ dL_discard_4 (fun k S2 ho ce q9 n1 H locs G h1 h2 h3 => ?_) (fun x ho H locs G => ?_)
  · cases hm : mX11_discard E F S a0 x1 with
    | none => rw [hm] at hsp; exact nomatch hsp
    | some v => rfl
  · have hm : mX11_discard E F S a0 x1 = some (.inl (k, S2)) := by
      cases hm : mX11_discard E F S a0 x1 with
      | none => rw [hm] at hsp; exact nomatch hsp
      | some v => rw [hm] at ho; exact congrArg some ho
    rw [hm] at hsp
    rcases Classical.em (k = 0) with w0 | w0
    · have hsp := hk_t w0 hsp
      subst w0
      refine hk_caught F9 G h1 h2 h3 [] ⟨0, 9, 12, 24⟩ [⟨0, 9, 15, 18⟩] (by rw [htab]; rfl) (fun z hz => absurd hz List.not_mem_nil) (by decide) (by decide) (name := "java/lang/IndexOutOfBoundsException") qw_957 (by decide +kernel) ?_
      refine lv_astore_n (lv' := [(3, .ref q9), (0, .ref (g.1 + a0)), (1, .int x1), (2, .ref (g.1 + a2))]) hx hb dL_discard_12 rfl hl (by decide) rfl (fun ls hl => ?_)
      refine lv_iconst (v := 1) hx hb dL_discard_13 (by decide) ?_
      obtain rfl := hk_s hsp
      exact vx_ret (W.widen (k := 2) (n := 12) (Nat.le_of_ble_eq_true rfl) (Nat.le_of_ble_eq_true rfl) (W.iret (v := 1) hx hb hr (fun t ht hW => hk_endN G ht hW) G.2.1.2.2 dL_discard_14))
    · have hsp := hk_f w0 hsp
      rcases Classical.em (k = 2) with w1 | w1
      · have hsp := hk_t w1 hsp
        subst w1
        refine hk_caught F9 G h1 h2 h3 [⟨0, 9, 12, 24⟩] ⟨0, 9, 15, 18⟩ [] (by rw [htab]; rfl) (List.forall_mem_cons.mpr ⟨Or.inr ⟨by decide, "java/lang/IndexOutOfBoundsException", qw_957, by decide +kernel⟩, fun z hz => absurd hz List.not_mem_nil⟩) (by decide) (by decide) (name := "java/lang/IllegalStateException") qw_929 (by decide +kernel) ?_
        refine lv_astore_n (lv' := [(3, .ref q9), (0, .ref (g.1 + a0)), (1, .int x1), (2, .ref (g.1 + a2))]) hx hb dL_discard_15 rfl hl (by decide) rfl (fun ls hl => ?_)
        refine lv_iconst (v := 2) hx hb dL_discard_16 (by decide) ?_
        obtain rfl := hk_s hsp
        exact vx_ret (W.widen (k := 2) (n := 12) (Nat.le_of_ble_eq_true rfl) (Nat.le_of_ble_eq_true rfl) (W.iret (v := 2) hx hb hr (fun t ht hW => hk_endN G ht hW) G.2.1.2.2 dL_discard_17))
      · have hsp := hk_f w1 hsp
        exact nomatch hsp
  · have hm : mX11_discard E F S a0 x1 = some (.inr x) := by
      cases hm : mX11_discard E F S a0 x1 with
      | none => rw [hm] at hsp; exact nomatch hsp
      | some v => rw [hm] at ho; exact congrArg some ho
    rw [hm] at hsp
    obtain ⟨qo, hsp⟩ := hk_k hsp
    refine lv_i2l (v := x.1.toInt64) hx hb dL_discard_7 rfl ?_
    refine hk_last (y := x.1) (j := 0) F9 G rfl hout rfl qo (by decide) dL_discard_8 (fun H locs G => ?_)
    refine lv_goto (tgt := 18) hx hb dL_discard_9 (by decide) ?_
    refine lv_iconst (v := 0) hx hb dL_discard_18 (by decide) ?_
    obtain rfl := hk_s hsp
    exact vx_ret (W.widen (k := 2) (n := 12) (Nat.le_of_ble_eq_true rfl) (Nat.le_of_ble_eq_true rfl) (W.iret (v := 0) hx hb hr (fun t ht hW => hk_endN G ht hW) G.2.1.2.2 dL_discard_19))
def mL_discharge (E : hk_E) (F : Nat) (S : hk_S) (a0 : Nat) (x1 : Int32) (a2 : Nat) : Option (Int32 × hk_S) :=
  match mX11_discharge E F S a0 x1 with
  | none => none
  | some (.inl (k, S1)) => if k = 0 then some (1, S1) else (if k = 2 then some (2, S1) else (none))
  | some (.inr r) => if hk_ok 0 (E.2.2.1 a2) then (some (0, hk_up r.2 a2 0 r.1)) else none
set_option maxHeartbeats 4000000 in
set_option maxRecDepth 100000 in
theorem kL_discharge (l : Launch) (hst : l.stackTraces = false) (g : hk_G) (E : hk_E) (F n : Nat) (S : hk_S) (a0 : Nat) (x1 : Int32) (a2 : Nat) (o : Int32 × hk_S) (h0 : E.2.1 a0 = 9) (hout : E.2.1 a2 = 17) (hsp : mL_discharge E F S a0 x1 a2 = some o) : vx_Met l yL_discharge (hk_wsW yL_discharge cL_discharge 4 (Option.some Jvm.ClassFile.FieldType.int) [(0, 9, 12, 24), (0, 9, 15, 18)]) ({ frames := 8, cells := 2, slots := 12, locals := 125 }) (hk_Pc g E S n [.ref (g.1 + a0), .int x1, .ref (g.1 + a2)]) (hk_QN g E o.2 (some (.int o.1))) hk_XF 2 12 (hk_A g) := by
  refine vx_ofWH (cc := cL_discharge) (maxL := 4) (ret := (Option.some Jvm.ClassFile.FieldType.int)) (hh := [(0, 9, 12, 24), (0, 9, 15, 18)]) (by decide) rfl ?_
  intro p e s m args below meth c s₁ B hml hv
  obtain ⟨rfl, G⟩ := hk_begin hv
  have htab := vx_table (x := yL_discharge) B (atoms_spec (ws := hk_wsW yL_discharge cL_discharge 4 (Option.some Jvm.ClassFile.FieldType.int) [(0, 9, 12, 24), (0, 9, 15, 18)]) B.pre _ List.mem_cons_self)
  have F9 : CallFix p m c cL_discharge 4 s [.ref (g.1 + a0), .int x1, .ref (g.1 + a2)].toArray hk_W RL := ⟨B.exec, B.bytes, hml, findClass_of_methodNamed B.named, fun w h => atoms_spec (ws := hk_wsW yL_discharge cL_discharge 4 (Option.some Jvm.ClassFile.FieldType.int) [(0, 9, 12, 24), (0, 9, 15, 18)]) B.pre w (hk_inW h)⟩
  have hx := B.exec
  have hb := B.bytes
  have hr := B.returns
  have hlocks := B.notSynchronized
  have hl := lv_entry ([.ref (g.1 + a0), .int x1, .ref (g.1 + a2)]) (n := 4) (Nat.le_of_ble_eq_true rfl)
  rw [lg_entry_eq]
  generalize (lg_sl ([.ref (g.1 + a0), .int x1, .ref (g.1 + a2)]) ++ List.replicate (4 - (lg_sl ([.ref (g.1 + a0), .int x1, .ref (g.1 + a2)])).length) Slot.unset).toArray = ls at hl ⊢
  have hl : lv_has ls 4 [(0, .ref (g.1 + a0)), (1, .int x1), (2, .ref (g.1 + a2))] := hl
  unfold mL_discharge at hsp
  have G : hk_GG g E S n s s.heap [] := G
  refine lv_aload_n hx hb dL_discharge_0 rfl (lv_at hl 2 rfl) ?_
  refine lv_iconst (v := 0) hx hb dL_discharge_1 (by decide) ?_
  refine lv_aload_n hx hb dL_discharge_2 rfl (lv_at hl 0 rfl) ?_
  refine lv_iload_n hx hb dL_discharge_3 rfl (lv_at hl 1 rfl) ?_
  refine hk_xV (As := [.int x1]) (rest := [.int 0, .ref (g.1 + a2)]) F9 G h0 hkc_8 rfl (kX11_discharge l hst g E F n S a0 x1 ((mX11_discharge E F S a0 x1).getD (.inl (0, S))) h0 ?_) qv_RL_49 ⟨rfl, rfl, (Nat.le_of_ble_eq_true rfl), (Nat.le_of_ble_eq_true rfl)⟩ rfl hl.1 rfl (Nat.le_of_ble_eq_true rfl) ⟨(Nat.le_of_ble_eq_true rfl), (Nat.le_of_ble_eq_true rfl)⟩ dL_discharge_4 (fun k S2 ho ce q9 n1 H locs G h1 h2 h3 => ?_) (fun x ho H locs G => ?_)
  · cases hm : mX11_discharge E F S a0 x1 with
    | none => rw [hm] at hsp; exact nomatch hsp
    | some v => rfl
  · have hm : mX11_discharge E F S a0 x1 = some (.inl (k, S2)) := by
      cases hm : mX11_discharge E F S a0 x1 with
      | none => rw [hm] at hsp; exact nomatch hsp
      | some v => rw [hm] at ho; exact congrArg some ho
    rw [hm] at hsp
    rcases Classical.em (k = 0) with w0 | w0
    · have hsp := hk_t w0 hsp
      subst w0
      refine hk_caught F9 G h1 h2 h3 [] ⟨0, 9, 12, 24⟩ [⟨0, 9, 15, 18⟩] (by rw [htab]; rfl) (fun z hz => absurd hz List.not_mem_nil) (by decide) (by decide) (name := "java/lang/IndexOutOfBoundsException") qw_957 (by decide +kernel) ?_
      refine lv_astore_n (lv' := [(3, .ref q9), (0, .ref (g.1 + a0)), (1, .int x1), (2, .ref (g.1 + a2))]) hx hb dL_discharge_12 rfl hl (by decide) rfl (fun ls hl => ?_)
      refine lv_iconst (v := 1) hx hb dL_discharge_13 (by decide) ?_
      obtain rfl := hk_s hsp
      exact vx_ret (W.widen (k := 2) (n := 12) (Nat.le_of_ble_eq_true rfl) (Nat.le_of_ble_eq_true rfl) (W.iret (v := 1) hx hb hr (fun t ht hW => hk_endN G ht hW) G.2.1.2.2 dL_discharge_14))
    · have hsp := hk_f w0 hsp
      rcases Classical.em (k = 2) with w1 | w1
      · have hsp := hk_t w1 hsp
        subst w1
        refine hk_caught F9 G h1 h2 h3 [⟨0, 9, 12, 24⟩] ⟨0, 9, 15, 18⟩ [] (by rw [htab]; rfl) (List.forall_mem_cons.mpr ⟨Or.inr ⟨by decide, "java/lang/IndexOutOfBoundsException", qw_957, by decide +kernel⟩, fun z hz => absurd hz List.not_mem_nil⟩) (by decide) (by decide) (name := "java/lang/IllegalStateException") qw_929 (by decide +kernel) ?_
        refine lv_astore_n (lv' := [(3, .ref q9), (0, .ref (g.1 + a0)), (1, .int x1), (2, .ref (g.1 + a2))]) hx hb dL_discharge_15 rfl hl (by decide) rfl (fun ls hl => ?_)
        refine lv_iconst (v := 2) hx hb dL_discharge_16 (by decide) ?_
        obtain rfl := hk_s hsp
        exact vx_ret (W.widen (k := 2) (n := 12) (Nat.le_of_ble_eq_true rfl) (Nat.le_of_ble_eq_true rfl) (W.iret (v := 2) hx hb hr (fun t ht hW => hk_endN G ht hW) G.2.1.2.2 dL_discharge_17))
      · have hsp := hk_f w1 hsp
        exact nomatch hsp
  · have hm : mX11_discharge E F S a0 x1 = some (.inr x) := by
      cases hm : mX11_discharge E F S a0 x1 with
      | none => rw [hm] at hsp; exact nomatch hsp
      | some v => rw [hm] at ho; exact congrArg some ho
    rw [hm] at hsp
    obtain ⟨qo, hsp⟩ := hk_k hsp
    refine lv_i2l (v := x.1.toInt64) hx hb dL_discharge_7 rfl ?_
    refine hk_last (y := x.1) (j := 0) F9 G rfl hout rfl qo (by decide) dL_discharge_8 (fun H locs G => ?_)
    refine lv_goto (tgt := 18) hx hb dL_discharge_9 (by decide) ?_
    refine lv_iconst (v := 0) hx hb dL_discharge_18 (by decide) ?_
    obtain rfl := hk_s hsp
    exact vx_ret (W.widen (k := 2) (n := 12) (Nat.le_of_ble_eq_true rfl) (Nat.le_of_ble_eq_true rfl) (W.iret (v := 0) hx hb hr (fun t ht hW => hk_endN G ht hW) G.2.1.2.2 dL_discharge_19))
def mL_fill (E : hk_E) (F : Nat) (S : hk_S) (a0 : Nat) (x1 : Int32) (a2 : Nat) : Option (Int32 × hk_S) :=
  match mX11_fill E F S a0 x1 with
  | none => none
  | some (.inl (k, S1)) => if k = 0 then some (1, S1) else (none)
  | some (.inr r) => if hk_ok 0 (E.2.2.1 a2) then (some (0, hk_up r.2 a2 0 r.1)) else none
set_option maxHeartbeats 4000000 in
set_option maxRecDepth 100000 in
theorem kL_fill (l : Launch) (hst : l.stackTraces = false) (g : hk_G) (E : hk_E) (F n : Nat) (S : hk_S) (a0 : Nat) (x1 : Int32) (a2 : Nat) (o : Int32 × hk_S) (h0 : E.2.1 a0 = 9) (hout : E.2.1 a2 = 17) (hsp : mL_fill E F S a0 x1 a2 = some o) : vx_Met l yL_fill (hk_wsW yL_fill cL_fill 4 (Option.some Jvm.ClassFile.FieldType.int) [(0, 9, 12, 24)]) ({ frames := 8, cells := 1, slots := 6, locals := 124 }) (hk_Pc g E S n [.ref (g.1 + a0), .int x1, .ref (g.1 + a2)]) (hk_QN g E o.2 (some (.int o.1))) hk_XF 1 6 (hk_A g) := by
  refine vx_ofWH (cc := cL_fill) (maxL := 4) (ret := (Option.some Jvm.ClassFile.FieldType.int)) (hh := [(0, 9, 12, 24)]) (by decide) rfl ?_
  intro p e s m args below meth c s₁ B hml hv
  obtain ⟨rfl, G⟩ := hk_begin hv
  have htab := vx_table (x := yL_fill) B (atoms_spec (ws := hk_wsW yL_fill cL_fill 4 (Option.some Jvm.ClassFile.FieldType.int) [(0, 9, 12, 24)]) B.pre _ List.mem_cons_self)
  have F9 : CallFix p m c cL_fill 4 s [.ref (g.1 + a0), .int x1, .ref (g.1 + a2)].toArray hk_W RL := ⟨B.exec, B.bytes, hml, findClass_of_methodNamed B.named, fun w h => atoms_spec (ws := hk_wsW yL_fill cL_fill 4 (Option.some Jvm.ClassFile.FieldType.int) [(0, 9, 12, 24)]) B.pre w (hk_inW h)⟩
  have hx := B.exec
  have hb := B.bytes
  have hr := B.returns
  have hlocks := B.notSynchronized
  have hl := lv_entry ([.ref (g.1 + a0), .int x1, .ref (g.1 + a2)]) (n := 4) (Nat.le_of_ble_eq_true rfl)
  rw [lg_entry_eq]
  generalize (lg_sl ([.ref (g.1 + a0), .int x1, .ref (g.1 + a2)]) ++ List.replicate (4 - (lg_sl ([.ref (g.1 + a0), .int x1, .ref (g.1 + a2)])).length) Slot.unset).toArray = ls at hl ⊢
  have hl : lv_has ls 4 [(0, .ref (g.1 + a0)), (1, .int x1), (2, .ref (g.1 + a2))] := hl
  unfold mL_fill at hsp
  have G : hk_GG g E S n s s.heap [] := G
  refine lv_aload_n hx hb dL_fill_0 rfl (lv_at hl 2 rfl) ?_
  refine lv_iconst (v := 0) hx hb dL_fill_1 (by decide) ?_
  refine lv_aload_n hx hb dL_fill_2 rfl (lv_at hl 0 rfl) ?_
  refine lv_iload_n hx hb dL_fill_3 rfl (lv_at hl 1 rfl) ?_
  refine hk_xV (As := [.int x1]) (rest := [.int 0, .ref (g.1 + a2)]) F9 G h0 hkc_8 rfl (kX11_fill l hst g E F n S a0 x1 ((mX11_fill E F S a0 x1).getD (.inl (0, S))) h0 ?_) qv_RL_82 ⟨rfl, rfl, (Nat.le_of_ble_eq_true rfl), (Nat.le_of_ble_eq_true rfl)⟩ rfl hl.1 rfl (Nat.le_of_ble_eq_true rfl) ⟨(Nat.le_of_ble_eq_true rfl), (Nat.le_of_ble_eq_true rfl)⟩ dL_fill_4 (fun k S2 ho ce q9 n1 H locs G h1 h2 h3 => ?_) (fun x ho H locs G => ?_)
  · cases hm : mX11_fill E F S a0 x1 with
    | none => rw [hm] at hsp; exact nomatch hsp
    | some v => rfl
  · have hm : mX11_fill E F S a0 x1 = some (.inl (k, S2)) := by
      cases hm : mX11_fill E F S a0 x1 with
      | none => rw [hm] at hsp; exact nomatch hsp
      | some v => rw [hm] at ho; exact congrArg some ho
    rw [hm] at hsp
    rcases Classical.em (k = 0) with w0 | w0
    · have hsp := hk_t w0 hsp
      subst w0
      refine hk_caught F9 G h1 h2 h3 [] ⟨0, 9, 12, 24⟩ [] (by rw [htab]; rfl) (fun z hz => absurd hz List.not_mem_nil) (by decide) (by decide) (name := "java/lang/IndexOutOfBoundsException") qw_957 (by decide +kernel) ?_
      refine lv_astore_n (lv' := [(3, .ref q9), (0, .ref (g.1 + a0)), (1, .int x1), (2, .ref (g.1 + a2))]) hx hb dL_fill_12 rfl hl (by decide) rfl (fun ls hl => ?_)
      refine lv_iconst (v := 1) hx hb dL_fill_13 (by decide) ?_
      obtain rfl := hk_s hsp
      exact vx_ret (W.widen (k := 1) (n := 6) (Nat.le_of_ble_eq_true rfl) (Nat.le_of_ble_eq_true rfl) (W.iret (v := 1) hx hb hr (fun t ht hW => hk_endN G ht hW) G.2.1.2.2 dL_fill_14))
    · have hsp := hk_f w0 hsp
      exact nomatch hsp
  · have hm : mX11_fill E F S a0 x1 = some (.inr x) := by
      cases hm : mX11_fill E F S a0 x1 with
      | none => rw [hm] at hsp; exact nomatch hsp
      | some v => rw [hm] at ho; exact congrArg some ho
    rw [hm] at hsp
    obtain ⟨qo, hsp⟩ := hk_k hsp
    refine lv_i2l (v := x.1.toInt64) hx hb dL_fill_7 rfl ?_
    refine hk_last (y := x.1) (j := 0) F9 G rfl hout rfl qo (by decide) dL_fill_8 (fun H locs G => ?_)
    refine lv_goto (tgt := 15) hx hb dL_fill_9 (by decide) ?_
    refine lv_iconst (v := 0) hx hb dL_fill_15 (by decide) ?_
    obtain rfl := hk_s hsp
    exact vx_ret (W.widen (k := 1) (n := 6) (Nat.le_of_ble_eq_true rfl) (Nat.le_of_ble_eq_true rfl) (W.iret (v := 0) hx hb hr (fun t ht hW => hk_endN G ht hW) G.2.1.2.2 dL_fill_16))
def mL_hoursToDamage (E : hk_E) (F : Nat) (S : hk_S) (a0 : Nat) (x1 : Int32) (a2 : Nat) : Option (Int32 × hk_S) :=
  match mX11_hoursToDamage E F S a0 x1 with
  | none => none
  | some (.inl (k, S1)) => if k = 0 then some (1, S1) else (none)
  | some (.inr r) => if hk_ok 0 (E.2.2.1 a2) then (some (0, hk_up r.2 a2 0 r.1)) else none
set_option maxHeartbeats 4000000 in
set_option maxRecDepth 100000 in
theorem kL_hoursToDamage (l : Launch) (hst : l.stackTraces = false) (g : hk_G) (E : hk_E) (F n : Nat) (S : hk_S) (a0 : Nat) (x1 : Int32) (a2 : Nat) (o : Int32 × hk_S) (h0 : E.2.1 a0 = 9) (hout : E.2.1 a2 = 17) (hsp : mL_hoursToDamage E F S a0 x1 a2 = some o) : vx_Met l yL_hoursToDamage (hk_wsW yL_hoursToDamage cL_hoursToDamage 4 (Option.some Jvm.ClassFile.FieldType.int) [(0, 9, 12, 24)]) ({ frames := 8, cells := 1, slots := 6, locals := 126 }) (hk_Pc g E S n [.ref (g.1 + a0), .int x1, .ref (g.1 + a2)]) (hk_QN g E o.2 (some (.int o.1))) hk_XF 1 6 (hk_A g) := by
  refine vx_ofWH (cc := cL_hoursToDamage) (maxL := 4) (ret := (Option.some Jvm.ClassFile.FieldType.int)) (hh := [(0, 9, 12, 24)]) (by decide) rfl ?_
  intro p e s m args below meth c s₁ B hml hv
  obtain ⟨rfl, G⟩ := hk_begin hv
  have htab := vx_table (x := yL_hoursToDamage) B (atoms_spec (ws := hk_wsW yL_hoursToDamage cL_hoursToDamage 4 (Option.some Jvm.ClassFile.FieldType.int) [(0, 9, 12, 24)]) B.pre _ List.mem_cons_self)
  have F9 : CallFix p m c cL_hoursToDamage 4 s [.ref (g.1 + a0), .int x1, .ref (g.1 + a2)].toArray hk_W RL := ⟨B.exec, B.bytes, hml, findClass_of_methodNamed B.named, fun w h => atoms_spec (ws := hk_wsW yL_hoursToDamage cL_hoursToDamage 4 (Option.some Jvm.ClassFile.FieldType.int) [(0, 9, 12, 24)]) B.pre w (hk_inW h)⟩
  have hx := B.exec
  have hb := B.bytes
  have hr := B.returns
  have hlocks := B.notSynchronized
  have hl := lv_entry ([.ref (g.1 + a0), .int x1, .ref (g.1 + a2)]) (n := 4) (Nat.le_of_ble_eq_true rfl)
  rw [lg_entry_eq]
  generalize (lg_sl ([.ref (g.1 + a0), .int x1, .ref (g.1 + a2)]) ++ List.replicate (4 - (lg_sl ([.ref (g.1 + a0), .int x1, .ref (g.1 + a2)])).length) Slot.unset).toArray = ls at hl ⊢
  have hl : lv_has ls 4 [(0, .ref (g.1 + a0)), (1, .int x1), (2, .ref (g.1 + a2))] := hl
  unfold mL_hoursToDamage at hsp
  have G : hk_GG g E S n s s.heap [] := G
  refine lv_aload_n hx hb dL_hoursToDamage_0 rfl (lv_at hl 2 rfl) ?_
  refine lv_iconst (v := 0) hx hb dL_hoursToDamage_1 (by decide) ?_
  refine lv_aload_n hx hb dL_hoursToDamage_2 rfl (lv_at hl 0 rfl) ?_
  refine lv_iload_n hx hb dL_hoursToDamage_3 rfl (lv_at hl 1 rfl) ?_
  refine hk_xV (As := [.int x1]) (rest := [.int 0, .ref (g.1 + a2)]) F9 G h0 hkc_8 rfl (kX11_hoursToDamage l hst g E F n S a0 x1 ((mX11_hoursToDamage E F S a0 x1).getD (.inl (0, S))) h0 ?_) qv_RL_133 ⟨rfl, rfl, (Nat.le_of_ble_eq_true rfl), (Nat.le_of_ble_eq_true rfl)⟩ rfl hl.1 rfl (Nat.le_of_ble_eq_true rfl) ⟨(Nat.le_of_ble_eq_true rfl), (Nat.le_of_ble_eq_true rfl)⟩ dL_hoursToDamage_4 (fun k S2 ho ce q9 n1 H locs G h1 h2 h3 => ?_) (fun x ho H locs G => ?_)
  · cases hm : mX11_hoursToDamage E F S a0 x1 with
    | none => rw [hm] at hsp; exact nomatch hsp
    | some v => rfl
  · have hm : mX11_hoursToDamage E F S a0 x1 = some (.inl (k, S2)) := by
      cases hm : mX11_hoursToDamage E F S a0 x1 with
      | none => rw [hm] at hsp; exact nomatch hsp
      | some v => rw [hm] at ho; exact congrArg some ho
    rw [hm] at hsp
    rcases Classical.em (k = 0) with w0 | w0
    · have hsp := hk_t w0 hsp
      subst w0
      refine hk_caught F9 G h1 h2 h3 [] ⟨0, 9, 12, 24⟩ [] (by rw [htab]; rfl) (fun z hz => absurd hz List.not_mem_nil) (by decide) (by decide) (name := "java/lang/IndexOutOfBoundsException") qw_957 (by decide +kernel) ?_
      refine lv_astore_n (lv' := [(3, .ref q9), (0, .ref (g.1 + a0)), (1, .int x1), (2, .ref (g.1 + a2))]) hx hb dL_hoursToDamage_12 rfl hl (by decide) rfl (fun ls hl => ?_)
      refine lv_iconst (v := 1) hx hb dL_hoursToDamage_13 (by decide) ?_
      obtain rfl := hk_s hsp
      exact vx_ret (W.widen (k := 1) (n := 6) (Nat.le_of_ble_eq_true rfl) (Nat.le_of_ble_eq_true rfl) (W.iret (v := 1) hx hb hr (fun t ht hW => hk_endN G ht hW) G.2.1.2.2 dL_hoursToDamage_14))
    · have hsp := hk_f w0 hsp
      exact nomatch hsp
  · have hm : mX11_hoursToDamage E F S a0 x1 = some (.inr x) := by
      cases hm : mX11_hoursToDamage E F S a0 x1 with
      | none => rw [hm] at hsp; exact nomatch hsp
      | some v => rw [hm] at ho; exact congrArg some ho
    rw [hm] at hsp
    obtain ⟨qo, hsp⟩ := hk_k hsp
    refine lv_i2l (v := x.1.toInt64) hx hb dL_hoursToDamage_7 rfl ?_
    refine hk_last (y := x.1) (j := 0) F9 G rfl hout rfl qo (by decide) dL_hoursToDamage_8 (fun H locs G => ?_)
    refine lv_goto (tgt := 15) hx hb dL_hoursToDamage_9 (by decide) ?_
    refine lv_iconst (v := 0) hx hb dL_hoursToDamage_15 (by decide) ?_
    obtain rfl := hk_s hsp
    exact vx_ret (W.widen (k := 1) (n := 6) (Nat.le_of_ble_eq_true rfl) (Nat.le_of_ble_eq_true rfl) (W.iret (v := 0) hx hb hr (fun t ht hW => hk_endN G ht hW) G.2.1.2.2 dL_hoursToDamage_16))
def mL_hoursToReady (E : hk_E) (F : Nat) (S : hk_S) (a0 : Nat) (x1 : Int32) (a2 : Nat) : Option (Int32 × hk_S) :=
  match mX11_hoursToReady E F S a0 x1 with
  | none => none
  | some (.inl (k, S1)) => if k = 0 then some (1, S1) else (none)
  | some (.inr r) => if hk_ok 0 (E.2.2.1 a2) then (some (0, hk_up r.2 a2 0 r.1)) else none
set_option maxHeartbeats 4000000 in
set_option maxRecDepth 100000 in
theorem kL_hoursToReady (l : Launch) (hst : l.stackTraces = false) (g : hk_G) (E : hk_E) (F n : Nat) (S : hk_S) (a0 : Nat) (x1 : Int32) (a2 : Nat) (o : Int32 × hk_S) (h0 : E.2.1 a0 = 9) (hout : E.2.1 a2 = 17) (hsp : mL_hoursToReady E F S a0 x1 a2 = some o) : vx_Met l yL_hoursToReady (hk_wsW yL_hoursToReady cL_hoursToReady 4 (Option.some Jvm.ClassFile.FieldType.int) [(0, 9, 12, 24)]) ({ frames := 8, cells := 1, slots := 6, locals := 126 }) (hk_Pc g E S n [.ref (g.1 + a0), .int x1, .ref (g.1 + a2)]) (hk_QN g E o.2 (some (.int o.1))) hk_XF 1 6 (hk_A g) := by
  refine vx_ofWH (cc := cL_hoursToReady) (maxL := 4) (ret := (Option.some Jvm.ClassFile.FieldType.int)) (hh := [(0, 9, 12, 24)]) (by decide) rfl ?_
  intro p e s m args below meth c s₁ B hml hv
  obtain ⟨rfl, G⟩ := hk_begin hv
  have htab := vx_table (x := yL_hoursToReady) B (atoms_spec (ws := hk_wsW yL_hoursToReady cL_hoursToReady 4 (Option.some Jvm.ClassFile.FieldType.int) [(0, 9, 12, 24)]) B.pre _ List.mem_cons_self)
  have F9 : CallFix p m c cL_hoursToReady 4 s [.ref (g.1 + a0), .int x1, .ref (g.1 + a2)].toArray hk_W RL := ⟨B.exec, B.bytes, hml, findClass_of_methodNamed B.named, fun w h => atoms_spec (ws := hk_wsW yL_hoursToReady cL_hoursToReady 4 (Option.some Jvm.ClassFile.FieldType.int) [(0, 9, 12, 24)]) B.pre w (hk_inW h)⟩
  have hx := B.exec
  have hb := B.bytes
  have hr := B.returns
  have hlocks := B.notSynchronized
  have hl := lv_entry ([.ref (g.1 + a0), .int x1, .ref (g.1 + a2)]) (n := 4) (Nat.le_of_ble_eq_true rfl)
  rw [lg_entry_eq]
  generalize (lg_sl ([.ref (g.1 + a0), .int x1, .ref (g.1 + a2)]) ++ List.replicate (4 - (lg_sl ([.ref (g.1 + a0), .int x1, .ref (g.1 + a2)])).length) Slot.unset).toArray = ls at hl ⊢
  have hl : lv_has ls 4 [(0, .ref (g.1 + a0)), (1, .int x1), (2, .ref (g.1 + a2))] := hl
  unfold mL_hoursToReady at hsp
  have G : hk_GG g E S n s s.heap [] := G
  refine lv_aload_n hx hb dL_hoursToReady_0 rfl (lv_at hl 2 rfl) ?_
  refine lv_iconst (v := 0) hx hb dL_hoursToReady_1 (by decide) ?_
  refine lv_aload_n hx hb dL_hoursToReady_2 rfl (lv_at hl 0 rfl) ?_
  refine lv_iload_n hx hb dL_hoursToReady_3 rfl (lv_at hl 1 rfl) ?_
  refine hk_xV (As := [.int x1]) (rest := [.int 0, .ref (g.1 + a2)]) F9 G h0 hkc_8 rfl (kX11_hoursToReady l hst g E F n S a0 x1 ((mX11_hoursToReady E F S a0 x1).getD (.inl (0, S))) h0 ?_) qv_RL_130 ⟨rfl, rfl, (Nat.le_of_ble_eq_true rfl), (Nat.le_of_ble_eq_true rfl)⟩ rfl hl.1 rfl (Nat.le_of_ble_eq_true rfl) ⟨(Nat.le_of_ble_eq_true rfl), (Nat.le_of_ble_eq_true rfl)⟩ dL_hoursToReady_4 (fun k S2 ho ce q9 n1 H locs G h1 h2 h3 => ?_) (fun x ho H locs G => ?_)
  · cases hm : mX11_hoursToReady E F S a0 x1 with
    | none => rw [hm] at hsp; exact nomatch hsp
    | some v => rfl
  · have hm : mX11_hoursToReady E F S a0 x1 = some (.inl (k, S2)) := by
      cases hm : mX11_hoursToReady E F S a0 x1 with
      | none => rw [hm] at hsp; exact nomatch hsp
      | some v => rw [hm] at ho; exact congrArg some ho
    rw [hm] at hsp
    rcases Classical.em (k = 0) with w0 | w0
    · have hsp := hk_t w0 hsp
      subst w0
      refine hk_caught F9 G h1 h2 h3 [] ⟨0, 9, 12, 24⟩ [] (by rw [htab]; rfl) (fun z hz => absurd hz List.not_mem_nil) (by decide) (by decide) (name := "java/lang/IndexOutOfBoundsException") qw_957 (by decide +kernel) ?_
      refine lv_astore_n (lv' := [(3, .ref q9), (0, .ref (g.1 + a0)), (1, .int x1), (2, .ref (g.1 + a2))]) hx hb dL_hoursToReady_12 rfl hl (by decide) rfl (fun ls hl => ?_)
      refine lv_iconst (v := 1) hx hb dL_hoursToReady_13 (by decide) ?_
      obtain rfl := hk_s hsp
      exact vx_ret (W.widen (k := 1) (n := 6) (Nat.le_of_ble_eq_true rfl) (Nat.le_of_ble_eq_true rfl) (W.iret (v := 1) hx hb hr (fun t ht hW => hk_endN G ht hW) G.2.1.2.2 dL_hoursToReady_14))
    · have hsp := hk_f w0 hsp
      exact nomatch hsp
  · have hm : mX11_hoursToReady E F S a0 x1 = some (.inr x) := by
      cases hm : mX11_hoursToReady E F S a0 x1 with
      | none => rw [hm] at hsp; exact nomatch hsp
      | some v => rw [hm] at ho; exact congrArg some ho
    rw [hm] at hsp
    obtain ⟨qo, hsp⟩ := hk_k hsp
    refine lv_i2l (v := x.1.toInt64) hx hb dL_hoursToReady_7 rfl ?_
    refine hk_last (y := x.1) (j := 0) F9 G rfl hout rfl qo (by decide) dL_hoursToReady_8 (fun H locs G => ?_)
    refine lv_goto (tgt := 15) hx hb dL_hoursToReady_9 (by decide) ?_
    refine lv_iconst (v := 0) hx hb dL_hoursToReady_15 (by decide) ?_
    obtain rfl := hk_s hsp
    exact vx_ret (W.widen (k := 1) (n := 6) (Nat.le_of_ble_eq_true rfl) (Nat.le_of_ble_eq_true rfl) (W.iret (v := 0) hx hb hr (fun t ht hW => hk_endN G ht hW) G.2.1.2.2 dL_hoursToReady_16))
def mL_humidityAt (E : hk_E) (F : Nat) (S : hk_S) (a0 : Nat) (x1 : Int32) (a2 : Nat) : Option (Int32 × hk_S) :=
  match mX11_humidityAt E F S a0 x1 with
  | none => none
  | some (.inl (k, S1)) => if k = 1 then some (1, S1) else (none)
  | some (.inr r) => if hk_ok 0 (E.2.2.1 a2) then (some (0, hk_up r.2 a2 0 r.1)) else none
set_option maxHeartbeats 4000000 in
set_option maxRecDepth 100000 in
theorem kL_humidityAt (l : Launch) (hst : l.stackTraces = false) (g : hk_G) (E : hk_E) (F n : Nat) (S : hk_S) (a0 : Nat) (x1 : Int32) (a2 : Nat) (o : Int32 × hk_S) (h0 : E.2.1 a0 = 9) (hout : E.2.1 a2 = 17) (hsp : mL_humidityAt E F S a0 x1 a2 = some o) : vx_Met l yL_humidityAt (hk_wsW yL_humidityAt cL_humidityAt 4 (Option.some Jvm.ClassFile.FieldType.int) [(0, 9, 12, 13)]) ({ frames := 8, cells := 1, slots := 6, locals := 125 }) (hk_Pc g E S n [.ref (g.1 + a0), .int x1, .ref (g.1 + a2)]) (hk_QN g E o.2 (some (.int o.1))) hk_XF 1 6 (hk_A g) := by
  refine vx_ofWH (cc := cL_humidityAt) (maxL := 4) (ret := (Option.some Jvm.ClassFile.FieldType.int)) (hh := [(0, 9, 12, 13)]) (by decide) rfl ?_
  intro p e s m args below meth c s₁ B hml hv
  obtain ⟨rfl, G⟩ := hk_begin hv
  have htab := vx_table (x := yL_humidityAt) B (atoms_spec (ws := hk_wsW yL_humidityAt cL_humidityAt 4 (Option.some Jvm.ClassFile.FieldType.int) [(0, 9, 12, 13)]) B.pre _ List.mem_cons_self)
  have F9 : CallFix p m c cL_humidityAt 4 s [.ref (g.1 + a0), .int x1, .ref (g.1 + a2)].toArray hk_W RL := ⟨B.exec, B.bytes, hml, findClass_of_methodNamed B.named, fun w h => atoms_spec (ws := hk_wsW yL_humidityAt cL_humidityAt 4 (Option.some Jvm.ClassFile.FieldType.int) [(0, 9, 12, 13)]) B.pre w (hk_inW h)⟩
  have hx := B.exec
  have hb := B.bytes
  have hr := B.returns
  have hlocks := B.notSynchronized
  have hl := lv_entry ([.ref (g.1 + a0), .int x1, .ref (g.1 + a2)]) (n := 4) (Nat.le_of_ble_eq_true rfl)
  rw [lg_entry_eq]
  generalize (lg_sl ([.ref (g.1 + a0), .int x1, .ref (g.1 + a2)]) ++ List.replicate (4 - (lg_sl ([.ref (g.1 + a0), .int x1, .ref (g.1 + a2)])).length) Slot.unset).toArray = ls at hl ⊢
  have hl : lv_has ls 4 [(0, .ref (g.1 + a0)), (1, .int x1), (2, .ref (g.1 + a2))] := hl
  unfold mL_humidityAt at hsp
  have G : hk_GG g E S n s s.heap [] := G
  refine lv_aload_n hx hb dL_humidityAt_0 rfl (lv_at hl 2 rfl) ?_
  refine lv_iconst (v := 0) hx hb dL_humidityAt_1 (by decide) ?_
  refine lv_aload_n hx hb dL_humidityAt_2 rfl (lv_at hl 0 rfl) ?_
  refine lv_iload_n hx hb dL_humidityAt_3 rfl (lv_at hl 1 rfl) ?_
  refine hk_xV (As := [.int x1]) (rest := [.int 0, .ref (g.1 + a2)]) F9 G h0 hkc_8 rfl (kX11_humidityAt l hst g E F n S a0 x1 ((mX11_humidityAt E F S a0 x1).getD (.inl (0, S))) h0 ?_) qv_RL_73 ⟨rfl, rfl, (Nat.le_of_ble_eq_true rfl), (Nat.le_of_ble_eq_true rfl)⟩ rfl hl.1 rfl (Nat.le_of_ble_eq_true rfl) ⟨(Nat.le_of_ble_eq_true rfl), (Nat.le_of_ble_eq_true rfl)⟩ dL_humidityAt_4 (fun k S2 ho ce q9 n1 H locs G h1 h2 h3 => ?_) (fun x ho H locs G => ?_)
  · cases hm : mX11_humidityAt E F S a0 x1 with
    | none => rw [hm] at hsp; exact nomatch hsp
    | some v => rfl
  · have hm : mX11_humidityAt E F S a0 x1 = some (.inl (k, S2)) := by
      cases hm : mX11_humidityAt E F S a0 x1 with
      | none => rw [hm] at hsp; exact nomatch hsp
      | some v => rw [hm] at ho; exact congrArg some ho
    rw [hm] at hsp
    rcases Classical.em (k = 1) with w0 | w0
    · have hsp := hk_t w0 hsp
      subst w0
      refine hk_caught F9 G h1 h2 h3 [] ⟨0, 9, 12, 13⟩ [] (by rw [htab]; rfl) (fun z hz => absurd hz List.not_mem_nil) (by decide) (by decide) (name := "java/lang/IllegalArgumentException") qw_850 (by decide +kernel) ?_
      refine lv_astore_n (lv' := [(3, .ref q9), (0, .ref (g.1 + a0)), (1, .int x1), (2, .ref (g.1 + a2))]) hx hb dL_humidityAt_12 rfl hl (by decide) rfl (fun ls hl => ?_)
      refine lv_iconst (v := 1) hx hb dL_humidityAt_13 (by decide) ?_
      obtain rfl := hk_s hsp
      exact vx_ret (W.widen (k := 1) (n := 6) (Nat.le_of_ble_eq_true rfl) (Nat.le_of_ble_eq_true rfl) (W.iret (v := 1) hx hb hr (fun t ht hW => hk_endN G ht hW) G.2.1.2.2 dL_humidityAt_14))
    · have hsp := hk_f w0 hsp
      exact nomatch hsp
  · have hm : mX11_humidityAt E F S a0 x1 = some (.inr x) := by
      cases hm : mX11_humidityAt E F S a0 x1 with
      | none => rw [hm] at hsp; exact nomatch hsp
      | some v => rw [hm] at ho; exact congrArg some ho
    rw [hm] at hsp
    obtain ⟨qo, hsp⟩ := hk_k hsp
    refine lv_i2l (v := x.1.toInt64) hx hb dL_humidityAt_7 rfl ?_
    refine hk_last (y := x.1) (j := 0) F9 G rfl hout rfl qo (by decide) dL_humidityAt_8 (fun H locs G => ?_)
    refine lv_goto (tgt := 15) hx hb dL_humidityAt_9 (by decide) ?_
    refine lv_iconst (v := 0) hx hb dL_humidityAt_15 (by decide) ?_
    obtain rfl := hk_s hsp
    exact vx_ret (W.widen (k := 1) (n := 6) (Nat.le_of_ble_eq_true rfl) (Nat.le_of_ble_eq_true rfl) (W.iret (v := 0) hx hb hr (fun t ht hW => hk_endN G ht hW) G.2.1.2.2 dL_humidityAt_16))
def mL_isUpwards (E : hk_E) (F : Nat) (S : hk_S) (a0 : Nat) (x1 : Int32) (a2 : Nat) : Option (Int32 × hk_S) :=
  match mX11_isUpwards E F S a0 x1 with
  | none => none
  | some (.inl (k, S1)) => if k = 0 then some (1, S1) else (none)
  | some (.inr r) => if hk_ok 0 (E.2.2.1 a2) then (if r.1 = 0 then some (0, hk_up r.2 a2 0 0) else some (0, hk_up r.2 a2 0 1)) else none
set_option maxHeartbeats 4000000 in
set_option maxRecDepth 100000 in
theorem kL_isUpwards (l : Launch) (hst : l.stackTraces = false) (g : hk_G) (E : hk_E) (F n : Nat) (S : hk_S) (a0 : Nat) (x1 : Int32) (a2 : Nat) (o : Int32 × hk_S) (h0 : E.2.1 a0 = 9) (hout : E.2.1 a2 = 17) (hsp : mL_isUpwards E F S a0 x1 a2 = some o) : vx_Met l yL_isUpwards (hk_wsW yL_isUpwards cL_isUpwards 4 (Option.some Jvm.ClassFile.FieldType.int) [(0, 16, 19, 24)]) ({ frames := 8, cells := 1, slots := 6, locals := 124 }) (hk_Pc g E S n [.ref (g.1 + a0), .int x1, .ref (g.1 + a2)]) (hk_QN g E o.2 (some (.int o.1))) hk_XF 1 6 (hk_A g) := by
  refine vx_ofWH (cc := cL_isUpwards) (maxL := 4) (ret := (Option.some Jvm.ClassFile.FieldType.int)) (hh := [(0, 16, 19, 24)]) (by decide) rfl ?_
  intro p e s m args below meth c s₁ B hml hv
  obtain ⟨rfl, G⟩ := hk_begin hv
  have htab := vx_table (x := yL_isUpwards) B (atoms_spec (ws := hk_wsW yL_isUpwards cL_isUpwards 4 (Option.some Jvm.ClassFile.FieldType.int) [(0, 16, 19, 24)]) B.pre _ List.mem_cons_self)
  have F9 : CallFix p m c cL_isUpwards 4 s [.ref (g.1 + a0), .int x1, .ref (g.1 + a2)].toArray hk_W RL := ⟨B.exec, B.bytes, hml, findClass_of_methodNamed B.named, fun w h => atoms_spec (ws := hk_wsW yL_isUpwards cL_isUpwards 4 (Option.some Jvm.ClassFile.FieldType.int) [(0, 16, 19, 24)]) B.pre w (hk_inW h)⟩
  have hx := B.exec
  have hb := B.bytes
  have hr := B.returns
  have hlocks := B.notSynchronized
  have hl := lv_entry ([.ref (g.1 + a0), .int x1, .ref (g.1 + a2)]) (n := 4) (Nat.le_of_ble_eq_true rfl)
  rw [lg_entry_eq]
  generalize (lg_sl ([.ref (g.1 + a0), .int x1, .ref (g.1 + a2)]) ++ List.replicate (4 - (lg_sl ([.ref (g.1 + a0), .int x1, .ref (g.1 + a2)])).length) Slot.unset).toArray = ls at hl ⊢
  have hl : lv_has ls 4 [(0, .ref (g.1 + a0)), (1, .int x1), (2, .ref (g.1 + a2))] := hl
  unfold mL_isUpwards at hsp
  have G : hk_GG g E S n s s.heap [] := G
  refine lv_aload_n hx hb dL_isUpwards_0 rfl (lv_at hl 2 rfl) ?_
  refine lv_iconst (v := 0) hx hb dL_isUpwards_1 (by decide) ?_
  refine lv_aload_n hx hb dL_isUpwards_2 rfl (lv_at hl 0 rfl) ?_
  refine lv_iload_n hx hb dL_isUpwards_3 rfl (lv_at hl 1 rfl) ?_
  refine hk_xV (As := [.int x1]) (rest := [.int 0, .ref (g.1 + a2)]) F9 G h0 hkc_8 rfl (kX11_isUpwards l hst g E F n S a0 x1 ((mX11_isUpwards E F S a0 x1).getD (.inl (0, S))) h0 ?_) qv_RL_88 ⟨rfl, rfl, (Nat.le_of_ble_eq_true rfl), (Nat.le_of_ble_eq_true rfl)⟩ rfl hl.1 rfl (Nat.le_of_ble_eq_true rfl) ⟨(Nat.le_of_ble_eq_true rfl), (Nat.le_of_ble_eq_true rfl)⟩ dL_isUpwards_4 (fun k S2 ho ce q9 n1 H locs G h1 h2 h3 => ?_) (fun x ho H locs G => ?_)
  · cases hm : mX11_isUpwards E F S a0 x1 with
    | none => rw [hm] at hsp; exact nomatch hsp
    | some v => rfl
  · have hm : mX11_isUpwards E F S a0 x1 = some (.inl (k, S2)) := by
      cases hm : mX11_isUpwards E F S a0 x1 with
      | none => rw [hm] at hsp; exact nomatch hsp
      | some v => rw [hm] at ho; exact congrArg some ho
    rw [hm] at hsp
    rcases Classical.em (k = 0) with w0 | w0
    · have hsp := hk_t w0 hsp
      subst w0
      refine hk_caught F9 G h1 h2 h3 [] ⟨0, 16, 19, 24⟩ [] (by rw [htab]; rfl) (fun z hz => absurd hz List.not_mem_nil) (by decide) (by decide) (name := "java/lang/IndexOutOfBoundsException") qw_957 (by decide +kernel) ?_
      refine lv_astore_n (lv' := [(3, .ref q9), (0, .ref (g.1 + a0)), (1, .int x1), (2, .ref (g.1 + a2))]) hx hb dL_isUpwards_19 rfl hl (by decide) rfl (fun ls hl => ?_)
      refine lv_iconst (v := 1) hx hb dL_isUpwards_20 (by decide) ?_
      obtain rfl := hk_s hsp
      exact vx_ret (W.widen (k := 1) (n := 6) (Nat.le_of_ble_eq_true rfl) (Nat.le_of_ble_eq_true rfl) (W.iret (v := 1) hx hb hr (fun t ht hW => hk_endN G ht hW) G.2.1.2.2 dL_isUpwards_21))
    · have hsp := hk_f w0 hsp
      exact nomatch hsp
  · have hm : mX11_isUpwards E F S a0 x1 = some (.inr x) := by
      cases hm : mX11_isUpwards E F S a0 x1 with
      | none => rw [hm] at hsp; exact nomatch hsp
      | some v => rw [hm] at ho; exact congrArg some ho
    rw [hm] at hsp
    obtain ⟨qo, hsp⟩ := hk_k hsp
    refine lv_if_eq (tgt := 14) hx hb dL_isUpwards_7 (by decide) (fun c => ?_) (fun c => ?_)
    · have hsp := hk_t c hsp
      refine lv_lconst (v := 0) hx hb dL_isUpwards_14 (by decide) ?_
      refine hk_last (y := 0) (j := 0) F9 G rfl hout rfl qo (by decide) dL_isUpwards_15 (fun H locs G => ?_)
      refine lv_goto (tgt := 22) hx hb dL_isUpwards_16 (by decide) ?_
      refine lv_iconst (v := 0) hx hb dL_isUpwards_22 (by decide) ?_
      obtain rfl := hk_s hsp
      exact vx_ret (W.widen (k := 1) (n := 6) (Nat.le_of_ble_eq_true rfl) (Nat.le_of_ble_eq_true rfl) (W.iret (v := 0) hx hb hr (fun t ht hW => hk_endN G ht hW) G.2.1.2.2 dL_isUpwards_23))
    · have hsp := hk_f c hsp
      refine lv_lconst (v := 1) hx hb dL_isUpwards_10 (by decide) ?_
      refine lv_goto (tgt := 15) hx hb dL_isUpwards_11 (by decide) ?_
      refine hk_last (y := 1) (j := 0) F9 G rfl hout rfl qo (by decide) dL_isUpwards_15 (fun H locs G => ?_)
      refine lv_goto (tgt := 22) hx hb dL_isUpwards_16 (by decide) ?_
      refine lv_iconst (v := 0) hx hb dL_isUpwards_22 (by decide) ?_
      obtain rfl := hk_s hsp
      exact vx_ret (W.widen (k := 1) (n := 6) (Nat.le_of_ble_eq_true rfl) (Nat.le_of_ble_eq_true rfl) (W.iret (v := 0) hx hb hr (fun t ht hW => hk_endN G ht hW) G.2.1.2.2 dL_isUpwards_23))
def mL_kilograms (E : hk_E) (F : Nat) (S : hk_S) (a0 : Nat) (x1 : Int32) (a2 : Nat) : Option (Int32 × hk_S) :=
  match mX11_kilograms E F S a0 x1 with
  | none => none
  | some (.inl (k, S1)) => if k = 0 then some (1, S1) else (none)
  | some (.inr r) => if hk_ok 0 (E.2.2.1 a2) then (some (0, hk_up r.2 a2 0 r.1)) else none
set_option maxHeartbeats 4000000 in
set_option maxRecDepth 100000 in
theorem kL_kilograms (l : Launch) (hst : l.stackTraces = false) (g : hk_G) (E : hk_E) (F n : Nat) (S : hk_S) (a0 : Nat) (x1 : Int32) (a2 : Nat) (o : Int32 × hk_S) (h0 : E.2.1 a0 = 9) (hout : E.2.1 a2 = 17) (hsp : mL_kilograms E F S a0 x1 a2 = some o) : vx_Met l yL_kilograms (hk_wsW yL_kilograms cL_kilograms 4 (Option.some Jvm.ClassFile.FieldType.int) [(0, 9, 12, 24)]) ({ frames := 8, cells := 1, slots := 6, locals := 124 }) (hk_Pc g E S n [.ref (g.1 + a0), .int x1, .ref (g.1 + a2)]) (hk_QN g E o.2 (some (.int o.1))) hk_XF 1 6 (hk_A g) := by
  refine vx_ofWH (cc := cL_kilograms) (maxL := 4) (ret := (Option.some Jvm.ClassFile.FieldType.int)) (hh := [(0, 9, 12, 24)]) (by decide) rfl ?_
  intro p e s m args below meth c s₁ B hml hv
  obtain ⟨rfl, G⟩ := hk_begin hv
  have htab := vx_table (x := yL_kilograms) B (atoms_spec (ws := hk_wsW yL_kilograms cL_kilograms 4 (Option.some Jvm.ClassFile.FieldType.int) [(0, 9, 12, 24)]) B.pre _ List.mem_cons_self)
  have F9 : CallFix p m c cL_kilograms 4 s [.ref (g.1 + a0), .int x1, .ref (g.1 + a2)].toArray hk_W RL := ⟨B.exec, B.bytes, hml, findClass_of_methodNamed B.named, fun w h => atoms_spec (ws := hk_wsW yL_kilograms cL_kilograms 4 (Option.some Jvm.ClassFile.FieldType.int) [(0, 9, 12, 24)]) B.pre w (hk_inW h)⟩
  have hx := B.exec
  have hb := B.bytes
  have hr := B.returns
  have hlocks := B.notSynchronized
  have hl := lv_entry ([.ref (g.1 + a0), .int x1, .ref (g.1 + a2)]) (n := 4) (Nat.le_of_ble_eq_true rfl)
  rw [lg_entry_eq]
  generalize (lg_sl ([.ref (g.1 + a0), .int x1, .ref (g.1 + a2)]) ++ List.replicate (4 - (lg_sl ([.ref (g.1 + a0), .int x1, .ref (g.1 + a2)])).length) Slot.unset).toArray = ls at hl ⊢
  have hl : lv_has ls 4 [(0, .ref (g.1 + a0)), (1, .int x1), (2, .ref (g.1 + a2))] := hl
  unfold mL_kilograms at hsp
  have G : hk_GG g E S n s s.heap [] := G
  refine lv_aload_n hx hb dL_kilograms_0 rfl (lv_at hl 2 rfl) ?_
  refine lv_iconst (v := 0) hx hb dL_kilograms_1 (by decide) ?_
  refine lv_aload_n hx hb dL_kilograms_2 rfl (lv_at hl 0 rfl) ?_
  refine lv_iload_n hx hb dL_kilograms_3 rfl (lv_at hl 1 rfl) ?_
  refine hk_xV (As := [.int x1]) (rest := [.int 0, .ref (g.1 + a2)]) F9 G h0 hkc_8 rfl (kX11_kilograms l hst g E F n S a0 x1 ((mX11_kilograms E F S a0 x1).getD (.inl (0, S))) h0 ?_) qv_RL_79 ⟨rfl, rfl, (Nat.le_of_ble_eq_true rfl), (Nat.le_of_ble_eq_true rfl)⟩ rfl hl.1 rfl (Nat.le_of_ble_eq_true rfl) ⟨(Nat.le_of_ble_eq_true rfl), (Nat.le_of_ble_eq_true rfl)⟩ dL_kilograms_4 (fun k S2 ho ce q9 n1 H locs G h1 h2 h3 => ?_) (fun x ho H locs G => ?_)
  · cases hm : mX11_kilograms E F S a0 x1 with
    | none => rw [hm] at hsp; exact nomatch hsp
    | some v => rfl
  · have hm : mX11_kilograms E F S a0 x1 = some (.inl (k, S2)) := by
      cases hm : mX11_kilograms E F S a0 x1 with
      | none => rw [hm] at hsp; exact nomatch hsp
      | some v => rw [hm] at ho; exact congrArg some ho
    rw [hm] at hsp
    rcases Classical.em (k = 0) with w0 | w0
    · have hsp := hk_t w0 hsp
      subst w0
      refine hk_caught F9 G h1 h2 h3 [] ⟨0, 9, 12, 24⟩ [] (by rw [htab]; rfl) (fun z hz => absurd hz List.not_mem_nil) (by decide) (by decide) (name := "java/lang/IndexOutOfBoundsException") qw_957 (by decide +kernel) ?_
      refine lv_astore_n (lv' := [(3, .ref q9), (0, .ref (g.1 + a0)), (1, .int x1), (2, .ref (g.1 + a2))]) hx hb dL_kilograms_12 rfl hl (by decide) rfl (fun ls hl => ?_)
      refine lv_iconst (v := 1) hx hb dL_kilograms_13 (by decide) ?_
      obtain rfl := hk_s hsp
      exact vx_ret (W.widen (k := 1) (n := 6) (Nat.le_of_ble_eq_true rfl) (Nat.le_of_ble_eq_true rfl) (W.iret (v := 1) hx hb hr (fun t ht hW => hk_endN G ht hW) G.2.1.2.2 dL_kilograms_14))
    · have hsp := hk_f w0 hsp
      exact nomatch hsp
  · have hm : mX11_kilograms E F S a0 x1 = some (.inr x) := by
      cases hm : mX11_kilograms E F S a0 x1 with
      | none => rw [hm] at hsp; exact nomatch hsp
      | some v => rw [hm] at ho; exact congrArg some ho
    rw [hm] at hsp
    obtain ⟨qo, hsp⟩ := hk_k hsp
    refine lv_i2l (v := x.1.toInt64) hx hb dL_kilograms_7 rfl ?_
    refine hk_last (y := x.1) (j := 0) F9 G rfl hout rfl qo (by decide) dL_kilograms_8 (fun H locs G => ?_)
    refine lv_goto (tgt := 15) hx hb dL_kilograms_9 (by decide) ?_
    refine lv_iconst (v := 0) hx hb dL_kilograms_15 (by decide) ?_
    obtain rfl := hk_s hsp
    exact vx_ret (W.widen (k := 1) (n := 6) (Nat.le_of_ble_eq_true rfl) (Nat.le_of_ble_eq_true rfl) (W.iret (v := 0) hx hb hr (fun t ht hW => hk_endN G ht hW) G.2.1.2.2 dL_kilograms_16))
def mL_load (E : hk_E) (F : Nat) (S : hk_S) (a0 : Nat) (x1 : Int32) (x2 : Int32) (x3 : Int32) (a4 : Nat) : Option (Int32 × hk_S) :=
  match mX11_load E F S a0 x1 x2 x3 with
  | none => none
  | some (.inl (k, S1)) => if k = 0 then some (1, S1) else (if k = 1 then some (2, S1) else (if k = 2 then some (3, S1) else (none)))
  | some (.inr r) => if hk_ok 0 (E.2.2.1 a4) then (some (0, hk_up r.2 a4 0 r.1)) else none
set_option maxHeartbeats 4000000 in
set_option maxRecDepth 100000 in
theorem kL_load (l : Launch) (hst : l.stackTraces = false) (g : hk_G) (E : hk_E) (F n : Nat) (S : hk_S) (a0 : Nat) (x1 : Int32) (x2 : Int32) (x3 : Int32) (a4 : Nat) (o : Int32 × hk_S) (h0 : E.2.1 a0 = 9) (hout : E.2.1 a4 = 17) (hsp : mL_load E F S a0 x1 x2 x3 a4 = some o) : vx_Met l yL_load (hk_wsW yL_load cL_load 6 (Option.some Jvm.ClassFile.FieldType.int) [(0, 12, 15, 24), (0, 12, 19, 13), (0, 12, 23, 18)]) ({ frames := 8, cells := 4, slots := 24, locals := 128 }) (hk_Pc g E S n [.ref (g.1 + a0), .int x1, .int x2, .int x3, .ref (g.1 + a4)]) (hk_QN g E o.2 (some (.int o.1))) hk_XF 4 24 (hk_A g) := by
  refine vx_ofWH (cc := cL_load) (maxL := 6) (ret := (Option.some Jvm.ClassFile.FieldType.int)) (hh := [(0, 12, 15, 24), (0, 12, 19, 13), (0, 12, 23, 18)]) (by decide) rfl ?_
  intro p e s m args below meth c s₁ B hml hv
  obtain ⟨rfl, G⟩ := hk_begin hv
  have htab := vx_table (x := yL_load) B (atoms_spec (ws := hk_wsW yL_load cL_load 6 (Option.some Jvm.ClassFile.FieldType.int) [(0, 12, 15, 24), (0, 12, 19, 13), (0, 12, 23, 18)]) B.pre _ List.mem_cons_self)
  have F9 : CallFix p m c cL_load 6 s [.ref (g.1 + a0), .int x1, .int x2, .int x3, .ref (g.1 + a4)].toArray hk_W RL := ⟨B.exec, B.bytes, hml, findClass_of_methodNamed B.named, fun w h => atoms_spec (ws := hk_wsW yL_load cL_load 6 (Option.some Jvm.ClassFile.FieldType.int) [(0, 12, 15, 24), (0, 12, 19, 13), (0, 12, 23, 18)]) B.pre w (hk_inW h)⟩
  have hx := B.exec
  have hb := B.bytes
  have hr := B.returns
  have hlocks := B.notSynchronized
  have hl := lv_entry ([.ref (g.1 + a0), .int x1, .int x2, .int x3, .ref (g.1 + a4)]) (n := 6) (Nat.le_of_ble_eq_true rfl)
  rw [lg_entry_eq]
  generalize (lg_sl ([.ref (g.1 + a0), .int x1, .int x2, .int x3, .ref (g.1 + a4)]) ++ List.replicate (6 - (lg_sl ([.ref (g.1 + a0), .int x1, .int x2, .int x3, .ref (g.1 + a4)])).length) Slot.unset).toArray = ls at hl ⊢
  have hl : lv_has ls 6 [(0, .ref (g.1 + a0)), (1, .int x1), (2, .int x2), (3, .int x3), (4, .ref (g.1 + a4))] := hl
  unfold mL_load at hsp
  have G : hk_GG g E S n s s.heap [] := G
  refine lv_aload hx hb dL_load_0 (lv_at hl 4 rfl) ?_
  refine lv_iconst (v := 0) hx hb dL_load_2 (by decide) ?_
  refine lv_aload_n hx hb dL_load_3 rfl (lv_at hl 0 rfl) ?_
  refine lv_iload_n hx hb dL_load_4 rfl (lv_at hl 1 rfl) ?_
  refine lv_iload_n hx hb dL_load_5 rfl (lv_at hl 2 rfl) ?_
  refine lv_iload_n hx hb dL_load_6 rfl (lv_at hl 3 rfl) ?_
  refine hk_xV (As := [.int x1, .int x2, .int x3]) (rest := [.int 0, .ref (g.1 + a4)]) F9 G h0 hkc_8 rfl (kX11_load l hst g E F n S a0 x1 x2 x3 ((mX11_load E F S a0 x1 x2 x3).getD (.inl (0, S))) h0 ?_) qv_RL_20 ⟨rfl, rfl, (Nat.le_of_ble_eq_true rfl), (Nat.le_of_ble_eq_true rfl)⟩ rfl hl.1 rfl (Nat.le_of_ble_eq_true rfl) ⟨(Nat.le_of_ble_eq_true rfl), (Nat.le_of_ble_eq_true rfl)⟩ dL_load_7 (fun k S2 ho ce q9 n1 H locs G h1 h2 h3 => ?_) (fun x ho H locs G => ?_)
  · cases hm : mX11_load E F S a0 x1 x2 x3 with
    | none => rw [hm] at hsp; exact nomatch hsp
    | some v => rfl
  · have hm : mX11_load E F S a0 x1 x2 x3 = some (.inl (k, S2)) := by
      cases hm : mX11_load E F S a0 x1 x2 x3 with
      | none => rw [hm] at hsp; exact nomatch hsp
      | some v => rw [hm] at ho; exact congrArg some ho
    rw [hm] at hsp
    rcases Classical.em (k = 0) with w0 | w0
    · have hsp := hk_t w0 hsp
      subst w0
      refine hk_caught F9 G h1 h2 h3 [] ⟨0, 12, 15, 24⟩ [⟨0, 12, 19, 13⟩, ⟨0, 12, 23, 18⟩] (by rw [htab]; rfl) (fun z hz => absurd hz List.not_mem_nil) (by decide) (by decide) (name := "java/lang/IndexOutOfBoundsException") qw_957 (by decide +kernel) ?_
      refine lv_astore (lv' := [(5, .ref q9), (0, .ref (g.1 + a0)), (1, .int x1), (2, .int x2), (3, .int x3), (4, .ref (g.1 + a4))]) hx hb dL_load_15  hl (by decide) rfl (fun ls hl => ?_)
      refine lv_iconst (v := 1) hx hb dL_load_17 (by decide) ?_
      obtain rfl := hk_s hsp
      exact vx_ret (W.widen (k := 4) (n := 24) (Nat.le_of_ble_eq_true rfl) (Nat.le_of_ble_eq_true rfl) (W.iret (v := 1) hx hb hr (fun t ht hW => hk_endN G ht hW) G.2.1.2.2 dL_load_18))
    · have hsp := hk_f w0 hsp
      rcases Classical.em (k = 1) with w1 | w1
      · have hsp := hk_t w1 hsp
        subst w1
        refine hk_caught F9 G h1 h2 h3 [⟨0, 12, 15, 24⟩] ⟨0, 12, 19, 13⟩ [⟨0, 12, 23, 18⟩] (by rw [htab]; rfl) (List.forall_mem_cons.mpr ⟨Or.inr ⟨by decide, "java/lang/IndexOutOfBoundsException", qw_957, by decide +kernel⟩, fun z hz => absurd hz List.not_mem_nil⟩) (by decide) (by decide) (name := "java/lang/IllegalArgumentException") qw_850 (by decide +kernel) ?_
        refine lv_astore (lv' := [(5, .ref q9), (0, .ref (g.1 + a0)), (1, .int x1), (2, .int x2), (3, .int x3), (4, .ref (g.1 + a4))]) hx hb dL_load_19  hl (by decide) rfl (fun ls hl => ?_)
        refine lv_iconst (v := 2) hx hb dL_load_21 (by decide) ?_
        obtain rfl := hk_s hsp
        exact vx_ret (W.widen (k := 4) (n := 24) (Nat.le_of_ble_eq_true rfl) (Nat.le_of_ble_eq_true rfl) (W.iret (v := 2) hx hb hr (fun t ht hW => hk_endN G ht hW) G.2.1.2.2 dL_load_22))
      · have hsp := hk_f w1 hsp
        rcases Classical.em (k = 2) with w2 | w2
        · have hsp := hk_t w2 hsp
          subst w2
          refine hk_caught F9 G h1 h2 h3 [⟨0, 12, 15, 24⟩, ⟨0, 12, 19, 13⟩] ⟨0, 12, 23, 18⟩ [] (by rw [htab]; rfl) (List.forall_mem_cons.mpr ⟨Or.inr ⟨by decide, "java/lang/IndexOutOfBoundsException", qw_957, by decide +kernel⟩, List.forall_mem_cons.mpr ⟨Or.inr ⟨by decide, "java/lang/IllegalArgumentException", qw_850, by decide +kernel⟩, fun z hz => absurd hz List.not_mem_nil⟩⟩) (by decide) (by decide) (name := "java/lang/IllegalStateException") qw_929 (by decide +kernel) ?_
          refine lv_astore (lv' := [(5, .ref q9), (0, .ref (g.1 + a0)), (1, .int x1), (2, .int x2), (3, .int x3), (4, .ref (g.1 + a4))]) hx hb dL_load_23  hl (by decide) rfl (fun ls hl => ?_)
          refine lv_iconst (v := 3) hx hb dL_load_25 (by decide) ?_
          obtain rfl := hk_s hsp
          exact vx_ret (W.widen (k := 4) (n := 24) (Nat.le_of_ble_eq_true rfl) (Nat.le_of_ble_eq_true rfl) (W.iret (v := 3) hx hb hr (fun t ht hW => hk_endN G ht hW) G.2.1.2.2 dL_load_26))
        · have hsp := hk_f w2 hsp
          exact nomatch hsp
  · have hm : mX11_load E F S a0 x1 x2 x3 = some (.inr x) := by
      cases hm : mX11_load E F S a0 x1 x2 x3 with
      | none => rw [hm] at hsp; exact nomatch hsp
      | some v => rw [hm] at ho; exact congrArg some ho
    rw [hm] at hsp
    obtain ⟨qo, hsp⟩ := hk_k hsp
    refine lv_i2l (v := x.1.toInt64) hx hb dL_load_10 rfl ?_
    refine hk_last (y := x.1) (j := 0) F9 G rfl hout rfl qo (by decide) dL_load_11 (fun H locs G => ?_)
    refine lv_goto (tgt := 27) hx hb dL_load_12 (by decide) ?_
    refine lv_iconst (v := 0) hx hb dL_load_27 (by decide) ?_
    obtain rfl := hk_s hsp
    exact vx_ret (W.widen (k := 4) (n := 24) (Nat.le_of_ble_eq_true rfl) (Nat.le_of_ble_eq_true rfl) (W.iret (v := 0) hx hb hr (fun t ht hW => hk_endN G ht hW) G.2.1.2.2 dL_load_28))
def mL_loss (E : hk_E) (F : Nat) (S : hk_S) (a0 : Nat) (x1 : Int32) (a2 : Nat) : Option (Int32 × hk_S) :=
  match mX11_loss E F S a0 x1 with
  | none => none
  | some (.inl (k, S1)) => if k = 0 then some (1, S1) else (none)
  | some (.inr r) => if hk_ok 0 (E.2.2.1 a2) then (some (0, hk_up r.2 a2 0 r.1)) else none
set_option maxHeartbeats 4000000 in
set_option maxRecDepth 100000 in
theorem kL_loss (l : Launch) (hst : l.stackTraces = false) (g : hk_G) (E : hk_E) (F n : Nat) (S : hk_S) (a0 : Nat) (x1 : Int32) (a2 : Nat) (o : Int32 × hk_S) (h0 : E.2.1 a0 = 9) (hout : E.2.1 a2 = 17) (hsp : mL_loss E F S a0 x1 a2 = some o) : vx_Met l yL_loss (hk_wsW yL_loss cL_loss 4 (Option.some Jvm.ClassFile.FieldType.int) [(0, 9, 12, 24)]) ({ frames := 8, cells := 1, slots := 6, locals := 124 }) (hk_Pc g E S n [.ref (g.1 + a0), .int x1, .ref (g.1 + a2)]) (hk_QN g E o.2 (some (.int o.1))) hk_XF 1 6 (hk_A g) := by
  refine vx_ofWH (cc := cL_loss) (maxL := 4) (ret := (Option.some Jvm.ClassFile.FieldType.int)) (hh := [(0, 9, 12, 24)]) (by decide) rfl ?_
  intro p e s m args below meth c s₁ B hml hv
  obtain ⟨rfl, G⟩ := hk_begin hv
  have htab := vx_table (x := yL_loss) B (atoms_spec (ws := hk_wsW yL_loss cL_loss 4 (Option.some Jvm.ClassFile.FieldType.int) [(0, 9, 12, 24)]) B.pre _ List.mem_cons_self)
  have F9 : CallFix p m c cL_loss 4 s [.ref (g.1 + a0), .int x1, .ref (g.1 + a2)].toArray hk_W RL := ⟨B.exec, B.bytes, hml, findClass_of_methodNamed B.named, fun w h => atoms_spec (ws := hk_wsW yL_loss cL_loss 4 (Option.some Jvm.ClassFile.FieldType.int) [(0, 9, 12, 24)]) B.pre w (hk_inW h)⟩
  have hx := B.exec
  have hb := B.bytes
  have hr := B.returns
  have hlocks := B.notSynchronized
  have hl := lv_entry ([.ref (g.1 + a0), .int x1, .ref (g.1 + a2)]) (n := 4) (Nat.le_of_ble_eq_true rfl)
  rw [lg_entry_eq]
  generalize (lg_sl ([.ref (g.1 + a0), .int x1, .ref (g.1 + a2)]) ++ List.replicate (4 - (lg_sl ([.ref (g.1 + a0), .int x1, .ref (g.1 + a2)])).length) Slot.unset).toArray = ls at hl ⊢
  have hl : lv_has ls 4 [(0, .ref (g.1 + a0)), (1, .int x1), (2, .ref (g.1 + a2))] := hl
  unfold mL_loss at hsp
  have G : hk_GG g E S n s s.heap [] := G
  refine lv_aload_n hx hb dL_loss_0 rfl (lv_at hl 2 rfl) ?_
  refine lv_iconst (v := 0) hx hb dL_loss_1 (by decide) ?_
  refine lv_aload_n hx hb dL_loss_2 rfl (lv_at hl 0 rfl) ?_
  refine lv_iload_n hx hb dL_loss_3 rfl (lv_at hl 1 rfl) ?_
  refine hk_xV (As := [.int x1]) (rest := [.int 0, .ref (g.1 + a2)]) F9 G h0 hkc_8 rfl (kX11_loss l hst g E F n S a0 x1 ((mX11_loss E F S a0 x1).getD (.inl (0, S))) h0 ?_) qv_RL_106 ⟨rfl, rfl, (Nat.le_of_ble_eq_true rfl), (Nat.le_of_ble_eq_true rfl)⟩ rfl hl.1 rfl (Nat.le_of_ble_eq_true rfl) ⟨(Nat.le_of_ble_eq_true rfl), (Nat.le_of_ble_eq_true rfl)⟩ dL_loss_4 (fun k S2 ho ce q9 n1 H locs G h1 h2 h3 => ?_) (fun x ho H locs G => ?_)
  · cases hm : mX11_loss E F S a0 x1 with
    | none => rw [hm] at hsp; exact nomatch hsp
    | some v => rfl
  · have hm : mX11_loss E F S a0 x1 = some (.inl (k, S2)) := by
      cases hm : mX11_loss E F S a0 x1 with
      | none => rw [hm] at hsp; exact nomatch hsp
      | some v => rw [hm] at ho; exact congrArg some ho
    rw [hm] at hsp
    rcases Classical.em (k = 0) with w0 | w0
    · have hsp := hk_t w0 hsp
      subst w0
      refine hk_caught F9 G h1 h2 h3 [] ⟨0, 9, 12, 24⟩ [] (by rw [htab]; rfl) (fun z hz => absurd hz List.not_mem_nil) (by decide) (by decide) (name := "java/lang/IndexOutOfBoundsException") qw_957 (by decide +kernel) ?_
      refine lv_astore_n (lv' := [(3, .ref q9), (0, .ref (g.1 + a0)), (1, .int x1), (2, .ref (g.1 + a2))]) hx hb dL_loss_12 rfl hl (by decide) rfl (fun ls hl => ?_)
      refine lv_iconst (v := 1) hx hb dL_loss_13 (by decide) ?_
      obtain rfl := hk_s hsp
      exact vx_ret (W.widen (k := 1) (n := 6) (Nat.le_of_ble_eq_true rfl) (Nat.le_of_ble_eq_true rfl) (W.iret (v := 1) hx hb hr (fun t ht hW => hk_endN G ht hW) G.2.1.2.2 dL_loss_14))
    · have hsp := hk_f w0 hsp
      exact nomatch hsp
  · have hm : mX11_loss E F S a0 x1 = some (.inr x) := by
      cases hm : mX11_loss E F S a0 x1 with
      | none => rw [hm] at hsp; exact nomatch hsp
      | some v => rw [hm] at ho; exact congrArg some ho
    rw [hm] at hsp
    obtain ⟨qo, hsp⟩ := hk_k hsp
    refine lv_i2l (v := x.1.toInt64) hx hb dL_loss_7 rfl ?_
    refine hk_last (y := x.1) (j := 0) F9 G rfl hout rfl qo (by decide) dL_loss_8 (fun H locs G => ?_)
    refine lv_goto (tgt := 15) hx hb dL_loss_9 (by decide) ?_
    refine lv_iconst (v := 0) hx hb dL_loss_15 (by decide) ?_
    obtain rfl := hk_s hsp
    exact vx_ret (W.widen (k := 1) (n := 6) (Nat.le_of_ble_eq_true rfl) (Nat.le_of_ble_eq_true rfl) (W.iret (v := 0) hx hb hr (fun t ht hW => hk_endN G ht hW) G.2.1.2.2 dL_loss_16))
def mL_marks (E : hk_E) (F : Nat) (S : hk_S) (a0 : Nat) (x1 : Int32) (a2 : Nat) : Option (Int32 × hk_S) :=
  match mX11_marks E F S a0 x1 with
  | none => none
  | some (.inl (k, S1)) => if k = 0 then some (1, S1) else (none)
  | some (.inr r) => if hk_ok 0 (E.2.2.1 a2) then (some (0, hk_up r.2 a2 0 r.1)) else none
set_option maxHeartbeats 4000000 in
set_option maxRecDepth 100000 in
theorem kL_marks (l : Launch) (hst : l.stackTraces = false) (g : hk_G) (E : hk_E) (F n : Nat) (S : hk_S) (a0 : Nat) (x1 : Int32) (a2 : Nat) (o : Int32 × hk_S) (h0 : E.2.1 a0 = 9) (hout : E.2.1 a2 = 17) (hsp : mL_marks E F S a0 x1 a2 = some o) : vx_Met l yL_marks (hk_wsW yL_marks cL_marks 4 (Option.some Jvm.ClassFile.FieldType.int) [(0, 9, 12, 24)]) ({ frames := 8, cells := 1, slots := 6, locals := 125 }) (hk_Pc g E S n [.ref (g.1 + a0), .int x1, .ref (g.1 + a2)]) (hk_QN g E o.2 (some (.int o.1))) hk_XF 1 6 (hk_A g) := by
  refine vx_ofWH (cc := cL_marks) (maxL := 4) (ret := (Option.some Jvm.ClassFile.FieldType.int)) (hh := [(0, 9, 12, 24)]) (by decide) rfl ?_
  intro p e s m args below meth c s₁ B hml hv
  obtain ⟨rfl, G⟩ := hk_begin hv
  have htab := vx_table (x := yL_marks) B (atoms_spec (ws := hk_wsW yL_marks cL_marks 4 (Option.some Jvm.ClassFile.FieldType.int) [(0, 9, 12, 24)]) B.pre _ List.mem_cons_self)
  have F9 : CallFix p m c cL_marks 4 s [.ref (g.1 + a0), .int x1, .ref (g.1 + a2)].toArray hk_W RL := ⟨B.exec, B.bytes, hml, findClass_of_methodNamed B.named, fun w h => atoms_spec (ws := hk_wsW yL_marks cL_marks 4 (Option.some Jvm.ClassFile.FieldType.int) [(0, 9, 12, 24)]) B.pre w (hk_inW h)⟩
  have hx := B.exec
  have hb := B.bytes
  have hr := B.returns
  have hlocks := B.notSynchronized
  have hl := lv_entry ([.ref (g.1 + a0), .int x1, .ref (g.1 + a2)]) (n := 4) (Nat.le_of_ble_eq_true rfl)
  rw [lg_entry_eq]
  generalize (lg_sl ([.ref (g.1 + a0), .int x1, .ref (g.1 + a2)]) ++ List.replicate (4 - (lg_sl ([.ref (g.1 + a0), .int x1, .ref (g.1 + a2)])).length) Slot.unset).toArray = ls at hl ⊢
  have hl : lv_has ls 4 [(0, .ref (g.1 + a0)), (1, .int x1), (2, .ref (g.1 + a2))] := hl
  unfold mL_marks at hsp
  have G : hk_GG g E S n s s.heap [] := G
  refine lv_aload_n hx hb dL_marks_0 rfl (lv_at hl 2 rfl) ?_
  refine lv_iconst (v := 0) hx hb dL_marks_1 (by decide) ?_
  refine lv_aload_n hx hb dL_marks_2 rfl (lv_at hl 0 rfl) ?_
  refine lv_iload_n hx hb dL_marks_3 rfl (lv_at hl 1 rfl) ?_
  refine hk_xV (As := [.int x1]) (rest := [.int 0, .ref (g.1 + a2)]) F9 G h0 hkc_8 rfl (kX11_marks l hst g E F n S a0 x1 ((mX11_marks E F S a0 x1).getD (.inl (0, S))) h0 ?_) qv_RL_103 ⟨rfl, rfl, (Nat.le_of_ble_eq_true rfl), (Nat.le_of_ble_eq_true rfl)⟩ rfl hl.1 rfl (Nat.le_of_ble_eq_true rfl) ⟨(Nat.le_of_ble_eq_true rfl), (Nat.le_of_ble_eq_true rfl)⟩ dL_marks_4 (fun k S2 ho ce q9 n1 H locs G h1 h2 h3 => ?_) (fun x ho H locs G => ?_)
  · cases hm : mX11_marks E F S a0 x1 with
    | none => rw [hm] at hsp; exact nomatch hsp
    | some v => rfl
  · have hm : mX11_marks E F S a0 x1 = some (.inl (k, S2)) := by
      cases hm : mX11_marks E F S a0 x1 with
      | none => rw [hm] at hsp; exact nomatch hsp
      | some v => rw [hm] at ho; exact congrArg some ho
    rw [hm] at hsp
    rcases Classical.em (k = 0) with w0 | w0
    · have hsp := hk_t w0 hsp
      subst w0
      refine hk_caught F9 G h1 h2 h3 [] ⟨0, 9, 12, 24⟩ [] (by rw [htab]; rfl) (fun z hz => absurd hz List.not_mem_nil) (by decide) (by decide) (name := "java/lang/IndexOutOfBoundsException") qw_957 (by decide +kernel) ?_
      refine lv_astore_n (lv' := [(3, .ref q9), (0, .ref (g.1 + a0)), (1, .int x1), (2, .ref (g.1 + a2))]) hx hb dL_marks_12 rfl hl (by decide) rfl (fun ls hl => ?_)
      refine lv_iconst (v := 1) hx hb dL_marks_13 (by decide) ?_
      obtain rfl := hk_s hsp
      exact vx_ret (W.widen (k := 1) (n := 6) (Nat.le_of_ble_eq_true rfl) (Nat.le_of_ble_eq_true rfl) (W.iret (v := 1) hx hb hr (fun t ht hW => hk_endN G ht hW) G.2.1.2.2 dL_marks_14))
    · have hsp := hk_f w0 hsp
      exact nomatch hsp
  · have hm : mX11_marks E F S a0 x1 = some (.inr x) := by
      cases hm : mX11_marks E F S a0 x1 with
      | none => rw [hm] at hsp; exact nomatch hsp
      | some v => rw [hm] at ho; exact congrArg some ho
    rw [hm] at hsp
    obtain ⟨qo, hsp⟩ := hk_k hsp
    refine lv_i2l (v := x.1.toInt64) hx hb dL_marks_7 rfl ?_
    refine hk_last (y := x.1) (j := 0) F9 G rfl hout rfl qo (by decide) dL_marks_8 (fun H locs G => ?_)
    refine lv_goto (tgt := 15) hx hb dL_marks_9 (by decide) ?_
    refine lv_iconst (v := 0) hx hb dL_marks_15 (by decide) ?_
    obtain rfl := hk_s hsp
    exact vx_ret (W.widen (k := 1) (n := 6) (Nat.le_of_ble_eq_true rfl) (Nat.le_of_ble_eq_true rfl) (W.iret (v := 0) hx hb hr (fun t ht hW => hk_endN G ht hW) G.2.1.2.2 dL_marks_16))
def mL_meanReading (E : hk_E) (F : Nat) (S : hk_S) (a0 : Nat) (x1 : Int32) (a2 : Nat) : Option (Int32 × hk_S) :=
  match mX11_meanReading E F S a0 x1 with
  | none => none
  | some (.inl (k, S1)) => if k = 0 then some (1, S1) else (none)
  | some (.inr r) => if hk_ok 0 (E.2.2.1 a2) then (some (0, hk_up r.2 a2 0 r.1)) else none
set_option maxHeartbeats 4000000 in
set_option maxRecDepth 100000 in
theorem kL_meanReading (l : Launch) (hst : l.stackTraces = false) (g : hk_G) (E : hk_E) (F n : Nat) (S : hk_S) (a0 : Nat) (x1 : Int32) (a2 : Nat) (o : Int32 × hk_S) (h0 : E.2.1 a0 = 9) (hout : E.2.1 a2 = 17) (hsp : mL_meanReading E F S a0 x1 a2 = some o) : vx_Met l yL_meanReading (hk_wsW yL_meanReading cL_meanReading 4 (Option.some Jvm.ClassFile.FieldType.int) [(0, 9, 12, 24)]) ({ frames := 8, cells := 1, slots := 6, locals := 124 }) (hk_Pc g E S n [.ref (g.1 + a0), .int x1, .ref (g.1 + a2)]) (hk_QN g E o.2 (some (.int o.1))) hk_XF 1 6 (hk_A g) := by
  refine vx_ofWH (cc := cL_meanReading) (maxL := 4) (ret := (Option.some Jvm.ClassFile.FieldType.int)) (hh := [(0, 9, 12, 24)]) (by decide) rfl ?_
  intro p e s m args below meth c s₁ B hml hv
  obtain ⟨rfl, G⟩ := hk_begin hv
  have htab := vx_table (x := yL_meanReading) B (atoms_spec (ws := hk_wsW yL_meanReading cL_meanReading 4 (Option.some Jvm.ClassFile.FieldType.int) [(0, 9, 12, 24)]) B.pre _ List.mem_cons_self)
  have F9 : CallFix p m c cL_meanReading 4 s [.ref (g.1 + a0), .int x1, .ref (g.1 + a2)].toArray hk_W RL := ⟨B.exec, B.bytes, hml, findClass_of_methodNamed B.named, fun w h => atoms_spec (ws := hk_wsW yL_meanReading cL_meanReading 4 (Option.some Jvm.ClassFile.FieldType.int) [(0, 9, 12, 24)]) B.pre w (hk_inW h)⟩
  have hx := B.exec
  have hb := B.bytes
  have hr := B.returns
  have hlocks := B.notSynchronized
  have hl := lv_entry ([.ref (g.1 + a0), .int x1, .ref (g.1 + a2)]) (n := 4) (Nat.le_of_ble_eq_true rfl)
  rw [lg_entry_eq]
  generalize (lg_sl ([.ref (g.1 + a0), .int x1, .ref (g.1 + a2)]) ++ List.replicate (4 - (lg_sl ([.ref (g.1 + a0), .int x1, .ref (g.1 + a2)])).length) Slot.unset).toArray = ls at hl ⊢
  have hl : lv_has ls 4 [(0, .ref (g.1 + a0)), (1, .int x1), (2, .ref (g.1 + a2))] := hl
  unfold mL_meanReading at hsp
  have G : hk_GG g E S n s s.heap [] := G
  refine lv_aload_n hx hb dL_meanReading_0 rfl (lv_at hl 2 rfl) ?_
  refine lv_iconst (v := 0) hx hb dL_meanReading_1 (by decide) ?_
  refine lv_aload_n hx hb dL_meanReading_2 rfl (lv_at hl 0 rfl) ?_
  refine lv_iload_n hx hb dL_meanReading_3 rfl (lv_at hl 1 rfl) ?_
  refine hk_xV (As := [.int x1]) (rest := [.int 0, .ref (g.1 + a2)]) F9 G h0 hkc_8 rfl (kX11_meanReading l hst g E F n S a0 x1 ((mX11_meanReading E F S a0 x1).getD (.inl (0, S))) h0 ?_) qv_RL_124 ⟨rfl, rfl, (Nat.le_of_ble_eq_true rfl), (Nat.le_of_ble_eq_true rfl)⟩ rfl hl.1 rfl (Nat.le_of_ble_eq_true rfl) ⟨(Nat.le_of_ble_eq_true rfl), (Nat.le_of_ble_eq_true rfl)⟩ dL_meanReading_4 (fun k S2 ho ce q9 n1 H locs G h1 h2 h3 => ?_) (fun x ho H locs G => ?_)
  · cases hm : mX11_meanReading E F S a0 x1 with
    | none => rw [hm] at hsp; exact nomatch hsp
    | some v => rfl
  · have hm : mX11_meanReading E F S a0 x1 = some (.inl (k, S2)) := by
      cases hm : mX11_meanReading E F S a0 x1 with
      | none => rw [hm] at hsp; exact nomatch hsp
      | some v => rw [hm] at ho; exact congrArg some ho
    rw [hm] at hsp
    rcases Classical.em (k = 0) with w0 | w0
    · have hsp := hk_t w0 hsp
      subst w0
      refine hk_caught F9 G h1 h2 h3 [] ⟨0, 9, 12, 24⟩ [] (by rw [htab]; rfl) (fun z hz => absurd hz List.not_mem_nil) (by decide) (by decide) (name := "java/lang/IndexOutOfBoundsException") qw_957 (by decide +kernel) ?_
      refine lv_astore_n (lv' := [(3, .ref q9), (0, .ref (g.1 + a0)), (1, .int x1), (2, .ref (g.1 + a2))]) hx hb dL_meanReading_12 rfl hl (by decide) rfl (fun ls hl => ?_)
      refine lv_iconst (v := 1) hx hb dL_meanReading_13 (by decide) ?_
      obtain rfl := hk_s hsp
      exact vx_ret (W.widen (k := 1) (n := 6) (Nat.le_of_ble_eq_true rfl) (Nat.le_of_ble_eq_true rfl) (W.iret (v := 1) hx hb hr (fun t ht hW => hk_endN G ht hW) G.2.1.2.2 dL_meanReading_14))
    · have hsp := hk_f w0 hsp
      exact nomatch hsp
  · have hm : mX11_meanReading E F S a0 x1 = some (.inr x) := by
      cases hm : mX11_meanReading E F S a0 x1 with
      | none => rw [hm] at hsp; exact nomatch hsp
      | some v => rw [hm] at ho; exact congrArg some ho
    rw [hm] at hsp
    obtain ⟨qo, hsp⟩ := hk_k hsp
    refine lv_i2l (v := x.1.toInt64) hx hb dL_meanReading_7 rfl ?_
    refine hk_last (y := x.1) (j := 0) F9 G rfl hout rfl qo (by decide) dL_meanReading_8 (fun H locs G => ?_)
    refine lv_goto (tgt := 15) hx hb dL_meanReading_9 (by decide) ?_
    refine lv_iconst (v := 0) hx hb dL_meanReading_15 (by decide) ?_
    obtain rfl := hk_s hsp
    exact vx_ret (W.widen (k := 1) (n := 6) (Nat.le_of_ble_eq_true rfl) (Nat.le_of_ble_eq_true rfl) (W.iret (v := 0) hx hb hr (fun t ht hW => hk_endN G ht hW) G.2.1.2.2 dL_meanReading_16))
def mL_moisture (E : hk_E) (F : Nat) (S : hk_S) (a0 : Nat) (x1 : Int32) (x2 : Int32) (a3 : Nat) : Option (Int32 × hk_S) :=
  match mX11_moisture E F S a0 x1 x2 with
  | none => none
  | some (.inl (k, S1)) => if k = 0 then some (1, S1) else (if k = 1 then some (2, S1) else (none))
  | some (.inr r) => if hk_ok 0 (E.2.2.1 a3) then (some (0, hk_up r.2 a3 0 r.1)) else none
set_option maxHeartbeats 4000000 in
set_option maxRecDepth 100000 in
theorem kL_moisture (l : Launch) (hst : l.stackTraces = false) (g : hk_G) (E : hk_E) (F n : Nat) (S : hk_S) (a0 : Nat) (x1 : Int32) (x2 : Int32) (a3 : Nat) (o : Int32 × hk_S) (h0 : E.2.1 a0 = 9) (hout : E.2.1 a3 = 17) (hsp : mL_moisture E F S a0 x1 x2 a3 = some o) : vx_Met l yL_moisture (hk_wsW yL_moisture cL_moisture 5 (Option.some Jvm.ClassFile.FieldType.int) [(0, 10, 13, 24), (0, 10, 17, 13)]) ({ frames := 8, cells := 2, slots := 12, locals := 127 }) (hk_Pc g E S n [.ref (g.1 + a0), .int x1, .int x2, .ref (g.1 + a3)]) (hk_QN g E o.2 (some (.int o.1))) hk_XF 2 12 (hk_A g) := by
  refine vx_ofWH (cc := cL_moisture) (maxL := 5) (ret := (Option.some Jvm.ClassFile.FieldType.int)) (hh := [(0, 10, 13, 24), (0, 10, 17, 13)]) (by decide) rfl ?_
  intro p e s m args below meth c s₁ B hml hv
  obtain ⟨rfl, G⟩ := hk_begin hv
  have htab := vx_table (x := yL_moisture) B (atoms_spec (ws := hk_wsW yL_moisture cL_moisture 5 (Option.some Jvm.ClassFile.FieldType.int) [(0, 10, 13, 24), (0, 10, 17, 13)]) B.pre _ List.mem_cons_self)
  have F9 : CallFix p m c cL_moisture 5 s [.ref (g.1 + a0), .int x1, .int x2, .ref (g.1 + a3)].toArray hk_W RL := ⟨B.exec, B.bytes, hml, findClass_of_methodNamed B.named, fun w h => atoms_spec (ws := hk_wsW yL_moisture cL_moisture 5 (Option.some Jvm.ClassFile.FieldType.int) [(0, 10, 13, 24), (0, 10, 17, 13)]) B.pre w (hk_inW h)⟩
  have hx := B.exec
  have hb := B.bytes
  have hr := B.returns
  have hlocks := B.notSynchronized
  have hl := lv_entry ([.ref (g.1 + a0), .int x1, .int x2, .ref (g.1 + a3)]) (n := 5) (Nat.le_of_ble_eq_true rfl)
  rw [lg_entry_eq]
  generalize (lg_sl ([.ref (g.1 + a0), .int x1, .int x2, .ref (g.1 + a3)]) ++ List.replicate (5 - (lg_sl ([.ref (g.1 + a0), .int x1, .int x2, .ref (g.1 + a3)])).length) Slot.unset).toArray = ls at hl ⊢
  have hl : lv_has ls 5 [(0, .ref (g.1 + a0)), (1, .int x1), (2, .int x2), (3, .ref (g.1 + a3))] := hl
  unfold mL_moisture at hsp
  have G : hk_GG g E S n s s.heap [] := G
  refine lv_aload_n hx hb dL_moisture_0 rfl (lv_at hl 3 rfl) ?_
  refine lv_iconst (v := 0) hx hb dL_moisture_1 (by decide) ?_
  refine lv_aload_n hx hb dL_moisture_2 rfl (lv_at hl 0 rfl) ?_
  refine lv_iload_n hx hb dL_moisture_3 rfl (lv_at hl 1 rfl) ?_
  refine lv_iload_n hx hb dL_moisture_4 rfl (lv_at hl 2 rfl) ?_
  refine hk_xV (As := [.int x1, .int x2]) (rest := [.int 0, .ref (g.1 + a3)]) F9 G h0 hkc_8 rfl (kX11_moisture l hst g E F n S a0 x1 x2 ((mX11_moisture E F S a0 x1 x2).getD (.inl (0, S))) h0 ?_) qv_RL_91 ⟨rfl, rfl, (Nat.le_of_ble_eq_true rfl), (Nat.le_of_ble_eq_true rfl)⟩ rfl hl.1 rfl (Nat.le_of_ble_eq_true rfl) ⟨(Nat.le_of_ble_eq_true rfl), (Nat.le_of_ble_eq_true rfl)⟩ dL_moisture_5 (fun k S2 ho ce q9 n1 H locs G h1 h2 h3 => ?_) (fun x ho H locs G => ?_)
  · cases hm : mX11_moisture E F S a0 x1 x2 with
    | none => rw [hm] at hsp; exact nomatch hsp
    | some v => rfl
  · have hm : mX11_moisture E F S a0 x1 x2 = some (.inl (k, S2)) := by
      cases hm : mX11_moisture E F S a0 x1 x2 with
      | none => rw [hm] at hsp; exact nomatch hsp
      | some v => rw [hm] at ho; exact congrArg some ho
    rw [hm] at hsp
    rcases Classical.em (k = 0) with w0 | w0
    · have hsp := hk_t w0 hsp
      subst w0
      refine hk_caught F9 G h1 h2 h3 [] ⟨0, 10, 13, 24⟩ [⟨0, 10, 17, 13⟩] (by rw [htab]; rfl) (fun z hz => absurd hz List.not_mem_nil) (by decide) (by decide) (name := "java/lang/IndexOutOfBoundsException") qw_957 (by decide +kernel) ?_
      refine lv_astore (lv' := [(4, .ref q9), (0, .ref (g.1 + a0)), (1, .int x1), (2, .int x2), (3, .ref (g.1 + a3))]) hx hb dL_moisture_13  hl (by decide) rfl (fun ls hl => ?_)
      refine lv_iconst (v := 1) hx hb dL_moisture_15 (by decide) ?_
      obtain rfl := hk_s hsp
      exact vx_ret (W.widen (k := 2) (n := 12) (Nat.le_of_ble_eq_true rfl) (Nat.le_of_ble_eq_true rfl) (W.iret (v := 1) hx hb hr (fun t ht hW => hk_endN G ht hW) G.2.1.2.2 dL_moisture_16))
    · have hsp := hk_f w0 hsp
      rcases Classical.em (k = 1) with w1 | w1
      · have hsp := hk_t w1 hsp
        subst w1
        refine hk_caught F9 G h1 h2 h3 [⟨0, 10, 13, 24⟩] ⟨0, 10, 17, 13⟩ [] (by rw [htab]; rfl) (List.forall_mem_cons.mpr ⟨Or.inr ⟨by decide, "java/lang/IndexOutOfBoundsException", qw_957, by decide +kernel⟩, fun z hz => absurd hz List.not_mem_nil⟩) (by decide) (by decide) (name := "java/lang/IllegalArgumentException") qw_850 (by decide +kernel) ?_
        refine lv_astore (lv' := [(4, .ref q9), (0, .ref (g.1 + a0)), (1, .int x1), (2, .int x2), (3, .ref (g.1 + a3))]) hx hb dL_moisture_17  hl (by decide) rfl (fun ls hl => ?_)
        refine lv_iconst (v := 2) hx hb dL_moisture_19 (by decide) ?_
        obtain rfl := hk_s hsp
        exact vx_ret (W.widen (k := 2) (n := 12) (Nat.le_of_ble_eq_true rfl) (Nat.le_of_ble_eq_true rfl) (W.iret (v := 2) hx hb hr (fun t ht hW => hk_endN G ht hW) G.2.1.2.2 dL_moisture_20))
      · have hsp := hk_f w1 hsp
        exact nomatch hsp
  · have hm : mX11_moisture E F S a0 x1 x2 = some (.inr x) := by
      cases hm : mX11_moisture E F S a0 x1 x2 with
      | none => rw [hm] at hsp; exact nomatch hsp
      | some v => rw [hm] at ho; exact congrArg some ho
    rw [hm] at hsp
    obtain ⟨qo, hsp⟩ := hk_k hsp
    refine lv_i2l (v := x.1.toInt64) hx hb dL_moisture_8 rfl ?_
    refine hk_last (y := x.1) (j := 0) F9 G rfl hout rfl qo (by decide) dL_moisture_9 (fun H locs G => ?_)
    refine lv_goto (tgt := 21) hx hb dL_moisture_10 (by decide) ?_
    refine lv_iconst (v := 0) hx hb dL_moisture_21 (by decide) ?_
    obtain rfl := hk_s hsp
    exact vx_ret (W.widen (k := 2) (n := 12) (Nat.le_of_ble_eq_true rfl) (Nat.le_of_ble_eq_true rfl) (W.iret (v := 0) hx hb hr (fun t ht hW => hk_endN G ht hW) G.2.1.2.2 dL_moisture_22))
def mL_moistureAfter (E : hk_E) (F : Nat) (S : hk_S) (a0 : Nat) (x1 : Int32) (x2 : Int32) (x3 : Int32) (a4 : Nat) : Option (Int32 × hk_S) :=
  match mX11_moistureAfter E F S a0 x1 x2 x3 with
  | none => none
  | some (.inl (k, S1)) => if k = 0 then some (1, S1) else (if k = 1 then some (2, S1) else (none))
  | some (.inr r) => if hk_ok 0 (E.2.2.1 a4) then (some (0, hk_up r.2 a4 0 r.1)) else none
set_option maxHeartbeats 4000000 in
set_option maxRecDepth 100000 in
theorem kL_moistureAfter (l : Launch) (hst : l.stackTraces = false) (g : hk_G) (E : hk_E) (F n : Nat) (S : hk_S) (a0 : Nat) (x1 : Int32) (x2 : Int32) (x3 : Int32) (a4 : Nat) (o : Int32 × hk_S) (h0 : E.2.1 a0 = 9) (hout : E.2.1 a4 = 17) (hsp : mL_moistureAfter E F S a0 x1 x2 x3 a4 = some o) : vx_Met l yL_moistureAfter (hk_wsW yL_moistureAfter cL_moistureAfter 6 (Option.some Jvm.ClassFile.FieldType.int) [(0, 12, 15, 24), (0, 12, 19, 13)]) ({ frames := 8, cells := 3, slots := 18, locals := 128 }) (hk_Pc g E S n [.ref (g.1 + a0), .int x1, .int x2, .int x3, .ref (g.1 + a4)]) (hk_QN g E o.2 (some (.int o.1))) hk_XF 3 18 (hk_A g) := by
  refine vx_ofWH (cc := cL_moistureAfter) (maxL := 6) (ret := (Option.some Jvm.ClassFile.FieldType.int)) (hh := [(0, 12, 15, 24), (0, 12, 19, 13)]) (by decide) rfl ?_
  intro p e s m args below meth c s₁ B hml hv
  obtain ⟨rfl, G⟩ := hk_begin hv
  have htab := vx_table (x := yL_moistureAfter) B (atoms_spec (ws := hk_wsW yL_moistureAfter cL_moistureAfter 6 (Option.some Jvm.ClassFile.FieldType.int) [(0, 12, 15, 24), (0, 12, 19, 13)]) B.pre _ List.mem_cons_self)
  have F9 : CallFix p m c cL_moistureAfter 6 s [.ref (g.1 + a0), .int x1, .int x2, .int x3, .ref (g.1 + a4)].toArray hk_W RL := ⟨B.exec, B.bytes, hml, findClass_of_methodNamed B.named, fun w h => atoms_spec (ws := hk_wsW yL_moistureAfter cL_moistureAfter 6 (Option.some Jvm.ClassFile.FieldType.int) [(0, 12, 15, 24), (0, 12, 19, 13)]) B.pre w (hk_inW h)⟩
  have hx := B.exec
  have hb := B.bytes
  have hr := B.returns
  have hlocks := B.notSynchronized
  have hl := lv_entry ([.ref (g.1 + a0), .int x1, .int x2, .int x3, .ref (g.1 + a4)]) (n := 6) (Nat.le_of_ble_eq_true rfl)
  rw [lg_entry_eq]
  generalize (lg_sl ([.ref (g.1 + a0), .int x1, .int x2, .int x3, .ref (g.1 + a4)]) ++ List.replicate (6 - (lg_sl ([.ref (g.1 + a0), .int x1, .int x2, .int x3, .ref (g.1 + a4)])).length) Slot.unset).toArray = ls at hl ⊢
  have hl : lv_has ls 6 [(0, .ref (g.1 + a0)), (1, .int x1), (2, .int x2), (3, .int x3), (4, .ref (g.1 + a4))] := hl
  unfold mL_moistureAfter at hsp
  have G : hk_GG g E S n s s.heap [] := G
  refine lv_aload hx hb dL_moistureAfter_0 (lv_at hl 4 rfl) ?_
  refine lv_iconst (v := 0) hx hb dL_moistureAfter_2 (by decide) ?_
  refine lv_aload_n hx hb dL_moistureAfter_3 rfl (lv_at hl 0 rfl) ?_
  refine lv_iload_n hx hb dL_moistureAfter_4 rfl (lv_at hl 1 rfl) ?_
  refine lv_iload_n hx hb dL_moistureAfter_5 rfl (lv_at hl 2 rfl) ?_
  refine lv_iload_n hx hb dL_moistureAfter_6 rfl (lv_at hl 3 rfl) ?_
  refine hk_xV (As := [.int x1, .int x2, .int x3]) (rest := [.int 0, .ref (g.1 + a4)]) F9 G h0 hkc_8 rfl (kX11_moistureAfter l hst g E F n S a0 x1 x2 x3 ((mX11_moistureAfter E F S a0 x1 x2 x3).getD (.inl (0, S))) h0 ?_) qv_RL_127 ⟨rfl, rfl, (Nat.le_of_ble_eq_true rfl), (Nat.le_of_ble_eq_true rfl)⟩ rfl hl.1 rfl (Nat.le_of_ble_eq_true rfl) ⟨(Nat.le_of_ble_eq_true rfl), (Nat.le_of_ble_eq_true rfl)⟩ dL_moistureAfter_7 (fun k S2 ho ce q9 n1 H locs G h1 h2 h3 => ?_) (fun x ho H locs G => ?_)
  · cases hm : mX11_moistureAfter E F S a0 x1 x2 x3 with
    | none => rw [hm] at hsp; exact nomatch hsp
    | some v => rfl
  · have hm : mX11_moistureAfter E F S a0 x1 x2 x3 = some (.inl (k, S2)) := by
      cases hm : mX11_moistureAfter E F S a0 x1 x2 x3 with
      | none => rw [hm] at hsp; exact nomatch hsp
      | some v => rw [hm] at ho; exact congrArg some ho
    rw [hm] at hsp
    rcases Classical.em (k = 0) with w0 | w0
    · have hsp := hk_t w0 hsp
      subst w0
      refine hk_caught F9 G h1 h2 h3 [] ⟨0, 12, 15, 24⟩ [⟨0, 12, 19, 13⟩] (by rw [htab]; rfl) (fun z hz => absurd hz List.not_mem_nil) (by decide) (by decide) (name := "java/lang/IndexOutOfBoundsException") qw_957 (by decide +kernel) ?_
      refine lv_astore (lv' := [(5, .ref q9), (0, .ref (g.1 + a0)), (1, .int x1), (2, .int x2), (3, .int x3), (4, .ref (g.1 + a4))]) hx hb dL_moistureAfter_15  hl (by decide) rfl (fun ls hl => ?_)
      refine lv_iconst (v := 1) hx hb dL_moistureAfter_17 (by decide) ?_
      obtain rfl := hk_s hsp
      exact vx_ret (W.widen (k := 3) (n := 18) (Nat.le_of_ble_eq_true rfl) (Nat.le_of_ble_eq_true rfl) (W.iret (v := 1) hx hb hr (fun t ht hW => hk_endN G ht hW) G.2.1.2.2 dL_moistureAfter_18))
    · have hsp := hk_f w0 hsp
      rcases Classical.em (k = 1) with w1 | w1
      · have hsp := hk_t w1 hsp
        subst w1
        refine hk_caught F9 G h1 h2 h3 [⟨0, 12, 15, 24⟩] ⟨0, 12, 19, 13⟩ [] (by rw [htab]; rfl) (List.forall_mem_cons.mpr ⟨Or.inr ⟨by decide, "java/lang/IndexOutOfBoundsException", qw_957, by decide +kernel⟩, fun z hz => absurd hz List.not_mem_nil⟩) (by decide) (by decide) (name := "java/lang/IllegalArgumentException") qw_850 (by decide +kernel) ?_
        refine lv_astore (lv' := [(5, .ref q9), (0, .ref (g.1 + a0)), (1, .int x1), (2, .int x2), (3, .int x3), (4, .ref (g.1 + a4))]) hx hb dL_moistureAfter_19  hl (by decide) rfl (fun ls hl => ?_)
        refine lv_iconst (v := 2) hx hb dL_moistureAfter_21 (by decide) ?_
        obtain rfl := hk_s hsp
        exact vx_ret (W.widen (k := 3) (n := 18) (Nat.le_of_ble_eq_true rfl) (Nat.le_of_ble_eq_true rfl) (W.iret (v := 2) hx hb hr (fun t ht hW => hk_endN G ht hW) G.2.1.2.2 dL_moistureAfter_22))
      · have hsp := hk_f w1 hsp
        exact nomatch hsp
  · have hm : mX11_moistureAfter E F S a0 x1 x2 x3 = some (.inr x) := by
      cases hm : mX11_moistureAfter E F S a0 x1 x2 x3 with
      | none => rw [hm] at hsp; exact nomatch hsp
      | some v => rw [hm] at ho; exact congrArg some ho
    rw [hm] at hsp
    obtain ⟨qo, hsp⟩ := hk_k hsp
    refine lv_i2l (v := x.1.toInt64) hx hb dL_moistureAfter_10 rfl ?_
    refine hk_last (y := x.1) (j := 0) F9 G rfl hout rfl qo (by decide) dL_moistureAfter_11 (fun H locs G => ?_)
    refine lv_goto (tgt := 23) hx hb dL_moistureAfter_12 (by decide) ?_
    refine lv_iconst (v := 0) hx hb dL_moistureAfter_23 (by decide) ?_
    obtain rfl := hk_s hsp
    exact vx_ret (W.widen (k := 3) (n := 18) (Nat.le_of_ble_eq_true rfl) (Nat.le_of_ble_eq_true rfl) (W.iret (v := 0) hx hb hr (fun t ht hW => hk_endN G ht hW) G.2.1.2.2 dL_moistureAfter_24))
def mL_moveProbe (E : hk_E) (F : Nat) (S : hk_S) (a0 : Nat) (x1 : Int32) (x2 : Int32) (x3 : Int32) (a4 : Nat) : Option (Int32 × hk_S) :=
  match mX11_moveProbe E F S a0 x1 x2 x3 with
  | none => none
  | some (.inl (k, S1)) => if k = 0 then some (1, S1) else (if k = 1 then some (2, S1) else (none))
  | some (.inr r) => if hk_ok 0 (E.2.2.1 a4) then (some (0, hk_up r.2 a4 0 r.1)) else none
set_option maxHeartbeats 4000000 in
set_option maxRecDepth 100000 in
theorem kL_moveProbe (l : Launch) (hst : l.stackTraces = false) (g : hk_G) (E : hk_E) (F n : Nat) (S : hk_S) (a0 : Nat) (x1 : Int32) (x2 : Int32) (x3 : Int32) (a4 : Nat) (o : Int32 × hk_S) (h0 : E.2.1 a0 = 9) (hout : E.2.1 a4 = 17) (hsp : mL_moveProbe E F S a0 x1 x2 x3 a4 = some o) : vx_Met l yL_moveProbe (hk_wsW yL_moveProbe cL_moveProbe 6 (Option.some Jvm.ClassFile.FieldType.int) [(0, 12, 15, 24), (0, 12, 19, 13)]) ({ frames := 8, cells := 3, slots := 18, locals := 129 }) (hk_Pc g E S n [.ref (g.1 + a0), .int x1, .int x2, .int x3, .ref (g.1 + a4)]) (hk_QN g E o.2 (some (.int o.1))) hk_XF 3 18 (hk_A g) := by
  refine vx_ofWH (cc := cL_moveProbe) (maxL := 6) (ret := (Option.some Jvm.ClassFile.FieldType.int)) (hh := [(0, 12, 15, 24), (0, 12, 19, 13)]) (by decide) rfl ?_
  intro p e s m args below meth c s₁ B hml hv
  obtain ⟨rfl, G⟩ := hk_begin hv
  have htab := vx_table (x := yL_moveProbe) B (atoms_spec (ws := hk_wsW yL_moveProbe cL_moveProbe 6 (Option.some Jvm.ClassFile.FieldType.int) [(0, 12, 15, 24), (0, 12, 19, 13)]) B.pre _ List.mem_cons_self)
  have F9 : CallFix p m c cL_moveProbe 6 s [.ref (g.1 + a0), .int x1, .int x2, .int x3, .ref (g.1 + a4)].toArray hk_W RL := ⟨B.exec, B.bytes, hml, findClass_of_methodNamed B.named, fun w h => atoms_spec (ws := hk_wsW yL_moveProbe cL_moveProbe 6 (Option.some Jvm.ClassFile.FieldType.int) [(0, 12, 15, 24), (0, 12, 19, 13)]) B.pre w (hk_inW h)⟩
  have hx := B.exec
  have hb := B.bytes
  have hr := B.returns
  have hlocks := B.notSynchronized
  have hl := lv_entry ([.ref (g.1 + a0), .int x1, .int x2, .int x3, .ref (g.1 + a4)]) (n := 6) (Nat.le_of_ble_eq_true rfl)
  rw [lg_entry_eq]
  generalize (lg_sl ([.ref (g.1 + a0), .int x1, .int x2, .int x3, .ref (g.1 + a4)]) ++ List.replicate (6 - (lg_sl ([.ref (g.1 + a0), .int x1, .int x2, .int x3, .ref (g.1 + a4)])).length) Slot.unset).toArray = ls at hl ⊢
  have hl : lv_has ls 6 [(0, .ref (g.1 + a0)), (1, .int x1), (2, .int x2), (3, .int x3), (4, .ref (g.1 + a4))] := hl
  unfold mL_moveProbe at hsp
  have G : hk_GG g E S n s s.heap [] := G
  refine lv_aload hx hb dL_moveProbe_0 (lv_at hl 4 rfl) ?_
  refine lv_iconst (v := 0) hx hb dL_moveProbe_2 (by decide) ?_
  refine lv_aload_n hx hb dL_moveProbe_3 rfl (lv_at hl 0 rfl) ?_
  refine lv_iload_n hx hb dL_moveProbe_4 rfl (lv_at hl 1 rfl) ?_
  refine lv_iload_n hx hb dL_moveProbe_5 rfl (lv_at hl 2 rfl) ?_
  refine lv_iload_n hx hb dL_moveProbe_6 rfl (lv_at hl 3 rfl) ?_
  refine hk_xV (As := [.int x1, .int x2, .int x3]) (rest := [.int 0, .ref (g.1 + a4)]) F9 G h0 hkc_8 rfl (kX11_moveProbe l hst g E F n S a0 x1 x2 x3 ((mX11_moveProbe E F S a0 x1 x2 x3).getD (.inl (0, S))) h0 ?_) qv_RL_58 ⟨rfl, rfl, (Nat.le_of_ble_eq_true rfl), (Nat.le_of_ble_eq_true rfl)⟩ rfl hl.1 rfl (Nat.le_of_ble_eq_true rfl) ⟨(Nat.le_of_ble_eq_true rfl), (Nat.le_of_ble_eq_true rfl)⟩ dL_moveProbe_7 (fun k S2 ho ce q9 n1 H locs G h1 h2 h3 => ?_) (fun x ho H locs G => ?_)
  · cases hm : mX11_moveProbe E F S a0 x1 x2 x3 with
    | none => rw [hm] at hsp; exact nomatch hsp
    | some v => rfl
  · have hm : mX11_moveProbe E F S a0 x1 x2 x3 = some (.inl (k, S2)) := by
      cases hm : mX11_moveProbe E F S a0 x1 x2 x3 with
      | none => rw [hm] at hsp; exact nomatch hsp
      | some v => rw [hm] at ho; exact congrArg some ho
    rw [hm] at hsp
    rcases Classical.em (k = 0) with w0 | w0
    · have hsp := hk_t w0 hsp
      subst w0
      refine hk_caught F9 G h1 h2 h3 [] ⟨0, 12, 15, 24⟩ [⟨0, 12, 19, 13⟩] (by rw [htab]; rfl) (fun z hz => absurd hz List.not_mem_nil) (by decide) (by decide) (name := "java/lang/IndexOutOfBoundsException") qw_957 (by decide +kernel) ?_
      refine lv_astore (lv' := [(5, .ref q9), (0, .ref (g.1 + a0)), (1, .int x1), (2, .int x2), (3, .int x3), (4, .ref (g.1 + a4))]) hx hb dL_moveProbe_15  hl (by decide) rfl (fun ls hl => ?_)
      refine lv_iconst (v := 1) hx hb dL_moveProbe_17 (by decide) ?_
      obtain rfl := hk_s hsp
      exact vx_ret (W.widen (k := 3) (n := 18) (Nat.le_of_ble_eq_true rfl) (Nat.le_of_ble_eq_true rfl) (W.iret (v := 1) hx hb hr (fun t ht hW => hk_endN G ht hW) G.2.1.2.2 dL_moveProbe_18))
    · have hsp := hk_f w0 hsp
      rcases Classical.em (k = 1) with w1 | w1
      · have hsp := hk_t w1 hsp
        subst w1
        refine hk_caught F9 G h1 h2 h3 [⟨0, 12, 15, 24⟩] ⟨0, 12, 19, 13⟩ [] (by rw [htab]; rfl) (List.forall_mem_cons.mpr ⟨Or.inr ⟨by decide, "java/lang/IndexOutOfBoundsException", qw_957, by decide +kernel⟩, fun z hz => absurd hz List.not_mem_nil⟩) (by decide) (by decide) (name := "java/lang/IllegalArgumentException") qw_850 (by decide +kernel) ?_
        refine lv_astore (lv' := [(5, .ref q9), (0, .ref (g.1 + a0)), (1, .int x1), (2, .int x2), (3, .int x3), (4, .ref (g.1 + a4))]) hx hb dL_moveProbe_19  hl (by decide) rfl (fun ls hl => ?_)
        refine lv_iconst (v := 2) hx hb dL_moveProbe_21 (by decide) ?_
        obtain rfl := hk_s hsp
        exact vx_ret (W.widen (k := 3) (n := 18) (Nat.le_of_ble_eq_true rfl) (Nat.le_of_ble_eq_true rfl) (W.iret (v := 2) hx hb hr (fun t ht hW => hk_endN G ht hW) G.2.1.2.2 dL_moveProbe_22))
      · have hsp := hk_f w1 hsp
        exact nomatch hsp
  · have hm : mX11_moveProbe E F S a0 x1 x2 x3 = some (.inr x) := by
      cases hm : mX11_moveProbe E F S a0 x1 x2 x3 with
      | none => rw [hm] at hsp; exact nomatch hsp
      | some v => rw [hm] at ho; exact congrArg some ho
    rw [hm] at hsp
    obtain ⟨qo, hsp⟩ := hk_k hsp
    refine lv_i2l (v := x.1.toInt64) hx hb dL_moveProbe_10 rfl ?_
    refine hk_last (y := x.1) (j := 0) F9 G rfl hout rfl qo (by decide) dL_moveProbe_11 (fun H locs G => ?_)
    refine lv_goto (tgt := 23) hx hb dL_moveProbe_12 (by decide) ?_
    refine lv_iconst (v := 0) hx hb dL_moveProbe_23 (by decide) ?_
    obtain rfl := hk_s hsp
    exact vx_ret (W.widen (k := 3) (n := 18) (Nat.le_of_ble_eq_true rfl) (Nat.le_of_ble_eq_true rfl) (W.iret (v := 0) hx hb hr (fun t ht hW => hk_endN G ht hW) G.2.1.2.2 dL_moveProbe_24))
def mL_passHours (E : hk_E) (F : Nat) (S : hk_S) (a0 : Nat) (x1 : Int32) (a2 : Nat) : Option (Int32 × hk_S) :=
  match mX11_passHours E F S a0 x1 with
  | none => none
  | some (.inl (k, S1)) => if k = 1 then some (1, S1) else (if k = 2 then some (2, S1) else (none))
  | some (.inr r) => if hk_ok 0 (E.2.2.1 a2) then (some (0, hk_up r.2 a2 0 r.1)) else none
set_option maxHeartbeats 4000000 in
set_option maxRecDepth 100000 in
theorem kL_passHours (l : Launch) (hst : l.stackTraces = false) (g : hk_G) (E : hk_E) (F n : Nat) (S : hk_S) (a0 : Nat) (x1 : Int32) (a2 : Nat) (o : Int32 × hk_S) (h0 : E.2.1 a0 = 9) (hout : E.2.1 a2 = 17) (hsp : mL_passHours E F S a0 x1 a2 = some o) : vx_Met l yL_passHours (hk_wsW yL_passHours cL_passHours 4 (Option.some Jvm.ClassFile.FieldType.int) [(0, 9, 12, 13), (0, 9, 15, 18)]) ({ frames := 8, cells := 2, slots := 12, locals := 125 }) (hk_Pc g E S n [.ref (g.1 + a0), .int x1, .ref (g.1 + a2)]) (hk_QN g E o.2 (some (.int o.1))) hk_XF 2 12 (hk_A g) := by
  refine vx_ofWH (cc := cL_passHours) (maxL := 4) (ret := (Option.some Jvm.ClassFile.FieldType.int)) (hh := [(0, 9, 12, 13), (0, 9, 15, 18)]) (by decide) rfl ?_
  intro p e s m args below meth c s₁ B hml hv
  obtain ⟨rfl, G⟩ := hk_begin hv
  have htab := vx_table (x := yL_passHours) B (atoms_spec (ws := hk_wsW yL_passHours cL_passHours 4 (Option.some Jvm.ClassFile.FieldType.int) [(0, 9, 12, 13), (0, 9, 15, 18)]) B.pre _ List.mem_cons_self)
  have F9 : CallFix p m c cL_passHours 4 s [.ref (g.1 + a0), .int x1, .ref (g.1 + a2)].toArray hk_W RL := ⟨B.exec, B.bytes, hml, findClass_of_methodNamed B.named, fun w h => atoms_spec (ws := hk_wsW yL_passHours cL_passHours 4 (Option.some Jvm.ClassFile.FieldType.int) [(0, 9, 12, 13), (0, 9, 15, 18)]) B.pre w (hk_inW h)⟩
  have hx := B.exec
  have hb := B.bytes
  have hr := B.returns
  have hlocks := B.notSynchronized
  have hl := lv_entry ([.ref (g.1 + a0), .int x1, .ref (g.1 + a2)]) (n := 4) (Nat.le_of_ble_eq_true rfl)
  rw [lg_entry_eq]
  generalize (lg_sl ([.ref (g.1 + a0), .int x1, .ref (g.1 + a2)]) ++ List.replicate (4 - (lg_sl ([.ref (g.1 + a0), .int x1, .ref (g.1 + a2)])).length) Slot.unset).toArray = ls at hl ⊢
  have hl : lv_has ls 4 [(0, .ref (g.1 + a0)), (1, .int x1), (2, .ref (g.1 + a2))] := hl
  unfold mL_passHours at hsp
  have G : hk_GG g E S n s s.heap [] := G
  refine lv_aload_n hx hb dL_passHours_0 rfl (lv_at hl 2 rfl) ?_
  refine lv_iconst (v := 0) hx hb dL_passHours_1 (by decide) ?_
  refine lv_aload_n hx hb dL_passHours_2 rfl (lv_at hl 0 rfl) ?_
  refine lv_iload_n hx hb dL_passHours_3 rfl (lv_at hl 1 rfl) ?_
  refine hk_xV (As := [.int x1]) (rest := [.int 0, .ref (g.1 + a2)]) F9 G h0 hkc_8 rfl (kX11_passHours l hst g E F n S a0 x1 ((mX11_passHours E F S a0 x1).getD (.inl (0, S))) h0 ?_) qv_RL_64 ⟨rfl, rfl, (Nat.le_of_ble_eq_true rfl), (Nat.le_of_ble_eq_true rfl)⟩ rfl hl.1 rfl (Nat.le_of_ble_eq_true rfl) ⟨(Nat.le_of_ble_eq_true rfl), (Nat.le_of_ble_eq_true rfl)⟩ dL_passHours_4 (fun k S2 ho ce q9 n1 H locs G h1 h2 h3 => ?_) (fun x ho H locs G => ?_)
  · cases hm : mX11_passHours E F S a0 x1 with
    | none => rw [hm] at hsp; exact nomatch hsp
    | some v => rfl
  · have hm : mX11_passHours E F S a0 x1 = some (.inl (k, S2)) := by
      cases hm : mX11_passHours E F S a0 x1 with
      | none => rw [hm] at hsp; exact nomatch hsp
      | some v => rw [hm] at ho; exact congrArg some ho
    rw [hm] at hsp
    rcases Classical.em (k = 1) with w0 | w0
    · have hsp := hk_t w0 hsp
      subst w0
      refine hk_caught F9 G h1 h2 h3 [] ⟨0, 9, 12, 13⟩ [⟨0, 9, 15, 18⟩] (by rw [htab]; rfl) (fun z hz => absurd hz List.not_mem_nil) (by decide) (by decide) (name := "java/lang/IllegalArgumentException") qw_850 (by decide +kernel) ?_
      refine lv_astore_n (lv' := [(3, .ref q9), (0, .ref (g.1 + a0)), (1, .int x1), (2, .ref (g.1 + a2))]) hx hb dL_passHours_12 rfl hl (by decide) rfl (fun ls hl => ?_)
      refine lv_iconst (v := 1) hx hb dL_passHours_13 (by decide) ?_
      obtain rfl := hk_s hsp
      exact vx_ret (W.widen (k := 2) (n := 12) (Nat.le_of_ble_eq_true rfl) (Nat.le_of_ble_eq_true rfl) (W.iret (v := 1) hx hb hr (fun t ht hW => hk_endN G ht hW) G.2.1.2.2 dL_passHours_14))
    · have hsp := hk_f w0 hsp
      rcases Classical.em (k = 2) with w1 | w1
      · have hsp := hk_t w1 hsp
        subst w1
        refine hk_caught F9 G h1 h2 h3 [⟨0, 9, 12, 13⟩] ⟨0, 9, 15, 18⟩ [] (by rw [htab]; rfl) (List.forall_mem_cons.mpr ⟨Or.inr ⟨by decide, "java/lang/IllegalArgumentException", qw_850, by decide +kernel⟩, fun z hz => absurd hz List.not_mem_nil⟩) (by decide) (by decide) (name := "java/lang/IllegalStateException") qw_929 (by decide +kernel) ?_
        refine lv_astore_n (lv' := [(3, .ref q9), (0, .ref (g.1 + a0)), (1, .int x1), (2, .ref (g.1 + a2))]) hx hb dL_passHours_15 rfl hl (by decide) rfl (fun ls hl => ?_)
        refine lv_iconst (v := 2) hx hb dL_passHours_16 (by decide) ?_
        obtain rfl := hk_s hsp
        exact vx_ret (W.widen (k := 2) (n := 12) (Nat.le_of_ble_eq_true rfl) (Nat.le_of_ble_eq_true rfl) (W.iret (v := 2) hx hb hr (fun t ht hW => hk_endN G ht hW) G.2.1.2.2 dL_passHours_17))
      · have hsp := hk_f w1 hsp
        exact nomatch hsp
  · have hm : mX11_passHours E F S a0 x1 = some (.inr x) := by
      cases hm : mX11_passHours E F S a0 x1 with
      | none => rw [hm] at hsp; exact nomatch hsp
      | some v => rw [hm] at ho; exact congrArg some ho
    rw [hm] at hsp
    obtain ⟨qo, hsp⟩ := hk_k hsp
    refine lv_i2l (v := x.1.toInt64) hx hb dL_passHours_7 rfl ?_
    refine hk_last (y := x.1) (j := 0) F9 G rfl hout rfl qo (by decide) dL_passHours_8 (fun H locs G => ?_)
    refine lv_goto (tgt := 18) hx hb dL_passHours_9 (by decide) ?_
    refine lv_iconst (v := 0) hx hb dL_passHours_18 (by decide) ?_
    obtain rfl := hk_s hsp
    exact vx_ret (W.widen (k := 2) (n := 12) (Nat.le_of_ble_eq_true rfl) (Nat.le_of_ble_eq_true rfl) (W.iret (v := 0) hx hb hr (fun t ht hW => hk_endN G ht hW) G.2.1.2.2 dL_passHours_19))
def mL_probeLayer (E : hk_E) (F : Nat) (S : hk_S) (a0 : Nat) (x1 : Int32) (a2 : Nat) : Option (Int32 × hk_S) :=
  match mX11_probeLayer E F S a0 x1 with
  | none => none
  | some (.inl (k, S1)) => if k = 0 then some (1, S1) else (none)
  | some (.inr r) => if hk_ok 0 (E.2.2.1 a2) then (some (0, hk_up r.2 a2 0 r.1)) else none
set_option maxHeartbeats 4000000 in
set_option maxRecDepth 100000 in
theorem kL_probeLayer (l : Launch) (hst : l.stackTraces = false) (g : hk_G) (E : hk_E) (F n : Nat) (S : hk_S) (a0 : Nat) (x1 : Int32) (a2 : Nat) (o : Int32 × hk_S) (h0 : E.2.1 a0 = 9) (hout : E.2.1 a2 = 17) (hsp : mL_probeLayer E F S a0 x1 a2 = some o) : vx_Met l yL_probeLayer (hk_wsW yL_probeLayer cL_probeLayer 4 (Option.some Jvm.ClassFile.FieldType.int) [(0, 9, 12, 24)]) ({ frames := 8, cells := 1, slots := 6, locals := 124 }) (hk_Pc g E S n [.ref (g.1 + a0), .int x1, .ref (g.1 + a2)]) (hk_QN g E o.2 (some (.int o.1))) hk_XF 1 6 (hk_A g) := by
  refine vx_ofWH (cc := cL_probeLayer) (maxL := 4) (ret := (Option.some Jvm.ClassFile.FieldType.int)) (hh := [(0, 9, 12, 24)]) (by decide) rfl ?_
  intro p e s m args below meth c s₁ B hml hv
  obtain ⟨rfl, G⟩ := hk_begin hv
  have htab := vx_table (x := yL_probeLayer) B (atoms_spec (ws := hk_wsW yL_probeLayer cL_probeLayer 4 (Option.some Jvm.ClassFile.FieldType.int) [(0, 9, 12, 24)]) B.pre _ List.mem_cons_self)
  have F9 : CallFix p m c cL_probeLayer 4 s [.ref (g.1 + a0), .int x1, .ref (g.1 + a2)].toArray hk_W RL := ⟨B.exec, B.bytes, hml, findClass_of_methodNamed B.named, fun w h => atoms_spec (ws := hk_wsW yL_probeLayer cL_probeLayer 4 (Option.some Jvm.ClassFile.FieldType.int) [(0, 9, 12, 24)]) B.pre w (hk_inW h)⟩
  have hx := B.exec
  have hb := B.bytes
  have hr := B.returns
  have hlocks := B.notSynchronized
  have hl := lv_entry ([.ref (g.1 + a0), .int x1, .ref (g.1 + a2)]) (n := 4) (Nat.le_of_ble_eq_true rfl)
  rw [lg_entry_eq]
  generalize (lg_sl ([.ref (g.1 + a0), .int x1, .ref (g.1 + a2)]) ++ List.replicate (4 - (lg_sl ([.ref (g.1 + a0), .int x1, .ref (g.1 + a2)])).length) Slot.unset).toArray = ls at hl ⊢
  have hl : lv_has ls 4 [(0, .ref (g.1 + a0)), (1, .int x1), (2, .ref (g.1 + a2))] := hl
  unfold mL_probeLayer at hsp
  have G : hk_GG g E S n s s.heap [] := G
  refine lv_aload_n hx hb dL_probeLayer_0 rfl (lv_at hl 2 rfl) ?_
  refine lv_iconst (v := 0) hx hb dL_probeLayer_1 (by decide) ?_
  refine lv_aload_n hx hb dL_probeLayer_2 rfl (lv_at hl 0 rfl) ?_
  refine lv_iload_n hx hb dL_probeLayer_3 rfl (lv_at hl 1 rfl) ?_
  refine hk_xV (As := [.int x1]) (rest := [.int 0, .ref (g.1 + a2)]) F9 G h0 hkc_8 rfl (kX11_probeLayer l hst g E F n S a0 x1 ((mX11_probeLayer E F S a0 x1).getD (.inl (0, S))) h0 ?_) qv_RL_121 ⟨rfl, rfl, (Nat.le_of_ble_eq_true rfl), (Nat.le_of_ble_eq_true rfl)⟩ rfl hl.1 rfl (Nat.le_of_ble_eq_true rfl) ⟨(Nat.le_of_ble_eq_true rfl), (Nat.le_of_ble_eq_true rfl)⟩ dL_probeLayer_4 (fun k S2 ho ce q9 n1 H locs G h1 h2 h3 => ?_) (fun x ho H locs G => ?_)
  · cases hm : mX11_probeLayer E F S a0 x1 with
    | none => rw [hm] at hsp; exact nomatch hsp
    | some v => rfl
  · have hm : mX11_probeLayer E F S a0 x1 = some (.inl (k, S2)) := by
      cases hm : mX11_probeLayer E F S a0 x1 with
      | none => rw [hm] at hsp; exact nomatch hsp
      | some v => rw [hm] at ho; exact congrArg some ho
    rw [hm] at hsp
    rcases Classical.em (k = 0) with w0 | w0
    · have hsp := hk_t w0 hsp
      subst w0
      refine hk_caught F9 G h1 h2 h3 [] ⟨0, 9, 12, 24⟩ [] (by rw [htab]; rfl) (fun z hz => absurd hz List.not_mem_nil) (by decide) (by decide) (name := "java/lang/IndexOutOfBoundsException") qw_957 (by decide +kernel) ?_
      refine lv_astore_n (lv' := [(3, .ref q9), (0, .ref (g.1 + a0)), (1, .int x1), (2, .ref (g.1 + a2))]) hx hb dL_probeLayer_12 rfl hl (by decide) rfl (fun ls hl => ?_)
      refine lv_iconst (v := 1) hx hb dL_probeLayer_13 (by decide) ?_
      obtain rfl := hk_s hsp
      exact vx_ret (W.widen (k := 1) (n := 6) (Nat.le_of_ble_eq_true rfl) (Nat.le_of_ble_eq_true rfl) (W.iret (v := 1) hx hb hr (fun t ht hW => hk_endN G ht hW) G.2.1.2.2 dL_probeLayer_14))
    · have hsp := hk_f w0 hsp
      exact nomatch hsp
  · have hm : mX11_probeLayer E F S a0 x1 = some (.inr x) := by
      cases hm : mX11_probeLayer E F S a0 x1 with
      | none => rw [hm] at hsp; exact nomatch hsp
      | some v => rw [hm] at ho; exact congrArg some ho
    rw [hm] at hsp
    obtain ⟨qo, hsp⟩ := hk_k hsp
    refine lv_i2l (v := x.1.toInt64) hx hb dL_probeLayer_7 rfl ?_
    refine hk_last (y := x.1) (j := 0) F9 G rfl hout rfl qo (by decide) dL_probeLayer_8 (fun H locs G => ?_)
    refine lv_goto (tgt := 15) hx hb dL_probeLayer_9 (by decide) ?_
    refine lv_iconst (v := 0) hx hb dL_probeLayer_15 (by decide) ?_
    obtain rfl := hk_s hsp
    exact vx_ret (W.widen (k := 1) (n := 6) (Nat.le_of_ble_eq_true rfl) (Nat.le_of_ble_eq_true rfl) (W.iret (v := 0) hx hb hr (fun t ht hW => hk_endN G ht hW) G.2.1.2.2 dL_probeLayer_16))
def mL_probeTrough (E : hk_E) (F : Nat) (S : hk_S) (a0 : Nat) (x1 : Int32) (a2 : Nat) : Option (Int32 × hk_S) :=
  match mX11_probeTrough E F S a0 x1 with
  | none => none
  | some (.inl (k, S1)) => if k = 0 then some (1, S1) else (none)
  | some (.inr r) => if hk_ok 0 (E.2.2.1 a2) then (some (0, hk_up r.2 a2 0 r.1)) else none
set_option maxHeartbeats 4000000 in
set_option maxRecDepth 100000 in
theorem kL_probeTrough (l : Launch) (hst : l.stackTraces = false) (g : hk_G) (E : hk_E) (F n : Nat) (S : hk_S) (a0 : Nat) (x1 : Int32) (a2 : Nat) (o : Int32 × hk_S) (h0 : E.2.1 a0 = 9) (hout : E.2.1 a2 = 17) (hsp : mL_probeTrough E F S a0 x1 a2 = some o) : vx_Met l yL_probeTrough (hk_wsW yL_probeTrough cL_probeTrough 4 (Option.some Jvm.ClassFile.FieldType.int) [(0, 9, 12, 24)]) ({ frames := 8, cells := 1, slots := 6, locals := 124 }) (hk_Pc g E S n [.ref (g.1 + a0), .int x1, .ref (g.1 + a2)]) (hk_QN g E o.2 (some (.int o.1))) hk_XF 1 6 (hk_A g) := by
  refine vx_ofWH (cc := cL_probeTrough) (maxL := 4) (ret := (Option.some Jvm.ClassFile.FieldType.int)) (hh := [(0, 9, 12, 24)]) (by decide) rfl ?_
  intro p e s m args below meth c s₁ B hml hv
  obtain ⟨rfl, G⟩ := hk_begin hv
  have htab := vx_table (x := yL_probeTrough) B (atoms_spec (ws := hk_wsW yL_probeTrough cL_probeTrough 4 (Option.some Jvm.ClassFile.FieldType.int) [(0, 9, 12, 24)]) B.pre _ List.mem_cons_self)
  have F9 : CallFix p m c cL_probeTrough 4 s [.ref (g.1 + a0), .int x1, .ref (g.1 + a2)].toArray hk_W RL := ⟨B.exec, B.bytes, hml, findClass_of_methodNamed B.named, fun w h => atoms_spec (ws := hk_wsW yL_probeTrough cL_probeTrough 4 (Option.some Jvm.ClassFile.FieldType.int) [(0, 9, 12, 24)]) B.pre w (hk_inW h)⟩
  have hx := B.exec
  have hb := B.bytes
  have hr := B.returns
  have hlocks := B.notSynchronized
  have hl := lv_entry ([.ref (g.1 + a0), .int x1, .ref (g.1 + a2)]) (n := 4) (Nat.le_of_ble_eq_true rfl)
  rw [lg_entry_eq]
  generalize (lg_sl ([.ref (g.1 + a0), .int x1, .ref (g.1 + a2)]) ++ List.replicate (4 - (lg_sl ([.ref (g.1 + a0), .int x1, .ref (g.1 + a2)])).length) Slot.unset).toArray = ls at hl ⊢
  have hl : lv_has ls 4 [(0, .ref (g.1 + a0)), (1, .int x1), (2, .ref (g.1 + a2))] := hl
  unfold mL_probeTrough at hsp
  have G : hk_GG g E S n s s.heap [] := G
  refine lv_aload_n hx hb dL_probeTrough_0 rfl (lv_at hl 2 rfl) ?_
  refine lv_iconst (v := 0) hx hb dL_probeTrough_1 (by decide) ?_
  refine lv_aload_n hx hb dL_probeTrough_2 rfl (lv_at hl 0 rfl) ?_
  refine lv_iload_n hx hb dL_probeTrough_3 rfl (lv_at hl 1 rfl) ?_
  refine hk_xV (As := [.int x1]) (rest := [.int 0, .ref (g.1 + a2)]) F9 G h0 hkc_8 rfl (kX11_probeTrough l hst g E F n S a0 x1 ((mX11_probeTrough E F S a0 x1).getD (.inl (0, S))) h0 ?_) qv_RL_118 ⟨rfl, rfl, (Nat.le_of_ble_eq_true rfl), (Nat.le_of_ble_eq_true rfl)⟩ rfl hl.1 rfl (Nat.le_of_ble_eq_true rfl) ⟨(Nat.le_of_ble_eq_true rfl), (Nat.le_of_ble_eq_true rfl)⟩ dL_probeTrough_4 (fun k S2 ho ce q9 n1 H locs G h1 h2 h3 => ?_) (fun x ho H locs G => ?_)
  · cases hm : mX11_probeTrough E F S a0 x1 with
    | none => rw [hm] at hsp; exact nomatch hsp
    | some v => rfl
  · have hm : mX11_probeTrough E F S a0 x1 = some (.inl (k, S2)) := by
      cases hm : mX11_probeTrough E F S a0 x1 with
      | none => rw [hm] at hsp; exact nomatch hsp
      | some v => rw [hm] at ho; exact congrArg some ho
    rw [hm] at hsp
    rcases Classical.em (k = 0) with w0 | w0
    · have hsp := hk_t w0 hsp
      subst w0
      refine hk_caught F9 G h1 h2 h3 [] ⟨0, 9, 12, 24⟩ [] (by rw [htab]; rfl) (fun z hz => absurd hz List.not_mem_nil) (by decide) (by decide) (name := "java/lang/IndexOutOfBoundsException") qw_957 (by decide +kernel) ?_
      refine lv_astore_n (lv' := [(3, .ref q9), (0, .ref (g.1 + a0)), (1, .int x1), (2, .ref (g.1 + a2))]) hx hb dL_probeTrough_12 rfl hl (by decide) rfl (fun ls hl => ?_)
      refine lv_iconst (v := 1) hx hb dL_probeTrough_13 (by decide) ?_
      obtain rfl := hk_s hsp
      exact vx_ret (W.widen (k := 1) (n := 6) (Nat.le_of_ble_eq_true rfl) (Nat.le_of_ble_eq_true rfl) (W.iret (v := 1) hx hb hr (fun t ht hW => hk_endN G ht hW) G.2.1.2.2 dL_probeTrough_14))
    · have hsp := hk_f w0 hsp
      exact nomatch hsp
  · have hm : mX11_probeTrough E F S a0 x1 = some (.inr x) := by
      cases hm : mX11_probeTrough E F S a0 x1 with
      | none => rw [hm] at hsp; exact nomatch hsp
      | some v => rw [hm] at ho; exact congrArg some ho
    rw [hm] at hsp
    obtain ⟨qo, hsp⟩ := hk_k hsp
    refine lv_i2l (v := x.1.toInt64) hx hb dL_probeTrough_7 rfl ?_
    refine hk_last (y := x.1) (j := 0) F9 G rfl hout rfl qo (by decide) dL_probeTrough_8 (fun H locs G => ?_)
    refine lv_goto (tgt := 15) hx hb dL_probeTrough_9 (by decide) ?_
    refine lv_iconst (v := 0) hx hb dL_probeTrough_15 (by decide) ?_
    obtain rfl := hk_s hsp
    exact vx_ret (W.widen (k := 1) (n := 6) (Nat.le_of_ble_eq_true rfl) (Nat.le_of_ble_eq_true rfl) (W.iret (v := 0) hx hb hr (fun t ht hW => hk_endN G ht hW) G.2.1.2.2 dL_probeTrough_16))
def mL_reading (E : hk_E) (F : Nat) (S : hk_S) (a0 : Nat) (x1 : Int32) (a2 : Nat) : Option (Int32 × hk_S) :=
  match mX11_reading E F S a0 x1 with
  | none => none
  | some (.inl (k, S1)) => if k = 0 then some (1, S1) else (none)
  | some (.inr r) => if hk_ok 0 (E.2.2.1 a2) then (some (0, hk_up r.2 a2 0 r.1)) else none
set_option maxHeartbeats 4000000 in
set_option maxRecDepth 100000 in
theorem kL_reading (l : Launch) (hst : l.stackTraces = false) (g : hk_G) (E : hk_E) (F n : Nat) (S : hk_S) (a0 : Nat) (x1 : Int32) (a2 : Nat) (o : Int32 × hk_S) (h0 : E.2.1 a0 = 9) (hout : E.2.1 a2 = 17) (hsp : mL_reading E F S a0 x1 a2 = some o) : vx_Met l yL_reading (hk_wsW yL_reading cL_reading 4 (Option.some Jvm.ClassFile.FieldType.int) [(0, 9, 12, 24)]) ({ frames := 8, cells := 1, slots := 6, locals := 124 }) (hk_Pc g E S n [.ref (g.1 + a0), .int x1, .ref (g.1 + a2)]) (hk_QN g E o.2 (some (.int o.1))) hk_XF 1 6 (hk_A g) := by
  refine vx_ofWH (cc := cL_reading) (maxL := 4) (ret := (Option.some Jvm.ClassFile.FieldType.int)) (hh := [(0, 9, 12, 24)]) (by decide) rfl ?_
  intro p e s m args below meth c s₁ B hml hv
  obtain ⟨rfl, G⟩ := hk_begin hv
  have htab := vx_table (x := yL_reading) B (atoms_spec (ws := hk_wsW yL_reading cL_reading 4 (Option.some Jvm.ClassFile.FieldType.int) [(0, 9, 12, 24)]) B.pre _ List.mem_cons_self)
  have F9 : CallFix p m c cL_reading 4 s [.ref (g.1 + a0), .int x1, .ref (g.1 + a2)].toArray hk_W RL := ⟨B.exec, B.bytes, hml, findClass_of_methodNamed B.named, fun w h => atoms_spec (ws := hk_wsW yL_reading cL_reading 4 (Option.some Jvm.ClassFile.FieldType.int) [(0, 9, 12, 24)]) B.pre w (hk_inW h)⟩
  have hx := B.exec
  have hb := B.bytes
  have hr := B.returns
  have hlocks := B.notSynchronized
  have hl := lv_entry ([.ref (g.1 + a0), .int x1, .ref (g.1 + a2)]) (n := 4) (Nat.le_of_ble_eq_true rfl)
  rw [lg_entry_eq]
  generalize (lg_sl ([.ref (g.1 + a0), .int x1, .ref (g.1 + a2)]) ++ List.replicate (4 - (lg_sl ([.ref (g.1 + a0), .int x1, .ref (g.1 + a2)])).length) Slot.unset).toArray = ls at hl ⊢
  have hl : lv_has ls 4 [(0, .ref (g.1 + a0)), (1, .int x1), (2, .ref (g.1 + a2))] := hl
  unfold mL_reading at hsp
  have G : hk_GG g E S n s s.heap [] := G
  refine lv_aload_n hx hb dL_reading_0 rfl (lv_at hl 2 rfl) ?_
  refine lv_iconst (v := 0) hx hb dL_reading_1 (by decide) ?_
  refine lv_aload_n hx hb dL_reading_2 rfl (lv_at hl 0 rfl) ?_
  refine lv_iload_n hx hb dL_reading_3 rfl (lv_at hl 1 rfl) ?_
  refine hk_xV (As := [.int x1]) (rest := [.int 0, .ref (g.1 + a2)]) F9 G h0 hkc_8 rfl (kX11_reading l hst g E F n S a0 x1 ((mX11_reading E F S a0 x1).getD (.inl (0, S))) h0 ?_) qv_RL_115 ⟨rfl, rfl, (Nat.le_of_ble_eq_true rfl), (Nat.le_of_ble_eq_true rfl)⟩ rfl hl.1 rfl (Nat.le_of_ble_eq_true rfl) ⟨(Nat.le_of_ble_eq_true rfl), (Nat.le_of_ble_eq_true rfl)⟩ dL_reading_4 (fun k S2 ho ce q9 n1 H locs G h1 h2 h3 => ?_) (fun x ho H locs G => ?_)
  · cases hm : mX11_reading E F S a0 x1 with
    | none => rw [hm] at hsp; exact nomatch hsp
    | some v => rfl
  · have hm : mX11_reading E F S a0 x1 = some (.inl (k, S2)) := by
      cases hm : mX11_reading E F S a0 x1 with
      | none => rw [hm] at hsp; exact nomatch hsp
      | some v => rw [hm] at ho; exact congrArg some ho
    rw [hm] at hsp
    rcases Classical.em (k = 0) with w0 | w0
    · have hsp := hk_t w0 hsp
      subst w0
      refine hk_caught F9 G h1 h2 h3 [] ⟨0, 9, 12, 24⟩ [] (by rw [htab]; rfl) (fun z hz => absurd hz List.not_mem_nil) (by decide) (by decide) (name := "java/lang/IndexOutOfBoundsException") qw_957 (by decide +kernel) ?_
      refine lv_astore_n (lv' := [(3, .ref q9), (0, .ref (g.1 + a0)), (1, .int x1), (2, .ref (g.1 + a2))]) hx hb dL_reading_12 rfl hl (by decide) rfl (fun ls hl => ?_)
      refine lv_iconst (v := 1) hx hb dL_reading_13 (by decide) ?_
      obtain rfl := hk_s hsp
      exact vx_ret (W.widen (k := 1) (n := 6) (Nat.le_of_ble_eq_true rfl) (Nat.le_of_ble_eq_true rfl) (W.iret (v := 1) hx hb hr (fun t ht hW => hk_endN G ht hW) G.2.1.2.2 dL_reading_14))
    · have hsp := hk_f w0 hsp
      exact nomatch hsp
  · have hm : mX11_reading E F S a0 x1 = some (.inr x) := by
      cases hm : mX11_reading E F S a0 x1 with
      | none => rw [hm] at hsp; exact nomatch hsp
      | some v => rw [hm] at ho; exact congrArg some ho
    rw [hm] at hsp
    obtain ⟨qo, hsp⟩ := hk_k hsp
    refine lv_i2l (v := x.1.toInt64) hx hb dL_reading_7 rfl ?_
    refine hk_last (y := x.1) (j := 0) F9 G rfl hout rfl qo (by decide) dL_reading_8 (fun H locs G => ?_)
    refine lv_goto (tgt := 15) hx hb dL_reading_9 (by decide) ?_
    refine lv_iconst (v := 0) hx hb dL_reading_15 (by decide) ?_
    obtain rfl := hk_s hsp
    exact vx_ret (W.widen (k := 1) (n := 6) (Nat.le_of_ble_eq_true rfl) (Nat.le_of_ble_eq_true rfl) (W.iret (v := 0) hx hb hr (fun t ht hW => hk_endN G ht hW) G.2.1.2.2 dL_reading_16))
def mL_restoreSnapshot (E : hk_E) (F : Nat) (S : hk_S) (a0 : Nat) (a1 : Nat) : Option (Int32 × hk_S) :=
  match mX11_restoreSnapshot E F S a0  with
  | none => none
  | some (.inl (k, S1)) => if k = 3 then some (1, S1) else (none)
  | some (.inr r) => if hk_ok 0 (E.2.2.1 a1) then (some (0, hk_up r.2 a1 0 r.1)) else none
set_option maxHeartbeats 4000000 in
set_option maxRecDepth 100000 in
theorem kL_restoreSnapshot (l : Launch) (hst : l.stackTraces = false) (g : hk_G) (E : hk_E) (F n : Nat) (S : hk_S) (a0 : Nat) (a1 : Nat) (o : Int32 × hk_S) (h0 : E.2.1 a0 = 9) (hout : E.2.1 a1 = 17) (hsp : mL_restoreSnapshot E F S a0 a1 = some o) : vx_Met l yL_restoreSnapshot (hk_wsW yL_restoreSnapshot cL_restoreSnapshot 3 (Option.some Jvm.ClassFile.FieldType.int) [(0, 8, 11, 71)]) ({ frames := 7, cells := 1, slots := 6, locals := 102 }) (hk_Pc g E S n [.ref (g.1 + a0), .ref (g.1 + a1)]) (hk_QN g E o.2 (some (.int o.1))) hk_XF 1 6 (hk_A g) := by
  refine vx_ofWH (cc := cL_restoreSnapshot) (maxL := 3) (ret := (Option.some Jvm.ClassFile.FieldType.int)) (hh := [(0, 8, 11, 71)]) (by decide) rfl ?_
  intro p e s m args below meth c s₁ B hml hv
  obtain ⟨rfl, G⟩ := hk_begin hv
  have htab := vx_table (x := yL_restoreSnapshot) B (atoms_spec (ws := hk_wsW yL_restoreSnapshot cL_restoreSnapshot 3 (Option.some Jvm.ClassFile.FieldType.int) [(0, 8, 11, 71)]) B.pre _ List.mem_cons_self)
  have F9 : CallFix p m c cL_restoreSnapshot 3 s [.ref (g.1 + a0), .ref (g.1 + a1)].toArray hk_W RL := ⟨B.exec, B.bytes, hml, findClass_of_methodNamed B.named, fun w h => atoms_spec (ws := hk_wsW yL_restoreSnapshot cL_restoreSnapshot 3 (Option.some Jvm.ClassFile.FieldType.int) [(0, 8, 11, 71)]) B.pre w (hk_inW h)⟩
  have hx := B.exec
  have hb := B.bytes
  have hr := B.returns
  have hlocks := B.notSynchronized
  have hl := lv_entry ([.ref (g.1 + a0), .ref (g.1 + a1)]) (n := 3) (Nat.le_of_ble_eq_true rfl)
  rw [lg_entry_eq]
  generalize (lg_sl ([.ref (g.1 + a0), .ref (g.1 + a1)]) ++ List.replicate (3 - (lg_sl ([.ref (g.1 + a0), .ref (g.1 + a1)])).length) Slot.unset).toArray = ls at hl ⊢
  have hl : lv_has ls 3 [(0, .ref (g.1 + a0)), (1, .ref (g.1 + a1))] := hl
  unfold mL_restoreSnapshot at hsp
  have G : hk_GG g E S n s s.heap [] := G
  refine lv_aload_n hx hb dL_restoreSnapshot_0 rfl (lv_at hl 1 rfl) ?_
  refine lv_iconst (v := 0) hx hb dL_restoreSnapshot_1 (by decide) ?_
  refine lv_aload_n hx hb dL_restoreSnapshot_2 rfl (lv_at hl 0 rfl) ?_
  refine hk_xV (As := []) (rest := [.int 0, .ref (g.1 + a1)]) F9 G h0 hkc_8 rfl (kX11_restoreSnapshot l hst g E F n S a0  ((mX11_restoreSnapshot E F S a0 ).getD (.inl (0, S))) h0 ?_) qv_RL_67 ⟨rfl, rfl, (Nat.le_of_ble_eq_true rfl), (Nat.le_of_ble_eq_true rfl)⟩ rfl hl.1 rfl (Nat.le_of_ble_eq_true rfl) ⟨(Nat.le_of_ble_eq_true rfl), (Nat.le_of_ble_eq_true rfl)⟩ dL_restoreSnapshot_3 (fun k S2 ho ce q9 n1 H locs G h1 h2 h3 => ?_) (fun x ho H locs G => ?_)
  · cases hm : mX11_restoreSnapshot E F S a0  with
    | none => rw [hm] at hsp; exact nomatch hsp
    | some v => rfl
  · have hm : mX11_restoreSnapshot E F S a0  = some (.inl (k, S2)) := by
      cases hm : mX11_restoreSnapshot E F S a0  with
      | none => rw [hm] at hsp; exact nomatch hsp
      | some v => rw [hm] at ho; exact congrArg some ho
    rw [hm] at hsp
    rcases Classical.em (k = 3) with w0 | w0
    · have hsp := hk_t w0 hsp
      subst w0
      refine hk_caught F9 G h1 h2 h3 [] ⟨0, 8, 11, 71⟩ [] (by rw [htab]; rfl) (fun z hz => absurd hz List.not_mem_nil) (by decide) (by decide) (name := "java/util/NoSuchElementException") qw_1099 (by decide +kernel) ?_
      refine lv_astore_n (lv' := [(2, .ref q9), (0, .ref (g.1 + a0)), (1, .ref (g.1 + a1))]) hx hb dL_restoreSnapshot_11 rfl hl (by decide) rfl (fun ls hl => ?_)
      refine lv_iconst (v := 1) hx hb dL_restoreSnapshot_12 (by decide) ?_
      obtain rfl := hk_s hsp
      exact vx_ret (W.widen (k := 1) (n := 6) (Nat.le_of_ble_eq_true rfl) (Nat.le_of_ble_eq_true rfl) (W.iret (v := 1) hx hb hr (fun t ht hW => hk_endN G ht hW) G.2.1.2.2 dL_restoreSnapshot_13))
    · have hsp := hk_f w0 hsp
      exact nomatch hsp
  · have hm : mX11_restoreSnapshot E F S a0  = some (.inr x) := by
      cases hm : mX11_restoreSnapshot E F S a0  with
      | none => rw [hm] at hsp; exact nomatch hsp
      | some v => rw [hm] at ho; exact congrArg some ho
    rw [hm] at hsp
    obtain ⟨qo, hsp⟩ := hk_k hsp
    refine lv_i2l (v := x.1.toInt64) hx hb dL_restoreSnapshot_6 rfl ?_
    refine hk_last (y := x.1) (j := 0) F9 G rfl hout rfl qo (by decide) dL_restoreSnapshot_7 (fun H locs G => ?_)
    refine lv_goto (tgt := 14) hx hb dL_restoreSnapshot_8 (by decide) ?_
    refine lv_iconst (v := 0) hx hb dL_restoreSnapshot_14 (by decide) ?_
    obtain rfl := hk_s hsp
    exact vx_ret (W.widen (k := 1) (n := 6) (Nat.le_of_ble_eq_true rfl) (Nat.le_of_ble_eq_true rfl) (W.iret (v := 0) hx hb hr (fun t ht hW => hk_endN G ht hW) G.2.1.2.2 dL_restoreSnapshot_15))
def mL_reverse (E : hk_E) (F : Nat) (S : hk_S) (a0 : Nat) (x1 : Int32) (a2 : Nat) : Option (Int32 × hk_S) :=
  match mX11_reverse E F S a0 x1 with
  | none => none
  | some (.inl (k, S1)) => if k = 0 then some (1, S1) else (none)
  | some (.inr r) => if hk_ok 0 (E.2.2.1 a2) then (if r.1 = 0 then some (0, hk_up r.2 a2 0 0) else some (0, hk_up r.2 a2 0 1)) else none
set_option maxHeartbeats 4000000 in
set_option maxRecDepth 100000 in
theorem kL_reverse (l : Launch) (hst : l.stackTraces = false) (g : hk_G) (E : hk_E) (F n : Nat) (S : hk_S) (a0 : Nat) (x1 : Int32) (a2 : Nat) (o : Int32 × hk_S) (h0 : E.2.1 a0 = 9) (hout : E.2.1 a2 = 17) (hsp : mL_reverse E F S a0 x1 a2 = some o) : vx_Met l yL_reverse (hk_wsW yL_reverse cL_reverse 4 (Option.some Jvm.ClassFile.FieldType.int) [(0, 16, 19, 24)]) ({ frames := 8, cells := 1, slots := 6, locals := 125 }) (hk_Pc g E S n [.ref (g.1 + a0), .int x1, .ref (g.1 + a2)]) (hk_QN g E o.2 (some (.int o.1))) hk_XF 1 6 (hk_A g) := by
  refine vx_ofWH (cc := cL_reverse) (maxL := 4) (ret := (Option.some Jvm.ClassFile.FieldType.int)) (hh := [(0, 16, 19, 24)]) (by decide) rfl ?_
  intro p e s m args below meth c s₁ B hml hv
  obtain ⟨rfl, G⟩ := hk_begin hv
  have htab := vx_table (x := yL_reverse) B (atoms_spec (ws := hk_wsW yL_reverse cL_reverse 4 (Option.some Jvm.ClassFile.FieldType.int) [(0, 16, 19, 24)]) B.pre _ List.mem_cons_self)
  have F9 : CallFix p m c cL_reverse 4 s [.ref (g.1 + a0), .int x1, .ref (g.1 + a2)].toArray hk_W RL := ⟨B.exec, B.bytes, hml, findClass_of_methodNamed B.named, fun w h => atoms_spec (ws := hk_wsW yL_reverse cL_reverse 4 (Option.some Jvm.ClassFile.FieldType.int) [(0, 16, 19, 24)]) B.pre w (hk_inW h)⟩
  have hx := B.exec
  have hb := B.bytes
  have hr := B.returns
  have hlocks := B.notSynchronized
  have hl := lv_entry ([.ref (g.1 + a0), .int x1, .ref (g.1 + a2)]) (n := 4) (Nat.le_of_ble_eq_true rfl)
  rw [lg_entry_eq]
  generalize (lg_sl ([.ref (g.1 + a0), .int x1, .ref (g.1 + a2)]) ++ List.replicate (4 - (lg_sl ([.ref (g.1 + a0), .int x1, .ref (g.1 + a2)])).length) Slot.unset).toArray = ls at hl ⊢
  have hl : lv_has ls 4 [(0, .ref (g.1 + a0)), (1, .int x1), (2, .ref (g.1 + a2))] := hl
  unfold mL_reverse at hsp
  have G : hk_GG g E S n s s.heap [] := G
  refine lv_aload_n hx hb dL_reverse_0 rfl (lv_at hl 2 rfl) ?_
  refine lv_iconst (v := 0) hx hb dL_reverse_1 (by decide) ?_
  refine lv_aload_n hx hb dL_reverse_2 rfl (lv_at hl 0 rfl) ?_
  refine lv_iload_n hx hb dL_reverse_3 rfl (lv_at hl 1 rfl) ?_
  refine hk_xV (As := [.int x1]) (rest := [.int 0, .ref (g.1 + a2)]) F9 G h0 hkc_8 rfl (kX11_reverse l hst g E F n S a0 x1 ((mX11_reverse E F S a0 x1).getD (.inl (0, S))) h0 ?_) qv_RL_30 ⟨rfl, rfl, (Nat.le_of_ble_eq_true rfl), (Nat.le_of_ble_eq_true rfl)⟩ rfl hl.1 rfl (Nat.le_of_ble_eq_true rfl) ⟨(Nat.le_of_ble_eq_true rfl), (Nat.le_of_ble_eq_true rfl)⟩ dL_reverse_4 (fun k S2 ho ce q9 n1 H locs G h1 h2 h3 => ?_) (fun x ho H locs G => ?_)
  · cases hm : mX11_reverse E F S a0 x1 with
    | none => rw [hm] at hsp; exact nomatch hsp
    | some v => rfl
  · have hm : mX11_reverse E F S a0 x1 = some (.inl (k, S2)) := by
      cases hm : mX11_reverse E F S a0 x1 with
      | none => rw [hm] at hsp; exact nomatch hsp
      | some v => rw [hm] at ho; exact congrArg some ho
    rw [hm] at hsp
    rcases Classical.em (k = 0) with w0 | w0
    · have hsp := hk_t w0 hsp
      subst w0
      refine hk_caught F9 G h1 h2 h3 [] ⟨0, 16, 19, 24⟩ [] (by rw [htab]; rfl) (fun z hz => absurd hz List.not_mem_nil) (by decide) (by decide) (name := "java/lang/IndexOutOfBoundsException") qw_957 (by decide +kernel) ?_
      refine lv_astore_n (lv' := [(3, .ref q9), (0, .ref (g.1 + a0)), (1, .int x1), (2, .ref (g.1 + a2))]) hx hb dL_reverse_19 rfl hl (by decide) rfl (fun ls hl => ?_)
      refine lv_iconst (v := 1) hx hb dL_reverse_20 (by decide) ?_
      obtain rfl := hk_s hsp
      exact vx_ret (W.widen (k := 1) (n := 6) (Nat.le_of_ble_eq_true rfl) (Nat.le_of_ble_eq_true rfl) (W.iret (v := 1) hx hb hr (fun t ht hW => hk_endN G ht hW) G.2.1.2.2 dL_reverse_21))
    · have hsp := hk_f w0 hsp
      exact nomatch hsp
  · have hm : mX11_reverse E F S a0 x1 = some (.inr x) := by
      cases hm : mX11_reverse E F S a0 x1 with
      | none => rw [hm] at hsp; exact nomatch hsp
      | some v => rw [hm] at ho; exact congrArg some ho
    rw [hm] at hsp
    obtain ⟨qo, hsp⟩ := hk_k hsp
    refine lv_if_eq (tgt := 14) hx hb dL_reverse_7 (by decide) (fun c => ?_) (fun c => ?_)
    · have hsp := hk_t c hsp
      refine lv_lconst (v := 0) hx hb dL_reverse_14 (by decide) ?_
      refine hk_last (y := 0) (j := 0) F9 G rfl hout rfl qo (by decide) dL_reverse_15 (fun H locs G => ?_)
      refine lv_goto (tgt := 22) hx hb dL_reverse_16 (by decide) ?_
      refine lv_iconst (v := 0) hx hb dL_reverse_22 (by decide) ?_
      obtain rfl := hk_s hsp
      exact vx_ret (W.widen (k := 1) (n := 6) (Nat.le_of_ble_eq_true rfl) (Nat.le_of_ble_eq_true rfl) (W.iret (v := 0) hx hb hr (fun t ht hW => hk_endN G ht hW) G.2.1.2.2 dL_reverse_23))
    · have hsp := hk_f c hsp
      refine lv_lconst (v := 1) hx hb dL_reverse_10 (by decide) ?_
      refine lv_goto (tgt := 15) hx hb dL_reverse_11 (by decide) ?_
      refine hk_last (y := 1) (j := 0) F9 G rfl hout rfl qo (by decide) dL_reverse_15 (fun H locs G => ?_)
      refine lv_goto (tgt := 22) hx hb dL_reverse_16 (by decide) ?_
      refine lv_iconst (v := 0) hx hb dL_reverse_22 (by decide) ?_
      obtain rfl := hk_s hsp
      exact vx_ret (W.widen (k := 1) (n := 6) (Nat.le_of_ble_eq_true rfl) (Nat.le_of_ble_eq_true rfl) (W.iret (v := 0) hx hb hr (fun t ht hW => hk_endN G ht hW) G.2.1.2.2 dL_reverse_23))
def mL_setFan (E : hk_E) (F : Nat) (S : hk_S) (a0 : Nat) (x1 : Int32) (x2 : Int32) (a3 : Nat) : Option (Int32 × hk_S) :=
  match mX11_setFan E F S a0 x1 x2 with
  | none => none
  | some (.inl (k, S1)) => if k = 0 then some (1, S1) else (if k = 1 then some (2, S1) else (none))
  | some (.inr r) => if hk_ok 0 (E.2.2.1 a3) then (some (0, hk_up r.2 a3 0 r.1)) else none
set_option maxHeartbeats 4000000 in
set_option maxRecDepth 100000 in
theorem kL_setFan (l : Launch) (hst : l.stackTraces = false) (g : hk_G) (E : hk_E) (F n : Nat) (S : hk_S) (a0 : Nat) (x1 : Int32) (x2 : Int32) (a3 : Nat) (o : Int32 × hk_S) (h0 : E.2.1 a0 = 9) (hout : E.2.1 a3 = 17) (hsp : mL_setFan E F S a0 x1 x2 a3 = some o) : vx_Met l yL_setFan (hk_wsW yL_setFan cL_setFan 5 (Option.some Jvm.ClassFile.FieldType.int) [(0, 10, 13, 24), (0, 10, 17, 13)]) ({ frames := 8, cells := 2, slots := 12, locals := 128 }) (hk_Pc g E S n [.ref (g.1 + a0), .int x1, .int x2, .ref (g.1 + a3)]) (hk_QN g E o.2 (some (.int o.1))) hk_XF 2 12 (hk_A g) := by
  refine vx_ofWH (cc := cL_setFan) (maxL := 5) (ret := (Option.some Jvm.ClassFile.FieldType.int)) (hh := [(0, 10, 13, 24), (0, 10, 17, 13)]) (by decide) rfl ?_
  intro p e s m args below meth c s₁ B hml hv
  obtain ⟨rfl, G⟩ := hk_begin hv
  have htab := vx_table (x := yL_setFan) B (atoms_spec (ws := hk_wsW yL_setFan cL_setFan 5 (Option.some Jvm.ClassFile.FieldType.int) [(0, 10, 13, 24), (0, 10, 17, 13)]) B.pre _ List.mem_cons_self)
  have F9 : CallFix p m c cL_setFan 5 s [.ref (g.1 + a0), .int x1, .int x2, .ref (g.1 + a3)].toArray hk_W RL := ⟨B.exec, B.bytes, hml, findClass_of_methodNamed B.named, fun w h => atoms_spec (ws := hk_wsW yL_setFan cL_setFan 5 (Option.some Jvm.ClassFile.FieldType.int) [(0, 10, 13, 24), (0, 10, 17, 13)]) B.pre w (hk_inW h)⟩
  have hx := B.exec
  have hb := B.bytes
  have hr := B.returns
  have hlocks := B.notSynchronized
  have hl := lv_entry ([.ref (g.1 + a0), .int x1, .int x2, .ref (g.1 + a3)]) (n := 5) (Nat.le_of_ble_eq_true rfl)
  rw [lg_entry_eq]
  generalize (lg_sl ([.ref (g.1 + a0), .int x1, .int x2, .ref (g.1 + a3)]) ++ List.replicate (5 - (lg_sl ([.ref (g.1 + a0), .int x1, .int x2, .ref (g.1 + a3)])).length) Slot.unset).toArray = ls at hl ⊢
  have hl : lv_has ls 5 [(0, .ref (g.1 + a0)), (1, .int x1), (2, .int x2), (3, .ref (g.1 + a3))] := hl
  unfold mL_setFan at hsp
  have G : hk_GG g E S n s s.heap [] := G
  refine lv_aload_n hx hb dL_setFan_0 rfl (lv_at hl 3 rfl) ?_
  refine lv_iconst (v := 0) hx hb dL_setFan_1 (by decide) ?_
  refine lv_aload_n hx hb dL_setFan_2 rfl (lv_at hl 0 rfl) ?_
  refine lv_iload_n hx hb dL_setFan_3 rfl (lv_at hl 1 rfl) ?_
  refine lv_iload_n hx hb dL_setFan_4 rfl (lv_at hl 2 rfl) ?_
  refine hk_xV (As := [.int x1, .int x2]) (rest := [.int 0, .ref (g.1 + a3)]) F9 G h0 hkc_8 rfl (kX11_setFan l hst g E F n S a0 x1 x2 ((mX11_setFan E F S a0 x1 x2).getD (.inl (0, S))) h0 ?_) qv_RL_26 ⟨rfl, rfl, (Nat.le_of_ble_eq_true rfl), (Nat.le_of_ble_eq_true rfl)⟩ rfl hl.1 rfl (Nat.le_of_ble_eq_true rfl) ⟨(Nat.le_of_ble_eq_true rfl), (Nat.le_of_ble_eq_true rfl)⟩ dL_setFan_5 (fun k S2 ho ce q9 n1 H locs G h1 h2 h3 => ?_) (fun x ho H locs G => ?_)
  · cases hm : mX11_setFan E F S a0 x1 x2 with
    | none => rw [hm] at hsp; exact nomatch hsp
    | some v => rfl
  · have hm : mX11_setFan E F S a0 x1 x2 = some (.inl (k, S2)) := by
      cases hm : mX11_setFan E F S a0 x1 x2 with
      | none => rw [hm] at hsp; exact nomatch hsp
      | some v => rw [hm] at ho; exact congrArg some ho
    rw [hm] at hsp
    rcases Classical.em (k = 0) with w0 | w0
    · have hsp := hk_t w0 hsp
      subst w0
      refine hk_caught F9 G h1 h2 h3 [] ⟨0, 10, 13, 24⟩ [⟨0, 10, 17, 13⟩] (by rw [htab]; rfl) (fun z hz => absurd hz List.not_mem_nil) (by decide) (by decide) (name := "java/lang/IndexOutOfBoundsException") qw_957 (by decide +kernel) ?_
      refine lv_astore (lv' := [(4, .ref q9), (0, .ref (g.1 + a0)), (1, .int x1), (2, .int x2), (3, .ref (g.1 + a3))]) hx hb dL_setFan_13  hl (by decide) rfl (fun ls hl => ?_)
      refine lv_iconst (v := 1) hx hb dL_setFan_15 (by decide) ?_
      obtain rfl := hk_s hsp
      exact vx_ret (W.widen (k := 2) (n := 12) (Nat.le_of_ble_eq_true rfl) (Nat.le_of_ble_eq_true rfl) (W.iret (v := 1) hx hb hr (fun t ht hW => hk_endN G ht hW) G.2.1.2.2 dL_setFan_16))
    · have hsp := hk_f w0 hsp
      rcases Classical.em (k = 1) with w1 | w1
      · have hsp := hk_t w1 hsp
        subst w1
        refine hk_caught F9 G h1 h2 h3 [⟨0, 10, 13, 24⟩] ⟨0, 10, 17, 13⟩ [] (by rw [htab]; rfl) (List.forall_mem_cons.mpr ⟨Or.inr ⟨by decide, "java/lang/IndexOutOfBoundsException", qw_957, by decide +kernel⟩, fun z hz => absurd hz List.not_mem_nil⟩) (by decide) (by decide) (name := "java/lang/IllegalArgumentException") qw_850 (by decide +kernel) ?_
        refine lv_astore (lv' := [(4, .ref q9), (0, .ref (g.1 + a0)), (1, .int x1), (2, .int x2), (3, .ref (g.1 + a3))]) hx hb dL_setFan_17  hl (by decide) rfl (fun ls hl => ?_)
        refine lv_iconst (v := 2) hx hb dL_setFan_19 (by decide) ?_
        obtain rfl := hk_s hsp
        exact vx_ret (W.widen (k := 2) (n := 12) (Nat.le_of_ble_eq_true rfl) (Nat.le_of_ble_eq_true rfl) (W.iret (v := 2) hx hb hr (fun t ht hW => hk_endN G ht hW) G.2.1.2.2 dL_setFan_20))
      · have hsp := hk_f w1 hsp
        exact nomatch hsp
  · have hm : mX11_setFan E F S a0 x1 x2 = some (.inr x) := by
      cases hm : mX11_setFan E F S a0 x1 x2 with
      | none => rw [hm] at hsp; exact nomatch hsp
      | some v => rw [hm] at ho; exact congrArg some ho
    rw [hm] at hsp
    obtain ⟨qo, hsp⟩ := hk_k hsp
    refine lv_i2l (v := x.1.toInt64) hx hb dL_setFan_8 rfl ?_
    refine hk_last (y := x.1) (j := 0) F9 G rfl hout rfl qo (by decide) dL_setFan_9 (fun H locs G => ?_)
    refine lv_goto (tgt := 21) hx hb dL_setFan_10 (by decide) ?_
    refine lv_iconst (v := 0) hx hb dL_setFan_21 (by decide) ?_
    obtain rfl := hk_s hsp
    exact vx_ret (W.widen (k := 2) (n := 12) (Nat.le_of_ble_eq_true rfl) (Nat.le_of_ble_eq_true rfl) (W.iret (v := 0) hx hb hr (fun t ht hW => hk_endN G ht hW) G.2.1.2.2 dL_setFan_22))
def mL_setHeat (E : hk_E) (F : Nat) (S : hk_S) (a0 : Nat) (x1 : Int32) (a2 : Nat) : Option (Int32 × hk_S) :=
  match mX11_setHeat E F S a0 x1 with
  | none => none
  | some (.inl (k, S1)) => if k = 1 then some (1, S1) else (none)
  | some (.inr r) => if hk_ok 0 (E.2.2.1 a2) then (some (0, hk_up r.2 a2 0 r.1)) else none
set_option maxHeartbeats 4000000 in
set_option maxRecDepth 100000 in
theorem kL_setHeat (l : Launch) (hst : l.stackTraces = false) (g : hk_G) (E : hk_E) (F n : Nat) (S : hk_S) (a0 : Nat) (x1 : Int32) (a2 : Nat) (o : Int32 × hk_S) (h0 : E.2.1 a0 = 9) (hout : E.2.1 a2 = 17) (hsp : mL_setHeat E F S a0 x1 a2 = some o) : vx_Met l yL_setHeat (hk_wsW yL_setHeat cL_setHeat 4 (Option.some Jvm.ClassFile.FieldType.int) [(0, 9, 12, 13)]) ({ frames := 8, cells := 1, slots := 6, locals := 126 }) (hk_Pc g E S n [.ref (g.1 + a0), .int x1, .ref (g.1 + a2)]) (hk_QN g E o.2 (some (.int o.1))) hk_XF 1 6 (hk_A g) := by
  refine vx_ofWH (cc := cL_setHeat) (maxL := 4) (ret := (Option.some Jvm.ClassFile.FieldType.int)) (hh := [(0, 9, 12, 13)]) (by decide) rfl ?_
  intro p e s m args below meth c s₁ B hml hv
  obtain ⟨rfl, G⟩ := hk_begin hv
  have htab := vx_table (x := yL_setHeat) B (atoms_spec (ws := hk_wsW yL_setHeat cL_setHeat 4 (Option.some Jvm.ClassFile.FieldType.int) [(0, 9, 12, 13)]) B.pre _ List.mem_cons_self)
  have F9 : CallFix p m c cL_setHeat 4 s [.ref (g.1 + a0), .int x1, .ref (g.1 + a2)].toArray hk_W RL := ⟨B.exec, B.bytes, hml, findClass_of_methodNamed B.named, fun w h => atoms_spec (ws := hk_wsW yL_setHeat cL_setHeat 4 (Option.some Jvm.ClassFile.FieldType.int) [(0, 9, 12, 13)]) B.pre w (hk_inW h)⟩
  have hx := B.exec
  have hb := B.bytes
  have hr := B.returns
  have hlocks := B.notSynchronized
  have hl := lv_entry ([.ref (g.1 + a0), .int x1, .ref (g.1 + a2)]) (n := 4) (Nat.le_of_ble_eq_true rfl)
  rw [lg_entry_eq]
  generalize (lg_sl ([.ref (g.1 + a0), .int x1, .ref (g.1 + a2)]) ++ List.replicate (4 - (lg_sl ([.ref (g.1 + a0), .int x1, .ref (g.1 + a2)])).length) Slot.unset).toArray = ls at hl ⊢
  have hl : lv_has ls 4 [(0, .ref (g.1 + a0)), (1, .int x1), (2, .ref (g.1 + a2))] := hl
  unfold mL_setHeat at hsp
  have G : hk_GG g E S n s s.heap [] := G
  refine lv_aload_n hx hb dL_setHeat_0 rfl (lv_at hl 2 rfl) ?_
  refine lv_iconst (v := 0) hx hb dL_setHeat_1 (by decide) ?_
  refine lv_aload_n hx hb dL_setHeat_2 rfl (lv_at hl 0 rfl) ?_
  refine lv_iload_n hx hb dL_setHeat_3 rfl (lv_at hl 1 rfl) ?_
  refine hk_xV (As := [.int x1]) (rest := [.int 0, .ref (g.1 + a2)]) F9 G h0 hkc_8 rfl (kX11_setHeat l hst g E F n S a0 x1 ((mX11_setHeat E F S a0 x1).getD (.inl (0, S))) h0 ?_) qv_RL_34 ⟨rfl, rfl, (Nat.le_of_ble_eq_true rfl), (Nat.le_of_ble_eq_true rfl)⟩ rfl hl.1 rfl (Nat.le_of_ble_eq_true rfl) ⟨(Nat.le_of_ble_eq_true rfl), (Nat.le_of_ble_eq_true rfl)⟩ dL_setHeat_4 (fun k S2 ho ce q9 n1 H locs G h1 h2 h3 => ?_) (fun x ho H locs G => ?_)
  · cases hm : mX11_setHeat E F S a0 x1 with
    | none => rw [hm] at hsp; exact nomatch hsp
    | some v => rfl
  · have hm : mX11_setHeat E F S a0 x1 = some (.inl (k, S2)) := by
      cases hm : mX11_setHeat E F S a0 x1 with
      | none => rw [hm] at hsp; exact nomatch hsp
      | some v => rw [hm] at ho; exact congrArg some ho
    rw [hm] at hsp
    rcases Classical.em (k = 1) with w0 | w0
    · have hsp := hk_t w0 hsp
      subst w0
      refine hk_caught F9 G h1 h2 h3 [] ⟨0, 9, 12, 13⟩ [] (by rw [htab]; rfl) (fun z hz => absurd hz List.not_mem_nil) (by decide) (by decide) (name := "java/lang/IllegalArgumentException") qw_850 (by decide +kernel) ?_
      refine lv_astore_n (lv' := [(3, .ref q9), (0, .ref (g.1 + a0)), (1, .int x1), (2, .ref (g.1 + a2))]) hx hb dL_setHeat_12 rfl hl (by decide) rfl (fun ls hl => ?_)
      refine lv_iconst (v := 1) hx hb dL_setHeat_13 (by decide) ?_
      obtain rfl := hk_s hsp
      exact vx_ret (W.widen (k := 1) (n := 6) (Nat.le_of_ble_eq_true rfl) (Nat.le_of_ble_eq_true rfl) (W.iret (v := 1) hx hb hr (fun t ht hW => hk_endN G ht hW) G.2.1.2.2 dL_setHeat_14))
    · have hsp := hk_f w0 hsp
      exact nomatch hsp
  · have hm : mX11_setHeat E F S a0 x1 = some (.inr x) := by
      cases hm : mX11_setHeat E F S a0 x1 with
      | none => rw [hm] at hsp; exact nomatch hsp
      | some v => rw [hm] at ho; exact congrArg some ho
    rw [hm] at hsp
    obtain ⟨qo, hsp⟩ := hk_k hsp
    refine lv_i2l (v := x.1.toInt64) hx hb dL_setHeat_7 rfl ?_
    refine hk_last (y := x.1) (j := 0) F9 G rfl hout rfl qo (by decide) dL_setHeat_8 (fun H locs G => ?_)
    refine lv_goto (tgt := 15) hx hb dL_setHeat_9 (by decide) ?_
    refine lv_iconst (v := 0) hx hb dL_setHeat_15 (by decide) ?_
    obtain rfl := hk_s hsp
    exact vx_ret (W.widen (k := 1) (n := 6) (Nat.le_of_ble_eq_true rfl) (Nat.le_of_ble_eq_true rfl) (W.iret (v := 0) hx hb hr (fun t ht hW => hk_endN G ht hW) G.2.1.2.2 dL_setHeat_16))
def mL_setHumidity (E : hk_E) (F : Nat) (S : hk_S) (a0 : Nat) (x1 : Int32) (a2 : Nat) : Option (Int32 × hk_S) :=
  match mX11_setHumidity E F S a0 x1 with
  | none => none
  | some (.inl (k, S1)) => if k = 1 then some (1, S1) else (none)
  | some (.inr r) => if hk_ok 0 (E.2.2.1 a2) then (some (0, hk_up r.2 a2 0 r.1)) else none
set_option maxHeartbeats 4000000 in
set_option maxRecDepth 100000 in
theorem kL_setHumidity (l : Launch) (hst : l.stackTraces = false) (g : hk_G) (E : hk_E) (F n : Nat) (S : hk_S) (a0 : Nat) (x1 : Int32) (a2 : Nat) (o : Int32 × hk_S) (h0 : E.2.1 a0 = 9) (hout : E.2.1 a2 = 17) (hsp : mL_setHumidity E F S a0 x1 a2 = some o) : vx_Met l yL_setHumidity (hk_wsW yL_setHumidity cL_setHumidity 4 (Option.some Jvm.ClassFile.FieldType.int) [(0, 9, 12, 13)]) ({ frames := 8, cells := 1, slots := 6, locals := 126 }) (hk_Pc g E S n [.ref (g.1 + a0), .int x1, .ref (g.1 + a2)]) (hk_QN g E o.2 (some (.int o.1))) hk_XF 1 6 (hk_A g) := by
  refine vx_ofWH (cc := cL_setHumidity) (maxL := 4) (ret := (Option.some Jvm.ClassFile.FieldType.int)) (hh := [(0, 9, 12, 13)]) (by decide) rfl ?_
  intro p e s m args below meth c s₁ B hml hv
  obtain ⟨rfl, G⟩ := hk_begin hv
  have htab := vx_table (x := yL_setHumidity) B (atoms_spec (ws := hk_wsW yL_setHumidity cL_setHumidity 4 (Option.some Jvm.ClassFile.FieldType.int) [(0, 9, 12, 13)]) B.pre _ List.mem_cons_self)
  have F9 : CallFix p m c cL_setHumidity 4 s [.ref (g.1 + a0), .int x1, .ref (g.1 + a2)].toArray hk_W RL := ⟨B.exec, B.bytes, hml, findClass_of_methodNamed B.named, fun w h => atoms_spec (ws := hk_wsW yL_setHumidity cL_setHumidity 4 (Option.some Jvm.ClassFile.FieldType.int) [(0, 9, 12, 13)]) B.pre w (hk_inW h)⟩
  have hx := B.exec
  have hb := B.bytes
  have hr := B.returns
  have hlocks := B.notSynchronized
  have hl := lv_entry ([.ref (g.1 + a0), .int x1, .ref (g.1 + a2)]) (n := 4) (Nat.le_of_ble_eq_true rfl)
  rw [lg_entry_eq]
  generalize (lg_sl ([.ref (g.1 + a0), .int x1, .ref (g.1 + a2)]) ++ List.replicate (4 - (lg_sl ([.ref (g.1 + a0), .int x1, .ref (g.1 + a2)])).length) Slot.unset).toArray = ls at hl ⊢
  have hl : lv_has ls 4 [(0, .ref (g.1 + a0)), (1, .int x1), (2, .ref (g.1 + a2))] := hl
  unfold mL_setHumidity at hsp
  have G : hk_GG g E S n s s.heap [] := G
  refine lv_aload_n hx hb dL_setHumidity_0 rfl (lv_at hl 2 rfl) ?_
  refine lv_iconst (v := 0) hx hb dL_setHumidity_1 (by decide) ?_
  refine lv_aload_n hx hb dL_setHumidity_2 rfl (lv_at hl 0 rfl) ?_
  refine lv_iload_n hx hb dL_setHumidity_3 rfl (lv_at hl 1 rfl) ?_
  refine hk_xV (As := [.int x1]) (rest := [.int 0, .ref (g.1 + a2)]) F9 G h0 hkc_8 rfl (kX11_setHumidity l hst g E F n S a0 x1 ((mX11_setHumidity E F S a0 x1).getD (.inl (0, S))) h0 ?_) qv_RL_37 ⟨rfl, rfl, (Nat.le_of_ble_eq_true rfl), (Nat.le_of_ble_eq_true rfl)⟩ rfl hl.1 rfl (Nat.le_of_ble_eq_true rfl) ⟨(Nat.le_of_ble_eq_true rfl), (Nat.le_of_ble_eq_true rfl)⟩ dL_setHumidity_4 (fun k S2 ho ce q9 n1 H locs G h1 h2 h3 => ?_) (fun x ho H locs G => ?_)
  · cases hm : mX11_setHumidity E F S a0 x1 with
    | none => rw [hm] at hsp; exact nomatch hsp
    | some v => rfl
  · have hm : mX11_setHumidity E F S a0 x1 = some (.inl (k, S2)) := by
      cases hm : mX11_setHumidity E F S a0 x1 with
      | none => rw [hm] at hsp; exact nomatch hsp
      | some v => rw [hm] at ho; exact congrArg some ho
    rw [hm] at hsp
    rcases Classical.em (k = 1) with w0 | w0
    · have hsp := hk_t w0 hsp
      subst w0
      refine hk_caught F9 G h1 h2 h3 [] ⟨0, 9, 12, 13⟩ [] (by rw [htab]; rfl) (fun z hz => absurd hz List.not_mem_nil) (by decide) (by decide) (name := "java/lang/IllegalArgumentException") qw_850 (by decide +kernel) ?_
      refine lv_astore_n (lv' := [(3, .ref q9), (0, .ref (g.1 + a0)), (1, .int x1), (2, .ref (g.1 + a2))]) hx hb dL_setHumidity_12 rfl hl (by decide) rfl (fun ls hl => ?_)
      refine lv_iconst (v := 1) hx hb dL_setHumidity_13 (by decide) ?_
      obtain rfl := hk_s hsp
      exact vx_ret (W.widen (k := 1) (n := 6) (Nat.le_of_ble_eq_true rfl) (Nat.le_of_ble_eq_true rfl) (W.iret (v := 1) hx hb hr (fun t ht hW => hk_endN G ht hW) G.2.1.2.2 dL_setHumidity_14))
    · have hsp := hk_f w0 hsp
      exact nomatch hsp
  · have hm : mX11_setHumidity E F S a0 x1 = some (.inr x) := by
      cases hm : mX11_setHumidity E F S a0 x1 with
      | none => rw [hm] at hsp; exact nomatch hsp
      | some v => rw [hm] at ho; exact congrArg some ho
    rw [hm] at hsp
    obtain ⟨qo, hsp⟩ := hk_k hsp
    refine lv_i2l (v := x.1.toInt64) hx hb dL_setHumidity_7 rfl ?_
    refine hk_last (y := x.1) (j := 0) F9 G rfl hout rfl qo (by decide) dL_setHumidity_8 (fun H locs G => ?_)
    refine lv_goto (tgt := 15) hx hb dL_setHumidity_9 (by decide) ?_
    refine lv_iconst (v := 0) hx hb dL_setHumidity_15 (by decide) ?_
    obtain rfl := hk_s hsp
    exact vx_ret (W.widen (k := 1) (n := 6) (Nat.le_of_ble_eq_true rfl) (Nat.le_of_ble_eq_true rfl) (W.iret (v := 0) hx hb hr (fun t ht hW => hk_endN G ht hW) G.2.1.2.2 dL_setHumidity_16))
def mL_setTarget (E : hk_E) (F : Nat) (S : hk_S) (a0 : Nat) (x1 : Int32) (x2 : Int32) (a3 : Nat) : Option (Int32 × hk_S) :=
  match mX11_setTarget E F S a0 x1 x2 with
  | none => none
  | some (.inl (k, S1)) => if k = 1 then some (1, S1) else (none)
  | some (.inr r) => if hk_ok 0 (E.2.2.1 a3) then (some (0, hk_up r.2 a3 0 r.1)) else none
set_option maxHeartbeats 4000000 in
set_option maxRecDepth 100000 in
theorem kL_setTarget (l : Launch) (hst : l.stackTraces = false) (g : hk_G) (E : hk_E) (F n : Nat) (S : hk_S) (a0 : Nat) (x1 : Int32) (x2 : Int32) (a3 : Nat) (o : Int32 × hk_S) (h0 : E.2.1 a0 = 9) (hout : E.2.1 a3 = 17) (hsp : mL_setTarget E F S a0 x1 x2 a3 = some o) : vx_Met l yL_setTarget (hk_wsW yL_setTarget cL_setTarget 5 (Option.some Jvm.ClassFile.FieldType.int) [(0, 10, 13, 13)]) ({ frames := 8, cells := 2, slots := 12, locals := 126 }) (hk_Pc g E S n [.ref (g.1 + a0), .int x1, .int x2, .ref (g.1 + a3)]) (hk_QN g E o.2 (some (.int o.1))) hk_XF 2 12 (hk_A g) := by
  refine vx_ofWH (cc := cL_setTarget) (maxL := 5) (ret := (Option.some Jvm.ClassFile.FieldType.int)) (hh := [(0, 10, 13, 13)]) (by decide) rfl ?_
  intro p e s m args below meth c s₁ B hml hv
  obtain ⟨rfl, G⟩ := hk_begin hv
  have htab := vx_table (x := yL_setTarget) B (atoms_spec (ws := hk_wsW yL_setTarget cL_setTarget 5 (Option.some Jvm.ClassFile.FieldType.int) [(0, 10, 13, 13)]) B.pre _ List.mem_cons_self)
  have F9 : CallFix p m c cL_setTarget 5 s [.ref (g.1 + a0), .int x1, .int x2, .ref (g.1 + a3)].toArray hk_W RL := ⟨B.exec, B.bytes, hml, findClass_of_methodNamed B.named, fun w h => atoms_spec (ws := hk_wsW yL_setTarget cL_setTarget 5 (Option.some Jvm.ClassFile.FieldType.int) [(0, 10, 13, 13)]) B.pre w (hk_inW h)⟩
  have hx := B.exec
  have hb := B.bytes
  have hr := B.returns
  have hlocks := B.notSynchronized
  have hl := lv_entry ([.ref (g.1 + a0), .int x1, .int x2, .ref (g.1 + a3)]) (n := 5) (Nat.le_of_ble_eq_true rfl)
  rw [lg_entry_eq]
  generalize (lg_sl ([.ref (g.1 + a0), .int x1, .int x2, .ref (g.1 + a3)]) ++ List.replicate (5 - (lg_sl ([.ref (g.1 + a0), .int x1, .int x2, .ref (g.1 + a3)])).length) Slot.unset).toArray = ls at hl ⊢
  have hl : lv_has ls 5 [(0, .ref (g.1 + a0)), (1, .int x1), (2, .int x2), (3, .ref (g.1 + a3))] := hl
  unfold mL_setTarget at hsp
  have G : hk_GG g E S n s s.heap [] := G
  refine lv_aload_n hx hb dL_setTarget_0 rfl (lv_at hl 3 rfl) ?_
  refine lv_iconst (v := 0) hx hb dL_setTarget_1 (by decide) ?_
  refine lv_aload_n hx hb dL_setTarget_2 rfl (lv_at hl 0 rfl) ?_
  refine lv_iload_n hx hb dL_setTarget_3 rfl (lv_at hl 1 rfl) ?_
  refine lv_iload_n hx hb dL_setTarget_4 rfl (lv_at hl 2 rfl) ?_
  refine hk_xV (As := [.int x1, .int x2]) (rest := [.int 0, .ref (g.1 + a3)]) F9 G h0 hkc_8 rfl (kX11_setTarget l hst g E F n S a0 x1 x2 ((mX11_setTarget E F S a0 x1 x2).getD (.inl (0, S))) h0 ?_) qv_RL_43 ⟨rfl, rfl, (Nat.le_of_ble_eq_true rfl), (Nat.le_of_ble_eq_true rfl)⟩ rfl hl.1 rfl (Nat.le_of_ble_eq_true rfl) ⟨(Nat.le_of_ble_eq_true rfl), (Nat.le_of_ble_eq_true rfl)⟩ dL_setTarget_5 (fun k S2 ho ce q9 n1 H locs G h1 h2 h3 => ?_) (fun x ho H locs G => ?_)
  · cases hm : mX11_setTarget E F S a0 x1 x2 with
    | none => rw [hm] at hsp; exact nomatch hsp
    | some v => rfl
  · have hm : mX11_setTarget E F S a0 x1 x2 = some (.inl (k, S2)) := by
      cases hm : mX11_setTarget E F S a0 x1 x2 with
      | none => rw [hm] at hsp; exact nomatch hsp
      | some v => rw [hm] at ho; exact congrArg some ho
    rw [hm] at hsp
    rcases Classical.em (k = 1) with w0 | w0
    · have hsp := hk_t w0 hsp
      subst w0
      refine hk_caught F9 G h1 h2 h3 [] ⟨0, 10, 13, 13⟩ [] (by rw [htab]; rfl) (fun z hz => absurd hz List.not_mem_nil) (by decide) (by decide) (name := "java/lang/IllegalArgumentException") qw_850 (by decide +kernel) ?_
      refine lv_astore (lv' := [(4, .ref q9), (0, .ref (g.1 + a0)), (1, .int x1), (2, .int x2), (3, .ref (g.1 + a3))]) hx hb dL_setTarget_13  hl (by decide) rfl (fun ls hl => ?_)
      refine lv_iconst (v := 1) hx hb dL_setTarget_15 (by decide) ?_
      obtain rfl := hk_s hsp
      exact vx_ret (W.widen (k := 2) (n := 12) (Nat.le_of_ble_eq_true rfl) (Nat.le_of_ble_eq_true rfl) (W.iret (v := 1) hx hb hr (fun t ht hW => hk_endN G ht hW) G.2.1.2.2 dL_setTarget_16))
    · have hsp := hk_f w0 hsp
      exact nomatch hsp
  · have hm : mX11_setTarget E F S a0 x1 x2 = some (.inr x) := by
      cases hm : mX11_setTarget E F S a0 x1 x2 with
      | none => rw [hm] at hsp; exact nomatch hsp
      | some v => rw [hm] at ho; exact congrArg some ho
    rw [hm] at hsp
    obtain ⟨qo, hsp⟩ := hk_k hsp
    refine lv_i2l (v := x.1.toInt64) hx hb dL_setTarget_8 rfl ?_
    refine hk_last (y := x.1) (j := 0) F9 G rfl hout rfl qo (by decide) dL_setTarget_9 (fun H locs G => ?_)
    refine lv_goto (tgt := 17) hx hb dL_setTarget_10 (by decide) ?_
    refine lv_iconst (v := 0) hx hb dL_setTarget_17 (by decide) ?_
    obtain rfl := hk_s hsp
    exact vx_ret (W.widen (k := 2) (n := 12) (Nat.le_of_ble_eq_true rfl) (Nat.le_of_ble_eq_true rfl) (W.iret (v := 0) hx hb hr (fun t ht hW => hk_endN G ht hW) G.2.1.2.2 dL_setTarget_18))
def mL_slowestSpeed (E : hk_E) (F : Nat) (S : hk_S) (a0 : Nat) (x1 : Int32) (x2 : Int32) (a3 : Nat) : Option (Int32 × hk_S) :=
  match mX11_slowestSpeed E F S a0 x1 x2 with
  | none => none
  | some (.inl (k, S1)) => if k = 0 then some (1, S1) else (if k = 1 then some (2, S1) else (none))
  | some (.inr r) => if hk_ok 0 (E.2.2.1 a3) then (some (0, hk_up r.2 a3 0 r.1)) else none
set_option maxHeartbeats 4000000 in
set_option maxRecDepth 100000 in
theorem kL_slowestSpeed (l : Launch) (hst : l.stackTraces = false) (g : hk_G) (E : hk_E) (F n : Nat) (S : hk_S) (a0 : Nat) (x1 : Int32) (x2 : Int32) (a3 : Nat) (o : Int32 × hk_S) (h0 : E.2.1 a0 = 9) (hout : E.2.1 a3 = 17) (hsp : mL_slowestSpeed E F S a0 x1 x2 a3 = some o) : vx_Met l yL_slowestSpeed (hk_wsW yL_slowestSpeed cL_slowestSpeed 5 (Option.some Jvm.ClassFile.FieldType.int) [(0, 10, 13, 24), (0, 10, 17, 13)]) ({ frames := 8, cells := 2, slots := 12, locals := 128 }) (hk_Pc g E S n [.ref (g.1 + a0), .int x1, .int x2, .ref (g.1 + a3)]) (hk_QN g E o.2 (some (.int o.1))) hk_XF 2 12 (hk_A g) := by
  refine vx_ofWH (cc := cL_slowestSpeed) (maxL := 5) (ret := (Option.some Jvm.ClassFile.FieldType.int)) (hh := [(0, 10, 13, 24), (0, 10, 17, 13)]) (by decide) rfl ?_
  intro p e s m args below meth c s₁ B hml hv
  obtain ⟨rfl, G⟩ := hk_begin hv
  have htab := vx_table (x := yL_slowestSpeed) B (atoms_spec (ws := hk_wsW yL_slowestSpeed cL_slowestSpeed 5 (Option.some Jvm.ClassFile.FieldType.int) [(0, 10, 13, 24), (0, 10, 17, 13)]) B.pre _ List.mem_cons_self)
  have F9 : CallFix p m c cL_slowestSpeed 5 s [.ref (g.1 + a0), .int x1, .int x2, .ref (g.1 + a3)].toArray hk_W RL := ⟨B.exec, B.bytes, hml, findClass_of_methodNamed B.named, fun w h => atoms_spec (ws := hk_wsW yL_slowestSpeed cL_slowestSpeed 5 (Option.some Jvm.ClassFile.FieldType.int) [(0, 10, 13, 24), (0, 10, 17, 13)]) B.pre w (hk_inW h)⟩
  have hx := B.exec
  have hb := B.bytes
  have hr := B.returns
  have hlocks := B.notSynchronized
  have hl := lv_entry ([.ref (g.1 + a0), .int x1, .int x2, .ref (g.1 + a3)]) (n := 5) (Nat.le_of_ble_eq_true rfl)
  rw [lg_entry_eq]
  generalize (lg_sl ([.ref (g.1 + a0), .int x1, .int x2, .ref (g.1 + a3)]) ++ List.replicate (5 - (lg_sl ([.ref (g.1 + a0), .int x1, .int x2, .ref (g.1 + a3)])).length) Slot.unset).toArray = ls at hl ⊢
  have hl : lv_has ls 5 [(0, .ref (g.1 + a0)), (1, .int x1), (2, .int x2), (3, .ref (g.1 + a3))] := hl
  unfold mL_slowestSpeed at hsp
  have G : hk_GG g E S n s s.heap [] := G
  refine lv_aload_n hx hb dL_slowestSpeed_0 rfl (lv_at hl 3 rfl) ?_
  refine lv_iconst (v := 0) hx hb dL_slowestSpeed_1 (by decide) ?_
  refine lv_aload_n hx hb dL_slowestSpeed_2 rfl (lv_at hl 0 rfl) ?_
  refine lv_iload_n hx hb dL_slowestSpeed_3 rfl (lv_at hl 1 rfl) ?_
  refine lv_iload_n hx hb dL_slowestSpeed_4 rfl (lv_at hl 2 rfl) ?_
  refine hk_xV (As := [.int x1, .int x2]) (rest := [.int 0, .ref (g.1 + a3)]) F9 G h0 hkc_8 rfl (kX11_slowestSpeed l hst g E F n S a0 x1 x2 ((mX11_slowestSpeed E F S a0 x1 x2).getD (.inl (0, S))) h0 ?_) qv_RL_139 ⟨rfl, rfl, (Nat.le_of_ble_eq_true rfl), (Nat.le_of_ble_eq_true rfl)⟩ rfl hl.1 rfl (Nat.le_of_ble_eq_true rfl) ⟨(Nat.le_of_ble_eq_true rfl), (Nat.le_of_ble_eq_true rfl)⟩ dL_slowestSpeed_5 (fun k S2 ho ce q9 n1 H locs G h1 h2 h3 => ?_) (fun x ho H locs G => ?_)
  · cases hm : mX11_slowestSpeed E F S a0 x1 x2 with
    | none => rw [hm] at hsp; exact nomatch hsp
    | some v => rfl
  · have hm : mX11_slowestSpeed E F S a0 x1 x2 = some (.inl (k, S2)) := by
      cases hm : mX11_slowestSpeed E F S a0 x1 x2 with
      | none => rw [hm] at hsp; exact nomatch hsp
      | some v => rw [hm] at ho; exact congrArg some ho
    rw [hm] at hsp
    rcases Classical.em (k = 0) with w0 | w0
    · have hsp := hk_t w0 hsp
      subst w0
      refine hk_caught F9 G h1 h2 h3 [] ⟨0, 10, 13, 24⟩ [⟨0, 10, 17, 13⟩] (by rw [htab]; rfl) (fun z hz => absurd hz List.not_mem_nil) (by decide) (by decide) (name := "java/lang/IndexOutOfBoundsException") qw_957 (by decide +kernel) ?_
      refine lv_astore (lv' := [(4, .ref q9), (0, .ref (g.1 + a0)), (1, .int x1), (2, .int x2), (3, .ref (g.1 + a3))]) hx hb dL_slowestSpeed_13  hl (by decide) rfl (fun ls hl => ?_)
      refine lv_iconst (v := 1) hx hb dL_slowestSpeed_15 (by decide) ?_
      obtain rfl := hk_s hsp
      exact vx_ret (W.widen (k := 2) (n := 12) (Nat.le_of_ble_eq_true rfl) (Nat.le_of_ble_eq_true rfl) (W.iret (v := 1) hx hb hr (fun t ht hW => hk_endN G ht hW) G.2.1.2.2 dL_slowestSpeed_16))
    · have hsp := hk_f w0 hsp
      rcases Classical.em (k = 1) with w1 | w1
      · have hsp := hk_t w1 hsp
        subst w1
        refine hk_caught F9 G h1 h2 h3 [⟨0, 10, 13, 24⟩] ⟨0, 10, 17, 13⟩ [] (by rw [htab]; rfl) (List.forall_mem_cons.mpr ⟨Or.inr ⟨by decide, "java/lang/IndexOutOfBoundsException", qw_957, by decide +kernel⟩, fun z hz => absurd hz List.not_mem_nil⟩) (by decide) (by decide) (name := "java/lang/IllegalArgumentException") qw_850 (by decide +kernel) ?_
        refine lv_astore (lv' := [(4, .ref q9), (0, .ref (g.1 + a0)), (1, .int x1), (2, .int x2), (3, .ref (g.1 + a3))]) hx hb dL_slowestSpeed_17  hl (by decide) rfl (fun ls hl => ?_)
        refine lv_iconst (v := 2) hx hb dL_slowestSpeed_19 (by decide) ?_
        obtain rfl := hk_s hsp
        exact vx_ret (W.widen (k := 2) (n := 12) (Nat.le_of_ble_eq_true rfl) (Nat.le_of_ble_eq_true rfl) (W.iret (v := 2) hx hb hr (fun t ht hW => hk_endN G ht hW) G.2.1.2.2 dL_slowestSpeed_20))
      · have hsp := hk_f w1 hsp
        exact nomatch hsp
  · have hm : mX11_slowestSpeed E F S a0 x1 x2 = some (.inr x) := by
      cases hm : mX11_slowestSpeed E F S a0 x1 x2 with
      | none => rw [hm] at hsp; exact nomatch hsp
      | some v => rw [hm] at ho; exact congrArg some ho
    rw [hm] at hsp
    obtain ⟨qo, hsp⟩ := hk_k hsp
    refine lv_i2l (v := x.1.toInt64) hx hb dL_slowestSpeed_8 rfl ?_
    refine hk_last (y := x.1) (j := 0) F9 G rfl hout rfl qo (by decide) dL_slowestSpeed_9 (fun H locs G => ?_)
    refine lv_goto (tgt := 21) hx hb dL_slowestSpeed_10 (by decide) ?_
    refine lv_iconst (v := 0) hx hb dL_slowestSpeed_21 (by decide) ?_
    obtain rfl := hk_s hsp
    exact vx_ret (W.widen (k := 2) (n := 12) (Nat.le_of_ble_eq_true rfl) (Nat.le_of_ble_eq_true rfl) (W.iret (v := 0) hx hb hr (fun t ht hW => hk_endN G ht hW) G.2.1.2.2 dL_slowestSpeed_22))
def mL_speed (E : hk_E) (F : Nat) (S : hk_S) (a0 : Nat) (x1 : Int32) (a2 : Nat) : Option (Int32 × hk_S) :=
  match mX11_speed E F S a0 x1 with
  | none => none
  | some (.inl (k, S1)) => if k = 0 then some (1, S1) else (none)
  | some (.inr r) => if hk_ok 0 (E.2.2.1 a2) then (some (0, hk_up r.2 a2 0 r.1)) else none
set_option maxHeartbeats 4000000 in
set_option maxRecDepth 100000 in
theorem kL_speed (l : Launch) (hst : l.stackTraces = false) (g : hk_G) (E : hk_E) (F n : Nat) (S : hk_S) (a0 : Nat) (x1 : Int32) (a2 : Nat) (o : Int32 × hk_S) (h0 : E.2.1 a0 = 9) (hout : E.2.1 a2 = 17) (hsp : mL_speed E F S a0 x1 a2 = some o) : vx_Met l yL_speed (hk_wsW yL_speed cL_speed 4 (Option.some Jvm.ClassFile.FieldType.int) [(0, 9, 12, 24)]) ({ frames := 8, cells := 1, slots := 6, locals := 124 }) (hk_Pc g E S n [.ref (g.1 + a0), .int x1, .ref (g.1 + a2)]) (hk_QN g E o.2 (some (.int o.1))) hk_XF 1 6 (hk_A g) := by
  refine vx_ofWH (cc := cL_speed) (maxL := 4) (ret := (Option.some Jvm.ClassFile.FieldType.int)) (hh := [(0, 9, 12, 24)]) (by decide) rfl ?_
  intro p e s m args below meth c s₁ B hml hv
  obtain ⟨rfl, G⟩ := hk_begin hv
  have htab := vx_table (x := yL_speed) B (atoms_spec (ws := hk_wsW yL_speed cL_speed 4 (Option.some Jvm.ClassFile.FieldType.int) [(0, 9, 12, 24)]) B.pre _ List.mem_cons_self)
  have F9 : CallFix p m c cL_speed 4 s [.ref (g.1 + a0), .int x1, .ref (g.1 + a2)].toArray hk_W RL := ⟨B.exec, B.bytes, hml, findClass_of_methodNamed B.named, fun w h => atoms_spec (ws := hk_wsW yL_speed cL_speed 4 (Option.some Jvm.ClassFile.FieldType.int) [(0, 9, 12, 24)]) B.pre w (hk_inW h)⟩
  have hx := B.exec
  have hb := B.bytes
  have hr := B.returns
  have hlocks := B.notSynchronized
  have hl := lv_entry ([.ref (g.1 + a0), .int x1, .ref (g.1 + a2)]) (n := 4) (Nat.le_of_ble_eq_true rfl)
  rw [lg_entry_eq]
  generalize (lg_sl ([.ref (g.1 + a0), .int x1, .ref (g.1 + a2)]) ++ List.replicate (4 - (lg_sl ([.ref (g.1 + a0), .int x1, .ref (g.1 + a2)])).length) Slot.unset).toArray = ls at hl ⊢
  have hl : lv_has ls 4 [(0, .ref (g.1 + a0)), (1, .int x1), (2, .ref (g.1 + a2))] := hl
  unfold mL_speed at hsp
  have G : hk_GG g E S n s s.heap [] := G
  refine lv_aload_n hx hb dL_speed_0 rfl (lv_at hl 2 rfl) ?_
  refine lv_iconst (v := 0) hx hb dL_speed_1 (by decide) ?_
  refine lv_aload_n hx hb dL_speed_2 rfl (lv_at hl 0 rfl) ?_
  refine lv_iload_n hx hb dL_speed_3 rfl (lv_at hl 1 rfl) ?_
  refine hk_xV (As := [.int x1]) (rest := [.int 0, .ref (g.1 + a2)]) F9 G h0 hkc_8 rfl (kX11_speed l hst g E F n S a0 x1 ((mX11_speed E F S a0 x1).getD (.inl (0, S))) h0 ?_) qv_RL_85 ⟨rfl, rfl, (Nat.le_of_ble_eq_true rfl), (Nat.le_of_ble_eq_true rfl)⟩ rfl hl.1 rfl (Nat.le_of_ble_eq_true rfl) ⟨(Nat.le_of_ble_eq_true rfl), (Nat.le_of_ble_eq_true rfl)⟩ dL_speed_4 (fun k S2 ho ce q9 n1 H locs G h1 h2 h3 => ?_) (fun x ho H locs G => ?_)
  · cases hm : mX11_speed E F S a0 x1 with
    | none => rw [hm] at hsp; exact nomatch hsp
    | some v => rfl
  · have hm : mX11_speed E F S a0 x1 = some (.inl (k, S2)) := by
      cases hm : mX11_speed E F S a0 x1 with
      | none => rw [hm] at hsp; exact nomatch hsp
      | some v => rw [hm] at ho; exact congrArg some ho
    rw [hm] at hsp
    rcases Classical.em (k = 0) with w0 | w0
    · have hsp := hk_t w0 hsp
      subst w0
      refine hk_caught F9 G h1 h2 h3 [] ⟨0, 9, 12, 24⟩ [] (by rw [htab]; rfl) (fun z hz => absurd hz List.not_mem_nil) (by decide) (by decide) (name := "java/lang/IndexOutOfBoundsException") qw_957 (by decide +kernel) ?_
      refine lv_astore_n (lv' := [(3, .ref q9), (0, .ref (g.1 + a0)), (1, .int x1), (2, .ref (g.1 + a2))]) hx hb dL_speed_12 rfl hl (by decide) rfl (fun ls hl => ?_)
      refine lv_iconst (v := 1) hx hb dL_speed_13 (by decide) ?_
      obtain rfl := hk_s hsp
      exact vx_ret (W.widen (k := 1) (n := 6) (Nat.le_of_ble_eq_true rfl) (Nat.le_of_ble_eq_true rfl) (W.iret (v := 1) hx hb hr (fun t ht hW => hk_endN G ht hW) G.2.1.2.2 dL_speed_14))
    · have hsp := hk_f w0 hsp
      exact nomatch hsp
  · have hm : mX11_speed E F S a0 x1 = some (.inr x) := by
      cases hm : mX11_speed E F S a0 x1 with
      | none => rw [hm] at hsp; exact nomatch hsp
      | some v => rw [hm] at ho; exact congrArg some ho
    rw [hm] at hsp
    obtain ⟨qo, hsp⟩ := hk_k hsp
    refine lv_i2l (v := x.1.toInt64) hx hb dL_speed_7 rfl ?_
    refine hk_last (y := x.1) (j := 0) F9 G rfl hout rfl qo (by decide) dL_speed_8 (fun H locs G => ?_)
    refine lv_goto (tgt := 15) hx hb dL_speed_9 (by decide) ?_
    refine lv_iconst (v := 0) hx hb dL_speed_15 (by decide) ?_
    obtain rfl := hk_s hsp
    exact vx_ret (W.widen (k := 1) (n := 6) (Nat.le_of_ble_eq_true rfl) (Nat.le_of_ble_eq_true rfl) (W.iret (v := 0) hx hb hr (fun t ht hW => hk_endN G ht hW) G.2.1.2.2 dL_speed_16))
def mL_spread (E : hk_E) (F : Nat) (S : hk_S) (a0 : Nat) (x1 : Int32) (a2 : Nat) : Option (Int32 × hk_S) :=
  match mX11_spread E F S a0 x1 with
  | none => none
  | some (.inl (k, S1)) => if k = 0 then some (1, S1) else (none)
  | some (.inr r) => if hk_ok 0 (E.2.2.1 a2) then (some (0, hk_up r.2 a2 0 r.1)) else none
set_option maxHeartbeats 4000000 in
set_option maxRecDepth 100000 in
theorem kL_spread (l : Launch) (hst : l.stackTraces = false) (g : hk_G) (E : hk_E) (F n : Nat) (S : hk_S) (a0 : Nat) (x1 : Int32) (a2 : Nat) (o : Int32 × hk_S) (h0 : E.2.1 a0 = 9) (hout : E.2.1 a2 = 17) (hsp : mL_spread E F S a0 x1 a2 = some o) : vx_Met l yL_spread (hk_wsW yL_spread cL_spread 4 (Option.some Jvm.ClassFile.FieldType.int) [(0, 9, 12, 24)]) ({ frames := 8, cells := 1, slots := 6, locals := 125 }) (hk_Pc g E S n [.ref (g.1 + a0), .int x1, .ref (g.1 + a2)]) (hk_QN g E o.2 (some (.int o.1))) hk_XF 1 6 (hk_A g) := by
  refine vx_ofWH (cc := cL_spread) (maxL := 4) (ret := (Option.some Jvm.ClassFile.FieldType.int)) (hh := [(0, 9, 12, 24)]) (by decide) rfl ?_
  intro p e s m args below meth c s₁ B hml hv
  obtain ⟨rfl, G⟩ := hk_begin hv
  have htab := vx_table (x := yL_spread) B (atoms_spec (ws := hk_wsW yL_spread cL_spread 4 (Option.some Jvm.ClassFile.FieldType.int) [(0, 9, 12, 24)]) B.pre _ List.mem_cons_self)
  have F9 : CallFix p m c cL_spread 4 s [.ref (g.1 + a0), .int x1, .ref (g.1 + a2)].toArray hk_W RL := ⟨B.exec, B.bytes, hml, findClass_of_methodNamed B.named, fun w h => atoms_spec (ws := hk_wsW yL_spread cL_spread 4 (Option.some Jvm.ClassFile.FieldType.int) [(0, 9, 12, 24)]) B.pre w (hk_inW h)⟩
  have hx := B.exec
  have hb := B.bytes
  have hr := B.returns
  have hlocks := B.notSynchronized
  have hl := lv_entry ([.ref (g.1 + a0), .int x1, .ref (g.1 + a2)]) (n := 4) (Nat.le_of_ble_eq_true rfl)
  rw [lg_entry_eq]
  generalize (lg_sl ([.ref (g.1 + a0), .int x1, .ref (g.1 + a2)]) ++ List.replicate (4 - (lg_sl ([.ref (g.1 + a0), .int x1, .ref (g.1 + a2)])).length) Slot.unset).toArray = ls at hl ⊢
  have hl : lv_has ls 4 [(0, .ref (g.1 + a0)), (1, .int x1), (2, .ref (g.1 + a2))] := hl
  unfold mL_spread at hsp
  have G : hk_GG g E S n s s.heap [] := G
  refine lv_aload_n hx hb dL_spread_0 rfl (lv_at hl 2 rfl) ?_
  refine lv_iconst (v := 0) hx hb dL_spread_1 (by decide) ?_
  refine lv_aload_n hx hb dL_spread_2 rfl (lv_at hl 0 rfl) ?_
  refine lv_iload_n hx hb dL_spread_3 rfl (lv_at hl 1 rfl) ?_
  refine hk_xV (As := [.int x1]) (rest := [.int 0, .ref (g.1 + a2)]) F9 G h0 hkc_8 rfl (kX11_spread l hst g E F n S a0 x1 ((mX11_spread E F S a0 x1).getD (.inl (0, S))) h0 ?_) qv_RL_94 ⟨rfl, rfl, (Nat.le_of_ble_eq_true rfl), (Nat.le_of_ble_eq_true rfl)⟩ rfl hl.1 rfl (Nat.le_of_ble_eq_true rfl) ⟨(Nat.le_of_ble_eq_true rfl), (Nat.le_of_ble_eq_true rfl)⟩ dL_spread_4 (fun k S2 ho ce q9 n1 H locs G h1 h2 h3 => ?_) (fun x ho H locs G => ?_)
  · cases hm : mX11_spread E F S a0 x1 with
    | none => rw [hm] at hsp; exact nomatch hsp
    | some v => rfl
  · have hm : mX11_spread E F S a0 x1 = some (.inl (k, S2)) := by
      cases hm : mX11_spread E F S a0 x1 with
      | none => rw [hm] at hsp; exact nomatch hsp
      | some v => rw [hm] at ho; exact congrArg some ho
    rw [hm] at hsp
    rcases Classical.em (k = 0) with w0 | w0
    · have hsp := hk_t w0 hsp
      subst w0
      refine hk_caught F9 G h1 h2 h3 [] ⟨0, 9, 12, 24⟩ [] (by rw [htab]; rfl) (fun z hz => absurd hz List.not_mem_nil) (by decide) (by decide) (name := "java/lang/IndexOutOfBoundsException") qw_957 (by decide +kernel) ?_
      refine lv_astore_n (lv' := [(3, .ref q9), (0, .ref (g.1 + a0)), (1, .int x1), (2, .ref (g.1 + a2))]) hx hb dL_spread_12 rfl hl (by decide) rfl (fun ls hl => ?_)
      refine lv_iconst (v := 1) hx hb dL_spread_13 (by decide) ?_
      obtain rfl := hk_s hsp
      exact vx_ret (W.widen (k := 1) (n := 6) (Nat.le_of_ble_eq_true rfl) (Nat.le_of_ble_eq_true rfl) (W.iret (v := 1) hx hb hr (fun t ht hW => hk_endN G ht hW) G.2.1.2.2 dL_spread_14))
    · have hsp := hk_f w0 hsp
      exact nomatch hsp
  · have hm : mX11_spread E F S a0 x1 = some (.inr x) := by
      cases hm : mX11_spread E F S a0 x1 with
      | none => rw [hm] at hsp; exact nomatch hsp
      | some v => rw [hm] at ho; exact congrArg some ho
    rw [hm] at hsp
    obtain ⟨qo, hsp⟩ := hk_k hsp
    refine lv_i2l (v := x.1.toInt64) hx hb dL_spread_7 rfl ?_
    refine hk_last (y := x.1) (j := 0) F9 G rfl hout rfl qo (by decide) dL_spread_8 (fun H locs G => ?_)
    refine lv_goto (tgt := 15) hx hb dL_spread_9 (by decide) ?_
    refine lv_iconst (v := 0) hx hb dL_spread_15 (by decide) ?_
    obtain rfl := hk_s hsp
    exact vx_ret (W.widen (k := 1) (n := 6) (Nat.le_of_ble_eq_true rfl) (Nat.le_of_ble_eq_true rfl) (W.iret (v := 0) hx hb hr (fun t ht hW => hk_endN G ht hW) G.2.1.2.2 dL_spread_16))
def mL_truncateInput (E : hk_E) (F : Nat) (S : hk_S) (a0 : Nat) (x1 : Int32) (a2 : Nat) : Option (Int32 × hk_S) :=
  match mX11_truncateInput E F S a0 x1 with
  | none => none
  | some (.inl (k, S1)) => if k = 1 then some (1, S1) else (none)
  | some (.inr r) => if hk_ok 0 (E.2.2.1 a2) then (some (0, hk_up r.2 a2 0 r.1)) else none
set_option maxHeartbeats 4000000 in
set_option maxRecDepth 100000 in
theorem kL_truncateInput (l : Launch) (hst : l.stackTraces = false) (g : hk_G) (E : hk_E) (F n : Nat) (S : hk_S) (a0 : Nat) (x1 : Int32) (a2 : Nat) (o : Int32 × hk_S) (h0 : E.2.1 a0 = 9) (hout : E.2.1 a2 = 17) (hsp : mL_truncateInput E F S a0 x1 a2 = some o) : vx_Met l yL_truncateInput (hk_wsW yL_truncateInput cL_truncateInput 4 (Option.some Jvm.ClassFile.FieldType.int) [(0, 9, 12, 13)]) ({ frames := 8, cells := 1, slots := 6, locals := 125 }) (hk_Pc g E S n [.ref (g.1 + a0), .int x1, .ref (g.1 + a2)]) (hk_QN g E o.2 (some (.int o.1))) hk_XF 1 6 (hk_A g) := by
  refine vx_ofWH (cc := cL_truncateInput) (maxL := 4) (ret := (Option.some Jvm.ClassFile.FieldType.int)) (hh := [(0, 9, 12, 13)]) (by decide) rfl ?_
  intro p e s m args below meth c s₁ B hml hv
  obtain ⟨rfl, G⟩ := hk_begin hv
  have htab := vx_table (x := yL_truncateInput) B (atoms_spec (ws := hk_wsW yL_truncateInput cL_truncateInput 4 (Option.some Jvm.ClassFile.FieldType.int) [(0, 9, 12, 13)]) B.pre _ List.mem_cons_self)
  have F9 : CallFix p m c cL_truncateInput 4 s [.ref (g.1 + a0), .int x1, .ref (g.1 + a2)].toArray hk_W RL := ⟨B.exec, B.bytes, hml, findClass_of_methodNamed B.named, fun w h => atoms_spec (ws := hk_wsW yL_truncateInput cL_truncateInput 4 (Option.some Jvm.ClassFile.FieldType.int) [(0, 9, 12, 13)]) B.pre w (hk_inW h)⟩
  have hx := B.exec
  have hb := B.bytes
  have hr := B.returns
  have hlocks := B.notSynchronized
  have hl := lv_entry ([.ref (g.1 + a0), .int x1, .ref (g.1 + a2)]) (n := 4) (Nat.le_of_ble_eq_true rfl)
  rw [lg_entry_eq]
  generalize (lg_sl ([.ref (g.1 + a0), .int x1, .ref (g.1 + a2)]) ++ List.replicate (4 - (lg_sl ([.ref (g.1 + a0), .int x1, .ref (g.1 + a2)])).length) Slot.unset).toArray = ls at hl ⊢
  have hl : lv_has ls 4 [(0, .ref (g.1 + a0)), (1, .int x1), (2, .ref (g.1 + a2))] := hl
  unfold mL_truncateInput at hsp
  have G : hk_GG g E S n s s.heap [] := G
  refine lv_aload_n hx hb dL_truncateInput_0 rfl (lv_at hl 2 rfl) ?_
  refine lv_iconst (v := 0) hx hb dL_truncateInput_1 (by decide) ?_
  refine lv_aload_n hx hb dL_truncateInput_2 rfl (lv_at hl 0 rfl) ?_
  refine lv_iload_n hx hb dL_truncateInput_3 rfl (lv_at hl 1 rfl) ?_
  refine hk_xV (As := [.int x1]) (rest := [.int 0, .ref (g.1 + a2)]) F9 G h0 hkc_8 rfl (kX11_truncateInput l hst g E F n S a0 x1 ((mX11_truncateInput E F S a0 x1).getD (.inl (0, S))) h0 ?_) qv_RL_7 ⟨rfl, rfl, (Nat.le_of_ble_eq_true rfl), (Nat.le_of_ble_eq_true rfl)⟩ rfl hl.1 rfl (Nat.le_of_ble_eq_true rfl) ⟨(Nat.le_of_ble_eq_true rfl), (Nat.le_of_ble_eq_true rfl)⟩ dL_truncateInput_4 (fun k S2 ho ce q9 n1 H locs G h1 h2 h3 => ?_) (fun x ho H locs G => ?_)
  · cases hm : mX11_truncateInput E F S a0 x1 with
    | none => rw [hm] at hsp; exact nomatch hsp
    | some v => rfl
  · have hm : mX11_truncateInput E F S a0 x1 = some (.inl (k, S2)) := by
      cases hm : mX11_truncateInput E F S a0 x1 with
      | none => rw [hm] at hsp; exact nomatch hsp
      | some v => rw [hm] at ho; exact congrArg some ho
    rw [hm] at hsp
    rcases Classical.em (k = 1) with w0 | w0
    · have hsp := hk_t w0 hsp
      subst w0
      refine hk_caught F9 G h1 h2 h3 [] ⟨0, 9, 12, 13⟩ [] (by rw [htab]; rfl) (fun z hz => absurd hz List.not_mem_nil) (by decide) (by decide) (name := "java/lang/IllegalArgumentException") qw_850 (by decide +kernel) ?_
      refine lv_astore_n (lv' := [(3, .ref q9), (0, .ref (g.1 + a0)), (1, .int x1), (2, .ref (g.1 + a2))]) hx hb dL_truncateInput_12 rfl hl (by decide) rfl (fun ls hl => ?_)
      refine lv_iconst (v := 1) hx hb dL_truncateInput_13 (by decide) ?_
      obtain rfl := hk_s hsp
      exact vx_ret (W.widen (k := 1) (n := 6) (Nat.le_of_ble_eq_true rfl) (Nat.le_of_ble_eq_true rfl) (W.iret (v := 1) hx hb hr (fun t ht hW => hk_endN G ht hW) G.2.1.2.2 dL_truncateInput_14))
    · have hsp := hk_f w0 hsp
      exact nomatch hsp
  · have hm : mX11_truncateInput E F S a0 x1 = some (.inr x) := by
      cases hm : mX11_truncateInput E F S a0 x1 with
      | none => rw [hm] at hsp; exact nomatch hsp
      | some v => rw [hm] at ho; exact congrArg some ho
    rw [hm] at hsp
    obtain ⟨qo, hsp⟩ := hk_k hsp
    refine lv_i2l (v := x.1.toInt64) hx hb dL_truncateInput_7 rfl ?_
    refine hk_last (y := x.1) (j := 0) F9 G rfl hout rfl qo (by decide) dL_truncateInput_8 (fun H locs G => ?_)
    refine lv_goto (tgt := 15) hx hb dL_truncateInput_9 (by decide) ?_
    refine lv_iconst (v := 0) hx hb dL_truncateInput_15 (by decide) ?_
    obtain rfl := hk_s hsp
    exact vx_ret (W.widen (k := 1) (n := 6) (Nat.le_of_ble_eq_true rfl) (Nat.le_of_ble_eq_true rfl) (W.iret (v := 0) hx hb hr (fun t ht hW => hk_endN G ht hW) G.2.1.2.2 dL_truncateInput_16))
def mL_turnLeaf (E : hk_E) (F : Nat) (S : hk_S) (a0 : Nat) (x1 : Int32) (a2 : Nat) : Option (Int32 × hk_S) :=
  match mX11_turnLeaf E F S a0 x1 with
  | none => none
  | some (.inl (k, S1)) => if k = 0 then some (1, S1) else (if k = 2 then some (2, S1) else (none))
  | some (.inr r) => if hk_ok 0 (E.2.2.1 a2) then (some (0, hk_up r.2 a2 0 r.1)) else none
set_option maxHeartbeats 4000000 in
set_option maxRecDepth 100000 in
theorem kL_turnLeaf (l : Launch) (hst : l.stackTraces = false) (g : hk_G) (E : hk_E) (F n : Nat) (S : hk_S) (a0 : Nat) (x1 : Int32) (a2 : Nat) (o : Int32 × hk_S) (h0 : E.2.1 a0 = 9) (hout : E.2.1 a2 = 17) (hsp : mL_turnLeaf E F S a0 x1 a2 = some o) : vx_Met l yL_turnLeaf (hk_wsW yL_turnLeaf cL_turnLeaf 4 (Option.some Jvm.ClassFile.FieldType.int) [(0, 9, 12, 24), (0, 9, 15, 18)]) ({ frames := 8, cells := 2, slots := 12, locals := 125 }) (hk_Pc g E S n [.ref (g.1 + a0), .int x1, .ref (g.1 + a2)]) (hk_QN g E o.2 (some (.int o.1))) hk_XF 2 12 (hk_A g) := by
  refine vx_ofWH (cc := cL_turnLeaf) (maxL := 4) (ret := (Option.some Jvm.ClassFile.FieldType.int)) (hh := [(0, 9, 12, 24), (0, 9, 15, 18)]) (by decide) rfl ?_
  intro p e s m args below meth c s₁ B hml hv
  obtain ⟨rfl, G⟩ := hk_begin hv
  have htab := vx_table (x := yL_turnLeaf) B (atoms_spec (ws := hk_wsW yL_turnLeaf cL_turnLeaf 4 (Option.some Jvm.ClassFile.FieldType.int) [(0, 9, 12, 24), (0, 9, 15, 18)]) B.pre _ List.mem_cons_self)
  have F9 : CallFix p m c cL_turnLeaf 4 s [.ref (g.1 + a0), .int x1, .ref (g.1 + a2)].toArray hk_W RL := ⟨B.exec, B.bytes, hml, findClass_of_methodNamed B.named, fun w h => atoms_spec (ws := hk_wsW yL_turnLeaf cL_turnLeaf 4 (Option.some Jvm.ClassFile.FieldType.int) [(0, 9, 12, 24), (0, 9, 15, 18)]) B.pre w (hk_inW h)⟩
  have hx := B.exec
  have hb := B.bytes
  have hr := B.returns
  have hlocks := B.notSynchronized
  have hl := lv_entry ([.ref (g.1 + a0), .int x1, .ref (g.1 + a2)]) (n := 4) (Nat.le_of_ble_eq_true rfl)
  rw [lg_entry_eq]
  generalize (lg_sl ([.ref (g.1 + a0), .int x1, .ref (g.1 + a2)]) ++ List.replicate (4 - (lg_sl ([.ref (g.1 + a0), .int x1, .ref (g.1 + a2)])).length) Slot.unset).toArray = ls at hl ⊢
  have hl : lv_has ls 4 [(0, .ref (g.1 + a0)), (1, .int x1), (2, .ref (g.1 + a2))] := hl
  unfold mL_turnLeaf at hsp
  have G : hk_GG g E S n s s.heap [] := G
  refine lv_aload_n hx hb dL_turnLeaf_0 rfl (lv_at hl 2 rfl) ?_
  refine lv_iconst (v := 0) hx hb dL_turnLeaf_1 (by decide) ?_
  refine lv_aload_n hx hb dL_turnLeaf_2 rfl (lv_at hl 0 rfl) ?_
  refine lv_iload_n hx hb dL_turnLeaf_3 rfl (lv_at hl 1 rfl) ?_
  refine hk_xV (As := [.int x1]) (rest := [.int 0, .ref (g.1 + a2)]) F9 G h0 hkc_8 rfl (kX11_turnLeaf l hst g E F n S a0 x1 ((mX11_turnLeaf E F S a0 x1).getD (.inl (0, S))) h0 ?_) qv_RL_46 ⟨rfl, rfl, (Nat.le_of_ble_eq_true rfl), (Nat.le_of_ble_eq_true rfl)⟩ rfl hl.1 rfl (Nat.le_of_ble_eq_true rfl) ⟨(Nat.le_of_ble_eq_true rfl), (Nat.le_of_ble_eq_true rfl)⟩ dL_turnLeaf_4 (fun k S2 ho ce q9 n1 H locs G h1 h2 h3 => ?_) (fun x ho H locs G => ?_)
  · cases hm : mX11_turnLeaf E F S a0 x1 with
    | none => rw [hm] at hsp; exact nomatch hsp
    | some v => rfl
  · have hm : mX11_turnLeaf E F S a0 x1 = some (.inl (k, S2)) := by
      cases hm : mX11_turnLeaf E F S a0 x1 with
      | none => rw [hm] at hsp; exact nomatch hsp
      | some v => rw [hm] at ho; exact congrArg some ho
    rw [hm] at hsp
    rcases Classical.em (k = 0) with w0 | w0
    · have hsp := hk_t w0 hsp
      subst w0
      refine hk_caught F9 G h1 h2 h3 [] ⟨0, 9, 12, 24⟩ [⟨0, 9, 15, 18⟩] (by rw [htab]; rfl) (fun z hz => absurd hz List.not_mem_nil) (by decide) (by decide) (name := "java/lang/IndexOutOfBoundsException") qw_957 (by decide +kernel) ?_
      refine lv_astore_n (lv' := [(3, .ref q9), (0, .ref (g.1 + a0)), (1, .int x1), (2, .ref (g.1 + a2))]) hx hb dL_turnLeaf_12 rfl hl (by decide) rfl (fun ls hl => ?_)
      refine lv_iconst (v := 1) hx hb dL_turnLeaf_13 (by decide) ?_
      obtain rfl := hk_s hsp
      exact vx_ret (W.widen (k := 2) (n := 12) (Nat.le_of_ble_eq_true rfl) (Nat.le_of_ble_eq_true rfl) (W.iret (v := 1) hx hb hr (fun t ht hW => hk_endN G ht hW) G.2.1.2.2 dL_turnLeaf_14))
    · have hsp := hk_f w0 hsp
      rcases Classical.em (k = 2) with w1 | w1
      · have hsp := hk_t w1 hsp
        subst w1
        refine hk_caught F9 G h1 h2 h3 [⟨0, 9, 12, 24⟩] ⟨0, 9, 15, 18⟩ [] (by rw [htab]; rfl) (List.forall_mem_cons.mpr ⟨Or.inr ⟨by decide, "java/lang/IndexOutOfBoundsException", qw_957, by decide +kernel⟩, fun z hz => absurd hz List.not_mem_nil⟩) (by decide) (by decide) (name := "java/lang/IllegalStateException") qw_929 (by decide +kernel) ?_
        refine lv_astore_n (lv' := [(3, .ref q9), (0, .ref (g.1 + a0)), (1, .int x1), (2, .ref (g.1 + a2))]) hx hb dL_turnLeaf_15 rfl hl (by decide) rfl (fun ls hl => ?_)
        refine lv_iconst (v := 2) hx hb dL_turnLeaf_16 (by decide) ?_
        obtain rfl := hk_s hsp
        exact vx_ret (W.widen (k := 2) (n := 12) (Nat.le_of_ble_eq_true rfl) (Nat.le_of_ble_eq_true rfl) (W.iret (v := 2) hx hb hr (fun t ht hW => hk_endN G ht hW) G.2.1.2.2 dL_turnLeaf_17))
      · have hsp := hk_f w1 hsp
        exact nomatch hsp
  · have hm : mX11_turnLeaf E F S a0 x1 = some (.inr x) := by
      cases hm : mX11_turnLeaf E F S a0 x1 with
      | none => rw [hm] at hsp; exact nomatch hsp
      | some v => rw [hm] at ho; exact congrArg some ho
    rw [hm] at hsp
    obtain ⟨qo, hsp⟩ := hk_k hsp
    refine lv_i2l (v := x.1.toInt64) hx hb dL_turnLeaf_7 rfl ?_
    refine hk_last (y := x.1) (j := 0) F9 G rfl hout rfl qo (by decide) dL_turnLeaf_8 (fun H locs G => ?_)
    refine lv_goto (tgt := 18) hx hb dL_turnLeaf_9 (by decide) ?_
    refine lv_iconst (v := 0) hx hb dL_turnLeaf_18 (by decide) ?_
    obtain rfl := hk_s hsp
    exact vx_ret (W.widen (k := 2) (n := 12) (Nat.le_of_ble_eq_true rfl) (Nat.le_of_ble_eq_true rfl) (W.iret (v := 0) hx hb hr (fun t ht hW => hk_endN G ht hW) G.2.1.2.2 dL_turnLeaf_19))
def mL_warmth (E : hk_E) (F : Nat) (S : hk_S) (a0 : Nat) (x1 : Int32) (a2 : Nat) : Option (Int32 × hk_S) :=
  match mX11_warmth E F S a0 x1 with
  | none => none
  | some (.inl (k, S1)) => if k = 0 then some (1, S1) else (none)
  | some (.inr r) => if hk_ok 0 (E.2.2.1 a2) then (some (0, hk_up r.2 a2 0 r.1)) else none
set_option maxHeartbeats 4000000 in
set_option maxRecDepth 100000 in
theorem kL_warmth (l : Launch) (hst : l.stackTraces = false) (g : hk_G) (E : hk_E) (F n : Nat) (S : hk_S) (a0 : Nat) (x1 : Int32) (a2 : Nat) (o : Int32 × hk_S) (h0 : E.2.1 a0 = 9) (hout : E.2.1 a2 = 17) (hsp : mL_warmth E F S a0 x1 a2 = some o) : vx_Met l yL_warmth (hk_wsW yL_warmth cL_warmth 4 (Option.some Jvm.ClassFile.FieldType.int) [(0, 9, 12, 24)]) ({ frames := 8, cells := 1, slots := 6, locals := 125 }) (hk_Pc g E S n [.ref (g.1 + a0), .int x1, .ref (g.1 + a2)]) (hk_QN g E o.2 (some (.int o.1))) hk_XF 1 6 (hk_A g) := by
  refine vx_ofWH (cc := cL_warmth) (maxL := 4) (ret := (Option.some Jvm.ClassFile.FieldType.int)) (hh := [(0, 9, 12, 24)]) (by decide) rfl ?_
  intro p e s m args below meth c s₁ B hml hv
  obtain ⟨rfl, G⟩ := hk_begin hv
  have htab := vx_table (x := yL_warmth) B (atoms_spec (ws := hk_wsW yL_warmth cL_warmth 4 (Option.some Jvm.ClassFile.FieldType.int) [(0, 9, 12, 24)]) B.pre _ List.mem_cons_self)
  have F9 : CallFix p m c cL_warmth 4 s [.ref (g.1 + a0), .int x1, .ref (g.1 + a2)].toArray hk_W RL := ⟨B.exec, B.bytes, hml, findClass_of_methodNamed B.named, fun w h => atoms_spec (ws := hk_wsW yL_warmth cL_warmth 4 (Option.some Jvm.ClassFile.FieldType.int) [(0, 9, 12, 24)]) B.pre w (hk_inW h)⟩
  have hx := B.exec
  have hb := B.bytes
  have hr := B.returns
  have hlocks := B.notSynchronized
  have hl := lv_entry ([.ref (g.1 + a0), .int x1, .ref (g.1 + a2)]) (n := 4) (Nat.le_of_ble_eq_true rfl)
  rw [lg_entry_eq]
  generalize (lg_sl ([.ref (g.1 + a0), .int x1, .ref (g.1 + a2)]) ++ List.replicate (4 - (lg_sl ([.ref (g.1 + a0), .int x1, .ref (g.1 + a2)])).length) Slot.unset).toArray = ls at hl ⊢
  have hl : lv_has ls 4 [(0, .ref (g.1 + a0)), (1, .int x1), (2, .ref (g.1 + a2))] := hl
  unfold mL_warmth at hsp
  have G : hk_GG g E S n s s.heap [] := G
  refine lv_aload_n hx hb dL_warmth_0 rfl (lv_at hl 2 rfl) ?_
  refine lv_iconst (v := 0) hx hb dL_warmth_1 (by decide) ?_
  refine lv_aload_n hx hb dL_warmth_2 rfl (lv_at hl 0 rfl) ?_
  refine lv_iload_n hx hb dL_warmth_3 rfl (lv_at hl 1 rfl) ?_
  refine hk_xV (As := [.int x1]) (rest := [.int 0, .ref (g.1 + a2)]) F9 G h0 hkc_8 rfl (kX11_warmth l hst g E F n S a0 x1 ((mX11_warmth E F S a0 x1).getD (.inl (0, S))) h0 ?_) qv_RL_97 ⟨rfl, rfl, (Nat.le_of_ble_eq_true rfl), (Nat.le_of_ble_eq_true rfl)⟩ rfl hl.1 rfl (Nat.le_of_ble_eq_true rfl) ⟨(Nat.le_of_ble_eq_true rfl), (Nat.le_of_ble_eq_true rfl)⟩ dL_warmth_4 (fun k S2 ho ce q9 n1 H locs G h1 h2 h3 => ?_) (fun x ho H locs G => ?_)
  · cases hm : mX11_warmth E F S a0 x1 with
    | none => rw [hm] at hsp; exact nomatch hsp
    | some v => rfl
  · have hm : mX11_warmth E F S a0 x1 = some (.inl (k, S2)) := by
      cases hm : mX11_warmth E F S a0 x1 with
      | none => rw [hm] at hsp; exact nomatch hsp
      | some v => rw [hm] at ho; exact congrArg some ho
    rw [hm] at hsp
    rcases Classical.em (k = 0) with w0 | w0
    · have hsp := hk_t w0 hsp
      subst w0
      refine hk_caught F9 G h1 h2 h3 [] ⟨0, 9, 12, 24⟩ [] (by rw [htab]; rfl) (fun z hz => absurd hz List.not_mem_nil) (by decide) (by decide) (name := "java/lang/IndexOutOfBoundsException") qw_957 (by decide +kernel) ?_
      refine lv_astore_n (lv' := [(3, .ref q9), (0, .ref (g.1 + a0)), (1, .int x1), (2, .ref (g.1 + a2))]) hx hb dL_warmth_12 rfl hl (by decide) rfl (fun ls hl => ?_)
      refine lv_iconst (v := 1) hx hb dL_warmth_13 (by decide) ?_
      obtain rfl := hk_s hsp
      exact vx_ret (W.widen (k := 1) (n := 6) (Nat.le_of_ble_eq_true rfl) (Nat.le_of_ble_eq_true rfl) (W.iret (v := 1) hx hb hr (fun t ht hW => hk_endN G ht hW) G.2.1.2.2 dL_warmth_14))
    · have hsp := hk_f w0 hsp
      exact nomatch hsp
  · have hm : mX11_warmth E F S a0 x1 = some (.inr x) := by
      cases hm : mX11_warmth E F S a0 x1 with
      | none => rw [hm] at hsp; exact nomatch hsp
      | some v => rw [hm] at ho; exact congrArg some ho
    rw [hm] at hsp
    obtain ⟨qo, hsp⟩ := hk_k hsp
    refine lv_i2l (v := x.1.toInt64) hx hb dL_warmth_7 rfl ?_
    refine hk_last (y := x.1) (j := 0) F9 G rfl hout rfl qo (by decide) dL_warmth_8 (fun H locs G => ?_)
    refine lv_goto (tgt := 15) hx hb dL_warmth_9 (by decide) ?_
    refine lv_iconst (v := 0) hx hb dL_warmth_15 (by decide) ?_
    obtain rfl := hk_s hsp
    exact vx_ret (W.widen (k := 1) (n := 6) (Nat.le_of_ble_eq_true rfl) (Nat.le_of_ble_eq_true rfl) (W.iret (v := 0) hx hb hr (fun t ht hW => hk_endN G ht hW) G.2.1.2.2 dL_warmth_16))
def mL_weight (E : hk_E) (F : Nat) (S : hk_S) (a0 : Nat) (x1 : Int32) (a2 : Nat) : Option (Int32 × hk_S) :=
  match mX11_weight E F S a0 x1 with
  | none => none
  | some (.inl (k, S1)) => if k = 0 then some (1, S1) else (none)
  | some (.inr r) => if hk_ok 0 (E.2.2.1 a2) then (some (0, hk_up r.2 a2 0 r.1)) else none
set_option maxHeartbeats 4000000 in
set_option maxRecDepth 100000 in
theorem kL_weight (l : Launch) (hst : l.stackTraces = false) (g : hk_G) (E : hk_E) (F n : Nat) (S : hk_S) (a0 : Nat) (x1 : Int32) (a2 : Nat) (o : Int32 × hk_S) (h0 : E.2.1 a0 = 9) (hout : E.2.1 a2 = 17) (hsp : mL_weight E F S a0 x1 a2 = some o) : vx_Met l yL_weight (hk_wsW yL_weight cL_weight 4 (Option.some Jvm.ClassFile.FieldType.int) [(0, 9, 12, 24)]) ({ frames := 8, cells := 1, slots := 6, locals := 124 }) (hk_Pc g E S n [.ref (g.1 + a0), .int x1, .ref (g.1 + a2)]) (hk_QN g E o.2 (some (.int o.1))) hk_XF 1 6 (hk_A g) := by
  refine vx_ofWH (cc := cL_weight) (maxL := 4) (ret := (Option.some Jvm.ClassFile.FieldType.int)) (hh := [(0, 9, 12, 24)]) (by decide) rfl ?_
  intro p e s m args below meth c s₁ B hml hv
  obtain ⟨rfl, G⟩ := hk_begin hv
  have htab := vx_table (x := yL_weight) B (atoms_spec (ws := hk_wsW yL_weight cL_weight 4 (Option.some Jvm.ClassFile.FieldType.int) [(0, 9, 12, 24)]) B.pre _ List.mem_cons_self)
  have F9 : CallFix p m c cL_weight 4 s [.ref (g.1 + a0), .int x1, .ref (g.1 + a2)].toArray hk_W RL := ⟨B.exec, B.bytes, hml, findClass_of_methodNamed B.named, fun w h => atoms_spec (ws := hk_wsW yL_weight cL_weight 4 (Option.some Jvm.ClassFile.FieldType.int) [(0, 9, 12, 24)]) B.pre w (hk_inW h)⟩
  have hx := B.exec
  have hb := B.bytes
  have hr := B.returns
  have hlocks := B.notSynchronized
  have hl := lv_entry ([.ref (g.1 + a0), .int x1, .ref (g.1 + a2)]) (n := 4) (Nat.le_of_ble_eq_true rfl)
  rw [lg_entry_eq]
  generalize (lg_sl ([.ref (g.1 + a0), .int x1, .ref (g.1 + a2)]) ++ List.replicate (4 - (lg_sl ([.ref (g.1 + a0), .int x1, .ref (g.1 + a2)])).length) Slot.unset).toArray = ls at hl ⊢
  have hl : lv_has ls 4 [(0, .ref (g.1 + a0)), (1, .int x1), (2, .ref (g.1 + a2))] := hl
  unfold mL_weight at hsp
  have G : hk_GG g E S n s s.heap [] := G
  refine lv_aload_n hx hb dL_weight_0 rfl (lv_at hl 2 rfl) ?_
  refine lv_iconst (v := 0) hx hb dL_weight_1 (by decide) ?_
  refine lv_aload_n hx hb dL_weight_2 rfl (lv_at hl 0 rfl) ?_
  refine lv_iload_n hx hb dL_weight_3 rfl (lv_at hl 1 rfl) ?_
  refine hk_xV (As := [.int x1]) (rest := [.int 0, .ref (g.1 + a2)]) F9 G h0 hkc_8 rfl (kX11_weight l hst g E F n S a0 x1 ((mX11_weight E F S a0 x1).getD (.inl (0, S))) h0 ?_) qv_RL_112 ⟨rfl, rfl, (Nat.le_of_ble_eq_true rfl), (Nat.le_of_ble_eq_true rfl)⟩ rfl hl.1 rfl (Nat.le_of_ble_eq_true rfl) ⟨(Nat.le_of_ble_eq_true rfl), (Nat.le_of_ble_eq_true rfl)⟩ dL_weight_4 (fun k S2 ho ce q9 n1 H locs G h1 h2 h3 => ?_) (fun x ho H locs G => ?_)
  · cases hm : mX11_weight E F S a0 x1 with
    | none => rw [hm] at hsp; exact nomatch hsp
    | some v => rfl
  · have hm : mX11_weight E F S a0 x1 = some (.inl (k, S2)) := by
      cases hm : mX11_weight E F S a0 x1 with
      | none => rw [hm] at hsp; exact nomatch hsp
      | some v => rw [hm] at ho; exact congrArg some ho
    rw [hm] at hsp
    rcases Classical.em (k = 0) with w0 | w0
    · have hsp := hk_t w0 hsp
      subst w0
      refine hk_caught F9 G h1 h2 h3 [] ⟨0, 9, 12, 24⟩ [] (by rw [htab]; rfl) (fun z hz => absurd hz List.not_mem_nil) (by decide) (by decide) (name := "java/lang/IndexOutOfBoundsException") qw_957 (by decide +kernel) ?_
      refine lv_astore_n (lv' := [(3, .ref q9), (0, .ref (g.1 + a0)), (1, .int x1), (2, .ref (g.1 + a2))]) hx hb dL_weight_12 rfl hl (by decide) rfl (fun ls hl => ?_)
      refine lv_iconst (v := 1) hx hb dL_weight_13 (by decide) ?_
      obtain rfl := hk_s hsp
      exact vx_ret (W.widen (k := 1) (n := 6) (Nat.le_of_ble_eq_true rfl) (Nat.le_of_ble_eq_true rfl) (W.iret (v := 1) hx hb hr (fun t ht hW => hk_endN G ht hW) G.2.1.2.2 dL_weight_14))
    · have hsp := hk_f w0 hsp
      exact nomatch hsp
  · have hm : mX11_weight E F S a0 x1 = some (.inr x) := by
      cases hm : mX11_weight E F S a0 x1 with
      | none => rw [hm] at hsp; exact nomatch hsp
      | some v => rw [hm] at ho; exact congrArg some ho
    rw [hm] at hsp
    obtain ⟨qo, hsp⟩ := hk_k hsp
    refine lv_i2l (v := x.1.toInt64) hx hb dL_weight_7 rfl ?_
    refine hk_last (y := x.1) (j := 0) F9 G rfl hout rfl qo (by decide) dL_weight_8 (fun H locs G => ?_)
    refine lv_goto (tgt := 15) hx hb dL_weight_9 (by decide) ?_
    refine lv_iconst (v := 0) hx hb dL_weight_15 (by decide) ?_
    obtain rfl := hk_s hsp
    exact vx_ret (W.widen (k := 1) (n := 6) (Nat.le_of_ble_eq_true rfl) (Nat.le_of_ble_eq_true rfl) (W.iret (v := 0) hx hb hr (fun t ht hW => hk_endN G ht hW) G.2.1.2.2 dL_weight_16))
def mL_whyNoDischarge (E : hk_E) (F : Nat) (S : hk_S) (a0 : Nat) (x1 : Int32) (a2 : Nat) : Option (Int32 × hk_S) :=
  match mX11_whyNoDischarge E F S a0 x1 with
  | none => none
  | some (.inl (k, S1)) => if k = 0 then some (1, S1) else (none)
  | some (.inr r) => if hk_ok 0 (E.2.2.1 a2) then (some (0, hk_up r.2 a2 0 r.1)) else none
set_option maxHeartbeats 4000000 in
set_option maxRecDepth 100000 in
theorem kL_whyNoDischarge (l : Launch) (hst : l.stackTraces = false) (g : hk_G) (E : hk_E) (F n : Nat) (S : hk_S) (a0 : Nat) (x1 : Int32) (a2 : Nat) (o : Int32 × hk_S) (h0 : E.2.1 a0 = 9) (hout : E.2.1 a2 = 17) (hsp : mL_whyNoDischarge E F S a0 x1 a2 = some o) : vx_Met l yL_whyNoDischarge (hk_wsW yL_whyNoDischarge cL_whyNoDischarge 4 (Option.some Jvm.ClassFile.FieldType.int) [(0, 9, 12, 24)]) ({ frames := 8, cells := 1, slots := 6, locals := 124 }) (hk_Pc g E S n [.ref (g.1 + a0), .int x1, .ref (g.1 + a2)]) (hk_QN g E o.2 (some (.int o.1))) hk_XF 1 6 (hk_A g) := by
  refine vx_ofWH (cc := cL_whyNoDischarge) (maxL := 4) (ret := (Option.some Jvm.ClassFile.FieldType.int)) (hh := [(0, 9, 12, 24)]) (by decide) rfl ?_
  intro p e s m args below meth c s₁ B hml hv
  obtain ⟨rfl, G⟩ := hk_begin hv
  have htab := vx_table (x := yL_whyNoDischarge) B (atoms_spec (ws := hk_wsW yL_whyNoDischarge cL_whyNoDischarge 4 (Option.some Jvm.ClassFile.FieldType.int) [(0, 9, 12, 24)]) B.pre _ List.mem_cons_self)
  have F9 : CallFix p m c cL_whyNoDischarge 4 s [.ref (g.1 + a0), .int x1, .ref (g.1 + a2)].toArray hk_W RL := ⟨B.exec, B.bytes, hml, findClass_of_methodNamed B.named, fun w h => atoms_spec (ws := hk_wsW yL_whyNoDischarge cL_whyNoDischarge 4 (Option.some Jvm.ClassFile.FieldType.int) [(0, 9, 12, 24)]) B.pre w (hk_inW h)⟩
  have hx := B.exec
  have hb := B.bytes
  have hr := B.returns
  have hlocks := B.notSynchronized
  have hl := lv_entry ([.ref (g.1 + a0), .int x1, .ref (g.1 + a2)]) (n := 4) (Nat.le_of_ble_eq_true rfl)
  rw [lg_entry_eq]
  generalize (lg_sl ([.ref (g.1 + a0), .int x1, .ref (g.1 + a2)]) ++ List.replicate (4 - (lg_sl ([.ref (g.1 + a0), .int x1, .ref (g.1 + a2)])).length) Slot.unset).toArray = ls at hl ⊢
  have hl : lv_has ls 4 [(0, .ref (g.1 + a0)), (1, .int x1), (2, .ref (g.1 + a2))] := hl
  unfold mL_whyNoDischarge at hsp
  have G : hk_GG g E S n s s.heap [] := G
  refine lv_aload_n hx hb dL_whyNoDischarge_0 rfl (lv_at hl 2 rfl) ?_
  refine lv_iconst (v := 0) hx hb dL_whyNoDischarge_1 (by decide) ?_
  refine lv_aload_n hx hb dL_whyNoDischarge_2 rfl (lv_at hl 0 rfl) ?_
  refine lv_iload_n hx hb dL_whyNoDischarge_3 rfl (lv_at hl 1 rfl) ?_
  refine hk_xV (As := [.int x1]) (rest := [.int 0, .ref (g.1 + a2)]) F9 G h0 hkc_8 rfl (kX11_whyNoDischarge l hst g E F n S a0 x1 ((mX11_whyNoDischarge E F S a0 x1).getD (.inl (0, S))) h0 ?_) qv_RL_109 ⟨rfl, rfl, (Nat.le_of_ble_eq_true rfl), (Nat.le_of_ble_eq_true rfl)⟩ rfl hl.1 rfl (Nat.le_of_ble_eq_true rfl) ⟨(Nat.le_of_ble_eq_true rfl), (Nat.le_of_ble_eq_true rfl)⟩ dL_whyNoDischarge_4 (fun k S2 ho ce q9 n1 H locs G h1 h2 h3 => ?_) (fun x ho H locs G => ?_)
  · cases hm : mX11_whyNoDischarge E F S a0 x1 with
    | none => rw [hm] at hsp; exact nomatch hsp
    | some v => rfl
  · have hm : mX11_whyNoDischarge E F S a0 x1 = some (.inl (k, S2)) := by
      cases hm : mX11_whyNoDischarge E F S a0 x1 with
      | none => rw [hm] at hsp; exact nomatch hsp
      | some v => rw [hm] at ho; exact congrArg some ho
    rw [hm] at hsp
    rcases Classical.em (k = 0) with w0 | w0
    · have hsp := hk_t w0 hsp
      subst w0
      refine hk_caught F9 G h1 h2 h3 [] ⟨0, 9, 12, 24⟩ [] (by rw [htab]; rfl) (fun z hz => absurd hz List.not_mem_nil) (by decide) (by decide) (name := "java/lang/IndexOutOfBoundsException") qw_957 (by decide +kernel) ?_
      refine lv_astore_n (lv' := [(3, .ref q9), (0, .ref (g.1 + a0)), (1, .int x1), (2, .ref (g.1 + a2))]) hx hb dL_whyNoDischarge_12 rfl hl (by decide) rfl (fun ls hl => ?_)
      refine lv_iconst (v := 1) hx hb dL_whyNoDischarge_13 (by decide) ?_
      obtain rfl := hk_s hsp
      exact vx_ret (W.widen (k := 1) (n := 6) (Nat.le_of_ble_eq_true rfl) (Nat.le_of_ble_eq_true rfl) (W.iret (v := 1) hx hb hr (fun t ht hW => hk_endN G ht hW) G.2.1.2.2 dL_whyNoDischarge_14))
    · have hsp := hk_f w0 hsp
      exact nomatch hsp
  · have hm : mX11_whyNoDischarge E F S a0 x1 = some (.inr x) := by
      cases hm : mX11_whyNoDischarge E F S a0 x1 with
      | none => rw [hm] at hsp; exact nomatch hsp
      | some v => rw [hm] at ho; exact congrArg some ho
    rw [hm] at hsp
    obtain ⟨qo, hsp⟩ := hk_k hsp
    refine lv_i2l (v := x.1.toInt64) hx hb dL_whyNoDischarge_7 rfl ?_
    refine hk_last (y := x.1) (j := 0) F9 G rfl hout rfl qo (by decide) dL_whyNoDischarge_8 (fun H locs G => ?_)
    refine lv_goto (tgt := 15) hx hb dL_whyNoDischarge_9 (by decide) ?_
    refine lv_iconst (v := 0) hx hb dL_whyNoDischarge_15 (by decide) ?_
    obtain rfl := hk_s hsp
    exact vx_ret (W.widen (k := 1) (n := 6) (Nat.le_of_ble_eq_true rfl) (Nat.le_of_ble_eq_true rfl) (W.iret (v := 0) hx hb hr (fun t ht hW => hk_endN G ht hW) G.2.1.2.2 dL_whyNoDischarge_16))
