def mX11_restoreSnapshot (E : hk_E) (F : Nat) (S : hk_S) (a0 : Nat) : Option (Sum (Nat × hk_S) (Int32 × hk_S)) :=
if ¬ (S a0 2) = 0 then ((E.2.2.2 a0 0).bind (fun r2 => if E.2.1 r2 = 4 then ((E.2.2.2 a0 1).bind (fun r3 => if E.2.1 r3 = 4 then ((mX5_become E F S r2 r3).bind (fun r4 => (E.2.2.2 a0 3).bind (fun r5 => if E.2.1 r5 = 2 then (hk_let (hk_up r4 r5 2 0) (fun S6 => (E.2.2.2 r2 0).bind (fun r7 => if E.2.1 r7 = 1 then (some (.inr (((S6 r7 0), S6)))) else none))) else none))) else none)) else none)) else (some (.inl (3, S)))
set_option maxHeartbeats 4000000 in
set_option maxRecDepth 100000 in
theorem kX11_restoreSnapshot (l : Launch) (hst : l.stackTraces = false) (g : hk_G) (E : hk_E) (F n : Nat) (S : hk_S) (a0 : Nat) (o : Sum (Nat × hk_S) (Int32 × hk_S)) (h0 : E.2.1 a0 = 9) (hsp : mX11_restoreSnapshot E F S a0 = some o) : vx_Met l yX11_restoreSnapshot (hk_ws yX11_restoreSnapshot cX11_restoreSnapshot 1 (Option.some Jvm.ClassFile.FieldType.int)) ({ frames := 6, cells := 1, slots := 6, locals := 82 }) (hk_Pc g E S n [.ref (g.1 + a0)]) (hk_XQ g E n o (fun x => x.2) (fun x => some (.int x.1))) (hk_XX g E o) 1 6 (hk_A g) := by
  refine vx_ofW (cc := cX11_restoreSnapshot) (maxL := 1) (ret := (Option.some Jvm.ClassFile.FieldType.int)) (by decide) rfl ?_
  intro p e s m args below meth c s₁ B hml ht hv
  obtain ⟨rfl, G⟩ := hk_begin hv
  have F9 : CallFix p m c cX11_restoreSnapshot 1 s [.ref (g.1 + a0)].toArray hk_W RX11 := ⟨B.exec, B.bytes, hml, findClass_of_methodNamed B.named, fun w h => atoms_spec (ws := hk_ws yX11_restoreSnapshot cX11_restoreSnapshot 1 (Option.some Jvm.ClassFile.FieldType.int)) B.pre w (hk_in h)⟩
  have hx := B.exec
  have hb := B.bytes
  have hr := B.returns
  have hlocks := B.notSynchronized
  have hl := lv_entry ([.ref (g.1 + a0)]) (n := 1) (Nat.le_of_ble_eq_true rfl)
  rw [lg_entry_eq]
  generalize (lg_sl ([.ref (g.1 + a0)]) ++ List.replicate (1 - (lg_sl ([.ref (g.1 + a0)])).length) Slot.unset).toArray = ls at hl ⊢
  have hl : lv_has ls 1 [(0, .ref (g.1 + a0))] := hl
  unfold mX11_restoreSnapshot at hsp
  have G : hk_GG g E S n s s.heap [] := G
  refine lv_aload_n hx hb dX11_restoreSnapshot_0 rfl (lv_at hl 0 rfl) ?_
  refine hk_getI F9 G h0 hkc_8 (k := 2) (by decide) qw_401 rfl dX11_restoreSnapshot_1 ?_
  refine lv_if_ne (tgt := 17) hx hb dX11_restoreSnapshot_4 (by decide) (fun c1 => ?_) (fun c1 => ?_)
  · have hsp := hk_t c1 hsp
    refine lv_aload_n hx hb dX11_restoreSnapshot_17 rfl (lv_at hl 0 rfl) ?_
    obtain ⟨r2, er2, hsp⟩ := hk_b hsp
    obtain ⟨kr2, hsp⟩ := hk_k hsp
    refine hk_getR F9 G h0 hkc_8 (k := 0) (by decide) qw_399 rfl er2 dX11_restoreSnapshot_18 ?_
    refine lv_aload_n hx hb dX11_restoreSnapshot_21 rfl (lv_at hl 0 rfl) ?_
    obtain ⟨r3, er3, hsp⟩ := hk_b hsp
    obtain ⟨kr3, hsp⟩ := hk_k hsp
    refine hk_getR F9 G h0 hkc_8 (k := 1) (by decide) qw_400 rfl er3 dX11_restoreSnapshot_22 ?_
    obtain ⟨r4, er4, hsp⟩ := hk_b hsp
    refine hk_callVv (As := [.ref (g.1 + r3)]) (rest := []) F9 G kr2 hkc_3 rfl (kX5_become l g E F n S r2 r3 r4 kr2 kr3 er4) qv_RX11_111 ⟨rfl, rfl, (Nat.le_of_ble_eq_true rfl), (Nat.le_of_ble_eq_true rfl)⟩ rfl hl.1 rfl (Nat.le_of_ble_eq_true rfl) ⟨(Nat.le_of_ble_eq_true rfl), (Nat.le_of_ble_eq_true rfl)⟩ dX11_restoreSnapshot_25 (fun H locs G => ?_)
    refine lv_aload_n hx hb dX11_restoreSnapshot_28 rfl (lv_at hl 0 rfl) ?_
    obtain ⟨r5, er5, hsp⟩ := hk_b hsp
    obtain ⟨kr5, hsp⟩ := hk_k hsp
    refine hk_getR F9 G h0 hkc_8 (k := 3) (by decide) qw_402 rfl er5 dX11_restoreSnapshot_29 ?_
    refine lv_iconst (v := 0) hx hb dX11_restoreSnapshot_32 (by decide) ?_
    obtain ⟨S6, eS6, hsp⟩ := hk_l hsp
    refine hk_putI F9 G kr5 hkc_1 (k := 2) (by decide) qw_234 rfl rfl (tyX3_ok 2 (by decide)) rfl rfl dX11_restoreSnapshot_33 (fun H locs G => ?_)
    rw [eS6] at G
    refine lv_aload_n hx hb dX11_restoreSnapshot_36 rfl (lv_at hl 0 rfl) ?_
    refine hk_getR F9 G h0 hkc_8 (k := 0) (by decide) qw_399 rfl er2 dX11_restoreSnapshot_37 ?_
    obtain ⟨r7, er7, hsp⟩ := hk_b hsp
    obtain ⟨kr7, hsp⟩ := hk_k hsp
    refine hk_getR F9 G kr2 hkc_3 (k := 0) (by decide) qw_172 rfl er7 dX11_restoreSnapshot_40 ?_
    refine hk_getI F9 G kr7 hkc_0 (k := 0) (by decide) qw_50 rfl dX11_restoreSnapshot_43 ?_
    obtain rfl := hk_s hsp
    exact vx_ret (W.widen (k := 1) (n := 6) (Nat.le_of_ble_eq_true rfl) (Nat.le_of_ble_eq_true rfl) (W.iret (v := (S6 r7 0)) hx hb hr (fun t ht hW => ⟨_, rfl, hk_end G ht hW⟩) G.2.1.2.2 dX11_restoreSnapshot_46))
  · have hsp := hk_g c1 hsp
    obtain rfl := hk_s hsp
    exact hk_throwN F9 G hst 9 rfl rfl rfl qw_1104 qw_27 hl.1 dX11_restoreSnapshot_7 dX11_restoreSnapshot_10 dX11_restoreSnapshot_11 dX11_restoreSnapshot_13 dX11_restoreSnapshot_16 ht ⟨(Nat.le_of_ble_eq_true rfl), (Nat.le_of_ble_eq_true rfl), (Nat.le_of_ble_eq_true rfl), (Nat.le_of_ble_eq_true rfl)⟩ hlocks (Nat.le_of_ble_eq_true rfl) (Nat.le_of_ble_eq_true rfl)
