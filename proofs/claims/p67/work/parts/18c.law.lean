section HKLAW
variable {p : Program} {l : Launch} {e : Env} {s : State} {m : MethodId} {below : List Frame} {meth : Method} {c : Code} {Q : State → Prop} {b L : Nat} {xs : Nat → Int32} {g : hk_G}
def mlaw_start (F : Nat) (S : hk_S) : Option hk_S :=
hk_let (va_up S 0 (hk_i0 8)) (fun S1 => (mX11_init_0 F S1).bind (fun r2 => some r2))
set_option maxHeartbeats 4000000 in
set_option maxRecDepth 100000 in
theorem klaw_start (hC : hk_LC p s m meth c b L xs g) (F : Nat) {S : hk_S} {H : Heap} {locs : List Loc} {ls : Array Slot} (G : hk_GG g (hk_EE 0 0) S (g.1 + 0) s H locs) (hl : lv_has ls 8 [(0, .ref b)]) (o : hk_S) (hsp : mlaw_start F S = some o) (kk : ∀ (H1 : Heap) (locs1 : List Loc) (ls1 : Array Slot), hk_GG g (hk_EE 221 220) o (g.1 + 221) s H1 locs1 → lv_has ls1 8 [(0, .ref b), (1, .ref (g.1 + 0))] → W p l e room_1 s m #[Value.ref b] below meth c H1 locs1 221 2205 Q (F0 m 8 ls1 [])) : W p l e room_1 s m #[Value.ref b] below meth c H locs 0 0 Q (F0 m 0 ls []) := by
  have F9 := hC.1
  have hx := F9.1
  have hb := F9.2.1
  unfold mlaw_start at hsp
  refine hk_new (E1 := (hk_EE 1 0)) (a := 0) (b := 1) F9 G rfl ⟨rfl, rfl⟩ hkc_8 hkd_8 (hk_growE (kd := 9) (ln := 0) (by decide +kernel) (by decide +kernel) (by decide +kernel)) qw_21 qw_22 qw_1 ⟨(Nat.le_of_ble_eq_true rfl), (Nat.le_of_ble_eq_true rfl)⟩ dL_law_0 (fun H G => ?_)
  obtain ⟨S1, eS1, hsp⟩ := hk_l hsp
  rw [eS1] at G
  refine lv_dup hx hb dL_law_3 rfl ?_
  obtain ⟨r2, er2, hsp⟩ := hk_b hsp
  refine hk_callI (rest := [.ref (g.1 + 0)]) F9 G (kX11_init_0 l g F S1 r2 er2) qi_RL_196 ⟨rfl, rfl, (Nat.le_of_ble_eq_true rfl), (Nat.le_of_ble_eq_true rfl)⟩ hl.1 (Nat.le_of_ble_eq_true rfl) ⟨(Nat.le_of_ble_eq_true rfl), (Nat.le_of_ble_eq_true rfl)⟩ dL_law_4 (fun H locs G => ?_)
  refine lv_astore_n (lv' := [(1, .ref (g.1 + 0)), (0, .ref b)]) hx hb dL_law_7 rfl hl (by decide) rfl (fun ls hl => ?_)
  obtain rfl := hk_s hsp
  exact kk H locs ls G (lv_sub hl [1, 0] rfl)
def mlaw_pre (F : Nat) (S : hk_S) (c0 : Int32) (c1 : Int32) : Option hk_S :=
if (c0 &&& 64) = 0 then (if (c1 &&& 64) = 0 then ((mL_holds (hk_EE 221 220) F S 0).bind (fun r3 => if ¬ r3.1 = 0 then (some r3.2) else (none))) else (hk_let ((((c1 : Int32).toUInt32 >>> ((7 : Int32).toUInt32 &&& Int32.toUInt32 31)).toInt32) &&& 63) (fun y5 => (mX11_announceMonsoon (hk_EE 221 220) F S 0 y5).bind (fun r6 => (mL_holds (hk_EE 221 220) F r6.2 0).bind (fun r7 => if ¬ r7.1 = 0 then (some r7.2) else (none)))))) else (hk_let ((((c0 : Int32).toUInt32 >>> ((7 : Int32).toUInt32 &&& Int32.toUInt32 31)).toInt32) &&& 15) (fun y9 => (mX11_announceMonsoon (hk_EE 221 220) F S 0 y9).bind (fun r10 => if (c1 &&& 64) = 0 then ((mL_holds (hk_EE 221 220) F r10.2 0).bind (fun r12 => if ¬ r12.1 = 0 then (some r12.2) else (none))) else (hk_let ((((c1 : Int32).toUInt32 >>> ((7 : Int32).toUInt32 &&& Int32.toUInt32 31)).toInt32) &&& 63) (fun y14 => (mX11_announceMonsoon (hk_EE 221 220) F r10.2 0 y14).bind (fun r15 => (mL_holds (hk_EE 221 220) F r15.2 0).bind (fun r16 => if ¬ r16.1 = 0 then (some r16.2) else (none))))))))
set_option maxHeartbeats 4000000 in
set_option maxRecDepth 100000 in
theorem klaw_pre (hC : hk_LC p s m meth c b L xs g) (F : Nat) {n : Nat} {S : hk_S} {H : Heap} {locs : List Loc} {ls : Array Slot} {cells slots : Nat} {c0 : Int32} {c1 : Int32} (hf : cells ≤ room_1.cells ∧ slots ≤ room_1.slots) (G : hk_GG g (hk_EE 221 220) S n s H locs) (hl : lv_has ls 8 [(0, .ref b), (1, .ref (g.1 + 0))]) (o : hk_S) (hsp : mlaw_pre F S c0 c1 = some o) (hc0 : lw_cell L xs 0 = c0) (hc1 : lw_cell L xs 1 = c1) (kk : ∀ (n1 : Nat) (H1 : Heap) (locs1 : List Loc) (ls1 : Array Slot), hk_GG g (hk_EE 221 220) o n1 s H1 locs1 → lv_has ls1 8 [(0, .ref b), (1, .ref (g.1 + 0))] → W p l e room_1 s m #[Value.ref b] below meth c H1 locs1 cells slots Q (F0 m 71 ls1 [])) : W p l e room_1 s m #[Value.ref b] below meth c H locs cells slots Q (F0 m 8 ls []) := by
  have F9 := hC.1
  have hx := F9.1
  have hb := F9.2.1
  unfold mlaw_pre at hsp
  refine lv_aload_n hx hb dL_law_8 rfl (lv_at hl 0 rfl) ?_
  refine lv_iconst (v := 0) hx hb dL_law_9 (by decide) ?_
  refine hk_cellr (rest := []) hC G (by decide) hl.1 (Nat.le_of_ble_eq_true rfl) hf dL_law_10 (fun H locs G => ?_)
  rw [hc0]
  refine lv_bipush (v := 64) hx hb dL_law_13 (by decide) ?_
  refine lv_iand hx hb dL_law_15 ?_
  refine lv_if_eq (tgt := 35) hx hb dL_law_16 (by decide) (fun c1 => ?_) (fun c1 => ?_)
  · have hsp := hk_t c1 hsp
    refine lv_aload_n hx hb dL_law_35 rfl (lv_at hl 0 rfl) ?_
    refine lv_iconst (v := 1) hx hb dL_law_36 (by decide) ?_
    refine hk_cellr (rest := []) hC G (by decide) hl.1 (Nat.le_of_ble_eq_true rfl) hf dL_law_37 (fun H locs G => ?_)
    rw [hc1]
    refine lv_bipush (v := 64) hx hb dL_law_40 (by decide) ?_
    refine lv_iand hx hb dL_law_42 ?_
    refine lv_if_eq (tgt := 62) hx hb dL_law_43 (by decide) (fun c2 => ?_) (fun c2 => ?_)
    · have hsp := hk_t c2 hsp
      refine lv_aload_n hx hb dL_law_62 rfl (lv_at hl 1 rfl) ?_
      obtain ⟨r3, er3, hsp⟩ := hk_b hsp
      refine hk_callSi (As := [.ref (g.1 + 0)]) (rest := []) F9 G (kL_holds l g (hk_EE 221 220) F n S 0 r3 (by decide +kernel) er3) qv_RL_180 ⟨rfl, rfl, (Nat.le_of_ble_eq_true rfl), (Nat.le_of_ble_eq_true rfl)⟩ rfl hl.1 rfl (Nat.le_of_ble_eq_true rfl) hf dL_law_63 (fun H locs G => ?_)
      refine lv_if_ne (tgt := 71) hx hb dL_law_66 (by decide) (fun c4 => ?_) (fun c4 => ?_)
      · have hsp := hk_t c4 hsp
        obtain rfl := hk_s hsp
        exact kk n H locs ls G (lv_sub hl [0, 1] rfl)
      · have hsp := hk_g c4 hsp
        exact nomatch hsp
    · have hsp := hk_f c2 hsp
      refine lv_aload_n hx hb dL_law_46 rfl (lv_at hl 1 rfl) ?_
      refine lv_aload_n hx hb dL_law_47 rfl (lv_at hl 0 rfl) ?_
      refine lv_iconst (v := 1) hx hb dL_law_48 (by decide) ?_
      refine hk_cellr (rest := [.ref (g.1 + 0)]) hC G (by decide) hl.1 (Nat.le_of_ble_eq_true rfl) hf dL_law_49 (fun H locs G => ?_)
      rw [hc1]
      refine lv_bipush (v := 7) hx hb dL_law_52 (by decide) ?_
      refine lv_iushr hx hb dL_law_54 rfl ?_
      refine lv_bipush (v := 63) hx hb dL_law_55 (by decide) ?_
      refine lv_iand hx hb dL_law_57 ?_
      obtain ⟨y5, ey5, hsp⟩ := hk_l hsp
      refine hk_top ey5 ?_
      obtain ⟨r6, er6, hsp⟩ := hk_b hsp
      refine hk_callVi (As := [.int y5]) (rest := []) F9 G (by decide +kernel) hkc_8 rfl (kX11_announceMonsoon l g (hk_EE 221 220) F n S 0 y5 r6 (by decide +kernel) er6) qv_RL_201 ⟨rfl, rfl, (Nat.le_of_ble_eq_true rfl), (Nat.le_of_ble_eq_true rfl)⟩ rfl hl.1 rfl (Nat.le_of_ble_eq_true rfl) hf dL_law_58 (fun H locs G => ?_)
      refine lv_pop hx hb dL_law_61 rfl ?_
      refine lv_aload_n hx hb dL_law_62 rfl (lv_at hl 1 rfl) ?_
      obtain ⟨r7, er7, hsp⟩ := hk_b hsp
      refine hk_callSi (As := [.ref (g.1 + 0)]) (rest := []) F9 G (kL_holds l g (hk_EE 221 220) F n r6.2 0 r7 (by decide +kernel) er7) qv_RL_180 ⟨rfl, rfl, (Nat.le_of_ble_eq_true rfl), (Nat.le_of_ble_eq_true rfl)⟩ rfl hl.1 rfl (Nat.le_of_ble_eq_true rfl) hf dL_law_63 (fun H locs G => ?_)
      refine lv_if_ne (tgt := 71) hx hb dL_law_66 (by decide) (fun c8 => ?_) (fun c8 => ?_)
      · have hsp := hk_t c8 hsp
        obtain rfl := hk_s hsp
        exact kk n H locs ls G (lv_sub hl [0, 1] rfl)
      · have hsp := hk_g c8 hsp
        exact nomatch hsp
  · have hsp := hk_f c1 hsp
    refine lv_aload_n hx hb dL_law_19 rfl (lv_at hl 1 rfl) ?_
    refine lv_aload_n hx hb dL_law_20 rfl (lv_at hl 0 rfl) ?_
    refine lv_iconst (v := 0) hx hb dL_law_21 (by decide) ?_
    refine hk_cellr (rest := [.ref (g.1 + 0)]) hC G (by decide) hl.1 (Nat.le_of_ble_eq_true rfl) hf dL_law_22 (fun H locs G => ?_)
    rw [hc0]
    refine lv_bipush (v := 7) hx hb dL_law_25 (by decide) ?_
    refine lv_iushr hx hb dL_law_27 rfl ?_
    refine lv_bipush (v := 15) hx hb dL_law_28 (by decide) ?_
    refine lv_iand hx hb dL_law_30 ?_
    obtain ⟨y9, ey9, hsp⟩ := hk_l hsp
    refine hk_top ey9 ?_
    obtain ⟨r10, er10, hsp⟩ := hk_b hsp
    refine hk_callVi (As := [.int y9]) (rest := []) F9 G (by decide +kernel) hkc_8 rfl (kX11_announceMonsoon l g (hk_EE 221 220) F n S 0 y9 r10 (by decide +kernel) er10) qv_RL_201 ⟨rfl, rfl, (Nat.le_of_ble_eq_true rfl), (Nat.le_of_ble_eq_true rfl)⟩ rfl hl.1 rfl (Nat.le_of_ble_eq_true rfl) hf dL_law_31 (fun H locs G => ?_)
    refine lv_pop hx hb dL_law_34 rfl ?_
    refine lv_aload_n hx hb dL_law_35 rfl (lv_at hl 0 rfl) ?_
    refine lv_iconst (v := 1) hx hb dL_law_36 (by decide) ?_
    refine hk_cellr (rest := []) hC G (by decide) hl.1 (Nat.le_of_ble_eq_true rfl) hf dL_law_37 (fun H locs G => ?_)
    rw [hc1]
    refine lv_bipush (v := 64) hx hb dL_law_40 (by decide) ?_
    refine lv_iand hx hb dL_law_42 ?_
    refine lv_if_eq (tgt := 62) hx hb dL_law_43 (by decide) (fun c11 => ?_) (fun c11 => ?_)
    · have hsp := hk_t c11 hsp
      refine lv_aload_n hx hb dL_law_62 rfl (lv_at hl 1 rfl) ?_
      obtain ⟨r12, er12, hsp⟩ := hk_b hsp
      refine hk_callSi (As := [.ref (g.1 + 0)]) (rest := []) F9 G (kL_holds l g (hk_EE 221 220) F n r10.2 0 r12 (by decide +kernel) er12) qv_RL_180 ⟨rfl, rfl, (Nat.le_of_ble_eq_true rfl), (Nat.le_of_ble_eq_true rfl)⟩ rfl hl.1 rfl (Nat.le_of_ble_eq_true rfl) hf dL_law_63 (fun H locs G => ?_)
      refine lv_if_ne (tgt := 71) hx hb dL_law_66 (by decide) (fun c13 => ?_) (fun c13 => ?_)
      · have hsp := hk_t c13 hsp
        obtain rfl := hk_s hsp
        exact kk n H locs ls G (lv_sub hl [0, 1] rfl)
      · have hsp := hk_g c13 hsp
        exact nomatch hsp
    · have hsp := hk_f c11 hsp
      refine lv_aload_n hx hb dL_law_46 rfl (lv_at hl 1 rfl) ?_
      refine lv_aload_n hx hb dL_law_47 rfl (lv_at hl 0 rfl) ?_
      refine lv_iconst (v := 1) hx hb dL_law_48 (by decide) ?_
      refine hk_cellr (rest := [.ref (g.1 + 0)]) hC G (by decide) hl.1 (Nat.le_of_ble_eq_true rfl) hf dL_law_49 (fun H locs G => ?_)
      rw [hc1]
      refine lv_bipush (v := 7) hx hb dL_law_52 (by decide) ?_
      refine lv_iushr hx hb dL_law_54 rfl ?_
      refine lv_bipush (v := 63) hx hb dL_law_55 (by decide) ?_
      refine lv_iand hx hb dL_law_57 ?_
      obtain ⟨y14, ey14, hsp⟩ := hk_l hsp
      refine hk_top ey14 ?_
      obtain ⟨r15, er15, hsp⟩ := hk_b hsp
      refine hk_callVi (As := [.int y14]) (rest := []) F9 G (by decide +kernel) hkc_8 rfl (kX11_announceMonsoon l g (hk_EE 221 220) F n r10.2 0 y14 r15 (by decide +kernel) er15) qv_RL_201 ⟨rfl, rfl, (Nat.le_of_ble_eq_true rfl), (Nat.le_of_ble_eq_true rfl)⟩ rfl hl.1 rfl (Nat.le_of_ble_eq_true rfl) hf dL_law_58 (fun H locs G => ?_)
      refine lv_pop hx hb dL_law_61 rfl ?_
      refine lv_aload_n hx hb dL_law_62 rfl (lv_at hl 1 rfl) ?_
      obtain ⟨r16, er16, hsp⟩ := hk_b hsp
      refine hk_callSi (As := [.ref (g.1 + 0)]) (rest := []) F9 G (kL_holds l g (hk_EE 221 220) F n r15.2 0 r16 (by decide +kernel) er16) qv_RL_180 ⟨rfl, rfl, (Nat.le_of_ble_eq_true rfl), (Nat.le_of_ble_eq_true rfl)⟩ rfl hl.1 rfl (Nat.le_of_ble_eq_true rfl) hf dL_law_63 (fun H locs G => ?_)
      refine lv_if_ne (tgt := 71) hx hb dL_law_66 (by decide) (fun c17 => ?_) (fun c17 => ?_)
      · have hsp := hk_t c17 hsp
        obtain rfl := hk_s hsp
        exact kk n H locs ls G (lv_sub hl [0, 1] rfl)
      · have hsp := hk_g c17 hsp
        exact nomatch hsp
def mlaw_body (F : Nat) (S : hk_S) (k : Int32) (ck : Int32) : Option hk_S :=
(mX11_undoCount (hk_EE 221 220) F S 0).bind (fun r1 => (mL_sum (hk_EE 221 220) F r1.2 0).bind (fun r2 => (mL_deed (hk_EE 221 220) F r2.2 0 ck).bind (fun r3 => (mX11_undoCount (hk_EE 221 220) F r3 0).bind (fun r4 => if r4.1 ≤ r1.1 then ((mL_holds (hk_EE 221 220) F r4.2 0).bind (fun r6 => if r6.1 = 0 then (none) else (if 8 ≤ r1.1 then (if ¬ (k - k / 3 * 3) = 2 then (some r6.2) else ((mL_isWeighed (hk_EE 221 220) F r6.2 0 (1 + ((((ck : Int32).toUInt32 >>> ((5 : Int32).toUInt32 &&& Int32.toUInt32 31)).toInt32) &&& 31))).bind (fun r12 => if ¬ r12.1 = 0 then (some r12.2) else (none)))) else ((mL_sum (hk_EE 221 220) F r6.2 0).bind (fun r14 => if (lg_cmp r14.1 r2.1) = 0 then (if ¬ (k - k / 3 * 3) = 2 then (some r14.2) else ((mL_isWeighed (hk_EE 221 220) F r14.2 0 (1 + ((((ck : Int32).toUInt32 >>> ((5 : Int32).toUInt32 &&& Int32.toUInt32 31)).toInt32) &&& 31))).bind (fun r18 => if ¬ r18.1 = 0 then (some r18.2) else (none)))) else (none)))))) else ((mL_holds (hk_EE 221 220) F r4.2 0).bind (fun r20 => if r20.1 = 0 then (none) else (if ¬ ((((ck : Int32).toUInt32 >>> ((29 : Int32).toUInt32 &&& Int32.toUInt32 31)).toInt32) &&& 3) = 1 then (if ¬ (k - k / 3 * 3) = 2 then (some r20.2) else ((mL_isWeighed (hk_EE 221 220) F r20.2 0 (1 + ((((ck : Int32).toUInt32 >>> ((5 : Int32).toUInt32 &&& Int32.toUInt32 31)).toInt32) &&& 31))).bind (fun r26 => if ¬ r26.1 = 0 then (some r26.2) else (none)))) else ((mX11_undo (hk_EE 221 220) F r20.2 0).bind (fun r28 => if ¬ r28.1 = r1.1 then (none) else ((mL_sum (hk_EE 221 220) F r28.2 0).bind (fun r30 => if (lg_cmp r30.1 r2.1) = 0 then (if ¬ (k - k / 3 * 3) = 2 then (some r30.2) else ((mL_isWeighed (hk_EE 221 220) F r30.2 0 (1 + ((((ck : Int32).toUInt32 >>> ((5 : Int32).toUInt32 &&& Int32.toUInt32 31)).toInt32) &&& 31))).bind (fun r33 => if ¬ r33.1 = 0 then (some r33.2) else (none)))) else (none))))))))))))
set_option maxHeartbeats 4000000 in
set_option maxRecDepth 100000 in
theorem klaw_body (hC : hk_LC p s m meth c b L xs g) (F : Nat) {n : Nat} {S : hk_S} {H : Heap} {locs : List Loc} {ls : Array Slot} {cells slots : Nat} {k : Int32} {ck : Int32} (hk0 : 0 ≤ k ∧ k ≤ 12) (hf : cells ≤ room_1.cells ∧ slots ≤ room_1.slots) (G : hk_GG g (hk_EE 221 220) S n s H locs) (hl : lv_has ls 8 [(0, .ref b), (1, .ref (g.1 + 0)), (2, .int k)]) (o : hk_S) (hsp : mlaw_body F S k ck = some o) (hck : lw_cell L xs k = ck) (kk : ∀ (n1 : Nat) (H1 : Heap) (locs1 : List Loc) (ls1 : Array Slot), hk_GG g (hk_EE 221 220) o n1 s H1 locs1 → lv_has ls1 8 [(0, .ref b), (1, .ref (g.1 + 0)), (2, .int k)] → W p l e room_1 s m #[Value.ref b] below meth c H1 locs1 cells slots Q (F0 m 209 ls1 [])) : W p l e room_1 s m #[Value.ref b] below meth c H locs cells slots Q (F0 m 79 ls []) := by
  have F9 := hC.1
  have hx := F9.1
  have hb := F9.2.1
  unfold mlaw_body at hsp
  refine lv_aload_n hx hb dL_law_79 rfl (lv_at hl 0 rfl) ?_
  refine lv_iload_n hx hb dL_law_80 rfl (lv_at hl 2 rfl) ?_
  refine hk_cellr (rest := []) hC G hk0 hl.1 (Nat.le_of_ble_eq_true rfl) hf dL_law_81 (fun H locs G => ?_)
  rw [hck]
  refine lv_istore_n (lv' := [(3, .int ck), (0, .ref b), (1, .ref (g.1 + 0)), (2, .int k)]) hx hb dL_law_84 rfl hl (by decide) rfl (fun ls hl => ?_)
  refine lv_aload_n hx hb dL_law_85 rfl (lv_at hl 2 rfl) ?_
  obtain ⟨r1, er1, hsp⟩ := hk_b hsp
  refine hk_callVi (As := []) (rest := []) F9 G (by decide +kernel) hkc_8 rfl (kX11_undoCount l g (hk_EE 221 220) F n S 0 r1 (by decide +kernel) er1) qv_RL_204 ⟨rfl, rfl, (Nat.le_of_ble_eq_true rfl), (Nat.le_of_ble_eq_true rfl)⟩ rfl hl.1 rfl (Nat.le_of_ble_eq_true rfl) hf dL_law_86 (fun H locs G => ?_)
  refine lv_istore (lv' := [(4, .int r1.1), (3, .int ck), (0, .ref b), (1, .ref (g.1 + 0)), (2, .int k)]) hx hb dL_law_89  hl (by decide) rfl (fun ls hl => ?_)
  refine lv_aload_n hx hb dL_law_91 rfl (lv_at hl 3 rfl) ?_
  obtain ⟨r2, er2, hsp⟩ := hk_b hsp
  refine hk_callS (As := [.ref (g.1 + 0)]) (rest := []) F9 G (kL_sum l g (hk_EE 221 220) F n r1.2 0 r2 (by decide +kernel) er2) qv_RL_187 ⟨rfl, rfl, (Nat.le_of_ble_eq_true rfl), (Nat.le_of_ble_eq_true rfl)⟩ rfl hl.1 rfl (Nat.le_of_ble_eq_true rfl) hf dL_law_92 (fun H locs G => ?_)
  refine lv_lstore (lv' := [(5, .long r2.1), (4, .int r1.1), (3, .int ck), (0, .ref b), (1, .ref (g.1 + 0)), (2, .int k)]) hx hb dL_law_95  hl (by decide) rfl (fun ls hl => ?_)
  refine lv_aload_n hx hb dL_law_97 rfl (lv_at hl 4 rfl) ?_
  refine lv_iload_n hx hb dL_law_98 rfl (lv_at hl 2 rfl) ?_
  obtain ⟨r3, er3, hsp⟩ := hk_b hsp
  refine hk_callSv (As := [.ref (g.1 + 0), .int ck]) (rest := []) F9 G (kL_deed l g (hk_EE 221 220) F n r2.2 0 ck r3 (by decide +kernel) er3) qv_RL_207 ⟨rfl, rfl, (Nat.le_of_ble_eq_true rfl), (Nat.le_of_ble_eq_true rfl)⟩ rfl hl.1 rfl (Nat.le_of_ble_eq_true rfl) hf dL_law_99 (fun H locs G => ?_)
  refine lv_aload_n hx hb dL_law_102 rfl (lv_at hl 4 rfl) ?_
  obtain ⟨r4, er4, hsp⟩ := hk_b hsp
  refine hk_callVi (As := []) (rest := []) F9 G (by decide +kernel) hkc_8 rfl (kX11_undoCount l g (hk_EE 221 220) F n r3 0 r4 (by decide +kernel) er4) qv_RL_204 ⟨rfl, rfl, (Nat.le_of_ble_eq_true rfl), (Nat.le_of_ble_eq_true rfl)⟩ rfl hl.1 rfl (Nat.le_of_ble_eq_true rfl) hf dL_law_103 (fun H locs G => ?_)
  refine lv_iload hx hb dL_law_106 (lv_at hl 1 rfl) ?_
  refine lv_icmp_le (tgt := 115) hx hb dL_law_108 (by decide) (fun c5 => ?_) (fun c5 => ?_)
  · have hsp := hk_t c5 hsp
    refine lv_iconst (v := 0) hx hb dL_law_115 (by decide) ?_
    refine lv_istore (lv' := [(7, .int 0), (5, .long r2.1), (4, .int r1.1), (3, .int ck), (0, .ref b), (1, .ref (g.1 + 0)), (2, .int k)]) hx hb dL_law_116  hl (by decide) rfl (fun ls hl => ?_)
    refine lv_aload_n hx hb dL_law_118 rfl (lv_at hl 5 rfl) ?_
    obtain ⟨r6, er6, hsp⟩ := hk_b hsp
    refine hk_callSi (As := [.ref (g.1 + 0)]) (rest := []) F9 G (kL_holds l g (hk_EE 221 220) F n r4.2 0 r6 (by decide +kernel) er6) qv_RL_180 ⟨rfl, rfl, (Nat.le_of_ble_eq_true rfl), (Nat.le_of_ble_eq_true rfl)⟩ rfl hl.1 rfl (Nat.le_of_ble_eq_true rfl) hf dL_law_119 (fun H locs G => ?_)
    refine lv_if_eq (tgt := 147) hx hb dL_law_122 (by decide) (fun c7 => ?_) (fun c7 => ?_)
    · have hsp := hk_t c7 hsp
      exact nomatch hsp
    · have hsp := hk_f c7 hsp
      refine lv_iload hx hb dL_law_125 (lv_at hl 0 rfl) ?_
      refine lv_if_ne (tgt := 149) hx hb dL_law_127 (by decide) (fun c8 => ?_) (fun c8 => ?_)
      · exact absurd c8 (by decide)
      · refine lv_iload hx hb dL_law_130 (lv_at hl 2 rfl) ?_
        refine lv_bipush (v := 8) hx hb dL_law_132 (by decide) ?_
        refine lv_icmp_ge (tgt := 149) hx hb dL_law_134 (by decide) (fun c9 => ?_) (fun c9 => ?_)
        · have hsp := hk_t c9 hsp
          refine lv_iload hx hb dL_law_149 (lv_at hl 0 rfl) ?_
          refine lv_if_eq (tgt := 185) hx hb dL_law_151 (by decide) (fun c10 => ?_) (fun c10 => ?_)
          · refine lv_iload_n hx hb dL_law_185 rfl (lv_at hl 6 rfl) ?_
            refine lv_iconst (v := 3) hx hb dL_law_186 (by decide) ?_
            refine lv_irem hx hb dL_law_187 (by decide) ?_
            refine lv_iconst (v := 2) hx hb dL_law_188 (by decide) ?_
            refine lv_icmp_ne (tgt := 209) hx hb dL_law_189 (by decide) (fun c11 => ?_) (fun c11 => ?_)
            · have hsp := hk_t c11 hsp
              obtain rfl := hk_s hsp
              exact kk n H locs ls G (lv_sub hl [4, 5, 6] rfl)
            · have hsp := hk_g c11 hsp
              refine lv_aload_n hx hb dL_law_192 rfl (lv_at hl 5 rfl) ?_
              refine lv_iconst (v := 1) hx hb dL_law_193 (by decide) ?_
              refine lv_iload_n hx hb dL_law_194 rfl (lv_at hl 3 rfl) ?_
              refine lv_iconst (v := 5) hx hb dL_law_195 (by decide) ?_
              refine lv_iushr hx hb dL_law_196 rfl ?_
              refine lv_bipush (v := 31) hx hb dL_law_197 (by decide) ?_
              refine lv_iand hx hb dL_law_199 ?_
              refine lv_iadd hx hb dL_law_200 ?_
              obtain ⟨r12, er12, hsp⟩ := hk_b hsp
              refine hk_callSi (As := [.ref (g.1 + 0), .int (1 + ((((ck : Int32).toUInt32 >>> ((5 : Int32).toUInt32 &&& Int32.toUInt32 31)).toInt32) &&& 31))]) (rest := []) F9 G (kL_isWeighed l g (hk_EE 221 220) F n r6.2 0 (1 + ((((ck : Int32).toUInt32 >>> ((5 : Int32).toUInt32 &&& Int32.toUInt32 31)).toInt32) &&& 31)) r12 (by decide +kernel) er12) qv_RL_211 ⟨rfl, rfl, (Nat.le_of_ble_eq_true rfl), (Nat.le_of_ble_eq_true rfl)⟩ rfl hl.1 rfl (Nat.le_of_ble_eq_true rfl) hf dL_law_201 (fun H locs G => ?_)
              refine lv_if_ne (tgt := 209) hx hb dL_law_204 (by decide) (fun c13 => ?_) (fun c13 => ?_)
              · have hsp := hk_t c13 hsp
                obtain rfl := hk_s hsp
                exact kk n H locs ls G (lv_sub hl [4, 5, 6] rfl)
              · have hsp := hk_g c13 hsp
                exact nomatch hsp
          · exact absurd c10 (by decide)
        · have hsp := hk_f c9 hsp
          refine lv_aload_n hx hb dL_law_137 rfl (lv_at hl 5 rfl) ?_
          obtain ⟨r14, er14, hsp⟩ := hk_b hsp
          refine hk_callS (As := [.ref (g.1 + 0)]) (rest := []) F9 G (kL_sum l g (hk_EE 221 220) F n r6.2 0 r14 (by decide +kernel) er14) qv_RL_187 ⟨rfl, rfl, (Nat.le_of_ble_eq_true rfl), (Nat.le_of_ble_eq_true rfl)⟩ rfl hl.1 rfl (Nat.le_of_ble_eq_true rfl) hf dL_law_138 (fun H locs G => ?_)
          refine lv_lload hx hb dL_law_141 (lv_at hl 1 rfl) ?_
          refine W.lcmp hx hb dL_law_143 ?_
          refine lv_if_eq (tgt := 149) hx hb dL_law_144 (by decide) (fun c15 => ?_) (fun c15 => ?_)
          · have hsp := hk_t c15 hsp
            refine lv_iload hx hb dL_law_149 (lv_at hl 0 rfl) ?_
            refine lv_if_eq (tgt := 185) hx hb dL_law_151 (by decide) (fun c16 => ?_) (fun c16 => ?_)
            · refine lv_iload_n hx hb dL_law_185 rfl (lv_at hl 6 rfl) ?_
              refine lv_iconst (v := 3) hx hb dL_law_186 (by decide) ?_
              refine lv_irem hx hb dL_law_187 (by decide) ?_
              refine lv_iconst (v := 2) hx hb dL_law_188 (by decide) ?_
              refine lv_icmp_ne (tgt := 209) hx hb dL_law_189 (by decide) (fun c17 => ?_) (fun c17 => ?_)
              · have hsp := hk_t c17 hsp
                obtain rfl := hk_s hsp
                exact kk n H locs ls G (lv_sub hl [4, 5, 6] rfl)
              · have hsp := hk_g c17 hsp
                refine lv_aload_n hx hb dL_law_192 rfl (lv_at hl 5 rfl) ?_
                refine lv_iconst (v := 1) hx hb dL_law_193 (by decide) ?_
                refine lv_iload_n hx hb dL_law_194 rfl (lv_at hl 3 rfl) ?_
                refine lv_iconst (v := 5) hx hb dL_law_195 (by decide) ?_
                refine lv_iushr hx hb dL_law_196 rfl ?_
                refine lv_bipush (v := 31) hx hb dL_law_197 (by decide) ?_
                refine lv_iand hx hb dL_law_199 ?_
                refine lv_iadd hx hb dL_law_200 ?_
                obtain ⟨r18, er18, hsp⟩ := hk_b hsp
                refine hk_callSi (As := [.ref (g.1 + 0), .int (1 + ((((ck : Int32).toUInt32 >>> ((5 : Int32).toUInt32 &&& Int32.toUInt32 31)).toInt32) &&& 31))]) (rest := []) F9 G (kL_isWeighed l g (hk_EE 221 220) F n r14.2 0 (1 + ((((ck : Int32).toUInt32 >>> ((5 : Int32).toUInt32 &&& Int32.toUInt32 31)).toInt32) &&& 31)) r18 (by decide +kernel) er18) qv_RL_211 ⟨rfl, rfl, (Nat.le_of_ble_eq_true rfl), (Nat.le_of_ble_eq_true rfl)⟩ rfl hl.1 rfl (Nat.le_of_ble_eq_true rfl) hf dL_law_201 (fun H locs G => ?_)
                refine lv_if_ne (tgt := 209) hx hb dL_law_204 (by decide) (fun c19 => ?_) (fun c19 => ?_)
                · have hsp := hk_t c19 hsp
                  obtain rfl := hk_s hsp
                  exact kk n H locs ls G (lv_sub hl [4, 5, 6] rfl)
                · have hsp := hk_g c19 hsp
                  exact nomatch hsp
            · exact absurd c16 (by decide)
          · have hsp := hk_f c15 hsp
            exact nomatch hsp
  · have hsp := hk_f c5 hsp
    refine lv_iconst (v := 1) hx hb dL_law_111 (by decide) ?_
    refine lv_goto (tgt := 116) hx hb dL_law_112 (by decide) ?_
    refine lv_istore (lv' := [(7, .int 1), (5, .long r2.1), (4, .int r1.1), (3, .int ck), (0, .ref b), (1, .ref (g.1 + 0)), (2, .int k)]) hx hb dL_law_116  hl (by decide) rfl (fun ls hl => ?_)
    refine lv_aload_n hx hb dL_law_118 rfl (lv_at hl 5 rfl) ?_
    obtain ⟨r20, er20, hsp⟩ := hk_b hsp
    refine hk_callSi (As := [.ref (g.1 + 0)]) (rest := []) F9 G (kL_holds l g (hk_EE 221 220) F n r4.2 0 r20 (by decide +kernel) er20) qv_RL_180 ⟨rfl, rfl, (Nat.le_of_ble_eq_true rfl), (Nat.le_of_ble_eq_true rfl)⟩ rfl hl.1 rfl (Nat.le_of_ble_eq_true rfl) hf dL_law_119 (fun H locs G => ?_)
    refine lv_if_eq (tgt := 147) hx hb dL_law_122 (by decide) (fun c21 => ?_) (fun c21 => ?_)
    · have hsp := hk_t c21 hsp
      exact nomatch hsp
    · have hsp := hk_f c21 hsp
      refine lv_iload hx hb dL_law_125 (lv_at hl 0 rfl) ?_
      refine lv_if_ne (tgt := 149) hx hb dL_law_127 (by decide) (fun c22 => ?_) (fun c22 => ?_)
      · refine lv_iload hx hb dL_law_149 (lv_at hl 0 rfl) ?_
        refine lv_if_eq (tgt := 185) hx hb dL_law_151 (by decide) (fun c23 => ?_) (fun c23 => ?_)
        · exact absurd c23 (by decide)
        · refine lv_iload_n hx hb dL_law_154 rfl (lv_at hl 3 rfl) ?_
          refine lv_bipush (v := 29) hx hb dL_law_155 (by decide) ?_
          refine lv_iushr hx hb dL_law_157 rfl ?_
          refine lv_iconst (v := 3) hx hb dL_law_158 (by decide) ?_
          refine lv_iand hx hb dL_law_159 ?_
          refine lv_iconst (v := 1) hx hb dL_law_160 (by decide) ?_
          refine lv_icmp_ne (tgt := 185) hx hb dL_law_161 (by decide) (fun c24 => ?_) (fun c24 => ?_)
          · have hsp := hk_t c24 hsp
            refine lv_iload_n hx hb dL_law_185 rfl (lv_at hl 6 rfl) ?_
            refine lv_iconst (v := 3) hx hb dL_law_186 (by decide) ?_
            refine lv_irem hx hb dL_law_187 (by decide) ?_
            refine lv_iconst (v := 2) hx hb dL_law_188 (by decide) ?_
            refine lv_icmp_ne (tgt := 209) hx hb dL_law_189 (by decide) (fun c25 => ?_) (fun c25 => ?_)
            · have hsp := hk_t c25 hsp
              obtain rfl := hk_s hsp
              exact kk n H locs ls G (lv_sub hl [4, 5, 6] rfl)
            · have hsp := hk_g c25 hsp
              refine lv_aload_n hx hb dL_law_192 rfl (lv_at hl 5 rfl) ?_
              refine lv_iconst (v := 1) hx hb dL_law_193 (by decide) ?_
              refine lv_iload_n hx hb dL_law_194 rfl (lv_at hl 3 rfl) ?_
              refine lv_iconst (v := 5) hx hb dL_law_195 (by decide) ?_
              refine lv_iushr hx hb dL_law_196 rfl ?_
              refine lv_bipush (v := 31) hx hb dL_law_197 (by decide) ?_
              refine lv_iand hx hb dL_law_199 ?_
              refine lv_iadd hx hb dL_law_200 ?_
              obtain ⟨r26, er26, hsp⟩ := hk_b hsp
              refine hk_callSi (As := [.ref (g.1 + 0), .int (1 + ((((ck : Int32).toUInt32 >>> ((5 : Int32).toUInt32 &&& Int32.toUInt32 31)).toInt32) &&& 31))]) (rest := []) F9 G (kL_isWeighed l g (hk_EE 221 220) F n r20.2 0 (1 + ((((ck : Int32).toUInt32 >>> ((5 : Int32).toUInt32 &&& Int32.toUInt32 31)).toInt32) &&& 31)) r26 (by decide +kernel) er26) qv_RL_211 ⟨rfl, rfl, (Nat.le_of_ble_eq_true rfl), (Nat.le_of_ble_eq_true rfl)⟩ rfl hl.1 rfl (Nat.le_of_ble_eq_true rfl) hf dL_law_201 (fun H locs G => ?_)
              refine lv_if_ne (tgt := 209) hx hb dL_law_204 (by decide) (fun c27 => ?_) (fun c27 => ?_)
              · have hsp := hk_t c27 hsp
                obtain rfl := hk_s hsp
                exact kk n H locs ls G (lv_sub hl [4, 5, 6] rfl)
              · have hsp := hk_g c27 hsp
                exact nomatch hsp
          · have hsp := hk_g c24 hsp
            refine lv_aload_n hx hb dL_law_164 rfl (lv_at hl 5 rfl) ?_
            obtain ⟨r28, er28, hsp⟩ := hk_b hsp
            refine hk_callVi (As := []) (rest := []) F9 G (by decide +kernel) hkc_8 rfl (kX11_undo l g (hk_EE 221 220) F n r20.2 0 r28 (by decide +kernel) er28) qv_RL_184 ⟨rfl, rfl, (Nat.le_of_ble_eq_true rfl), (Nat.le_of_ble_eq_true rfl)⟩ rfl hl.1 rfl (Nat.le_of_ble_eq_true rfl) hf dL_law_165 (fun H locs G => ?_)
            refine lv_iload hx hb dL_law_168 (lv_at hl 2 rfl) ?_
            refine lv_icmp_ne (tgt := 183) hx hb dL_law_170 (by decide) (fun c29 => ?_) (fun c29 => ?_)
            · have hsp := hk_t c29 hsp
              exact nomatch hsp
            · have hsp := hk_g c29 hsp
              refine lv_aload_n hx hb dL_law_173 rfl (lv_at hl 5 rfl) ?_
              obtain ⟨r30, er30, hsp⟩ := hk_b hsp
              refine hk_callS (As := [.ref (g.1 + 0)]) (rest := []) F9 G (kL_sum l g (hk_EE 221 220) F n r28.2 0 r30 (by decide +kernel) er30) qv_RL_187 ⟨rfl, rfl, (Nat.le_of_ble_eq_true rfl), (Nat.le_of_ble_eq_true rfl)⟩ rfl hl.1 rfl (Nat.le_of_ble_eq_true rfl) hf dL_law_174 (fun H locs G => ?_)
              refine lv_lload hx hb dL_law_177 (lv_at hl 1 rfl) ?_
              refine W.lcmp hx hb dL_law_179 ?_
              refine lv_if_eq (tgt := 185) hx hb dL_law_180 (by decide) (fun c31 => ?_) (fun c31 => ?_)
              · have hsp := hk_t c31 hsp
                refine lv_iload_n hx hb dL_law_185 rfl (lv_at hl 6 rfl) ?_
                refine lv_iconst (v := 3) hx hb dL_law_186 (by decide) ?_
                refine lv_irem hx hb dL_law_187 (by decide) ?_
                refine lv_iconst (v := 2) hx hb dL_law_188 (by decide) ?_
                refine lv_icmp_ne (tgt := 209) hx hb dL_law_189 (by decide) (fun c32 => ?_) (fun c32 => ?_)
                · have hsp := hk_t c32 hsp
                  obtain rfl := hk_s hsp
                  exact kk n H locs ls G (lv_sub hl [4, 5, 6] rfl)
                · have hsp := hk_g c32 hsp
                  refine lv_aload_n hx hb dL_law_192 rfl (lv_at hl 5 rfl) ?_
                  refine lv_iconst (v := 1) hx hb dL_law_193 (by decide) ?_
                  refine lv_iload_n hx hb dL_law_194 rfl (lv_at hl 3 rfl) ?_
                  refine lv_iconst (v := 5) hx hb dL_law_195 (by decide) ?_
                  refine lv_iushr hx hb dL_law_196 rfl ?_
                  refine lv_bipush (v := 31) hx hb dL_law_197 (by decide) ?_
                  refine lv_iand hx hb dL_law_199 ?_
                  refine lv_iadd hx hb dL_law_200 ?_
                  obtain ⟨r33, er33, hsp⟩ := hk_b hsp
                  refine hk_callSi (As := [.ref (g.1 + 0), .int (1 + ((((ck : Int32).toUInt32 >>> ((5 : Int32).toUInt32 &&& Int32.toUInt32 31)).toInt32) &&& 31))]) (rest := []) F9 G (kL_isWeighed l g (hk_EE 221 220) F n r30.2 0 (1 + ((((ck : Int32).toUInt32 >>> ((5 : Int32).toUInt32 &&& Int32.toUInt32 31)).toInt32) &&& 31)) r33 (by decide +kernel) er33) qv_RL_211 ⟨rfl, rfl, (Nat.le_of_ble_eq_true rfl), (Nat.le_of_ble_eq_true rfl)⟩ rfl hl.1 rfl (Nat.le_of_ble_eq_true rfl) hf dL_law_201 (fun H locs G => ?_)
                  refine lv_if_ne (tgt := 209) hx hb dL_law_204 (by decide) (fun c34 => ?_) (fun c34 => ?_)
                  · have hsp := hk_t c34 hsp
                    obtain rfl := hk_s hsp
                    exact kk n H locs ls G (lv_sub hl [4, 5, 6] rfl)
                  · have hsp := hk_g c34 hsp
                    exact nomatch hsp
              · have hsp := hk_f c31 hsp
                exact nomatch hsp
      · exact absurd c22 (by decide)
def mlaw_end (F : Nat) (S : hk_S) (c0 : Int32) (c1 : Int32) : Option hk_S :=
(mL_isSame (hk_EE 221 220) F S 0 (1 + ((((c0 : Int32).toUInt32 >>> ((4 : Int32).toUInt32 &&& Int32.toUInt32 31)).toInt32) &&& 31)) (1 + ((((c1 : Int32).toUInt32 >>> ((4 : Int32).toUInt32 &&& Int32.toUInt32 31)).toInt32) &&& 63))).bind (fun r1 => if r1.1 = 1 then (some r1.2) else none)
set_option maxHeartbeats 4000000 in
set_option maxRecDepth 100000 in
theorem klaw_end (hC : hk_LC p s m meth c b L xs g) (F : Nat) {n : Nat} {S : hk_S} {H : Heap} {locs : List Loc} {ls : Array Slot} {cells slots : Nat} {c0 : Int32} {c1 : Int32} (hf : cells ≤ room_1.cells ∧ slots ≤ room_1.slots) (G : hk_GG g (hk_EE 221 220) S n s H locs) (hl : lv_has ls 8 [(0, .ref b), (1, .ref (g.1 + 0))]) (o : hk_S) (hsp : mlaw_end F S c0 c1 = some o) (hc0 : lw_cell L xs 0 = c0) (hc1 : lw_cell L xs 1 = c1) (kk : ∀ (n1 : Nat) (H1 : Heap) (locs1 : List Loc) (ls1 : Array Slot), hk_GG g (hk_EE 221 220) o n1 s H1 locs1 → W p l e room_1 s m #[Value.ref b] below meth c H1 locs1 cells slots Q (F0 m 243 ls1 [.int 1])) : W p l e room_1 s m #[Value.ref b] below meth c H locs cells slots Q (F0 m 215 ls []) := by
  have F9 := hC.1
  have hx := F9.1
  have hb := F9.2.1
  unfold mlaw_end at hsp
  refine lv_aload_n hx hb dL_law_215 rfl (lv_at hl 1 rfl) ?_
  refine lv_iconst (v := 1) hx hb dL_law_216 (by decide) ?_
  refine lv_aload_n hx hb dL_law_217 rfl (lv_at hl 0 rfl) ?_
  refine lv_iconst (v := 0) hx hb dL_law_218 (by decide) ?_
  refine hk_cellr (rest := [.int 1, .ref (g.1 + 0)]) hC G (by decide) hl.1 (Nat.le_of_ble_eq_true rfl) hf dL_law_219 (fun H locs G => ?_)
  rw [hc0]
  refine lv_iconst (v := 4) hx hb dL_law_222 (by decide) ?_
  refine lv_iushr hx hb dL_law_223 rfl ?_
  refine lv_bipush (v := 31) hx hb dL_law_224 (by decide) ?_
  refine lv_iand hx hb dL_law_226 ?_
  refine lv_iadd hx hb dL_law_227 ?_
  refine lv_iconst (v := 1) hx hb dL_law_228 (by decide) ?_
  refine lv_aload_n hx hb dL_law_229 rfl (lv_at hl 0 rfl) ?_
  refine lv_iconst (v := 1) hx hb dL_law_230 (by decide) ?_
  refine hk_cellr (rest := [.int 1, .int (1 + ((((c0 : Int32).toUInt32 >>> ((4 : Int32).toUInt32 &&& Int32.toUInt32 31)).toInt32) &&& 31)), .ref (g.1 + 0)]) hC G (by decide) hl.1 (Nat.le_of_ble_eq_true rfl) hf dL_law_231 (fun H locs G => ?_)
  rw [hc1]
  refine lv_iconst (v := 4) hx hb dL_law_234 (by decide) ?_
  refine lv_iushr hx hb dL_law_235 rfl ?_
  refine lv_bipush (v := 63) hx hb dL_law_236 (by decide) ?_
  refine lv_iand hx hb dL_law_238 ?_
  refine lv_iadd hx hb dL_law_239 ?_
  obtain ⟨r1, er1, hsp⟩ := hk_b hsp
  refine hk_callSi (As := [.ref (g.1 + 0), .int (1 + ((((c0 : Int32).toUInt32 >>> ((4 : Int32).toUInt32 &&& Int32.toUInt32 31)).toInt32) &&& 31)), .int (1 + ((((c1 : Int32).toUInt32 >>> ((4 : Int32).toUInt32 &&& Int32.toUInt32 31)).toInt32) &&& 63))]) (rest := []) F9 G (kL_isSame l g (hk_EE 221 220) F n S 0 (1 + ((((c0 : Int32).toUInt32 >>> ((4 : Int32).toUInt32 &&& Int32.toUInt32 31)).toInt32) &&& 31)) (1 + ((((c1 : Int32).toUInt32 >>> ((4 : Int32).toUInt32 &&& Int32.toUInt32 31)).toInt32) &&& 63)) r1 (by decide +kernel) er1) qv_RL_215 ⟨rfl, rfl, (Nat.le_of_ble_eq_true rfl), (Nat.le_of_ble_eq_true rfl)⟩ rfl hl.1 rfl (Nat.le_of_ble_eq_true rfl) hf dL_law_240 (fun H locs G => ?_)
  obtain ⟨q2, hsp⟩ := hk_k hsp
  obtain rfl := hk_s hsp
  rw [q2]
  exact kk n H locs ls G
end HKLAW
