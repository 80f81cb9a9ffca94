/-- what stands while the law runs: the frame's words, the script -/
def hk_LC (p : Program) (s : State) (m : MethodId) (meth : Method) (c : Code) (b L : Nat) (xs : Nat → Int32) (g : hk_G) : Prop := CallFix p m c cL_law 9 s #[Value.ref b] hk_W RL ∧ meth.locks = false ∧ va_X b L xs s s.heap ∧ b < s.heap.size ∧ ¬ hk_A g b
section HKLAW
variable {p : Program} {l : Launch} {e : Env} {s : State} {m : MethodId} {below : List Frame} {meth : Method} {c : Code} {Q : State → Prop} {b L : Nat} {xs : Nat → Int32} {g : hk_G}
def mop_0 (F : Nat) (S : hk_S) (p1 p2 p3 p4 p5 : Int32) : Option hk_S :=
(mX11_append (hk_EE 232 229) F S 0 p1 p2 p3 p4 p5).bind (fun r1 => (mX12_append (hk_EE 232 229) F r1.2 221 p1 p2 p3 p4 p5).bind (fun r2 => if r1.1 = r2.1 then (some r2.2) else (none)))
set_option maxHeartbeats 4000000 in
set_option maxRecDepth 100000 in
theorem kop_0 (hst : l.stackTraces = false) (hC : hk_LC p s m meth c b L xs g) (F : Nat) {n : Nat} {S : hk_S} {H : Heap} {locs : List Loc} {ls : Array Slot} {cells slots : Nat} {i : Int32} (hi : ∀ k : Nat, k < 6 → vp_in (i + nI k) L) (hf : cells + 8 ≤ room_1.cells ∧ slots + 48 ≤ room_1.slots) (G : hk_GG g (hk_EE 232 229) S n s H locs) (hl : lv_has ls 9 [(0, .ref b), (1, .ref (g.1 + 0)), (2, .ref (g.1 + 221)), (3, .ref (g.1 + 231)), (4, .int i)]) (o : hk_S) (hsp : mop_0 F S (xs (i + 1).toNatClampNeg) (xs (i + 2).toNatClampNeg) (xs (i + 3).toNatClampNeg) (xs (i + 4).toNatClampNeg) (xs (i + 5).toNatClampNeg) = some o) (kk : ∀ (n1 : Nat) (H1 : Heap) (locs1 : List Loc) (ls1 : Array Slot), hk_GG g (hk_EE 232 229) o n1 s H1 locs1 → lv_has ls1 9 [(0, .ref b), (1, .ref (g.1 + 0)), (2, .ref (g.1 + 221)), (3, .ref (g.1 + 231)), (4, .int i)] → W p l e room_1 s m #[Value.ref b] below meth c H1 locs1 (cells + 8) (slots + 48) Q (F0 m 3152 ls1 [])) : W p l e room_1 s m #[Value.ref b] below meth c H locs cells slots Q (F0 m 312 ls []) := by
  have hfc := hf.1
  have hfs := hf.2
  have F9 := hC.1
  have hx := F9.1
  have hb := F9.2.1
  generalize hp1 : xs (i + 1).toNatClampNeg = p1 at hsp
  generalize hp2 : xs (i + 2).toNatClampNeg = p2 at hsp
  generalize hp3 : xs (i + 3).toNatClampNeg = p3 at hsp
  generalize hp4 : xs (i + 4).toNatClampNeg = p4 at hsp
  generalize hp5 : xs (i + 5).toNatClampNeg = p5 at hsp
  unfold mop_0 at hsp
  refine lv_aload_n hx hb dL_law_312 rfl (lv_at hl 1 rfl) ?_
  refine lv_aload_n hx hb dL_law_313 rfl (lv_at hl 0 rfl) ?_
  refine lv_iload hx hb dL_law_314 (lv_at hl 4 rfl) ?_
  refine lv_iconst (v := 1) hx hb dL_law_316 (by decide) ?_
  refine lv_iadd hx hb dL_law_317 ?_
  refine va_sld hx hb hC.2.2.1 hC.2.2.2.1 hC.2.2.2.2 G.2.1 (hi 1 (by decide)) dL_law_318 ?_
  rw [hp1]
  refine lv_aload_n hx hb dL_law_319 rfl (lv_at hl 0 rfl) ?_
  refine lv_iload hx hb dL_law_320 (lv_at hl 4 rfl) ?_
  refine lv_iconst (v := 2) hx hb dL_law_322 (by decide) ?_
  refine lv_iadd hx hb dL_law_323 ?_
  refine va_sld hx hb hC.2.2.1 hC.2.2.2.1 hC.2.2.2.2 G.2.1 (hi 2 (by decide)) dL_law_324 ?_
  rw [hp2]
  refine lv_aload_n hx hb dL_law_325 rfl (lv_at hl 0 rfl) ?_
  refine lv_iload hx hb dL_law_326 (lv_at hl 4 rfl) ?_
  refine lv_iconst (v := 3) hx hb dL_law_328 (by decide) ?_
  refine lv_iadd hx hb dL_law_329 ?_
  refine va_sld hx hb hC.2.2.1 hC.2.2.2.1 hC.2.2.2.2 G.2.1 (hi 3 (by decide)) dL_law_330 ?_
  rw [hp3]
  refine lv_aload_n hx hb dL_law_331 rfl (lv_at hl 0 rfl) ?_
  refine lv_iload hx hb dL_law_332 (lv_at hl 4 rfl) ?_
  refine lv_iconst (v := 4) hx hb dL_law_334 (by decide) ?_
  refine lv_iadd hx hb dL_law_335 ?_
  refine va_sld hx hb hC.2.2.1 hC.2.2.2.1 hC.2.2.2.2 G.2.1 (hi 4 (by decide)) dL_law_336 ?_
  rw [hp4]
  refine lv_aload_n hx hb dL_law_337 rfl (lv_at hl 0 rfl) ?_
  refine lv_iload hx hb dL_law_338 (lv_at hl 4 rfl) ?_
  refine lv_iconst (v := 5) hx hb dL_law_340 (by decide) ?_
  refine lv_iadd hx hb dL_law_341 ?_
  refine va_sld hx hb hC.2.2.1 hC.2.2.2.1 hC.2.2.2.2 G.2.1 (hi 5 (by decide)) dL_law_342 ?_
  rw [hp5]
  obtain ⟨r1, er1, hsp⟩ := hk_b hsp
  refine hk_callVi (As := [.int p1, .int p2, .int p3, .int p4, .int p5]) (rest := []) F9 G (by decide +kernel) hkc_8 rfl (kX11_append l g (hk_EE 232 229) F n S 0 p1 p2 p3 p4 p5 r1 (by decide +kernel) er1) qv_RL_146 ⟨rfl, rfl, (Nat.le_of_ble_eq_true rfl), (Nat.le_of_ble_eq_true rfl)⟩ rfl hl.1 rfl (Nat.le_of_ble_eq_true rfl) ⟨by omega, by omega⟩ dL_law_343 (fun H locs G => ?_)
  refine lv_aload_n hx hb dL_law_346 rfl (lv_at hl 2 rfl) ?_
  refine lv_aload_n hx hb dL_law_347 rfl (lv_at hl 0 rfl) ?_
  refine lv_iload hx hb dL_law_348 (lv_at hl 4 rfl) ?_
  refine lv_iconst (v := 1) hx hb dL_law_350 (by decide) ?_
  refine lv_iadd hx hb dL_law_351 ?_
  refine va_sld hx hb hC.2.2.1 hC.2.2.2.1 hC.2.2.2.2 G.2.1 (hi 1 (by decide)) dL_law_352 ?_
  rw [hp1]
  refine lv_aload_n hx hb dL_law_353 rfl (lv_at hl 0 rfl) ?_
  refine lv_iload hx hb dL_law_354 (lv_at hl 4 rfl) ?_
  refine lv_iconst (v := 2) hx hb dL_law_356 (by decide) ?_
  refine lv_iadd hx hb dL_law_357 ?_
  refine va_sld hx hb hC.2.2.1 hC.2.2.2.1 hC.2.2.2.2 G.2.1 (hi 2 (by decide)) dL_law_358 ?_
  rw [hp2]
  refine lv_aload_n hx hb dL_law_359 rfl (lv_at hl 0 rfl) ?_
  refine lv_iload hx hb dL_law_360 (lv_at hl 4 rfl) ?_
  refine lv_iconst (v := 3) hx hb dL_law_362 (by decide) ?_
  refine lv_iadd hx hb dL_law_363 ?_
  refine va_sld hx hb hC.2.2.1 hC.2.2.2.1 hC.2.2.2.2 G.2.1 (hi 3 (by decide)) dL_law_364 ?_
  rw [hp3]
  refine lv_aload_n hx hb dL_law_365 rfl (lv_at hl 0 rfl) ?_
  refine lv_iload hx hb dL_law_366 (lv_at hl 4 rfl) ?_
  refine lv_iconst (v := 4) hx hb dL_law_368 (by decide) ?_
  refine lv_iadd hx hb dL_law_369 ?_
  refine va_sld hx hb hC.2.2.1 hC.2.2.2.1 hC.2.2.2.2 G.2.1 (hi 4 (by decide)) dL_law_370 ?_
  rw [hp4]
  refine lv_aload_n hx hb dL_law_371 rfl (lv_at hl 0 rfl) ?_
  refine lv_iload hx hb dL_law_372 (lv_at hl 4 rfl) ?_
  refine lv_iconst (v := 5) hx hb dL_law_374 (by decide) ?_
  refine lv_iadd hx hb dL_law_375 ?_
  refine va_sld hx hb hC.2.2.1 hC.2.2.2.1 hC.2.2.2.2 G.2.1 (hi 5 (by decide)) dL_law_376 ?_
  rw [hp5]
  obtain ⟨r2, er2, hsp⟩ := hk_b hsp
  refine hk_callVi (As := [.int p1, .int p2, .int p3, .int p4, .int p5]) (rest := [.int r1.1]) F9 G (by decide +kernel) hkc_9 rfl (kX12_append l g (hk_EE 232 229) F n r1.2 221 p1 p2 p3 p4 p5 r2 (by decide +kernel) er2) qv_RL_150 ⟨rfl, rfl, (Nat.le_of_ble_eq_true rfl), (Nat.le_of_ble_eq_true rfl)⟩ rfl hl.1 rfl (Nat.le_of_ble_eq_true rfl) ⟨by omega, by omega⟩ dL_law_377 (fun H locs G => ?_)
  refine lv_icmp_eq (tgt := 3152) hx hb dL_law_380 (by decide) (fun c3 => ?_) (fun c3 => ?_)
  · have hsp := hk_t c3 hsp
    obtain rfl := hk_s hsp
    exact W.widen (by omega) (by omega) (kk n H locs ls G (lv_sub hl [0, 1, 2, 3, 4] rfl))
  · have hsp := hk_f c3 hsp
    exact nomatch hsp
def mop_1 (F : Nat) (S : hk_S) (p1 p2 p3 p4 p5 : Int32) : Option hk_S :=
(mL_truncateInput (hk_EE 232 229) F S 0 p1 231).bind (fun r1 => (mX12_truncateInput (hk_EE 232 229) F r1.2 221 p1).bind (fun r2 => (mX12_thrown (hk_EE 232 229) F r2.2 221).bind (fun r3 => if r3.1 = r1.1 then (if ¬ r1.1 = 0 then (some r3.2) else (if hk_ok 0 ((hk_EE 232 229).2.2.1 231) then (if (lg_cmp ((r3.2 231 0).toInt64) ((r2.1 : Int32).toInt64)) = 0 then (some r3.2) else (none)) else none)) else (none))))
set_option maxHeartbeats 4000000 in
set_option maxRecDepth 100000 in
theorem kop_1 (hst : l.stackTraces = false) (hC : hk_LC p s m meth c b L xs g) (F : Nat) {n : Nat} {S : hk_S} {H : Heap} {locs : List Loc} {ls : Array Slot} {cells slots : Nat} {i : Int32} (hi : ∀ k : Nat, k < 6 → vp_in (i + nI k) L) (hf : cells + 8 ≤ room_1.cells ∧ slots + 48 ≤ room_1.slots) (G : hk_GG g (hk_EE 232 229) S n s H locs) (hl : lv_has ls 9 [(0, .ref b), (1, .ref (g.1 + 0)), (2, .ref (g.1 + 221)), (3, .ref (g.1 + 231)), (4, .int i)]) (o : hk_S) (hsp : mop_1 F S (xs (i + 1).toNatClampNeg) (xs (i + 2).toNatClampNeg) (xs (i + 3).toNatClampNeg) (xs (i + 4).toNatClampNeg) (xs (i + 5).toNatClampNeg) = some o) (kk : ∀ (n1 : Nat) (H1 : Heap) (locs1 : List Loc) (ls1 : Array Slot), hk_GG g (hk_EE 232 229) o n1 s H1 locs1 → lv_has ls1 9 [(0, .ref b), (1, .ref (g.1 + 0)), (2, .ref (g.1 + 221)), (3, .ref (g.1 + 231)), (4, .int i)] → W p l e room_1 s m #[Value.ref b] below meth c H1 locs1 (cells + 8) (slots + 48) Q (F0 m 3152 ls1 [])) : W p l e room_1 s m #[Value.ref b] below meth c H locs cells slots Q (F0 m 385 ls []) := by
  have hfc := hf.1
  have hfs := hf.2
  have F9 := hC.1
  have hx := F9.1
  have hb := F9.2.1
  generalize hp1 : xs (i + 1).toNatClampNeg = p1 at hsp
  generalize hp2 : xs (i + 2).toNatClampNeg = p2 at hsp
  generalize hp3 : xs (i + 3).toNatClampNeg = p3 at hsp
  generalize hp4 : xs (i + 4).toNatClampNeg = p4 at hsp
  generalize hp5 : xs (i + 5).toNatClampNeg = p5 at hsp
  unfold mop_1 at hsp
  refine lv_aload_n hx hb dL_law_385 rfl (lv_at hl 1 rfl) ?_
  refine lv_aload_n hx hb dL_law_386 rfl (lv_at hl 0 rfl) ?_
  refine lv_iload hx hb dL_law_387 (lv_at hl 4 rfl) ?_
  refine lv_iconst (v := 1) hx hb dL_law_389 (by decide) ?_
  refine lv_iadd hx hb dL_law_390 ?_
  refine va_sld hx hb hC.2.2.1 hC.2.2.2.1 hC.2.2.2.2 G.2.1 (hi 1 (by decide)) dL_law_391 ?_
  rw [hp1]
  refine lv_aload_n hx hb dL_law_392 rfl (lv_at hl 3 rfl) ?_
  obtain ⟨r1, er1, hsp⟩ := hk_b hsp
  refine hk_callW (As := [.ref (g.1 + 0), .int p1, .ref (g.1 + 231)]) (rest := []) F9 G (kL_truncateInput l hst g (hk_EE 232 229) F n S 0 p1 231 r1 (by decide +kernel) (by decide +kernel) er1) qW_151 ⟨rfl, rfl, (Nat.le_of_ble_eq_true rfl), (Nat.le_of_ble_eq_true rfl)⟩ rfl hl.1 rfl (Nat.le_of_ble_eq_true rfl) ⟨by omega, by omega⟩ dL_law_393 (fun n H locs G => ?_)
  refine lv_istore (lv' := [(5, .int r1.1), (0, .ref b), (1, .ref (g.1 + 0)), (2, .ref (g.1 + 221)), (3, .ref (g.1 + 231)), (4, .int i)]) hx hb dL_law_396  hl (by decide) rfl (fun ls hl => ?_)
  refine lv_aload_n hx hb dL_law_398 rfl (lv_at hl 3 rfl) ?_
  refine lv_aload_n hx hb dL_law_399 rfl (lv_at hl 1 rfl) ?_
  refine lv_iload hx hb dL_law_400 (lv_at hl 5 rfl) ?_
  refine lv_iconst (v := 1) hx hb dL_law_402 (by decide) ?_
  refine lv_iadd hx hb dL_law_403 ?_
  refine va_sld hx hb hC.2.2.1 hC.2.2.2.1 hC.2.2.2.2 G.2.1 (hi 1 (by decide)) dL_law_404 ?_
  rw [hp1]
  obtain ⟨r2, er2, hsp⟩ := hk_b hsp
  refine hk_callVi (As := [.int p1]) (rest := []) F9 G (by decide +kernel) hkc_9 rfl (kX12_truncateInput l g (hk_EE 232 229) F n r1.2 221 p1 r2 (by decide +kernel) er2) qv_RL_156 ⟨rfl, rfl, (Nat.le_of_ble_eq_true rfl), (Nat.le_of_ble_eq_true rfl)⟩ rfl hl.1 rfl (Nat.le_of_ble_eq_true rfl) ⟨by omega, by omega⟩ dL_law_405 (fun H locs G => ?_)
  refine lv_istore (lv' := [(6, .int r2.1), (5, .int r1.1), (0, .ref b), (1, .ref (g.1 + 0)), (2, .ref (g.1 + 221)), (3, .ref (g.1 + 231)), (4, .int i)]) hx hb dL_law_408  hl (by decide) rfl (fun ls hl => ?_)
  refine lv_aload_n hx hb dL_law_410 rfl (lv_at hl 4 rfl) ?_
  obtain ⟨r3, er3, hsp⟩ := hk_b hsp
  refine hk_callVi (As := []) (rest := []) F9 G (by decide +kernel) hkc_9 rfl (kX12_thrown l g (hk_EE 232 229) F n r2.2 221 r3 (by decide +kernel) er3) qv_RL_157 ⟨rfl, rfl, (Nat.le_of_ble_eq_true rfl), (Nat.le_of_ble_eq_true rfl)⟩ rfl hl.1 rfl (Nat.le_of_ble_eq_true rfl) ⟨by omega, by omega⟩ dL_law_411 (fun H locs G => ?_)
  refine lv_iload hx hb dL_law_414 (lv_at hl 1 rfl) ?_
  refine lv_icmp_eq (tgt := 421) hx hb dL_law_416 (by decide) (fun c4 => ?_) (fun c4 => ?_)
  · have hsp := hk_t c4 hsp
    refine lv_iload hx hb dL_law_421 (lv_at hl 1 rfl) ?_
    refine lv_if_ne (tgt := 438) hx hb dL_law_423 (by decide) (fun c5 => ?_) (fun c5 => ?_)
    · have hsp := hk_t c5 hsp
      refine lv_goto (tgt := 3152) hx hb dL_law_438 (by decide) ?_
      obtain rfl := hk_s hsp
      exact W.widen (by omega) (by omega) (kk n H locs ls G (lv_sub hl [2, 3, 4, 5, 6] rfl))
    · have hsp := hk_g c5 hsp
      refine lv_aload_n hx hb dL_law_426 rfl (lv_at hl 5 rfl) ?_
      refine lv_iconst (v := 0) hx hb dL_law_427 (by decide) ?_
      obtain ⟨q6, hsp⟩ := hk_k hsp
      refine hk_lald (j := 0) F9 G (by decide +kernel) rfl q6 (by decide) dL_law_428 ?_
      refine lv_iload hx hb dL_law_429 (lv_at hl 0 rfl) ?_
      refine lv_i2l (v := (r2.1 : Int32).toInt64) hx hb dL_law_431 rfl ?_
      refine W.lcmp hx hb dL_law_432 ?_
      refine lv_if_eq (tgt := 438) hx hb dL_law_433 (by decide) (fun c7 => ?_) (fun c7 => ?_)
      · have hsp := hk_t c7 hsp
        refine lv_goto (tgt := 3152) hx hb dL_law_438 (by decide) ?_
        obtain rfl := hk_s hsp
        exact W.widen (by omega) (by omega) (kk n H locs ls G (lv_sub hl [2, 3, 4, 5, 6] rfl))
      · have hsp := hk_f c7 hsp
        exact nomatch hsp
  · have hsp := hk_f c4 hsp
    exact nomatch hsp
def mop_2 (F : Nat) (S : hk_S) (p1 p2 p3 p4 p5 : Int32) : Option hk_S :=
(mX11_runScript (hk_EE 232 229) F S 0).bind (fun r1 => (mX12_runScript (hk_EE 232 229) F r1.2 221).bind (fun r2 => if r1.1 = r2.1 then (some r2.2) else (none)))
set_option maxHeartbeats 4000000 in
set_option maxRecDepth 100000 in
theorem kop_2 (hst : l.stackTraces = false) (hC : hk_LC p s m meth c b L xs g) (F : Nat) {n : Nat} {S : hk_S} {H : Heap} {locs : List Loc} {ls : Array Slot} {cells slots : Nat} {i : Int32} (hi : ∀ k : Nat, k < 6 → vp_in (i + nI k) L) (hf : cells + 8 ≤ room_1.cells ∧ slots + 48 ≤ room_1.slots) (G : hk_GG g (hk_EE 232 229) S n s H locs) (hl : lv_has ls 9 [(0, .ref b), (1, .ref (g.1 + 0)), (2, .ref (g.1 + 221)), (3, .ref (g.1 + 231)), (4, .int i)]) (o : hk_S) (hsp : mop_2 F S (xs (i + 1).toNatClampNeg) (xs (i + 2).toNatClampNeg) (xs (i + 3).toNatClampNeg) (xs (i + 4).toNatClampNeg) (xs (i + 5).toNatClampNeg) = some o) (kk : ∀ (n1 : Nat) (H1 : Heap) (locs1 : List Loc) (ls1 : Array Slot), hk_GG g (hk_EE 232 229) o n1 s H1 locs1 → lv_has ls1 9 [(0, .ref b), (1, .ref (g.1 + 0)), (2, .ref (g.1 + 221)), (3, .ref (g.1 + 231)), (4, .int i)] → W p l e room_1 s m #[Value.ref b] below meth c H1 locs1 (cells + 8) (slots + 48) Q (F0 m 3152 ls1 [])) : W p l e room_1 s m #[Value.ref b] below meth c H locs cells slots Q (F0 m 441 ls []) := by
  have hfc := hf.1
  have hfs := hf.2
  have F9 := hC.1
  have hx := F9.1
  have hb := F9.2.1
  generalize hp1 : xs (i + 1).toNatClampNeg = p1 at hsp
  generalize hp2 : xs (i + 2).toNatClampNeg = p2 at hsp
  generalize hp3 : xs (i + 3).toNatClampNeg = p3 at hsp
  generalize hp4 : xs (i + 4).toNatClampNeg = p4 at hsp
  generalize hp5 : xs (i + 5).toNatClampNeg = p5 at hsp
  unfold mop_2 at hsp
  refine lv_aload_n hx hb dL_law_441 rfl (lv_at hl 1 rfl) ?_
  obtain ⟨r1, er1, hsp⟩ := hk_b hsp
  refine hk_callVi (As := []) (rest := []) F9 G (by decide +kernel) hkc_8 rfl (kX11_runScript l g (hk_EE 232 229) F n S 0 r1 (by decide +kernel) er1) qv_RL_160 ⟨rfl, rfl, (Nat.le_of_ble_eq_true rfl), (Nat.le_of_ble_eq_true rfl)⟩ rfl hl.1 rfl (Nat.le_of_ble_eq_true rfl) ⟨by omega, by omega⟩ dL_law_442 (fun H locs G => ?_)
  refine lv_aload_n hx hb dL_law_445 rfl (lv_at hl 2 rfl) ?_
  obtain ⟨r2, er2, hsp⟩ := hk_b hsp
  refine hk_callVi (As := []) (rest := [.int r1.1]) F9 G (by decide +kernel) hkc_9 rfl (kX12_runScript l g (hk_EE 232 229) F n r1.2 221 r2 (by decide +kernel) er2) qv_RL_163 ⟨rfl, rfl, (Nat.le_of_ble_eq_true rfl), (Nat.le_of_ble_eq_true rfl)⟩ rfl hl.1 rfl (Nat.le_of_ble_eq_true rfl) ⟨by omega, by omega⟩ dL_law_446 (fun H locs G => ?_)
  refine lv_icmp_eq (tgt := 3152) hx hb dL_law_449 (by decide) (fun c3 => ?_) (fun c3 => ?_)
  · have hsp := hk_t c3 hsp
    obtain rfl := hk_s hsp
    exact W.widen (by omega) (by omega) (kk n H locs ls G (lv_sub hl [0, 1, 2, 3, 4] rfl))
  · have hsp := hk_f c3 hsp
    exact nomatch hsp
def mop_3 (F : Nat) (S : hk_S) (p1 p2 p3 p4 p5 : Int32) : Option hk_S :=
(mL_addTrough (hk_EE 232 229) F S 0 p1 231).bind (fun r1 => (mX12_addTrough (hk_EE 232 229) F r1.2 221 p1).bind (fun r2 => (mX12_thrown (hk_EE 232 229) F r2.2 221).bind (fun r3 => if r3.1 = r1.1 then (if ¬ r1.1 = 0 then (some r3.2) else (if hk_ok 0 ((hk_EE 232 229).2.2.1 231) then (if (lg_cmp ((r3.2 231 0).toInt64) ((r2.1 : Int32).toInt64)) = 0 then (some r3.2) else (none)) else none)) else (none))))
set_option maxHeartbeats 4000000 in
set_option maxRecDepth 100000 in
theorem kop_3 (hst : l.stackTraces = false) (hC : hk_LC p s m meth c b L xs g) (F : Nat) {n : Nat} {S : hk_S} {H : Heap} {locs : List Loc} {ls : Array Slot} {cells slots : Nat} {i : Int32} (hi : ∀ k : Nat, k < 6 → vp_in (i + nI k) L) (hf : cells + 8 ≤ room_1.cells ∧ slots + 48 ≤ room_1.slots) (G : hk_GG g (hk_EE 232 229) S n s H locs) (hl : lv_has ls 9 [(0, .ref b), (1, .ref (g.1 + 0)), (2, .ref (g.1 + 221)), (3, .ref (g.1 + 231)), (4, .int i)]) (o : hk_S) (hsp : mop_3 F S (xs (i + 1).toNatClampNeg) (xs (i + 2).toNatClampNeg) (xs (i + 3).toNatClampNeg) (xs (i + 4).toNatClampNeg) (xs (i + 5).toNatClampNeg) = some o) (kk : ∀ (n1 : Nat) (H1 : Heap) (locs1 : List Loc) (ls1 : Array Slot), hk_GG g (hk_EE 232 229) o n1 s H1 locs1 → lv_has ls1 9 [(0, .ref b), (1, .ref (g.1 + 0)), (2, .ref (g.1 + 221)), (3, .ref (g.1 + 231)), (4, .int i)] → W p l e room_1 s m #[Value.ref b] below meth c H1 locs1 (cells + 8) (slots + 48) Q (F0 m 3152 ls1 [])) : W p l e room_1 s m #[Value.ref b] below meth c H locs cells slots Q (F0 m 454 ls []) := by
  have hfc := hf.1
  have hfs := hf.2
  have F9 := hC.1
  have hx := F9.1
  have hb := F9.2.1
  generalize hp1 : xs (i + 1).toNatClampNeg = p1 at hsp
  generalize hp2 : xs (i + 2).toNatClampNeg = p2 at hsp
  generalize hp3 : xs (i + 3).toNatClampNeg = p3 at hsp
  generalize hp4 : xs (i + 4).toNatClampNeg = p4 at hsp
  generalize hp5 : xs (i + 5).toNatClampNeg = p5 at hsp
  unfold mop_3 at hsp
  refine lv_aload_n hx hb dL_law_454 rfl (lv_at hl 1 rfl) ?_
  refine lv_aload_n hx hb dL_law_455 rfl (lv_at hl 0 rfl) ?_
  refine lv_iload hx hb dL_law_456 (lv_at hl 4 rfl) ?_
  refine lv_iconst (v := 1) hx hb dL_law_458 (by decide) ?_
  refine lv_iadd hx hb dL_law_459 ?_
  refine va_sld hx hb hC.2.2.1 hC.2.2.2.1 hC.2.2.2.2 G.2.1 (hi 1 (by decide)) dL_law_460 ?_
  rw [hp1]
  refine lv_aload_n hx hb dL_law_461 rfl (lv_at hl 3 rfl) ?_
  obtain ⟨r1, er1, hsp⟩ := hk_b hsp
  refine hk_callW (As := [.ref (g.1 + 0), .int p1, .ref (g.1 + 231)]) (rest := []) F9 G (kL_addTrough l hst g (hk_EE 232 229) F n S 0 p1 231 r1 (by decide +kernel) (by decide +kernel) er1) qW_164 ⟨rfl, rfl, (Nat.le_of_ble_eq_true rfl), (Nat.le_of_ble_eq_true rfl)⟩ rfl hl.1 rfl (Nat.le_of_ble_eq_true rfl) ⟨by omega, by omega⟩ dL_law_462 (fun n H locs G => ?_)
  refine lv_istore (lv' := [(5, .int r1.1), (0, .ref b), (1, .ref (g.1 + 0)), (2, .ref (g.1 + 221)), (3, .ref (g.1 + 231)), (4, .int i)]) hx hb dL_law_465  hl (by decide) rfl (fun ls hl => ?_)
  refine lv_aload_n hx hb dL_law_467 rfl (lv_at hl 3 rfl) ?_
  refine lv_aload_n hx hb dL_law_468 rfl (lv_at hl 1 rfl) ?_
  refine lv_iload hx hb dL_law_469 (lv_at hl 5 rfl) ?_
  refine lv_iconst (v := 1) hx hb dL_law_471 (by decide) ?_
  refine lv_iadd hx hb dL_law_472 ?_
  refine va_sld hx hb hC.2.2.1 hC.2.2.2.1 hC.2.2.2.2 G.2.1 (hi 1 (by decide)) dL_law_473 ?_
  rw [hp1]
  obtain ⟨r2, er2, hsp⟩ := hk_b hsp
  refine hk_callVi (As := [.int p1]) (rest := []) F9 G (by decide +kernel) hkc_9 rfl (kX12_addTrough l g (hk_EE 232 229) F n r1.2 221 p1 r2 (by decide +kernel) er2) qv_RL_166 ⟨rfl, rfl, (Nat.le_of_ble_eq_true rfl), (Nat.le_of_ble_eq_true rfl)⟩ rfl hl.1 rfl (Nat.le_of_ble_eq_true rfl) ⟨by omega, by omega⟩ dL_law_474 (fun H locs G => ?_)
  refine lv_istore (lv' := [(6, .int r2.1), (5, .int r1.1), (0, .ref b), (1, .ref (g.1 + 0)), (2, .ref (g.1 + 221)), (3, .ref (g.1 + 231)), (4, .int i)]) hx hb dL_law_477  hl (by decide) rfl (fun ls hl => ?_)
  refine lv_aload_n hx hb dL_law_479 rfl (lv_at hl 4 rfl) ?_
  obtain ⟨r3, er3, hsp⟩ := hk_b hsp
  refine hk_callVi (As := []) (rest := []) F9 G (by decide +kernel) hkc_9 rfl (kX12_thrown l g (hk_EE 232 229) F n r2.2 221 r3 (by decide +kernel) er3) qv_RL_157 ⟨rfl, rfl, (Nat.le_of_ble_eq_true rfl), (Nat.le_of_ble_eq_true rfl)⟩ rfl hl.1 rfl (Nat.le_of_ble_eq_true rfl) ⟨by omega, by omega⟩ dL_law_480 (fun H locs G => ?_)
  refine lv_iload hx hb dL_law_483 (lv_at hl 1 rfl) ?_
  refine lv_icmp_eq (tgt := 490) hx hb dL_law_485 (by decide) (fun c4 => ?_) (fun c4 => ?_)
  · have hsp := hk_t c4 hsp
    refine lv_iload hx hb dL_law_490 (lv_at hl 1 rfl) ?_
    refine lv_if_ne (tgt := 507) hx hb dL_law_492 (by decide) (fun c5 => ?_) (fun c5 => ?_)
    · have hsp := hk_t c5 hsp
      refine lv_goto (tgt := 3152) hx hb dL_law_507 (by decide) ?_
      obtain rfl := hk_s hsp
      exact W.widen (by omega) (by omega) (kk n H locs ls G (lv_sub hl [2, 3, 4, 5, 6] rfl))
    · have hsp := hk_g c5 hsp
      refine lv_aload_n hx hb dL_law_495 rfl (lv_at hl 5 rfl) ?_
      refine lv_iconst (v := 0) hx hb dL_law_496 (by decide) ?_
      obtain ⟨q6, hsp⟩ := hk_k hsp
      refine hk_lald (j := 0) F9 G (by decide +kernel) rfl q6 (by decide) dL_law_497 ?_
      refine lv_iload hx hb dL_law_498 (lv_at hl 0 rfl) ?_
      refine lv_i2l (v := (r2.1 : Int32).toInt64) hx hb dL_law_500 rfl ?_
      refine W.lcmp hx hb dL_law_501 ?_
      refine lv_if_eq (tgt := 507) hx hb dL_law_502 (by decide) (fun c7 => ?_) (fun c7 => ?_)
      · have hsp := hk_t c7 hsp
        refine lv_goto (tgt := 3152) hx hb dL_law_507 (by decide) ?_
        obtain rfl := hk_s hsp
        exact W.widen (by omega) (by omega) (kk n H locs ls G (lv_sub hl [2, 3, 4, 5, 6] rfl))
      · have hsp := hk_f c7 hsp
        exact nomatch hsp
  · have hsp := hk_f c4 hsp
    exact nomatch hsp
def mop_4 (F : Nat) (S : hk_S) (p1 p2 p3 p4 p5 : Int32) : Option hk_S :=
(mL_load (hk_EE 232 229) F S 0 p1 p2 p3 231).bind (fun r1 => (mX12_load (hk_EE 232 229) F r1.2 221 p1 p2 p3).bind (fun r2 => (mX12_thrown (hk_EE 232 229) F r2.2 221).bind (fun r3 => if r3.1 = r1.1 then (if ¬ r1.1 = 0 then (some r3.2) else (if hk_ok 0 ((hk_EE 232 229).2.2.1 231) then (if (lg_cmp ((r3.2 231 0).toInt64) ((r2.1 : Int32).toInt64)) = 0 then (some r3.2) else (none)) else none)) else (none))))
set_option maxHeartbeats 4000000 in
set_option maxRecDepth 100000 in
theorem kop_4 (hst : l.stackTraces = false) (hC : hk_LC p s m meth c b L xs g) (F : Nat) {n : Nat} {S : hk_S} {H : Heap} {locs : List Loc} {ls : Array Slot} {cells slots : Nat} {i : Int32} (hi : ∀ k : Nat, k < 6 → vp_in (i + nI k) L) (hf : cells + 8 ≤ room_1.cells ∧ slots + 48 ≤ room_1.slots) (G : hk_GG g (hk_EE 232 229) S n s H locs) (hl : lv_has ls 9 [(0, .ref b), (1, .ref (g.1 + 0)), (2, .ref (g.1 + 221)), (3, .ref (g.1 + 231)), (4, .int i)]) (o : hk_S) (hsp : mop_4 F S (xs (i + 1).toNatClampNeg) (xs (i + 2).toNatClampNeg) (xs (i + 3).toNatClampNeg) (xs (i + 4).toNatClampNeg) (xs (i + 5).toNatClampNeg) = some o) (kk : ∀ (n1 : Nat) (H1 : Heap) (locs1 : List Loc) (ls1 : Array Slot), hk_GG g (hk_EE 232 229) o n1 s H1 locs1 → lv_has ls1 9 [(0, .ref b), (1, .ref (g.1 + 0)), (2, .ref (g.1 + 221)), (3, .ref (g.1 + 231)), (4, .int i)] → W p l e room_1 s m #[Value.ref b] below meth c H1 locs1 (cells + 8) (slots + 48) Q (F0 m 3152 ls1 [])) : W p l e room_1 s m #[Value.ref b] below meth c H locs cells slots Q (F0 m 510 ls []) := by
  have hfc := hf.1
  have hfs := hf.2
  have F9 := hC.1
  have hx := F9.1
  have hb := F9.2.1
  generalize hp1 : xs (i + 1).toNatClampNeg = p1 at hsp
  generalize hp2 : xs (i + 2).toNatClampNeg = p2 at hsp
  generalize hp3 : xs (i + 3).toNatClampNeg = p3 at hsp
  generalize hp4 : xs (i + 4).toNatClampNeg = p4 at hsp
  generalize hp5 : xs (i + 5).toNatClampNeg = p5 at hsp
  unfold mop_4 at hsp
  refine lv_aload_n hx hb dL_law_510 rfl (lv_at hl 1 rfl) ?_
  refine lv_aload_n hx hb dL_law_511 rfl (lv_at hl 0 rfl) ?_
  refine lv_iload hx hb dL_law_512 (lv_at hl 4 rfl) ?_
  refine lv_iconst (v := 1) hx hb dL_law_514 (by decide) ?_
  refine lv_iadd hx hb dL_law_515 ?_
  refine va_sld hx hb hC.2.2.1 hC.2.2.2.1 hC.2.2.2.2 G.2.1 (hi 1 (by decide)) dL_law_516 ?_
  rw [hp1]
  refine lv_aload_n hx hb dL_law_517 rfl (lv_at hl 0 rfl) ?_
  refine lv_iload hx hb dL_law_518 (lv_at hl 4 rfl) ?_
  refine lv_iconst (v := 2) hx hb dL_law_520 (by decide) ?_
  refine lv_iadd hx hb dL_law_521 ?_
  refine va_sld hx hb hC.2.2.1 hC.2.2.2.1 hC.2.2.2.2 G.2.1 (hi 2 (by decide)) dL_law_522 ?_
  rw [hp2]
  refine lv_aload_n hx hb dL_law_523 rfl (lv_at hl 0 rfl) ?_
  refine lv_iload hx hb dL_law_524 (lv_at hl 4 rfl) ?_
  refine lv_iconst (v := 3) hx hb dL_law_526 (by decide) ?_
  refine lv_iadd hx hb dL_law_527 ?_
  refine va_sld hx hb hC.2.2.1 hC.2.2.2.1 hC.2.2.2.2 G.2.1 (hi 3 (by decide)) dL_law_528 ?_
  rw [hp3]
  refine lv_aload_n hx hb dL_law_529 rfl (lv_at hl 3 rfl) ?_
  obtain ⟨r1, er1, hsp⟩ := hk_b hsp
  refine hk_callW (As := [.ref (g.1 + 0), .int p1, .int p2, .int p3, .ref (g.1 + 231)]) (rest := []) F9 G (kL_load l hst g (hk_EE 232 229) F n S 0 p1 p2 p3 231 r1 (by decide +kernel) (by decide +kernel) er1) qW_167 ⟨rfl, rfl, (Nat.le_of_ble_eq_true rfl), (Nat.le_of_ble_eq_true rfl)⟩ rfl hl.1 rfl (Nat.le_of_ble_eq_true rfl) ⟨by omega, by omega⟩ dL_law_530 (fun n H locs G => ?_)
  refine lv_istore (lv' := [(5, .int r1.1), (0, .ref b), (1, .ref (g.1 + 0)), (2, .ref (g.1 + 221)), (3, .ref (g.1 + 231)), (4, .int i)]) hx hb dL_law_533  hl (by decide) rfl (fun ls hl => ?_)
  refine lv_aload_n hx hb dL_law_535 rfl (lv_at hl 3 rfl) ?_
  refine lv_aload_n hx hb dL_law_536 rfl (lv_at hl 1 rfl) ?_
  refine lv_iload hx hb dL_law_537 (lv_at hl 5 rfl) ?_
  refine lv_iconst (v := 1) hx hb dL_law_539 (by decide) ?_
  refine lv_iadd hx hb dL_law_540 ?_
  refine va_sld hx hb hC.2.2.1 hC.2.2.2.1 hC.2.2.2.2 G.2.1 (hi 1 (by decide)) dL_law_541 ?_
  rw [hp1]
  refine lv_aload_n hx hb dL_law_542 rfl (lv_at hl 1 rfl) ?_
  refine lv_iload hx hb dL_law_543 (lv_at hl 5 rfl) ?_
  refine lv_iconst (v := 2) hx hb dL_law_545 (by decide) ?_
  refine lv_iadd hx hb dL_law_546 ?_
  refine va_sld hx hb hC.2.2.1 hC.2.2.2.1 hC.2.2.2.2 G.2.1 (hi 2 (by decide)) dL_law_547 ?_
  rw [hp2]
  refine lv_aload_n hx hb dL_law_548 rfl (lv_at hl 1 rfl) ?_
  refine lv_iload hx hb dL_law_549 (lv_at hl 5 rfl) ?_
  refine lv_iconst (v := 3) hx hb dL_law_551 (by decide) ?_
  refine lv_iadd hx hb dL_law_552 ?_
  refine va_sld hx hb hC.2.2.1 hC.2.2.2.1 hC.2.2.2.2 G.2.1 (hi 3 (by decide)) dL_law_553 ?_
  rw [hp3]
  obtain ⟨r2, er2, hsp⟩ := hk_b hsp
  refine hk_callVi (As := [.int p1, .int p2, .int p3]) (rest := []) F9 G (by decide +kernel) hkc_9 rfl (kX12_load l g (hk_EE 232 229) F n r1.2 221 p1 p2 p3 r2 (by decide +kernel) er2) qv_RL_170 ⟨rfl, rfl, (Nat.le_of_ble_eq_true rfl), (Nat.le_of_ble_eq_true rfl)⟩ rfl hl.1 rfl (Nat.le_of_ble_eq_true rfl) ⟨by omega, by omega⟩ dL_law_554 (fun H locs G => ?_)
  refine lv_istore (lv' := [(6, .int r2.1), (5, .int r1.1), (0, .ref b), (1, .ref (g.1 + 0)), (2, .ref (g.1 + 221)), (3, .ref (g.1 + 231)), (4, .int i)]) hx hb dL_law_557  hl (by decide) rfl (fun ls hl => ?_)
  refine lv_aload_n hx hb dL_law_559 rfl (lv_at hl 4 rfl) ?_
  obtain ⟨r3, er3, hsp⟩ := hk_b hsp
  refine hk_callVi (As := []) (rest := []) F9 G (by decide +kernel) hkc_9 rfl (kX12_thrown l g (hk_EE 232 229) F n r2.2 221 r3 (by decide +kernel) er3) qv_RL_157 ⟨rfl, rfl, (Nat.le_of_ble_eq_true rfl), (Nat.le_of_ble_eq_true rfl)⟩ rfl hl.1 rfl (Nat.le_of_ble_eq_true rfl) ⟨by omega, by omega⟩ dL_law_560 (fun H locs G => ?_)
  refine lv_iload hx hb dL_law_563 (lv_at hl 1 rfl) ?_
  refine lv_icmp_eq (tgt := 570) hx hb dL_law_565 (by decide) (fun c4 => ?_) (fun c4 => ?_)
  · have hsp := hk_t c4 hsp
    refine lv_iload hx hb dL_law_570 (lv_at hl 1 rfl) ?_
    refine lv_if_ne (tgt := 587) hx hb dL_law_572 (by decide) (fun c5 => ?_) (fun c5 => ?_)
    · have hsp := hk_t c5 hsp
      refine lv_goto (tgt := 3152) hx hb dL_law_587 (by decide) ?_
      obtain rfl := hk_s hsp
      exact W.widen (by omega) (by omega) (kk n H locs ls G (lv_sub hl [2, 3, 4, 5, 6] rfl))
    · have hsp := hk_g c5 hsp
      refine lv_aload_n hx hb dL_law_575 rfl (lv_at hl 5 rfl) ?_
      refine lv_iconst (v := 0) hx hb dL_law_576 (by decide) ?_
      obtain ⟨q6, hsp⟩ := hk_k hsp
      refine hk_lald (j := 0) F9 G (by decide +kernel) rfl q6 (by decide) dL_law_577 ?_
      refine lv_iload hx hb dL_law_578 (lv_at hl 0 rfl) ?_
      refine lv_i2l (v := (r2.1 : Int32).toInt64) hx hb dL_law_580 rfl ?_
      refine W.lcmp hx hb dL_law_581 ?_
      refine lv_if_eq (tgt := 587) hx hb dL_law_582 (by decide) (fun c7 => ?_) (fun c7 => ?_)
      · have hsp := hk_t c7 hsp
        refine lv_goto (tgt := 3152) hx hb dL_law_587 (by decide) ?_
        obtain rfl := hk_s hsp
        exact W.widen (by omega) (by omega) (kk n H locs ls G (lv_sub hl [2, 3, 4, 5, 6] rfl))
      · have hsp := hk_f c7 hsp
        exact nomatch hsp
  · have hsp := hk_f c4 hsp
    exact nomatch hsp
def mop_5 (F : Nat) (S : hk_S) (p1 p2 p3 p4 p5 : Int32) : Option hk_S :=
(mL_setFan (hk_EE 232 229) F S 0 p1 p2 231).bind (fun r1 => (mX12_setFan (hk_EE 232 229) F r1.2 221 p1 p2).bind (fun r2 => (mX12_thrown (hk_EE 232 229) F r2.2 221).bind (fun r3 => if r3.1 = r1.1 then (if ¬ r1.1 = 0 then (some r3.2) else (if hk_ok 0 ((hk_EE 232 229).2.2.1 231) then (if (lg_cmp ((r3.2 231 0).toInt64) ((r2.1 : Int32).toInt64)) = 0 then (some r3.2) else (none)) else none)) else (none))))
set_option maxHeartbeats 4000000 in
set_option maxRecDepth 100000 in
theorem kop_5 (hst : l.stackTraces = false) (hC : hk_LC p s m meth c b L xs g) (F : Nat) {n : Nat} {S : hk_S} {H : Heap} {locs : List Loc} {ls : Array Slot} {cells slots : Nat} {i : Int32} (hi : ∀ k : Nat, k < 6 → vp_in (i + nI k) L) (hf : cells + 8 ≤ room_1.cells ∧ slots + 48 ≤ room_1.slots) (G : hk_GG g (hk_EE 232 229) S n s H locs) (hl : lv_has ls 9 [(0, .ref b), (1, .ref (g.1 + 0)), (2, .ref (g.1 + 221)), (3, .ref (g.1 + 231)), (4, .int i)]) (o : hk_S) (hsp : mop_5 F S (xs (i + 1).toNatClampNeg) (xs (i + 2).toNatClampNeg) (xs (i + 3).toNatClampNeg) (xs (i + 4).toNatClampNeg) (xs (i + 5).toNatClampNeg) = some o) (kk : ∀ (n1 : Nat) (H1 : Heap) (locs1 : List Loc) (ls1 : Array Slot), hk_GG g (hk_EE 232 229) o n1 s H1 locs1 → lv_has ls1 9 [(0, .ref b), (1, .ref (g.1 + 0)), (2, .ref (g.1 + 221)), (3, .ref (g.1 + 231)), (4, .int i)] → W p l e room_1 s m #[Value.ref b] below meth c H1 locs1 (cells + 8) (slots + 48) Q (F0 m 3152 ls1 [])) : W p l e room_1 s m #[Value.ref b] below meth c H locs cells slots Q (F0 m 590 ls []) := by
  have hfc := hf.1
  have hfs := hf.2
  have F9 := hC.1
  have hx := F9.1
  have hb := F9.2.1
  generalize hp1 : xs (i + 1).toNatClampNeg = p1 at hsp
  generalize hp2 : xs (i + 2).toNatClampNeg = p2 at hsp
  generalize hp3 : xs (i + 3).toNatClampNeg = p3 at hsp
  generalize hp4 : xs (i + 4).toNatClampNeg = p4 at hsp
  generalize hp5 : xs (i + 5).toNatClampNeg = p5 at hsp
  unfold mop_5 at hsp
  refine lv_aload_n hx hb dL_law_590 rfl (lv_at hl 1 rfl) ?_
  refine lv_aload_n hx hb dL_law_591 rfl (lv_at hl 0 rfl) ?_
  refine lv_iload hx hb dL_law_592 (lv_at hl 4 rfl) ?_
  refine lv_iconst (v := 1) hx hb dL_law_594 (by decide) ?_
  refine lv_iadd hx hb dL_law_595 ?_
  refine va_sld hx hb hC.2.2.1 hC.2.2.2.1 hC.2.2.2.2 G.2.1 (hi 1 (by decide)) dL_law_596 ?_
  rw [hp1]
  refine lv_aload_n hx hb dL_law_597 rfl (lv_at hl 0 rfl) ?_
  refine lv_iload hx hb dL_law_598 (lv_at hl 4 rfl) ?_
  refine lv_iconst (v := 2) hx hb dL_law_600 (by decide) ?_
  refine lv_iadd hx hb dL_law_601 ?_
  refine va_sld hx hb hC.2.2.1 hC.2.2.2.1 hC.2.2.2.2 G.2.1 (hi 2 (by decide)) dL_law_602 ?_
  rw [hp2]
  refine lv_aload_n hx hb dL_law_603 rfl (lv_at hl 3 rfl) ?_
  obtain ⟨r1, er1, hsp⟩ := hk_b hsp
  refine hk_callW (As := [.ref (g.1 + 0), .int p1, .int p2, .ref (g.1 + 231)]) (rest := []) F9 G (kL_setFan l hst g (hk_EE 232 229) F n S 0 p1 p2 231 r1 (by decide +kernel) (by decide +kernel) er1) qW_171 ⟨rfl, rfl, (Nat.le_of_ble_eq_true rfl), (Nat.le_of_ble_eq_true rfl)⟩ rfl hl.1 rfl (Nat.le_of_ble_eq_true rfl) ⟨by omega, by omega⟩ dL_law_604 (fun n H locs G => ?_)
  refine lv_istore (lv' := [(5, .int r1.1), (0, .ref b), (1, .ref (g.1 + 0)), (2, .ref (g.1 + 221)), (3, .ref (g.1 + 231)), (4, .int i)]) hx hb dL_law_607  hl (by decide) rfl (fun ls hl => ?_)
  refine lv_aload_n hx hb dL_law_609 rfl (lv_at hl 3 rfl) ?_
  refine lv_aload_n hx hb dL_law_610 rfl (lv_at hl 1 rfl) ?_
  refine lv_iload hx hb dL_law_611 (lv_at hl 5 rfl) ?_
  refine lv_iconst (v := 1) hx hb dL_law_613 (by decide) ?_
  refine lv_iadd hx hb dL_law_614 ?_
  refine va_sld hx hb hC.2.2.1 hC.2.2.2.1 hC.2.2.2.2 G.2.1 (hi 1 (by decide)) dL_law_615 ?_
  rw [hp1]
  refine lv_aload_n hx hb dL_law_616 rfl (lv_at hl 1 rfl) ?_
  refine lv_iload hx hb dL_law_617 (lv_at hl 5 rfl) ?_
  refine lv_iconst (v := 2) hx hb dL_law_619 (by decide) ?_
  refine lv_iadd hx hb dL_law_620 ?_
  refine va_sld hx hb hC.2.2.1 hC.2.2.2.1 hC.2.2.2.2 G.2.1 (hi 2 (by decide)) dL_law_621 ?_
  rw [hp2]
  obtain ⟨r2, er2, hsp⟩ := hk_b hsp
  refine hk_callVi (As := [.int p1, .int p2]) (rest := []) F9 G (by decide +kernel) hkc_9 rfl (kX12_setFan l g (hk_EE 232 229) F n r1.2 221 p1 p2 r2 (by decide +kernel) er2) qv_RL_174 ⟨rfl, rfl, (Nat.le_of_ble_eq_true rfl), (Nat.le_of_ble_eq_true rfl)⟩ rfl hl.1 rfl (Nat.le_of_ble_eq_true rfl) ⟨by omega, by omega⟩ dL_law_622 (fun H locs G => ?_)
  refine lv_istore (lv' := [(6, .int r2.1), (5, .int r1.1), (0, .ref b), (1, .ref (g.1 + 0)), (2, .ref (g.1 + 221)), (3, .ref (g.1 + 231)), (4, .int i)]) hx hb dL_law_625  hl (by decide) rfl (fun ls hl => ?_)
  refine lv_aload_n hx hb dL_law_627 rfl (lv_at hl 4 rfl) ?_
  obtain ⟨r3, er3, hsp⟩ := hk_b hsp
  refine hk_callVi (As := []) (rest := []) F9 G (by decide +kernel) hkc_9 rfl (kX12_thrown l g (hk_EE 232 229) F n r2.2 221 r3 (by decide +kernel) er3) qv_RL_157 ⟨rfl, rfl, (Nat.le_of_ble_eq_true rfl), (Nat.le_of_ble_eq_true rfl)⟩ rfl hl.1 rfl (Nat.le_of_ble_eq_true rfl) ⟨by omega, by omega⟩ dL_law_628 (fun H locs G => ?_)
  refine lv_iload hx hb dL_law_631 (lv_at hl 1 rfl) ?_
  refine lv_icmp_eq (tgt := 638) hx hb dL_law_633 (by decide) (fun c4 => ?_) (fun c4 => ?_)
  · have hsp := hk_t c4 hsp
    refine lv_iload hx hb dL_law_638 (lv_at hl 1 rfl) ?_
    refine lv_if_ne (tgt := 655) hx hb dL_law_640 (by decide) (fun c5 => ?_) (fun c5 => ?_)
    · have hsp := hk_t c5 hsp
      refine lv_goto (tgt := 3152) hx hb dL_law_655 (by decide) ?_
      obtain rfl := hk_s hsp
      exact W.widen (by omega) (by omega) (kk n H locs ls G (lv_sub hl [2, 3, 4, 5, 6] rfl))
    · have hsp := hk_g c5 hsp
      refine lv_aload_n hx hb dL_law_643 rfl (lv_at hl 5 rfl) ?_
      refine lv_iconst (v := 0) hx hb dL_law_644 (by decide) ?_
      obtain ⟨q6, hsp⟩ := hk_k hsp
      refine hk_lald (j := 0) F9 G (by decide +kernel) rfl q6 (by decide) dL_law_645 ?_
      refine lv_iload hx hb dL_law_646 (lv_at hl 0 rfl) ?_
      refine lv_i2l (v := (r2.1 : Int32).toInt64) hx hb dL_law_648 rfl ?_
      refine W.lcmp hx hb dL_law_649 ?_
      refine lv_if_eq (tgt := 655) hx hb dL_law_650 (by decide) (fun c7 => ?_) (fun c7 => ?_)
      · have hsp := hk_t c7 hsp
        refine lv_goto (tgt := 3152) hx hb dL_law_655 (by decide) ?_
        obtain rfl := hk_s hsp
        exact W.widen (by omega) (by omega) (kk n H locs ls G (lv_sub hl [2, 3, 4, 5, 6] rfl))
      · have hsp := hk_f c7 hsp
        exact nomatch hsp
  · have hsp := hk_f c4 hsp
    exact nomatch hsp
def mop_6 (F : Nat) (S : hk_S) (p1 p2 p3 p4 p5 : Int32) : Option hk_S :=
(mL_reverse (hk_EE 232 229) F S 0 p1 231).bind (fun r1 => (mX12_reverse (hk_EE 232 229) F r1.2 221 p1).bind (fun r2 => (mX12_thrown (hk_EE 232 229) F r2.2 221).bind (fun r3 => if r3.1 = r1.1 then (if ¬ r1.1 = 0 then (some r3.2) else (if hk_ok 0 ((hk_EE 232 229).2.2.1 231) then (if r2.1 = 0 then (if (lg_cmp ((r3.2 231 0).toInt64) 0) = 0 then (some r3.2) else (none)) else (if (lg_cmp ((r3.2 231 0).toInt64) 1) = 0 then (some r3.2) else (none))) else none)) else (none))))
set_option maxHeartbeats 4000000 in
set_option maxRecDepth 100000 in
theorem kop_6 (hst : l.stackTraces = false) (hC : hk_LC p s m meth c b L xs g) (F : Nat) {n : Nat} {S : hk_S} {H : Heap} {locs : List Loc} {ls : Array Slot} {cells slots : Nat} {i : Int32} (hi : ∀ k : Nat, k < 6 → vp_in (i + nI k) L) (hf : cells + 8 ≤ room_1.cells ∧ slots + 48 ≤ room_1.slots) (G : hk_GG g (hk_EE 232 229) S n s H locs) (hl : lv_has ls 9 [(0, .ref b), (1, .ref (g.1 + 0)), (2, .ref (g.1 + 221)), (3, .ref (g.1 + 231)), (4, .int i)]) (o : hk_S) (hsp : mop_6 F S (xs (i + 1).toNatClampNeg) (xs (i + 2).toNatClampNeg) (xs (i + 3).toNatClampNeg) (xs (i + 4).toNatClampNeg) (xs (i + 5).toNatClampNeg) = some o) (kk : ∀ (n1 : Nat) (H1 : Heap) (locs1 : List Loc) (ls1 : Array Slot), hk_GG g (hk_EE 232 229) o n1 s H1 locs1 → lv_has ls1 9 [(0, .ref b), (1, .ref (g.1 + 0)), (2, .ref (g.1 + 221)), (3, .ref (g.1 + 231)), (4, .int i)] → W p l e room_1 s m #[Value.ref b] below meth c H1 locs1 (cells + 8) (slots + 48) Q (F0 m 3152 ls1 [])) : W p l e room_1 s m #[Value.ref b] below meth c H locs cells slots Q (F0 m 658 ls []) := by
  have hfc := hf.1
  have hfs := hf.2
  have F9 := hC.1
  have hx := F9.1
  have hb := F9.2.1
  generalize hp1 : xs (i + 1).toNatClampNeg = p1 at hsp
  generalize hp2 : xs (i + 2).toNatClampNeg = p2 at hsp
  generalize hp3 : xs (i + 3).toNatClampNeg = p3 at hsp
  generalize hp4 : xs (i + 4).toNatClampNeg = p4 at hsp
  generalize hp5 : xs (i + 5).toNatClampNeg = p5 at hsp
  unfold mop_6 at hsp
  refine lv_aload_n hx hb dL_law_658 rfl (lv_at hl 1 rfl) ?_
  refine lv_aload_n hx hb dL_law_659 rfl (lv_at hl 0 rfl) ?_
  refine lv_iload hx hb dL_law_660 (lv_at hl 4 rfl) ?_
  refine lv_iconst (v := 1) hx hb dL_law_662 (by decide) ?_
  refine lv_iadd hx hb dL_law_663 ?_
  refine va_sld hx hb hC.2.2.1 hC.2.2.2.1 hC.2.2.2.2 G.2.1 (hi 1 (by decide)) dL_law_664 ?_
  rw [hp1]
  refine lv_aload_n hx hb dL_law_665 rfl (lv_at hl 3 rfl) ?_
  obtain ⟨r1, er1, hsp⟩ := hk_b hsp
  refine hk_callW (As := [.ref (g.1 + 0), .int p1, .ref (g.1 + 231)]) (rest := []) F9 G (kL_reverse l hst g (hk_EE 232 229) F n S 0 p1 231 r1 (by decide +kernel) (by decide +kernel) er1) qW_175 ⟨rfl, rfl, (Nat.le_of_ble_eq_true rfl), (Nat.le_of_ble_eq_true rfl)⟩ rfl hl.1 rfl (Nat.le_of_ble_eq_true rfl) ⟨by omega, by omega⟩ dL_law_666 (fun n H locs G => ?_)
  refine lv_istore (lv' := [(5, .int r1.1), (0, .ref b), (1, .ref (g.1 + 0)), (2, .ref (g.1 + 221)), (3, .ref (g.1 + 231)), (4, .int i)]) hx hb dL_law_669  hl (by decide) rfl (fun ls hl => ?_)
  refine lv_aload_n hx hb dL_law_671 rfl (lv_at hl 3 rfl) ?_
  refine lv_aload_n hx hb dL_law_672 rfl (lv_at hl 1 rfl) ?_
  refine lv_iload hx hb dL_law_673 (lv_at hl 5 rfl) ?_
  refine lv_iconst (v := 1) hx hb dL_law_675 (by decide) ?_
  refine lv_iadd hx hb dL_law_676 ?_
  refine va_sld hx hb hC.2.2.1 hC.2.2.2.1 hC.2.2.2.2 G.2.1 (hi 1 (by decide)) dL_law_677 ?_
  rw [hp1]
  obtain ⟨r2, er2, hsp⟩ := hk_b hsp
  refine hk_callVi (As := [.int p1]) (rest := []) F9 G (by decide +kernel) hkc_9 rfl (kX12_reverse l g (hk_EE 232 229) F n r1.2 221 p1 r2 (by decide +kernel) er2) qv_RL_177 ⟨rfl, rfl, (Nat.le_of_ble_eq_true rfl), (Nat.le_of_ble_eq_true rfl)⟩ rfl hl.1 rfl (Nat.le_of_ble_eq_true rfl) ⟨by omega, by omega⟩ dL_law_678 (fun H locs G => ?_)
  refine lv_istore (lv' := [(6, .int r2.1), (5, .int r1.1), (0, .ref b), (1, .ref (g.1 + 0)), (2, .ref (g.1 + 221)), (3, .ref (g.1 + 231)), (4, .int i)]) hx hb dL_law_681  hl (by decide) rfl (fun ls hl => ?_)
  refine lv_aload_n hx hb dL_law_683 rfl (lv_at hl 4 rfl) ?_
  obtain ⟨r3, er3, hsp⟩ := hk_b hsp
  refine hk_callVi (As := []) (rest := []) F9 G (by decide +kernel) hkc_9 rfl (kX12_thrown l g (hk_EE 232 229) F n r2.2 221 r3 (by decide +kernel) er3) qv_RL_157 ⟨rfl, rfl, (Nat.le_of_ble_eq_true rfl), (Nat.le_of_ble_eq_true rfl)⟩ rfl hl.1 rfl (Nat.le_of_ble_eq_true rfl) ⟨by omega, by omega⟩ dL_law_684 (fun H locs G => ?_)
  refine lv_iload hx hb dL_law_687 (lv_at hl 1 rfl) ?_
  refine lv_icmp_eq (tgt := 694) hx hb dL_law_689 (by decide) (fun c4 => ?_) (fun c4 => ?_)
  · have hsp := hk_t c4 hsp
    refine lv_iload hx hb dL_law_694 (lv_at hl 1 rfl) ?_
    refine lv_if_ne (tgt := 718) hx hb dL_law_696 (by decide) (fun c5 => ?_) (fun c5 => ?_)
    · have hsp := hk_t c5 hsp
      refine lv_goto (tgt := 3152) hx hb dL_law_718 (by decide) ?_
      obtain rfl := hk_s hsp
      exact W.widen (by omega) (by omega) (kk n H locs ls G (lv_sub hl [2, 3, 4, 5, 6] rfl))
    · have hsp := hk_g c5 hsp
      refine lv_aload_n hx hb dL_law_699 rfl (lv_at hl 5 rfl) ?_
      refine lv_iconst (v := 0) hx hb dL_law_700 (by decide) ?_
      obtain ⟨q6, hsp⟩ := hk_k hsp
      refine hk_lald (j := 0) F9 G (by decide +kernel) rfl q6 (by decide) dL_law_701 ?_
      refine lv_iload hx hb dL_law_702 (lv_at hl 0 rfl) ?_
      refine lv_if_eq (tgt := 711) hx hb dL_law_704 (by decide) (fun c7 => ?_) (fun c7 => ?_)
      · have hsp := hk_t c7 hsp
        refine lv_lconst (v := 0) hx hb dL_law_711 (by decide) ?_
        refine W.lcmp hx hb dL_law_712 ?_
        refine lv_if_eq (tgt := 718) hx hb dL_law_713 (by decide) (fun c8 => ?_) (fun c8 => ?_)
        · have hsp := hk_t c8 hsp
          refine lv_goto (tgt := 3152) hx hb dL_law_718 (by decide) ?_
          obtain rfl := hk_s hsp
          exact W.widen (by omega) (by omega) (kk n H locs ls G (lv_sub hl [2, 3, 4, 5, 6] rfl))
        · have hsp := hk_f c8 hsp
          exact nomatch hsp
      · have hsp := hk_f c7 hsp
        refine lv_lconst (v := 1) hx hb dL_law_707 (by decide) ?_
        refine lv_goto (tgt := 712) hx hb dL_law_708 (by decide) ?_
        refine W.lcmp hx hb dL_law_712 ?_
        refine lv_if_eq (tgt := 718) hx hb dL_law_713 (by decide) (fun c9 => ?_) (fun c9 => ?_)
        · have hsp := hk_t c9 hsp
          refine lv_goto (tgt := 3152) hx hb dL_law_718 (by decide) ?_
          obtain rfl := hk_s hsp
          exact W.widen (by omega) (by omega) (kk n H locs ls G (lv_sub hl [2, 3, 4, 5, 6] rfl))
        · have hsp := hk_f c9 hsp
          exact nomatch hsp
  · have hsp := hk_f c4 hsp
    exact nomatch hsp
def mop_7 (F : Nat) (S : hk_S) (p1 p2 p3 p4 p5 : Int32) : Option hk_S :=
(mL_setHeat (hk_EE 232 229) F S 0 p1 231).bind (fun r1 => (mX12_setHeat (hk_EE 232 229) F r1.2 221 p1).bind (fun r2 => (mX12_thrown (hk_EE 232 229) F r2.2 221).bind (fun r3 => if r3.1 = r1.1 then (if ¬ r1.1 = 0 then (some r3.2) else (if hk_ok 0 ((hk_EE 232 229).2.2.1 231) then (if (lg_cmp ((r3.2 231 0).toInt64) ((r2.1 : Int32).toInt64)) = 0 then (some r3.2) else (none)) else none)) else (none))))
set_option maxHeartbeats 4000000 in
set_option maxRecDepth 100000 in
theorem kop_7 (hst : l.stackTraces = false) (hC : hk_LC p s m meth c b L xs g) (F : Nat) {n : Nat} {S : hk_S} {H : Heap} {locs : List Loc} {ls : Array Slot} {cells slots : Nat} {i : Int32} (hi : ∀ k : Nat, k < 6 → vp_in (i + nI k) L) (hf : cells + 8 ≤ room_1.cells ∧ slots + 48 ≤ room_1.slots) (G : hk_GG g (hk_EE 232 229) S n s H locs) (hl : lv_has ls 9 [(0, .ref b), (1, .ref (g.1 + 0)), (2, .ref (g.1 + 221)), (3, .ref (g.1 + 231)), (4, .int i)]) (o : hk_S) (hsp : mop_7 F S (xs (i + 1).toNatClampNeg) (xs (i + 2).toNatClampNeg) (xs (i + 3).toNatClampNeg) (xs (i + 4).toNatClampNeg) (xs (i + 5).toNatClampNeg) = some o) (kk : ∀ (n1 : Nat) (H1 : Heap) (locs1 : List Loc) (ls1 : Array Slot), hk_GG g (hk_EE 232 229) o n1 s H1 locs1 → lv_has ls1 9 [(0, .ref b), (1, .ref (g.1 + 0)), (2, .ref (g.1 + 221)), (3, .ref (g.1 + 231)), (4, .int i)] → W p l e room_1 s m #[Value.ref b] below meth c H1 locs1 (cells + 8) (slots + 48) Q (F0 m 3152 ls1 [])) : W p l e room_1 s m #[Value.ref b] below meth c H locs cells slots Q (F0 m 721 ls []) := by
  have hfc := hf.1
  have hfs := hf.2
  have F9 := hC.1
  have hx := F9.1
  have hb := F9.2.1
  generalize hp1 : xs (i + 1).toNatClampNeg = p1 at hsp
  generalize hp2 : xs (i + 2).toNatClampNeg = p2 at hsp
  generalize hp3 : xs (i + 3).toNatClampNeg = p3 at hsp
  generalize hp4 : xs (i + 4).toNatClampNeg = p4 at hsp
  generalize hp5 : xs (i + 5).toNatClampNeg = p5 at hsp
  unfold mop_7 at hsp
  refine lv_aload_n hx hb dL_law_721 rfl (lv_at hl 1 rfl) ?_
  refine lv_aload_n hx hb dL_law_722 rfl (lv_at hl 0 rfl) ?_
  refine lv_iload hx hb dL_law_723 (lv_at hl 4 rfl) ?_
  refine lv_iconst (v := 1) hx hb dL_law_725 (by decide) ?_
  refine lv_iadd hx hb dL_law_726 ?_
  refine va_sld hx hb hC.2.2.1 hC.2.2.2.1 hC.2.2.2.2 G.2.1 (hi 1 (by decide)) dL_law_727 ?_
  rw [hp1]
  refine lv_aload_n hx hb dL_law_728 rfl (lv_at hl 3 rfl) ?_
  obtain ⟨r1, er1, hsp⟩ := hk_b hsp
  refine hk_callW (As := [.ref (g.1 + 0), .int p1, .ref (g.1 + 231)]) (rest := []) F9 G (kL_setHeat l hst g (hk_EE 232 229) F n S 0 p1 231 r1 (by decide +kernel) (by decide +kernel) er1) qW_178 ⟨rfl, rfl, (Nat.le_of_ble_eq_true rfl), (Nat.le_of_ble_eq_true rfl)⟩ rfl hl.1 rfl (Nat.le_of_ble_eq_true rfl) ⟨by omega, by omega⟩ dL_law_729 (fun n H locs G => ?_)
  refine lv_istore (lv' := [(5, .int r1.1), (0, .ref b), (1, .ref (g.1 + 0)), (2, .ref (g.1 + 221)), (3, .ref (g.1 + 231)), (4, .int i)]) hx hb dL_law_732  hl (by decide) rfl (fun ls hl => ?_)
  refine lv_aload_n hx hb dL_law_734 rfl (lv_at hl 3 rfl) ?_
  refine lv_aload_n hx hb dL_law_735 rfl (lv_at hl 1 rfl) ?_
  refine lv_iload hx hb dL_law_736 (lv_at hl 5 rfl) ?_
  refine lv_iconst (v := 1) hx hb dL_law_738 (by decide) ?_
  refine lv_iadd hx hb dL_law_739 ?_
  refine va_sld hx hb hC.2.2.1 hC.2.2.2.1 hC.2.2.2.2 G.2.1 (hi 1 (by decide)) dL_law_740 ?_
  rw [hp1]
  obtain ⟨r2, er2, hsp⟩ := hk_b hsp
  refine hk_callVi (As := [.int p1]) (rest := []) F9 G (by decide +kernel) hkc_9 rfl (kX12_setHeat l g (hk_EE 232 229) F n r1.2 221 p1 r2 (by decide +kernel) er2) qv_RL_180 ⟨rfl, rfl, (Nat.le_of_ble_eq_true rfl), (Nat.le_of_ble_eq_true rfl)⟩ rfl hl.1 rfl (Nat.le_of_ble_eq_true rfl) ⟨by omega, by omega⟩ dL_law_741 (fun H locs G => ?_)
  refine lv_istore (lv' := [(6, .int r2.1), (5, .int r1.1), (0, .ref b), (1, .ref (g.1 + 0)), (2, .ref (g.1 + 221)), (3, .ref (g.1 + 231)), (4, .int i)]) hx hb dL_law_744  hl (by decide) rfl (fun ls hl => ?_)
  refine lv_aload_n hx hb dL_law_746 rfl (lv_at hl 4 rfl) ?_
  obtain ⟨r3, er3, hsp⟩ := hk_b hsp
  refine hk_callVi (As := []) (rest := []) F9 G (by decide +kernel) hkc_9 rfl (kX12_thrown l g (hk_EE 232 229) F n r2.2 221 r3 (by decide +kernel) er3) qv_RL_157 ⟨rfl, rfl, (Nat.le_of_ble_eq_true rfl), (Nat.le_of_ble_eq_true rfl)⟩ rfl hl.1 rfl (Nat.le_of_ble_eq_true rfl) ⟨by omega, by omega⟩ dL_law_747 (fun H locs G => ?_)
  refine lv_iload hx hb dL_law_750 (lv_at hl 1 rfl) ?_
  refine lv_icmp_eq (tgt := 757) hx hb dL_law_752 (by decide) (fun c4 => ?_) (fun c4 => ?_)
  · have hsp := hk_t c4 hsp
    refine lv_iload hx hb dL_law_757 (lv_at hl 1 rfl) ?_
    refine lv_if_ne (tgt := 774) hx hb dL_law_759 (by decide) (fun c5 => ?_) (fun c5 => ?_)
    · have hsp := hk_t c5 hsp
      refine lv_goto (tgt := 3152) hx hb dL_law_774 (by decide) ?_
      obtain rfl := hk_s hsp
      exact W.widen (by omega) (by omega) (kk n H locs ls G (lv_sub hl [2, 3, 4, 5, 6] rfl))
    · have hsp := hk_g c5 hsp
      refine lv_aload_n hx hb dL_law_762 rfl (lv_at hl 5 rfl) ?_
      refine lv_iconst (v := 0) hx hb dL_law_763 (by decide) ?_
      obtain ⟨q6, hsp⟩ := hk_k hsp
      refine hk_lald (j := 0) F9 G (by decide +kernel) rfl q6 (by decide) dL_law_764 ?_
      refine lv_iload hx hb dL_law_765 (lv_at hl 0 rfl) ?_
      refine lv_i2l (v := (r2.1 : Int32).toInt64) hx hb dL_law_767 rfl ?_
      refine W.lcmp hx hb dL_law_768 ?_
      refine lv_if_eq (tgt := 774) hx hb dL_law_769 (by decide) (fun c7 => ?_) (fun c7 => ?_)
      · have hsp := hk_t c7 hsp
        refine lv_goto (tgt := 3152) hx hb dL_law_774 (by decide) ?_
        obtain rfl := hk_s hsp
        exact W.widen (by omega) (by omega) (kk n H locs ls G (lv_sub hl [2, 3, 4, 5, 6] rfl))
      · have hsp := hk_f c7 hsp
        exact nomatch hsp
  · have hsp := hk_f c4 hsp
    exact nomatch hsp
def mop_8 (F : Nat) (S : hk_S) (p1 p2 p3 p4 p5 : Int32) : Option hk_S :=
(mL_setHumidity (hk_EE 232 229) F S 0 p1 231).bind (fun r1 => (mX12_setHumidity (hk_EE 232 229) F r1.2 221 p1).bind (fun r2 => (mX12_thrown (hk_EE 232 229) F r2.2 221).bind (fun r3 => if r3.1 = r1.1 then (if ¬ r1.1 = 0 then (some r3.2) else (if hk_ok 0 ((hk_EE 232 229).2.2.1 231) then (if (lg_cmp ((r3.2 231 0).toInt64) ((r2.1 : Int32).toInt64)) = 0 then (some r3.2) else (none)) else none)) else (none))))
set_option maxHeartbeats 4000000 in
set_option maxRecDepth 100000 in
theorem kop_8 (hst : l.stackTraces = false) (hC : hk_LC p s m meth c b L xs g) (F : Nat) {n : Nat} {S : hk_S} {H : Heap} {locs : List Loc} {ls : Array Slot} {cells slots : Nat} {i : Int32} (hi : ∀ k : Nat, k < 6 → vp_in (i + nI k) L) (hf : cells + 8 ≤ room_1.cells ∧ slots + 48 ≤ room_1.slots) (G : hk_GG g (hk_EE 232 229) S n s H locs) (hl : lv_has ls 9 [(0, .ref b), (1, .ref (g.1 + 0)), (2, .ref (g.1 + 221)), (3, .ref (g.1 + 231)), (4, .int i)]) (o : hk_S) (hsp : mop_8 F S (xs (i + 1).toNatClampNeg) (xs (i + 2).toNatClampNeg) (xs (i + 3).toNatClampNeg) (xs (i + 4).toNatClampNeg) (xs (i + 5).toNatClampNeg) = some o) (kk : ∀ (n1 : Nat) (H1 : Heap) (locs1 : List Loc) (ls1 : Array Slot), hk_GG g (hk_EE 232 229) o n1 s H1 locs1 → lv_has ls1 9 [(0, .ref b), (1, .ref (g.1 + 0)), (2, .ref (g.1 + 221)), (3, .ref (g.1 + 231)), (4, .int i)] → W p l e room_1 s m #[Value.ref b] below meth c H1 locs1 (cells + 8) (slots + 48) Q (F0 m 3152 ls1 [])) : W p l e room_1 s m #[Value.ref b] below meth c H locs cells slots Q (F0 m 777 ls []) := by
  have hfc := hf.1
  have hfs := hf.2
  have F9 := hC.1
  have hx := F9.1
  have hb := F9.2.1
  generalize hp1 : xs (i + 1).toNatClampNeg = p1 at hsp
  generalize hp2 : xs (i + 2).toNatClampNeg = p2 at hsp
  generalize hp3 : xs (i + 3).toNatClampNeg = p3 at hsp
  generalize hp4 : xs (i + 4).toNatClampNeg = p4 at hsp
  generalize hp5 : xs (i + 5).toNatClampNeg = p5 at hsp
  unfold mop_8 at hsp
  refine lv_aload_n hx hb dL_law_777 rfl (lv_at hl 1 rfl) ?_
  refine lv_aload_n hx hb dL_law_778 rfl (lv_at hl 0 rfl) ?_
  refine lv_iload hx hb dL_law_779 (lv_at hl 4 rfl) ?_
  refine lv_iconst (v := 1) hx hb dL_law_781 (by decide) ?_
  refine lv_iadd hx hb dL_law_782 ?_
  refine va_sld hx hb hC.2.2.1 hC.2.2.2.1 hC.2.2.2.2 G.2.1 (hi 1 (by decide)) dL_law_783 ?_
  rw [hp1]
  refine lv_aload_n hx hb dL_law_784 rfl (lv_at hl 3 rfl) ?_
  obtain ⟨r1, er1, hsp⟩ := hk_b hsp
  refine hk_callW (As := [.ref (g.1 + 0), .int p1, .ref (g.1 + 231)]) (rest := []) F9 G (kL_setHumidity l hst g (hk_EE 232 229) F n S 0 p1 231 r1 (by decide +kernel) (by decide +kernel) er1) qW_181 ⟨rfl, rfl, (Nat.le_of_ble_eq_true rfl), (Nat.le_of_ble_eq_true rfl)⟩ rfl hl.1 rfl (Nat.le_of_ble_eq_true rfl) ⟨by omega, by omega⟩ dL_law_785 (fun n H locs G => ?_)
  refine lv_istore (lv' := [(5, .int r1.1), (0, .ref b), (1, .ref (g.1 + 0)), (2, .ref (g.1 + 221)), (3, .ref (g.1 + 231)), (4, .int i)]) hx hb dL_law_788  hl (by decide) rfl (fun ls hl => ?_)
  refine lv_aload_n hx hb dL_law_790 rfl (lv_at hl 3 rfl) ?_
  refine lv_aload_n hx hb dL_law_791 rfl (lv_at hl 1 rfl) ?_
  refine lv_iload hx hb dL_law_792 (lv_at hl 5 rfl) ?_
  refine lv_iconst (v := 1) hx hb dL_law_794 (by decide) ?_
  refine lv_iadd hx hb dL_law_795 ?_
  refine va_sld hx hb hC.2.2.1 hC.2.2.2.1 hC.2.2.2.2 G.2.1 (hi 1 (by decide)) dL_law_796 ?_
  rw [hp1]
  obtain ⟨r2, er2, hsp⟩ := hk_b hsp
  refine hk_callVi (As := [.int p1]) (rest := []) F9 G (by decide +kernel) hkc_9 rfl (kX12_setHumidity l g (hk_EE 232 229) F n r1.2 221 p1 r2 (by decide +kernel) er2) qv_RL_183 ⟨rfl, rfl, (Nat.le_of_ble_eq_true rfl), (Nat.le_of_ble_eq_true rfl)⟩ rfl hl.1 rfl (Nat.le_of_ble_eq_true rfl) ⟨by omega, by omega⟩ dL_law_797 (fun H locs G => ?_)
  refine lv_istore (lv' := [(6, .int r2.1), (5, .int r1.1), (0, .ref b), (1, .ref (g.1 + 0)), (2, .ref (g.1 + 221)), (3, .ref (g.1 + 231)), (4, .int i)]) hx hb dL_law_800  hl (by decide) rfl (fun ls hl => ?_)
  refine lv_aload_n hx hb dL_law_802 rfl (lv_at hl 4 rfl) ?_
  obtain ⟨r3, er3, hsp⟩ := hk_b hsp
  refine hk_callVi (As := []) (rest := []) F9 G (by decide +kernel) hkc_9 rfl (kX12_thrown l g (hk_EE 232 229) F n r2.2 221 r3 (by decide +kernel) er3) qv_RL_157 ⟨rfl, rfl, (Nat.le_of_ble_eq_true rfl), (Nat.le_of_ble_eq_true rfl)⟩ rfl hl.1 rfl (Nat.le_of_ble_eq_true rfl) ⟨by omega, by omega⟩ dL_law_803 (fun H locs G => ?_)
  refine lv_iload hx hb dL_law_806 (lv_at hl 1 rfl) ?_
  refine lv_icmp_eq (tgt := 813) hx hb dL_law_808 (by decide) (fun c4 => ?_) (fun c4 => ?_)
  · have hsp := hk_t c4 hsp
    refine lv_iload hx hb dL_law_813 (lv_at hl 1 rfl) ?_
    refine lv_if_ne (tgt := 830) hx hb dL_law_815 (by decide) (fun c5 => ?_) (fun c5 => ?_)
    · have hsp := hk_t c5 hsp
      refine lv_goto (tgt := 3152) hx hb dL_law_830 (by decide) ?_
      obtain rfl := hk_s hsp
      exact W.widen (by omega) (by omega) (kk n H locs ls G (lv_sub hl [2, 3, 4, 5, 6] rfl))
    · have hsp := hk_g c5 hsp
      refine lv_aload_n hx hb dL_law_818 rfl (lv_at hl 5 rfl) ?_
      refine lv_iconst (v := 0) hx hb dL_law_819 (by decide) ?_
      obtain ⟨q6, hsp⟩ := hk_k hsp
      refine hk_lald (j := 0) F9 G (by decide +kernel) rfl q6 (by decide) dL_law_820 ?_
      refine lv_iload hx hb dL_law_821 (lv_at hl 0 rfl) ?_
      refine lv_i2l (v := (r2.1 : Int32).toInt64) hx hb dL_law_823 rfl ?_
      refine W.lcmp hx hb dL_law_824 ?_
      refine lv_if_eq (tgt := 830) hx hb dL_law_825 (by decide) (fun c7 => ?_) (fun c7 => ?_)
      · have hsp := hk_t c7 hsp
        refine lv_goto (tgt := 3152) hx hb dL_law_830 (by decide) ?_
        obtain rfl := hk_s hsp
        exact W.widen (by omega) (by omega) (kk n H locs ls G (lv_sub hl [2, 3, 4, 5, 6] rfl))
      · have hsp := hk_f c7 hsp
        exact nomatch hsp
  · have hsp := hk_f c4 hsp
    exact nomatch hsp
def mop_9 (F : Nat) (S : hk_S) (p1 p2 p3 p4 p5 : Int32) : Option hk_S :=
(mL_announceMonsoon (hk_EE 232 229) F S 0 p1 231).bind (fun r1 => (mX12_announceMonsoon (hk_EE 232 229) F r1.2 221 p1).bind (fun r2 => (mX12_thrown (hk_EE 232 229) F r2.2 221).bind (fun r3 => if r3.1 = r1.1 then (if ¬ r1.1 = 0 then (some r3.2) else (if hk_ok 0 ((hk_EE 232 229).2.2.1 231) then (if (lg_cmp ((r3.2 231 0).toInt64) ((r2.1 : Int32).toInt64)) = 0 then (some r3.2) else (none)) else none)) else (none))))
set_option maxHeartbeats 4000000 in
set_option maxRecDepth 100000 in
theorem kop_9 (hst : l.stackTraces = false) (hC : hk_LC p s m meth c b L xs g) (F : Nat) {n : Nat} {S : hk_S} {H : Heap} {locs : List Loc} {ls : Array Slot} {cells slots : Nat} {i : Int32} (hi : ∀ k : Nat, k < 6 → vp_in (i + nI k) L) (hf : cells + 8 ≤ room_1.cells ∧ slots + 48 ≤ room_1.slots) (G : hk_GG g (hk_EE 232 229) S n s H locs) (hl : lv_has ls 9 [(0, .ref b), (1, .ref (g.1 + 0)), (2, .ref (g.1 + 221)), (3, .ref (g.1 + 231)), (4, .int i)]) (o : hk_S) (hsp : mop_9 F S (xs (i + 1).toNatClampNeg) (xs (i + 2).toNatClampNeg) (xs (i + 3).toNatClampNeg) (xs (i + 4).toNatClampNeg) (xs (i + 5).toNatClampNeg) = some o) (kk : ∀ (n1 : Nat) (H1 : Heap) (locs1 : List Loc) (ls1 : Array Slot), hk_GG g (hk_EE 232 229) o n1 s H1 locs1 → lv_has ls1 9 [(0, .ref b), (1, .ref (g.1 + 0)), (2, .ref (g.1 + 221)), (3, .ref (g.1 + 231)), (4, .int i)] → W p l e room_1 s m #[Value.ref b] below meth c H1 locs1 (cells + 8) (slots + 48) Q (F0 m 3152 ls1 [])) : W p l e room_1 s m #[Value.ref b] below meth c H locs cells slots Q (F0 m 833 ls []) := by
  have hfc := hf.1
  have hfs := hf.2
  have F9 := hC.1
  have hx := F9.1
  have hb := F9.2.1
  generalize hp1 : xs (i + 1).toNatClampNeg = p1 at hsp
  generalize hp2 : xs (i + 2).toNatClampNeg = p2 at hsp
  generalize hp3 : xs (i + 3).toNatClampNeg = p3 at hsp
  generalize hp4 : xs (i + 4).toNatClampNeg = p4 at hsp
  generalize hp5 : xs (i + 5).toNatClampNeg = p5 at hsp
  unfold mop_9 at hsp
  refine lv_aload_n hx hb dL_law_833 rfl (lv_at hl 1 rfl) ?_
  refine lv_aload_n hx hb dL_law_834 rfl (lv_at hl 0 rfl) ?_
  refine lv_iload hx hb dL_law_835 (lv_at hl 4 rfl) ?_
  refine lv_iconst (v := 1) hx hb dL_law_837 (by decide) ?_
  refine lv_iadd hx hb dL_law_838 ?_
  refine va_sld hx hb hC.2.2.1 hC.2.2.2.1 hC.2.2.2.2 G.2.1 (hi 1 (by decide)) dL_law_839 ?_
  rw [hp1]
  refine lv_aload_n hx hb dL_law_840 rfl (lv_at hl 3 rfl) ?_
  obtain ⟨r1, er1, hsp⟩ := hk_b hsp
  refine hk_callW (As := [.ref (g.1 + 0), .int p1, .ref (g.1 + 231)]) (rest := []) F9 G (kL_announceMonsoon l hst g (hk_EE 232 229) F n S 0 p1 231 r1 (by decide +kernel) (by decide +kernel) er1) qW_184 ⟨rfl, rfl, (Nat.le_of_ble_eq_true rfl), (Nat.le_of_ble_eq_true rfl)⟩ rfl hl.1 rfl (Nat.le_of_ble_eq_true rfl) ⟨by omega, by omega⟩ dL_law_841 (fun n H locs G => ?_)
  refine lv_istore (lv' := [(5, .int r1.1), (0, .ref b), (1, .ref (g.1 + 0)), (2, .ref (g.1 + 221)), (3, .ref (g.1 + 231)), (4, .int i)]) hx hb dL_law_844  hl (by decide) rfl (fun ls hl => ?_)
  refine lv_aload_n hx hb dL_law_846 rfl (lv_at hl 3 rfl) ?_
  refine lv_aload_n hx hb dL_law_847 rfl (lv_at hl 1 rfl) ?_
  refine lv_iload hx hb dL_law_848 (lv_at hl 5 rfl) ?_
  refine lv_iconst (v := 1) hx hb dL_law_850 (by decide) ?_
  refine lv_iadd hx hb dL_law_851 ?_
  refine va_sld hx hb hC.2.2.1 hC.2.2.2.1 hC.2.2.2.2 G.2.1 (hi 1 (by decide)) dL_law_852 ?_
  rw [hp1]
  obtain ⟨r2, er2, hsp⟩ := hk_b hsp
  refine hk_callVi (As := [.int p1]) (rest := []) F9 G (by decide +kernel) hkc_9 rfl (kX12_announceMonsoon l g (hk_EE 232 229) F n r1.2 221 p1 r2 (by decide +kernel) er2) qv_RL_186 ⟨rfl, rfl, (Nat.le_of_ble_eq_true rfl), (Nat.le_of_ble_eq_true rfl)⟩ rfl hl.1 rfl (Nat.le_of_ble_eq_true rfl) ⟨by omega, by omega⟩ dL_law_853 (fun H locs G => ?_)
  refine lv_istore (lv' := [(6, .int r2.1), (5, .int r1.1), (0, .ref b), (1, .ref (g.1 + 0)), (2, .ref (g.1 + 221)), (3, .ref (g.1 + 231)), (4, .int i)]) hx hb dL_law_856  hl (by decide) rfl (fun ls hl => ?_)
  refine lv_aload_n hx hb dL_law_858 rfl (lv_at hl 4 rfl) ?_
  obtain ⟨r3, er3, hsp⟩ := hk_b hsp
  refine hk_callVi (As := []) (rest := []) F9 G (by decide +kernel) hkc_9 rfl (kX12_thrown l g (hk_EE 232 229) F n r2.2 221 r3 (by decide +kernel) er3) qv_RL_157 ⟨rfl, rfl, (Nat.le_of_ble_eq_true rfl), (Nat.le_of_ble_eq_true rfl)⟩ rfl hl.1 rfl (Nat.le_of_ble_eq_true rfl) ⟨by omega, by omega⟩ dL_law_859 (fun H locs G => ?_)
  refine lv_iload hx hb dL_law_862 (lv_at hl 1 rfl) ?_
  refine lv_icmp_eq (tgt := 869) hx hb dL_law_864 (by decide) (fun c4 => ?_) (fun c4 => ?_)
  · have hsp := hk_t c4 hsp
    refine lv_iload hx hb dL_law_869 (lv_at hl 1 rfl) ?_
    refine lv_if_ne (tgt := 886) hx hb dL_law_871 (by decide) (fun c5 => ?_) (fun c5 => ?_)
    · have hsp := hk_t c5 hsp
      refine lv_goto (tgt := 3152) hx hb dL_law_886 (by decide) ?_
      obtain rfl := hk_s hsp
      exact W.widen (by omega) (by omega) (kk n H locs ls G (lv_sub hl [2, 3, 4, 5, 6] rfl))
    · have hsp := hk_g c5 hsp
      refine lv_aload_n hx hb dL_law_874 rfl (lv_at hl 5 rfl) ?_
      refine lv_iconst (v := 0) hx hb dL_law_875 (by decide) ?_
      obtain ⟨q6, hsp⟩ := hk_k hsp
      refine hk_lald (j := 0) F9 G (by decide +kernel) rfl q6 (by decide) dL_law_876 ?_
      refine lv_iload hx hb dL_law_877 (lv_at hl 0 rfl) ?_
      refine lv_i2l (v := (r2.1 : Int32).toInt64) hx hb dL_law_879 rfl ?_
      refine W.lcmp hx hb dL_law_880 ?_
      refine lv_if_eq (tgt := 886) hx hb dL_law_881 (by decide) (fun c7 => ?_) (fun c7 => ?_)
      · have hsp := hk_t c7 hsp
        refine lv_goto (tgt := 3152) hx hb dL_law_886 (by decide) ?_
        obtain rfl := hk_s hsp
        exact W.widen (by omega) (by omega) (kk n H locs ls G (lv_sub hl [2, 3, 4, 5, 6] rfl))
      · have hsp := hk_f c7 hsp
        exact nomatch hsp
  · have hsp := hk_f c4 hsp
    exact nomatch hsp
def mop_10 (F : Nat) (S : hk_S) (p1 p2 p3 p4 p5 : Int32) : Option hk_S :=
(mL_setTarget (hk_EE 232 229) F S 0 p1 p2 231).bind (fun r1 => (mX12_setTarget (hk_EE 232 229) F r1.2 221 p1 p2).bind (fun r2 => (mX12_thrown (hk_EE 232 229) F r2.2 221).bind (fun r3 => if r3.1 = r1.1 then (if ¬ r1.1 = 0 then (some r3.2) else (if hk_ok 0 ((hk_EE 232 229).2.2.1 231) then (if (lg_cmp ((r3.2 231 0).toInt64) ((r2.1 : Int32).toInt64)) = 0 then (some r3.2) else (none)) else none)) else (none))))
set_option maxHeartbeats 4000000 in
set_option maxRecDepth 100000 in
theorem kop_10 (hst : l.stackTraces = false) (hC : hk_LC p s m meth c b L xs g) (F : Nat) {n : Nat} {S : hk_S} {H : Heap} {locs : List Loc} {ls : Array Slot} {cells slots : Nat} {i : Int32} (hi : ∀ k : Nat, k < 6 → vp_in (i + nI k) L) (hf : cells + 8 ≤ room_1.cells ∧ slots + 48 ≤ room_1.slots) (G : hk_GG g (hk_EE 232 229) S n s H locs) (hl : lv_has ls 9 [(0, .ref b), (1, .ref (g.1 + 0)), (2, .ref (g.1 + 221)), (3, .ref (g.1 + 231)), (4, .int i)]) (o : hk_S) (hsp : mop_10 F S (xs (i + 1).toNatClampNeg) (xs (i + 2).toNatClampNeg) (xs (i + 3).toNatClampNeg) (xs (i + 4).toNatClampNeg) (xs (i + 5).toNatClampNeg) = some o) (kk : ∀ (n1 : Nat) (H1 : Heap) (locs1 : List Loc) (ls1 : Array Slot), hk_GG g (hk_EE 232 229) o n1 s H1 locs1 → lv_has ls1 9 [(0, .ref b), (1, .ref (g.1 + 0)), (2, .ref (g.1 + 221)), (3, .ref (g.1 + 231)), (4, .int i)] → W p l e room_1 s m #[Value.ref b] below meth c H1 locs1 (cells + 8) (slots + 48) Q (F0 m 3152 ls1 [])) : W p l e room_1 s m #[Value.ref b] below meth c H locs cells slots Q (F0 m 889 ls []) := by
  have hfc := hf.1
  have hfs := hf.2
  have F9 := hC.1
  have hx := F9.1
  have hb := F9.2.1
  generalize hp1 : xs (i + 1).toNatClampNeg = p1 at hsp
  generalize hp2 : xs (i + 2).toNatClampNeg = p2 at hsp
  generalize hp3 : xs (i + 3).toNatClampNeg = p3 at hsp
  generalize hp4 : xs (i + 4).toNatClampNeg = p4 at hsp
  generalize hp5 : xs (i + 5).toNatClampNeg = p5 at hsp
  unfold mop_10 at hsp
  refine lv_aload_n hx hb dL_law_889 rfl (lv_at hl 1 rfl) ?_
  refine lv_aload_n hx hb dL_law_890 rfl (lv_at hl 0 rfl) ?_
  refine lv_iload hx hb dL_law_891 (lv_at hl 4 rfl) ?_
  refine lv_iconst (v := 1) hx hb dL_law_893 (by decide) ?_
  refine lv_iadd hx hb dL_law_894 ?_
  refine va_sld hx hb hC.2.2.1 hC.2.2.2.1 hC.2.2.2.2 G.2.1 (hi 1 (by decide)) dL_law_895 ?_
  rw [hp1]
  refine lv_aload_n hx hb dL_law_896 rfl (lv_at hl 0 rfl) ?_
  refine lv_iload hx hb dL_law_897 (lv_at hl 4 rfl) ?_
  refine lv_iconst (v := 2) hx hb dL_law_899 (by decide) ?_
  refine lv_iadd hx hb dL_law_900 ?_
  refine va_sld hx hb hC.2.2.1 hC.2.2.2.1 hC.2.2.2.2 G.2.1 (hi 2 (by decide)) dL_law_901 ?_
  rw [hp2]
  refine lv_aload_n hx hb dL_law_902 rfl (lv_at hl 3 rfl) ?_
  obtain ⟨r1, er1, hsp⟩ := hk_b hsp
  refine hk_callW (As := [.ref (g.1 + 0), .int p1, .int p2, .ref (g.1 + 231)]) (rest := []) F9 G (kL_setTarget l hst g (hk_EE 232 229) F n S 0 p1 p2 231 r1 (by decide +kernel) (by decide +kernel) er1) qW_187 ⟨rfl, rfl, (Nat.le_of_ble_eq_true rfl), (Nat.le_of_ble_eq_true rfl)⟩ rfl hl.1 rfl (Nat.le_of_ble_eq_true rfl) ⟨by omega, by omega⟩ dL_law_903 (fun n H locs G => ?_)
  refine lv_istore (lv' := [(5, .int r1.1), (0, .ref b), (1, .ref (g.1 + 0)), (2, .ref (g.1 + 221)), (3, .ref (g.1 + 231)), (4, .int i)]) hx hb dL_law_906  hl (by decide) rfl (fun ls hl => ?_)
  refine lv_aload_n hx hb dL_law_908 rfl (lv_at hl 3 rfl) ?_
  refine lv_aload_n hx hb dL_law_909 rfl (lv_at hl 1 rfl) ?_
  refine lv_iload hx hb dL_law_910 (lv_at hl 5 rfl) ?_
  refine lv_iconst (v := 1) hx hb dL_law_912 (by decide) ?_
  refine lv_iadd hx hb dL_law_913 ?_
  refine va_sld hx hb hC.2.2.1 hC.2.2.2.1 hC.2.2.2.2 G.2.1 (hi 1 (by decide)) dL_law_914 ?_
  rw [hp1]
  refine lv_aload_n hx hb dL_law_915 rfl (lv_at hl 1 rfl) ?_
  refine lv_iload hx hb dL_law_916 (lv_at hl 5 rfl) ?_
  refine lv_iconst (v := 2) hx hb dL_law_918 (by decide) ?_
  refine lv_iadd hx hb dL_law_919 ?_
  refine va_sld hx hb hC.2.2.1 hC.2.2.2.1 hC.2.2.2.2 G.2.1 (hi 2 (by decide)) dL_law_920 ?_
  rw [hp2]
  obtain ⟨r2, er2, hsp⟩ := hk_b hsp
  refine hk_callVi (As := [.int p1, .int p2]) (rest := []) F9 G (by decide +kernel) hkc_9 rfl (kX12_setTarget l g (hk_EE 232 229) F n r1.2 221 p1 p2 r2 (by decide +kernel) er2) qv_RL_189 ⟨rfl, rfl, (Nat.le_of_ble_eq_true rfl), (Nat.le_of_ble_eq_true rfl)⟩ rfl hl.1 rfl (Nat.le_of_ble_eq_true rfl) ⟨by omega, by omega⟩ dL_law_921 (fun H locs G => ?_)
  refine lv_istore (lv' := [(6, .int r2.1), (5, .int r1.1), (0, .ref b), (1, .ref (g.1 + 0)), (2, .ref (g.1 + 221)), (3, .ref (g.1 + 231)), (4, .int i)]) hx hb dL_law_924  hl (by decide) rfl (fun ls hl => ?_)
  refine lv_aload_n hx hb dL_law_926 rfl (lv_at hl 4 rfl) ?_
  obtain ⟨r3, er3, hsp⟩ := hk_b hsp
  refine hk_callVi (As := []) (rest := []) F9 G (by decide +kernel) hkc_9 rfl (kX12_thrown l g (hk_EE 232 229) F n r2.2 221 r3 (by decide +kernel) er3) qv_RL_157 ⟨rfl, rfl, (Nat.le_of_ble_eq_true rfl), (Nat.le_of_ble_eq_true rfl)⟩ rfl hl.1 rfl (Nat.le_of_ble_eq_true rfl) ⟨by omega, by omega⟩ dL_law_927 (fun H locs G => ?_)
  refine lv_iload hx hb dL_law_930 (lv_at hl 1 rfl) ?_
  refine lv_icmp_eq (tgt := 937) hx hb dL_law_932 (by decide) (fun c4 => ?_) (fun c4 => ?_)
  · have hsp := hk_t c4 hsp
    refine lv_iload hx hb dL_law_937 (lv_at hl 1 rfl) ?_
    refine lv_if_ne (tgt := 954) hx hb dL_law_939 (by decide) (fun c5 => ?_) (fun c5 => ?_)
    · have hsp := hk_t c5 hsp
      refine lv_goto (tgt := 3152) hx hb dL_law_954 (by decide) ?_
      obtain rfl := hk_s hsp
      exact W.widen (by omega) (by omega) (kk n H locs ls G (lv_sub hl [2, 3, 4, 5, 6] rfl))
    · have hsp := hk_g c5 hsp
      refine lv_aload_n hx hb dL_law_942 rfl (lv_at hl 5 rfl) ?_
      refine lv_iconst (v := 0) hx hb dL_law_943 (by decide) ?_
      obtain ⟨q6, hsp⟩ := hk_k hsp
      refine hk_lald (j := 0) F9 G (by decide +kernel) rfl q6 (by decide) dL_law_944 ?_
      refine lv_iload hx hb dL_law_945 (lv_at hl 0 rfl) ?_
      refine lv_i2l (v := (r2.1 : Int32).toInt64) hx hb dL_law_947 rfl ?_
      refine W.lcmp hx hb dL_law_948 ?_
      refine lv_if_eq (tgt := 954) hx hb dL_law_949 (by decide) (fun c7 => ?_) (fun c7 => ?_)
      · have hsp := hk_t c7 hsp
        refine lv_goto (tgt := 3152) hx hb dL_law_954 (by decide) ?_
        obtain rfl := hk_s hsp
        exact W.widen (by omega) (by omega) (kk n H locs ls G (lv_sub hl [2, 3, 4, 5, 6] rfl))
      · have hsp := hk_f c7 hsp
        exact nomatch hsp
  · have hsp := hk_f c4 hsp
    exact nomatch hsp
def mop_11 (F : Nat) (S : hk_S) (p1 p2 p3 p4 p5 : Int32) : Option hk_S :=
(mL_turnLeaf (hk_EE 232 229) F S 0 p1 231).bind (fun r1 => (mX12_turnLeaf (hk_EE 232 229) F r1.2 221 p1).bind (fun r2 => (mX12_thrown (hk_EE 232 229) F r2.2 221).bind (fun r3 => if r3.1 = r1.1 then (if ¬ r1.1 = 0 then (some r3.2) else (if hk_ok 0 ((hk_EE 232 229).2.2.1 231) then (if (lg_cmp ((r3.2 231 0).toInt64) ((r2.1 : Int32).toInt64)) = 0 then (some r3.2) else (none)) else none)) else (none))))
set_option maxHeartbeats 4000000 in
set_option maxRecDepth 100000 in
theorem kop_11 (hst : l.stackTraces = false) (hC : hk_LC p s m meth c b L xs g) (F : Nat) {n : Nat} {S : hk_S} {H : Heap} {locs : List Loc} {ls : Array Slot} {cells slots : Nat} {i : Int32} (hi : ∀ k : Nat, k < 6 → vp_in (i + nI k) L) (hf : cells + 8 ≤ room_1.cells ∧ slots + 48 ≤ room_1.slots) (G : hk_GG g (hk_EE 232 229) S n s H locs) (hl : lv_has ls 9 [(0, .ref b), (1, .ref (g.1 + 0)), (2, .ref (g.1 + 221)), (3, .ref (g.1 + 231)), (4, .int i)]) (o : hk_S) (hsp : mop_11 F S (xs (i + 1).toNatClampNeg) (xs (i + 2).toNatClampNeg) (xs (i + 3).toNatClampNeg) (xs (i + 4).toNatClampNeg) (xs (i + 5).toNatClampNeg) = some o) (kk : ∀ (n1 : Nat) (H1 : Heap) (locs1 : List Loc) (ls1 : Array Slot), hk_GG g (hk_EE 232 229) o n1 s H1 locs1 → lv_has ls1 9 [(0, .ref b), (1, .ref (g.1 + 0)), (2, .ref (g.1 + 221)), (3, .ref (g.1 + 231)), (4, .int i)] → W p l e room_1 s m #[Value.ref b] below meth c H1 locs1 (cells + 8) (slots + 48) Q (F0 m 3152 ls1 [])) : W p l e room_1 s m #[Value.ref b] below meth c H locs cells slots Q (F0 m 957 ls []) := by
  have hfc := hf.1
  have hfs := hf.2
  have F9 := hC.1
  have hx := F9.1
  have hb := F9.2.1
  generalize hp1 : xs (i + 1).toNatClampNeg = p1 at hsp
  generalize hp2 : xs (i + 2).toNatClampNeg = p2 at hsp
  generalize hp3 : xs (i + 3).toNatClampNeg = p3 at hsp
  generalize hp4 : xs (i + 4).toNatClampNeg = p4 at hsp
  generalize hp5 : xs (i + 5).toNatClampNeg = p5 at hsp
  unfold mop_11 at hsp
  refine lv_aload_n hx hb dL_law_957 rfl (lv_at hl 1 rfl) ?_
  refine lv_aload_n hx hb dL_law_958 rfl (lv_at hl 0 rfl) ?_
  refine lv_iload hx hb dL_law_959 (lv_at hl 4 rfl) ?_
  refine lv_iconst (v := 1) hx hb dL_law_961 (by decide) ?_
  refine lv_iadd hx hb dL_law_962 ?_
  refine va_sld hx hb hC.2.2.1 hC.2.2.2.1 hC.2.2.2.2 G.2.1 (hi 1 (by decide)) dL_law_963 ?_
  rw [hp1]
  refine lv_aload_n hx hb dL_law_964 rfl (lv_at hl 3 rfl) ?_
  obtain ⟨r1, er1, hsp⟩ := hk_b hsp
  refine hk_callW (As := [.ref (g.1 + 0), .int p1, .ref (g.1 + 231)]) (rest := []) F9 G (kL_turnLeaf l hst g (hk_EE 232 229) F n S 0 p1 231 r1 (by decide +kernel) (by decide +kernel) er1) qW_190 ⟨rfl, rfl, (Nat.le_of_ble_eq_true rfl), (Nat.le_of_ble_eq_true rfl)⟩ rfl hl.1 rfl (Nat.le_of_ble_eq_true rfl) ⟨by omega, by omega⟩ dL_law_965 (fun n H locs G => ?_)
  refine lv_istore (lv' := [(5, .int r1.1), (0, .ref b), (1, .ref (g.1 + 0)), (2, .ref (g.1 + 221)), (3, .ref (g.1 + 231)), (4, .int i)]) hx hb dL_law_968  hl (by decide) rfl (fun ls hl => ?_)
  refine lv_aload_n hx hb dL_law_970 rfl (lv_at hl 3 rfl) ?_
  refine lv_aload_n hx hb dL_law_971 rfl (lv_at hl 1 rfl) ?_
  refine lv_iload hx hb dL_law_972 (lv_at hl 5 rfl) ?_
  refine lv_iconst (v := 1) hx hb dL_law_974 (by decide) ?_
  refine lv_iadd hx hb dL_law_975 ?_
  refine va_sld hx hb hC.2.2.1 hC.2.2.2.1 hC.2.2.2.2 G.2.1 (hi 1 (by decide)) dL_law_976 ?_
  rw [hp1]
  obtain ⟨r2, er2, hsp⟩ := hk_b hsp
  refine hk_callVi (As := [.int p1]) (rest := []) F9 G (by decide +kernel) hkc_9 rfl (kX12_turnLeaf l g (hk_EE 232 229) F n r1.2 221 p1 r2 (by decide +kernel) er2) qv_RL_192 ⟨rfl, rfl, (Nat.le_of_ble_eq_true rfl), (Nat.le_of_ble_eq_true rfl)⟩ rfl hl.1 rfl (Nat.le_of_ble_eq_true rfl) ⟨by omega, by omega⟩ dL_law_977 (fun H locs G => ?_)
  refine lv_istore (lv' := [(6, .int r2.1), (5, .int r1.1), (0, .ref b), (1, .ref (g.1 + 0)), (2, .ref (g.1 + 221)), (3, .ref (g.1 + 231)), (4, .int i)]) hx hb dL_law_980  hl (by decide) rfl (fun ls hl => ?_)
  refine lv_aload_n hx hb dL_law_982 rfl (lv_at hl 4 rfl) ?_
  obtain ⟨r3, er3, hsp⟩ := hk_b hsp
  refine hk_callVi (As := []) (rest := []) F9 G (by decide +kernel) hkc_9 rfl (kX12_thrown l g (hk_EE 232 229) F n r2.2 221 r3 (by decide +kernel) er3) qv_RL_157 ⟨rfl, rfl, (Nat.le_of_ble_eq_true rfl), (Nat.le_of_ble_eq_true rfl)⟩ rfl hl.1 rfl (Nat.le_of_ble_eq_true rfl) ⟨by omega, by omega⟩ dL_law_983 (fun H locs G => ?_)
  refine lv_iload hx hb dL_law_986 (lv_at hl 1 rfl) ?_
  refine lv_icmp_eq (tgt := 993) hx hb dL_law_988 (by decide) (fun c4 => ?_) (fun c4 => ?_)
  · have hsp := hk_t c4 hsp
    refine lv_iload hx hb dL_law_993 (lv_at hl 1 rfl) ?_
    refine lv_if_ne (tgt := 1010) hx hb dL_law_995 (by decide) (fun c5 => ?_) (fun c5 => ?_)
    · have hsp := hk_t c5 hsp
      refine lv_goto (tgt := 3152) hx hb dL_law_1010 (by decide) ?_
      obtain rfl := hk_s hsp
      exact W.widen (by omega) (by omega) (kk n H locs ls G (lv_sub hl [2, 3, 4, 5, 6] rfl))
    · have hsp := hk_g c5 hsp
      refine lv_aload_n hx hb dL_law_998 rfl (lv_at hl 5 rfl) ?_
      refine lv_iconst (v := 0) hx hb dL_law_999 (by decide) ?_
      obtain ⟨q6, hsp⟩ := hk_k hsp
      refine hk_lald (j := 0) F9 G (by decide +kernel) rfl q6 (by decide) dL_law_1000 ?_
      refine lv_iload hx hb dL_law_1001 (lv_at hl 0 rfl) ?_
      refine lv_i2l (v := (r2.1 : Int32).toInt64) hx hb dL_law_1003 rfl ?_
      refine W.lcmp hx hb dL_law_1004 ?_
      refine lv_if_eq (tgt := 1010) hx hb dL_law_1005 (by decide) (fun c7 => ?_) (fun c7 => ?_)
      · have hsp := hk_t c7 hsp
        refine lv_goto (tgt := 3152) hx hb dL_law_1010 (by decide) ?_
        obtain rfl := hk_s hsp
        exact W.widen (by omega) (by omega) (kk n H locs ls G (lv_sub hl [2, 3, 4, 5, 6] rfl))
      · have hsp := hk_f c7 hsp
        exact nomatch hsp
  · have hsp := hk_f c4 hsp
    exact nomatch hsp
def mop_12 (F : Nat) (S : hk_S) (p1 p2 p3 p4 p5 : Int32) : Option hk_S :=
(mL_discharge (hk_EE 232 229) F S 0 p1 231).bind (fun r1 => (mX12_discharge (hk_EE 232 229) F r1.2 221 p1).bind (fun r2 => (mX12_thrown (hk_EE 232 229) F r2.2 221).bind (fun r3 => if r3.1 = r1.1 then (if ¬ r1.1 = 0 then (some r3.2) else (if hk_ok 0 ((hk_EE 232 229).2.2.1 231) then (if (lg_cmp ((r3.2 231 0).toInt64) ((r2.1 : Int32).toInt64)) = 0 then (some r3.2) else (none)) else none)) else (none))))
set_option maxHeartbeats 4000000 in
set_option maxRecDepth 100000 in
theorem kop_12 (hst : l.stackTraces = false) (hC : hk_LC p s m meth c b L xs g) (F : Nat) {n : Nat} {S : hk_S} {H : Heap} {locs : List Loc} {ls : Array Slot} {cells slots : Nat} {i : Int32} (hi : ∀ k : Nat, k < 6 → vp_in (i + nI k) L) (hf : cells + 8 ≤ room_1.cells ∧ slots + 48 ≤ room_1.slots) (G : hk_GG g (hk_EE 232 229) S n s H locs) (hl : lv_has ls 9 [(0, .ref b), (1, .ref (g.1 + 0)), (2, .ref (g.1 + 221)), (3, .ref (g.1 + 231)), (4, .int i)]) (o : hk_S) (hsp : mop_12 F S (xs (i + 1).toNatClampNeg) (xs (i + 2).toNatClampNeg) (xs (i + 3).toNatClampNeg) (xs (i + 4).toNatClampNeg) (xs (i + 5).toNatClampNeg) = some o) (kk : ∀ (n1 : Nat) (H1 : Heap) (locs1 : List Loc) (ls1 : Array Slot), hk_GG g (hk_EE 232 229) o n1 s H1 locs1 → lv_has ls1 9 [(0, .ref b), (1, .ref (g.1 + 0)), (2, .ref (g.1 + 221)), (3, .ref (g.1 + 231)), (4, .int i)] → W p l e room_1 s m #[Value.ref b] below meth c H1 locs1 (cells + 8) (slots + 48) Q (F0 m 3152 ls1 [])) : W p l e room_1 s m #[Value.ref b] below meth c H locs cells slots Q (F0 m 1013 ls []) := by
  have hfc := hf.1
  have hfs := hf.2
  have F9 := hC.1
  have hx := F9.1
  have hb := F9.2.1
  generalize hp1 : xs (i + 1).toNatClampNeg = p1 at hsp
  generalize hp2 : xs (i + 2).toNatClampNeg = p2 at hsp
  generalize hp3 : xs (i + 3).toNatClampNeg = p3 at hsp
  generalize hp4 : xs (i + 4).toNatClampNeg = p4 at hsp
  generalize hp5 : xs (i + 5).toNatClampNeg = p5 at hsp
  unfold mop_12 at hsp
  refine lv_aload_n hx hb dL_law_1013 rfl (lv_at hl 1 rfl) ?_
  refine lv_aload_n hx hb dL_law_1014 rfl (lv_at hl 0 rfl) ?_
  refine lv_iload hx hb dL_law_1015 (lv_at hl 4 rfl) ?_
  refine lv_iconst (v := 1) hx hb dL_law_1017 (by decide) ?_
  refine lv_iadd hx hb dL_law_1018 ?_
  refine va_sld hx hb hC.2.2.1 hC.2.2.2.1 hC.2.2.2.2 G.2.1 (hi 1 (by decide)) dL_law_1019 ?_
  rw [hp1]
  refine lv_aload_n hx hb dL_law_1020 rfl (lv_at hl 3 rfl) ?_
  obtain ⟨r1, er1, hsp⟩ := hk_b hsp
  refine hk_callW (As := [.ref (g.1 + 0), .int p1, .ref (g.1 + 231)]) (rest := []) F9 G (kL_discharge l hst g (hk_EE 232 229) F n S 0 p1 231 r1 (by decide +kernel) (by decide +kernel) er1) qW_193 ⟨rfl, rfl, (Nat.le_of_ble_eq_true rfl), (Nat.le_of_ble_eq_true rfl)⟩ rfl hl.1 rfl (Nat.le_of_ble_eq_true rfl) ⟨by omega, by omega⟩ dL_law_1021 (fun n H locs G => ?_)
  refine lv_istore (lv' := [(5, .int r1.1), (0, .ref b), (1, .ref (g.1 + 0)), (2, .ref (g.1 + 221)), (3, .ref (g.1 + 231)), (4, .int i)]) hx hb dL_law_1024  hl (by decide) rfl (fun ls hl => ?_)
  refine lv_aload_n hx hb dL_law_1026 rfl (lv_at hl 3 rfl) ?_
  refine lv_aload_n hx hb dL_law_1027 rfl (lv_at hl 1 rfl) ?_
  refine lv_iload hx hb dL_law_1028 (lv_at hl 5 rfl) ?_
  refine lv_iconst (v := 1) hx hb dL_law_1030 (by decide) ?_
  refine lv_iadd hx hb dL_law_1031 ?_
  refine va_sld hx hb hC.2.2.1 hC.2.2.2.1 hC.2.2.2.2 G.2.1 (hi 1 (by decide)) dL_law_1032 ?_
  rw [hp1]
  obtain ⟨r2, er2, hsp⟩ := hk_b hsp
  refine hk_callVi (As := [.int p1]) (rest := []) F9 G (by decide +kernel) hkc_9 rfl (kX12_discharge l g (hk_EE 232 229) F n r1.2 221 p1 r2 (by decide +kernel) er2) qv_RL_195 ⟨rfl, rfl, (Nat.le_of_ble_eq_true rfl), (Nat.le_of_ble_eq_true rfl)⟩ rfl hl.1 rfl (Nat.le_of_ble_eq_true rfl) ⟨by omega, by omega⟩ dL_law_1033 (fun H locs G => ?_)
  refine lv_istore (lv' := [(6, .int r2.1), (5, .int r1.1), (0, .ref b), (1, .ref (g.1 + 0)), (2, .ref (g.1 + 221)), (3, .ref (g.1 + 231)), (4, .int i)]) hx hb dL_law_1036  hl (by decide) rfl (fun ls hl => ?_)
  refine lv_aload_n hx hb dL_law_1038 rfl (lv_at hl 4 rfl) ?_
  obtain ⟨r3, er3, hsp⟩ := hk_b hsp
  refine hk_callVi (As := []) (rest := []) F9 G (by decide +kernel) hkc_9 rfl (kX12_thrown l g (hk_EE 232 229) F n r2.2 221 r3 (by decide +kernel) er3) qv_RL_157 ⟨rfl, rfl, (Nat.le_of_ble_eq_true rfl), (Nat.le_of_ble_eq_true rfl)⟩ rfl hl.1 rfl (Nat.le_of_ble_eq_true rfl) ⟨by omega, by omega⟩ dL_law_1039 (fun H locs G => ?_)
  refine lv_iload hx hb dL_law_1042 (lv_at hl 1 rfl) ?_
  refine lv_icmp_eq (tgt := 1049) hx hb dL_law_1044 (by decide) (fun c4 => ?_) (fun c4 => ?_)
  · have hsp := hk_t c4 hsp
    refine lv_iload hx hb dL_law_1049 (lv_at hl 1 rfl) ?_
    refine lv_if_ne (tgt := 1066) hx hb dL_law_1051 (by decide) (fun c5 => ?_) (fun c5 => ?_)
    · have hsp := hk_t c5 hsp
      refine lv_goto (tgt := 3152) hx hb dL_law_1066 (by decide) ?_
      obtain rfl := hk_s hsp
      exact W.widen (by omega) (by omega) (kk n H locs ls G (lv_sub hl [2, 3, 4, 5, 6] rfl))
    · have hsp := hk_g c5 hsp
      refine lv_aload_n hx hb dL_law_1054 rfl (lv_at hl 5 rfl) ?_
      refine lv_iconst (v := 0) hx hb dL_law_1055 (by decide) ?_
      obtain ⟨q6, hsp⟩ := hk_k hsp
      refine hk_lald (j := 0) F9 G (by decide +kernel) rfl q6 (by decide) dL_law_1056 ?_
      refine lv_iload hx hb dL_law_1057 (lv_at hl 0 rfl) ?_
      refine lv_i2l (v := (r2.1 : Int32).toInt64) hx hb dL_law_1059 rfl ?_
      refine W.lcmp hx hb dL_law_1060 ?_
      refine lv_if_eq (tgt := 1066) hx hb dL_law_1061 (by decide) (fun c7 => ?_) (fun c7 => ?_)
      · have hsp := hk_t c7 hsp
        refine lv_goto (tgt := 3152) hx hb dL_law_1066 (by decide) ?_
        obtain rfl := hk_s hsp
        exact W.widen (by omega) (by omega) (kk n H locs ls G (lv_sub hl [2, 3, 4, 5, 6] rfl))
      · have hsp := hk_f c7 hsp
        exact nomatch hsp
  · have hsp := hk_f c4 hsp
    exact nomatch hsp
def mop_13 (F : Nat) (S : hk_S) (p1 p2 p3 p4 p5 : Int32) : Option hk_S :=
(mL_discard (hk_EE 232 229) F S 0 p1 231).bind (fun r1 => (mX12_discard (hk_EE 232 229) F r1.2 221 p1).bind (fun r2 => (mX12_thrown (hk_EE 232 229) F r2.2 221).bind (fun r3 => if r3.1 = r1.1 then (if ¬ r1.1 = 0 then (some r3.2) else (if hk_ok 0 ((hk_EE 232 229).2.2.1 231) then (if (lg_cmp ((r3.2 231 0).toInt64) ((r2.1 : Int32).toInt64)) = 0 then (some r3.2) else (none)) else none)) else (none))))
set_option maxHeartbeats 4000000 in
set_option maxRecDepth 100000 in
theorem kop_13 (hst : l.stackTraces = false) (hC : hk_LC p s m meth c b L xs g) (F : Nat) {n : Nat} {S : hk_S} {H : Heap} {locs : List Loc} {ls : Array Slot} {cells slots : Nat} {i : Int32} (hi : ∀ k : Nat, k < 6 → vp_in (i + nI k) L) (hf : cells + 8 ≤ room_1.cells ∧ slots + 48 ≤ room_1.slots) (G : hk_GG g (hk_EE 232 229) S n s H locs) (hl : lv_has ls 9 [(0, .ref b), (1, .ref (g.1 + 0)), (2, .ref (g.1 + 221)), (3, .ref (g.1 + 231)), (4, .int i)]) (o : hk_S) (hsp : mop_13 F S (xs (i + 1).toNatClampNeg) (xs (i + 2).toNatClampNeg) (xs (i + 3).toNatClampNeg) (xs (i + 4).toNatClampNeg) (xs (i + 5).toNatClampNeg) = some o) (kk : ∀ (n1 : Nat) (H1 : Heap) (locs1 : List Loc) (ls1 : Array Slot), hk_GG g (hk_EE 232 229) o n1 s H1 locs1 → lv_has ls1 9 [(0, .ref b), (1, .ref (g.1 + 0)), (2, .ref (g.1 + 221)), (3, .ref (g.1 + 231)), (4, .int i)] → W p l e room_1 s m #[Value.ref b] below meth c H1 locs1 (cells + 8) (slots + 48) Q (F0 m 3152 ls1 [])) : W p l e room_1 s m #[Value.ref b] below meth c H locs cells slots Q (F0 m 1069 ls []) := by
  have hfc := hf.1
  have hfs := hf.2
  have F9 := hC.1
  have hx := F9.1
  have hb := F9.2.1
  generalize hp1 : xs (i + 1).toNatClampNeg = p1 at hsp
  generalize hp2 : xs (i + 2).toNatClampNeg = p2 at hsp
  generalize hp3 : xs (i + 3).toNatClampNeg = p3 at hsp
  generalize hp4 : xs (i + 4).toNatClampNeg = p4 at hsp
  generalize hp5 : xs (i + 5).toNatClampNeg = p5 at hsp
  unfold mop_13 at hsp
  refine lv_aload_n hx hb dL_law_1069 rfl (lv_at hl 1 rfl) ?_
  refine lv_aload_n hx hb dL_law_1070 rfl (lv_at hl 0 rfl) ?_
  refine lv_iload hx hb dL_law_1071 (lv_at hl 4 rfl) ?_
  refine lv_iconst (v := 1) hx hb dL_law_1073 (by decide) ?_
  refine lv_iadd hx hb dL_law_1074 ?_
  refine va_sld hx hb hC.2.2.1 hC.2.2.2.1 hC.2.2.2.2 G.2.1 (hi 1 (by decide)) dL_law_1075 ?_
  rw [hp1]
  refine lv_aload_n hx hb dL_law_1076 rfl (lv_at hl 3 rfl) ?_
  obtain ⟨r1, er1, hsp⟩ := hk_b hsp
  refine hk_callW (As := [.ref (g.1 + 0), .int p1, .ref (g.1 + 231)]) (rest := []) F9 G (kL_discard l hst g (hk_EE 232 229) F n S 0 p1 231 r1 (by decide +kernel) (by decide +kernel) er1) qW_196 ⟨rfl, rfl, (Nat.le_of_ble_eq_true rfl), (Nat.le_of_ble_eq_true rfl)⟩ rfl hl.1 rfl (Nat.le_of_ble_eq_true rfl) ⟨by omega, by omega⟩ dL_law_1077 (fun n H locs G => ?_)
  refine lv_istore (lv' := [(5, .int r1.1), (0, .ref b), (1, .ref (g.1 + 0)), (2, .ref (g.1 + 221)), (3, .ref (g.1 + 231)), (4, .int i)]) hx hb dL_law_1080  hl (by decide) rfl (fun ls hl => ?_)
  refine lv_aload_n hx hb dL_law_1082 rfl (lv_at hl 3 rfl) ?_
  refine lv_aload_n hx hb dL_law_1083 rfl (lv_at hl 1 rfl) ?_
  refine lv_iload hx hb dL_law_1084 (lv_at hl 5 rfl) ?_
  refine lv_iconst (v := 1) hx hb dL_law_1086 (by decide) ?_
  refine lv_iadd hx hb dL_law_1087 ?_
  refine va_sld hx hb hC.2.2.1 hC.2.2.2.1 hC.2.2.2.2 G.2.1 (hi 1 (by decide)) dL_law_1088 ?_
  rw [hp1]
  obtain ⟨r2, er2, hsp⟩ := hk_b hsp
  refine hk_callVi (As := [.int p1]) (rest := []) F9 G (by decide +kernel) hkc_9 rfl (kX12_discard l g (hk_EE 232 229) F n r1.2 221 p1 r2 (by decide +kernel) er2) qv_RL_198 ⟨rfl, rfl, (Nat.le_of_ble_eq_true rfl), (Nat.le_of_ble_eq_true rfl)⟩ rfl hl.1 rfl (Nat.le_of_ble_eq_true rfl) ⟨by omega, by omega⟩ dL_law_1089 (fun H locs G => ?_)
  refine lv_istore (lv' := [(6, .int r2.1), (5, .int r1.1), (0, .ref b), (1, .ref (g.1 + 0)), (2, .ref (g.1 + 221)), (3, .ref (g.1 + 231)), (4, .int i)]) hx hb dL_law_1092  hl (by decide) rfl (fun ls hl => ?_)
  refine lv_aload_n hx hb dL_law_1094 rfl (lv_at hl 4 rfl) ?_
  obtain ⟨r3, er3, hsp⟩ := hk_b hsp
  refine hk_callVi (As := []) (rest := []) F9 G (by decide +kernel) hkc_9 rfl (kX12_thrown l g (hk_EE 232 229) F n r2.2 221 r3 (by decide +kernel) er3) qv_RL_157 ⟨rfl, rfl, (Nat.le_of_ble_eq_true rfl), (Nat.le_of_ble_eq_true rfl)⟩ rfl hl.1 rfl (Nat.le_of_ble_eq_true rfl) ⟨by omega, by omega⟩ dL_law_1095 (fun H locs G => ?_)
  refine lv_iload hx hb dL_law_1098 (lv_at hl 1 rfl) ?_
  refine lv_icmp_eq (tgt := 1105) hx hb dL_law_1100 (by decide) (fun c4 => ?_) (fun c4 => ?_)
  · have hsp := hk_t c4 hsp
    refine lv_iload hx hb dL_law_1105 (lv_at hl 1 rfl) ?_
    refine lv_if_ne (tgt := 1122) hx hb dL_law_1107 (by decide) (fun c5 => ?_) (fun c5 => ?_)
    · have hsp := hk_t c5 hsp
      refine lv_goto (tgt := 3152) hx hb dL_law_1122 (by decide) ?_
      obtain rfl := hk_s hsp
      exact W.widen (by omega) (by omega) (kk n H locs ls G (lv_sub hl [2, 3, 4, 5, 6] rfl))
    · have hsp := hk_g c5 hsp
      refine lv_aload_n hx hb dL_law_1110 rfl (lv_at hl 5 rfl) ?_
      refine lv_iconst (v := 0) hx hb dL_law_1111 (by decide) ?_
      obtain ⟨q6, hsp⟩ := hk_k hsp
      refine hk_lald (j := 0) F9 G (by decide +kernel) rfl q6 (by decide) dL_law_1112 ?_
      refine lv_iload hx hb dL_law_1113 (lv_at hl 0 rfl) ?_
      refine lv_i2l (v := (r2.1 : Int32).toInt64) hx hb dL_law_1115 rfl ?_
      refine W.lcmp hx hb dL_law_1116 ?_
      refine lv_if_eq (tgt := 1122) hx hb dL_law_1117 (by decide) (fun c7 => ?_) (fun c7 => ?_)
      · have hsp := hk_t c7 hsp
        refine lv_goto (tgt := 3152) hx hb dL_law_1122 (by decide) ?_
        obtain rfl := hk_s hsp
        exact W.widen (by omega) (by omega) (kk n H locs ls G (lv_sub hl [2, 3, 4, 5, 6] rfl))
      · have hsp := hk_f c7 hsp
        exact nomatch hsp
  · have hsp := hk_f c4 hsp
    exact nomatch hsp
def mop_14 (F : Nat) (S : hk_S) (p1 p2 p3 p4 p5 : Int32) : Option hk_S :=
(mL_addProbe (hk_EE 232 229) F S 0 p1 p2 p3 231).bind (fun r1 => (mX12_addProbe (hk_EE 232 229) F r1.2 221 p1 p2 p3).bind (fun r2 => (mX12_thrown (hk_EE 232 229) F r2.2 221).bind (fun r3 => if r3.1 = r1.1 then (if ¬ r1.1 = 0 then (some r3.2) else (if hk_ok 0 ((hk_EE 232 229).2.2.1 231) then (if (lg_cmp ((r3.2 231 0).toInt64) ((r2.1 : Int32).toInt64)) = 0 then (some r3.2) else (none)) else none)) else (none))))
set_option maxHeartbeats 4000000 in
set_option maxRecDepth 100000 in
theorem kop_14 (hst : l.stackTraces = false) (hC : hk_LC p s m meth c b L xs g) (F : Nat) {n : Nat} {S : hk_S} {H : Heap} {locs : List Loc} {ls : Array Slot} {cells slots : Nat} {i : Int32} (hi : ∀ k : Nat, k < 6 → vp_in (i + nI k) L) (hf : cells + 8 ≤ room_1.cells ∧ slots + 48 ≤ room_1.slots) (G : hk_GG g (hk_EE 232 229) S n s H locs) (hl : lv_has ls 9 [(0, .ref b), (1, .ref (g.1 + 0)), (2, .ref (g.1 + 221)), (3, .ref (g.1 + 231)), (4, .int i)]) (o : hk_S) (hsp : mop_14 F S (xs (i + 1).toNatClampNeg) (xs (i + 2).toNatClampNeg) (xs (i + 3).toNatClampNeg) (xs (i + 4).toNatClampNeg) (xs (i + 5).toNatClampNeg) = some o) (kk : ∀ (n1 : Nat) (H1 : Heap) (locs1 : List Loc) (ls1 : Array Slot), hk_GG g (hk_EE 232 229) o n1 s H1 locs1 → lv_has ls1 9 [(0, .ref b), (1, .ref (g.1 + 0)), (2, .ref (g.1 + 221)), (3, .ref (g.1 + 231)), (4, .int i)] → W p l e room_1 s m #[Value.ref b] below meth c H1 locs1 (cells + 8) (slots + 48) Q (F0 m 3152 ls1 [])) : W p l e room_1 s m #[Value.ref b] below meth c H locs cells slots Q (F0 m 1125 ls []) := by
  have hfc := hf.1
  have hfs := hf.2
  have F9 := hC.1
  have hx := F9.1
  have hb := F9.2.1
  generalize hp1 : xs (i + 1).toNatClampNeg = p1 at hsp
  generalize hp2 : xs (i + 2).toNatClampNeg = p2 at hsp
  generalize hp3 : xs (i + 3).toNatClampNeg = p3 at hsp
  generalize hp4 : xs (i + 4).toNatClampNeg = p4 at hsp
  generalize hp5 : xs (i + 5).toNatClampNeg = p5 at hsp
  unfold mop_14 at hsp
  refine lv_aload_n hx hb dL_law_1125 rfl (lv_at hl 1 rfl) ?_
  refine lv_aload_n hx hb dL_law_1126 rfl (lv_at hl 0 rfl) ?_
  refine lv_iload hx hb dL_law_1127 (lv_at hl 4 rfl) ?_
  refine lv_iconst (v := 1) hx hb dL_law_1129 (by decide) ?_
  refine lv_iadd hx hb dL_law_1130 ?_
  refine va_sld hx hb hC.2.2.1 hC.2.2.2.1 hC.2.2.2.2 G.2.1 (hi 1 (by decide)) dL_law_1131 ?_
  rw [hp1]
  refine lv_aload_n hx hb dL_law_1132 rfl (lv_at hl 0 rfl) ?_
  refine lv_iload hx hb dL_law_1133 (lv_at hl 4 rfl) ?_
  refine lv_iconst (v := 2) hx hb dL_law_1135 (by decide) ?_
  refine lv_iadd hx hb dL_law_1136 ?_
  refine va_sld hx hb hC.2.2.1 hC.2.2.2.1 hC.2.2.2.2 G.2.1 (hi 2 (by decide)) dL_law_1137 ?_
  rw [hp2]
  refine lv_aload_n hx hb dL_law_1138 rfl (lv_at hl 0 rfl) ?_
  refine lv_iload hx hb dL_law_1139 (lv_at hl 4 rfl) ?_
  refine lv_iconst (v := 3) hx hb dL_law_1141 (by decide) ?_
  refine lv_iadd hx hb dL_law_1142 ?_
  refine va_sld hx hb hC.2.2.1 hC.2.2.2.1 hC.2.2.2.2 G.2.1 (hi 3 (by decide)) dL_law_1143 ?_
  rw [hp3]
  refine lv_aload_n hx hb dL_law_1144 rfl (lv_at hl 3 rfl) ?_
  obtain ⟨r1, er1, hsp⟩ := hk_b hsp
  refine hk_callW (As := [.ref (g.1 + 0), .int p1, .int p2, .int p3, .ref (g.1 + 231)]) (rest := []) F9 G (kL_addProbe l hst g (hk_EE 232 229) F n S 0 p1 p2 p3 231 r1 (by decide +kernel) (by decide +kernel) er1) qW_199 ⟨rfl, rfl, (Nat.le_of_ble_eq_true rfl), (Nat.le_of_ble_eq_true rfl)⟩ rfl hl.1 rfl (Nat.le_of_ble_eq_true rfl) ⟨by omega, by omega⟩ dL_law_1145 (fun n H locs G => ?_)
  refine lv_istore (lv' := [(5, .int r1.1), (0, .ref b), (1, .ref (g.1 + 0)), (2, .ref (g.1 + 221)), (3, .ref (g.1 + 231)), (4, .int i)]) hx hb dL_law_1148  hl (by decide) rfl (fun ls hl => ?_)
  refine lv_aload_n hx hb dL_law_1150 rfl (lv_at hl 3 rfl) ?_
  refine lv_aload_n hx hb dL_law_1151 rfl (lv_at hl 1 rfl) ?_
  refine lv_iload hx hb dL_law_1152 (lv_at hl 5 rfl) ?_
  refine lv_iconst (v := 1) hx hb dL_law_1154 (by decide) ?_
  refine lv_iadd hx hb dL_law_1155 ?_
  refine va_sld hx hb hC.2.2.1 hC.2.2.2.1 hC.2.2.2.2 G.2.1 (hi 1 (by decide)) dL_law_1156 ?_
  rw [hp1]
  refine lv_aload_n hx hb dL_law_1157 rfl (lv_at hl 1 rfl) ?_
  refine lv_iload hx hb dL_law_1158 (lv_at hl 5 rfl) ?_
  refine lv_iconst (v := 2) hx hb dL_law_1160 (by decide) ?_
  refine lv_iadd hx hb dL_law_1161 ?_
  refine va_sld hx hb hC.2.2.1 hC.2.2.2.1 hC.2.2.2.2 G.2.1 (hi 2 (by decide)) dL_law_1162 ?_
  rw [hp2]
  refine lv_aload_n hx hb dL_law_1163 rfl (lv_at hl 1 rfl) ?_
  refine lv_iload hx hb dL_law_1164 (lv_at hl 5 rfl) ?_
  refine lv_iconst (v := 3) hx hb dL_law_1166 (by decide) ?_
  refine lv_iadd hx hb dL_law_1167 ?_
  refine va_sld hx hb hC.2.2.1 hC.2.2.2.1 hC.2.2.2.2 G.2.1 (hi 3 (by decide)) dL_law_1168 ?_
  rw [hp3]
  obtain ⟨r2, er2, hsp⟩ := hk_b hsp
  refine hk_callVi (As := [.int p1, .int p2, .int p3]) (rest := []) F9 G (by decide +kernel) hkc_9 rfl (kX12_addProbe l g (hk_EE 232 229) F n r1.2 221 p1 p2 p3 r2 (by decide +kernel) er2) qv_RL_201 ⟨rfl, rfl, (Nat.le_of_ble_eq_true rfl), (Nat.le_of_ble_eq_true rfl)⟩ rfl hl.1 rfl (Nat.le_of_ble_eq_true rfl) ⟨by omega, by omega⟩ dL_law_1169 (fun H locs G => ?_)
  refine lv_istore (lv' := [(6, .int r2.1), (5, .int r1.1), (0, .ref b), (1, .ref (g.1 + 0)), (2, .ref (g.1 + 221)), (3, .ref (g.1 + 231)), (4, .int i)]) hx hb dL_law_1172  hl (by decide) rfl (fun ls hl => ?_)
  refine lv_aload_n hx hb dL_law_1174 rfl (lv_at hl 4 rfl) ?_
  obtain ⟨r3, er3, hsp⟩ := hk_b hsp
  refine hk_callVi (As := []) (rest := []) F9 G (by decide +kernel) hkc_9 rfl (kX12_thrown l g (hk_EE 232 229) F n r2.2 221 r3 (by decide +kernel) er3) qv_RL_157 ⟨rfl, rfl, (Nat.le_of_ble_eq_true rfl), (Nat.le_of_ble_eq_true rfl)⟩ rfl hl.1 rfl (Nat.le_of_ble_eq_true rfl) ⟨by omega, by omega⟩ dL_law_1175 (fun H locs G => ?_)
  refine lv_iload hx hb dL_law_1178 (lv_at hl 1 rfl) ?_
  refine lv_icmp_eq (tgt := 1185) hx hb dL_law_1180 (by decide) (fun c4 => ?_) (fun c4 => ?_)
  · have hsp := hk_t c4 hsp
    refine lv_iload hx hb dL_law_1185 (lv_at hl 1 rfl) ?_
    refine lv_if_ne (tgt := 1202) hx hb dL_law_1187 (by decide) (fun c5 => ?_) (fun c5 => ?_)
    · have hsp := hk_t c5 hsp
      refine lv_goto (tgt := 3152) hx hb dL_law_1202 (by decide) ?_
      obtain rfl := hk_s hsp
      exact W.widen (by omega) (by omega) (kk n H locs ls G (lv_sub hl [2, 3, 4, 5, 6] rfl))
    · have hsp := hk_g c5 hsp
      refine lv_aload_n hx hb dL_law_1190 rfl (lv_at hl 5 rfl) ?_
      refine lv_iconst (v := 0) hx hb dL_law_1191 (by decide) ?_
      obtain ⟨q6, hsp⟩ := hk_k hsp
      refine hk_lald (j := 0) F9 G (by decide +kernel) rfl q6 (by decide) dL_law_1192 ?_
      refine lv_iload hx hb dL_law_1193 (lv_at hl 0 rfl) ?_
      refine lv_i2l (v := (r2.1 : Int32).toInt64) hx hb dL_law_1195 rfl ?_
      refine W.lcmp hx hb dL_law_1196 ?_
      refine lv_if_eq (tgt := 1202) hx hb dL_law_1197 (by decide) (fun c7 => ?_) (fun c7 => ?_)
      · have hsp := hk_t c7 hsp
        refine lv_goto (tgt := 3152) hx hb dL_law_1202 (by decide) ?_
        obtain rfl := hk_s hsp
        exact W.widen (by omega) (by omega) (kk n H locs ls G (lv_sub hl [2, 3, 4, 5, 6] rfl))
      · have hsp := hk_f c7 hsp
        exact nomatch hsp
  · have hsp := hk_f c4 hsp
    exact nomatch hsp
def mop_15 (F : Nat) (S : hk_S) (p1 p2 p3 p4 p5 : Int32) : Option hk_S :=
(mL_moveProbe (hk_EE 232 229) F S 0 p1 p2 p3 231).bind (fun r1 => (mX12_moveProbe (hk_EE 232 229) F r1.2 221 p1 p2 p3).bind (fun r2 => (mX12_thrown (hk_EE 232 229) F r2.2 221).bind (fun r3 => if r3.1 = r1.1 then (if ¬ r1.1 = 0 then (some r3.2) else (if hk_ok 0 ((hk_EE 232 229).2.2.1 231) then (if (lg_cmp ((r3.2 231 0).toInt64) ((r2.1 : Int32).toInt64)) = 0 then (some r3.2) else (none)) else none)) else (none))))
set_option maxHeartbeats 4000000 in
set_option maxRecDepth 100000 in
theorem kop_15 (hst : l.stackTraces = false) (hC : hk_LC p s m meth c b L xs g) (F : Nat) {n : Nat} {S : hk_S} {H : Heap} {locs : List Loc} {ls : Array Slot} {cells slots : Nat} {i : Int32} (hi : ∀ k : Nat, k < 6 → vp_in (i + nI k) L) (hf : cells + 8 ≤ room_1.cells ∧ slots + 48 ≤ room_1.slots) (G : hk_GG g (hk_EE 232 229) S n s H locs) (hl : lv_has ls 9 [(0, .ref b), (1, .ref (g.1 + 0)), (2, .ref (g.1 + 221)), (3, .ref (g.1 + 231)), (4, .int i)]) (o : hk_S) (hsp : mop_15 F S (xs (i + 1).toNatClampNeg) (xs (i + 2).toNatClampNeg) (xs (i + 3).toNatClampNeg) (xs (i + 4).toNatClampNeg) (xs (i + 5).toNatClampNeg) = some o) (kk : ∀ (n1 : Nat) (H1 : Heap) (locs1 : List Loc) (ls1 : Array Slot), hk_GG g (hk_EE 232 229) o n1 s H1 locs1 → lv_has ls1 9 [(0, .ref b), (1, .ref (g.1 + 0)), (2, .ref (g.1 + 221)), (3, .ref (g.1 + 231)), (4, .int i)] → W p l e room_1 s m #[Value.ref b] below meth c H1 locs1 (cells + 8) (slots + 48) Q (F0 m 3152 ls1 [])) : W p l e room_1 s m #[Value.ref b] below meth c H locs cells slots Q (F0 m 1205 ls []) := by
  have hfc := hf.1
  have hfs := hf.2
  have F9 := hC.1
  have hx := F9.1
  have hb := F9.2.1
  generalize hp1 : xs (i + 1).toNatClampNeg = p1 at hsp
  generalize hp2 : xs (i + 2).toNatClampNeg = p2 at hsp
  generalize hp3 : xs (i + 3).toNatClampNeg = p3 at hsp
  generalize hp4 : xs (i + 4).toNatClampNeg = p4 at hsp
  generalize hp5 : xs (i + 5).toNatClampNeg = p5 at hsp
  unfold mop_15 at hsp
  refine lv_aload_n hx hb dL_law_1205 rfl (lv_at hl 1 rfl) ?_
  refine lv_aload_n hx hb dL_law_1206 rfl (lv_at hl 0 rfl) ?_
  refine lv_iload hx hb dL_law_1207 (lv_at hl 4 rfl) ?_
  refine lv_iconst (v := 1) hx hb dL_law_1209 (by decide) ?_
  refine lv_iadd hx hb dL_law_1210 ?_
  refine va_sld hx hb hC.2.2.1 hC.2.2.2.1 hC.2.2.2.2 G.2.1 (hi 1 (by decide)) dL_law_1211 ?_
  rw [hp1]
  refine lv_aload_n hx hb dL_law_1212 rfl (lv_at hl 0 rfl) ?_
  refine lv_iload hx hb dL_law_1213 (lv_at hl 4 rfl) ?_
  refine lv_iconst (v := 2) hx hb dL_law_1215 (by decide) ?_
  refine lv_iadd hx hb dL_law_1216 ?_
  refine va_sld hx hb hC.2.2.1 hC.2.2.2.1 hC.2.2.2.2 G.2.1 (hi 2 (by decide)) dL_law_1217 ?_
  rw [hp2]
  refine lv_aload_n hx hb dL_law_1218 rfl (lv_at hl 0 rfl) ?_
  refine lv_iload hx hb dL_law_1219 (lv_at hl 4 rfl) ?_
  refine lv_iconst (v := 3) hx hb dL_law_1221 (by decide) ?_
  refine lv_iadd hx hb dL_law_1222 ?_
  refine va_sld hx hb hC.2.2.1 hC.2.2.2.1 hC.2.2.2.2 G.2.1 (hi 3 (by decide)) dL_law_1223 ?_
  rw [hp3]
  refine lv_aload_n hx hb dL_law_1224 rfl (lv_at hl 3 rfl) ?_
  obtain ⟨r1, er1, hsp⟩ := hk_b hsp
  refine hk_callW (As := [.ref (g.1 + 0), .int p1, .int p2, .int p3, .ref (g.1 + 231)]) (rest := []) F9 G (kL_moveProbe l hst g (hk_EE 232 229) F n S 0 p1 p2 p3 231 r1 (by decide +kernel) (by decide +kernel) er1) qW_202 ⟨rfl, rfl, (Nat.le_of_ble_eq_true rfl), (Nat.le_of_ble_eq_true rfl)⟩ rfl hl.1 rfl (Nat.le_of_ble_eq_true rfl) ⟨by omega, by omega⟩ dL_law_1225 (fun n H locs G => ?_)
  refine lv_istore (lv' := [(5, .int r1.1), (0, .ref b), (1, .ref (g.1 + 0)), (2, .ref (g.1 + 221)), (3, .ref (g.1 + 231)), (4, .int i)]) hx hb dL_law_1228  hl (by decide) rfl (fun ls hl => ?_)
  refine lv_aload_n hx hb dL_law_1230 rfl (lv_at hl 3 rfl) ?_
  refine lv_aload_n hx hb dL_law_1231 rfl (lv_at hl 1 rfl) ?_
  refine lv_iload hx hb dL_law_1232 (lv_at hl 5 rfl) ?_
  refine lv_iconst (v := 1) hx hb dL_law_1234 (by decide) ?_
  refine lv_iadd hx hb dL_law_1235 ?_
  refine va_sld hx hb hC.2.2.1 hC.2.2.2.1 hC.2.2.2.2 G.2.1 (hi 1 (by decide)) dL_law_1236 ?_
  rw [hp1]
  refine lv_aload_n hx hb dL_law_1237 rfl (lv_at hl 1 rfl) ?_
  refine lv_iload hx hb dL_law_1238 (lv_at hl 5 rfl) ?_
  refine lv_iconst (v := 2) hx hb dL_law_1240 (by decide) ?_
  refine lv_iadd hx hb dL_law_1241 ?_
  refine va_sld hx hb hC.2.2.1 hC.2.2.2.1 hC.2.2.2.2 G.2.1 (hi 2 (by decide)) dL_law_1242 ?_
  rw [hp2]
  refine lv_aload_n hx hb dL_law_1243 rfl (lv_at hl 1 rfl) ?_
  refine lv_iload hx hb dL_law_1244 (lv_at hl 5 rfl) ?_
  refine lv_iconst (v := 3) hx hb dL_law_1246 (by decide) ?_
  refine lv_iadd hx hb dL_law_1247 ?_
  refine va_sld hx hb hC.2.2.1 hC.2.2.2.1 hC.2.2.2.2 G.2.1 (hi 3 (by decide)) dL_law_1248 ?_
  rw [hp3]
  obtain ⟨r2, er2, hsp⟩ := hk_b hsp
  refine hk_callVi (As := [.int p1, .int p2, .int p3]) (rest := []) F9 G (by decide +kernel) hkc_9 rfl (kX12_moveProbe l g (hk_EE 232 229) F n r1.2 221 p1 p2 p3 r2 (by decide +kernel) er2) qv_RL_204 ⟨rfl, rfl, (Nat.le_of_ble_eq_true rfl), (Nat.le_of_ble_eq_true rfl)⟩ rfl hl.1 rfl (Nat.le_of_ble_eq_true rfl) ⟨by omega, by omega⟩ dL_law_1249 (fun H locs G => ?_)
  refine lv_istore (lv' := [(6, .int r2.1), (5, .int r1.1), (0, .ref b), (1, .ref (g.1 + 0)), (2, .ref (g.1 + 221)), (3, .ref (g.1 + 231)), (4, .int i)]) hx hb dL_law_1252  hl (by decide) rfl (fun ls hl => ?_)
  refine lv_aload_n hx hb dL_law_1254 rfl (lv_at hl 4 rfl) ?_
  obtain ⟨r3, er3, hsp⟩ := hk_b hsp
  refine hk_callVi (As := []) (rest := []) F9 G (by decide +kernel) hkc_9 rfl (kX12_thrown l g (hk_EE 232 229) F n r2.2 221 r3 (by decide +kernel) er3) qv_RL_157 ⟨rfl, rfl, (Nat.le_of_ble_eq_true rfl), (Nat.le_of_ble_eq_true rfl)⟩ rfl hl.1 rfl (Nat.le_of_ble_eq_true rfl) ⟨by omega, by omega⟩ dL_law_1255 (fun H locs G => ?_)
  refine lv_iload hx hb dL_law_1258 (lv_at hl 1 rfl) ?_
  refine lv_icmp_eq (tgt := 1265) hx hb dL_law_1260 (by decide) (fun c4 => ?_) (fun c4 => ?_)
  · have hsp := hk_t c4 hsp
    refine lv_iload hx hb dL_law_1265 (lv_at hl 1 rfl) ?_
    refine lv_if_ne (tgt := 1282) hx hb dL_law_1267 (by decide) (fun c5 => ?_) (fun c5 => ?_)
    · have hsp := hk_t c5 hsp
      refine lv_goto (tgt := 3152) hx hb dL_law_1282 (by decide) ?_
      obtain rfl := hk_s hsp
      exact W.widen (by omega) (by omega) (kk n H locs ls G (lv_sub hl [2, 3, 4, 5, 6] rfl))
    · have hsp := hk_g c5 hsp
      refine lv_aload_n hx hb dL_law_1270 rfl (lv_at hl 5 rfl) ?_
      refine lv_iconst (v := 0) hx hb dL_law_1271 (by decide) ?_
      obtain ⟨q6, hsp⟩ := hk_k hsp
      refine hk_lald (j := 0) F9 G (by decide +kernel) rfl q6 (by decide) dL_law_1272 ?_
      refine lv_iload hx hb dL_law_1273 (lv_at hl 0 rfl) ?_
      refine lv_i2l (v := (r2.1 : Int32).toInt64) hx hb dL_law_1275 rfl ?_
      refine W.lcmp hx hb dL_law_1276 ?_
      refine lv_if_eq (tgt := 1282) hx hb dL_law_1277 (by decide) (fun c7 => ?_) (fun c7 => ?_)
      · have hsp := hk_t c7 hsp
        refine lv_goto (tgt := 3152) hx hb dL_law_1282 (by decide) ?_
        obtain rfl := hk_s hsp
        exact W.widen (by omega) (by omega) (kk n H locs ls G (lv_sub hl [2, 3, 4, 5, 6] rfl))
      · have hsp := hk_f c7 hsp
        exact nomatch hsp
  · have hsp := hk_f c4 hsp
    exact nomatch hsp
def mop_16 (F : Nat) (S : hk_S) (p1 p2 p3 p4 p5 : Int32) : Option hk_S :=
(mL_calibrate (hk_EE 232 229) F S 0 p1 231).bind (fun r1 => (mX12_calibrate (hk_EE 232 229) F r1.2 221 p1).bind (fun r2 => (mX12_thrown (hk_EE 232 229) F r2.2 221).bind (fun r3 => if r3.1 = r1.1 then (if ¬ r1.1 = 0 then (some r3.2) else (if hk_ok 0 ((hk_EE 232 229).2.2.1 231) then (if (lg_cmp ((r3.2 231 0).toInt64) ((r2.1 : Int32).toInt64)) = 0 then (some r3.2) else (none)) else none)) else (none))))
set_option maxHeartbeats 4000000 in
set_option maxRecDepth 100000 in
theorem kop_16 (hst : l.stackTraces = false) (hC : hk_LC p s m meth c b L xs g) (F : Nat) {n : Nat} {S : hk_S} {H : Heap} {locs : List Loc} {ls : Array Slot} {cells slots : Nat} {i : Int32} (hi : ∀ k : Nat, k < 6 → vp_in (i + nI k) L) (hf : cells + 8 ≤ room_1.cells ∧ slots + 48 ≤ room_1.slots) (G : hk_GG g (hk_EE 232 229) S n s H locs) (hl : lv_has ls 9 [(0, .ref b), (1, .ref (g.1 + 0)), (2, .ref (g.1 + 221)), (3, .ref (g.1 + 231)), (4, .int i)]) (o : hk_S) (hsp : mop_16 F S (xs (i + 1).toNatClampNeg) (xs (i + 2).toNatClampNeg) (xs (i + 3).toNatClampNeg) (xs (i + 4).toNatClampNeg) (xs (i + 5).toNatClampNeg) = some o) (kk : ∀ (n1 : Nat) (H1 : Heap) (locs1 : List Loc) (ls1 : Array Slot), hk_GG g (hk_EE 232 229) o n1 s H1 locs1 → lv_has ls1 9 [(0, .ref b), (1, .ref (g.1 + 0)), (2, .ref (g.1 + 221)), (3, .ref (g.1 + 231)), (4, .int i)] → W p l e room_1 s m #[Value.ref b] below meth c H1 locs1 (cells + 8) (slots + 48) Q (F0 m 3152 ls1 [])) : W p l e room_1 s m #[Value.ref b] below meth c H locs cells slots Q (F0 m 1285 ls []) := by
  have hfc := hf.1
  have hfs := hf.2
  have F9 := hC.1
  have hx := F9.1
  have hb := F9.2.1
  generalize hp1 : xs (i + 1).toNatClampNeg = p1 at hsp
  generalize hp2 : xs (i + 2).toNatClampNeg = p2 at hsp
  generalize hp3 : xs (i + 3).toNatClampNeg = p3 at hsp
  generalize hp4 : xs (i + 4).toNatClampNeg = p4 at hsp
  generalize hp5 : xs (i + 5).toNatClampNeg = p5 at hsp
  unfold mop_16 at hsp
  refine lv_aload_n hx hb dL_law_1285 rfl (lv_at hl 1 rfl) ?_
  refine lv_aload_n hx hb dL_law_1286 rfl (lv_at hl 0 rfl) ?_
  refine lv_iload hx hb dL_law_1287 (lv_at hl 4 rfl) ?_
  refine lv_iconst (v := 1) hx hb dL_law_1289 (by decide) ?_
  refine lv_iadd hx hb dL_law_1290 ?_
  refine va_sld hx hb hC.2.2.1 hC.2.2.2.1 hC.2.2.2.2 G.2.1 (hi 1 (by decide)) dL_law_1291 ?_
  rw [hp1]
  refine lv_aload_n hx hb dL_law_1292 rfl (lv_at hl 3 rfl) ?_
  obtain ⟨r1, er1, hsp⟩ := hk_b hsp
  refine hk_callW (As := [.ref (g.1 + 0), .int p1, .ref (g.1 + 231)]) (rest := []) F9 G (kL_calibrate l hst g (hk_EE 232 229) F n S 0 p1 231 r1 (by decide +kernel) (by decide +kernel) er1) qW_205 ⟨rfl, rfl, (Nat.le_of_ble_eq_true rfl), (Nat.le_of_ble_eq_true rfl)⟩ rfl hl.1 rfl (Nat.le_of_ble_eq_true rfl) ⟨by omega, by omega⟩ dL_law_1293 (fun n H locs G => ?_)
  refine lv_istore (lv' := [(5, .int r1.1), (0, .ref b), (1, .ref (g.1 + 0)), (2, .ref (g.1 + 221)), (3, .ref (g.1 + 231)), (4, .int i)]) hx hb dL_law_1296  hl (by decide) rfl (fun ls hl => ?_)
  refine lv_aload_n hx hb dL_law_1298 rfl (lv_at hl 3 rfl) ?_
  refine lv_aload_n hx hb dL_law_1299 rfl (lv_at hl 1 rfl) ?_
  refine lv_iload hx hb dL_law_1300 (lv_at hl 5 rfl) ?_
  refine lv_iconst (v := 1) hx hb dL_law_1302 (by decide) ?_
  refine lv_iadd hx hb dL_law_1303 ?_
  refine va_sld hx hb hC.2.2.1 hC.2.2.2.1 hC.2.2.2.2 G.2.1 (hi 1 (by decide)) dL_law_1304 ?_
  rw [hp1]
  obtain ⟨r2, er2, hsp⟩ := hk_b hsp
  refine hk_callVi (As := [.int p1]) (rest := []) F9 G (by decide +kernel) hkc_9 rfl (kX12_calibrate l g (hk_EE 232 229) F n r1.2 221 p1 r2 (by decide +kernel) er2) qv_RL_207 ⟨rfl, rfl, (Nat.le_of_ble_eq_true rfl), (Nat.le_of_ble_eq_true rfl)⟩ rfl hl.1 rfl (Nat.le_of_ble_eq_true rfl) ⟨by omega, by omega⟩ dL_law_1305 (fun H locs G => ?_)
  refine lv_istore (lv' := [(6, .int r2.1), (5, .int r1.1), (0, .ref b), (1, .ref (g.1 + 0)), (2, .ref (g.1 + 221)), (3, .ref (g.1 + 231)), (4, .int i)]) hx hb dL_law_1308  hl (by decide) rfl (fun ls hl => ?_)
  refine lv_aload_n hx hb dL_law_1310 rfl (lv_at hl 4 rfl) ?_
  obtain ⟨r3, er3, hsp⟩ := hk_b hsp
  refine hk_callVi (As := []) (rest := []) F9 G (by decide +kernel) hkc_9 rfl (kX12_thrown l g (hk_EE 232 229) F n r2.2 221 r3 (by decide +kernel) er3) qv_RL_157 ⟨rfl, rfl, (Nat.le_of_ble_eq_true rfl), (Nat.le_of_ble_eq_true rfl)⟩ rfl hl.1 rfl (Nat.le_of_ble_eq_true rfl) ⟨by omega, by omega⟩ dL_law_1311 (fun H locs G => ?_)
  refine lv_iload hx hb dL_law_1314 (lv_at hl 1 rfl) ?_
  refine lv_icmp_eq (tgt := 1321) hx hb dL_law_1316 (by decide) (fun c4 => ?_) (fun c4 => ?_)
  · have hsp := hk_t c4 hsp
    refine lv_iload hx hb dL_law_1321 (lv_at hl 1 rfl) ?_
    refine lv_if_ne (tgt := 1338) hx hb dL_law_1323 (by decide) (fun c5 => ?_) (fun c5 => ?_)
    · have hsp := hk_t c5 hsp
      refine lv_goto (tgt := 3152) hx hb dL_law_1338 (by decide) ?_
      obtain rfl := hk_s hsp
      exact W.widen (by omega) (by omega) (kk n H locs ls G (lv_sub hl [2, 3, 4, 5, 6] rfl))
    · have hsp := hk_g c5 hsp
      refine lv_aload_n hx hb dL_law_1326 rfl (lv_at hl 5 rfl) ?_
      refine lv_iconst (v := 0) hx hb dL_law_1327 (by decide) ?_
      obtain ⟨q6, hsp⟩ := hk_k hsp
      refine hk_lald (j := 0) F9 G (by decide +kernel) rfl q6 (by decide) dL_law_1328 ?_
      refine lv_iload hx hb dL_law_1329 (lv_at hl 0 rfl) ?_
      refine lv_i2l (v := (r2.1 : Int32).toInt64) hx hb dL_law_1331 rfl ?_
      refine W.lcmp hx hb dL_law_1332 ?_
      refine lv_if_eq (tgt := 1338) hx hb dL_law_1333 (by decide) (fun c7 => ?_) (fun c7 => ?_)
      · have hsp := hk_t c7 hsp
        refine lv_goto (tgt := 3152) hx hb dL_law_1338 (by decide) ?_
        obtain rfl := hk_s hsp
        exact W.widen (by omega) (by omega) (kk n H locs ls G (lv_sub hl [2, 3, 4, 5, 6] rfl))
      · have hsp := hk_f c7 hsp
        exact nomatch hsp
  · have hsp := hk_f c4 hsp
    exact nomatch hsp
def mop_17 (F : Nat) (S : hk_S) (p1 p2 p3 p4 p5 : Int32) : Option hk_S :=
(mL_passHours (hk_EE 232 229) F S 0 p1 231).bind (fun r1 => (mX12_passHours (hk_EE 232 229) F r1.2 221 p1).bind (fun r2 => (mX12_thrown (hk_EE 232 229) F r2.2 221).bind (fun r3 => if r3.1 = r1.1 then (if ¬ r1.1 = 0 then (some r3.2) else (if hk_ok 0 ((hk_EE 232 229).2.2.1 231) then (if (lg_cmp ((r3.2 231 0).toInt64) ((r2.1 : Int32).toInt64)) = 0 then (some r3.2) else (none)) else none)) else (none))))
set_option maxHeartbeats 4000000 in
set_option maxRecDepth 100000 in
theorem kop_17 (hst : l.stackTraces = false) (hC : hk_LC p s m meth c b L xs g) (F : Nat) {n : Nat} {S : hk_S} {H : Heap} {locs : List Loc} {ls : Array Slot} {cells slots : Nat} {i : Int32} (hi : ∀ k : Nat, k < 6 → vp_in (i + nI k) L) (hf : cells + 8 ≤ room_1.cells ∧ slots + 48 ≤ room_1.slots) (G : hk_GG g (hk_EE 232 229) S n s H locs) (hl : lv_has ls 9 [(0, .ref b), (1, .ref (g.1 + 0)), (2, .ref (g.1 + 221)), (3, .ref (g.1 + 231)), (4, .int i)]) (o : hk_S) (hsp : mop_17 F S (xs (i + 1).toNatClampNeg) (xs (i + 2).toNatClampNeg) (xs (i + 3).toNatClampNeg) (xs (i + 4).toNatClampNeg) (xs (i + 5).toNatClampNeg) = some o) (kk : ∀ (n1 : Nat) (H1 : Heap) (locs1 : List Loc) (ls1 : Array Slot), hk_GG g (hk_EE 232 229) o n1 s H1 locs1 → lv_has ls1 9 [(0, .ref b), (1, .ref (g.1 + 0)), (2, .ref (g.1 + 221)), (3, .ref (g.1 + 231)), (4, .int i)] → W p l e room_1 s m #[Value.ref b] below meth c H1 locs1 (cells + 8) (slots + 48) Q (F0 m 3152 ls1 [])) : W p l e room_1 s m #[Value.ref b] below meth c H locs cells slots Q (F0 m 1341 ls []) := by
  have hfc := hf.1
  have hfs := hf.2
  have F9 := hC.1
  have hx := F9.1
  have hb := F9.2.1
  generalize hp1 : xs (i + 1).toNatClampNeg = p1 at hsp
  generalize hp2 : xs (i + 2).toNatClampNeg = p2 at hsp
  generalize hp3 : xs (i + 3).toNatClampNeg = p3 at hsp
  generalize hp4 : xs (i + 4).toNatClampNeg = p4 at hsp
  generalize hp5 : xs (i + 5).toNatClampNeg = p5 at hsp
  unfold mop_17 at hsp
  refine lv_aload_n hx hb dL_law_1341 rfl (lv_at hl 1 rfl) ?_
  refine lv_aload_n hx hb dL_law_1342 rfl (lv_at hl 0 rfl) ?_
  refine lv_iload hx hb dL_law_1343 (lv_at hl 4 rfl) ?_
  refine lv_iconst (v := 1) hx hb dL_law_1345 (by decide) ?_
  refine lv_iadd hx hb dL_law_1346 ?_
  refine va_sld hx hb hC.2.2.1 hC.2.2.2.1 hC.2.2.2.2 G.2.1 (hi 1 (by decide)) dL_law_1347 ?_
  rw [hp1]
  refine lv_aload_n hx hb dL_law_1348 rfl (lv_at hl 3 rfl) ?_
  obtain ⟨r1, er1, hsp⟩ := hk_b hsp
  refine hk_callW (As := [.ref (g.1 + 0), .int p1, .ref (g.1 + 231)]) (rest := []) F9 G (kL_passHours l hst g (hk_EE 232 229) F n S 0 p1 231 r1 (by decide +kernel) (by decide +kernel) er1) qW_208 ⟨rfl, rfl, (Nat.le_of_ble_eq_true rfl), (Nat.le_of_ble_eq_true rfl)⟩ rfl hl.1 rfl (Nat.le_of_ble_eq_true rfl) ⟨by omega, by omega⟩ dL_law_1349 (fun n H locs G => ?_)
  refine lv_istore (lv' := [(5, .int r1.1), (0, .ref b), (1, .ref (g.1 + 0)), (2, .ref (g.1 + 221)), (3, .ref (g.1 + 231)), (4, .int i)]) hx hb dL_law_1352  hl (by decide) rfl (fun ls hl => ?_)
  refine lv_aload_n hx hb dL_law_1354 rfl (lv_at hl 3 rfl) ?_
  refine lv_aload_n hx hb dL_law_1355 rfl (lv_at hl 1 rfl) ?_
  refine lv_iload hx hb dL_law_1356 (lv_at hl 5 rfl) ?_
  refine lv_iconst (v := 1) hx hb dL_law_1358 (by decide) ?_
  refine lv_iadd hx hb dL_law_1359 ?_
  refine va_sld hx hb hC.2.2.1 hC.2.2.2.1 hC.2.2.2.2 G.2.1 (hi 1 (by decide)) dL_law_1360 ?_
  rw [hp1]
  obtain ⟨r2, er2, hsp⟩ := hk_b hsp
  refine hk_callVi (As := [.int p1]) (rest := []) F9 G (by decide +kernel) hkc_9 rfl (kX12_passHours l g (hk_EE 232 229) F n r1.2 221 p1 r2 (by decide +kernel) er2) qv_RL_210 ⟨rfl, rfl, (Nat.le_of_ble_eq_true rfl), (Nat.le_of_ble_eq_true rfl)⟩ rfl hl.1 rfl (Nat.le_of_ble_eq_true rfl) ⟨by omega, by omega⟩ dL_law_1361 (fun H locs G => ?_)
  refine lv_istore (lv' := [(6, .int r2.1), (5, .int r1.1), (0, .ref b), (1, .ref (g.1 + 0)), (2, .ref (g.1 + 221)), (3, .ref (g.1 + 231)), (4, .int i)]) hx hb dL_law_1364  hl (by decide) rfl (fun ls hl => ?_)
  refine lv_aload_n hx hb dL_law_1366 rfl (lv_at hl 4 rfl) ?_
  obtain ⟨r3, er3, hsp⟩ := hk_b hsp
  refine hk_callVi (As := []) (rest := []) F9 G (by decide +kernel) hkc_9 rfl (kX12_thrown l g (hk_EE 232 229) F n r2.2 221 r3 (by decide +kernel) er3) qv_RL_157 ⟨rfl, rfl, (Nat.le_of_ble_eq_true rfl), (Nat.le_of_ble_eq_true rfl)⟩ rfl hl.1 rfl (Nat.le_of_ble_eq_true rfl) ⟨by omega, by omega⟩ dL_law_1367 (fun H locs G => ?_)
  refine lv_iload hx hb dL_law_1370 (lv_at hl 1 rfl) ?_
  refine lv_icmp_eq (tgt := 1377) hx hb dL_law_1372 (by decide) (fun c4 => ?_) (fun c4 => ?_)
  · have hsp := hk_t c4 hsp
    refine lv_iload hx hb dL_law_1377 (lv_at hl 1 rfl) ?_
    refine lv_if_ne (tgt := 1394) hx hb dL_law_1379 (by decide) (fun c5 => ?_) (fun c5 => ?_)
    · have hsp := hk_t c5 hsp
      refine lv_goto (tgt := 3152) hx hb dL_law_1394 (by decide) ?_
      obtain rfl := hk_s hsp
      exact W.widen (by omega) (by omega) (kk n H locs ls G (lv_sub hl [2, 3, 4, 5, 6] rfl))
    · have hsp := hk_g c5 hsp
      refine lv_aload_n hx hb dL_law_1382 rfl (lv_at hl 5 rfl) ?_
      refine lv_iconst (v := 0) hx hb dL_law_1383 (by decide) ?_
      obtain ⟨q6, hsp⟩ := hk_k hsp
      refine hk_lald (j := 0) F9 G (by decide +kernel) rfl q6 (by decide) dL_law_1384 ?_
      refine lv_iload hx hb dL_law_1385 (lv_at hl 0 rfl) ?_
      refine lv_i2l (v := (r2.1 : Int32).toInt64) hx hb dL_law_1387 rfl ?_
      refine W.lcmp hx hb dL_law_1388 ?_
      refine lv_if_eq (tgt := 1394) hx hb dL_law_1389 (by decide) (fun c7 => ?_) (fun c7 => ?_)
      · have hsp := hk_t c7 hsp
        refine lv_goto (tgt := 3152) hx hb dL_law_1394 (by decide) ?_
        obtain rfl := hk_s hsp
        exact W.widen (by omega) (by omega) (kk n H locs ls G (lv_sub hl [2, 3, 4, 5, 6] rfl))
      · have hsp := hk_f c7 hsp
        exact nomatch hsp
  · have hsp := hk_f c4 hsp
    exact nomatch hsp
def mop_18 (F : Nat) (S : hk_S) (p1 p2 p3 p4 p5 : Int32) : Option hk_S :=
(mX11_undo (hk_EE 232 229) F S 0).bind (fun r1 => (mX12_undo (hk_EE 232 229) F r1.2 221).bind (fun r2 => if r1.1 = r2.1 then (some r2.2) else (none)))
set_option maxHeartbeats 4000000 in
set_option maxRecDepth 100000 in
theorem kop_18 (hst : l.stackTraces = false) (hC : hk_LC p s m meth c b L xs g) (F : Nat) {n : Nat} {S : hk_S} {H : Heap} {locs : List Loc} {ls : Array Slot} {cells slots : Nat} {i : Int32} (hi : ∀ k : Nat, k < 6 → vp_in (i + nI k) L) (hf : cells + 8 ≤ room_1.cells ∧ slots + 48 ≤ room_1.slots) (G : hk_GG g (hk_EE 232 229) S n s H locs) (hl : lv_has ls 9 [(0, .ref b), (1, .ref (g.1 + 0)), (2, .ref (g.1 + 221)), (3, .ref (g.1 + 231)), (4, .int i)]) (o : hk_S) (hsp : mop_18 F S (xs (i + 1).toNatClampNeg) (xs (i + 2).toNatClampNeg) (xs (i + 3).toNatClampNeg) (xs (i + 4).toNatClampNeg) (xs (i + 5).toNatClampNeg) = some o) (kk : ∀ (n1 : Nat) (H1 : Heap) (locs1 : List Loc) (ls1 : Array Slot), hk_GG g (hk_EE 232 229) o n1 s H1 locs1 → lv_has ls1 9 [(0, .ref b), (1, .ref (g.1 + 0)), (2, .ref (g.1 + 221)), (3, .ref (g.1 + 231)), (4, .int i)] → W p l e room_1 s m #[Value.ref b] below meth c H1 locs1 (cells + 8) (slots + 48) Q (F0 m 3152 ls1 [])) : W p l e room_1 s m #[Value.ref b] below meth c H locs cells slots Q (F0 m 1397 ls []) := by
  have hfc := hf.1
  have hfs := hf.2
  have F9 := hC.1
  have hx := F9.1
  have hb := F9.2.1
  generalize hp1 : xs (i + 1).toNatClampNeg = p1 at hsp
  generalize hp2 : xs (i + 2).toNatClampNeg = p2 at hsp
  generalize hp3 : xs (i + 3).toNatClampNeg = p3 at hsp
  generalize hp4 : xs (i + 4).toNatClampNeg = p4 at hsp
  generalize hp5 : xs (i + 5).toNatClampNeg = p5 at hsp
  unfold mop_18 at hsp
  refine lv_aload_n hx hb dL_law_1397 rfl (lv_at hl 1 rfl) ?_
  obtain ⟨r1, er1, hsp⟩ := hk_b hsp
  refine hk_callVi (As := []) (rest := []) F9 G (by decide +kernel) hkc_8 rfl (kX11_undo l g (hk_EE 232 229) F n S 0 r1 (by decide +kernel) er1) qv_RL_211 ⟨rfl, rfl, (Nat.le_of_ble_eq_true rfl), (Nat.le_of_ble_eq_true rfl)⟩ rfl hl.1 rfl (Nat.le_of_ble_eq_true rfl) ⟨by omega, by omega⟩ dL_law_1398 (fun H locs G => ?_)
  refine lv_aload_n hx hb dL_law_1401 rfl (lv_at hl 2 rfl) ?_
  obtain ⟨r2, er2, hsp⟩ := hk_b hsp
  refine hk_callVi (As := []) (rest := [.int r1.1]) F9 G (by decide +kernel) hkc_9 rfl (kX12_undo l g (hk_EE 232 229) F n r1.2 221 r2 (by decide +kernel) er2) qv_RL_214 ⟨rfl, rfl, (Nat.le_of_ble_eq_true rfl), (Nat.le_of_ble_eq_true rfl)⟩ rfl hl.1 rfl (Nat.le_of_ble_eq_true rfl) ⟨by omega, by omega⟩ dL_law_1402 (fun H locs G => ?_)
  refine lv_icmp_eq (tgt := 3152) hx hb dL_law_1405 (by decide) (fun c3 => ?_) (fun c3 => ?_)
  · have hsp := hk_t c3 hsp
    obtain rfl := hk_s hsp
    exact W.widen (by omega) (by omega) (kk n H locs ls G (lv_sub hl [0, 1, 2, 3, 4] rfl))
  · have hsp := hk_f c3 hsp
    exact nomatch hsp
def mop_19 (F : Nat) (S : hk_S) (p1 p2 p3 p4 p5 : Int32) : Option hk_S :=
(mX11_undoCount (hk_EE 232 229) F S 0).bind (fun r1 => (mX12_undoCount (hk_EE 232 229) F r1.2 221).bind (fun r2 => if r1.1 = r2.1 then (some r2.2) else (none)))
set_option maxHeartbeats 4000000 in
set_option maxRecDepth 100000 in
theorem kop_19 (hst : l.stackTraces = false) (hC : hk_LC p s m meth c b L xs g) (F : Nat) {n : Nat} {S : hk_S} {H : Heap} {locs : List Loc} {ls : Array Slot} {cells slots : Nat} {i : Int32} (hi : ∀ k : Nat, k < 6 → vp_in (i + nI k) L) (hf : cells + 8 ≤ room_1.cells ∧ slots + 48 ≤ room_1.slots) (G : hk_GG g (hk_EE 232 229) S n s H locs) (hl : lv_has ls 9 [(0, .ref b), (1, .ref (g.1 + 0)), (2, .ref (g.1 + 221)), (3, .ref (g.1 + 231)), (4, .int i)]) (o : hk_S) (hsp : mop_19 F S (xs (i + 1).toNatClampNeg) (xs (i + 2).toNatClampNeg) (xs (i + 3).toNatClampNeg) (xs (i + 4).toNatClampNeg) (xs (i + 5).toNatClampNeg) = some o) (kk : ∀ (n1 : Nat) (H1 : Heap) (locs1 : List Loc) (ls1 : Array Slot), hk_GG g (hk_EE 232 229) o n1 s H1 locs1 → lv_has ls1 9 [(0, .ref b), (1, .ref (g.1 + 0)), (2, .ref (g.1 + 221)), (3, .ref (g.1 + 231)), (4, .int i)] → W p l e room_1 s m #[Value.ref b] below meth c H1 locs1 (cells + 8) (slots + 48) Q (F0 m 3152 ls1 [])) : W p l e room_1 s m #[Value.ref b] below meth c H locs cells slots Q (F0 m 1410 ls []) := by
  have hfc := hf.1
  have hfs := hf.2
  have F9 := hC.1
  have hx := F9.1
  have hb := F9.2.1
  generalize hp1 : xs (i + 1).toNatClampNeg = p1 at hsp
  generalize hp2 : xs (i + 2).toNatClampNeg = p2 at hsp
  generalize hp3 : xs (i + 3).toNatClampNeg = p3 at hsp
  generalize hp4 : xs (i + 4).toNatClampNeg = p4 at hsp
  generalize hp5 : xs (i + 5).toNatClampNeg = p5 at hsp
  unfold mop_19 at hsp
  refine lv_aload_n hx hb dL_law_1410 rfl (lv_at hl 1 rfl) ?_
  obtain ⟨r1, er1, hsp⟩ := hk_b hsp
  refine hk_callVi (As := []) (rest := []) F9 G (by decide +kernel) hkc_8 rfl (kX11_undoCount l g (hk_EE 232 229) F n S 0 r1 (by decide +kernel) er1) qv_RL_215 ⟨rfl, rfl, (Nat.le_of_ble_eq_true rfl), (Nat.le_of_ble_eq_true rfl)⟩ rfl hl.1 rfl (Nat.le_of_ble_eq_true rfl) ⟨by omega, by omega⟩ dL_law_1411 (fun H locs G => ?_)
  refine lv_aload_n hx hb dL_law_1414 rfl (lv_at hl 2 rfl) ?_
  obtain ⟨r2, er2, hsp⟩ := hk_b hsp
  refine hk_callVi (As := []) (rest := [.int r1.1]) F9 G (by decide +kernel) hkc_9 rfl (kX12_undoCount l g (hk_EE 232 229) F n r1.2 221 r2 (by decide +kernel) er2) qv_RL_218 ⟨rfl, rfl, (Nat.le_of_ble_eq_true rfl), (Nat.le_of_ble_eq_true rfl)⟩ rfl hl.1 rfl (Nat.le_of_ble_eq_true rfl) ⟨by omega, by omega⟩ dL_law_1415 (fun H locs G => ?_)
  refine lv_icmp_eq (tgt := 3152) hx hb dL_law_1418 (by decide) (fun c3 => ?_) (fun c3 => ?_)
  · have hsp := hk_t c3 hsp
    obtain rfl := hk_s hsp
    exact W.widen (by omega) (by omega) (kk n H locs ls G (lv_sub hl [0, 1, 2, 3, 4] rfl))
  · have hsp := hk_f c3 hsp
    exact nomatch hsp
def mop_20 (F : Nat) (S : hk_S) (p1 p2 p3 p4 p5 : Int32) : Option hk_S :=
(mX11_saveSnapshot (hk_EE 232 229) F S 0).bind (fun r1 => (mX12_saveSnapshot (hk_EE 232 229) F r1.2 221).bind (fun r2 => if r1.1 = r2.1 then (some r2.2) else (none)))
set_option maxHeartbeats 4000000 in
set_option maxRecDepth 100000 in
theorem kop_20 (hst : l.stackTraces = false) (hC : hk_LC p s m meth c b L xs g) (F : Nat) {n : Nat} {S : hk_S} {H : Heap} {locs : List Loc} {ls : Array Slot} {cells slots : Nat} {i : Int32} (hi : ∀ k : Nat, k < 6 → vp_in (i + nI k) L) (hf : cells + 8 ≤ room_1.cells ∧ slots + 48 ≤ room_1.slots) (G : hk_GG g (hk_EE 232 229) S n s H locs) (hl : lv_has ls 9 [(0, .ref b), (1, .ref (g.1 + 0)), (2, .ref (g.1 + 221)), (3, .ref (g.1 + 231)), (4, .int i)]) (o : hk_S) (hsp : mop_20 F S (xs (i + 1).toNatClampNeg) (xs (i + 2).toNatClampNeg) (xs (i + 3).toNatClampNeg) (xs (i + 4).toNatClampNeg) (xs (i + 5).toNatClampNeg) = some o) (kk : ∀ (n1 : Nat) (H1 : Heap) (locs1 : List Loc) (ls1 : Array Slot), hk_GG g (hk_EE 232 229) o n1 s H1 locs1 → lv_has ls1 9 [(0, .ref b), (1, .ref (g.1 + 0)), (2, .ref (g.1 + 221)), (3, .ref (g.1 + 231)), (4, .int i)] → W p l e room_1 s m #[Value.ref b] below meth c H1 locs1 (cells + 8) (slots + 48) Q (F0 m 3152 ls1 [])) : W p l e room_1 s m #[Value.ref b] below meth c H locs cells slots Q (F0 m 1423 ls []) := by
  have hfc := hf.1
  have hfs := hf.2
  have F9 := hC.1
  have hx := F9.1
  have hb := F9.2.1
  generalize hp1 : xs (i + 1).toNatClampNeg = p1 at hsp
  generalize hp2 : xs (i + 2).toNatClampNeg = p2 at hsp
  generalize hp3 : xs (i + 3).toNatClampNeg = p3 at hsp
  generalize hp4 : xs (i + 4).toNatClampNeg = p4 at hsp
  generalize hp5 : xs (i + 5).toNatClampNeg = p5 at hsp
  unfold mop_20 at hsp
  refine lv_aload_n hx hb dL_law_1423 rfl (lv_at hl 1 rfl) ?_
  obtain ⟨r1, er1, hsp⟩ := hk_b hsp
  refine hk_callVi (As := []) (rest := []) F9 G (by decide +kernel) hkc_8 rfl (kX11_saveSnapshot l g (hk_EE 232 229) F n S 0 r1 (by decide +kernel) er1) qv_RL_219 ⟨rfl, rfl, (Nat.le_of_ble_eq_true rfl), (Nat.le_of_ble_eq_true rfl)⟩ rfl hl.1 rfl (Nat.le_of_ble_eq_true rfl) ⟨by omega, by omega⟩ dL_law_1424 (fun H locs G => ?_)
  refine lv_aload_n hx hb dL_law_1427 rfl (lv_at hl 2 rfl) ?_
  obtain ⟨r2, er2, hsp⟩ := hk_b hsp
  refine hk_callVi (As := []) (rest := [.int r1.1]) F9 G (by decide +kernel) hkc_9 rfl (kX12_saveSnapshot l g (hk_EE 232 229) F n r1.2 221 r2 (by decide +kernel) er2) qv_RL_222 ⟨rfl, rfl, (Nat.le_of_ble_eq_true rfl), (Nat.le_of_ble_eq_true rfl)⟩ rfl hl.1 rfl (Nat.le_of_ble_eq_true rfl) ⟨by omega, by omega⟩ dL_law_1428 (fun H locs G => ?_)
  refine lv_icmp_eq (tgt := 3152) hx hb dL_law_1431 (by decide) (fun c3 => ?_) (fun c3 => ?_)
  · have hsp := hk_t c3 hsp
    obtain rfl := hk_s hsp
    exact W.widen (by omega) (by omega) (kk n H locs ls G (lv_sub hl [0, 1, 2, 3, 4] rfl))
  · have hsp := hk_f c3 hsp
    exact nomatch hsp
def mop_21 (F : Nat) (S : hk_S) (p1 p2 p3 p4 p5 : Int32) : Option hk_S :=
(mL_restoreSnapshot (hk_EE 232 229) F S 0 231).bind (fun r1 => (mX12_restoreSnapshot (hk_EE 232 229) F r1.2 221).bind (fun r2 => (mX12_thrown (hk_EE 232 229) F r2.2 221).bind (fun r3 => if r3.1 = r1.1 then (if ¬ r1.1 = 0 then (some r3.2) else (if hk_ok 0 ((hk_EE 232 229).2.2.1 231) then (if (lg_cmp ((r3.2 231 0).toInt64) ((r2.1 : Int32).toInt64)) = 0 then (some r3.2) else (none)) else none)) else (none))))
set_option maxHeartbeats 4000000 in
set_option maxRecDepth 100000 in
theorem kop_21 (hst : l.stackTraces = false) (hC : hk_LC p s m meth c b L xs g) (F : Nat) {n : Nat} {S : hk_S} {H : Heap} {locs : List Loc} {ls : Array Slot} {cells slots : Nat} {i : Int32} (hi : ∀ k : Nat, k < 6 → vp_in (i + nI k) L) (hf : cells + 8 ≤ room_1.cells ∧ slots + 48 ≤ room_1.slots) (G : hk_GG g (hk_EE 232 229) S n s H locs) (hl : lv_has ls 9 [(0, .ref b), (1, .ref (g.1 + 0)), (2, .ref (g.1 + 221)), (3, .ref (g.1 + 231)), (4, .int i)]) (o : hk_S) (hsp : mop_21 F S (xs (i + 1).toNatClampNeg) (xs (i + 2).toNatClampNeg) (xs (i + 3).toNatClampNeg) (xs (i + 4).toNatClampNeg) (xs (i + 5).toNatClampNeg) = some o) (kk : ∀ (n1 : Nat) (H1 : Heap) (locs1 : List Loc) (ls1 : Array Slot), hk_GG g (hk_EE 232 229) o n1 s H1 locs1 → lv_has ls1 9 [(0, .ref b), (1, .ref (g.1 + 0)), (2, .ref (g.1 + 221)), (3, .ref (g.1 + 231)), (4, .int i)] → W p l e room_1 s m #[Value.ref b] below meth c H1 locs1 (cells + 8) (slots + 48) Q (F0 m 3152 ls1 [])) : W p l e room_1 s m #[Value.ref b] below meth c H locs cells slots Q (F0 m 1436 ls []) := by
  have hfc := hf.1
  have hfs := hf.2
  have F9 := hC.1
  have hx := F9.1
  have hb := F9.2.1
  generalize hp1 : xs (i + 1).toNatClampNeg = p1 at hsp
  generalize hp2 : xs (i + 2).toNatClampNeg = p2 at hsp
  generalize hp3 : xs (i + 3).toNatClampNeg = p3 at hsp
  generalize hp4 : xs (i + 4).toNatClampNeg = p4 at hsp
  generalize hp5 : xs (i + 5).toNatClampNeg = p5 at hsp
  unfold mop_21 at hsp
  refine lv_aload_n hx hb dL_law_1436 rfl (lv_at hl 1 rfl) ?_
  refine lv_aload_n hx hb dL_law_1437 rfl (lv_at hl 3 rfl) ?_
  obtain ⟨r1, er1, hsp⟩ := hk_b hsp
  refine hk_callW (As := [.ref (g.1 + 0), .ref (g.1 + 231)]) (rest := []) F9 G (kL_restoreSnapshot l hst g (hk_EE 232 229) F n S 0 231 r1 (by decide +kernel) (by decide +kernel) er1) qW_223 ⟨rfl, rfl, (Nat.le_of_ble_eq_true rfl), (Nat.le_of_ble_eq_true rfl)⟩ rfl hl.1 rfl (Nat.le_of_ble_eq_true rfl) ⟨by omega, by omega⟩ dL_law_1438 (fun n H locs G => ?_)
  refine lv_istore (lv' := [(5, .int r1.1), (0, .ref b), (1, .ref (g.1 + 0)), (2, .ref (g.1 + 221)), (3, .ref (g.1 + 231)), (4, .int i)]) hx hb dL_law_1441  hl (by decide) rfl (fun ls hl => ?_)
  refine lv_aload_n hx hb dL_law_1443 rfl (lv_at hl 3 rfl) ?_
  obtain ⟨r2, er2, hsp⟩ := hk_b hsp
  refine hk_callVi (As := []) (rest := []) F9 G (by decide +kernel) hkc_9 rfl (kX12_restoreSnapshot l g (hk_EE 232 229) F n r1.2 221 r2 (by decide +kernel) er2) qv_RL_226 ⟨rfl, rfl, (Nat.le_of_ble_eq_true rfl), (Nat.le_of_ble_eq_true rfl)⟩ rfl hl.1 rfl (Nat.le_of_ble_eq_true rfl) ⟨by omega, by omega⟩ dL_law_1444 (fun H locs G => ?_)
  refine lv_istore (lv' := [(6, .int r2.1), (5, .int r1.1), (0, .ref b), (1, .ref (g.1 + 0)), (2, .ref (g.1 + 221)), (3, .ref (g.1 + 231)), (4, .int i)]) hx hb dL_law_1447  hl (by decide) rfl (fun ls hl => ?_)
  refine lv_aload_n hx hb dL_law_1449 rfl (lv_at hl 4 rfl) ?_
  obtain ⟨r3, er3, hsp⟩ := hk_b hsp
  refine hk_callVi (As := []) (rest := []) F9 G (by decide +kernel) hkc_9 rfl (kX12_thrown l g (hk_EE 232 229) F n r2.2 221 r3 (by decide +kernel) er3) qv_RL_157 ⟨rfl, rfl, (Nat.le_of_ble_eq_true rfl), (Nat.le_of_ble_eq_true rfl)⟩ rfl hl.1 rfl (Nat.le_of_ble_eq_true rfl) ⟨by omega, by omega⟩ dL_law_1450 (fun H locs G => ?_)
  refine lv_iload hx hb dL_law_1453 (lv_at hl 1 rfl) ?_
  refine lv_icmp_eq (tgt := 1460) hx hb dL_law_1455 (by decide) (fun c4 => ?_) (fun c4 => ?_)
  · have hsp := hk_t c4 hsp
    refine lv_iload hx hb dL_law_1460 (lv_at hl 1 rfl) ?_
    refine lv_if_ne (tgt := 1477) hx hb dL_law_1462 (by decide) (fun c5 => ?_) (fun c5 => ?_)
    · have hsp := hk_t c5 hsp
      refine lv_goto (tgt := 3152) hx hb dL_law_1477 (by decide) ?_
      obtain rfl := hk_s hsp
      exact W.widen (by omega) (by omega) (kk n H locs ls G (lv_sub hl [2, 3, 4, 5, 6] rfl))
    · have hsp := hk_g c5 hsp
      refine lv_aload_n hx hb dL_law_1465 rfl (lv_at hl 5 rfl) ?_
      refine lv_iconst (v := 0) hx hb dL_law_1466 (by decide) ?_
      obtain ⟨q6, hsp⟩ := hk_k hsp
      refine hk_lald (j := 0) F9 G (by decide +kernel) rfl q6 (by decide) dL_law_1467 ?_
      refine lv_iload hx hb dL_law_1468 (lv_at hl 0 rfl) ?_
      refine lv_i2l (v := (r2.1 : Int32).toInt64) hx hb dL_law_1470 rfl ?_
      refine W.lcmp hx hb dL_law_1471 ?_
      refine lv_if_eq (tgt := 1477) hx hb dL_law_1472 (by decide) (fun c7 => ?_) (fun c7 => ?_)
      · have hsp := hk_t c7 hsp
        refine lv_goto (tgt := 3152) hx hb dL_law_1477 (by decide) ?_
        obtain rfl := hk_s hsp
        exact W.widen (by omega) (by omega) (kk n H locs ls G (lv_sub hl [2, 3, 4, 5, 6] rfl))
      · have hsp := hk_f c7 hsp
        exact nomatch hsp
  · have hsp := hk_f c4 hsp
    exact nomatch hsp
def mop_22 (F : Nat) (S : hk_S) (p1 p2 p3 p4 p5 : Int32) : Option hk_S :=
(mX11_scriptErrorKind (hk_EE 232 229) F S 0).bind (fun r1 => (mX12_scriptErrorKind (hk_EE 232 229) F r1.2 221).bind (fun r2 => if r1.1 = r2.1 then (some r2.2) else (none)))
set_option maxHeartbeats 4000000 in
set_option maxRecDepth 100000 in
theorem kop_22 (hst : l.stackTraces = false) (hC : hk_LC p s m meth c b L xs g) (F : Nat) {n : Nat} {S : hk_S} {H : Heap} {locs : List Loc} {ls : Array Slot} {cells slots : Nat} {i : Int32} (hi : ∀ k : Nat, k < 6 → vp_in (i + nI k) L) (hf : cells + 8 ≤ room_1.cells ∧ slots + 48 ≤ room_1.slots) (G : hk_GG g (hk_EE 232 229) S n s H locs) (hl : lv_has ls 9 [(0, .ref b), (1, .ref (g.1 + 0)), (2, .ref (g.1 + 221)), (3, .ref (g.1 + 231)), (4, .int i)]) (o : hk_S) (hsp : mop_22 F S (xs (i + 1).toNatClampNeg) (xs (i + 2).toNatClampNeg) (xs (i + 3).toNatClampNeg) (xs (i + 4).toNatClampNeg) (xs (i + 5).toNatClampNeg) = some o) (kk : ∀ (n1 : Nat) (H1 : Heap) (locs1 : List Loc) (ls1 : Array Slot), hk_GG g (hk_EE 232 229) o n1 s H1 locs1 → lv_has ls1 9 [(0, .ref b), (1, .ref (g.1 + 0)), (2, .ref (g.1 + 221)), (3, .ref (g.1 + 231)), (4, .int i)] → W p l e room_1 s m #[Value.ref b] below meth c H1 locs1 (cells + 8) (slots + 48) Q (F0 m 3152 ls1 [])) : W p l e room_1 s m #[Value.ref b] below meth c H locs cells slots Q (F0 m 1480 ls []) := by
  have hfc := hf.1
  have hfs := hf.2
  have F9 := hC.1
  have hx := F9.1
  have hb := F9.2.1
  generalize hp1 : xs (i + 1).toNatClampNeg = p1 at hsp
  generalize hp2 : xs (i + 2).toNatClampNeg = p2 at hsp
  generalize hp3 : xs (i + 3).toNatClampNeg = p3 at hsp
  generalize hp4 : xs (i + 4).toNatClampNeg = p4 at hsp
  generalize hp5 : xs (i + 5).toNatClampNeg = p5 at hsp
  unfold mop_22 at hsp
  refine lv_aload_n hx hb dL_law_1480 rfl (lv_at hl 1 rfl) ?_
  obtain ⟨r1, er1, hsp⟩ := hk_b hsp
  refine hk_callVi (As := []) (rest := []) F9 G (by decide +kernel) hkc_8 rfl (kX11_scriptErrorKind l g (hk_EE 232 229) F n S 0 r1 (by decide +kernel) er1) qv_RL_227 ⟨rfl, rfl, (Nat.le_of_ble_eq_true rfl), (Nat.le_of_ble_eq_true rfl)⟩ rfl hl.1 rfl (Nat.le_of_ble_eq_true rfl) ⟨by omega, by omega⟩ dL_law_1481 (fun H locs G => ?_)
  refine lv_aload_n hx hb dL_law_1484 rfl (lv_at hl 2 rfl) ?_
  obtain ⟨r2, er2, hsp⟩ := hk_b hsp
  refine hk_callVi (As := []) (rest := [.int r1.1]) F9 G (by decide +kernel) hkc_9 rfl (kX12_scriptErrorKind l g (hk_EE 232 229) F n r1.2 221 r2 (by decide +kernel) er2) qv_RL_230 ⟨rfl, rfl, (Nat.le_of_ble_eq_true rfl), (Nat.le_of_ble_eq_true rfl)⟩ rfl hl.1 rfl (Nat.le_of_ble_eq_true rfl) ⟨by omega, by omega⟩ dL_law_1485 (fun H locs G => ?_)
  refine lv_icmp_eq (tgt := 3152) hx hb dL_law_1488 (by decide) (fun c3 => ?_) (fun c3 => ?_)
  · have hsp := hk_t c3 hsp
    obtain rfl := hk_s hsp
    exact W.widen (by omega) (by omega) (kk n H locs ls G (lv_sub hl [0, 1, 2, 3, 4] rfl))
  · have hsp := hk_f c3 hsp
    exact nomatch hsp
def mop_23 (F : Nat) (S : hk_S) (p1 p2 p3 p4 p5 : Int32) : Option hk_S :=
(mX11_scriptErrorOffset (hk_EE 232 229) F S 0).bind (fun r1 => (mX12_scriptErrorOffset (hk_EE 232 229) F r1.2 221).bind (fun r2 => if r1.1 = r2.1 then (some r2.2) else (none)))
set_option maxHeartbeats 4000000 in
set_option maxRecDepth 100000 in
theorem kop_23 (hst : l.stackTraces = false) (hC : hk_LC p s m meth c b L xs g) (F : Nat) {n : Nat} {S : hk_S} {H : Heap} {locs : List Loc} {ls : Array Slot} {cells slots : Nat} {i : Int32} (hi : ∀ k : Nat, k < 6 → vp_in (i + nI k) L) (hf : cells + 8 ≤ room_1.cells ∧ slots + 48 ≤ room_1.slots) (G : hk_GG g (hk_EE 232 229) S n s H locs) (hl : lv_has ls 9 [(0, .ref b), (1, .ref (g.1 + 0)), (2, .ref (g.1 + 221)), (3, .ref (g.1 + 231)), (4, .int i)]) (o : hk_S) (hsp : mop_23 F S (xs (i + 1).toNatClampNeg) (xs (i + 2).toNatClampNeg) (xs (i + 3).toNatClampNeg) (xs (i + 4).toNatClampNeg) (xs (i + 5).toNatClampNeg) = some o) (kk : ∀ (n1 : Nat) (H1 : Heap) (locs1 : List Loc) (ls1 : Array Slot), hk_GG g (hk_EE 232 229) o n1 s H1 locs1 → lv_has ls1 9 [(0, .ref b), (1, .ref (g.1 + 0)), (2, .ref (g.1 + 221)), (3, .ref (g.1 + 231)), (4, .int i)] → W p l e room_1 s m #[Value.ref b] below meth c H1 locs1 (cells + 8) (slots + 48) Q (F0 m 3152 ls1 [])) : W p l e room_1 s m #[Value.ref b] below meth c H locs cells slots Q (F0 m 1493 ls []) := by
  have hfc := hf.1
  have hfs := hf.2
  have F9 := hC.1
  have hx := F9.1
  have hb := F9.2.1
  generalize hp1 : xs (i + 1).toNatClampNeg = p1 at hsp
  generalize hp2 : xs (i + 2).toNatClampNeg = p2 at hsp
  generalize hp3 : xs (i + 3).toNatClampNeg = p3 at hsp
  generalize hp4 : xs (i + 4).toNatClampNeg = p4 at hsp
  generalize hp5 : xs (i + 5).toNatClampNeg = p5 at hsp
  unfold mop_23 at hsp
  refine lv_aload_n hx hb dL_law_1493 rfl (lv_at hl 1 rfl) ?_
  obtain ⟨r1, er1, hsp⟩ := hk_b hsp
  refine hk_callVi (As := []) (rest := []) F9 G (by decide +kernel) hkc_8 rfl (kX11_scriptErrorOffset l g (hk_EE 232 229) F n S 0 r1 (by decide +kernel) er1) qv_RL_231 ⟨rfl, rfl, (Nat.le_of_ble_eq_true rfl), (Nat.le_of_ble_eq_true rfl)⟩ rfl hl.1 rfl (Nat.le_of_ble_eq_true rfl) ⟨by omega, by omega⟩ dL_law_1494 (fun H locs G => ?_)
  refine lv_aload_n hx hb dL_law_1497 rfl (lv_at hl 2 rfl) ?_
  obtain ⟨r2, er2, hsp⟩ := hk_b hsp
  refine hk_callVi (As := []) (rest := [.int r1.1]) F9 G (by decide +kernel) hkc_9 rfl (kX12_scriptErrorOffset l g (hk_EE 232 229) F n r1.2 221 r2 (by decide +kernel) er2) qv_RL_234 ⟨rfl, rfl, (Nat.le_of_ble_eq_true rfl), (Nat.le_of_ble_eq_true rfl)⟩ rfl hl.1 rfl (Nat.le_of_ble_eq_true rfl) ⟨by omega, by omega⟩ dL_law_1498 (fun H locs G => ?_)
  refine lv_icmp_eq (tgt := 3152) hx hb dL_law_1501 (by decide) (fun c3 => ?_) (fun c3 => ?_)
  · have hsp := hk_t c3 hsp
    obtain rfl := hk_s hsp
    exact W.widen (by omega) (by omega) (kk n H locs ls G (lv_sub hl [0, 1, 2, 3, 4] rfl))
  · have hsp := hk_f c3 hsp
    exact nomatch hsp
def mop_24 (F : Nat) (S : hk_S) (p1 p2 p3 p4 p5 : Int32) : Option hk_S :=
(mX11_hour (hk_EE 232 229) F S 0).bind (fun r1 => (mX12_hour (hk_EE 232 229) F r1.2 221).bind (fun r2 => if r1.1 = r2.1 then (some r2.2) else (none)))
set_option maxHeartbeats 4000000 in
set_option maxRecDepth 100000 in
theorem kop_24 (hst : l.stackTraces = false) (hC : hk_LC p s m meth c b L xs g) (F : Nat) {n : Nat} {S : hk_S} {H : Heap} {locs : List Loc} {ls : Array Slot} {cells slots : Nat} {i : Int32} (hi : ∀ k : Nat, k < 6 → vp_in (i + nI k) L) (hf : cells + 8 ≤ room_1.cells ∧ slots + 48 ≤ room_1.slots) (G : hk_GG g (hk_EE 232 229) S n s H locs) (hl : lv_has ls 9 [(0, .ref b), (1, .ref (g.1 + 0)), (2, .ref (g.1 + 221)), (3, .ref (g.1 + 231)), (4, .int i)]) (o : hk_S) (hsp : mop_24 F S (xs (i + 1).toNatClampNeg) (xs (i + 2).toNatClampNeg) (xs (i + 3).toNatClampNeg) (xs (i + 4).toNatClampNeg) (xs (i + 5).toNatClampNeg) = some o) (kk : ∀ (n1 : Nat) (H1 : Heap) (locs1 : List Loc) (ls1 : Array Slot), hk_GG g (hk_EE 232 229) o n1 s H1 locs1 → lv_has ls1 9 [(0, .ref b), (1, .ref (g.1 + 0)), (2, .ref (g.1 + 221)), (3, .ref (g.1 + 231)), (4, .int i)] → W p l e room_1 s m #[Value.ref b] below meth c H1 locs1 (cells + 8) (slots + 48) Q (F0 m 3152 ls1 [])) : W p l e room_1 s m #[Value.ref b] below meth c H locs cells slots Q (F0 m 1506 ls []) := by
  have hfc := hf.1
  have hfs := hf.2
  have F9 := hC.1
  have hx := F9.1
  have hb := F9.2.1
  generalize hp1 : xs (i + 1).toNatClampNeg = p1 at hsp
  generalize hp2 : xs (i + 2).toNatClampNeg = p2 at hsp
  generalize hp3 : xs (i + 3).toNatClampNeg = p3 at hsp
  generalize hp4 : xs (i + 4).toNatClampNeg = p4 at hsp
  generalize hp5 : xs (i + 5).toNatClampNeg = p5 at hsp
  unfold mop_24 at hsp
  refine lv_aload_n hx hb dL_law_1506 rfl (lv_at hl 1 rfl) ?_
  obtain ⟨r1, er1, hsp⟩ := hk_b hsp
  refine hk_callVi (As := []) (rest := []) F9 G (by decide +kernel) hkc_8 rfl (kX11_hour l g (hk_EE 232 229) F n S 0 r1 (by decide +kernel) er1) qv_RL_235 ⟨rfl, rfl, (Nat.le_of_ble_eq_true rfl), (Nat.le_of_ble_eq_true rfl)⟩ rfl hl.1 rfl (Nat.le_of_ble_eq_true rfl) ⟨by omega, by omega⟩ dL_law_1507 (fun H locs G => ?_)
  refine lv_aload_n hx hb dL_law_1510 rfl (lv_at hl 2 rfl) ?_
  obtain ⟨r2, er2, hsp⟩ := hk_b hsp
  refine hk_callVi (As := []) (rest := [.int r1.1]) F9 G (by decide +kernel) hkc_9 rfl (kX12_hour l g (hk_EE 232 229) F n r1.2 221 r2 (by decide +kernel) er2) qv_RL_238 ⟨rfl, rfl, (Nat.le_of_ble_eq_true rfl), (Nat.le_of_ble_eq_true rfl)⟩ rfl hl.1 rfl (Nat.le_of_ble_eq_true rfl) ⟨by omega, by omega⟩ dL_law_1511 (fun H locs G => ?_)
  refine lv_icmp_eq (tgt := 3152) hx hb dL_law_1514 (by decide) (fun c3 => ?_) (fun c3 => ?_)
  · have hsp := hk_t c3 hsp
    obtain rfl := hk_s hsp
    exact W.widen (by omega) (by omega) (kk n H locs ls G (lv_sub hl [0, 1, 2, 3, 4] rfl))
  · have hsp := hk_f c3 hsp
    exact nomatch hsp
def mop_25 (F : Nat) (S : hk_S) (p1 p2 p3 p4 p5 : Int32) : Option hk_S :=
(mX11_day (hk_EE 232 229) F S 0).bind (fun r1 => (mX12_day (hk_EE 232 229) F r1.2 221).bind (fun r2 => if r1.1 = r2.1 then (some r2.2) else (none)))
set_option maxHeartbeats 4000000 in
set_option maxRecDepth 100000 in
theorem kop_25 (hst : l.stackTraces = false) (hC : hk_LC p s m meth c b L xs g) (F : Nat) {n : Nat} {S : hk_S} {H : Heap} {locs : List Loc} {ls : Array Slot} {cells slots : Nat} {i : Int32} (hi : ∀ k : Nat, k < 6 → vp_in (i + nI k) L) (hf : cells + 8 ≤ room_1.cells ∧ slots + 48 ≤ room_1.slots) (G : hk_GG g (hk_EE 232 229) S n s H locs) (hl : lv_has ls 9 [(0, .ref b), (1, .ref (g.1 + 0)), (2, .ref (g.1 + 221)), (3, .ref (g.1 + 231)), (4, .int i)]) (o : hk_S) (hsp : mop_25 F S (xs (i + 1).toNatClampNeg) (xs (i + 2).toNatClampNeg) (xs (i + 3).toNatClampNeg) (xs (i + 4).toNatClampNeg) (xs (i + 5).toNatClampNeg) = some o) (kk : ∀ (n1 : Nat) (H1 : Heap) (locs1 : List Loc) (ls1 : Array Slot), hk_GG g (hk_EE 232 229) o n1 s H1 locs1 → lv_has ls1 9 [(0, .ref b), (1, .ref (g.1 + 0)), (2, .ref (g.1 + 221)), (3, .ref (g.1 + 231)), (4, .int i)] → W p l e room_1 s m #[Value.ref b] below meth c H1 locs1 (cells + 8) (slots + 48) Q (F0 m 3152 ls1 [])) : W p l e room_1 s m #[Value.ref b] below meth c H locs cells slots Q (F0 m 1519 ls []) := by
  have hfc := hf.1
  have hfs := hf.2
  have F9 := hC.1
  have hx := F9.1
  have hb := F9.2.1
  generalize hp1 : xs (i + 1).toNatClampNeg = p1 at hsp
  generalize hp2 : xs (i + 2).toNatClampNeg = p2 at hsp
  generalize hp3 : xs (i + 3).toNatClampNeg = p3 at hsp
  generalize hp4 : xs (i + 4).toNatClampNeg = p4 at hsp
  generalize hp5 : xs (i + 5).toNatClampNeg = p5 at hsp
  unfold mop_25 at hsp
  refine lv_aload_n hx hb dL_law_1519 rfl (lv_at hl 1 rfl) ?_
  obtain ⟨r1, er1, hsp⟩ := hk_b hsp
  refine hk_callVi (As := []) (rest := []) F9 G (by decide +kernel) hkc_8 rfl (kX11_day l g (hk_EE 232 229) F n S 0 r1 (by decide +kernel) er1) qv_RL_239 ⟨rfl, rfl, (Nat.le_of_ble_eq_true rfl), (Nat.le_of_ble_eq_true rfl)⟩ rfl hl.1 rfl (Nat.le_of_ble_eq_true rfl) ⟨by omega, by omega⟩ dL_law_1520 (fun H locs G => ?_)
  refine lv_aload_n hx hb dL_law_1523 rfl (lv_at hl 2 rfl) ?_
  obtain ⟨r2, er2, hsp⟩ := hk_b hsp
  refine hk_callVi (As := []) (rest := [.int r1.1]) F9 G (by decide +kernel) hkc_9 rfl (kX12_day l g (hk_EE 232 229) F n r1.2 221 r2 (by decide +kernel) er2) qv_RL_242 ⟨rfl, rfl, (Nat.le_of_ble_eq_true rfl), (Nat.le_of_ble_eq_true rfl)⟩ rfl hl.1 rfl (Nat.le_of_ble_eq_true rfl) ⟨by omega, by omega⟩ dL_law_1524 (fun H locs G => ?_)
  refine lv_icmp_eq (tgt := 3152) hx hb dL_law_1527 (by decide) (fun c3 => ?_) (fun c3 => ?_)
  · have hsp := hk_t c3 hsp
    obtain rfl := hk_s hsp
    exact W.widen (by omega) (by omega) (kk n H locs ls G (lv_sub hl [0, 1, 2, 3, 4] rfl))
  · have hsp := hk_f c3 hsp
    exact nomatch hsp
def mop_26 (F : Nat) (S : hk_S) (p1 p2 p3 p4 p5 : Int32) : Option hk_S :=
(mL_humidityAt (hk_EE 232 229) F S 0 p1 231).bind (fun r1 => (mX12_humidityAt (hk_EE 232 229) F r1.2 221 p1).bind (fun r2 => (mX12_thrown (hk_EE 232 229) F r2.2 221).bind (fun r3 => if r3.1 = r1.1 then (if ¬ r1.1 = 0 then (some r3.2) else (if hk_ok 0 ((hk_EE 232 229).2.2.1 231) then (if (lg_cmp ((r3.2 231 0).toInt64) ((r2.1 : Int32).toInt64)) = 0 then (some r3.2) else (none)) else none)) else (none))))
set_option maxHeartbeats 4000000 in
set_option maxRecDepth 100000 in
theorem kop_26 (hst : l.stackTraces = false) (hC : hk_LC p s m meth c b L xs g) (F : Nat) {n : Nat} {S : hk_S} {H : Heap} {locs : List Loc} {ls : Array Slot} {cells slots : Nat} {i : Int32} (hi : ∀ k : Nat, k < 6 → vp_in (i + nI k) L) (hf : cells + 8 ≤ room_1.cells ∧ slots + 48 ≤ room_1.slots) (G : hk_GG g (hk_EE 232 229) S n s H locs) (hl : lv_has ls 9 [(0, .ref b), (1, .ref (g.1 + 0)), (2, .ref (g.1 + 221)), (3, .ref (g.1 + 231)), (4, .int i)]) (o : hk_S) (hsp : mop_26 F S (xs (i + 1).toNatClampNeg) (xs (i + 2).toNatClampNeg) (xs (i + 3).toNatClampNeg) (xs (i + 4).toNatClampNeg) (xs (i + 5).toNatClampNeg) = some o) (kk : ∀ (n1 : Nat) (H1 : Heap) (locs1 : List Loc) (ls1 : Array Slot), hk_GG g (hk_EE 232 229) o n1 s H1 locs1 → lv_has ls1 9 [(0, .ref b), (1, .ref (g.1 + 0)), (2, .ref (g.1 + 221)), (3, .ref (g.1 + 231)), (4, .int i)] → W p l e room_1 s m #[Value.ref b] below meth c H1 locs1 (cells + 8) (slots + 48) Q (F0 m 3152 ls1 [])) : W p l e room_1 s m #[Value.ref b] below meth c H locs cells slots Q (F0 m 1532 ls []) := by
  have hfc := hf.1
  have hfs := hf.2
  have F9 := hC.1
  have hx := F9.1
  have hb := F9.2.1
  generalize hp1 : xs (i + 1).toNatClampNeg = p1 at hsp
  generalize hp2 : xs (i + 2).toNatClampNeg = p2 at hsp
  generalize hp3 : xs (i + 3).toNatClampNeg = p3 at hsp
  generalize hp4 : xs (i + 4).toNatClampNeg = p4 at hsp
  generalize hp5 : xs (i + 5).toNatClampNeg = p5 at hsp
  unfold mop_26 at hsp
  refine lv_aload_n hx hb dL_law_1532 rfl (lv_at hl 1 rfl) ?_
  refine lv_aload_n hx hb dL_law_1533 rfl (lv_at hl 0 rfl) ?_
  refine lv_iload hx hb dL_law_1534 (lv_at hl 4 rfl) ?_
  refine lv_iconst (v := 1) hx hb dL_law_1536 (by decide) ?_
  refine lv_iadd hx hb dL_law_1537 ?_
  refine va_sld hx hb hC.2.2.1 hC.2.2.2.1 hC.2.2.2.2 G.2.1 (hi 1 (by decide)) dL_law_1538 ?_
  rw [hp1]
  refine lv_aload_n hx hb dL_law_1539 rfl (lv_at hl 3 rfl) ?_
  obtain ⟨r1, er1, hsp⟩ := hk_b hsp
  refine hk_callW (As := [.ref (g.1 + 0), .int p1, .ref (g.1 + 231)]) (rest := []) F9 G (kL_humidityAt l hst g (hk_EE 232 229) F n S 0 p1 231 r1 (by decide +kernel) (by decide +kernel) er1) qW_243 ⟨rfl, rfl, (Nat.le_of_ble_eq_true rfl), (Nat.le_of_ble_eq_true rfl)⟩ rfl hl.1 rfl (Nat.le_of_ble_eq_true rfl) ⟨by omega, by omega⟩ dL_law_1540 (fun n H locs G => ?_)
  refine lv_istore (lv' := [(5, .int r1.1), (0, .ref b), (1, .ref (g.1 + 0)), (2, .ref (g.1 + 221)), (3, .ref (g.1 + 231)), (4, .int i)]) hx hb dL_law_1543  hl (by decide) rfl (fun ls hl => ?_)
  refine lv_aload_n hx hb dL_law_1545 rfl (lv_at hl 3 rfl) ?_
  refine lv_aload_n hx hb dL_law_1546 rfl (lv_at hl 1 rfl) ?_
  refine lv_iload hx hb dL_law_1547 (lv_at hl 5 rfl) ?_
  refine lv_iconst (v := 1) hx hb dL_law_1549 (by decide) ?_
  refine lv_iadd hx hb dL_law_1550 ?_
  refine va_sld hx hb hC.2.2.1 hC.2.2.2.1 hC.2.2.2.2 G.2.1 (hi 1 (by decide)) dL_law_1551 ?_
  rw [hp1]
  obtain ⟨r2, er2, hsp⟩ := hk_b hsp
  refine hk_callVi (As := [.int p1]) (rest := []) F9 G (by decide +kernel) hkc_9 rfl (kX12_humidityAt l g (hk_EE 232 229) F n r1.2 221 p1 r2 (by decide +kernel) er2) qv_RL_245 ⟨rfl, rfl, (Nat.le_of_ble_eq_true rfl), (Nat.le_of_ble_eq_true rfl)⟩ rfl hl.1 rfl (Nat.le_of_ble_eq_true rfl) ⟨by omega, by omega⟩ dL_law_1552 (fun H locs G => ?_)
  refine lv_istore (lv' := [(6, .int r2.1), (5, .int r1.1), (0, .ref b), (1, .ref (g.1 + 0)), (2, .ref (g.1 + 221)), (3, .ref (g.1 + 231)), (4, .int i)]) hx hb dL_law_1555  hl (by decide) rfl (fun ls hl => ?_)
  refine lv_aload_n hx hb dL_law_1557 rfl (lv_at hl 4 rfl) ?_
  obtain ⟨r3, er3, hsp⟩ := hk_b hsp
  refine hk_callVi (As := []) (rest := []) F9 G (by decide +kernel) hkc_9 rfl (kX12_thrown l g (hk_EE 232 229) F n r2.2 221 r3 (by decide +kernel) er3) qv_RL_157 ⟨rfl, rfl, (Nat.le_of_ble_eq_true rfl), (Nat.le_of_ble_eq_true rfl)⟩ rfl hl.1 rfl (Nat.le_of_ble_eq_true rfl) ⟨by omega, by omega⟩ dL_law_1558 (fun H locs G => ?_)
  refine lv_iload hx hb dL_law_1561 (lv_at hl 1 rfl) ?_
  refine lv_icmp_eq (tgt := 1568) hx hb dL_law_1563 (by decide) (fun c4 => ?_) (fun c4 => ?_)
  · have hsp := hk_t c4 hsp
    refine lv_iload hx hb dL_law_1568 (lv_at hl 1 rfl) ?_
    refine lv_if_ne (tgt := 1585) hx hb dL_law_1570 (by decide) (fun c5 => ?_) (fun c5 => ?_)
    · have hsp := hk_t c5 hsp
      refine lv_goto (tgt := 3152) hx hb dL_law_1585 (by decide) ?_
      obtain rfl := hk_s hsp
      exact W.widen (by omega) (by omega) (kk n H locs ls G (lv_sub hl [2, 3, 4, 5, 6] rfl))
    · have hsp := hk_g c5 hsp
      refine lv_aload_n hx hb dL_law_1573 rfl (lv_at hl 5 rfl) ?_
      refine lv_iconst (v := 0) hx hb dL_law_1574 (by decide) ?_
      obtain ⟨q6, hsp⟩ := hk_k hsp
      refine hk_lald (j := 0) F9 G (by decide +kernel) rfl q6 (by decide) dL_law_1575 ?_
      refine lv_iload hx hb dL_law_1576 (lv_at hl 0 rfl) ?_
      refine lv_i2l (v := (r2.1 : Int32).toInt64) hx hb dL_law_1578 rfl ?_
      refine W.lcmp hx hb dL_law_1579 ?_
      refine lv_if_eq (tgt := 1585) hx hb dL_law_1580 (by decide) (fun c7 => ?_) (fun c7 => ?_)
      · have hsp := hk_t c7 hsp
        refine lv_goto (tgt := 3152) hx hb dL_law_1585 (by decide) ?_
        obtain rfl := hk_s hsp
        exact W.widen (by omega) (by omega) (kk n H locs ls G (lv_sub hl [2, 3, 4, 5, 6] rfl))
      · have hsp := hk_f c7 hsp
        exact nomatch hsp
  · have hsp := hk_f c4 hsp
    exact nomatch hsp
def mop_27 (F : Nat) (S : hk_S) (p1 p2 p3 p4 p5 : Int32) : Option hk_S :=
(mX11_dryness (hk_EE 232 229) F S 0).bind (fun r1 => (mX12_dryness (hk_EE 232 229) F r1.2 221).bind (fun r2 => if r1.1 = r2.1 then (some r2.2) else (none)))
set_option maxHeartbeats 4000000 in
set_option maxRecDepth 100000 in
theorem kop_27 (hst : l.stackTraces = false) (hC : hk_LC p s m meth c b L xs g) (F : Nat) {n : Nat} {S : hk_S} {H : Heap} {locs : List Loc} {ls : Array Slot} {cells slots : Nat} {i : Int32} (hi : ∀ k : Nat, k < 6 → vp_in (i + nI k) L) (hf : cells + 8 ≤ room_1.cells ∧ slots + 48 ≤ room_1.slots) (G : hk_GG g (hk_EE 232 229) S n s H locs) (hl : lv_has ls 9 [(0, .ref b), (1, .ref (g.1 + 0)), (2, .ref (g.1 + 221)), (3, .ref (g.1 + 231)), (4, .int i)]) (o : hk_S) (hsp : mop_27 F S (xs (i + 1).toNatClampNeg) (xs (i + 2).toNatClampNeg) (xs (i + 3).toNatClampNeg) (xs (i + 4).toNatClampNeg) (xs (i + 5).toNatClampNeg) = some o) (kk : ∀ (n1 : Nat) (H1 : Heap) (locs1 : List Loc) (ls1 : Array Slot), hk_GG g (hk_EE 232 229) o n1 s H1 locs1 → lv_has ls1 9 [(0, .ref b), (1, .ref (g.1 + 0)), (2, .ref (g.1 + 221)), (3, .ref (g.1 + 231)), (4, .int i)] → W p l e room_1 s m #[Value.ref b] below meth c H1 locs1 (cells + 8) (slots + 48) Q (F0 m 3152 ls1 [])) : W p l e room_1 s m #[Value.ref b] below meth c H locs cells slots Q (F0 m 1588 ls []) := by
  have hfc := hf.1
  have hfs := hf.2
  have F9 := hC.1
  have hx := F9.1
  have hb := F9.2.1
  generalize hp1 : xs (i + 1).toNatClampNeg = p1 at hsp
  generalize hp2 : xs (i + 2).toNatClampNeg = p2 at hsp
  generalize hp3 : xs (i + 3).toNatClampNeg = p3 at hsp
  generalize hp4 : xs (i + 4).toNatClampNeg = p4 at hsp
  generalize hp5 : xs (i + 5).toNatClampNeg = p5 at hsp
  unfold mop_27 at hsp
  refine lv_aload_n hx hb dL_law_1588 rfl (lv_at hl 1 rfl) ?_
  obtain ⟨r1, er1, hsp⟩ := hk_b hsp
  refine hk_callVi (As := []) (rest := []) F9 G (by decide +kernel) hkc_8 rfl (kX11_dryness l g (hk_EE 232 229) F n S 0 r1 (by decide +kernel) er1) qv_RL_246 ⟨rfl, rfl, (Nat.le_of_ble_eq_true rfl), (Nat.le_of_ble_eq_true rfl)⟩ rfl hl.1 rfl (Nat.le_of_ble_eq_true rfl) ⟨by omega, by omega⟩ dL_law_1589 (fun H locs G => ?_)
  refine lv_aload_n hx hb dL_law_1592 rfl (lv_at hl 2 rfl) ?_
  obtain ⟨r2, er2, hsp⟩ := hk_b hsp
  refine hk_callVi (As := []) (rest := [.int r1.1]) F9 G (by decide +kernel) hkc_9 rfl (kX12_dryness l g (hk_EE 232 229) F n r1.2 221 r2 (by decide +kernel) er2) qv_RL_249 ⟨rfl, rfl, (Nat.le_of_ble_eq_true rfl), (Nat.le_of_ble_eq_true rfl)⟩ rfl hl.1 rfl (Nat.le_of_ble_eq_true rfl) ⟨by omega, by omega⟩ dL_law_1593 (fun H locs G => ?_)
  refine lv_icmp_eq (tgt := 3152) hx hb dL_law_1596 (by decide) (fun c3 => ?_) (fun c3 => ?_)
  · have hsp := hk_t c3 hsp
    obtain rfl := hk_s hsp
    exact W.widen (by omega) (by omega) (kk n H locs ls G (lv_sub hl [0, 1, 2, 3, 4] rfl))
  · have hsp := hk_f c3 hsp
    exact nomatch hsp
def mop_28 (F : Nat) (S : hk_S) (p1 p2 p3 p4 p5 : Int32) : Option hk_S :=
(mX11_hoursToMonsoon (hk_EE 232 229) F S 0).bind (fun r1 => (mX12_hoursToMonsoon (hk_EE 232 229) F r1.2 221).bind (fun r2 => if r1.1 = r2.1 then (some r2.2) else (none)))
set_option maxHeartbeats 4000000 in
set_option maxRecDepth 100000 in
theorem kop_28 (hst : l.stackTraces = false) (hC : hk_LC p s m meth c b L xs g) (F : Nat) {n : Nat} {S : hk_S} {H : Heap} {locs : List Loc} {ls : Array Slot} {cells slots : Nat} {i : Int32} (hi : ∀ k : Nat, k < 6 → vp_in (i + nI k) L) (hf : cells + 8 ≤ room_1.cells ∧ slots + 48 ≤ room_1.slots) (G : hk_GG g (hk_EE 232 229) S n s H locs) (hl : lv_has ls 9 [(0, .ref b), (1, .ref (g.1 + 0)), (2, .ref (g.1 + 221)), (3, .ref (g.1 + 231)), (4, .int i)]) (o : hk_S) (hsp : mop_28 F S (xs (i + 1).toNatClampNeg) (xs (i + 2).toNatClampNeg) (xs (i + 3).toNatClampNeg) (xs (i + 4).toNatClampNeg) (xs (i + 5).toNatClampNeg) = some o) (kk : ∀ (n1 : Nat) (H1 : Heap) (locs1 : List Loc) (ls1 : Array Slot), hk_GG g (hk_EE 232 229) o n1 s H1 locs1 → lv_has ls1 9 [(0, .ref b), (1, .ref (g.1 + 0)), (2, .ref (g.1 + 221)), (3, .ref (g.1 + 231)), (4, .int i)] → W p l e room_1 s m #[Value.ref b] below meth c H1 locs1 (cells + 8) (slots + 48) Q (F0 m 3152 ls1 [])) : W p l e room_1 s m #[Value.ref b] below meth c H locs cells slots Q (F0 m 1601 ls []) := by
  have hfc := hf.1
  have hfs := hf.2
  have F9 := hC.1
  have hx := F9.1
  have hb := F9.2.1
  generalize hp1 : xs (i + 1).toNatClampNeg = p1 at hsp
  generalize hp2 : xs (i + 2).toNatClampNeg = p2 at hsp
  generalize hp3 : xs (i + 3).toNatClampNeg = p3 at hsp
  generalize hp4 : xs (i + 4).toNatClampNeg = p4 at hsp
  generalize hp5 : xs (i + 5).toNatClampNeg = p5 at hsp
  unfold mop_28 at hsp
  refine lv_aload_n hx hb dL_law_1601 rfl (lv_at hl 1 rfl) ?_
  obtain ⟨r1, er1, hsp⟩ := hk_b hsp
  refine hk_callVi (As := []) (rest := []) F9 G (by decide +kernel) hkc_8 rfl (kX11_hoursToMonsoon l g (hk_EE 232 229) F n S 0 r1 (by decide +kernel) er1) qv_RL_250 ⟨rfl, rfl, (Nat.le_of_ble_eq_true rfl), (Nat.le_of_ble_eq_true rfl)⟩ rfl hl.1 rfl (Nat.le_of_ble_eq_true rfl) ⟨by omega, by omega⟩ dL_law_1602 (fun H locs G => ?_)
  refine lv_aload_n hx hb dL_law_1605 rfl (lv_at hl 2 rfl) ?_
  obtain ⟨r2, er2, hsp⟩ := hk_b hsp
  refine hk_callVi (As := []) (rest := [.int r1.1]) F9 G (by decide +kernel) hkc_9 rfl (kX12_hoursToMonsoon l g (hk_EE 232 229) F n r1.2 221 r2 (by decide +kernel) er2) qv_RL_253 ⟨rfl, rfl, (Nat.le_of_ble_eq_true rfl), (Nat.le_of_ble_eq_true rfl)⟩ rfl hl.1 rfl (Nat.le_of_ble_eq_true rfl) ⟨by omega, by omega⟩ dL_law_1606 (fun H locs G => ?_)
  refine lv_icmp_eq (tgt := 3152) hx hb dL_law_1609 (by decide) (fun c3 => ?_) (fun c3 => ?_)
  · have hsp := hk_t c3 hsp
    obtain rfl := hk_s hsp
    exact W.widen (by omega) (by omega) (kk n H locs ls G (lv_sub hl [0, 1, 2, 3, 4] rfl))
  · have hsp := hk_f c3 hsp
    exact nomatch hsp
def mop_29 (F : Nat) (S : hk_S) (p1 p2 p3 p4 p5 : Int32) : Option hk_S :=
(mX11_isMonsoon (hk_EE 232 229) F S 0).bind (fun r1 => (mX12_isMonsoon (hk_EE 232 229) F r1.2 221).bind (fun r2 => if r1.1 = r2.1 then (some r2.2) else (none)))
set_option maxHeartbeats 4000000 in
set_option maxRecDepth 100000 in
theorem kop_29 (hst : l.stackTraces = false) (hC : hk_LC p s m meth c b L xs g) (F : Nat) {n : Nat} {S : hk_S} {H : Heap} {locs : List Loc} {ls : Array Slot} {cells slots : Nat} {i : Int32} (hi : ∀ k : Nat, k < 6 → vp_in (i + nI k) L) (hf : cells + 8 ≤ room_1.cells ∧ slots + 48 ≤ room_1.slots) (G : hk_GG g (hk_EE 232 229) S n s H locs) (hl : lv_has ls 9 [(0, .ref b), (1, .ref (g.1 + 0)), (2, .ref (g.1 + 221)), (3, .ref (g.1 + 231)), (4, .int i)]) (o : hk_S) (hsp : mop_29 F S (xs (i + 1).toNatClampNeg) (xs (i + 2).toNatClampNeg) (xs (i + 3).toNatClampNeg) (xs (i + 4).toNatClampNeg) (xs (i + 5).toNatClampNeg) = some o) (kk : ∀ (n1 : Nat) (H1 : Heap) (locs1 : List Loc) (ls1 : Array Slot), hk_GG g (hk_EE 232 229) o n1 s H1 locs1 → lv_has ls1 9 [(0, .ref b), (1, .ref (g.1 + 0)), (2, .ref (g.1 + 221)), (3, .ref (g.1 + 231)), (4, .int i)] → W p l e room_1 s m #[Value.ref b] below meth c H1 locs1 (cells + 8) (slots + 48) Q (F0 m 3152 ls1 [])) : W p l e room_1 s m #[Value.ref b] below meth c H locs cells slots Q (F0 m 1614 ls []) := by
  have hfc := hf.1
  have hfs := hf.2
  have F9 := hC.1
  have hx := F9.1
  have hb := F9.2.1
  generalize hp1 : xs (i + 1).toNatClampNeg = p1 at hsp
  generalize hp2 : xs (i + 2).toNatClampNeg = p2 at hsp
  generalize hp3 : xs (i + 3).toNatClampNeg = p3 at hsp
  generalize hp4 : xs (i + 4).toNatClampNeg = p4 at hsp
  generalize hp5 : xs (i + 5).toNatClampNeg = p5 at hsp
  unfold mop_29 at hsp
  refine lv_aload_n hx hb dL_law_1614 rfl (lv_at hl 1 rfl) ?_
  obtain ⟨r1, er1, hsp⟩ := hk_b hsp
  refine hk_callVi (As := []) (rest := []) F9 G (by decide +kernel) hkc_8 rfl (kX11_isMonsoon l g (hk_EE 232 229) F n S 0 r1 (by decide +kernel) er1) qv_RL_254 ⟨rfl, rfl, (Nat.le_of_ble_eq_true rfl), (Nat.le_of_ble_eq_true rfl)⟩ rfl hl.1 rfl (Nat.le_of_ble_eq_true rfl) ⟨by omega, by omega⟩ dL_law_1615 (fun H locs G => ?_)
  refine lv_aload_n hx hb dL_law_1618 rfl (lv_at hl 2 rfl) ?_
  obtain ⟨r2, er2, hsp⟩ := hk_b hsp
  refine hk_callVi (As := []) (rest := [.int r1.1]) F9 G (by decide +kernel) hkc_9 rfl (kX12_isMonsoon l g (hk_EE 232 229) F n r1.2 221 r2 (by decide +kernel) er2) qv_RL_258 ⟨rfl, rfl, (Nat.le_of_ble_eq_true rfl), (Nat.le_of_ble_eq_true rfl)⟩ rfl hl.1 rfl (Nat.le_of_ble_eq_true rfl) ⟨by omega, by omega⟩ dL_law_1619 (fun H locs G => ?_)
  refine lv_icmp_eq (tgt := 3152) hx hb dL_law_1622 (by decide) (fun c3 => ?_) (fun c3 => ?_)
  · have hsp := hk_t c3 hsp
    obtain rfl := hk_s hsp
    exact W.widen (by omega) (by omega) (kk n H locs ls G (lv_sub hl [0, 1, 2, 3, 4] rfl))
  · have hsp := hk_f c3 hsp
    exact nomatch hsp
def mop_30 (F : Nat) (S : hk_S) (p1 p2 p3 p4 p5 : Int32) : Option hk_S :=
(mX11_troughCount (hk_EE 232 229) F S 0).bind (fun r1 => (mX12_troughCount (hk_EE 232 229) F r1.2 221).bind (fun r2 => if r1.1 = r2.1 then (some r2.2) else (none)))
set_option maxHeartbeats 4000000 in
set_option maxRecDepth 100000 in
theorem kop_30 (hst : l.stackTraces = false) (hC : hk_LC p s m meth c b L xs g) (F : Nat) {n : Nat} {S : hk_S} {H : Heap} {locs : List Loc} {ls : Array Slot} {cells slots : Nat} {i : Int32} (hi : ∀ k : Nat, k < 6 → vp_in (i + nI k) L) (hf : cells + 8 ≤ room_1.cells ∧ slots + 48 ≤ room_1.slots) (G : hk_GG g (hk_EE 232 229) S n s H locs) (hl : lv_has ls 9 [(0, .ref b), (1, .ref (g.1 + 0)), (2, .ref (g.1 + 221)), (3, .ref (g.1 + 231)), (4, .int i)]) (o : hk_S) (hsp : mop_30 F S (xs (i + 1).toNatClampNeg) (xs (i + 2).toNatClampNeg) (xs (i + 3).toNatClampNeg) (xs (i + 4).toNatClampNeg) (xs (i + 5).toNatClampNeg) = some o) (kk : ∀ (n1 : Nat) (H1 : Heap) (locs1 : List Loc) (ls1 : Array Slot), hk_GG g (hk_EE 232 229) o n1 s H1 locs1 → lv_has ls1 9 [(0, .ref b), (1, .ref (g.1 + 0)), (2, .ref (g.1 + 221)), (3, .ref (g.1 + 231)), (4, .int i)] → W p l e room_1 s m #[Value.ref b] below meth c H1 locs1 (cells + 8) (slots + 48) Q (F0 m 3152 ls1 [])) : W p l e room_1 s m #[Value.ref b] below meth c H locs cells slots Q (F0 m 1627 ls []) := by
  have hfc := hf.1
  have hfs := hf.2
  have F9 := hC.1
  have hx := F9.1
  have hb := F9.2.1
  generalize hp1 : xs (i + 1).toNatClampNeg = p1 at hsp
  generalize hp2 : xs (i + 2).toNatClampNeg = p2 at hsp
  generalize hp3 : xs (i + 3).toNatClampNeg = p3 at hsp
  generalize hp4 : xs (i + 4).toNatClampNeg = p4 at hsp
  generalize hp5 : xs (i + 5).toNatClampNeg = p5 at hsp
  unfold mop_30 at hsp
  refine lv_aload_n hx hb dL_law_1627 rfl (lv_at hl 1 rfl) ?_
  obtain ⟨r1, er1, hsp⟩ := hk_b hsp
  refine hk_callVi (As := []) (rest := []) F9 G (by decide +kernel) hkc_8 rfl (kX11_troughCount l g (hk_EE 232 229) F n S 0 r1 (by decide +kernel) er1) qv_RL_259 ⟨rfl, rfl, (Nat.le_of_ble_eq_true rfl), (Nat.le_of_ble_eq_true rfl)⟩ rfl hl.1 rfl (Nat.le_of_ble_eq_true rfl) ⟨by omega, by omega⟩ dL_law_1628 (fun H locs G => ?_)
  refine lv_aload_n hx hb dL_law_1631 rfl (lv_at hl 2 rfl) ?_
  obtain ⟨r2, er2, hsp⟩ := hk_b hsp
  refine hk_callVi (As := []) (rest := [.int r1.1]) F9 G (by decide +kernel) hkc_9 rfl (kX12_troughCount l g (hk_EE 232 229) F n r1.2 221 r2 (by decide +kernel) er2) qv_RL_262 ⟨rfl, rfl, (Nat.le_of_ble_eq_true rfl), (Nat.le_of_ble_eq_true rfl)⟩ rfl hl.1 rfl (Nat.le_of_ble_eq_true rfl) ⟨by omega, by omega⟩ dL_law_1632 (fun H locs G => ?_)
  refine lv_icmp_eq (tgt := 3152) hx hb dL_law_1635 (by decide) (fun c3 => ?_) (fun c3 => ?_)
  · have hsp := hk_t c3 hsp
    obtain rfl := hk_s hsp
    exact W.widen (by omega) (by omega) (kk n H locs ls G (lv_sub hl [0, 1, 2, 3, 4] rfl))
  · have hsp := hk_f c3 hsp
    exact nomatch hsp
def mop_31 (F : Nat) (S : hk_S) (p1 p2 p3 p4 p5 : Int32) : Option hk_S :=
(mX11_probeCount (hk_EE 232 229) F S 0).bind (fun r1 => (mX12_probeCount (hk_EE 232 229) F r1.2 221).bind (fun r2 => if r1.1 = r2.1 then (some r2.2) else (none)))
set_option maxHeartbeats 4000000 in
set_option maxRecDepth 100000 in
theorem kop_31 (hst : l.stackTraces = false) (hC : hk_LC p s m meth c b L xs g) (F : Nat) {n : Nat} {S : hk_S} {H : Heap} {locs : List Loc} {ls : Array Slot} {cells slots : Nat} {i : Int32} (hi : ∀ k : Nat, k < 6 → vp_in (i + nI k) L) (hf : cells + 8 ≤ room_1.cells ∧ slots + 48 ≤ room_1.slots) (G : hk_GG g (hk_EE 232 229) S n s H locs) (hl : lv_has ls 9 [(0, .ref b), (1, .ref (g.1 + 0)), (2, .ref (g.1 + 221)), (3, .ref (g.1 + 231)), (4, .int i)]) (o : hk_S) (hsp : mop_31 F S (xs (i + 1).toNatClampNeg) (xs (i + 2).toNatClampNeg) (xs (i + 3).toNatClampNeg) (xs (i + 4).toNatClampNeg) (xs (i + 5).toNatClampNeg) = some o) (kk : ∀ (n1 : Nat) (H1 : Heap) (locs1 : List Loc) (ls1 : Array Slot), hk_GG g (hk_EE 232 229) o n1 s H1 locs1 → lv_has ls1 9 [(0, .ref b), (1, .ref (g.1 + 0)), (2, .ref (g.1 + 221)), (3, .ref (g.1 + 231)), (4, .int i)] → W p l e room_1 s m #[Value.ref b] below meth c H1 locs1 (cells + 8) (slots + 48) Q (F0 m 3152 ls1 [])) : W p l e room_1 s m #[Value.ref b] below meth c H locs cells slots Q (F0 m 1640 ls []) := by
  have hfc := hf.1
  have hfs := hf.2
  have F9 := hC.1
  have hx := F9.1
  have hb := F9.2.1
  generalize hp1 : xs (i + 1).toNatClampNeg = p1 at hsp
  generalize hp2 : xs (i + 2).toNatClampNeg = p2 at hsp
  generalize hp3 : xs (i + 3).toNatClampNeg = p3 at hsp
  generalize hp4 : xs (i + 4).toNatClampNeg = p4 at hsp
  generalize hp5 : xs (i + 5).toNatClampNeg = p5 at hsp
  unfold mop_31 at hsp
  refine lv_aload_n hx hb dL_law_1640 rfl (lv_at hl 1 rfl) ?_
  obtain ⟨r1, er1, hsp⟩ := hk_b hsp
  refine hk_callVi (As := []) (rest := []) F9 G (by decide +kernel) hkc_8 rfl (kX11_probeCount l g (hk_EE 232 229) F n S 0 r1 (by decide +kernel) er1) qv_RL_263 ⟨rfl, rfl, (Nat.le_of_ble_eq_true rfl), (Nat.le_of_ble_eq_true rfl)⟩ rfl hl.1 rfl (Nat.le_of_ble_eq_true rfl) ⟨by omega, by omega⟩ dL_law_1641 (fun H locs G => ?_)
  refine lv_aload_n hx hb dL_law_1644 rfl (lv_at hl 2 rfl) ?_
  obtain ⟨r2, er2, hsp⟩ := hk_b hsp
  refine hk_callVi (As := []) (rest := [.int r1.1]) F9 G (by decide +kernel) hkc_9 rfl (kX12_probeCount l g (hk_EE 232 229) F n r1.2 221 r2 (by decide +kernel) er2) qv_RL_266 ⟨rfl, rfl, (Nat.le_of_ble_eq_true rfl), (Nat.le_of_ble_eq_true rfl)⟩ rfl hl.1 rfl (Nat.le_of_ble_eq_true rfl) ⟨by omega, by omega⟩ dL_law_1645 (fun H locs G => ?_)
  refine lv_icmp_eq (tgt := 3152) hx hb dL_law_1648 (by decide) (fun c3 => ?_) (fun c3 => ?_)
  · have hsp := hk_t c3 hsp
    obtain rfl := hk_s hsp
    exact W.widen (by omega) (by omega) (kk n H locs ls G (lv_sub hl [0, 1, 2, 3, 4] rfl))
  · have hsp := hk_f c3 hsp
    exact nomatch hsp
def mop_32 (F : Nat) (S : hk_S) (p1 p2 p3 p4 p5 : Int32) : Option hk_S :=
(mL_capacity (hk_EE 232 229) F S 0 p1 231).bind (fun r1 => (mX12_capacity (hk_EE 232 229) F r1.2 221 p1).bind (fun r2 => (mX12_thrown (hk_EE 232 229) F r2.2 221).bind (fun r3 => if r3.1 = r1.1 then (if ¬ r1.1 = 0 then (some r3.2) else (if hk_ok 0 ((hk_EE 232 229).2.2.1 231) then (if (lg_cmp ((r3.2 231 0).toInt64) ((r2.1 : Int32).toInt64)) = 0 then (some r3.2) else (none)) else none)) else (none))))
set_option maxHeartbeats 4000000 in
set_option maxRecDepth 100000 in
theorem kop_32 (hst : l.stackTraces = false) (hC : hk_LC p s m meth c b L xs g) (F : Nat) {n : Nat} {S : hk_S} {H : Heap} {locs : List Loc} {ls : Array Slot} {cells slots : Nat} {i : Int32} (hi : ∀ k : Nat, k < 6 → vp_in (i + nI k) L) (hf : cells + 8 ≤ room_1.cells ∧ slots + 48 ≤ room_1.slots) (G : hk_GG g (hk_EE 232 229) S n s H locs) (hl : lv_has ls 9 [(0, .ref b), (1, .ref (g.1 + 0)), (2, .ref (g.1 + 221)), (3, .ref (g.1 + 231)), (4, .int i)]) (o : hk_S) (hsp : mop_32 F S (xs (i + 1).toNatClampNeg) (xs (i + 2).toNatClampNeg) (xs (i + 3).toNatClampNeg) (xs (i + 4).toNatClampNeg) (xs (i + 5).toNatClampNeg) = some o) (kk : ∀ (n1 : Nat) (H1 : Heap) (locs1 : List Loc) (ls1 : Array Slot), hk_GG g (hk_EE 232 229) o n1 s H1 locs1 → lv_has ls1 9 [(0, .ref b), (1, .ref (g.1 + 0)), (2, .ref (g.1 + 221)), (3, .ref (g.1 + 231)), (4, .int i)] → W p l e room_1 s m #[Value.ref b] below meth c H1 locs1 (cells + 8) (slots + 48) Q (F0 m 3152 ls1 [])) : W p l e room_1 s m #[Value.ref b] below meth c H locs cells slots Q (F0 m 1653 ls []) := by
  have hfc := hf.1
  have hfs := hf.2
  have F9 := hC.1
  have hx := F9.1
  have hb := F9.2.1
  generalize hp1 : xs (i + 1).toNatClampNeg = p1 at hsp
  generalize hp2 : xs (i + 2).toNatClampNeg = p2 at hsp
  generalize hp3 : xs (i + 3).toNatClampNeg = p3 at hsp
  generalize hp4 : xs (i + 4).toNatClampNeg = p4 at hsp
  generalize hp5 : xs (i + 5).toNatClampNeg = p5 at hsp
  unfold mop_32 at hsp
  refine lv_aload_n hx hb dL_law_1653 rfl (lv_at hl 1 rfl) ?_
  refine lv_aload_n hx hb dL_law_1654 rfl (lv_at hl 0 rfl) ?_
  refine lv_iload hx hb dL_law_1655 (lv_at hl 4 rfl) ?_
  refine lv_iconst (v := 1) hx hb dL_law_1657 (by decide) ?_
  refine lv_iadd hx hb dL_law_1658 ?_
  refine va_sld hx hb hC.2.2.1 hC.2.2.2.1 hC.2.2.2.2 G.2.1 (hi 1 (by decide)) dL_law_1659 ?_
  rw [hp1]
  refine lv_aload_n hx hb dL_law_1660 rfl (lv_at hl 3 rfl) ?_
  obtain ⟨r1, er1, hsp⟩ := hk_b hsp
  refine hk_callW (As := [.ref (g.1 + 0), .int p1, .ref (g.1 + 231)]) (rest := []) F9 G (kL_capacity l hst g (hk_EE 232 229) F n S 0 p1 231 r1 (by decide +kernel) (by decide +kernel) er1) qW_267 ⟨rfl, rfl, (Nat.le_of_ble_eq_true rfl), (Nat.le_of_ble_eq_true rfl)⟩ rfl hl.1 rfl (Nat.le_of_ble_eq_true rfl) ⟨by omega, by omega⟩ dL_law_1661 (fun n H locs G => ?_)
  refine lv_istore (lv' := [(5, .int r1.1), (0, .ref b), (1, .ref (g.1 + 0)), (2, .ref (g.1 + 221)), (3, .ref (g.1 + 231)), (4, .int i)]) hx hb dL_law_1664  hl (by decide) rfl (fun ls hl => ?_)
  refine lv_aload_n hx hb dL_law_1666 rfl (lv_at hl 3 rfl) ?_
  refine lv_aload_n hx hb dL_law_1667 rfl (lv_at hl 1 rfl) ?_
  refine lv_iload hx hb dL_law_1668 (lv_at hl 5 rfl) ?_
  refine lv_iconst (v := 1) hx hb dL_law_1670 (by decide) ?_
  refine lv_iadd hx hb dL_law_1671 ?_
  refine va_sld hx hb hC.2.2.1 hC.2.2.2.1 hC.2.2.2.2 G.2.1 (hi 1 (by decide)) dL_law_1672 ?_
  rw [hp1]
  obtain ⟨r2, er2, hsp⟩ := hk_b hsp
  refine hk_callVi (As := [.int p1]) (rest := []) F9 G (by decide +kernel) hkc_9 rfl (kX12_capacity l g (hk_EE 232 229) F n r1.2 221 p1 r2 (by decide +kernel) er2) qv_RL_269 ⟨rfl, rfl, (Nat.le_of_ble_eq_true rfl), (Nat.le_of_ble_eq_true rfl)⟩ rfl hl.1 rfl (Nat.le_of_ble_eq_true rfl) ⟨by omega, by omega⟩ dL_law_1673 (fun H locs G => ?_)
  refine lv_istore (lv' := [(6, .int r2.1), (5, .int r1.1), (0, .ref b), (1, .ref (g.1 + 0)), (2, .ref (g.1 + 221)), (3, .ref (g.1 + 231)), (4, .int i)]) hx hb dL_law_1676  hl (by decide) rfl (fun ls hl => ?_)
  refine lv_aload_n hx hb dL_law_1678 rfl (lv_at hl 4 rfl) ?_
  obtain ⟨r3, er3, hsp⟩ := hk_b hsp
  refine hk_callVi (As := []) (rest := []) F9 G (by decide +kernel) hkc_9 rfl (kX12_thrown l g (hk_EE 232 229) F n r2.2 221 r3 (by decide +kernel) er3) qv_RL_157 ⟨rfl, rfl, (Nat.le_of_ble_eq_true rfl), (Nat.le_of_ble_eq_true rfl)⟩ rfl hl.1 rfl (Nat.le_of_ble_eq_true rfl) ⟨by omega, by omega⟩ dL_law_1679 (fun H locs G => ?_)
  refine lv_iload hx hb dL_law_1682 (lv_at hl 1 rfl) ?_
  refine lv_icmp_eq (tgt := 1689) hx hb dL_law_1684 (by decide) (fun c4 => ?_) (fun c4 => ?_)
  · have hsp := hk_t c4 hsp
    refine lv_iload hx hb dL_law_1689 (lv_at hl 1 rfl) ?_
    refine lv_if_ne (tgt := 1706) hx hb dL_law_1691 (by decide) (fun c5 => ?_) (fun c5 => ?_)
    · have hsp := hk_t c5 hsp
      refine lv_goto (tgt := 3152) hx hb dL_law_1706 (by decide) ?_
      obtain rfl := hk_s hsp
      exact W.widen (by omega) (by omega) (kk n H locs ls G (lv_sub hl [2, 3, 4, 5, 6] rfl))
    · have hsp := hk_g c5 hsp
      refine lv_aload_n hx hb dL_law_1694 rfl (lv_at hl 5 rfl) ?_
      refine lv_iconst (v := 0) hx hb dL_law_1695 (by decide) ?_
      obtain ⟨q6, hsp⟩ := hk_k hsp
      refine hk_lald (j := 0) F9 G (by decide +kernel) rfl q6 (by decide) dL_law_1696 ?_
      refine lv_iload hx hb dL_law_1697 (lv_at hl 0 rfl) ?_
      refine lv_i2l (v := (r2.1 : Int32).toInt64) hx hb dL_law_1699 rfl ?_
      refine W.lcmp hx hb dL_law_1700 ?_
      refine lv_if_eq (tgt := 1706) hx hb dL_law_1701 (by decide) (fun c7 => ?_) (fun c7 => ?_)
      · have hsp := hk_t c7 hsp
        refine lv_goto (tgt := 3152) hx hb dL_law_1706 (by decide) ?_
        obtain rfl := hk_s hsp
        exact W.widen (by omega) (by omega) (kk n H locs ls G (lv_sub hl [2, 3, 4, 5, 6] rfl))
      · have hsp := hk_f c7 hsp
        exact nomatch hsp
  · have hsp := hk_f c4 hsp
    exact nomatch hsp
def mop_33 (F : Nat) (S : hk_S) (p1 p2 p3 p4 p5 : Int32) : Option hk_S :=
(mL_kilograms (hk_EE 232 229) F S 0 p1 231).bind (fun r1 => (mX12_kilograms (hk_EE 232 229) F r1.2 221 p1).bind (fun r2 => (mX12_thrown (hk_EE 232 229) F r2.2 221).bind (fun r3 => if r3.1 = r1.1 then (if ¬ r1.1 = 0 then (some r3.2) else (if hk_ok 0 ((hk_EE 232 229).2.2.1 231) then (if (lg_cmp ((r3.2 231 0).toInt64) ((r2.1 : Int32).toInt64)) = 0 then (some r3.2) else (none)) else none)) else (none))))
set_option maxHeartbeats 4000000 in
set_option maxRecDepth 100000 in
theorem kop_33 (hst : l.stackTraces = false) (hC : hk_LC p s m meth c b L xs g) (F : Nat) {n : Nat} {S : hk_S} {H : Heap} {locs : List Loc} {ls : Array Slot} {cells slots : Nat} {i : Int32} (hi : ∀ k : Nat, k < 6 → vp_in (i + nI k) L) (hf : cells + 8 ≤ room_1.cells ∧ slots + 48 ≤ room_1.slots) (G : hk_GG g (hk_EE 232 229) S n s H locs) (hl : lv_has ls 9 [(0, .ref b), (1, .ref (g.1 + 0)), (2, .ref (g.1 + 221)), (3, .ref (g.1 + 231)), (4, .int i)]) (o : hk_S) (hsp : mop_33 F S (xs (i + 1).toNatClampNeg) (xs (i + 2).toNatClampNeg) (xs (i + 3).toNatClampNeg) (xs (i + 4).toNatClampNeg) (xs (i + 5).toNatClampNeg) = some o) (kk : ∀ (n1 : Nat) (H1 : Heap) (locs1 : List Loc) (ls1 : Array Slot), hk_GG g (hk_EE 232 229) o n1 s H1 locs1 → lv_has ls1 9 [(0, .ref b), (1, .ref (g.1 + 0)), (2, .ref (g.1 + 221)), (3, .ref (g.1 + 231)), (4, .int i)] → W p l e room_1 s m #[Value.ref b] below meth c H1 locs1 (cells + 8) (slots + 48) Q (F0 m 3152 ls1 [])) : W p l e room_1 s m #[Value.ref b] below meth c H locs cells slots Q (F0 m 1709 ls []) := by
  have hfc := hf.1
  have hfs := hf.2
  have F9 := hC.1
  have hx := F9.1
  have hb := F9.2.1
  generalize hp1 : xs (i + 1).toNatClampNeg = p1 at hsp
  generalize hp2 : xs (i + 2).toNatClampNeg = p2 at hsp
  generalize hp3 : xs (i + 3).toNatClampNeg = p3 at hsp
  generalize hp4 : xs (i + 4).toNatClampNeg = p4 at hsp
  generalize hp5 : xs (i + 5).toNatClampNeg = p5 at hsp
  unfold mop_33 at hsp
  refine lv_aload_n hx hb dL_law_1709 rfl (lv_at hl 1 rfl) ?_
  refine lv_aload_n hx hb dL_law_1710 rfl (lv_at hl 0 rfl) ?_
  refine lv_iload hx hb dL_law_1711 (lv_at hl 4 rfl) ?_
  refine lv_iconst (v := 1) hx hb dL_law_1713 (by decide) ?_
  refine lv_iadd hx hb dL_law_1714 ?_
  refine va_sld hx hb hC.2.2.1 hC.2.2.2.1 hC.2.2.2.2 G.2.1 (hi 1 (by decide)) dL_law_1715 ?_
  rw [hp1]
  refine lv_aload_n hx hb dL_law_1716 rfl (lv_at hl 3 rfl) ?_
  obtain ⟨r1, er1, hsp⟩ := hk_b hsp
  refine hk_callW (As := [.ref (g.1 + 0), .int p1, .ref (g.1 + 231)]) (rest := []) F9 G (kL_kilograms l hst g (hk_EE 232 229) F n S 0 p1 231 r1 (by decide +kernel) (by decide +kernel) er1) qW_270 ⟨rfl, rfl, (Nat.le_of_ble_eq_true rfl), (Nat.le_of_ble_eq_true rfl)⟩ rfl hl.1 rfl (Nat.le_of_ble_eq_true rfl) ⟨by omega, by omega⟩ dL_law_1717 (fun n H locs G => ?_)
  refine lv_istore (lv' := [(5, .int r1.1), (0, .ref b), (1, .ref (g.1 + 0)), (2, .ref (g.1 + 221)), (3, .ref (g.1 + 231)), (4, .int i)]) hx hb dL_law_1720  hl (by decide) rfl (fun ls hl => ?_)
  refine lv_aload_n hx hb dL_law_1722 rfl (lv_at hl 3 rfl) ?_
  refine lv_aload_n hx hb dL_law_1723 rfl (lv_at hl 1 rfl) ?_
  refine lv_iload hx hb dL_law_1724 (lv_at hl 5 rfl) ?_
  refine lv_iconst (v := 1) hx hb dL_law_1726 (by decide) ?_
  refine lv_iadd hx hb dL_law_1727 ?_
  refine va_sld hx hb hC.2.2.1 hC.2.2.2.1 hC.2.2.2.2 G.2.1 (hi 1 (by decide)) dL_law_1728 ?_
  rw [hp1]
  obtain ⟨r2, er2, hsp⟩ := hk_b hsp
  refine hk_callVi (As := [.int p1]) (rest := []) F9 G (by decide +kernel) hkc_9 rfl (kX12_kilograms l g (hk_EE 232 229) F n r1.2 221 p1 r2 (by decide +kernel) er2) qv_RL_272 ⟨rfl, rfl, (Nat.le_of_ble_eq_true rfl), (Nat.le_of_ble_eq_true rfl)⟩ rfl hl.1 rfl (Nat.le_of_ble_eq_true rfl) ⟨by omega, by omega⟩ dL_law_1729 (fun H locs G => ?_)
  refine lv_istore (lv' := [(6, .int r2.1), (5, .int r1.1), (0, .ref b), (1, .ref (g.1 + 0)), (2, .ref (g.1 + 221)), (3, .ref (g.1 + 231)), (4, .int i)]) hx hb dL_law_1732  hl (by decide) rfl (fun ls hl => ?_)
  refine lv_aload_n hx hb dL_law_1734 rfl (lv_at hl 4 rfl) ?_
  obtain ⟨r3, er3, hsp⟩ := hk_b hsp
  refine hk_callVi (As := []) (rest := []) F9 G (by decide +kernel) hkc_9 rfl (kX12_thrown l g (hk_EE 232 229) F n r2.2 221 r3 (by decide +kernel) er3) qv_RL_157 ⟨rfl, rfl, (Nat.le_of_ble_eq_true rfl), (Nat.le_of_ble_eq_true rfl)⟩ rfl hl.1 rfl (Nat.le_of_ble_eq_true rfl) ⟨by omega, by omega⟩ dL_law_1735 (fun H locs G => ?_)
  refine lv_iload hx hb dL_law_1738 (lv_at hl 1 rfl) ?_
  refine lv_icmp_eq (tgt := 1745) hx hb dL_law_1740 (by decide) (fun c4 => ?_) (fun c4 => ?_)
  · have hsp := hk_t c4 hsp
    refine lv_iload hx hb dL_law_1745 (lv_at hl 1 rfl) ?_
    refine lv_if_ne (tgt := 1762) hx hb dL_law_1747 (by decide) (fun c5 => ?_) (fun c5 => ?_)
    · have hsp := hk_t c5 hsp
      refine lv_goto (tgt := 3152) hx hb dL_law_1762 (by decide) ?_
      obtain rfl := hk_s hsp
      exact W.widen (by omega) (by omega) (kk n H locs ls G (lv_sub hl [2, 3, 4, 5, 6] rfl))
    · have hsp := hk_g c5 hsp
      refine lv_aload_n hx hb dL_law_1750 rfl (lv_at hl 5 rfl) ?_
      refine lv_iconst (v := 0) hx hb dL_law_1751 (by decide) ?_
      obtain ⟨q6, hsp⟩ := hk_k hsp
      refine hk_lald (j := 0) F9 G (by decide +kernel) rfl q6 (by decide) dL_law_1752 ?_
      refine lv_iload hx hb dL_law_1753 (lv_at hl 0 rfl) ?_
      refine lv_i2l (v := (r2.1 : Int32).toInt64) hx hb dL_law_1755 rfl ?_
      refine W.lcmp hx hb dL_law_1756 ?_
      refine lv_if_eq (tgt := 1762) hx hb dL_law_1757 (by decide) (fun c7 => ?_) (fun c7 => ?_)
      · have hsp := hk_t c7 hsp
        refine lv_goto (tgt := 3152) hx hb dL_law_1762 (by decide) ?_
        obtain rfl := hk_s hsp
        exact W.widen (by omega) (by omega) (kk n H locs ls G (lv_sub hl [2, 3, 4, 5, 6] rfl))
      · have hsp := hk_f c7 hsp
        exact nomatch hsp
  · have hsp := hk_f c4 hsp
    exact nomatch hsp
def mop_34 (F : Nat) (S : hk_S) (p1 p2 p3 p4 p5 : Int32) : Option hk_S :=
(mL_fill (hk_EE 232 229) F S 0 p1 231).bind (fun r1 => (mX12_fill (hk_EE 232 229) F r1.2 221 p1).bind (fun r2 => (mX12_thrown (hk_EE 232 229) F r2.2 221).bind (fun r3 => if r3.1 = r1.1 then (if ¬ r1.1 = 0 then (some r3.2) else (if hk_ok 0 ((hk_EE 232 229).2.2.1 231) then (if (lg_cmp ((r3.2 231 0).toInt64) ((r2.1 : Int32).toInt64)) = 0 then (some r3.2) else (none)) else none)) else (none))))
set_option maxHeartbeats 4000000 in
set_option maxRecDepth 100000 in
theorem kop_34 (hst : l.stackTraces = false) (hC : hk_LC p s m meth c b L xs g) (F : Nat) {n : Nat} {S : hk_S} {H : Heap} {locs : List Loc} {ls : Array Slot} {cells slots : Nat} {i : Int32} (hi : ∀ k : Nat, k < 6 → vp_in (i + nI k) L) (hf : cells + 8 ≤ room_1.cells ∧ slots + 48 ≤ room_1.slots) (G : hk_GG g (hk_EE 232 229) S n s H locs) (hl : lv_has ls 9 [(0, .ref b), (1, .ref (g.1 + 0)), (2, .ref (g.1 + 221)), (3, .ref (g.1 + 231)), (4, .int i)]) (o : hk_S) (hsp : mop_34 F S (xs (i + 1).toNatClampNeg) (xs (i + 2).toNatClampNeg) (xs (i + 3).toNatClampNeg) (xs (i + 4).toNatClampNeg) (xs (i + 5).toNatClampNeg) = some o) (kk : ∀ (n1 : Nat) (H1 : Heap) (locs1 : List Loc) (ls1 : Array Slot), hk_GG g (hk_EE 232 229) o n1 s H1 locs1 → lv_has ls1 9 [(0, .ref b), (1, .ref (g.1 + 0)), (2, .ref (g.1 + 221)), (3, .ref (g.1 + 231)), (4, .int i)] → W p l e room_1 s m #[Value.ref b] below meth c H1 locs1 (cells + 8) (slots + 48) Q (F0 m 3152 ls1 [])) : W p l e room_1 s m #[Value.ref b] below meth c H locs cells slots Q (F0 m 1765 ls []) := by
  have hfc := hf.1
  have hfs := hf.2
  have F9 := hC.1
  have hx := F9.1
  have hb := F9.2.1
  generalize hp1 : xs (i + 1).toNatClampNeg = p1 at hsp
  generalize hp2 : xs (i + 2).toNatClampNeg = p2 at hsp
  generalize hp3 : xs (i + 3).toNatClampNeg = p3 at hsp
  generalize hp4 : xs (i + 4).toNatClampNeg = p4 at hsp
  generalize hp5 : xs (i + 5).toNatClampNeg = p5 at hsp
  unfold mop_34 at hsp
  refine lv_aload_n hx hb dL_law_1765 rfl (lv_at hl 1 rfl) ?_
  refine lv_aload_n hx hb dL_law_1766 rfl (lv_at hl 0 rfl) ?_
  refine lv_iload hx hb dL_law_1767 (lv_at hl 4 rfl) ?_
  refine lv_iconst (v := 1) hx hb dL_law_1769 (by decide) ?_
  refine lv_iadd hx hb dL_law_1770 ?_
  refine va_sld hx hb hC.2.2.1 hC.2.2.2.1 hC.2.2.2.2 G.2.1 (hi 1 (by decide)) dL_law_1771 ?_
  rw [hp1]
  refine lv_aload_n hx hb dL_law_1772 rfl (lv_at hl 3 rfl) ?_
  obtain ⟨r1, er1, hsp⟩ := hk_b hsp
  refine hk_callW (As := [.ref (g.1 + 0), .int p1, .ref (g.1 + 231)]) (rest := []) F9 G (kL_fill l hst g (hk_EE 232 229) F n S 0 p1 231 r1 (by decide +kernel) (by decide +kernel) er1) qW_273 ⟨rfl, rfl, (Nat.le_of_ble_eq_true rfl), (Nat.le_of_ble_eq_true rfl)⟩ rfl hl.1 rfl (Nat.le_of_ble_eq_true rfl) ⟨by omega, by omega⟩ dL_law_1773 (fun n H locs G => ?_)
  refine lv_istore (lv' := [(5, .int r1.1), (0, .ref b), (1, .ref (g.1 + 0)), (2, .ref (g.1 + 221)), (3, .ref (g.1 + 231)), (4, .int i)]) hx hb dL_law_1776  hl (by decide) rfl (fun ls hl => ?_)
  refine lv_aload_n hx hb dL_law_1778 rfl (lv_at hl 3 rfl) ?_
  refine lv_aload_n hx hb dL_law_1779 rfl (lv_at hl 1 rfl) ?_
  refine lv_iload hx hb dL_law_1780 (lv_at hl 5 rfl) ?_
  refine lv_iconst (v := 1) hx hb dL_law_1782 (by decide) ?_
  refine lv_iadd hx hb dL_law_1783 ?_
  refine va_sld hx hb hC.2.2.1 hC.2.2.2.1 hC.2.2.2.2 G.2.1 (hi 1 (by decide)) dL_law_1784 ?_
  rw [hp1]
  obtain ⟨r2, er2, hsp⟩ := hk_b hsp
  refine hk_callVi (As := [.int p1]) (rest := []) F9 G (by decide +kernel) hkc_9 rfl (kX12_fill l g (hk_EE 232 229) F n r1.2 221 p1 r2 (by decide +kernel) er2) qv_RL_275 ⟨rfl, rfl, (Nat.le_of_ble_eq_true rfl), (Nat.le_of_ble_eq_true rfl)⟩ rfl hl.1 rfl (Nat.le_of_ble_eq_true rfl) ⟨by omega, by omega⟩ dL_law_1785 (fun H locs G => ?_)
  refine lv_istore (lv' := [(6, .int r2.1), (5, .int r1.1), (0, .ref b), (1, .ref (g.1 + 0)), (2, .ref (g.1 + 221)), (3, .ref (g.1 + 231)), (4, .int i)]) hx hb dL_law_1788  hl (by decide) rfl (fun ls hl => ?_)
  refine lv_aload_n hx hb dL_law_1790 rfl (lv_at hl 4 rfl) ?_
  obtain ⟨r3, er3, hsp⟩ := hk_b hsp
  refine hk_callVi (As := []) (rest := []) F9 G (by decide +kernel) hkc_9 rfl (kX12_thrown l g (hk_EE 232 229) F n r2.2 221 r3 (by decide +kernel) er3) qv_RL_157 ⟨rfl, rfl, (Nat.le_of_ble_eq_true rfl), (Nat.le_of_ble_eq_true rfl)⟩ rfl hl.1 rfl (Nat.le_of_ble_eq_true rfl) ⟨by omega, by omega⟩ dL_law_1791 (fun H locs G => ?_)
  refine lv_iload hx hb dL_law_1794 (lv_at hl 1 rfl) ?_
  refine lv_icmp_eq (tgt := 1801) hx hb dL_law_1796 (by decide) (fun c4 => ?_) (fun c4 => ?_)
  · have hsp := hk_t c4 hsp
    refine lv_iload hx hb dL_law_1801 (lv_at hl 1 rfl) ?_
    refine lv_if_ne (tgt := 1818) hx hb dL_law_1803 (by decide) (fun c5 => ?_) (fun c5 => ?_)
    · have hsp := hk_t c5 hsp
      refine lv_goto (tgt := 3152) hx hb dL_law_1818 (by decide) ?_
      obtain rfl := hk_s hsp
      exact W.widen (by omega) (by omega) (kk n H locs ls G (lv_sub hl [2, 3, 4, 5, 6] rfl))
    · have hsp := hk_g c5 hsp
      refine lv_aload_n hx hb dL_law_1806 rfl (lv_at hl 5 rfl) ?_
      refine lv_iconst (v := 0) hx hb dL_law_1807 (by decide) ?_
      obtain ⟨q6, hsp⟩ := hk_k hsp
      refine hk_lald (j := 0) F9 G (by decide +kernel) rfl q6 (by decide) dL_law_1808 ?_
      refine lv_iload hx hb dL_law_1809 (lv_at hl 0 rfl) ?_
      refine lv_i2l (v := (r2.1 : Int32).toInt64) hx hb dL_law_1811 rfl ?_
      refine W.lcmp hx hb dL_law_1812 ?_
      refine lv_if_eq (tgt := 1818) hx hb dL_law_1813 (by decide) (fun c7 => ?_) (fun c7 => ?_)
      · have hsp := hk_t c7 hsp
        refine lv_goto (tgt := 3152) hx hb dL_law_1818 (by decide) ?_
        obtain rfl := hk_s hsp
        exact W.widen (by omega) (by omega) (kk n H locs ls G (lv_sub hl [2, 3, 4, 5, 6] rfl))
      · have hsp := hk_f c7 hsp
        exact nomatch hsp
  · have hsp := hk_f c4 hsp
    exact nomatch hsp
def mop_35 (F : Nat) (S : hk_S) (p1 p2 p3 p4 p5 : Int32) : Option hk_S :=
(mL_speed (hk_EE 232 229) F S 0 p1 231).bind (fun r1 => (mX12_speed (hk_EE 232 229) F r1.2 221 p1).bind (fun r2 => (mX12_thrown (hk_EE 232 229) F r2.2 221).bind (fun r3 => if r3.1 = r1.1 then (if ¬ r1.1 = 0 then (some r3.2) else (if hk_ok 0 ((hk_EE 232 229).2.2.1 231) then (if (lg_cmp ((r3.2 231 0).toInt64) ((r2.1 : Int32).toInt64)) = 0 then (some r3.2) else (none)) else none)) else (none))))
set_option maxHeartbeats 4000000 in
set_option maxRecDepth 100000 in
theorem kop_35 (hst : l.stackTraces = false) (hC : hk_LC p s m meth c b L xs g) (F : Nat) {n : Nat} {S : hk_S} {H : Heap} {locs : List Loc} {ls : Array Slot} {cells slots : Nat} {i : Int32} (hi : ∀ k : Nat, k < 6 → vp_in (i + nI k) L) (hf : cells + 8 ≤ room_1.cells ∧ slots + 48 ≤ room_1.slots) (G : hk_GG g (hk_EE 232 229) S n s H locs) (hl : lv_has ls 9 [(0, .ref b), (1, .ref (g.1 + 0)), (2, .ref (g.1 + 221)), (3, .ref (g.1 + 231)), (4, .int i)]) (o : hk_S) (hsp : mop_35 F S (xs (i + 1).toNatClampNeg) (xs (i + 2).toNatClampNeg) (xs (i + 3).toNatClampNeg) (xs (i + 4).toNatClampNeg) (xs (i + 5).toNatClampNeg) = some o) (kk : ∀ (n1 : Nat) (H1 : Heap) (locs1 : List Loc) (ls1 : Array Slot), hk_GG g (hk_EE 232 229) o n1 s H1 locs1 → lv_has ls1 9 [(0, .ref b), (1, .ref (g.1 + 0)), (2, .ref (g.1 + 221)), (3, .ref (g.1 + 231)), (4, .int i)] → W p l e room_1 s m #[Value.ref b] below meth c H1 locs1 (cells + 8) (slots + 48) Q (F0 m 3152 ls1 [])) : W p l e room_1 s m #[Value.ref b] below meth c H locs cells slots Q (F0 m 1821 ls []) := by
  have hfc := hf.1
  have hfs := hf.2
  have F9 := hC.1
  have hx := F9.1
  have hb := F9.2.1
  generalize hp1 : xs (i + 1).toNatClampNeg = p1 at hsp
  generalize hp2 : xs (i + 2).toNatClampNeg = p2 at hsp
  generalize hp3 : xs (i + 3).toNatClampNeg = p3 at hsp
  generalize hp4 : xs (i + 4).toNatClampNeg = p4 at hsp
  generalize hp5 : xs (i + 5).toNatClampNeg = p5 at hsp
  unfold mop_35 at hsp
  refine lv_aload_n hx hb dL_law_1821 rfl (lv_at hl 1 rfl) ?_
  refine lv_aload_n hx hb dL_law_1822 rfl (lv_at hl 0 rfl) ?_
  refine lv_iload hx hb dL_law_1823 (lv_at hl 4 rfl) ?_
  refine lv_iconst (v := 1) hx hb dL_law_1825 (by decide) ?_
  refine lv_iadd hx hb dL_law_1826 ?_
  refine va_sld hx hb hC.2.2.1 hC.2.2.2.1 hC.2.2.2.2 G.2.1 (hi 1 (by decide)) dL_law_1827 ?_
  rw [hp1]
  refine lv_aload_n hx hb dL_law_1828 rfl (lv_at hl 3 rfl) ?_
  obtain ⟨r1, er1, hsp⟩ := hk_b hsp
  refine hk_callW (As := [.ref (g.1 + 0), .int p1, .ref (g.1 + 231)]) (rest := []) F9 G (kL_speed l hst g (hk_EE 232 229) F n S 0 p1 231 r1 (by decide +kernel) (by decide +kernel) er1) qW_276 ⟨rfl, rfl, (Nat.le_of_ble_eq_true rfl), (Nat.le_of_ble_eq_true rfl)⟩ rfl hl.1 rfl (Nat.le_of_ble_eq_true rfl) ⟨by omega, by omega⟩ dL_law_1829 (fun n H locs G => ?_)
  refine lv_istore (lv' := [(5, .int r1.1), (0, .ref b), (1, .ref (g.1 + 0)), (2, .ref (g.1 + 221)), (3, .ref (g.1 + 231)), (4, .int i)]) hx hb dL_law_1832  hl (by decide) rfl (fun ls hl => ?_)
  refine lv_aload_n hx hb dL_law_1834 rfl (lv_at hl 3 rfl) ?_
  refine lv_aload_n hx hb dL_law_1835 rfl (lv_at hl 1 rfl) ?_
  refine lv_iload hx hb dL_law_1836 (lv_at hl 5 rfl) ?_
  refine lv_iconst (v := 1) hx hb dL_law_1838 (by decide) ?_
  refine lv_iadd hx hb dL_law_1839 ?_
  refine va_sld hx hb hC.2.2.1 hC.2.2.2.1 hC.2.2.2.2 G.2.1 (hi 1 (by decide)) dL_law_1840 ?_
  rw [hp1]
  obtain ⟨r2, er2, hsp⟩ := hk_b hsp
  refine hk_callVi (As := [.int p1]) (rest := []) F9 G (by decide +kernel) hkc_9 rfl (kX12_speed l g (hk_EE 232 229) F n r1.2 221 p1 r2 (by decide +kernel) er2) qv_RL_278 ⟨rfl, rfl, (Nat.le_of_ble_eq_true rfl), (Nat.le_of_ble_eq_true rfl)⟩ rfl hl.1 rfl (Nat.le_of_ble_eq_true rfl) ⟨by omega, by omega⟩ dL_law_1841 (fun H locs G => ?_)
  refine lv_istore (lv' := [(6, .int r2.1), (5, .int r1.1), (0, .ref b), (1, .ref (g.1 + 0)), (2, .ref (g.1 + 221)), (3, .ref (g.1 + 231)), (4, .int i)]) hx hb dL_law_1844  hl (by decide) rfl (fun ls hl => ?_)
  refine lv_aload_n hx hb dL_law_1846 rfl (lv_at hl 4 rfl) ?_
  obtain ⟨r3, er3, hsp⟩ := hk_b hsp
  refine hk_callVi (As := []) (rest := []) F9 G (by decide +kernel) hkc_9 rfl (kX12_thrown l g (hk_EE 232 229) F n r2.2 221 r3 (by decide +kernel) er3) qv_RL_157 ⟨rfl, rfl, (Nat.le_of_ble_eq_true rfl), (Nat.le_of_ble_eq_true rfl)⟩ rfl hl.1 rfl (Nat.le_of_ble_eq_true rfl) ⟨by omega, by omega⟩ dL_law_1847 (fun H locs G => ?_)
  refine lv_iload hx hb dL_law_1850 (lv_at hl 1 rfl) ?_
  refine lv_icmp_eq (tgt := 1857) hx hb dL_law_1852 (by decide) (fun c4 => ?_) (fun c4 => ?_)
  · have hsp := hk_t c4 hsp
    refine lv_iload hx hb dL_law_1857 (lv_at hl 1 rfl) ?_
    refine lv_if_ne (tgt := 1874) hx hb dL_law_1859 (by decide) (fun c5 => ?_) (fun c5 => ?_)
    · have hsp := hk_t c5 hsp
      refine lv_goto (tgt := 3152) hx hb dL_law_1874 (by decide) ?_
      obtain rfl := hk_s hsp
      exact W.widen (by omega) (by omega) (kk n H locs ls G (lv_sub hl [2, 3, 4, 5, 6] rfl))
    · have hsp := hk_g c5 hsp
      refine lv_aload_n hx hb dL_law_1862 rfl (lv_at hl 5 rfl) ?_
      refine lv_iconst (v := 0) hx hb dL_law_1863 (by decide) ?_
      obtain ⟨q6, hsp⟩ := hk_k hsp
      refine hk_lald (j := 0) F9 G (by decide +kernel) rfl q6 (by decide) dL_law_1864 ?_
      refine lv_iload hx hb dL_law_1865 (lv_at hl 0 rfl) ?_
      refine lv_i2l (v := (r2.1 : Int32).toInt64) hx hb dL_law_1867 rfl ?_
      refine W.lcmp hx hb dL_law_1868 ?_
      refine lv_if_eq (tgt := 1874) hx hb dL_law_1869 (by decide) (fun c7 => ?_) (fun c7 => ?_)
      · have hsp := hk_t c7 hsp
        refine lv_goto (tgt := 3152) hx hb dL_law_1874 (by decide) ?_
        obtain rfl := hk_s hsp
        exact W.widen (by omega) (by omega) (kk n H locs ls G (lv_sub hl [2, 3, 4, 5, 6] rfl))
      · have hsp := hk_f c7 hsp
        exact nomatch hsp
  · have hsp := hk_f c4 hsp
    exact nomatch hsp
def mop_36 (F : Nat) (S : hk_S) (p1 p2 p3 p4 p5 : Int32) : Option hk_S :=
(mL_isUpwards (hk_EE 232 229) F S 0 p1 231).bind (fun r1 => (mX12_isUpwards (hk_EE 232 229) F r1.2 221 p1).bind (fun r2 => (mX12_thrown (hk_EE 232 229) F r2.2 221).bind (fun r3 => if r3.1 = r1.1 then (if ¬ r1.1 = 0 then (some r3.2) else (if hk_ok 0 ((hk_EE 232 229).2.2.1 231) then (if r2.1 = 0 then (if (lg_cmp ((r3.2 231 0).toInt64) 0) = 0 then (some r3.2) else (none)) else (if (lg_cmp ((r3.2 231 0).toInt64) 1) = 0 then (some r3.2) else (none))) else none)) else (none))))
set_option maxHeartbeats 4000000 in
set_option maxRecDepth 100000 in
theorem kop_36 (hst : l.stackTraces = false) (hC : hk_LC p s m meth c b L xs g) (F : Nat) {n : Nat} {S : hk_S} {H : Heap} {locs : List Loc} {ls : Array Slot} {cells slots : Nat} {i : Int32} (hi : ∀ k : Nat, k < 6 → vp_in (i + nI k) L) (hf : cells + 8 ≤ room_1.cells ∧ slots + 48 ≤ room_1.slots) (G : hk_GG g (hk_EE 232 229) S n s H locs) (hl : lv_has ls 9 [(0, .ref b), (1, .ref (g.1 + 0)), (2, .ref (g.1 + 221)), (3, .ref (g.1 + 231)), (4, .int i)]) (o : hk_S) (hsp : mop_36 F S (xs (i + 1).toNatClampNeg) (xs (i + 2).toNatClampNeg) (xs (i + 3).toNatClampNeg) (xs (i + 4).toNatClampNeg) (xs (i + 5).toNatClampNeg) = some o) (kk : ∀ (n1 : Nat) (H1 : Heap) (locs1 : List Loc) (ls1 : Array Slot), hk_GG g (hk_EE 232 229) o n1 s H1 locs1 → lv_has ls1 9 [(0, .ref b), (1, .ref (g.1 + 0)), (2, .ref (g.1 + 221)), (3, .ref (g.1 + 231)), (4, .int i)] → W p l e room_1 s m #[Value.ref b] below meth c H1 locs1 (cells + 8) (slots + 48) Q (F0 m 3152 ls1 [])) : W p l e room_1 s m #[Value.ref b] below meth c H locs cells slots Q (F0 m 1877 ls []) := by
  have hfc := hf.1
  have hfs := hf.2
  have F9 := hC.1
  have hx := F9.1
  have hb := F9.2.1
  generalize hp1 : xs (i + 1).toNatClampNeg = p1 at hsp
  generalize hp2 : xs (i + 2).toNatClampNeg = p2 at hsp
  generalize hp3 : xs (i + 3).toNatClampNeg = p3 at hsp
  generalize hp4 : xs (i + 4).toNatClampNeg = p4 at hsp
  generalize hp5 : xs (i + 5).toNatClampNeg = p5 at hsp
  unfold mop_36 at hsp
  refine lv_aload_n hx hb dL_law_1877 rfl (lv_at hl 1 rfl) ?_
  refine lv_aload_n hx hb dL_law_1878 rfl (lv_at hl 0 rfl) ?_
  refine lv_iload hx hb dL_law_1879 (lv_at hl 4 rfl) ?_
  refine lv_iconst (v := 1) hx hb dL_law_1881 (by decide) ?_
  refine lv_iadd hx hb dL_law_1882 ?_
  refine va_sld hx hb hC.2.2.1 hC.2.2.2.1 hC.2.2.2.2 G.2.1 (hi 1 (by decide)) dL_law_1883 ?_
  rw [hp1]
  refine lv_aload_n hx hb dL_law_1884 rfl (lv_at hl 3 rfl) ?_
  obtain ⟨r1, er1, hsp⟩ := hk_b hsp
  refine hk_callW (As := [.ref (g.1 + 0), .int p1, .ref (g.1 + 231)]) (rest := []) F9 G (kL_isUpwards l hst g (hk_EE 232 229) F n S 0 p1 231 r1 (by decide +kernel) (by decide +kernel) er1) qW_279 ⟨rfl, rfl, (Nat.le_of_ble_eq_true rfl), (Nat.le_of_ble_eq_true rfl)⟩ rfl hl.1 rfl (Nat.le_of_ble_eq_true rfl) ⟨by omega, by omega⟩ dL_law_1885 (fun n H locs G => ?_)
  refine lv_istore (lv' := [(5, .int r1.1), (0, .ref b), (1, .ref (g.1 + 0)), (2, .ref (g.1 + 221)), (3, .ref (g.1 + 231)), (4, .int i)]) hx hb dL_law_1888  hl (by decide) rfl (fun ls hl => ?_)
  refine lv_aload_n hx hb dL_law_1890 rfl (lv_at hl 3 rfl) ?_
  refine lv_aload_n hx hb dL_law_1891 rfl (lv_at hl 1 rfl) ?_
  refine lv_iload hx hb dL_law_1892 (lv_at hl 5 rfl) ?_
  refine lv_iconst (v := 1) hx hb dL_law_1894 (by decide) ?_
  refine lv_iadd hx hb dL_law_1895 ?_
  refine va_sld hx hb hC.2.2.1 hC.2.2.2.1 hC.2.2.2.2 G.2.1 (hi 1 (by decide)) dL_law_1896 ?_
  rw [hp1]
  obtain ⟨r2, er2, hsp⟩ := hk_b hsp
  refine hk_callVi (As := [.int p1]) (rest := []) F9 G (by decide +kernel) hkc_9 rfl (kX12_isUpwards l g (hk_EE 232 229) F n r1.2 221 p1 r2 (by decide +kernel) er2) qv_RL_281 ⟨rfl, rfl, (Nat.le_of_ble_eq_true rfl), (Nat.le_of_ble_eq_true rfl)⟩ rfl hl.1 rfl (Nat.le_of_ble_eq_true rfl) ⟨by omega, by omega⟩ dL_law_1897 (fun H locs G => ?_)
  refine lv_istore (lv' := [(6, .int r2.1), (5, .int r1.1), (0, .ref b), (1, .ref (g.1 + 0)), (2, .ref (g.1 + 221)), (3, .ref (g.1 + 231)), (4, .int i)]) hx hb dL_law_1900  hl (by decide) rfl (fun ls hl => ?_)
  refine lv_aload_n hx hb dL_law_1902 rfl (lv_at hl 4 rfl) ?_
  obtain ⟨r3, er3, hsp⟩ := hk_b hsp
  refine hk_callVi (As := []) (rest := []) F9 G (by decide +kernel) hkc_9 rfl (kX12_thrown l g (hk_EE 232 229) F n r2.2 221 r3 (by decide +kernel) er3) qv_RL_157 ⟨rfl, rfl, (Nat.le_of_ble_eq_true rfl), (Nat.le_of_ble_eq_true rfl)⟩ rfl hl.1 rfl (Nat.le_of_ble_eq_true rfl) ⟨by omega, by omega⟩ dL_law_1903 (fun H locs G => ?_)
  refine lv_iload hx hb dL_law_1906 (lv_at hl 1 rfl) ?_
  refine lv_icmp_eq (tgt := 1913) hx hb dL_law_1908 (by decide) (fun c4 => ?_) (fun c4 => ?_)
  · have hsp := hk_t c4 hsp
    refine lv_iload hx hb dL_law_1913 (lv_at hl 1 rfl) ?_
    refine lv_if_ne (tgt := 1937) hx hb dL_law_1915 (by decide) (fun c5 => ?_) (fun c5 => ?_)
    · have hsp := hk_t c5 hsp
      refine lv_goto (tgt := 3152) hx hb dL_law_1937 (by decide) ?_
      obtain rfl := hk_s hsp
      exact W.widen (by omega) (by omega) (kk n H locs ls G (lv_sub hl [2, 3, 4, 5, 6] rfl))
    · have hsp := hk_g c5 hsp
      refine lv_aload_n hx hb dL_law_1918 rfl (lv_at hl 5 rfl) ?_
      refine lv_iconst (v := 0) hx hb dL_law_1919 (by decide) ?_
      obtain ⟨q6, hsp⟩ := hk_k hsp
      refine hk_lald (j := 0) F9 G (by decide +kernel) rfl q6 (by decide) dL_law_1920 ?_
      refine lv_iload hx hb dL_law_1921 (lv_at hl 0 rfl) ?_
      refine lv_if_eq (tgt := 1930) hx hb dL_law_1923 (by decide) (fun c7 => ?_) (fun c7 => ?_)
      · have hsp := hk_t c7 hsp
        refine lv_lconst (v := 0) hx hb dL_law_1930 (by decide) ?_
        refine W.lcmp hx hb dL_law_1931 ?_
        refine lv_if_eq (tgt := 1937) hx hb dL_law_1932 (by decide) (fun c8 => ?_) (fun c8 => ?_)
        · have hsp := hk_t c8 hsp
          refine lv_goto (tgt := 3152) hx hb dL_law_1937 (by decide) ?_
          obtain rfl := hk_s hsp
          exact W.widen (by omega) (by omega) (kk n H locs ls G (lv_sub hl [2, 3, 4, 5, 6] rfl))
        · have hsp := hk_f c8 hsp
          exact nomatch hsp
      · have hsp := hk_f c7 hsp
        refine lv_lconst (v := 1) hx hb dL_law_1926 (by decide) ?_
        refine lv_goto (tgt := 1931) hx hb dL_law_1927 (by decide) ?_
        refine W.lcmp hx hb dL_law_1931 ?_
        refine lv_if_eq (tgt := 1937) hx hb dL_law_1932 (by decide) (fun c9 => ?_) (fun c9 => ?_)
        · have hsp := hk_t c9 hsp
          refine lv_goto (tgt := 3152) hx hb dL_law_1937 (by decide) ?_
          obtain rfl := hk_s hsp
          exact W.widen (by omega) (by omega) (kk n H locs ls G (lv_sub hl [2, 3, 4, 5, 6] rfl))
        · have hsp := hk_f c9 hsp
          exact nomatch hsp
  · have hsp := hk_f c4 hsp
    exact nomatch hsp
def mop_37 (F : Nat) (S : hk_S) (p1 p2 p3 p4 p5 : Int32) : Option hk_S :=
(mL_moisture (hk_EE 232 229) F S 0 p1 p2 231).bind (fun r1 => (mX12_moisture (hk_EE 232 229) F r1.2 221 p1 p2).bind (fun r2 => (mX12_thrown (hk_EE 232 229) F r2.2 221).bind (fun r3 => if r3.1 = r1.1 then (if ¬ r1.1 = 0 then (some r3.2) else (if hk_ok 0 ((hk_EE 232 229).2.2.1 231) then (if (lg_cmp ((r3.2 231 0).toInt64) ((r2.1 : Int32).toInt64)) = 0 then (some r3.2) else (none)) else none)) else (none))))
set_option maxHeartbeats 4000000 in
set_option maxRecDepth 100000 in
theorem kop_37 (hst : l.stackTraces = false) (hC : hk_LC p s m meth c b L xs g) (F : Nat) {n : Nat} {S : hk_S} {H : Heap} {locs : List Loc} {ls : Array Slot} {cells slots : Nat} {i : Int32} (hi : ∀ k : Nat, k < 6 → vp_in (i + nI k) L) (hf : cells + 8 ≤ room_1.cells ∧ slots + 48 ≤ room_1.slots) (G : hk_GG g (hk_EE 232 229) S n s H locs) (hl : lv_has ls 9 [(0, .ref b), (1, .ref (g.1 + 0)), (2, .ref (g.1 + 221)), (3, .ref (g.1 + 231)), (4, .int i)]) (o : hk_S) (hsp : mop_37 F S (xs (i + 1).toNatClampNeg) (xs (i + 2).toNatClampNeg) (xs (i + 3).toNatClampNeg) (xs (i + 4).toNatClampNeg) (xs (i + 5).toNatClampNeg) = some o) (kk : ∀ (n1 : Nat) (H1 : Heap) (locs1 : List Loc) (ls1 : Array Slot), hk_GG g (hk_EE 232 229) o n1 s H1 locs1 → lv_has ls1 9 [(0, .ref b), (1, .ref (g.1 + 0)), (2, .ref (g.1 + 221)), (3, .ref (g.1 + 231)), (4, .int i)] → W p l e room_1 s m #[Value.ref b] below meth c H1 locs1 (cells + 8) (slots + 48) Q (F0 m 3152 ls1 [])) : W p l e room_1 s m #[Value.ref b] below meth c H locs cells slots Q (F0 m 1940 ls []) := by
  have hfc := hf.1
  have hfs := hf.2
  have F9 := hC.1
  have hx := F9.1
  have hb := F9.2.1
  generalize hp1 : xs (i + 1).toNatClampNeg = p1 at hsp
  generalize hp2 : xs (i + 2).toNatClampNeg = p2 at hsp
  generalize hp3 : xs (i + 3).toNatClampNeg = p3 at hsp
  generalize hp4 : xs (i + 4).toNatClampNeg = p4 at hsp
  generalize hp5 : xs (i + 5).toNatClampNeg = p5 at hsp
  unfold mop_37 at hsp
  refine lv_aload_n hx hb dL_law_1940 rfl (lv_at hl 1 rfl) ?_
  refine lv_aload_n hx hb dL_law_1941 rfl (lv_at hl 0 rfl) ?_
  refine lv_iload hx hb dL_law_1942 (lv_at hl 4 rfl) ?_
  refine lv_iconst (v := 1) hx hb dL_law_1944 (by decide) ?_
  refine lv_iadd hx hb dL_law_1945 ?_
  refine va_sld hx hb hC.2.2.1 hC.2.2.2.1 hC.2.2.2.2 G.2.1 (hi 1 (by decide)) dL_law_1946 ?_
  rw [hp1]
  refine lv_aload_n hx hb dL_law_1947 rfl (lv_at hl 0 rfl) ?_
  refine lv_iload hx hb dL_law_1948 (lv_at hl 4 rfl) ?_
  refine lv_iconst (v := 2) hx hb dL_law_1950 (by decide) ?_
  refine lv_iadd hx hb dL_law_1951 ?_
  refine va_sld hx hb hC.2.2.1 hC.2.2.2.1 hC.2.2.2.2 G.2.1 (hi 2 (by decide)) dL_law_1952 ?_
  rw [hp2]
  refine lv_aload_n hx hb dL_law_1953 rfl (lv_at hl 3 rfl) ?_
  obtain ⟨r1, er1, hsp⟩ := hk_b hsp
  refine hk_callW (As := [.ref (g.1 + 0), .int p1, .int p2, .ref (g.1 + 231)]) (rest := []) F9 G (kL_moisture l hst g (hk_EE 232 229) F n S 0 p1 p2 231 r1 (by decide +kernel) (by decide +kernel) er1) qW_282 ⟨rfl, rfl, (Nat.le_of_ble_eq_true rfl), (Nat.le_of_ble_eq_true rfl)⟩ rfl hl.1 rfl (Nat.le_of_ble_eq_true rfl) ⟨by omega, by omega⟩ dL_law_1954 (fun n H locs G => ?_)
  refine lv_istore (lv' := [(5, .int r1.1), (0, .ref b), (1, .ref (g.1 + 0)), (2, .ref (g.1 + 221)), (3, .ref (g.1 + 231)), (4, .int i)]) hx hb dL_law_1957  hl (by decide) rfl (fun ls hl => ?_)
  refine lv_aload_n hx hb dL_law_1959 rfl (lv_at hl 3 rfl) ?_
  refine lv_aload_n hx hb dL_law_1960 rfl (lv_at hl 1 rfl) ?_
  refine lv_iload hx hb dL_law_1961 (lv_at hl 5 rfl) ?_
  refine lv_iconst (v := 1) hx hb dL_law_1963 (by decide) ?_
  refine lv_iadd hx hb dL_law_1964 ?_
  refine va_sld hx hb hC.2.2.1 hC.2.2.2.1 hC.2.2.2.2 G.2.1 (hi 1 (by decide)) dL_law_1965 ?_
  rw [hp1]
  refine lv_aload_n hx hb dL_law_1966 rfl (lv_at hl 1 rfl) ?_
  refine lv_iload hx hb dL_law_1967 (lv_at hl 5 rfl) ?_
  refine lv_iconst (v := 2) hx hb dL_law_1969 (by decide) ?_
  refine lv_iadd hx hb dL_law_1970 ?_
  refine va_sld hx hb hC.2.2.1 hC.2.2.2.1 hC.2.2.2.2 G.2.1 (hi 2 (by decide)) dL_law_1971 ?_
  rw [hp2]
  obtain ⟨r2, er2, hsp⟩ := hk_b hsp
  refine hk_callVi (As := [.int p1, .int p2]) (rest := []) F9 G (by decide +kernel) hkc_9 rfl (kX12_moisture l g (hk_EE 232 229) F n r1.2 221 p1 p2 r2 (by decide +kernel) er2) qv_RL_284 ⟨rfl, rfl, (Nat.le_of_ble_eq_true rfl), (Nat.le_of_ble_eq_true rfl)⟩ rfl hl.1 rfl (Nat.le_of_ble_eq_true rfl) ⟨by omega, by omega⟩ dL_law_1972 (fun H locs G => ?_)
  refine lv_istore (lv' := [(6, .int r2.1), (5, .int r1.1), (0, .ref b), (1, .ref (g.1 + 0)), (2, .ref (g.1 + 221)), (3, .ref (g.1 + 231)), (4, .int i)]) hx hb dL_law_1975  hl (by decide) rfl (fun ls hl => ?_)
  refine lv_aload_n hx hb dL_law_1977 rfl (lv_at hl 4 rfl) ?_
  obtain ⟨r3, er3, hsp⟩ := hk_b hsp
  refine hk_callVi (As := []) (rest := []) F9 G (by decide +kernel) hkc_9 rfl (kX12_thrown l g (hk_EE 232 229) F n r2.2 221 r3 (by decide +kernel) er3) qv_RL_157 ⟨rfl, rfl, (Nat.le_of_ble_eq_true rfl), (Nat.le_of_ble_eq_true rfl)⟩ rfl hl.1 rfl (Nat.le_of_ble_eq_true rfl) ⟨by omega, by omega⟩ dL_law_1978 (fun H locs G => ?_)
  refine lv_iload hx hb dL_law_1981 (lv_at hl 1 rfl) ?_
  refine lv_icmp_eq (tgt := 1988) hx hb dL_law_1983 (by decide) (fun c4 => ?_) (fun c4 => ?_)
  · have hsp := hk_t c4 hsp
    refine lv_iload hx hb dL_law_1988 (lv_at hl 1 rfl) ?_
    refine lv_if_ne (tgt := 2005) hx hb dL_law_1990 (by decide) (fun c5 => ?_) (fun c5 => ?_)
    · have hsp := hk_t c5 hsp
      refine lv_goto (tgt := 3152) hx hb dL_law_2005 (by decide) ?_
      obtain rfl := hk_s hsp
      exact W.widen (by omega) (by omega) (kk n H locs ls G (lv_sub hl [2, 3, 4, 5, 6] rfl))
    · have hsp := hk_g c5 hsp
      refine lv_aload_n hx hb dL_law_1993 rfl (lv_at hl 5 rfl) ?_
      refine lv_iconst (v := 0) hx hb dL_law_1994 (by decide) ?_
      obtain ⟨q6, hsp⟩ := hk_k hsp
      refine hk_lald (j := 0) F9 G (by decide +kernel) rfl q6 (by decide) dL_law_1995 ?_
      refine lv_iload hx hb dL_law_1996 (lv_at hl 0 rfl) ?_
      refine lv_i2l (v := (r2.1 : Int32).toInt64) hx hb dL_law_1998 rfl ?_
      refine W.lcmp hx hb dL_law_1999 ?_
      refine lv_if_eq (tgt := 2005) hx hb dL_law_2000 (by decide) (fun c7 => ?_) (fun c7 => ?_)
      · have hsp := hk_t c7 hsp
        refine lv_goto (tgt := 3152) hx hb dL_law_2005 (by decide) ?_
        obtain rfl := hk_s hsp
        exact W.widen (by omega) (by omega) (kk n H locs ls G (lv_sub hl [2, 3, 4, 5, 6] rfl))
      · have hsp := hk_f c7 hsp
        exact nomatch hsp
  · have hsp := hk_f c4 hsp
    exact nomatch hsp
def mop_38 (F : Nat) (S : hk_S) (p1 p2 p3 p4 p5 : Int32) : Option hk_S :=
(mL_spread (hk_EE 232 229) F S 0 p1 231).bind (fun r1 => (mX12_spread (hk_EE 232 229) F r1.2 221 p1).bind (fun r2 => (mX12_thrown (hk_EE 232 229) F r2.2 221).bind (fun r3 => if r3.1 = r1.1 then (if ¬ r1.1 = 0 then (some r3.2) else (if hk_ok 0 ((hk_EE 232 229).2.2.1 231) then (if (lg_cmp ((r3.2 231 0).toInt64) ((r2.1 : Int32).toInt64)) = 0 then (some r3.2) else (none)) else none)) else (none))))
set_option maxHeartbeats 4000000 in
set_option maxRecDepth 100000 in
theorem kop_38 (hst : l.stackTraces = false) (hC : hk_LC p s m meth c b L xs g) (F : Nat) {n : Nat} {S : hk_S} {H : Heap} {locs : List Loc} {ls : Array Slot} {cells slots : Nat} {i : Int32} (hi : ∀ k : Nat, k < 6 → vp_in (i + nI k) L) (hf : cells + 8 ≤ room_1.cells ∧ slots + 48 ≤ room_1.slots) (G : hk_GG g (hk_EE 232 229) S n s H locs) (hl : lv_has ls 9 [(0, .ref b), (1, .ref (g.1 + 0)), (2, .ref (g.1 + 221)), (3, .ref (g.1 + 231)), (4, .int i)]) (o : hk_S) (hsp : mop_38 F S (xs (i + 1).toNatClampNeg) (xs (i + 2).toNatClampNeg) (xs (i + 3).toNatClampNeg) (xs (i + 4).toNatClampNeg) (xs (i + 5).toNatClampNeg) = some o) (kk : ∀ (n1 : Nat) (H1 : Heap) (locs1 : List Loc) (ls1 : Array Slot), hk_GG g (hk_EE 232 229) o n1 s H1 locs1 → lv_has ls1 9 [(0, .ref b), (1, .ref (g.1 + 0)), (2, .ref (g.1 + 221)), (3, .ref (g.1 + 231)), (4, .int i)] → W p l e room_1 s m #[Value.ref b] below meth c H1 locs1 (cells + 8) (slots + 48) Q (F0 m 3152 ls1 [])) : W p l e room_1 s m #[Value.ref b] below meth c H locs cells slots Q (F0 m 2008 ls []) := by
  have hfc := hf.1
  have hfs := hf.2
  have F9 := hC.1
  have hx := F9.1
  have hb := F9.2.1
  generalize hp1 : xs (i + 1).toNatClampNeg = p1 at hsp
  generalize hp2 : xs (i + 2).toNatClampNeg = p2 at hsp
  generalize hp3 : xs (i + 3).toNatClampNeg = p3 at hsp
  generalize hp4 : xs (i + 4).toNatClampNeg = p4 at hsp
  generalize hp5 : xs (i + 5).toNatClampNeg = p5 at hsp
  unfold mop_38 at hsp
  refine lv_aload_n hx hb dL_law_2008 rfl (lv_at hl 1 rfl) ?_
  refine lv_aload_n hx hb dL_law_2009 rfl (lv_at hl 0 rfl) ?_
  refine lv_iload hx hb dL_law_2010 (lv_at hl 4 rfl) ?_
  refine lv_iconst (v := 1) hx hb dL_law_2012 (by decide) ?_
  refine lv_iadd hx hb dL_law_2013 ?_
  refine va_sld hx hb hC.2.2.1 hC.2.2.2.1 hC.2.2.2.2 G.2.1 (hi 1 (by decide)) dL_law_2014 ?_
  rw [hp1]
  refine lv_aload_n hx hb dL_law_2015 rfl (lv_at hl 3 rfl) ?_
  obtain ⟨r1, er1, hsp⟩ := hk_b hsp
  refine hk_callW (As := [.ref (g.1 + 0), .int p1, .ref (g.1 + 231)]) (rest := []) F9 G (kL_spread l hst g (hk_EE 232 229) F n S 0 p1 231 r1 (by decide +kernel) (by decide +kernel) er1) qW_285 ⟨rfl, rfl, (Nat.le_of_ble_eq_true rfl), (Nat.le_of_ble_eq_true rfl)⟩ rfl hl.1 rfl (Nat.le_of_ble_eq_true rfl) ⟨by omega, by omega⟩ dL_law_2016 (fun n H locs G => ?_)
  refine lv_istore (lv' := [(5, .int r1.1), (0, .ref b), (1, .ref (g.1 + 0)), (2, .ref (g.1 + 221)), (3, .ref (g.1 + 231)), (4, .int i)]) hx hb dL_law_2019  hl (by decide) rfl (fun ls hl => ?_)
  refine lv_aload_n hx hb dL_law_2021 rfl (lv_at hl 3 rfl) ?_
  refine lv_aload_n hx hb dL_law_2022 rfl (lv_at hl 1 rfl) ?_
  refine lv_iload hx hb dL_law_2023 (lv_at hl 5 rfl) ?_
  refine lv_iconst (v := 1) hx hb dL_law_2025 (by decide) ?_
  refine lv_iadd hx hb dL_law_2026 ?_
  refine va_sld hx hb hC.2.2.1 hC.2.2.2.1 hC.2.2.2.2 G.2.1 (hi 1 (by decide)) dL_law_2027 ?_
  rw [hp1]
  obtain ⟨r2, er2, hsp⟩ := hk_b hsp
  refine hk_callVi (As := [.int p1]) (rest := []) F9 G (by decide +kernel) hkc_9 rfl (kX12_spread l g (hk_EE 232 229) F n r1.2 221 p1 r2 (by decide +kernel) er2) qv_RL_287 ⟨rfl, rfl, (Nat.le_of_ble_eq_true rfl), (Nat.le_of_ble_eq_true rfl)⟩ rfl hl.1 rfl (Nat.le_of_ble_eq_true rfl) ⟨by omega, by omega⟩ dL_law_2028 (fun H locs G => ?_)
  refine lv_istore (lv' := [(6, .int r2.1), (5, .int r1.1), (0, .ref b), (1, .ref (g.1 + 0)), (2, .ref (g.1 + 221)), (3, .ref (g.1 + 231)), (4, .int i)]) hx hb dL_law_2031  hl (by decide) rfl (fun ls hl => ?_)
  refine lv_aload_n hx hb dL_law_2033 rfl (lv_at hl 4 rfl) ?_
  obtain ⟨r3, er3, hsp⟩ := hk_b hsp
  refine hk_callVi (As := []) (rest := []) F9 G (by decide +kernel) hkc_9 rfl (kX12_thrown l g (hk_EE 232 229) F n r2.2 221 r3 (by decide +kernel) er3) qv_RL_157 ⟨rfl, rfl, (Nat.le_of_ble_eq_true rfl), (Nat.le_of_ble_eq_true rfl)⟩ rfl hl.1 rfl (Nat.le_of_ble_eq_true rfl) ⟨by omega, by omega⟩ dL_law_2034 (fun H locs G => ?_)
  refine lv_iload hx hb dL_law_2037 (lv_at hl 1 rfl) ?_
  refine lv_icmp_eq (tgt := 2044) hx hb dL_law_2039 (by decide) (fun c4 => ?_) (fun c4 => ?_)
  · have hsp := hk_t c4 hsp
    refine lv_iload hx hb dL_law_2044 (lv_at hl 1 rfl) ?_
    refine lv_if_ne (tgt := 2061) hx hb dL_law_2046 (by decide) (fun c5 => ?_) (fun c5 => ?_)
    · have hsp := hk_t c5 hsp
      refine lv_goto (tgt := 3152) hx hb dL_law_2061 (by decide) ?_
      obtain rfl := hk_s hsp
      exact W.widen (by omega) (by omega) (kk n H locs ls G (lv_sub hl [2, 3, 4, 5, 6] rfl))
    · have hsp := hk_g c5 hsp
      refine lv_aload_n hx hb dL_law_2049 rfl (lv_at hl 5 rfl) ?_
      refine lv_iconst (v := 0) hx hb dL_law_2050 (by decide) ?_
      obtain ⟨q6, hsp⟩ := hk_k hsp
      refine hk_lald (j := 0) F9 G (by decide +kernel) rfl q6 (by decide) dL_law_2051 ?_
      refine lv_iload hx hb dL_law_2052 (lv_at hl 0 rfl) ?_
      refine lv_i2l (v := (r2.1 : Int32).toInt64) hx hb dL_law_2054 rfl ?_
      refine W.lcmp hx hb dL_law_2055 ?_
      refine lv_if_eq (tgt := 2061) hx hb dL_law_2056 (by decide) (fun c7 => ?_) (fun c7 => ?_)
      · have hsp := hk_t c7 hsp
        refine lv_goto (tgt := 3152) hx hb dL_law_2061 (by decide) ?_
        obtain rfl := hk_s hsp
        exact W.widen (by omega) (by omega) (kk n H locs ls G (lv_sub hl [2, 3, 4, 5, 6] rfl))
      · have hsp := hk_f c7 hsp
        exact nomatch hsp
  · have hsp := hk_f c4 hsp
    exact nomatch hsp
def mop_39 (F : Nat) (S : hk_S) (p1 p2 p3 p4 p5 : Int32) : Option hk_S :=
(mL_warmth (hk_EE 232 229) F S 0 p1 231).bind (fun r1 => (mX12_warmth (hk_EE 232 229) F r1.2 221 p1).bind (fun r2 => (mX12_thrown (hk_EE 232 229) F r2.2 221).bind (fun r3 => if r3.1 = r1.1 then (if ¬ r1.1 = 0 then (some r3.2) else (if hk_ok 0 ((hk_EE 232 229).2.2.1 231) then (if (lg_cmp ((r3.2 231 0).toInt64) ((r2.1 : Int32).toInt64)) = 0 then (some r3.2) else (none)) else none)) else (none))))
set_option maxHeartbeats 4000000 in
set_option maxRecDepth 100000 in
theorem kop_39 (hst : l.stackTraces = false) (hC : hk_LC p s m meth c b L xs g) (F : Nat) {n : Nat} {S : hk_S} {H : Heap} {locs : List Loc} {ls : Array Slot} {cells slots : Nat} {i : Int32} (hi : ∀ k : Nat, k < 6 → vp_in (i + nI k) L) (hf : cells + 8 ≤ room_1.cells ∧ slots + 48 ≤ room_1.slots) (G : hk_GG g (hk_EE 232 229) S n s H locs) (hl : lv_has ls 9 [(0, .ref b), (1, .ref (g.1 + 0)), (2, .ref (g.1 + 221)), (3, .ref (g.1 + 231)), (4, .int i)]) (o : hk_S) (hsp : mop_39 F S (xs (i + 1).toNatClampNeg) (xs (i + 2).toNatClampNeg) (xs (i + 3).toNatClampNeg) (xs (i + 4).toNatClampNeg) (xs (i + 5).toNatClampNeg) = some o) (kk : ∀ (n1 : Nat) (H1 : Heap) (locs1 : List Loc) (ls1 : Array Slot), hk_GG g (hk_EE 232 229) o n1 s H1 locs1 → lv_has ls1 9 [(0, .ref b), (1, .ref (g.1 + 0)), (2, .ref (g.1 + 221)), (3, .ref (g.1 + 231)), (4, .int i)] → W p l e room_1 s m #[Value.ref b] below meth c H1 locs1 (cells + 8) (slots + 48) Q (F0 m 3152 ls1 [])) : W p l e room_1 s m #[Value.ref b] below meth c H locs cells slots Q (F0 m 2064 ls []) := by
  have hfc := hf.1
  have hfs := hf.2
  have F9 := hC.1
  have hx := F9.1
  have hb := F9.2.1
  generalize hp1 : xs (i + 1).toNatClampNeg = p1 at hsp
  generalize hp2 : xs (i + 2).toNatClampNeg = p2 at hsp
  generalize hp3 : xs (i + 3).toNatClampNeg = p3 at hsp
  generalize hp4 : xs (i + 4).toNatClampNeg = p4 at hsp
  generalize hp5 : xs (i + 5).toNatClampNeg = p5 at hsp
  unfold mop_39 at hsp
  refine lv_aload_n hx hb dL_law_2064 rfl (lv_at hl 1 rfl) ?_
  refine lv_aload_n hx hb dL_law_2065 rfl (lv_at hl 0 rfl) ?_
  refine lv_iload hx hb dL_law_2066 (lv_at hl 4 rfl) ?_
  refine lv_iconst (v := 1) hx hb dL_law_2068 (by decide) ?_
  refine lv_iadd hx hb dL_law_2069 ?_
  refine va_sld hx hb hC.2.2.1 hC.2.2.2.1 hC.2.2.2.2 G.2.1 (hi 1 (by decide)) dL_law_2070 ?_
  rw [hp1]
  refine lv_aload_n hx hb dL_law_2071 rfl (lv_at hl 3 rfl) ?_
  obtain ⟨r1, er1, hsp⟩ := hk_b hsp
  refine hk_callW (As := [.ref (g.1 + 0), .int p1, .ref (g.1 + 231)]) (rest := []) F9 G (kL_warmth l hst g (hk_EE 232 229) F n S 0 p1 231 r1 (by decide +kernel) (by decide +kernel) er1) qW_288 ⟨rfl, rfl, (Nat.le_of_ble_eq_true rfl), (Nat.le_of_ble_eq_true rfl)⟩ rfl hl.1 rfl (Nat.le_of_ble_eq_true rfl) ⟨by omega, by omega⟩ dL_law_2072 (fun n H locs G => ?_)
  refine lv_istore (lv' := [(5, .int r1.1), (0, .ref b), (1, .ref (g.1 + 0)), (2, .ref (g.1 + 221)), (3, .ref (g.1 + 231)), (4, .int i)]) hx hb dL_law_2075  hl (by decide) rfl (fun ls hl => ?_)
  refine lv_aload_n hx hb dL_law_2077 rfl (lv_at hl 3 rfl) ?_
  refine lv_aload_n hx hb dL_law_2078 rfl (lv_at hl 1 rfl) ?_
  refine lv_iload hx hb dL_law_2079 (lv_at hl 5 rfl) ?_
  refine lv_iconst (v := 1) hx hb dL_law_2081 (by decide) ?_
  refine lv_iadd hx hb dL_law_2082 ?_
  refine va_sld hx hb hC.2.2.1 hC.2.2.2.1 hC.2.2.2.2 G.2.1 (hi 1 (by decide)) dL_law_2083 ?_
  rw [hp1]
  obtain ⟨r2, er2, hsp⟩ := hk_b hsp
  refine hk_callVi (As := [.int p1]) (rest := []) F9 G (by decide +kernel) hkc_9 rfl (kX12_warmth l g (hk_EE 232 229) F n r1.2 221 p1 r2 (by decide +kernel) er2) qv_RL_290 ⟨rfl, rfl, (Nat.le_of_ble_eq_true rfl), (Nat.le_of_ble_eq_true rfl)⟩ rfl hl.1 rfl (Nat.le_of_ble_eq_true rfl) ⟨by omega, by omega⟩ dL_law_2084 (fun H locs G => ?_)
  refine lv_istore (lv' := [(6, .int r2.1), (5, .int r1.1), (0, .ref b), (1, .ref (g.1 + 0)), (2, .ref (g.1 + 221)), (3, .ref (g.1 + 231)), (4, .int i)]) hx hb dL_law_2087  hl (by decide) rfl (fun ls hl => ?_)
  refine lv_aload_n hx hb dL_law_2089 rfl (lv_at hl 4 rfl) ?_
  obtain ⟨r3, er3, hsp⟩ := hk_b hsp
  refine hk_callVi (As := []) (rest := []) F9 G (by decide +kernel) hkc_9 rfl (kX12_thrown l g (hk_EE 232 229) F n r2.2 221 r3 (by decide +kernel) er3) qv_RL_157 ⟨rfl, rfl, (Nat.le_of_ble_eq_true rfl), (Nat.le_of_ble_eq_true rfl)⟩ rfl hl.1 rfl (Nat.le_of_ble_eq_true rfl) ⟨by omega, by omega⟩ dL_law_2090 (fun H locs G => ?_)
  refine lv_iload hx hb dL_law_2093 (lv_at hl 1 rfl) ?_
  refine lv_icmp_eq (tgt := 2100) hx hb dL_law_2095 (by decide) (fun c4 => ?_) (fun c4 => ?_)
  · have hsp := hk_t c4 hsp
    refine lv_iload hx hb dL_law_2100 (lv_at hl 1 rfl) ?_
    refine lv_if_ne (tgt := 2117) hx hb dL_law_2102 (by decide) (fun c5 => ?_) (fun c5 => ?_)
    · have hsp := hk_t c5 hsp
      refine lv_goto (tgt := 3152) hx hb dL_law_2117 (by decide) ?_
      obtain rfl := hk_s hsp
      exact W.widen (by omega) (by omega) (kk n H locs ls G (lv_sub hl [2, 3, 4, 5, 6] rfl))
    · have hsp := hk_g c5 hsp
      refine lv_aload_n hx hb dL_law_2105 rfl (lv_at hl 5 rfl) ?_
      refine lv_iconst (v := 0) hx hb dL_law_2106 (by decide) ?_
      obtain ⟨q6, hsp⟩ := hk_k hsp
      refine hk_lald (j := 0) F9 G (by decide +kernel) rfl q6 (by decide) dL_law_2107 ?_
      refine lv_iload hx hb dL_law_2108 (lv_at hl 0 rfl) ?_
      refine lv_i2l (v := (r2.1 : Int32).toInt64) hx hb dL_law_2110 rfl ?_
      refine W.lcmp hx hb dL_law_2111 ?_
      refine lv_if_eq (tgt := 2117) hx hb dL_law_2112 (by decide) (fun c7 => ?_) (fun c7 => ?_)
      · have hsp := hk_t c7 hsp
        refine lv_goto (tgt := 3152) hx hb dL_law_2117 (by decide) ?_
        obtain rfl := hk_s hsp
        exact W.widen (by omega) (by omega) (kk n H locs ls G (lv_sub hl [2, 3, 4, 5, 6] rfl))
      · have hsp := hk_f c7 hsp
        exact nomatch hsp
  · have hsp := hk_f c4 hsp
    exact nomatch hsp
def mop_40 (F : Nat) (S : hk_S) (p1 p2 p3 p4 p5 : Int32) : Option hk_S :=
(mL_damage (hk_EE 232 229) F S 0 p1 231).bind (fun r1 => (mX12_damage (hk_EE 232 229) F r1.2 221 p1).bind (fun r2 => (mX12_thrown (hk_EE 232 229) F r2.2 221).bind (fun r3 => if r3.1 = r1.1 then (if ¬ r1.1 = 0 then (some r3.2) else (if hk_ok 0 ((hk_EE 232 229).2.2.1 231) then (if (lg_cmp ((r3.2 231 0).toInt64) ((r2.1 : Int32).toInt64)) = 0 then (some r3.2) else (none)) else none)) else (none))))
set_option maxHeartbeats 4000000 in
set_option maxRecDepth 100000 in
theorem kop_40 (hst : l.stackTraces = false) (hC : hk_LC p s m meth c b L xs g) (F : Nat) {n : Nat} {S : hk_S} {H : Heap} {locs : List Loc} {ls : Array Slot} {cells slots : Nat} {i : Int32} (hi : ∀ k : Nat, k < 6 → vp_in (i + nI k) L) (hf : cells + 8 ≤ room_1.cells ∧ slots + 48 ≤ room_1.slots) (G : hk_GG g (hk_EE 232 229) S n s H locs) (hl : lv_has ls 9 [(0, .ref b), (1, .ref (g.1 + 0)), (2, .ref (g.1 + 221)), (3, .ref (g.1 + 231)), (4, .int i)]) (o : hk_S) (hsp : mop_40 F S (xs (i + 1).toNatClampNeg) (xs (i + 2).toNatClampNeg) (xs (i + 3).toNatClampNeg) (xs (i + 4).toNatClampNeg) (xs (i + 5).toNatClampNeg) = some o) (kk : ∀ (n1 : Nat) (H1 : Heap) (locs1 : List Loc) (ls1 : Array Slot), hk_GG g (hk_EE 232 229) o n1 s H1 locs1 → lv_has ls1 9 [(0, .ref b), (1, .ref (g.1 + 0)), (2, .ref (g.1 + 221)), (3, .ref (g.1 + 231)), (4, .int i)] → W p l e room_1 s m #[Value.ref b] below meth c H1 locs1 (cells + 8) (slots + 48) Q (F0 m 3152 ls1 [])) : W p l e room_1 s m #[Value.ref b] below meth c H locs cells slots Q (F0 m 2120 ls []) := by
  have hfc := hf.1
  have hfs := hf.2
  have F9 := hC.1
  have hx := F9.1
  have hb := F9.2.1
  generalize hp1 : xs (i + 1).toNatClampNeg = p1 at hsp
  generalize hp2 : xs (i + 2).toNatClampNeg = p2 at hsp
  generalize hp3 : xs (i + 3).toNatClampNeg = p3 at hsp
  generalize hp4 : xs (i + 4).toNatClampNeg = p4 at hsp
  generalize hp5 : xs (i + 5).toNatClampNeg = p5 at hsp
  unfold mop_40 at hsp
  refine lv_aload_n hx hb dL_law_2120 rfl (lv_at hl 1 rfl) ?_
  refine lv_aload_n hx hb dL_law_2121 rfl (lv_at hl 0 rfl) ?_
  refine lv_iload hx hb dL_law_2122 (lv_at hl 4 rfl) ?_
  refine lv_iconst (v := 1) hx hb dL_law_2124 (by decide) ?_
  refine lv_iadd hx hb dL_law_2125 ?_
  refine va_sld hx hb hC.2.2.1 hC.2.2.2.1 hC.2.2.2.2 G.2.1 (hi 1 (by decide)) dL_law_2126 ?_
  rw [hp1]
  refine lv_aload_n hx hb dL_law_2127 rfl (lv_at hl 3 rfl) ?_
  obtain ⟨r1, er1, hsp⟩ := hk_b hsp
  refine hk_callW (As := [.ref (g.1 + 0), .int p1, .ref (g.1 + 231)]) (rest := []) F9 G (kL_damage l hst g (hk_EE 232 229) F n S 0 p1 231 r1 (by decide +kernel) (by decide +kernel) er1) qW_291 ⟨rfl, rfl, (Nat.le_of_ble_eq_true rfl), (Nat.le_of_ble_eq_true rfl)⟩ rfl hl.1 rfl (Nat.le_of_ble_eq_true rfl) ⟨by omega, by omega⟩ dL_law_2128 (fun n H locs G => ?_)
  refine lv_istore (lv' := [(5, .int r1.1), (0, .ref b), (1, .ref (g.1 + 0)), (2, .ref (g.1 + 221)), (3, .ref (g.1 + 231)), (4, .int i)]) hx hb dL_law_2131  hl (by decide) rfl (fun ls hl => ?_)
  refine lv_aload_n hx hb dL_law_2133 rfl (lv_at hl 3 rfl) ?_
  refine lv_aload_n hx hb dL_law_2134 rfl (lv_at hl 1 rfl) ?_
  refine lv_iload hx hb dL_law_2135 (lv_at hl 5 rfl) ?_
  refine lv_iconst (v := 1) hx hb dL_law_2137 (by decide) ?_
  refine lv_iadd hx hb dL_law_2138 ?_
  refine va_sld hx hb hC.2.2.1 hC.2.2.2.1 hC.2.2.2.2 G.2.1 (hi 1 (by decide)) dL_law_2139 ?_
  rw [hp1]
  obtain ⟨r2, er2, hsp⟩ := hk_b hsp
  refine hk_callVi (As := [.int p1]) (rest := []) F9 G (by decide +kernel) hkc_9 rfl (kX12_damage l g (hk_EE 232 229) F n r1.2 221 p1 r2 (by decide +kernel) er2) qv_RL_293 ⟨rfl, rfl, (Nat.le_of_ble_eq_true rfl), (Nat.le_of_ble_eq_true rfl)⟩ rfl hl.1 rfl (Nat.le_of_ble_eq_true rfl) ⟨by omega, by omega⟩ dL_law_2140 (fun H locs G => ?_)
  refine lv_istore (lv' := [(6, .int r2.1), (5, .int r1.1), (0, .ref b), (1, .ref (g.1 + 0)), (2, .ref (g.1 + 221)), (3, .ref (g.1 + 231)), (4, .int i)]) hx hb dL_law_2143  hl (by decide) rfl (fun ls hl => ?_)
  refine lv_aload_n hx hb dL_law_2145 rfl (lv_at hl 4 rfl) ?_
  obtain ⟨r3, er3, hsp⟩ := hk_b hsp
  refine hk_callVi (As := []) (rest := []) F9 G (by decide +kernel) hkc_9 rfl (kX12_thrown l g (hk_EE 232 229) F n r2.2 221 r3 (by decide +kernel) er3) qv_RL_157 ⟨rfl, rfl, (Nat.le_of_ble_eq_true rfl), (Nat.le_of_ble_eq_true rfl)⟩ rfl hl.1 rfl (Nat.le_of_ble_eq_true rfl) ⟨by omega, by omega⟩ dL_law_2146 (fun H locs G => ?_)
  refine lv_iload hx hb dL_law_2149 (lv_at hl 1 rfl) ?_
  refine lv_icmp_eq (tgt := 2156) hx hb dL_law_2151 (by decide) (fun c4 => ?_) (fun c4 => ?_)
  · have hsp := hk_t c4 hsp
    refine lv_iload hx hb dL_law_2156 (lv_at hl 1 rfl) ?_
    refine lv_if_ne (tgt := 2173) hx hb dL_law_2158 (by decide) (fun c5 => ?_) (fun c5 => ?_)
    · have hsp := hk_t c5 hsp
      refine lv_goto (tgt := 3152) hx hb dL_law_2173 (by decide) ?_
      obtain rfl := hk_s hsp
      exact W.widen (by omega) (by omega) (kk n H locs ls G (lv_sub hl [2, 3, 4, 5, 6] rfl))
    · have hsp := hk_g c5 hsp
      refine lv_aload_n hx hb dL_law_2161 rfl (lv_at hl 5 rfl) ?_
      refine lv_iconst (v := 0) hx hb dL_law_2162 (by decide) ?_
      obtain ⟨q6, hsp⟩ := hk_k hsp
      refine hk_lald (j := 0) F9 G (by decide +kernel) rfl q6 (by decide) dL_law_2163 ?_
      refine lv_iload hx hb dL_law_2164 (lv_at hl 0 rfl) ?_
      refine lv_i2l (v := (r2.1 : Int32).toInt64) hx hb dL_law_2166 rfl ?_
      refine W.lcmp hx hb dL_law_2167 ?_
      refine lv_if_eq (tgt := 2173) hx hb dL_law_2168 (by decide) (fun c7 => ?_) (fun c7 => ?_)
      · have hsp := hk_t c7 hsp
        refine lv_goto (tgt := 3152) hx hb dL_law_2173 (by decide) ?_
        obtain rfl := hk_s hsp
        exact W.widen (by omega) (by omega) (kk n H locs ls G (lv_sub hl [2, 3, 4, 5, 6] rfl))
      · have hsp := hk_f c7 hsp
        exact nomatch hsp
  · have hsp := hk_f c4 hsp
    exact nomatch hsp
def mop_41 (F : Nat) (S : hk_S) (p1 p2 p3 p4 p5 : Int32) : Option hk_S :=
(mL_marks (hk_EE 232 229) F S 0 p1 231).bind (fun r1 => (mX12_marks (hk_EE 232 229) F r1.2 221 p1).bind (fun r2 => (mX12_thrown (hk_EE 232 229) F r2.2 221).bind (fun r3 => if r3.1 = r1.1 then (if ¬ r1.1 = 0 then (some r3.2) else (if hk_ok 0 ((hk_EE 232 229).2.2.1 231) then (if (lg_cmp ((r3.2 231 0).toInt64) ((r2.1 : Int32).toInt64)) = 0 then (some r3.2) else (none)) else none)) else (none))))
set_option maxHeartbeats 4000000 in
set_option maxRecDepth 100000 in
theorem kop_41 (hst : l.stackTraces = false) (hC : hk_LC p s m meth c b L xs g) (F : Nat) {n : Nat} {S : hk_S} {H : Heap} {locs : List Loc} {ls : Array Slot} {cells slots : Nat} {i : Int32} (hi : ∀ k : Nat, k < 6 → vp_in (i + nI k) L) (hf : cells + 8 ≤ room_1.cells ∧ slots + 48 ≤ room_1.slots) (G : hk_GG g (hk_EE 232 229) S n s H locs) (hl : lv_has ls 9 [(0, .ref b), (1, .ref (g.1 + 0)), (2, .ref (g.1 + 221)), (3, .ref (g.1 + 231)), (4, .int i)]) (o : hk_S) (hsp : mop_41 F S (xs (i + 1).toNatClampNeg) (xs (i + 2).toNatClampNeg) (xs (i + 3).toNatClampNeg) (xs (i + 4).toNatClampNeg) (xs (i + 5).toNatClampNeg) = some o) (kk : ∀ (n1 : Nat) (H1 : Heap) (locs1 : List Loc) (ls1 : Array Slot), hk_GG g (hk_EE 232 229) o n1 s H1 locs1 → lv_has ls1 9 [(0, .ref b), (1, .ref (g.1 + 0)), (2, .ref (g.1 + 221)), (3, .ref (g.1 + 231)), (4, .int i)] → W p l e room_1 s m #[Value.ref b] below meth c H1 locs1 (cells + 8) (slots + 48) Q (F0 m 3152 ls1 [])) : W p l e room_1 s m #[Value.ref b] below meth c H locs cells slots Q (F0 m 2176 ls []) := by
  have hfc := hf.1
  have hfs := hf.2
  have F9 := hC.1
  have hx := F9.1
  have hb := F9.2.1
  generalize hp1 : xs (i + 1).toNatClampNeg = p1 at hsp
  generalize hp2 : xs (i + 2).toNatClampNeg = p2 at hsp
  generalize hp3 : xs (i + 3).toNatClampNeg = p3 at hsp
  generalize hp4 : xs (i + 4).toNatClampNeg = p4 at hsp
  generalize hp5 : xs (i + 5).toNatClampNeg = p5 at hsp
  unfold mop_41 at hsp
  refine lv_aload_n hx hb dL_law_2176 rfl (lv_at hl 1 rfl) ?_
  refine lv_aload_n hx hb dL_law_2177 rfl (lv_at hl 0 rfl) ?_
  refine lv_iload hx hb dL_law_2178 (lv_at hl 4 rfl) ?_
  refine lv_iconst (v := 1) hx hb dL_law_2180 (by decide) ?_
  refine lv_iadd hx hb dL_law_2181 ?_
  refine va_sld hx hb hC.2.2.1 hC.2.2.2.1 hC.2.2.2.2 G.2.1 (hi 1 (by decide)) dL_law_2182 ?_
  rw [hp1]
  refine lv_aload_n hx hb dL_law_2183 rfl (lv_at hl 3 rfl) ?_
  obtain ⟨r1, er1, hsp⟩ := hk_b hsp
  refine hk_callW (As := [.ref (g.1 + 0), .int p1, .ref (g.1 + 231)]) (rest := []) F9 G (kL_marks l hst g (hk_EE 232 229) F n S 0 p1 231 r1 (by decide +kernel) (by decide +kernel) er1) qW_294 ⟨rfl, rfl, (Nat.le_of_ble_eq_true rfl), (Nat.le_of_ble_eq_true rfl)⟩ rfl hl.1 rfl (Nat.le_of_ble_eq_true rfl) ⟨by omega, by omega⟩ dL_law_2184 (fun n H locs G => ?_)
  refine lv_istore (lv' := [(5, .int r1.1), (0, .ref b), (1, .ref (g.1 + 0)), (2, .ref (g.1 + 221)), (3, .ref (g.1 + 231)), (4, .int i)]) hx hb dL_law_2187  hl (by decide) rfl (fun ls hl => ?_)
  refine lv_aload_n hx hb dL_law_2189 rfl (lv_at hl 3 rfl) ?_
  refine lv_aload_n hx hb dL_law_2190 rfl (lv_at hl 1 rfl) ?_
  refine lv_iload hx hb dL_law_2191 (lv_at hl 5 rfl) ?_
  refine lv_iconst (v := 1) hx hb dL_law_2193 (by decide) ?_
  refine lv_iadd hx hb dL_law_2194 ?_
  refine va_sld hx hb hC.2.2.1 hC.2.2.2.1 hC.2.2.2.2 G.2.1 (hi 1 (by decide)) dL_law_2195 ?_
  rw [hp1]
  obtain ⟨r2, er2, hsp⟩ := hk_b hsp
  refine hk_callVi (As := [.int p1]) (rest := []) F9 G (by decide +kernel) hkc_9 rfl (kX12_marks l g (hk_EE 232 229) F n r1.2 221 p1 r2 (by decide +kernel) er2) qv_RL_296 ⟨rfl, rfl, (Nat.le_of_ble_eq_true rfl), (Nat.le_of_ble_eq_true rfl)⟩ rfl hl.1 rfl (Nat.le_of_ble_eq_true rfl) ⟨by omega, by omega⟩ dL_law_2196 (fun H locs G => ?_)
  refine lv_istore (lv' := [(6, .int r2.1), (5, .int r1.1), (0, .ref b), (1, .ref (g.1 + 0)), (2, .ref (g.1 + 221)), (3, .ref (g.1 + 231)), (4, .int i)]) hx hb dL_law_2199  hl (by decide) rfl (fun ls hl => ?_)
  refine lv_aload_n hx hb dL_law_2201 rfl (lv_at hl 4 rfl) ?_
  obtain ⟨r3, er3, hsp⟩ := hk_b hsp
  refine hk_callVi (As := []) (rest := []) F9 G (by decide +kernel) hkc_9 rfl (kX12_thrown l g (hk_EE 232 229) F n r2.2 221 r3 (by decide +kernel) er3) qv_RL_157 ⟨rfl, rfl, (Nat.le_of_ble_eq_true rfl), (Nat.le_of_ble_eq_true rfl)⟩ rfl hl.1 rfl (Nat.le_of_ble_eq_true rfl) ⟨by omega, by omega⟩ dL_law_2202 (fun H locs G => ?_)
  refine lv_iload hx hb dL_law_2205 (lv_at hl 1 rfl) ?_
  refine lv_icmp_eq (tgt := 2212) hx hb dL_law_2207 (by decide) (fun c4 => ?_) (fun c4 => ?_)
  · have hsp := hk_t c4 hsp
    refine lv_iload hx hb dL_law_2212 (lv_at hl 1 rfl) ?_
    refine lv_if_ne (tgt := 2229) hx hb dL_law_2214 (by decide) (fun c5 => ?_) (fun c5 => ?_)
    · have hsp := hk_t c5 hsp
      refine lv_goto (tgt := 3152) hx hb dL_law_2229 (by decide) ?_
      obtain rfl := hk_s hsp
      exact W.widen (by omega) (by omega) (kk n H locs ls G (lv_sub hl [2, 3, 4, 5, 6] rfl))
    · have hsp := hk_g c5 hsp
      refine lv_aload_n hx hb dL_law_2217 rfl (lv_at hl 5 rfl) ?_
      refine lv_iconst (v := 0) hx hb dL_law_2218 (by decide) ?_
      obtain ⟨q6, hsp⟩ := hk_k hsp
      refine hk_lald (j := 0) F9 G (by decide +kernel) rfl q6 (by decide) dL_law_2219 ?_
      refine lv_iload hx hb dL_law_2220 (lv_at hl 0 rfl) ?_
      refine lv_i2l (v := (r2.1 : Int32).toInt64) hx hb dL_law_2222 rfl ?_
      refine W.lcmp hx hb dL_law_2223 ?_
      refine lv_if_eq (tgt := 2229) hx hb dL_law_2224 (by decide) (fun c7 => ?_) (fun c7 => ?_)
      · have hsp := hk_t c7 hsp
        refine lv_goto (tgt := 3152) hx hb dL_law_2229 (by decide) ?_
        obtain rfl := hk_s hsp
        exact W.widen (by omega) (by omega) (kk n H locs ls G (lv_sub hl [2, 3, 4, 5, 6] rfl))
      · have hsp := hk_f c7 hsp
        exact nomatch hsp
  · have hsp := hk_f c4 hsp
    exact nomatch hsp
def mop_42 (F : Nat) (S : hk_S) (p1 p2 p3 p4 p5 : Int32) : Option hk_S :=
(mL_loss (hk_EE 232 229) F S 0 p1 231).bind (fun r1 => (mX12_loss (hk_EE 232 229) F r1.2 221 p1).bind (fun r2 => (mX12_thrown (hk_EE 232 229) F r2.2 221).bind (fun r3 => if r3.1 = r1.1 then (if ¬ r1.1 = 0 then (some r3.2) else (if hk_ok 0 ((hk_EE 232 229).2.2.1 231) then (if (lg_cmp ((r3.2 231 0).toInt64) ((r2.1 : Int32).toInt64)) = 0 then (some r3.2) else (none)) else none)) else (none))))
set_option maxHeartbeats 4000000 in
set_option maxRecDepth 100000 in
theorem kop_42 (hst : l.stackTraces = false) (hC : hk_LC p s m meth c b L xs g) (F : Nat) {n : Nat} {S : hk_S} {H : Heap} {locs : List Loc} {ls : Array Slot} {cells slots : Nat} {i : Int32} (hi : ∀ k : Nat, k < 6 → vp_in (i + nI k) L) (hf : cells + 8 ≤ room_1.cells ∧ slots + 48 ≤ room_1.slots) (G : hk_GG g (hk_EE 232 229) S n s H locs) (hl : lv_has ls 9 [(0, .ref b), (1, .ref (g.1 + 0)), (2, .ref (g.1 + 221)), (3, .ref (g.1 + 231)), (4, .int i)]) (o : hk_S) (hsp : mop_42 F S (xs (i + 1).toNatClampNeg) (xs (i + 2).toNatClampNeg) (xs (i + 3).toNatClampNeg) (xs (i + 4).toNatClampNeg) (xs (i + 5).toNatClampNeg) = some o) (kk : ∀ (n1 : Nat) (H1 : Heap) (locs1 : List Loc) (ls1 : Array Slot), hk_GG g (hk_EE 232 229) o n1 s H1 locs1 → lv_has ls1 9 [(0, .ref b), (1, .ref (g.1 + 0)), (2, .ref (g.1 + 221)), (3, .ref (g.1 + 231)), (4, .int i)] → W p l e room_1 s m #[Value.ref b] below meth c H1 locs1 (cells + 8) (slots + 48) Q (F0 m 3152 ls1 [])) : W p l e room_1 s m #[Value.ref b] below meth c H locs cells slots Q (F0 m 2232 ls []) := by
  have hfc := hf.1
  have hfs := hf.2
  have F9 := hC.1
  have hx := F9.1
  have hb := F9.2.1
  generalize hp1 : xs (i + 1).toNatClampNeg = p1 at hsp
  generalize hp2 : xs (i + 2).toNatClampNeg = p2 at hsp
  generalize hp3 : xs (i + 3).toNatClampNeg = p3 at hsp
  generalize hp4 : xs (i + 4).toNatClampNeg = p4 at hsp
  generalize hp5 : xs (i + 5).toNatClampNeg = p5 at hsp
  unfold mop_42 at hsp
  refine lv_aload_n hx hb dL_law_2232 rfl (lv_at hl 1 rfl) ?_
  refine lv_aload_n hx hb dL_law_2233 rfl (lv_at hl 0 rfl) ?_
  refine lv_iload hx hb dL_law_2234 (lv_at hl 4 rfl) ?_
  refine lv_iconst (v := 1) hx hb dL_law_2236 (by decide) ?_
  refine lv_iadd hx hb dL_law_2237 ?_
  refine va_sld hx hb hC.2.2.1 hC.2.2.2.1 hC.2.2.2.2 G.2.1 (hi 1 (by decide)) dL_law_2238 ?_
  rw [hp1]
  refine lv_aload_n hx hb dL_law_2239 rfl (lv_at hl 3 rfl) ?_
  obtain ⟨r1, er1, hsp⟩ := hk_b hsp
  refine hk_callW (As := [.ref (g.1 + 0), .int p1, .ref (g.1 + 231)]) (rest := []) F9 G (kL_loss l hst g (hk_EE 232 229) F n S 0 p1 231 r1 (by decide +kernel) (by decide +kernel) er1) qW_297 ⟨rfl, rfl, (Nat.le_of_ble_eq_true rfl), (Nat.le_of_ble_eq_true rfl)⟩ rfl hl.1 rfl (Nat.le_of_ble_eq_true rfl) ⟨by omega, by omega⟩ dL_law_2240 (fun n H locs G => ?_)
  refine lv_istore (lv' := [(5, .int r1.1), (0, .ref b), (1, .ref (g.1 + 0)), (2, .ref (g.1 + 221)), (3, .ref (g.1 + 231)), (4, .int i)]) hx hb dL_law_2243  hl (by decide) rfl (fun ls hl => ?_)
  refine lv_aload_n hx hb dL_law_2245 rfl (lv_at hl 3 rfl) ?_
  refine lv_aload_n hx hb dL_law_2246 rfl (lv_at hl 1 rfl) ?_
  refine lv_iload hx hb dL_law_2247 (lv_at hl 5 rfl) ?_
  refine lv_iconst (v := 1) hx hb dL_law_2249 (by decide) ?_
  refine lv_iadd hx hb dL_law_2250 ?_
  refine va_sld hx hb hC.2.2.1 hC.2.2.2.1 hC.2.2.2.2 G.2.1 (hi 1 (by decide)) dL_law_2251 ?_
  rw [hp1]
  obtain ⟨r2, er2, hsp⟩ := hk_b hsp
  refine hk_callVi (As := [.int p1]) (rest := []) F9 G (by decide +kernel) hkc_9 rfl (kX12_loss l g (hk_EE 232 229) F n r1.2 221 p1 r2 (by decide +kernel) er2) qv_RL_299 ⟨rfl, rfl, (Nat.le_of_ble_eq_true rfl), (Nat.le_of_ble_eq_true rfl)⟩ rfl hl.1 rfl (Nat.le_of_ble_eq_true rfl) ⟨by omega, by omega⟩ dL_law_2252 (fun H locs G => ?_)
  refine lv_istore (lv' := [(6, .int r2.1), (5, .int r1.1), (0, .ref b), (1, .ref (g.1 + 0)), (2, .ref (g.1 + 221)), (3, .ref (g.1 + 231)), (4, .int i)]) hx hb dL_law_2255  hl (by decide) rfl (fun ls hl => ?_)
  refine lv_aload_n hx hb dL_law_2257 rfl (lv_at hl 4 rfl) ?_
  obtain ⟨r3, er3, hsp⟩ := hk_b hsp
  refine hk_callVi (As := []) (rest := []) F9 G (by decide +kernel) hkc_9 rfl (kX12_thrown l g (hk_EE 232 229) F n r2.2 221 r3 (by decide +kernel) er3) qv_RL_157 ⟨rfl, rfl, (Nat.le_of_ble_eq_true rfl), (Nat.le_of_ble_eq_true rfl)⟩ rfl hl.1 rfl (Nat.le_of_ble_eq_true rfl) ⟨by omega, by omega⟩ dL_law_2258 (fun H locs G => ?_)
  refine lv_iload hx hb dL_law_2261 (lv_at hl 1 rfl) ?_
  refine lv_icmp_eq (tgt := 2268) hx hb dL_law_2263 (by decide) (fun c4 => ?_) (fun c4 => ?_)
  · have hsp := hk_t c4 hsp
    refine lv_iload hx hb dL_law_2268 (lv_at hl 1 rfl) ?_
    refine lv_if_ne (tgt := 2285) hx hb dL_law_2270 (by decide) (fun c5 => ?_) (fun c5 => ?_)
    · have hsp := hk_t c5 hsp
      refine lv_goto (tgt := 3152) hx hb dL_law_2285 (by decide) ?_
      obtain rfl := hk_s hsp
      exact W.widen (by omega) (by omega) (kk n H locs ls G (lv_sub hl [2, 3, 4, 5, 6] rfl))
    · have hsp := hk_g c5 hsp
      refine lv_aload_n hx hb dL_law_2273 rfl (lv_at hl 5 rfl) ?_
      refine lv_iconst (v := 0) hx hb dL_law_2274 (by decide) ?_
      obtain ⟨q6, hsp⟩ := hk_k hsp
      refine hk_lald (j := 0) F9 G (by decide +kernel) rfl q6 (by decide) dL_law_2275 ?_
      refine lv_iload hx hb dL_law_2276 (lv_at hl 0 rfl) ?_
      refine lv_i2l (v := (r2.1 : Int32).toInt64) hx hb dL_law_2278 rfl ?_
      refine W.lcmp hx hb dL_law_2279 ?_
      refine lv_if_eq (tgt := 2285) hx hb dL_law_2280 (by decide) (fun c7 => ?_) (fun c7 => ?_)
      · have hsp := hk_t c7 hsp
        refine lv_goto (tgt := 3152) hx hb dL_law_2285 (by decide) ?_
        obtain rfl := hk_s hsp
        exact W.widen (by omega) (by omega) (kk n H locs ls G (lv_sub hl [2, 3, 4, 5, 6] rfl))
      · have hsp := hk_f c7 hsp
        exact nomatch hsp
  · have hsp := hk_f c4 hsp
    exact nomatch hsp
def mop_43 (F : Nat) (S : hk_S) (p1 p2 p3 p4 p5 : Int32) : Option hk_S :=
(mL_whyNoDischarge (hk_EE 232 229) F S 0 p1 231).bind (fun r1 => (mX12_whyNoDischarge (hk_EE 232 229) F r1.2 221 p1).bind (fun r2 => (mX12_thrown (hk_EE 232 229) F r2.2 221).bind (fun r3 => if r3.1 = r1.1 then (if ¬ r1.1 = 0 then (some r3.2) else (if hk_ok 0 ((hk_EE 232 229).2.2.1 231) then (if (lg_cmp ((r3.2 231 0).toInt64) ((r2.1 : Int32).toInt64)) = 0 then (some r3.2) else (none)) else none)) else (none))))
set_option maxHeartbeats 4000000 in
set_option maxRecDepth 100000 in
theorem kop_43 (hst : l.stackTraces = false) (hC : hk_LC p s m meth c b L xs g) (F : Nat) {n : Nat} {S : hk_S} {H : Heap} {locs : List Loc} {ls : Array Slot} {cells slots : Nat} {i : Int32} (hi : ∀ k : Nat, k < 6 → vp_in (i + nI k) L) (hf : cells + 8 ≤ room_1.cells ∧ slots + 48 ≤ room_1.slots) (G : hk_GG g (hk_EE 232 229) S n s H locs) (hl : lv_has ls 9 [(0, .ref b), (1, .ref (g.1 + 0)), (2, .ref (g.1 + 221)), (3, .ref (g.1 + 231)), (4, .int i)]) (o : hk_S) (hsp : mop_43 F S (xs (i + 1).toNatClampNeg) (xs (i + 2).toNatClampNeg) (xs (i + 3).toNatClampNeg) (xs (i + 4).toNatClampNeg) (xs (i + 5).toNatClampNeg) = some o) (kk : ∀ (n1 : Nat) (H1 : Heap) (locs1 : List Loc) (ls1 : Array Slot), hk_GG g (hk_EE 232 229) o n1 s H1 locs1 → lv_has ls1 9 [(0, .ref b), (1, .ref (g.1 + 0)), (2, .ref (g.1 + 221)), (3, .ref (g.1 + 231)), (4, .int i)] → W p l e room_1 s m #[Value.ref b] below meth c H1 locs1 (cells + 8) (slots + 48) Q (F0 m 3152 ls1 [])) : W p l e room_1 s m #[Value.ref b] below meth c H locs cells slots Q (F0 m 2288 ls []) := by
  have hfc := hf.1
  have hfs := hf.2
  have F9 := hC.1
  have hx := F9.1
  have hb := F9.2.1
  generalize hp1 : xs (i + 1).toNatClampNeg = p1 at hsp
  generalize hp2 : xs (i + 2).toNatClampNeg = p2 at hsp
  generalize hp3 : xs (i + 3).toNatClampNeg = p3 at hsp
  generalize hp4 : xs (i + 4).toNatClampNeg = p4 at hsp
  generalize hp5 : xs (i + 5).toNatClampNeg = p5 at hsp
  unfold mop_43 at hsp
  refine lv_aload_n hx hb dL_law_2288 rfl (lv_at hl 1 rfl) ?_
  refine lv_aload_n hx hb dL_law_2289 rfl (lv_at hl 0 rfl) ?_
  refine lv_iload hx hb dL_law_2290 (lv_at hl 4 rfl) ?_
  refine lv_iconst (v := 1) hx hb dL_law_2292 (by decide) ?_
  refine lv_iadd hx hb dL_law_2293 ?_
  refine va_sld hx hb hC.2.2.1 hC.2.2.2.1 hC.2.2.2.2 G.2.1 (hi 1 (by decide)) dL_law_2294 ?_
  rw [hp1]
  refine lv_aload_n hx hb dL_law_2295 rfl (lv_at hl 3 rfl) ?_
  obtain ⟨r1, er1, hsp⟩ := hk_b hsp
  refine hk_callW (As := [.ref (g.1 + 0), .int p1, .ref (g.1 + 231)]) (rest := []) F9 G (kL_whyNoDischarge l hst g (hk_EE 232 229) F n S 0 p1 231 r1 (by decide +kernel) (by decide +kernel) er1) qW_300 ⟨rfl, rfl, (Nat.le_of_ble_eq_true rfl), (Nat.le_of_ble_eq_true rfl)⟩ rfl hl.1 rfl (Nat.le_of_ble_eq_true rfl) ⟨by omega, by omega⟩ dL_law_2296 (fun n H locs G => ?_)
  refine lv_istore (lv' := [(5, .int r1.1), (0, .ref b), (1, .ref (g.1 + 0)), (2, .ref (g.1 + 221)), (3, .ref (g.1 + 231)), (4, .int i)]) hx hb dL_law_2299  hl (by decide) rfl (fun ls hl => ?_)
  refine lv_aload_n hx hb dL_law_2301 rfl (lv_at hl 3 rfl) ?_
  refine lv_aload_n hx hb dL_law_2302 rfl (lv_at hl 1 rfl) ?_
  refine lv_iload hx hb dL_law_2303 (lv_at hl 5 rfl) ?_
  refine lv_iconst (v := 1) hx hb dL_law_2305 (by decide) ?_
  refine lv_iadd hx hb dL_law_2306 ?_
  refine va_sld hx hb hC.2.2.1 hC.2.2.2.1 hC.2.2.2.2 G.2.1 (hi 1 (by decide)) dL_law_2307 ?_
  rw [hp1]
  obtain ⟨r2, er2, hsp⟩ := hk_b hsp
  refine hk_callVi (As := [.int p1]) (rest := []) F9 G (by decide +kernel) hkc_9 rfl (kX12_whyNoDischarge l g (hk_EE 232 229) F n r1.2 221 p1 r2 (by decide +kernel) er2) qv_RL_302 ⟨rfl, rfl, (Nat.le_of_ble_eq_true rfl), (Nat.le_of_ble_eq_true rfl)⟩ rfl hl.1 rfl (Nat.le_of_ble_eq_true rfl) ⟨by omega, by omega⟩ dL_law_2308 (fun H locs G => ?_)
  refine lv_istore (lv' := [(6, .int r2.1), (5, .int r1.1), (0, .ref b), (1, .ref (g.1 + 0)), (2, .ref (g.1 + 221)), (3, .ref (g.1 + 231)), (4, .int i)]) hx hb dL_law_2311  hl (by decide) rfl (fun ls hl => ?_)
  refine lv_aload_n hx hb dL_law_2313 rfl (lv_at hl 4 rfl) ?_
  obtain ⟨r3, er3, hsp⟩ := hk_b hsp
  refine hk_callVi (As := []) (rest := []) F9 G (by decide +kernel) hkc_9 rfl (kX12_thrown l g (hk_EE 232 229) F n r2.2 221 r3 (by decide +kernel) er3) qv_RL_157 ⟨rfl, rfl, (Nat.le_of_ble_eq_true rfl), (Nat.le_of_ble_eq_true rfl)⟩ rfl hl.1 rfl (Nat.le_of_ble_eq_true rfl) ⟨by omega, by omega⟩ dL_law_2314 (fun H locs G => ?_)
  refine lv_iload hx hb dL_law_2317 (lv_at hl 1 rfl) ?_
  refine lv_icmp_eq (tgt := 2324) hx hb dL_law_2319 (by decide) (fun c4 => ?_) (fun c4 => ?_)
  · have hsp := hk_t c4 hsp
    refine lv_iload hx hb dL_law_2324 (lv_at hl 1 rfl) ?_
    refine lv_if_ne (tgt := 2341) hx hb dL_law_2326 (by decide) (fun c5 => ?_) (fun c5 => ?_)
    · have hsp := hk_t c5 hsp
      refine lv_goto (tgt := 3152) hx hb dL_law_2341 (by decide) ?_
      obtain rfl := hk_s hsp
      exact W.widen (by omega) (by omega) (kk n H locs ls G (lv_sub hl [2, 3, 4, 5, 6] rfl))
    · have hsp := hk_g c5 hsp
      refine lv_aload_n hx hb dL_law_2329 rfl (lv_at hl 5 rfl) ?_
      refine lv_iconst (v := 0) hx hb dL_law_2330 (by decide) ?_
      obtain ⟨q6, hsp⟩ := hk_k hsp
      refine hk_lald (j := 0) F9 G (by decide +kernel) rfl q6 (by decide) dL_law_2331 ?_
      refine lv_iload hx hb dL_law_2332 (lv_at hl 0 rfl) ?_
      refine lv_i2l (v := (r2.1 : Int32).toInt64) hx hb dL_law_2334 rfl ?_
      refine W.lcmp hx hb dL_law_2335 ?_
      refine lv_if_eq (tgt := 2341) hx hb dL_law_2336 (by decide) (fun c7 => ?_) (fun c7 => ?_)
      · have hsp := hk_t c7 hsp
        refine lv_goto (tgt := 3152) hx hb dL_law_2341 (by decide) ?_
        obtain rfl := hk_s hsp
        exact W.widen (by omega) (by omega) (kk n H locs ls G (lv_sub hl [2, 3, 4, 5, 6] rfl))
      · have hsp := hk_f c7 hsp
        exact nomatch hsp
  · have hsp := hk_f c4 hsp
    exact nomatch hsp
def mop_44 (F : Nat) (S : hk_S) (p1 p2 p3 p4 p5 : Int32) : Option hk_S :=
(mX11_readyTroughs (hk_EE 232 229) F S 0).bind (fun r1 => (mX12_readyTroughs (hk_EE 232 229) F r1.2 221).bind (fun r2 => if r1.1 = r2.1 then (some r2.2) else (none)))
set_option maxHeartbeats 4000000 in
set_option maxRecDepth 100000 in
theorem kop_44 (hst : l.stackTraces = false) (hC : hk_LC p s m meth c b L xs g) (F : Nat) {n : Nat} {S : hk_S} {H : Heap} {locs : List Loc} {ls : Array Slot} {cells slots : Nat} {i : Int32} (hi : ∀ k : Nat, k < 6 → vp_in (i + nI k) L) (hf : cells + 8 ≤ room_1.cells ∧ slots + 48 ≤ room_1.slots) (G : hk_GG g (hk_EE 232 229) S n s H locs) (hl : lv_has ls 9 [(0, .ref b), (1, .ref (g.1 + 0)), (2, .ref (g.1 + 221)), (3, .ref (g.1 + 231)), (4, .int i)]) (o : hk_S) (hsp : mop_44 F S (xs (i + 1).toNatClampNeg) (xs (i + 2).toNatClampNeg) (xs (i + 3).toNatClampNeg) (xs (i + 4).toNatClampNeg) (xs (i + 5).toNatClampNeg) = some o) (kk : ∀ (n1 : Nat) (H1 : Heap) (locs1 : List Loc) (ls1 : Array Slot), hk_GG g (hk_EE 232 229) o n1 s H1 locs1 → lv_has ls1 9 [(0, .ref b), (1, .ref (g.1 + 0)), (2, .ref (g.1 + 221)), (3, .ref (g.1 + 231)), (4, .int i)] → W p l e room_1 s m #[Value.ref b] below meth c H1 locs1 (cells + 8) (slots + 48) Q (F0 m 3152 ls1 [])) : W p l e room_1 s m #[Value.ref b] below meth c H locs cells slots Q (F0 m 2344 ls []) := by
  have hfc := hf.1
  have hfs := hf.2
  have F9 := hC.1
  have hx := F9.1
  have hb := F9.2.1
  generalize hp1 : xs (i + 1).toNatClampNeg = p1 at hsp
  generalize hp2 : xs (i + 2).toNatClampNeg = p2 at hsp
  generalize hp3 : xs (i + 3).toNatClampNeg = p3 at hsp
  generalize hp4 : xs (i + 4).toNatClampNeg = p4 at hsp
  generalize hp5 : xs (i + 5).toNatClampNeg = p5 at hsp
  unfold mop_44 at hsp
  refine lv_aload_n hx hb dL_law_2344 rfl (lv_at hl 1 rfl) ?_
  obtain ⟨r1, er1, hsp⟩ := hk_b hsp
  refine hk_callVi (As := []) (rest := []) F9 G (by decide +kernel) hkc_8 rfl (kX11_readyTroughs l g (hk_EE 232 229) F n S 0 r1 (by decide +kernel) er1) qv_RL_303 ⟨rfl, rfl, (Nat.le_of_ble_eq_true rfl), (Nat.le_of_ble_eq_true rfl)⟩ rfl hl.1 rfl (Nat.le_of_ble_eq_true rfl) ⟨by omega, by omega⟩ dL_law_2345 (fun H locs G => ?_)
  refine lv_aload_n hx hb dL_law_2348 rfl (lv_at hl 2 rfl) ?_
  obtain ⟨r2, er2, hsp⟩ := hk_b hsp
  refine hk_callVi (As := []) (rest := [.int r1.1]) F9 G (by decide +kernel) hkc_9 rfl (kX12_readyTroughs l g (hk_EE 232 229) F n r1.2 221 r2 (by decide +kernel) er2) qv_RL_306 ⟨rfl, rfl, (Nat.le_of_ble_eq_true rfl), (Nat.le_of_ble_eq_true rfl)⟩ rfl hl.1 rfl (Nat.le_of_ble_eq_true rfl) ⟨by omega, by omega⟩ dL_law_2349 (fun H locs G => ?_)
  refine lv_icmp_eq (tgt := 3152) hx hb dL_law_2352 (by decide) (fun c3 => ?_) (fun c3 => ?_)
  · have hsp := hk_t c3 hsp
    obtain rfl := hk_s hsp
    exact W.widen (by omega) (by omega) (kk n H locs ls G (lv_sub hl [0, 1, 2, 3, 4] rfl))
  · have hsp := hk_f c3 hsp
    exact nomatch hsp
def mop_45 (F : Nat) (S : hk_S) (p1 p2 p3 p4 p5 : Int32) : Option hk_S :=
(mL_weight (hk_EE 232 229) F S 0 p1 231).bind (fun r1 => (mX12_weight (hk_EE 232 229) F r1.2 221 p1).bind (fun r2 => (mX12_thrown (hk_EE 232 229) F r2.2 221).bind (fun r3 => if r3.1 = r1.1 then (if ¬ r1.1 = 0 then (some r3.2) else (if hk_ok 0 ((hk_EE 232 229).2.2.1 231) then (if (lg_cmp ((r3.2 231 0).toInt64) ((r2.1 : Int32).toInt64)) = 0 then (some r3.2) else (none)) else none)) else (none))))
set_option maxHeartbeats 4000000 in
set_option maxRecDepth 100000 in
theorem kop_45 (hst : l.stackTraces = false) (hC : hk_LC p s m meth c b L xs g) (F : Nat) {n : Nat} {S : hk_S} {H : Heap} {locs : List Loc} {ls : Array Slot} {cells slots : Nat} {i : Int32} (hi : ∀ k : Nat, k < 6 → vp_in (i + nI k) L) (hf : cells + 8 ≤ room_1.cells ∧ slots + 48 ≤ room_1.slots) (G : hk_GG g (hk_EE 232 229) S n s H locs) (hl : lv_has ls 9 [(0, .ref b), (1, .ref (g.1 + 0)), (2, .ref (g.1 + 221)), (3, .ref (g.1 + 231)), (4, .int i)]) (o : hk_S) (hsp : mop_45 F S (xs (i + 1).toNatClampNeg) (xs (i + 2).toNatClampNeg) (xs (i + 3).toNatClampNeg) (xs (i + 4).toNatClampNeg) (xs (i + 5).toNatClampNeg) = some o) (kk : ∀ (n1 : Nat) (H1 : Heap) (locs1 : List Loc) (ls1 : Array Slot), hk_GG g (hk_EE 232 229) o n1 s H1 locs1 → lv_has ls1 9 [(0, .ref b), (1, .ref (g.1 + 0)), (2, .ref (g.1 + 221)), (3, .ref (g.1 + 231)), (4, .int i)] → W p l e room_1 s m #[Value.ref b] below meth c H1 locs1 (cells + 8) (slots + 48) Q (F0 m 3152 ls1 [])) : W p l e room_1 s m #[Value.ref b] below meth c H locs cells slots Q (F0 m 2357 ls []) := by
  have hfc := hf.1
  have hfs := hf.2
  have F9 := hC.1
  have hx := F9.1
  have hb := F9.2.1
  generalize hp1 : xs (i + 1).toNatClampNeg = p1 at hsp
  generalize hp2 : xs (i + 2).toNatClampNeg = p2 at hsp
  generalize hp3 : xs (i + 3).toNatClampNeg = p3 at hsp
  generalize hp4 : xs (i + 4).toNatClampNeg = p4 at hsp
  generalize hp5 : xs (i + 5).toNatClampNeg = p5 at hsp
  unfold mop_45 at hsp
  refine lv_aload_n hx hb dL_law_2357 rfl (lv_at hl 1 rfl) ?_
  refine lv_aload_n hx hb dL_law_2358 rfl (lv_at hl 0 rfl) ?_
  refine lv_iload hx hb dL_law_2359 (lv_at hl 4 rfl) ?_
  refine lv_iconst (v := 1) hx hb dL_law_2361 (by decide) ?_
  refine lv_iadd hx hb dL_law_2362 ?_
  refine va_sld hx hb hC.2.2.1 hC.2.2.2.1 hC.2.2.2.2 G.2.1 (hi 1 (by decide)) dL_law_2363 ?_
  rw [hp1]
  refine lv_aload_n hx hb dL_law_2364 rfl (lv_at hl 3 rfl) ?_
  obtain ⟨r1, er1, hsp⟩ := hk_b hsp
  refine hk_callW (As := [.ref (g.1 + 0), .int p1, .ref (g.1 + 231)]) (rest := []) F9 G (kL_weight l hst g (hk_EE 232 229) F n S 0 p1 231 r1 (by decide +kernel) (by decide +kernel) er1) qW_307 ⟨rfl, rfl, (Nat.le_of_ble_eq_true rfl), (Nat.le_of_ble_eq_true rfl)⟩ rfl hl.1 rfl (Nat.le_of_ble_eq_true rfl) ⟨by omega, by omega⟩ dL_law_2365 (fun n H locs G => ?_)
  refine lv_istore (lv' := [(5, .int r1.1), (0, .ref b), (1, .ref (g.1 + 0)), (2, .ref (g.1 + 221)), (3, .ref (g.1 + 231)), (4, .int i)]) hx hb dL_law_2368  hl (by decide) rfl (fun ls hl => ?_)
  refine lv_aload_n hx hb dL_law_2370 rfl (lv_at hl 3 rfl) ?_
  refine lv_aload_n hx hb dL_law_2371 rfl (lv_at hl 1 rfl) ?_
  refine lv_iload hx hb dL_law_2372 (lv_at hl 5 rfl) ?_
  refine lv_iconst (v := 1) hx hb dL_law_2374 (by decide) ?_
  refine lv_iadd hx hb dL_law_2375 ?_
  refine va_sld hx hb hC.2.2.1 hC.2.2.2.1 hC.2.2.2.2 G.2.1 (hi 1 (by decide)) dL_law_2376 ?_
  rw [hp1]
  obtain ⟨r2, er2, hsp⟩ := hk_b hsp
  refine hk_callVi (As := [.int p1]) (rest := []) F9 G (by decide +kernel) hkc_9 rfl (kX12_weight l g (hk_EE 232 229) F n r1.2 221 p1 r2 (by decide +kernel) er2) qv_RL_309 ⟨rfl, rfl, (Nat.le_of_ble_eq_true rfl), (Nat.le_of_ble_eq_true rfl)⟩ rfl hl.1 rfl (Nat.le_of_ble_eq_true rfl) ⟨by omega, by omega⟩ dL_law_2377 (fun H locs G => ?_)
  refine lv_istore (lv' := [(6, .int r2.1), (5, .int r1.1), (0, .ref b), (1, .ref (g.1 + 0)), (2, .ref (g.1 + 221)), (3, .ref (g.1 + 231)), (4, .int i)]) hx hb dL_law_2380  hl (by decide) rfl (fun ls hl => ?_)
  refine lv_aload_n hx hb dL_law_2382 rfl (lv_at hl 4 rfl) ?_
  obtain ⟨r3, er3, hsp⟩ := hk_b hsp
  refine hk_callVi (As := []) (rest := []) F9 G (by decide +kernel) hkc_9 rfl (kX12_thrown l g (hk_EE 232 229) F n r2.2 221 r3 (by decide +kernel) er3) qv_RL_157 ⟨rfl, rfl, (Nat.le_of_ble_eq_true rfl), (Nat.le_of_ble_eq_true rfl)⟩ rfl hl.1 rfl (Nat.le_of_ble_eq_true rfl) ⟨by omega, by omega⟩ dL_law_2383 (fun H locs G => ?_)
  refine lv_iload hx hb dL_law_2386 (lv_at hl 1 rfl) ?_
  refine lv_icmp_eq (tgt := 2393) hx hb dL_law_2388 (by decide) (fun c4 => ?_) (fun c4 => ?_)
  · have hsp := hk_t c4 hsp
    refine lv_iload hx hb dL_law_2393 (lv_at hl 1 rfl) ?_
    refine lv_if_ne (tgt := 2410) hx hb dL_law_2395 (by decide) (fun c5 => ?_) (fun c5 => ?_)
    · have hsp := hk_t c5 hsp
      refine lv_goto (tgt := 3152) hx hb dL_law_2410 (by decide) ?_
      obtain rfl := hk_s hsp
      exact W.widen (by omega) (by omega) (kk n H locs ls G (lv_sub hl [2, 3, 4, 5, 6] rfl))
    · have hsp := hk_g c5 hsp
      refine lv_aload_n hx hb dL_law_2398 rfl (lv_at hl 5 rfl) ?_
      refine lv_iconst (v := 0) hx hb dL_law_2399 (by decide) ?_
      obtain ⟨q6, hsp⟩ := hk_k hsp
      refine hk_lald (j := 0) F9 G (by decide +kernel) rfl q6 (by decide) dL_law_2400 ?_
      refine lv_iload hx hb dL_law_2401 (lv_at hl 0 rfl) ?_
      refine lv_i2l (v := (r2.1 : Int32).toInt64) hx hb dL_law_2403 rfl ?_
      refine W.lcmp hx hb dL_law_2404 ?_
      refine lv_if_eq (tgt := 2410) hx hb dL_law_2405 (by decide) (fun c7 => ?_) (fun c7 => ?_)
      · have hsp := hk_t c7 hsp
        refine lv_goto (tgt := 3152) hx hb dL_law_2410 (by decide) ?_
        obtain rfl := hk_s hsp
        exact W.widen (by omega) (by omega) (kk n H locs ls G (lv_sub hl [2, 3, 4, 5, 6] rfl))
      · have hsp := hk_f c7 hsp
        exact nomatch hsp
  · have hsp := hk_f c4 hsp
    exact nomatch hsp
def mop_46 (F : Nat) (S : hk_S) (p1 p2 p3 p4 p5 : Int32) : Option hk_S :=
(mL_reading (hk_EE 232 229) F S 0 p1 231).bind (fun r1 => (mX12_reading (hk_EE 232 229) F r1.2 221 p1).bind (fun r2 => (mX12_thrown (hk_EE 232 229) F r2.2 221).bind (fun r3 => if r3.1 = r1.1 then (if ¬ r1.1 = 0 then (some r3.2) else (if hk_ok 0 ((hk_EE 232 229).2.2.1 231) then (if (lg_cmp ((r3.2 231 0).toInt64) ((r2.1 : Int32).toInt64)) = 0 then (some r3.2) else (none)) else none)) else (none))))
set_option maxHeartbeats 4000000 in
set_option maxRecDepth 100000 in
theorem kop_46 (hst : l.stackTraces = false) (hC : hk_LC p s m meth c b L xs g) (F : Nat) {n : Nat} {S : hk_S} {H : Heap} {locs : List Loc} {ls : Array Slot} {cells slots : Nat} {i : Int32} (hi : ∀ k : Nat, k < 6 → vp_in (i + nI k) L) (hf : cells + 8 ≤ room_1.cells ∧ slots + 48 ≤ room_1.slots) (G : hk_GG g (hk_EE 232 229) S n s H locs) (hl : lv_has ls 9 [(0, .ref b), (1, .ref (g.1 + 0)), (2, .ref (g.1 + 221)), (3, .ref (g.1 + 231)), (4, .int i)]) (o : hk_S) (hsp : mop_46 F S (xs (i + 1).toNatClampNeg) (xs (i + 2).toNatClampNeg) (xs (i + 3).toNatClampNeg) (xs (i + 4).toNatClampNeg) (xs (i + 5).toNatClampNeg) = some o) (kk : ∀ (n1 : Nat) (H1 : Heap) (locs1 : List Loc) (ls1 : Array Slot), hk_GG g (hk_EE 232 229) o n1 s H1 locs1 → lv_has ls1 9 [(0, .ref b), (1, .ref (g.1 + 0)), (2, .ref (g.1 + 221)), (3, .ref (g.1 + 231)), (4, .int i)] → W p l e room_1 s m #[Value.ref b] below meth c H1 locs1 (cells + 8) (slots + 48) Q (F0 m 3152 ls1 [])) : W p l e room_1 s m #[Value.ref b] below meth c H locs cells slots Q (F0 m 2413 ls []) := by
  have hfc := hf.1
  have hfs := hf.2
  have F9 := hC.1
  have hx := F9.1
  have hb := F9.2.1
  generalize hp1 : xs (i + 1).toNatClampNeg = p1 at hsp
  generalize hp2 : xs (i + 2).toNatClampNeg = p2 at hsp
  generalize hp3 : xs (i + 3).toNatClampNeg = p3 at hsp
  generalize hp4 : xs (i + 4).toNatClampNeg = p4 at hsp
  generalize hp5 : xs (i + 5).toNatClampNeg = p5 at hsp
  unfold mop_46 at hsp
  refine lv_aload_n hx hb dL_law_2413 rfl (lv_at hl 1 rfl) ?_
  refine lv_aload_n hx hb dL_law_2414 rfl (lv_at hl 0 rfl) ?_
  refine lv_iload hx hb dL_law_2415 (lv_at hl 4 rfl) ?_
  refine lv_iconst (v := 1) hx hb dL_law_2417 (by decide) ?_
  refine lv_iadd hx hb dL_law_2418 ?_
  refine va_sld hx hb hC.2.2.1 hC.2.2.2.1 hC.2.2.2.2 G.2.1 (hi 1 (by decide)) dL_law_2419 ?_
  rw [hp1]
  refine lv_aload_n hx hb dL_law_2420 rfl (lv_at hl 3 rfl) ?_
  obtain ⟨r1, er1, hsp⟩ := hk_b hsp
  refine hk_callW (As := [.ref (g.1 + 0), .int p1, .ref (g.1 + 231)]) (rest := []) F9 G (kL_reading l hst g (hk_EE 232 229) F n S 0 p1 231 r1 (by decide +kernel) (by decide +kernel) er1) qW_310 ⟨rfl, rfl, (Nat.le_of_ble_eq_true rfl), (Nat.le_of_ble_eq_true rfl)⟩ rfl hl.1 rfl (Nat.le_of_ble_eq_true rfl) ⟨by omega, by omega⟩ dL_law_2421 (fun n H locs G => ?_)
  refine lv_istore (lv' := [(5, .int r1.1), (0, .ref b), (1, .ref (g.1 + 0)), (2, .ref (g.1 + 221)), (3, .ref (g.1 + 231)), (4, .int i)]) hx hb dL_law_2424  hl (by decide) rfl (fun ls hl => ?_)
  refine lv_aload_n hx hb dL_law_2426 rfl (lv_at hl 3 rfl) ?_
  refine lv_aload_n hx hb dL_law_2427 rfl (lv_at hl 1 rfl) ?_
  refine lv_iload hx hb dL_law_2428 (lv_at hl 5 rfl) ?_
  refine lv_iconst (v := 1) hx hb dL_law_2430 (by decide) ?_
  refine lv_iadd hx hb dL_law_2431 ?_
  refine va_sld hx hb hC.2.2.1 hC.2.2.2.1 hC.2.2.2.2 G.2.1 (hi 1 (by decide)) dL_law_2432 ?_
  rw [hp1]
  obtain ⟨r2, er2, hsp⟩ := hk_b hsp
  refine hk_callVi (As := [.int p1]) (rest := []) F9 G (by decide +kernel) hkc_9 rfl (kX12_reading l g (hk_EE 232 229) F n r1.2 221 p1 r2 (by decide +kernel) er2) qv_RL_312 ⟨rfl, rfl, (Nat.le_of_ble_eq_true rfl), (Nat.le_of_ble_eq_true rfl)⟩ rfl hl.1 rfl (Nat.le_of_ble_eq_true rfl) ⟨by omega, by omega⟩ dL_law_2433 (fun H locs G => ?_)
  refine lv_istore (lv' := [(6, .int r2.1), (5, .int r1.1), (0, .ref b), (1, .ref (g.1 + 0)), (2, .ref (g.1 + 221)), (3, .ref (g.1 + 231)), (4, .int i)]) hx hb dL_law_2436  hl (by decide) rfl (fun ls hl => ?_)
  refine lv_aload_n hx hb dL_law_2438 rfl (lv_at hl 4 rfl) ?_
  obtain ⟨r3, er3, hsp⟩ := hk_b hsp
  refine hk_callVi (As := []) (rest := []) F9 G (by decide +kernel) hkc_9 rfl (kX12_thrown l g (hk_EE 232 229) F n r2.2 221 r3 (by decide +kernel) er3) qv_RL_157 ⟨rfl, rfl, (Nat.le_of_ble_eq_true rfl), (Nat.le_of_ble_eq_true rfl)⟩ rfl hl.1 rfl (Nat.le_of_ble_eq_true rfl) ⟨by omega, by omega⟩ dL_law_2439 (fun H locs G => ?_)
  refine lv_iload hx hb dL_law_2442 (lv_at hl 1 rfl) ?_
  refine lv_icmp_eq (tgt := 2449) hx hb dL_law_2444 (by decide) (fun c4 => ?_) (fun c4 => ?_)
  · have hsp := hk_t c4 hsp
    refine lv_iload hx hb dL_law_2449 (lv_at hl 1 rfl) ?_
    refine lv_if_ne (tgt := 2466) hx hb dL_law_2451 (by decide) (fun c5 => ?_) (fun c5 => ?_)
    · have hsp := hk_t c5 hsp
      refine lv_goto (tgt := 3152) hx hb dL_law_2466 (by decide) ?_
      obtain rfl := hk_s hsp
      exact W.widen (by omega) (by omega) (kk n H locs ls G (lv_sub hl [2, 3, 4, 5, 6] rfl))
    · have hsp := hk_g c5 hsp
      refine lv_aload_n hx hb dL_law_2454 rfl (lv_at hl 5 rfl) ?_
      refine lv_iconst (v := 0) hx hb dL_law_2455 (by decide) ?_
      obtain ⟨q6, hsp⟩ := hk_k hsp
      refine hk_lald (j := 0) F9 G (by decide +kernel) rfl q6 (by decide) dL_law_2456 ?_
      refine lv_iload hx hb dL_law_2457 (lv_at hl 0 rfl) ?_
      refine lv_i2l (v := (r2.1 : Int32).toInt64) hx hb dL_law_2459 rfl ?_
      refine W.lcmp hx hb dL_law_2460 ?_
      refine lv_if_eq (tgt := 2466) hx hb dL_law_2461 (by decide) (fun c7 => ?_) (fun c7 => ?_)
      · have hsp := hk_t c7 hsp
        refine lv_goto (tgt := 3152) hx hb dL_law_2466 (by decide) ?_
        obtain rfl := hk_s hsp
        exact W.widen (by omega) (by omega) (kk n H locs ls G (lv_sub hl [2, 3, 4, 5, 6] rfl))
      · have hsp := hk_f c7 hsp
        exact nomatch hsp
  · have hsp := hk_f c4 hsp
    exact nomatch hsp
def mop_47 (F : Nat) (S : hk_S) (p1 p2 p3 p4 p5 : Int32) : Option hk_S :=
(mL_probeTrough (hk_EE 232 229) F S 0 p1 231).bind (fun r1 => (mX12_probeTrough (hk_EE 232 229) F r1.2 221 p1).bind (fun r2 => (mX12_thrown (hk_EE 232 229) F r2.2 221).bind (fun r3 => if r3.1 = r1.1 then (if ¬ r1.1 = 0 then (some r3.2) else (if hk_ok 0 ((hk_EE 232 229).2.2.1 231) then (if (lg_cmp ((r3.2 231 0).toInt64) ((r2.1 : Int32).toInt64)) = 0 then (some r3.2) else (none)) else none)) else (none))))
set_option maxHeartbeats 4000000 in
set_option maxRecDepth 100000 in
theorem kop_47 (hst : l.stackTraces = false) (hC : hk_LC p s m meth c b L xs g) (F : Nat) {n : Nat} {S : hk_S} {H : Heap} {locs : List Loc} {ls : Array Slot} {cells slots : Nat} {i : Int32} (hi : ∀ k : Nat, k < 6 → vp_in (i + nI k) L) (hf : cells + 8 ≤ room_1.cells ∧ slots + 48 ≤ room_1.slots) (G : hk_GG g (hk_EE 232 229) S n s H locs) (hl : lv_has ls 9 [(0, .ref b), (1, .ref (g.1 + 0)), (2, .ref (g.1 + 221)), (3, .ref (g.1 + 231)), (4, .int i)]) (o : hk_S) (hsp : mop_47 F S (xs (i + 1).toNatClampNeg) (xs (i + 2).toNatClampNeg) (xs (i + 3).toNatClampNeg) (xs (i + 4).toNatClampNeg) (xs (i + 5).toNatClampNeg) = some o) (kk : ∀ (n1 : Nat) (H1 : Heap) (locs1 : List Loc) (ls1 : Array Slot), hk_GG g (hk_EE 232 229) o n1 s H1 locs1 → lv_has ls1 9 [(0, .ref b), (1, .ref (g.1 + 0)), (2, .ref (g.1 + 221)), (3, .ref (g.1 + 231)), (4, .int i)] → W p l e room_1 s m #[Value.ref b] below meth c H1 locs1 (cells + 8) (slots + 48) Q (F0 m 3152 ls1 [])) : W p l e room_1 s m #[Value.ref b] below meth c H locs cells slots Q (F0 m 2469 ls []) := by
  have hfc := hf.1
  have hfs := hf.2
  have F9 := hC.1
  have hx := F9.1
  have hb := F9.2.1
  generalize hp1 : xs (i + 1).toNatClampNeg = p1 at hsp
  generalize hp2 : xs (i + 2).toNatClampNeg = p2 at hsp
  generalize hp3 : xs (i + 3).toNatClampNeg = p3 at hsp
  generalize hp4 : xs (i + 4).toNatClampNeg = p4 at hsp
  generalize hp5 : xs (i + 5).toNatClampNeg = p5 at hsp
  unfold mop_47 at hsp
  refine lv_aload_n hx hb dL_law_2469 rfl (lv_at hl 1 rfl) ?_
  refine lv_aload_n hx hb dL_law_2470 rfl (lv_at hl 0 rfl) ?_
  refine lv_iload hx hb dL_law_2471 (lv_at hl 4 rfl) ?_
  refine lv_iconst (v := 1) hx hb dL_law_2473 (by decide) ?_
  refine lv_iadd hx hb dL_law_2474 ?_
  refine va_sld hx hb hC.2.2.1 hC.2.2.2.1 hC.2.2.2.2 G.2.1 (hi 1 (by decide)) dL_law_2475 ?_
  rw [hp1]
  refine lv_aload_n hx hb dL_law_2476 rfl (lv_at hl 3 rfl) ?_
  obtain ⟨r1, er1, hsp⟩ := hk_b hsp
  refine hk_callW (As := [.ref (g.1 + 0), .int p1, .ref (g.1 + 231)]) (rest := []) F9 G (kL_probeTrough l hst g (hk_EE 232 229) F n S 0 p1 231 r1 (by decide +kernel) (by decide +kernel) er1) qW_313 ⟨rfl, rfl, (Nat.le_of_ble_eq_true rfl), (Nat.le_of_ble_eq_true rfl)⟩ rfl hl.1 rfl (Nat.le_of_ble_eq_true rfl) ⟨by omega, by omega⟩ dL_law_2477 (fun n H locs G => ?_)
  refine lv_istore (lv' := [(5, .int r1.1), (0, .ref b), (1, .ref (g.1 + 0)), (2, .ref (g.1 + 221)), (3, .ref (g.1 + 231)), (4, .int i)]) hx hb dL_law_2480  hl (by decide) rfl (fun ls hl => ?_)
  refine lv_aload_n hx hb dL_law_2482 rfl (lv_at hl 3 rfl) ?_
  refine lv_aload_n hx hb dL_law_2483 rfl (lv_at hl 1 rfl) ?_
  refine lv_iload hx hb dL_law_2484 (lv_at hl 5 rfl) ?_
  refine lv_iconst (v := 1) hx hb dL_law_2486 (by decide) ?_
  refine lv_iadd hx hb dL_law_2487 ?_
  refine va_sld hx hb hC.2.2.1 hC.2.2.2.1 hC.2.2.2.2 G.2.1 (hi 1 (by decide)) dL_law_2488 ?_
  rw [hp1]
  obtain ⟨r2, er2, hsp⟩ := hk_b hsp
  refine hk_callVi (As := [.int p1]) (rest := []) F9 G (by decide +kernel) hkc_9 rfl (kX12_probeTrough l g (hk_EE 232 229) F n r1.2 221 p1 r2 (by decide +kernel) er2) qv_RL_315 ⟨rfl, rfl, (Nat.le_of_ble_eq_true rfl), (Nat.le_of_ble_eq_true rfl)⟩ rfl hl.1 rfl (Nat.le_of_ble_eq_true rfl) ⟨by omega, by omega⟩ dL_law_2489 (fun H locs G => ?_)
  refine lv_istore (lv' := [(6, .int r2.1), (5, .int r1.1), (0, .ref b), (1, .ref (g.1 + 0)), (2, .ref (g.1 + 221)), (3, .ref (g.1 + 231)), (4, .int i)]) hx hb dL_law_2492  hl (by decide) rfl (fun ls hl => ?_)
  refine lv_aload_n hx hb dL_law_2494 rfl (lv_at hl 4 rfl) ?_
  obtain ⟨r3, er3, hsp⟩ := hk_b hsp
  refine hk_callVi (As := []) (rest := []) F9 G (by decide +kernel) hkc_9 rfl (kX12_thrown l g (hk_EE 232 229) F n r2.2 221 r3 (by decide +kernel) er3) qv_RL_157 ⟨rfl, rfl, (Nat.le_of_ble_eq_true rfl), (Nat.le_of_ble_eq_true rfl)⟩ rfl hl.1 rfl (Nat.le_of_ble_eq_true rfl) ⟨by omega, by omega⟩ dL_law_2495 (fun H locs G => ?_)
  refine lv_iload hx hb dL_law_2498 (lv_at hl 1 rfl) ?_
  refine lv_icmp_eq (tgt := 2505) hx hb dL_law_2500 (by decide) (fun c4 => ?_) (fun c4 => ?_)
  · have hsp := hk_t c4 hsp
    refine lv_iload hx hb dL_law_2505 (lv_at hl 1 rfl) ?_
    refine lv_if_ne (tgt := 2522) hx hb dL_law_2507 (by decide) (fun c5 => ?_) (fun c5 => ?_)
    · have hsp := hk_t c5 hsp
      refine lv_goto (tgt := 3152) hx hb dL_law_2522 (by decide) ?_
      obtain rfl := hk_s hsp
      exact W.widen (by omega) (by omega) (kk n H locs ls G (lv_sub hl [2, 3, 4, 5, 6] rfl))
    · have hsp := hk_g c5 hsp
      refine lv_aload_n hx hb dL_law_2510 rfl (lv_at hl 5 rfl) ?_
      refine lv_iconst (v := 0) hx hb dL_law_2511 (by decide) ?_
      obtain ⟨q6, hsp⟩ := hk_k hsp
      refine hk_lald (j := 0) F9 G (by decide +kernel) rfl q6 (by decide) dL_law_2512 ?_
      refine lv_iload hx hb dL_law_2513 (lv_at hl 0 rfl) ?_
      refine lv_i2l (v := (r2.1 : Int32).toInt64) hx hb dL_law_2515 rfl ?_
      refine W.lcmp hx hb dL_law_2516 ?_
      refine lv_if_eq (tgt := 2522) hx hb dL_law_2517 (by decide) (fun c7 => ?_) (fun c7 => ?_)
      · have hsp := hk_t c7 hsp
        refine lv_goto (tgt := 3152) hx hb dL_law_2522 (by decide) ?_
        obtain rfl := hk_s hsp
        exact W.widen (by omega) (by omega) (kk n H locs ls G (lv_sub hl [2, 3, 4, 5, 6] rfl))
      · have hsp := hk_f c7 hsp
        exact nomatch hsp
  · have hsp := hk_f c4 hsp
    exact nomatch hsp
def mop_48 (F : Nat) (S : hk_S) (p1 p2 p3 p4 p5 : Int32) : Option hk_S :=
(mL_probeLayer (hk_EE 232 229) F S 0 p1 231).bind (fun r1 => (mX12_probeLayer (hk_EE 232 229) F r1.2 221 p1).bind (fun r2 => (mX12_thrown (hk_EE 232 229) F r2.2 221).bind (fun r3 => if r3.1 = r1.1 then (if ¬ r1.1 = 0 then (some r3.2) else (if hk_ok 0 ((hk_EE 232 229).2.2.1 231) then (if (lg_cmp ((r3.2 231 0).toInt64) ((r2.1 : Int32).toInt64)) = 0 then (some r3.2) else (none)) else none)) else (none))))
set_option maxHeartbeats 4000000 in
set_option maxRecDepth 100000 in
theorem kop_48 (hst : l.stackTraces = false) (hC : hk_LC p s m meth c b L xs g) (F : Nat) {n : Nat} {S : hk_S} {H : Heap} {locs : List Loc} {ls : Array Slot} {cells slots : Nat} {i : Int32} (hi : ∀ k : Nat, k < 6 → vp_in (i + nI k) L) (hf : cells + 8 ≤ room_1.cells ∧ slots + 48 ≤ room_1.slots) (G : hk_GG g (hk_EE 232 229) S n s H locs) (hl : lv_has ls 9 [(0, .ref b), (1, .ref (g.1 + 0)), (2, .ref (g.1 + 221)), (3, .ref (g.1 + 231)), (4, .int i)]) (o : hk_S) (hsp : mop_48 F S (xs (i + 1).toNatClampNeg) (xs (i + 2).toNatClampNeg) (xs (i + 3).toNatClampNeg) (xs (i + 4).toNatClampNeg) (xs (i + 5).toNatClampNeg) = some o) (kk : ∀ (n1 : Nat) (H1 : Heap) (locs1 : List Loc) (ls1 : Array Slot), hk_GG g (hk_EE 232 229) o n1 s H1 locs1 → lv_has ls1 9 [(0, .ref b), (1, .ref (g.1 + 0)), (2, .ref (g.1 + 221)), (3, .ref (g.1 + 231)), (4, .int i)] → W p l e room_1 s m #[Value.ref b] below meth c H1 locs1 (cells + 8) (slots + 48) Q (F0 m 3152 ls1 [])) : W p l e room_1 s m #[Value.ref b] below meth c H locs cells slots Q (F0 m 2525 ls []) := by
  have hfc := hf.1
  have hfs := hf.2
  have F9 := hC.1
  have hx := F9.1
  have hb := F9.2.1
  generalize hp1 : xs (i + 1).toNatClampNeg = p1 at hsp
  generalize hp2 : xs (i + 2).toNatClampNeg = p2 at hsp
  generalize hp3 : xs (i + 3).toNatClampNeg = p3 at hsp
  generalize hp4 : xs (i + 4).toNatClampNeg = p4 at hsp
  generalize hp5 : xs (i + 5).toNatClampNeg = p5 at hsp
  unfold mop_48 at hsp
  refine lv_aload_n hx hb dL_law_2525 rfl (lv_at hl 1 rfl) ?_
  refine lv_aload_n hx hb dL_law_2526 rfl (lv_at hl 0 rfl) ?_
  refine lv_iload hx hb dL_law_2527 (lv_at hl 4 rfl) ?_
  refine lv_iconst (v := 1) hx hb dL_law_2529 (by decide) ?_
  refine lv_iadd hx hb dL_law_2530 ?_
  refine va_sld hx hb hC.2.2.1 hC.2.2.2.1 hC.2.2.2.2 G.2.1 (hi 1 (by decide)) dL_law_2531 ?_
  rw [hp1]
  refine lv_aload_n hx hb dL_law_2532 rfl (lv_at hl 3 rfl) ?_
  obtain ⟨r1, er1, hsp⟩ := hk_b hsp
  refine hk_callW (As := [.ref (g.1 + 0), .int p1, .ref (g.1 + 231)]) (rest := []) F9 G (kL_probeLayer l hst g (hk_EE 232 229) F n S 0 p1 231 r1 (by decide +kernel) (by decide +kernel) er1) qW_316 ⟨rfl, rfl, (Nat.le_of_ble_eq_true rfl), (Nat.le_of_ble_eq_true rfl)⟩ rfl hl.1 rfl (Nat.le_of_ble_eq_true rfl) ⟨by omega, by omega⟩ dL_law_2533 (fun n H locs G => ?_)
  refine lv_istore (lv' := [(5, .int r1.1), (0, .ref b), (1, .ref (g.1 + 0)), (2, .ref (g.1 + 221)), (3, .ref (g.1 + 231)), (4, .int i)]) hx hb dL_law_2536  hl (by decide) rfl (fun ls hl => ?_)
  refine lv_aload_n hx hb dL_law_2538 rfl (lv_at hl 3 rfl) ?_
  refine lv_aload_n hx hb dL_law_2539 rfl (lv_at hl 1 rfl) ?_
  refine lv_iload hx hb dL_law_2540 (lv_at hl 5 rfl) ?_
  refine lv_iconst (v := 1) hx hb dL_law_2542 (by decide) ?_
  refine lv_iadd hx hb dL_law_2543 ?_
  refine va_sld hx hb hC.2.2.1 hC.2.2.2.1 hC.2.2.2.2 G.2.1 (hi 1 (by decide)) dL_law_2544 ?_
  rw [hp1]
  obtain ⟨r2, er2, hsp⟩ := hk_b hsp
  refine hk_callVi (As := [.int p1]) (rest := []) F9 G (by decide +kernel) hkc_9 rfl (kX12_probeLayer l g (hk_EE 232 229) F n r1.2 221 p1 r2 (by decide +kernel) er2) qv_RL_318 ⟨rfl, rfl, (Nat.le_of_ble_eq_true rfl), (Nat.le_of_ble_eq_true rfl)⟩ rfl hl.1 rfl (Nat.le_of_ble_eq_true rfl) ⟨by omega, by omega⟩ dL_law_2545 (fun H locs G => ?_)
  refine lv_istore (lv' := [(6, .int r2.1), (5, .int r1.1), (0, .ref b), (1, .ref (g.1 + 0)), (2, .ref (g.1 + 221)), (3, .ref (g.1 + 231)), (4, .int i)]) hx hb dL_law_2548  hl (by decide) rfl (fun ls hl => ?_)
  refine lv_aload_n hx hb dL_law_2550 rfl (lv_at hl 4 rfl) ?_
  obtain ⟨r3, er3, hsp⟩ := hk_b hsp
  refine hk_callVi (As := []) (rest := []) F9 G (by decide +kernel) hkc_9 rfl (kX12_thrown l g (hk_EE 232 229) F n r2.2 221 r3 (by decide +kernel) er3) qv_RL_157 ⟨rfl, rfl, (Nat.le_of_ble_eq_true rfl), (Nat.le_of_ble_eq_true rfl)⟩ rfl hl.1 rfl (Nat.le_of_ble_eq_true rfl) ⟨by omega, by omega⟩ dL_law_2551 (fun H locs G => ?_)
  refine lv_iload hx hb dL_law_2554 (lv_at hl 1 rfl) ?_
  refine lv_icmp_eq (tgt := 2561) hx hb dL_law_2556 (by decide) (fun c4 => ?_) (fun c4 => ?_)
  · have hsp := hk_t c4 hsp
    refine lv_iload hx hb dL_law_2561 (lv_at hl 1 rfl) ?_
    refine lv_if_ne (tgt := 2578) hx hb dL_law_2563 (by decide) (fun c5 => ?_) (fun c5 => ?_)
    · have hsp := hk_t c5 hsp
      refine lv_goto (tgt := 3152) hx hb dL_law_2578 (by decide) ?_
      obtain rfl := hk_s hsp
      exact W.widen (by omega) (by omega) (kk n H locs ls G (lv_sub hl [2, 3, 4, 5, 6] rfl))
    · have hsp := hk_g c5 hsp
      refine lv_aload_n hx hb dL_law_2566 rfl (lv_at hl 5 rfl) ?_
      refine lv_iconst (v := 0) hx hb dL_law_2567 (by decide) ?_
      obtain ⟨q6, hsp⟩ := hk_k hsp
      refine hk_lald (j := 0) F9 G (by decide +kernel) rfl q6 (by decide) dL_law_2568 ?_
      refine lv_iload hx hb dL_law_2569 (lv_at hl 0 rfl) ?_
      refine lv_i2l (v := (r2.1 : Int32).toInt64) hx hb dL_law_2571 rfl ?_
      refine W.lcmp hx hb dL_law_2572 ?_
      refine lv_if_eq (tgt := 2578) hx hb dL_law_2573 (by decide) (fun c7 => ?_) (fun c7 => ?_)
      · have hsp := hk_t c7 hsp
        refine lv_goto (tgt := 3152) hx hb dL_law_2578 (by decide) ?_
        obtain rfl := hk_s hsp
        exact W.widen (by omega) (by omega) (kk n H locs ls G (lv_sub hl [2, 3, 4, 5, 6] rfl))
      · have hsp := hk_f c7 hsp
        exact nomatch hsp
  · have hsp := hk_f c4 hsp
    exact nomatch hsp
def mop_49 (F : Nat) (S : hk_S) (p1 p2 p3 p4 p5 : Int32) : Option hk_S :=
(mL_meanReading (hk_EE 232 229) F S 0 p1 231).bind (fun r1 => (mX12_meanReading (hk_EE 232 229) F r1.2 221 p1).bind (fun r2 => (mX12_thrown (hk_EE 232 229) F r2.2 221).bind (fun r3 => if r3.1 = r1.1 then (if ¬ r1.1 = 0 then (some r3.2) else (if hk_ok 0 ((hk_EE 232 229).2.2.1 231) then (if (lg_cmp ((r3.2 231 0).toInt64) ((r2.1 : Int32).toInt64)) = 0 then (some r3.2) else (none)) else none)) else (none))))
set_option maxHeartbeats 4000000 in
set_option maxRecDepth 100000 in
theorem kop_49 (hst : l.stackTraces = false) (hC : hk_LC p s m meth c b L xs g) (F : Nat) {n : Nat} {S : hk_S} {H : Heap} {locs : List Loc} {ls : Array Slot} {cells slots : Nat} {i : Int32} (hi : ∀ k : Nat, k < 6 → vp_in (i + nI k) L) (hf : cells + 8 ≤ room_1.cells ∧ slots + 48 ≤ room_1.slots) (G : hk_GG g (hk_EE 232 229) S n s H locs) (hl : lv_has ls 9 [(0, .ref b), (1, .ref (g.1 + 0)), (2, .ref (g.1 + 221)), (3, .ref (g.1 + 231)), (4, .int i)]) (o : hk_S) (hsp : mop_49 F S (xs (i + 1).toNatClampNeg) (xs (i + 2).toNatClampNeg) (xs (i + 3).toNatClampNeg) (xs (i + 4).toNatClampNeg) (xs (i + 5).toNatClampNeg) = some o) (kk : ∀ (n1 : Nat) (H1 : Heap) (locs1 : List Loc) (ls1 : Array Slot), hk_GG g (hk_EE 232 229) o n1 s H1 locs1 → lv_has ls1 9 [(0, .ref b), (1, .ref (g.1 + 0)), (2, .ref (g.1 + 221)), (3, .ref (g.1 + 231)), (4, .int i)] → W p l e room_1 s m #[Value.ref b] below meth c H1 locs1 (cells + 8) (slots + 48) Q (F0 m 3152 ls1 [])) : W p l e room_1 s m #[Value.ref b] below meth c H locs cells slots Q (F0 m 2581 ls []) := by
  have hfc := hf.1
  have hfs := hf.2
  have F9 := hC.1
  have hx := F9.1
  have hb := F9.2.1
  generalize hp1 : xs (i + 1).toNatClampNeg = p1 at hsp
  generalize hp2 : xs (i + 2).toNatClampNeg = p2 at hsp
  generalize hp3 : xs (i + 3).toNatClampNeg = p3 at hsp
  generalize hp4 : xs (i + 4).toNatClampNeg = p4 at hsp
  generalize hp5 : xs (i + 5).toNatClampNeg = p5 at hsp
  unfold mop_49 at hsp
  refine lv_aload_n hx hb dL_law_2581 rfl (lv_at hl 1 rfl) ?_
  refine lv_aload_n hx hb dL_law_2582 rfl (lv_at hl 0 rfl) ?_
  refine lv_iload hx hb dL_law_2583 (lv_at hl 4 rfl) ?_
  refine lv_iconst (v := 1) hx hb dL_law_2585 (by decide) ?_
  refine lv_iadd hx hb dL_law_2586 ?_
  refine va_sld hx hb hC.2.2.1 hC.2.2.2.1 hC.2.2.2.2 G.2.1 (hi 1 (by decide)) dL_law_2587 ?_
  rw [hp1]
  refine lv_aload_n hx hb dL_law_2588 rfl (lv_at hl 3 rfl) ?_
  obtain ⟨r1, er1, hsp⟩ := hk_b hsp
  refine hk_callW (As := [.ref (g.1 + 0), .int p1, .ref (g.1 + 231)]) (rest := []) F9 G (kL_meanReading l hst g (hk_EE 232 229) F n S 0 p1 231 r1 (by decide +kernel) (by decide +kernel) er1) qW_319 ⟨rfl, rfl, (Nat.le_of_ble_eq_true rfl), (Nat.le_of_ble_eq_true rfl)⟩ rfl hl.1 rfl (Nat.le_of_ble_eq_true rfl) ⟨by omega, by omega⟩ dL_law_2589 (fun n H locs G => ?_)
  refine lv_istore (lv' := [(5, .int r1.1), (0, .ref b), (1, .ref (g.1 + 0)), (2, .ref (g.1 + 221)), (3, .ref (g.1 + 231)), (4, .int i)]) hx hb dL_law_2592  hl (by decide) rfl (fun ls hl => ?_)
  refine lv_aload_n hx hb dL_law_2594 rfl (lv_at hl 3 rfl) ?_
  refine lv_aload_n hx hb dL_law_2595 rfl (lv_at hl 1 rfl) ?_
  refine lv_iload hx hb dL_law_2596 (lv_at hl 5 rfl) ?_
  refine lv_iconst (v := 1) hx hb dL_law_2598 (by decide) ?_
  refine lv_iadd hx hb dL_law_2599 ?_
  refine va_sld hx hb hC.2.2.1 hC.2.2.2.1 hC.2.2.2.2 G.2.1 (hi 1 (by decide)) dL_law_2600 ?_
  rw [hp1]
  obtain ⟨r2, er2, hsp⟩ := hk_b hsp
  refine hk_callVi (As := [.int p1]) (rest := []) F9 G (by decide +kernel) hkc_9 rfl (kX12_meanReading l g (hk_EE 232 229) F n r1.2 221 p1 r2 (by decide +kernel) er2) qv_RL_321 ⟨rfl, rfl, (Nat.le_of_ble_eq_true rfl), (Nat.le_of_ble_eq_true rfl)⟩ rfl hl.1 rfl (Nat.le_of_ble_eq_true rfl) ⟨by omega, by omega⟩ dL_law_2601 (fun H locs G => ?_)
  refine lv_istore (lv' := [(6, .int r2.1), (5, .int r1.1), (0, .ref b), (1, .ref (g.1 + 0)), (2, .ref (g.1 + 221)), (3, .ref (g.1 + 231)), (4, .int i)]) hx hb dL_law_2604  hl (by decide) rfl (fun ls hl => ?_)
  refine lv_aload_n hx hb dL_law_2606 rfl (lv_at hl 4 rfl) ?_
  obtain ⟨r3, er3, hsp⟩ := hk_b hsp
  refine hk_callVi (As := []) (rest := []) F9 G (by decide +kernel) hkc_9 rfl (kX12_thrown l g (hk_EE 232 229) F n r2.2 221 r3 (by decide +kernel) er3) qv_RL_157 ⟨rfl, rfl, (Nat.le_of_ble_eq_true rfl), (Nat.le_of_ble_eq_true rfl)⟩ rfl hl.1 rfl (Nat.le_of_ble_eq_true rfl) ⟨by omega, by omega⟩ dL_law_2607 (fun H locs G => ?_)
  refine lv_iload hx hb dL_law_2610 (lv_at hl 1 rfl) ?_
  refine lv_icmp_eq (tgt := 2617) hx hb dL_law_2612 (by decide) (fun c4 => ?_) (fun c4 => ?_)
  · have hsp := hk_t c4 hsp
    refine lv_iload hx hb dL_law_2617 (lv_at hl 1 rfl) ?_
    refine lv_if_ne (tgt := 2634) hx hb dL_law_2619 (by decide) (fun c5 => ?_) (fun c5 => ?_)
    · have hsp := hk_t c5 hsp
      refine lv_goto (tgt := 3152) hx hb dL_law_2634 (by decide) ?_
      obtain rfl := hk_s hsp
      exact W.widen (by omega) (by omega) (kk n H locs ls G (lv_sub hl [2, 3, 4, 5, 6] rfl))
    · have hsp := hk_g c5 hsp
      refine lv_aload_n hx hb dL_law_2622 rfl (lv_at hl 5 rfl) ?_
      refine lv_iconst (v := 0) hx hb dL_law_2623 (by decide) ?_
      obtain ⟨q6, hsp⟩ := hk_k hsp
      refine hk_lald (j := 0) F9 G (by decide +kernel) rfl q6 (by decide) dL_law_2624 ?_
      refine lv_iload hx hb dL_law_2625 (lv_at hl 0 rfl) ?_
      refine lv_i2l (v := (r2.1 : Int32).toInt64) hx hb dL_law_2627 rfl ?_
      refine W.lcmp hx hb dL_law_2628 ?_
      refine lv_if_eq (tgt := 2634) hx hb dL_law_2629 (by decide) (fun c7 => ?_) (fun c7 => ?_)
      · have hsp := hk_t c7 hsp
        refine lv_goto (tgt := 3152) hx hb dL_law_2634 (by decide) ?_
        obtain rfl := hk_s hsp
        exact W.widen (by omega) (by omega) (kk n H locs ls G (lv_sub hl [2, 3, 4, 5, 6] rfl))
      · have hsp := hk_f c7 hsp
        exact nomatch hsp
  · have hsp := hk_f c4 hsp
    exact nomatch hsp
def mop_50 (F : Nat) (S : hk_S) (p1 p2 p3 p4 p5 : Int32) : Option hk_S :=
(mL_moistureAfter (hk_EE 232 229) F S 0 p1 p2 p3 231).bind (fun r1 => (mX12_moistureAfter (hk_EE 232 229) F r1.2 221 p1 p2 p3).bind (fun r2 => (mX12_thrown (hk_EE 232 229) F r2.2 221).bind (fun r3 => if r3.1 = r1.1 then (if ¬ r1.1 = 0 then (some r3.2) else (if hk_ok 0 ((hk_EE 232 229).2.2.1 231) then (if (lg_cmp ((r3.2 231 0).toInt64) ((r2.1 : Int32).toInt64)) = 0 then (some r3.2) else (none)) else none)) else (none))))
set_option maxHeartbeats 4000000 in
set_option maxRecDepth 100000 in
theorem kop_50 (hst : l.stackTraces = false) (hC : hk_LC p s m meth c b L xs g) (F : Nat) {n : Nat} {S : hk_S} {H : Heap} {locs : List Loc} {ls : Array Slot} {cells slots : Nat} {i : Int32} (hi : ∀ k : Nat, k < 6 → vp_in (i + nI k) L) (hf : cells + 8 ≤ room_1.cells ∧ slots + 48 ≤ room_1.slots) (G : hk_GG g (hk_EE 232 229) S n s H locs) (hl : lv_has ls 9 [(0, .ref b), (1, .ref (g.1 + 0)), (2, .ref (g.1 + 221)), (3, .ref (g.1 + 231)), (4, .int i)]) (o : hk_S) (hsp : mop_50 F S (xs (i + 1).toNatClampNeg) (xs (i + 2).toNatClampNeg) (xs (i + 3).toNatClampNeg) (xs (i + 4).toNatClampNeg) (xs (i + 5).toNatClampNeg) = some o) (kk : ∀ (n1 : Nat) (H1 : Heap) (locs1 : List Loc) (ls1 : Array Slot), hk_GG g (hk_EE 232 229) o n1 s H1 locs1 → lv_has ls1 9 [(0, .ref b), (1, .ref (g.1 + 0)), (2, .ref (g.1 + 221)), (3, .ref (g.1 + 231)), (4, .int i)] → W p l e room_1 s m #[Value.ref b] below meth c H1 locs1 (cells + 8) (slots + 48) Q (F0 m 3152 ls1 [])) : W p l e room_1 s m #[Value.ref b] below meth c H locs cells slots Q (F0 m 2637 ls []) := by
  have hfc := hf.1
  have hfs := hf.2
  have F9 := hC.1
  have hx := F9.1
  have hb := F9.2.1
  generalize hp1 : xs (i + 1).toNatClampNeg = p1 at hsp
  generalize hp2 : xs (i + 2).toNatClampNeg = p2 at hsp
  generalize hp3 : xs (i + 3).toNatClampNeg = p3 at hsp
  generalize hp4 : xs (i + 4).toNatClampNeg = p4 at hsp
  generalize hp5 : xs (i + 5).toNatClampNeg = p5 at hsp
  unfold mop_50 at hsp
  refine lv_aload_n hx hb dL_law_2637 rfl (lv_at hl 1 rfl) ?_
  refine lv_aload_n hx hb dL_law_2638 rfl (lv_at hl 0 rfl) ?_
  refine lv_iload hx hb dL_law_2639 (lv_at hl 4 rfl) ?_
  refine lv_iconst (v := 1) hx hb dL_law_2641 (by decide) ?_
  refine lv_iadd hx hb dL_law_2642 ?_
  refine va_sld hx hb hC.2.2.1 hC.2.2.2.1 hC.2.2.2.2 G.2.1 (hi 1 (by decide)) dL_law_2643 ?_
  rw [hp1]
  refine lv_aload_n hx hb dL_law_2644 rfl (lv_at hl 0 rfl) ?_
  refine lv_iload hx hb dL_law_2645 (lv_at hl 4 rfl) ?_
  refine lv_iconst (v := 2) hx hb dL_law_2647 (by decide) ?_
  refine lv_iadd hx hb dL_law_2648 ?_
  refine va_sld hx hb hC.2.2.1 hC.2.2.2.1 hC.2.2.2.2 G.2.1 (hi 2 (by decide)) dL_law_2649 ?_
  rw [hp2]
  refine lv_aload_n hx hb dL_law_2650 rfl (lv_at hl 0 rfl) ?_
  refine lv_iload hx hb dL_law_2651 (lv_at hl 4 rfl) ?_
  refine lv_iconst (v := 3) hx hb dL_law_2653 (by decide) ?_
  refine lv_iadd hx hb dL_law_2654 ?_
  refine va_sld hx hb hC.2.2.1 hC.2.2.2.1 hC.2.2.2.2 G.2.1 (hi 3 (by decide)) dL_law_2655 ?_
  rw [hp3]
  refine lv_aload_n hx hb dL_law_2656 rfl (lv_at hl 3 rfl) ?_
  obtain ⟨r1, er1, hsp⟩ := hk_b hsp
  refine hk_callW (As := [.ref (g.1 + 0), .int p1, .int p2, .int p3, .ref (g.1 + 231)]) (rest := []) F9 G (kL_moistureAfter l hst g (hk_EE 232 229) F n S 0 p1 p2 p3 231 r1 (by decide +kernel) (by decide +kernel) er1) qW_322 ⟨rfl, rfl, (Nat.le_of_ble_eq_true rfl), (Nat.le_of_ble_eq_true rfl)⟩ rfl hl.1 rfl (Nat.le_of_ble_eq_true rfl) ⟨by omega, by omega⟩ dL_law_2657 (fun n H locs G => ?_)
  refine lv_istore (lv' := [(5, .int r1.1), (0, .ref b), (1, .ref (g.1 + 0)), (2, .ref (g.1 + 221)), (3, .ref (g.1 + 231)), (4, .int i)]) hx hb dL_law_2660  hl (by decide) rfl (fun ls hl => ?_)
  refine lv_aload_n hx hb dL_law_2662 rfl (lv_at hl 3 rfl) ?_
  refine lv_aload_n hx hb dL_law_2663 rfl (lv_at hl 1 rfl) ?_
  refine lv_iload hx hb dL_law_2664 (lv_at hl 5 rfl) ?_
  refine lv_iconst (v := 1) hx hb dL_law_2666 (by decide) ?_
  refine lv_iadd hx hb dL_law_2667 ?_
  refine va_sld hx hb hC.2.2.1 hC.2.2.2.1 hC.2.2.2.2 G.2.1 (hi 1 (by decide)) dL_law_2668 ?_
  rw [hp1]
  refine lv_aload_n hx hb dL_law_2669 rfl (lv_at hl 1 rfl) ?_
  refine lv_iload hx hb dL_law_2670 (lv_at hl 5 rfl) ?_
  refine lv_iconst (v := 2) hx hb dL_law_2672 (by decide) ?_
  refine lv_iadd hx hb dL_law_2673 ?_
  refine va_sld hx hb hC.2.2.1 hC.2.2.2.1 hC.2.2.2.2 G.2.1 (hi 2 (by decide)) dL_law_2674 ?_
  rw [hp2]
  refine lv_aload_n hx hb dL_law_2675 rfl (lv_at hl 1 rfl) ?_
  refine lv_iload hx hb dL_law_2676 (lv_at hl 5 rfl) ?_
  refine lv_iconst (v := 3) hx hb dL_law_2678 (by decide) ?_
  refine lv_iadd hx hb dL_law_2679 ?_
  refine va_sld hx hb hC.2.2.1 hC.2.2.2.1 hC.2.2.2.2 G.2.1 (hi 3 (by decide)) dL_law_2680 ?_
  rw [hp3]
  obtain ⟨r2, er2, hsp⟩ := hk_b hsp
  refine hk_callVi (As := [.int p1, .int p2, .int p3]) (rest := []) F9 G (by decide +kernel) hkc_9 rfl (kX12_moistureAfter l g (hk_EE 232 229) F n r1.2 221 p1 p2 p3 r2 (by decide +kernel) er2) qv_RL_324 ⟨rfl, rfl, (Nat.le_of_ble_eq_true rfl), (Nat.le_of_ble_eq_true rfl)⟩ rfl hl.1 rfl (Nat.le_of_ble_eq_true rfl) ⟨by omega, by omega⟩ dL_law_2681 (fun H locs G => ?_)
  refine lv_istore (lv' := [(6, .int r2.1), (5, .int r1.1), (0, .ref b), (1, .ref (g.1 + 0)), (2, .ref (g.1 + 221)), (3, .ref (g.1 + 231)), (4, .int i)]) hx hb dL_law_2684  hl (by decide) rfl (fun ls hl => ?_)
  refine lv_aload_n hx hb dL_law_2686 rfl (lv_at hl 4 rfl) ?_
  obtain ⟨r3, er3, hsp⟩ := hk_b hsp
  refine hk_callVi (As := []) (rest := []) F9 G (by decide +kernel) hkc_9 rfl (kX12_thrown l g (hk_EE 232 229) F n r2.2 221 r3 (by decide +kernel) er3) qv_RL_157 ⟨rfl, rfl, (Nat.le_of_ble_eq_true rfl), (Nat.le_of_ble_eq_true rfl)⟩ rfl hl.1 rfl (Nat.le_of_ble_eq_true rfl) ⟨by omega, by omega⟩ dL_law_2687 (fun H locs G => ?_)
  refine lv_iload hx hb dL_law_2690 (lv_at hl 1 rfl) ?_
  refine lv_icmp_eq (tgt := 2697) hx hb dL_law_2692 (by decide) (fun c4 => ?_) (fun c4 => ?_)
  · have hsp := hk_t c4 hsp
    refine lv_iload hx hb dL_law_2697 (lv_at hl 1 rfl) ?_
    refine lv_if_ne (tgt := 2714) hx hb dL_law_2699 (by decide) (fun c5 => ?_) (fun c5 => ?_)
    · have hsp := hk_t c5 hsp
      refine lv_goto (tgt := 3152) hx hb dL_law_2714 (by decide) ?_
      obtain rfl := hk_s hsp
      exact W.widen (by omega) (by omega) (kk n H locs ls G (lv_sub hl [2, 3, 4, 5, 6] rfl))
    · have hsp := hk_g c5 hsp
      refine lv_aload_n hx hb dL_law_2702 rfl (lv_at hl 5 rfl) ?_
      refine lv_iconst (v := 0) hx hb dL_law_2703 (by decide) ?_
      obtain ⟨q6, hsp⟩ := hk_k hsp
      refine hk_lald (j := 0) F9 G (by decide +kernel) rfl q6 (by decide) dL_law_2704 ?_
      refine lv_iload hx hb dL_law_2705 (lv_at hl 0 rfl) ?_
      refine lv_i2l (v := (r2.1 : Int32).toInt64) hx hb dL_law_2707 rfl ?_
      refine W.lcmp hx hb dL_law_2708 ?_
      refine lv_if_eq (tgt := 2714) hx hb dL_law_2709 (by decide) (fun c7 => ?_) (fun c7 => ?_)
      · have hsp := hk_t c7 hsp
        refine lv_goto (tgt := 3152) hx hb dL_law_2714 (by decide) ?_
        obtain rfl := hk_s hsp
        exact W.widen (by omega) (by omega) (kk n H locs ls G (lv_sub hl [2, 3, 4, 5, 6] rfl))
      · have hsp := hk_f c7 hsp
        exact nomatch hsp
  · have hsp := hk_f c4 hsp
    exact nomatch hsp
def mop_51 (F : Nat) (S : hk_S) (p1 p2 p3 p4 p5 : Int32) : Option hk_S :=
(mL_hoursToReady (hk_EE 232 229) F S 0 p1 231).bind (fun r1 => (mX12_hoursToReady (hk_EE 232 229) F r1.2 221 p1).bind (fun r2 => (mX12_thrown (hk_EE 232 229) F r2.2 221).bind (fun r3 => if r3.1 = r1.1 then (if ¬ r1.1 = 0 then (some r3.2) else (if hk_ok 0 ((hk_EE 232 229).2.2.1 231) then (if (lg_cmp ((r3.2 231 0).toInt64) ((r2.1 : Int32).toInt64)) = 0 then (some r3.2) else (none)) else none)) else (none))))
set_option maxHeartbeats 4000000 in
set_option maxRecDepth 100000 in
theorem kop_51 (hst : l.stackTraces = false) (hC : hk_LC p s m meth c b L xs g) (F : Nat) {n : Nat} {S : hk_S} {H : Heap} {locs : List Loc} {ls : Array Slot} {cells slots : Nat} {i : Int32} (hi : ∀ k : Nat, k < 6 → vp_in (i + nI k) L) (hf : cells + 8 ≤ room_1.cells ∧ slots + 48 ≤ room_1.slots) (G : hk_GG g (hk_EE 232 229) S n s H locs) (hl : lv_has ls 9 [(0, .ref b), (1, .ref (g.1 + 0)), (2, .ref (g.1 + 221)), (3, .ref (g.1 + 231)), (4, .int i)]) (o : hk_S) (hsp : mop_51 F S (xs (i + 1).toNatClampNeg) (xs (i + 2).toNatClampNeg) (xs (i + 3).toNatClampNeg) (xs (i + 4).toNatClampNeg) (xs (i + 5).toNatClampNeg) = some o) (kk : ∀ (n1 : Nat) (H1 : Heap) (locs1 : List Loc) (ls1 : Array Slot), hk_GG g (hk_EE 232 229) o n1 s H1 locs1 → lv_has ls1 9 [(0, .ref b), (1, .ref (g.1 + 0)), (2, .ref (g.1 + 221)), (3, .ref (g.1 + 231)), (4, .int i)] → W p l e room_1 s m #[Value.ref b] below meth c H1 locs1 (cells + 8) (slots + 48) Q (F0 m 3152 ls1 [])) : W p l e room_1 s m #[Value.ref b] below meth c H locs cells slots Q (F0 m 2717 ls []) := by
  have hfc := hf.1
  have hfs := hf.2
  have F9 := hC.1
  have hx := F9.1
  have hb := F9.2.1
  generalize hp1 : xs (i + 1).toNatClampNeg = p1 at hsp
  generalize hp2 : xs (i + 2).toNatClampNeg = p2 at hsp
  generalize hp3 : xs (i + 3).toNatClampNeg = p3 at hsp
  generalize hp4 : xs (i + 4).toNatClampNeg = p4 at hsp
  generalize hp5 : xs (i + 5).toNatClampNeg = p5 at hsp
  unfold mop_51 at hsp
  refine lv_aload_n hx hb dL_law_2717 rfl (lv_at hl 1 rfl) ?_
  refine lv_aload_n hx hb dL_law_2718 rfl (lv_at hl 0 rfl) ?_
  refine lv_iload hx hb dL_law_2719 (lv_at hl 4 rfl) ?_
  refine lv_iconst (v := 1) hx hb dL_law_2721 (by decide) ?_
  refine lv_iadd hx hb dL_law_2722 ?_
  refine va_sld hx hb hC.2.2.1 hC.2.2.2.1 hC.2.2.2.2 G.2.1 (hi 1 (by decide)) dL_law_2723 ?_
  rw [hp1]
  refine lv_aload_n hx hb dL_law_2724 rfl (lv_at hl 3 rfl) ?_
  obtain ⟨r1, er1, hsp⟩ := hk_b hsp
  refine hk_callW (As := [.ref (g.1 + 0), .int p1, .ref (g.1 + 231)]) (rest := []) F9 G (kL_hoursToReady l hst g (hk_EE 232 229) F n S 0 p1 231 r1 (by decide +kernel) (by decide +kernel) er1) qW_325 ⟨rfl, rfl, (Nat.le_of_ble_eq_true rfl), (Nat.le_of_ble_eq_true rfl)⟩ rfl hl.1 rfl (Nat.le_of_ble_eq_true rfl) ⟨by omega, by omega⟩ dL_law_2725 (fun n H locs G => ?_)
  refine lv_istore (lv' := [(5, .int r1.1), (0, .ref b), (1, .ref (g.1 + 0)), (2, .ref (g.1 + 221)), (3, .ref (g.1 + 231)), (4, .int i)]) hx hb dL_law_2728  hl (by decide) rfl (fun ls hl => ?_)
  refine lv_aload_n hx hb dL_law_2730 rfl (lv_at hl 3 rfl) ?_
  refine lv_aload_n hx hb dL_law_2731 rfl (lv_at hl 1 rfl) ?_
  refine lv_iload hx hb dL_law_2732 (lv_at hl 5 rfl) ?_
  refine lv_iconst (v := 1) hx hb dL_law_2734 (by decide) ?_
  refine lv_iadd hx hb dL_law_2735 ?_
  refine va_sld hx hb hC.2.2.1 hC.2.2.2.1 hC.2.2.2.2 G.2.1 (hi 1 (by decide)) dL_law_2736 ?_
  rw [hp1]
  obtain ⟨r2, er2, hsp⟩ := hk_b hsp
  refine hk_callVi (As := [.int p1]) (rest := []) F9 G (by decide +kernel) hkc_9 rfl (kX12_hoursToReady l g (hk_EE 232 229) F n r1.2 221 p1 r2 (by decide +kernel) er2) qv_RL_327 ⟨rfl, rfl, (Nat.le_of_ble_eq_true rfl), (Nat.le_of_ble_eq_true rfl)⟩ rfl hl.1 rfl (Nat.le_of_ble_eq_true rfl) ⟨by omega, by omega⟩ dL_law_2737 (fun H locs G => ?_)
  refine lv_istore (lv' := [(6, .int r2.1), (5, .int r1.1), (0, .ref b), (1, .ref (g.1 + 0)), (2, .ref (g.1 + 221)), (3, .ref (g.1 + 231)), (4, .int i)]) hx hb dL_law_2740  hl (by decide) rfl (fun ls hl => ?_)
  refine lv_aload_n hx hb dL_law_2742 rfl (lv_at hl 4 rfl) ?_
  obtain ⟨r3, er3, hsp⟩ := hk_b hsp
  refine hk_callVi (As := []) (rest := []) F9 G (by decide +kernel) hkc_9 rfl (kX12_thrown l g (hk_EE 232 229) F n r2.2 221 r3 (by decide +kernel) er3) qv_RL_157 ⟨rfl, rfl, (Nat.le_of_ble_eq_true rfl), (Nat.le_of_ble_eq_true rfl)⟩ rfl hl.1 rfl (Nat.le_of_ble_eq_true rfl) ⟨by omega, by omega⟩ dL_law_2743 (fun H locs G => ?_)
  refine lv_iload hx hb dL_law_2746 (lv_at hl 1 rfl) ?_
  refine lv_icmp_eq (tgt := 2753) hx hb dL_law_2748 (by decide) (fun c4 => ?_) (fun c4 => ?_)
  · have hsp := hk_t c4 hsp
    refine lv_iload hx hb dL_law_2753 (lv_at hl 1 rfl) ?_
    refine lv_if_ne (tgt := 2770) hx hb dL_law_2755 (by decide) (fun c5 => ?_) (fun c5 => ?_)
    · have hsp := hk_t c5 hsp
      refine lv_goto (tgt := 3152) hx hb dL_law_2770 (by decide) ?_
      obtain rfl := hk_s hsp
      exact W.widen (by omega) (by omega) (kk n H locs ls G (lv_sub hl [2, 3, 4, 5, 6] rfl))
    · have hsp := hk_g c5 hsp
      refine lv_aload_n hx hb dL_law_2758 rfl (lv_at hl 5 rfl) ?_
      refine lv_iconst (v := 0) hx hb dL_law_2759 (by decide) ?_
      obtain ⟨q6, hsp⟩ := hk_k hsp
      refine hk_lald (j := 0) F9 G (by decide +kernel) rfl q6 (by decide) dL_law_2760 ?_
      refine lv_iload hx hb dL_law_2761 (lv_at hl 0 rfl) ?_
      refine lv_i2l (v := (r2.1 : Int32).toInt64) hx hb dL_law_2763 rfl ?_
      refine W.lcmp hx hb dL_law_2764 ?_
      refine lv_if_eq (tgt := 2770) hx hb dL_law_2765 (by decide) (fun c7 => ?_) (fun c7 => ?_)
      · have hsp := hk_t c7 hsp
        refine lv_goto (tgt := 3152) hx hb dL_law_2770 (by decide) ?_
        obtain rfl := hk_s hsp
        exact W.widen (by omega) (by omega) (kk n H locs ls G (lv_sub hl [2, 3, 4, 5, 6] rfl))
      · have hsp := hk_f c7 hsp
        exact nomatch hsp
  · have hsp := hk_f c4 hsp
    exact nomatch hsp
def mop_52 (F : Nat) (S : hk_S) (p1 p2 p3 p4 p5 : Int32) : Option hk_S :=
(mL_hoursToDamage (hk_EE 232 229) F S 0 p1 231).bind (fun r1 => (mX12_hoursToDamage (hk_EE 232 229) F r1.2 221 p1).bind (fun r2 => (mX12_thrown (hk_EE 232 229) F r2.2 221).bind (fun r3 => if r3.1 = r1.1 then (if ¬ r1.1 = 0 then (some r3.2) else (if hk_ok 0 ((hk_EE 232 229).2.2.1 231) then (if (lg_cmp ((r3.2 231 0).toInt64) ((r2.1 : Int32).toInt64)) = 0 then (some r3.2) else (none)) else none)) else (none))))
set_option maxHeartbeats 4000000 in
set_option maxRecDepth 100000 in
theorem kop_52 (hst : l.stackTraces = false) (hC : hk_LC p s m meth c b L xs g) (F : Nat) {n : Nat} {S : hk_S} {H : Heap} {locs : List Loc} {ls : Array Slot} {cells slots : Nat} {i : Int32} (hi : ∀ k : Nat, k < 6 → vp_in (i + nI k) L) (hf : cells + 8 ≤ room_1.cells ∧ slots + 48 ≤ room_1.slots) (G : hk_GG g (hk_EE 232 229) S n s H locs) (hl : lv_has ls 9 [(0, .ref b), (1, .ref (g.1 + 0)), (2, .ref (g.1 + 221)), (3, .ref (g.1 + 231)), (4, .int i)]) (o : hk_S) (hsp : mop_52 F S (xs (i + 1).toNatClampNeg) (xs (i + 2).toNatClampNeg) (xs (i + 3).toNatClampNeg) (xs (i + 4).toNatClampNeg) (xs (i + 5).toNatClampNeg) = some o) (kk : ∀ (n1 : Nat) (H1 : Heap) (locs1 : List Loc) (ls1 : Array Slot), hk_GG g (hk_EE 232 229) o n1 s H1 locs1 → lv_has ls1 9 [(0, .ref b), (1, .ref (g.1 + 0)), (2, .ref (g.1 + 221)), (3, .ref (g.1 + 231)), (4, .int i)] → W p l e room_1 s m #[Value.ref b] below meth c H1 locs1 (cells + 8) (slots + 48) Q (F0 m 3152 ls1 [])) : W p l e room_1 s m #[Value.ref b] below meth c H locs cells slots Q (F0 m 2773 ls []) := by
  have hfc := hf.1
  have hfs := hf.2
  have F9 := hC.1
  have hx := F9.1
  have hb := F9.2.1
  generalize hp1 : xs (i + 1).toNatClampNeg = p1 at hsp
  generalize hp2 : xs (i + 2).toNatClampNeg = p2 at hsp
  generalize hp3 : xs (i + 3).toNatClampNeg = p3 at hsp
  generalize hp4 : xs (i + 4).toNatClampNeg = p4 at hsp
  generalize hp5 : xs (i + 5).toNatClampNeg = p5 at hsp
  unfold mop_52 at hsp
  refine lv_aload_n hx hb dL_law_2773 rfl (lv_at hl 1 rfl) ?_
  refine lv_aload_n hx hb dL_law_2774 rfl (lv_at hl 0 rfl) ?_
  refine lv_iload hx hb dL_law_2775 (lv_at hl 4 rfl) ?_
  refine lv_iconst (v := 1) hx hb dL_law_2777 (by decide) ?_
  refine lv_iadd hx hb dL_law_2778 ?_
  refine va_sld hx hb hC.2.2.1 hC.2.2.2.1 hC.2.2.2.2 G.2.1 (hi 1 (by decide)) dL_law_2779 ?_
  rw [hp1]
  refine lv_aload_n hx hb dL_law_2780 rfl (lv_at hl 3 rfl) ?_
  obtain ⟨r1, er1, hsp⟩ := hk_b hsp
  refine hk_callW (As := [.ref (g.1 + 0), .int p1, .ref (g.1 + 231)]) (rest := []) F9 G (kL_hoursToDamage l hst g (hk_EE 232 229) F n S 0 p1 231 r1 (by decide +kernel) (by decide +kernel) er1) qW_328 ⟨rfl, rfl, (Nat.le_of_ble_eq_true rfl), (Nat.le_of_ble_eq_true rfl)⟩ rfl hl.1 rfl (Nat.le_of_ble_eq_true rfl) ⟨by omega, by omega⟩ dL_law_2781 (fun n H locs G => ?_)
  refine lv_istore (lv' := [(5, .int r1.1), (0, .ref b), (1, .ref (g.1 + 0)), (2, .ref (g.1 + 221)), (3, .ref (g.1 + 231)), (4, .int i)]) hx hb dL_law_2784  hl (by decide) rfl (fun ls hl => ?_)
  refine lv_aload_n hx hb dL_law_2786 rfl (lv_at hl 3 rfl) ?_
  refine lv_aload_n hx hb dL_law_2787 rfl (lv_at hl 1 rfl) ?_
  refine lv_iload hx hb dL_law_2788 (lv_at hl 5 rfl) ?_
  refine lv_iconst (v := 1) hx hb dL_law_2790 (by decide) ?_
  refine lv_iadd hx hb dL_law_2791 ?_
  refine va_sld hx hb hC.2.2.1 hC.2.2.2.1 hC.2.2.2.2 G.2.1 (hi 1 (by decide)) dL_law_2792 ?_
  rw [hp1]
  obtain ⟨r2, er2, hsp⟩ := hk_b hsp
  refine hk_callVi (As := [.int p1]) (rest := []) F9 G (by decide +kernel) hkc_9 rfl (kX12_hoursToDamage l g (hk_EE 232 229) F n r1.2 221 p1 r2 (by decide +kernel) er2) qv_RL_330 ⟨rfl, rfl, (Nat.le_of_ble_eq_true rfl), (Nat.le_of_ble_eq_true rfl)⟩ rfl hl.1 rfl (Nat.le_of_ble_eq_true rfl) ⟨by omega, by omega⟩ dL_law_2793 (fun H locs G => ?_)
  refine lv_istore (lv' := [(6, .int r2.1), (5, .int r1.1), (0, .ref b), (1, .ref (g.1 + 0)), (2, .ref (g.1 + 221)), (3, .ref (g.1 + 231)), (4, .int i)]) hx hb dL_law_2796  hl (by decide) rfl (fun ls hl => ?_)
  refine lv_aload_n hx hb dL_law_2798 rfl (lv_at hl 4 rfl) ?_
  obtain ⟨r3, er3, hsp⟩ := hk_b hsp
  refine hk_callVi (As := []) (rest := []) F9 G (by decide +kernel) hkc_9 rfl (kX12_thrown l g (hk_EE 232 229) F n r2.2 221 r3 (by decide +kernel) er3) qv_RL_157 ⟨rfl, rfl, (Nat.le_of_ble_eq_true rfl), (Nat.le_of_ble_eq_true rfl)⟩ rfl hl.1 rfl (Nat.le_of_ble_eq_true rfl) ⟨by omega, by omega⟩ dL_law_2799 (fun H locs G => ?_)
  refine lv_iload hx hb dL_law_2802 (lv_at hl 1 rfl) ?_
  refine lv_icmp_eq (tgt := 2809) hx hb dL_law_2804 (by decide) (fun c4 => ?_) (fun c4 => ?_)
  · have hsp := hk_t c4 hsp
    refine lv_iload hx hb dL_law_2809 (lv_at hl 1 rfl) ?_
    refine lv_if_ne (tgt := 2826) hx hb dL_law_2811 (by decide) (fun c5 => ?_) (fun c5 => ?_)
    · have hsp := hk_t c5 hsp
      refine lv_goto (tgt := 3152) hx hb dL_law_2826 (by decide) ?_
      obtain rfl := hk_s hsp
      exact W.widen (by omega) (by omega) (kk n H locs ls G (lv_sub hl [2, 3, 4, 5, 6] rfl))
    · have hsp := hk_g c5 hsp
      refine lv_aload_n hx hb dL_law_2814 rfl (lv_at hl 5 rfl) ?_
      refine lv_iconst (v := 0) hx hb dL_law_2815 (by decide) ?_
      obtain ⟨q6, hsp⟩ := hk_k hsp
      refine hk_lald (j := 0) F9 G (by decide +kernel) rfl q6 (by decide) dL_law_2816 ?_
      refine lv_iload hx hb dL_law_2817 (lv_at hl 0 rfl) ?_
      refine lv_i2l (v := (r2.1 : Int32).toInt64) hx hb dL_law_2819 rfl ?_
      refine W.lcmp hx hb dL_law_2820 ?_
      refine lv_if_eq (tgt := 2826) hx hb dL_law_2821 (by decide) (fun c7 => ?_) (fun c7 => ?_)
      · have hsp := hk_t c7 hsp
        refine lv_goto (tgt := 3152) hx hb dL_law_2826 (by decide) ?_
        obtain rfl := hk_s hsp
        exact W.widen (by omega) (by omega) (kk n H locs ls G (lv_sub hl [2, 3, 4, 5, 6] rfl))
      · have hsp := hk_f c7 hsp
        exact nomatch hsp
  · have hsp := hk_f c4 hsp
    exact nomatch hsp
def mop_53 (F : Nat) (S : hk_S) (p1 p2 p3 p4 p5 : Int32) : Option hk_S :=
(mL_bestReversal (hk_EE 232 229) F S 0 p1 p2 231).bind (fun r1 => (mX12_bestReversal (hk_EE 232 229) F r1.2 221 p1 p2).bind (fun r2 => (mX12_thrown (hk_EE 232 229) F r2.2 221).bind (fun r3 => if r3.1 = r1.1 then (if ¬ r1.1 = 0 then (some r3.2) else (if hk_ok 0 ((hk_EE 232 229).2.2.1 231) then (if (lg_cmp ((r3.2 231 0).toInt64) ((r2.1 : Int32).toInt64)) = 0 then (some r3.2) else (none)) else none)) else (none))))
set_option maxHeartbeats 4000000 in
set_option maxRecDepth 100000 in
theorem kop_53 (hst : l.stackTraces = false) (hC : hk_LC p s m meth c b L xs g) (F : Nat) {n : Nat} {S : hk_S} {H : Heap} {locs : List Loc} {ls : Array Slot} {cells slots : Nat} {i : Int32} (hi : ∀ k : Nat, k < 6 → vp_in (i + nI k) L) (hf : cells + 8 ≤ room_1.cells ∧ slots + 48 ≤ room_1.slots) (G : hk_GG g (hk_EE 232 229) S n s H locs) (hl : lv_has ls 9 [(0, .ref b), (1, .ref (g.1 + 0)), (2, .ref (g.1 + 221)), (3, .ref (g.1 + 231)), (4, .int i)]) (o : hk_S) (hsp : mop_53 F S (xs (i + 1).toNatClampNeg) (xs (i + 2).toNatClampNeg) (xs (i + 3).toNatClampNeg) (xs (i + 4).toNatClampNeg) (xs (i + 5).toNatClampNeg) = some o) (kk : ∀ (n1 : Nat) (H1 : Heap) (locs1 : List Loc) (ls1 : Array Slot), hk_GG g (hk_EE 232 229) o n1 s H1 locs1 → lv_has ls1 9 [(0, .ref b), (1, .ref (g.1 + 0)), (2, .ref (g.1 + 221)), (3, .ref (g.1 + 231)), (4, .int i)] → W p l e room_1 s m #[Value.ref b] below meth c H1 locs1 (cells + 8) (slots + 48) Q (F0 m 3152 ls1 [])) : W p l e room_1 s m #[Value.ref b] below meth c H locs cells slots Q (F0 m 2829 ls []) := by
  have hfc := hf.1
  have hfs := hf.2
  have F9 := hC.1
  have hx := F9.1
  have hb := F9.2.1
  generalize hp1 : xs (i + 1).toNatClampNeg = p1 at hsp
  generalize hp2 : xs (i + 2).toNatClampNeg = p2 at hsp
  generalize hp3 : xs (i + 3).toNatClampNeg = p3 at hsp
  generalize hp4 : xs (i + 4).toNatClampNeg = p4 at hsp
  generalize hp5 : xs (i + 5).toNatClampNeg = p5 at hsp
  unfold mop_53 at hsp
  refine lv_aload_n hx hb dL_law_2829 rfl (lv_at hl 1 rfl) ?_
  refine lv_aload_n hx hb dL_law_2830 rfl (lv_at hl 0 rfl) ?_
  refine lv_iload hx hb dL_law_2831 (lv_at hl 4 rfl) ?_
  refine lv_iconst (v := 1) hx hb dL_law_2833 (by decide) ?_
  refine lv_iadd hx hb dL_law_2834 ?_
  refine va_sld hx hb hC.2.2.1 hC.2.2.2.1 hC.2.2.2.2 G.2.1 (hi 1 (by decide)) dL_law_2835 ?_
  rw [hp1]
  refine lv_aload_n hx hb dL_law_2836 rfl (lv_at hl 0 rfl) ?_
  refine lv_iload hx hb dL_law_2837 (lv_at hl 4 rfl) ?_
  refine lv_iconst (v := 2) hx hb dL_law_2839 (by decide) ?_
  refine lv_iadd hx hb dL_law_2840 ?_
  refine va_sld hx hb hC.2.2.1 hC.2.2.2.1 hC.2.2.2.2 G.2.1 (hi 2 (by decide)) dL_law_2841 ?_
  rw [hp2]
  refine lv_aload_n hx hb dL_law_2842 rfl (lv_at hl 3 rfl) ?_
  obtain ⟨r1, er1, hsp⟩ := hk_b hsp
  refine hk_callW (As := [.ref (g.1 + 0), .int p1, .int p2, .ref (g.1 + 231)]) (rest := []) F9 G (kL_bestReversal l hst g (hk_EE 232 229) F n S 0 p1 p2 231 r1 (by decide +kernel) (by decide +kernel) er1) qW_331 ⟨rfl, rfl, (Nat.le_of_ble_eq_true rfl), (Nat.le_of_ble_eq_true rfl)⟩ rfl hl.1 rfl (Nat.le_of_ble_eq_true rfl) ⟨by omega, by omega⟩ dL_law_2843 (fun n H locs G => ?_)
  refine lv_istore (lv' := [(5, .int r1.1), (0, .ref b), (1, .ref (g.1 + 0)), (2, .ref (g.1 + 221)), (3, .ref (g.1 + 231)), (4, .int i)]) hx hb dL_law_2846  hl (by decide) rfl (fun ls hl => ?_)
  refine lv_aload_n hx hb dL_law_2848 rfl (lv_at hl 3 rfl) ?_
  refine lv_aload_n hx hb dL_law_2849 rfl (lv_at hl 1 rfl) ?_
  refine lv_iload hx hb dL_law_2850 (lv_at hl 5 rfl) ?_
  refine lv_iconst (v := 1) hx hb dL_law_2852 (by decide) ?_
  refine lv_iadd hx hb dL_law_2853 ?_
  refine va_sld hx hb hC.2.2.1 hC.2.2.2.1 hC.2.2.2.2 G.2.1 (hi 1 (by decide)) dL_law_2854 ?_
  rw [hp1]
  refine lv_aload_n hx hb dL_law_2855 rfl (lv_at hl 1 rfl) ?_
  refine lv_iload hx hb dL_law_2856 (lv_at hl 5 rfl) ?_
  refine lv_iconst (v := 2) hx hb dL_law_2858 (by decide) ?_
  refine lv_iadd hx hb dL_law_2859 ?_
  refine va_sld hx hb hC.2.2.1 hC.2.2.2.1 hC.2.2.2.2 G.2.1 (hi 2 (by decide)) dL_law_2860 ?_
  rw [hp2]
  obtain ⟨r2, er2, hsp⟩ := hk_b hsp
  refine hk_callVi (As := [.int p1, .int p2]) (rest := []) F9 G (by decide +kernel) hkc_9 rfl (kX12_bestReversal l g (hk_EE 232 229) F n r1.2 221 p1 p2 r2 (by decide +kernel) er2) qv_RL_333 ⟨rfl, rfl, (Nat.le_of_ble_eq_true rfl), (Nat.le_of_ble_eq_true rfl)⟩ rfl hl.1 rfl (Nat.le_of_ble_eq_true rfl) ⟨by omega, by omega⟩ dL_law_2861 (fun H locs G => ?_)
  refine lv_istore (lv' := [(6, .int r2.1), (5, .int r1.1), (0, .ref b), (1, .ref (g.1 + 0)), (2, .ref (g.1 + 221)), (3, .ref (g.1 + 231)), (4, .int i)]) hx hb dL_law_2864  hl (by decide) rfl (fun ls hl => ?_)
  refine lv_aload_n hx hb dL_law_2866 rfl (lv_at hl 4 rfl) ?_
  obtain ⟨r3, er3, hsp⟩ := hk_b hsp
  refine hk_callVi (As := []) (rest := []) F9 G (by decide +kernel) hkc_9 rfl (kX12_thrown l g (hk_EE 232 229) F n r2.2 221 r3 (by decide +kernel) er3) qv_RL_157 ⟨rfl, rfl, (Nat.le_of_ble_eq_true rfl), (Nat.le_of_ble_eq_true rfl)⟩ rfl hl.1 rfl (Nat.le_of_ble_eq_true rfl) ⟨by omega, by omega⟩ dL_law_2867 (fun H locs G => ?_)
  refine lv_iload hx hb dL_law_2870 (lv_at hl 1 rfl) ?_
  refine lv_icmp_eq (tgt := 2877) hx hb dL_law_2872 (by decide) (fun c4 => ?_) (fun c4 => ?_)
  · have hsp := hk_t c4 hsp
    refine lv_iload hx hb dL_law_2877 (lv_at hl 1 rfl) ?_
    refine lv_if_ne (tgt := 2894) hx hb dL_law_2879 (by decide) (fun c5 => ?_) (fun c5 => ?_)
    · have hsp := hk_t c5 hsp
      refine lv_goto (tgt := 3152) hx hb dL_law_2894 (by decide) ?_
      obtain rfl := hk_s hsp
      exact W.widen (by omega) (by omega) (kk n H locs ls G (lv_sub hl [2, 3, 4, 5, 6] rfl))
    · have hsp := hk_g c5 hsp
      refine lv_aload_n hx hb dL_law_2882 rfl (lv_at hl 5 rfl) ?_
      refine lv_iconst (v := 0) hx hb dL_law_2883 (by decide) ?_
      obtain ⟨q6, hsp⟩ := hk_k hsp
      refine hk_lald (j := 0) F9 G (by decide +kernel) rfl q6 (by decide) dL_law_2884 ?_
      refine lv_iload hx hb dL_law_2885 (lv_at hl 0 rfl) ?_
      refine lv_i2l (v := (r2.1 : Int32).toInt64) hx hb dL_law_2887 rfl ?_
      refine W.lcmp hx hb dL_law_2888 ?_
      refine lv_if_eq (tgt := 2894) hx hb dL_law_2889 (by decide) (fun c7 => ?_) (fun c7 => ?_)
      · have hsp := hk_t c7 hsp
        refine lv_goto (tgt := 3152) hx hb dL_law_2894 (by decide) ?_
        obtain rfl := hk_s hsp
        exact W.widen (by omega) (by omega) (kk n H locs ls G (lv_sub hl [2, 3, 4, 5, 6] rfl))
      · have hsp := hk_f c7 hsp
        exact nomatch hsp
  · have hsp := hk_f c4 hsp
    exact nomatch hsp
def mop_54 (F : Nat) (S : hk_S) (p1 p2 p3 p4 p5 : Int32) : Option hk_S :=
(mL_slowestSpeed (hk_EE 232 229) F S 0 p1 p2 231).bind (fun r1 => (mX12_slowestSpeed (hk_EE 232 229) F r1.2 221 p1 p2).bind (fun r2 => (mX12_thrown (hk_EE 232 229) F r2.2 221).bind (fun r3 => if r3.1 = r1.1 then (if ¬ r1.1 = 0 then (some r3.2) else (if hk_ok 0 ((hk_EE 232 229).2.2.1 231) then (if (lg_cmp ((r3.2 231 0).toInt64) ((r2.1 : Int32).toInt64)) = 0 then (some r3.2) else (none)) else none)) else (none))))
set_option maxHeartbeats 4000000 in
set_option maxRecDepth 100000 in
theorem kop_54 (hst : l.stackTraces = false) (hC : hk_LC p s m meth c b L xs g) (F : Nat) {n : Nat} {S : hk_S} {H : Heap} {locs : List Loc} {ls : Array Slot} {cells slots : Nat} {i : Int32} (hi : ∀ k : Nat, k < 6 → vp_in (i + nI k) L) (hf : cells + 8 ≤ room_1.cells ∧ slots + 48 ≤ room_1.slots) (G : hk_GG g (hk_EE 232 229) S n s H locs) (hl : lv_has ls 9 [(0, .ref b), (1, .ref (g.1 + 0)), (2, .ref (g.1 + 221)), (3, .ref (g.1 + 231)), (4, .int i)]) (o : hk_S) (hsp : mop_54 F S (xs (i + 1).toNatClampNeg) (xs (i + 2).toNatClampNeg) (xs (i + 3).toNatClampNeg) (xs (i + 4).toNatClampNeg) (xs (i + 5).toNatClampNeg) = some o) (kk : ∀ (n1 : Nat) (H1 : Heap) (locs1 : List Loc) (ls1 : Array Slot), hk_GG g (hk_EE 232 229) o n1 s H1 locs1 → lv_has ls1 9 [(0, .ref b), (1, .ref (g.1 + 0)), (2, .ref (g.1 + 221)), (3, .ref (g.1 + 231)), (4, .int i)] → W p l e room_1 s m #[Value.ref b] below meth c H1 locs1 (cells + 8) (slots + 48) Q (F0 m 3152 ls1 [])) : W p l e room_1 s m #[Value.ref b] below meth c H locs cells slots Q (F0 m 2897 ls []) := by
  have hfc := hf.1
  have hfs := hf.2
  have F9 := hC.1
  have hx := F9.1
  have hb := F9.2.1
  generalize hp1 : xs (i + 1).toNatClampNeg = p1 at hsp
  generalize hp2 : xs (i + 2).toNatClampNeg = p2 at hsp
  generalize hp3 : xs (i + 3).toNatClampNeg = p3 at hsp
  generalize hp4 : xs (i + 4).toNatClampNeg = p4 at hsp
  generalize hp5 : xs (i + 5).toNatClampNeg = p5 at hsp
  unfold mop_54 at hsp
  refine lv_aload_n hx hb dL_law_2897 rfl (lv_at hl 1 rfl) ?_
  refine lv_aload_n hx hb dL_law_2898 rfl (lv_at hl 0 rfl) ?_
  refine lv_iload hx hb dL_law_2899 (lv_at hl 4 rfl) ?_
  refine lv_iconst (v := 1) hx hb dL_law_2901 (by decide) ?_
  refine lv_iadd hx hb dL_law_2902 ?_
  refine va_sld hx hb hC.2.2.1 hC.2.2.2.1 hC.2.2.2.2 G.2.1 (hi 1 (by decide)) dL_law_2903 ?_
  rw [hp1]
  refine lv_aload_n hx hb dL_law_2904 rfl (lv_at hl 0 rfl) ?_
  refine lv_iload hx hb dL_law_2905 (lv_at hl 4 rfl) ?_
  refine lv_iconst (v := 2) hx hb dL_law_2907 (by decide) ?_
  refine lv_iadd hx hb dL_law_2908 ?_
  refine va_sld hx hb hC.2.2.1 hC.2.2.2.1 hC.2.2.2.2 G.2.1 (hi 2 (by decide)) dL_law_2909 ?_
  rw [hp2]
  refine lv_aload_n hx hb dL_law_2910 rfl (lv_at hl 3 rfl) ?_
  obtain ⟨r1, er1, hsp⟩ := hk_b hsp
  refine hk_callW (As := [.ref (g.1 + 0), .int p1, .int p2, .ref (g.1 + 231)]) (rest := []) F9 G (kL_slowestSpeed l hst g (hk_EE 232 229) F n S 0 p1 p2 231 r1 (by decide +kernel) (by decide +kernel) er1) qW_334 ⟨rfl, rfl, (Nat.le_of_ble_eq_true rfl), (Nat.le_of_ble_eq_true rfl)⟩ rfl hl.1 rfl (Nat.le_of_ble_eq_true rfl) ⟨by omega, by omega⟩ dL_law_2911 (fun n H locs G => ?_)
  refine lv_istore (lv' := [(5, .int r1.1), (0, .ref b), (1, .ref (g.1 + 0)), (2, .ref (g.1 + 221)), (3, .ref (g.1 + 231)), (4, .int i)]) hx hb dL_law_2914  hl (by decide) rfl (fun ls hl => ?_)
  refine lv_aload_n hx hb dL_law_2916 rfl (lv_at hl 3 rfl) ?_
  refine lv_aload_n hx hb dL_law_2917 rfl (lv_at hl 1 rfl) ?_
  refine lv_iload hx hb dL_law_2918 (lv_at hl 5 rfl) ?_
  refine lv_iconst (v := 1) hx hb dL_law_2920 (by decide) ?_
  refine lv_iadd hx hb dL_law_2921 ?_
  refine va_sld hx hb hC.2.2.1 hC.2.2.2.1 hC.2.2.2.2 G.2.1 (hi 1 (by decide)) dL_law_2922 ?_
  rw [hp1]
  refine lv_aload_n hx hb dL_law_2923 rfl (lv_at hl 1 rfl) ?_
  refine lv_iload hx hb dL_law_2924 (lv_at hl 5 rfl) ?_
  refine lv_iconst (v := 2) hx hb dL_law_2926 (by decide) ?_
  refine lv_iadd hx hb dL_law_2927 ?_
  refine va_sld hx hb hC.2.2.1 hC.2.2.2.1 hC.2.2.2.2 G.2.1 (hi 2 (by decide)) dL_law_2928 ?_
  rw [hp2]
  obtain ⟨r2, er2, hsp⟩ := hk_b hsp
  refine hk_callVi (As := [.int p1, .int p2]) (rest := []) F9 G (by decide +kernel) hkc_9 rfl (kX12_slowestSpeed l g (hk_EE 232 229) F n r1.2 221 p1 p2 r2 (by decide +kernel) er2) qv_RL_336 ⟨rfl, rfl, (Nat.le_of_ble_eq_true rfl), (Nat.le_of_ble_eq_true rfl)⟩ rfl hl.1 rfl (Nat.le_of_ble_eq_true rfl) ⟨by omega, by omega⟩ dL_law_2929 (fun H locs G => ?_)
  refine lv_istore (lv' := [(6, .int r2.1), (5, .int r1.1), (0, .ref b), (1, .ref (g.1 + 0)), (2, .ref (g.1 + 221)), (3, .ref (g.1 + 231)), (4, .int i)]) hx hb dL_law_2932  hl (by decide) rfl (fun ls hl => ?_)
  refine lv_aload_n hx hb dL_law_2934 rfl (lv_at hl 4 rfl) ?_
  obtain ⟨r3, er3, hsp⟩ := hk_b hsp
  refine hk_callVi (As := []) (rest := []) F9 G (by decide +kernel) hkc_9 rfl (kX12_thrown l g (hk_EE 232 229) F n r2.2 221 r3 (by decide +kernel) er3) qv_RL_157 ⟨rfl, rfl, (Nat.le_of_ble_eq_true rfl), (Nat.le_of_ble_eq_true rfl)⟩ rfl hl.1 rfl (Nat.le_of_ble_eq_true rfl) ⟨by omega, by omega⟩ dL_law_2935 (fun H locs G => ?_)
  refine lv_iload hx hb dL_law_2938 (lv_at hl 1 rfl) ?_
  refine lv_icmp_eq (tgt := 2945) hx hb dL_law_2940 (by decide) (fun c4 => ?_) (fun c4 => ?_)
  · have hsp := hk_t c4 hsp
    refine lv_iload hx hb dL_law_2945 (lv_at hl 1 rfl) ?_
    refine lv_if_ne (tgt := 2962) hx hb dL_law_2947 (by decide) (fun c5 => ?_) (fun c5 => ?_)
    · have hsp := hk_t c5 hsp
      refine lv_goto (tgt := 3152) hx hb dL_law_2962 (by decide) ?_
      obtain rfl := hk_s hsp
      exact W.widen (by omega) (by omega) (kk n H locs ls G (lv_sub hl [2, 3, 4, 5, 6] rfl))
    · have hsp := hk_g c5 hsp
      refine lv_aload_n hx hb dL_law_2950 rfl (lv_at hl 5 rfl) ?_
      refine lv_iconst (v := 0) hx hb dL_law_2951 (by decide) ?_
      obtain ⟨q6, hsp⟩ := hk_k hsp
      refine hk_lald (j := 0) F9 G (by decide +kernel) rfl q6 (by decide) dL_law_2952 ?_
      refine lv_iload hx hb dL_law_2953 (lv_at hl 0 rfl) ?_
      refine lv_i2l (v := (r2.1 : Int32).toInt64) hx hb dL_law_2955 rfl ?_
      refine W.lcmp hx hb dL_law_2956 ?_
      refine lv_if_eq (tgt := 2962) hx hb dL_law_2957 (by decide) (fun c7 => ?_) (fun c7 => ?_)
      · have hsp := hk_t c7 hsp
        refine lv_goto (tgt := 3152) hx hb dL_law_2962 (by decide) ?_
        obtain rfl := hk_s hsp
        exact W.widen (by omega) (by omega) (kk n H locs ls G (lv_sub hl [2, 3, 4, 5, 6] rfl))
      · have hsp := hk_f c7 hsp
        exact nomatch hsp
  · have hsp := hk_f c4 hsp
    exact nomatch hsp
def mop_55 (F : Nat) (S : hk_S) (p1 p2 p3 p4 p5 : Int32) : Option hk_S :=
(mX11_dischargedKilograms (hk_EE 232 229) F S 0).bind (fun r1 => (mX12_dischargedKilograms (hk_EE 232 229) F r1.2 221).bind (fun r2 => if r1.1 = r2.1 then (some r2.2) else (none)))
set_option maxHeartbeats 4000000 in
set_option maxRecDepth 100000 in
theorem kop_55 (hst : l.stackTraces = false) (hC : hk_LC p s m meth c b L xs g) (F : Nat) {n : Nat} {S : hk_S} {H : Heap} {locs : List Loc} {ls : Array Slot} {cells slots : Nat} {i : Int32} (hi : ∀ k : Nat, k < 6 → vp_in (i + nI k) L) (hf : cells + 8 ≤ room_1.cells ∧ slots + 48 ≤ room_1.slots) (G : hk_GG g (hk_EE 232 229) S n s H locs) (hl : lv_has ls 9 [(0, .ref b), (1, .ref (g.1 + 0)), (2, .ref (g.1 + 221)), (3, .ref (g.1 + 231)), (4, .int i)]) (o : hk_S) (hsp : mop_55 F S (xs (i + 1).toNatClampNeg) (xs (i + 2).toNatClampNeg) (xs (i + 3).toNatClampNeg) (xs (i + 4).toNatClampNeg) (xs (i + 5).toNatClampNeg) = some o) (kk : ∀ (n1 : Nat) (H1 : Heap) (locs1 : List Loc) (ls1 : Array Slot), hk_GG g (hk_EE 232 229) o n1 s H1 locs1 → lv_has ls1 9 [(0, .ref b), (1, .ref (g.1 + 0)), (2, .ref (g.1 + 221)), (3, .ref (g.1 + 231)), (4, .int i)] → W p l e room_1 s m #[Value.ref b] below meth c H1 locs1 (cells + 8) (slots + 48) Q (F0 m 3152 ls1 [])) : W p l e room_1 s m #[Value.ref b] below meth c H locs cells slots Q (F0 m 2965 ls []) := by
  have hfc := hf.1
  have hfs := hf.2
  have F9 := hC.1
  have hx := F9.1
  have hb := F9.2.1
  generalize hp1 : xs (i + 1).toNatClampNeg = p1 at hsp
  generalize hp2 : xs (i + 2).toNatClampNeg = p2 at hsp
  generalize hp3 : xs (i + 3).toNatClampNeg = p3 at hsp
  generalize hp4 : xs (i + 4).toNatClampNeg = p4 at hsp
  generalize hp5 : xs (i + 5).toNatClampNeg = p5 at hsp
  unfold mop_55 at hsp
  refine lv_aload_n hx hb dL_law_2965 rfl (lv_at hl 1 rfl) ?_
  obtain ⟨r1, er1, hsp⟩ := hk_b hsp
  refine hk_callVi (As := []) (rest := []) F9 G (by decide +kernel) hkc_8 rfl (kX11_dischargedKilograms l g (hk_EE 232 229) F n S 0 r1 (by decide +kernel) er1) qv_RL_337 ⟨rfl, rfl, (Nat.le_of_ble_eq_true rfl), (Nat.le_of_ble_eq_true rfl)⟩ rfl hl.1 rfl (Nat.le_of_ble_eq_true rfl) ⟨by omega, by omega⟩ dL_law_2966 (fun H locs G => ?_)
  refine lv_aload_n hx hb dL_law_2969 rfl (lv_at hl 2 rfl) ?_
  obtain ⟨r2, er2, hsp⟩ := hk_b hsp
  refine hk_callVi (As := []) (rest := [.int r1.1]) F9 G (by decide +kernel) hkc_9 rfl (kX12_dischargedKilograms l g (hk_EE 232 229) F n r1.2 221 r2 (by decide +kernel) er2) qv_RL_340 ⟨rfl, rfl, (Nat.le_of_ble_eq_true rfl), (Nat.le_of_ble_eq_true rfl)⟩ rfl hl.1 rfl (Nat.le_of_ble_eq_true rfl) ⟨by omega, by omega⟩ dL_law_2970 (fun H locs G => ?_)
  refine lv_icmp_eq (tgt := 3152) hx hb dL_law_2973 (by decide) (fun c3 => ?_) (fun c3 => ?_)
  · have hsp := hk_t c3 hsp
    obtain rfl := hk_s hsp
    exact W.widen (by omega) (by omega) (kk n H locs ls G (lv_sub hl [0, 1, 2, 3, 4] rfl))
  · have hsp := hk_f c3 hsp
    exact nomatch hsp
def mop_56 (F : Nat) (S : hk_S) (p1 p2 p3 p4 p5 : Int32) : Option hk_S :=
(mX11_discardedKilograms (hk_EE 232 229) F S 0).bind (fun r1 => (mX12_discardedKilograms (hk_EE 232 229) F r1.2 221).bind (fun r2 => if r1.1 = r2.1 then (some r2.2) else (none)))
set_option maxHeartbeats 4000000 in
set_option maxRecDepth 100000 in
theorem kop_56 (hst : l.stackTraces = false) (hC : hk_LC p s m meth c b L xs g) (F : Nat) {n : Nat} {S : hk_S} {H : Heap} {locs : List Loc} {ls : Array Slot} {cells slots : Nat} {i : Int32} (hi : ∀ k : Nat, k < 6 → vp_in (i + nI k) L) (hf : cells + 8 ≤ room_1.cells ∧ slots + 48 ≤ room_1.slots) (G : hk_GG g (hk_EE 232 229) S n s H locs) (hl : lv_has ls 9 [(0, .ref b), (1, .ref (g.1 + 0)), (2, .ref (g.1 + 221)), (3, .ref (g.1 + 231)), (4, .int i)]) (o : hk_S) (hsp : mop_56 F S (xs (i + 1).toNatClampNeg) (xs (i + 2).toNatClampNeg) (xs (i + 3).toNatClampNeg) (xs (i + 4).toNatClampNeg) (xs (i + 5).toNatClampNeg) = some o) (kk : ∀ (n1 : Nat) (H1 : Heap) (locs1 : List Loc) (ls1 : Array Slot), hk_GG g (hk_EE 232 229) o n1 s H1 locs1 → lv_has ls1 9 [(0, .ref b), (1, .ref (g.1 + 0)), (2, .ref (g.1 + 221)), (3, .ref (g.1 + 231)), (4, .int i)] → W p l e room_1 s m #[Value.ref b] below meth c H1 locs1 (cells + 8) (slots + 48) Q (F0 m 3152 ls1 [])) : W p l e room_1 s m #[Value.ref b] below meth c H locs cells slots Q (F0 m 2978 ls []) := by
  have hfc := hf.1
  have hfs := hf.2
  have F9 := hC.1
  have hx := F9.1
  have hb := F9.2.1
  generalize hp1 : xs (i + 1).toNatClampNeg = p1 at hsp
  generalize hp2 : xs (i + 2).toNatClampNeg = p2 at hsp
  generalize hp3 : xs (i + 3).toNatClampNeg = p3 at hsp
  generalize hp4 : xs (i + 4).toNatClampNeg = p4 at hsp
  generalize hp5 : xs (i + 5).toNatClampNeg = p5 at hsp
  unfold mop_56 at hsp
  refine lv_aload_n hx hb dL_law_2978 rfl (lv_at hl 1 rfl) ?_
  obtain ⟨r1, er1, hsp⟩ := hk_b hsp
  refine hk_callVi (As := []) (rest := []) F9 G (by decide +kernel) hkc_8 rfl (kX11_discardedKilograms l g (hk_EE 232 229) F n S 0 r1 (by decide +kernel) er1) qv_RL_341 ⟨rfl, rfl, (Nat.le_of_ble_eq_true rfl), (Nat.le_of_ble_eq_true rfl)⟩ rfl hl.1 rfl (Nat.le_of_ble_eq_true rfl) ⟨by omega, by omega⟩ dL_law_2979 (fun H locs G => ?_)
  refine lv_aload_n hx hb dL_law_2982 rfl (lv_at hl 2 rfl) ?_
  obtain ⟨r2, er2, hsp⟩ := hk_b hsp
  refine hk_callVi (As := []) (rest := [.int r1.1]) F9 G (by decide +kernel) hkc_9 rfl (kX12_discardedKilograms l g (hk_EE 232 229) F n r1.2 221 r2 (by decide +kernel) er2) qv_RL_344 ⟨rfl, rfl, (Nat.le_of_ble_eq_true rfl), (Nat.le_of_ble_eq_true rfl)⟩ rfl hl.1 rfl (Nat.le_of_ble_eq_true rfl) ⟨by omega, by omega⟩ dL_law_2983 (fun H locs G => ?_)
  refine lv_icmp_eq (tgt := 3152) hx hb dL_law_2986 (by decide) (fun c3 => ?_) (fun c3 => ?_)
  · have hsp := hk_t c3 hsp
    obtain rfl := hk_s hsp
    exact W.widen (by omega) (by omega) (kk n H locs ls G (lv_sub hl [0, 1, 2, 3, 4] rfl))
  · have hsp := hk_f c3 hsp
    exact nomatch hsp
def mop_57 (F : Nat) (S : hk_S) (p1 p2 p3 p4 p5 : Int32) : Option hk_S :=
(mX11_totalWorth (hk_EE 232 229) F S 0).bind (fun r1 => (mX12_totalWorth (hk_EE 232 229) F r1.2 221).bind (fun r2 => if r1.1 = r2.1 then (some r2.2) else (none)))
set_option maxHeartbeats 4000000 in
set_option maxRecDepth 100000 in
theorem kop_57 (hst : l.stackTraces = false) (hC : hk_LC p s m meth c b L xs g) (F : Nat) {n : Nat} {S : hk_S} {H : Heap} {locs : List Loc} {ls : Array Slot} {cells slots : Nat} {i : Int32} (hi : ∀ k : Nat, k < 6 → vp_in (i + nI k) L) (hf : cells + 8 ≤ room_1.cells ∧ slots + 48 ≤ room_1.slots) (G : hk_GG g (hk_EE 232 229) S n s H locs) (hl : lv_has ls 9 [(0, .ref b), (1, .ref (g.1 + 0)), (2, .ref (g.1 + 221)), (3, .ref (g.1 + 231)), (4, .int i)]) (o : hk_S) (hsp : mop_57 F S (xs (i + 1).toNatClampNeg) (xs (i + 2).toNatClampNeg) (xs (i + 3).toNatClampNeg) (xs (i + 4).toNatClampNeg) (xs (i + 5).toNatClampNeg) = some o) (kk : ∀ (n1 : Nat) (H1 : Heap) (locs1 : List Loc) (ls1 : Array Slot), hk_GG g (hk_EE 232 229) o n1 s H1 locs1 → lv_has ls1 9 [(0, .ref b), (1, .ref (g.1 + 0)), (2, .ref (g.1 + 221)), (3, .ref (g.1 + 231)), (4, .int i)] → W p l e room_1 s m #[Value.ref b] below meth c H1 locs1 (cells + 8) (slots + 48) Q (F0 m 3152 ls1 [])) : W p l e room_1 s m #[Value.ref b] below meth c H locs cells slots Q (F0 m 2991 ls []) := by
  have hfc := hf.1
  have hfs := hf.2
  have F9 := hC.1
  have hx := F9.1
  have hb := F9.2.1
  generalize hp1 : xs (i + 1).toNatClampNeg = p1 at hsp
  generalize hp2 : xs (i + 2).toNatClampNeg = p2 at hsp
  generalize hp3 : xs (i + 3).toNatClampNeg = p3 at hsp
  generalize hp4 : xs (i + 4).toNatClampNeg = p4 at hsp
  generalize hp5 : xs (i + 5).toNatClampNeg = p5 at hsp
  unfold mop_57 at hsp
  refine lv_aload_n hx hb dL_law_2991 rfl (lv_at hl 1 rfl) ?_
  obtain ⟨r1, er1, hsp⟩ := hk_b hsp
  refine hk_callVi (As := []) (rest := []) F9 G (by decide +kernel) hkc_8 rfl (kX11_totalWorth l g (hk_EE 232 229) F n S 0 r1 (by decide +kernel) er1) qv_RL_345 ⟨rfl, rfl, (Nat.le_of_ble_eq_true rfl), (Nat.le_of_ble_eq_true rfl)⟩ rfl hl.1 rfl (Nat.le_of_ble_eq_true rfl) ⟨by omega, by omega⟩ dL_law_2992 (fun H locs G => ?_)
  refine lv_aload_n hx hb dL_law_2995 rfl (lv_at hl 2 rfl) ?_
  obtain ⟨r2, er2, hsp⟩ := hk_b hsp
  refine hk_callVi (As := []) (rest := [.int r1.1]) F9 G (by decide +kernel) hkc_9 rfl (kX12_totalWorth l g (hk_EE 232 229) F n r1.2 221 r2 (by decide +kernel) er2) qv_RL_348 ⟨rfl, rfl, (Nat.le_of_ble_eq_true rfl), (Nat.le_of_ble_eq_true rfl)⟩ rfl hl.1 rfl (Nat.le_of_ble_eq_true rfl) ⟨by omega, by omega⟩ dL_law_2996 (fun H locs G => ?_)
  refine lv_icmp_eq (tgt := 3152) hx hb dL_law_2999 (by decide) (fun c3 => ?_) (fun c3 => ?_)
  · have hsp := hk_t c3 hsp
    obtain rfl := hk_s hsp
    exact W.widen (by omega) (by omega) (kk n H locs ls G (lv_sub hl [0, 1, 2, 3, 4] rfl))
  · have hsp := hk_f c3 hsp
    exact nomatch hsp
def mop_58 (F : Nat) (S : hk_S) (p1 p2 p3 p4 p5 : Int32) : Option hk_S :=
(mX11_lostWater (hk_EE 232 229) F S 0).bind (fun r1 => (mX12_lostWater (hk_EE 232 229) F r1.2 221).bind (fun r2 => if r1.1 = r2.1 then (some r2.2) else (none)))
set_option maxHeartbeats 4000000 in
set_option maxRecDepth 100000 in
theorem kop_58 (hst : l.stackTraces = false) (hC : hk_LC p s m meth c b L xs g) (F : Nat) {n : Nat} {S : hk_S} {H : Heap} {locs : List Loc} {ls : Array Slot} {cells slots : Nat} {i : Int32} (hi : ∀ k : Nat, k < 6 → vp_in (i + nI k) L) (hf : cells + 8 ≤ room_1.cells ∧ slots + 48 ≤ room_1.slots) (G : hk_GG g (hk_EE 232 229) S n s H locs) (hl : lv_has ls 9 [(0, .ref b), (1, .ref (g.1 + 0)), (2, .ref (g.1 + 221)), (3, .ref (g.1 + 231)), (4, .int i)]) (o : hk_S) (hsp : mop_58 F S (xs (i + 1).toNatClampNeg) (xs (i + 2).toNatClampNeg) (xs (i + 3).toNatClampNeg) (xs (i + 4).toNatClampNeg) (xs (i + 5).toNatClampNeg) = some o) (kk : ∀ (n1 : Nat) (H1 : Heap) (locs1 : List Loc) (ls1 : Array Slot), hk_GG g (hk_EE 232 229) o n1 s H1 locs1 → lv_has ls1 9 [(0, .ref b), (1, .ref (g.1 + 0)), (2, .ref (g.1 + 221)), (3, .ref (g.1 + 231)), (4, .int i)] → W p l e room_1 s m #[Value.ref b] below meth c H1 locs1 (cells + 8) (slots + 48) Q (F0 m 3152 ls1 [])) : W p l e room_1 s m #[Value.ref b] below meth c H locs cells slots Q (F0 m 3004 ls []) := by
  have hfc := hf.1
  have hfs := hf.2
  have F9 := hC.1
  have hx := F9.1
  have hb := F9.2.1
  generalize hp1 : xs (i + 1).toNatClampNeg = p1 at hsp
  generalize hp2 : xs (i + 2).toNatClampNeg = p2 at hsp
  generalize hp3 : xs (i + 3).toNatClampNeg = p3 at hsp
  generalize hp4 : xs (i + 4).toNatClampNeg = p4 at hsp
  generalize hp5 : xs (i + 5).toNatClampNeg = p5 at hsp
  unfold mop_58 at hsp
  refine lv_aload_n hx hb dL_law_3004 rfl (lv_at hl 1 rfl) ?_
  obtain ⟨r1, er1, hsp⟩ := hk_b hsp
  refine hk_callVi (As := []) (rest := []) F9 G (by decide +kernel) hkc_8 rfl (kX11_lostWater l g (hk_EE 232 229) F n S 0 r1 (by decide +kernel) er1) qv_RL_349 ⟨rfl, rfl, (Nat.le_of_ble_eq_true rfl), (Nat.le_of_ble_eq_true rfl)⟩ rfl hl.1 rfl (Nat.le_of_ble_eq_true rfl) ⟨by omega, by omega⟩ dL_law_3005 (fun H locs G => ?_)
  refine lv_aload_n hx hb dL_law_3008 rfl (lv_at hl 2 rfl) ?_
  obtain ⟨r2, er2, hsp⟩ := hk_b hsp
  refine hk_callVi (As := []) (rest := [.int r1.1]) F9 G (by decide +kernel) hkc_9 rfl (kX12_lostWater l g (hk_EE 232 229) F n r1.2 221 r2 (by decide +kernel) er2) qv_RL_352 ⟨rfl, rfl, (Nat.le_of_ble_eq_true rfl), (Nat.le_of_ble_eq_true rfl)⟩ rfl hl.1 rfl (Nat.le_of_ble_eq_true rfl) ⟨by omega, by omega⟩ dL_law_3009 (fun H locs G => ?_)
  refine lv_icmp_eq (tgt := 3152) hx hb dL_law_3012 (by decide) (fun c3 => ?_) (fun c3 => ?_)
  · have hsp := hk_t c3 hsp
    obtain rfl := hk_s hsp
    exact W.widen (by omega) (by omega) (kk n H locs ls G (lv_sub hl [0, 1, 2, 3, 4] rfl))
  · have hsp := hk_f c3 hsp
    exact nomatch hsp
def mop_59 (F : Nat) (S : hk_S) (p1 p2 p3 p4 p5 : Int32) : Option hk_S :=
(mX11_meanMoisture (hk_EE 232 229) F S 0).bind (fun r1 => (mX12_meanMoisture (hk_EE 232 229) F r1.2 221).bind (fun r2 => if (Op.cmpValue (FP.dcmp r1.1 r2.1) .l) = 0 then (some r2.2) else (if (Op.cmpValue (FP.dcmp r1.1 r1.1) .l) = 0 then (none) else (if ¬ (Op.cmpValue (FP.dcmp r2.1 r2.1) .l) = 0 then (some r2.2) else (none)))))
set_option maxHeartbeats 4000000 in
set_option maxRecDepth 100000 in
theorem kop_59 (hst : l.stackTraces = false) (hC : hk_LC p s m meth c b L xs g) (F : Nat) {n : Nat} {S : hk_S} {H : Heap} {locs : List Loc} {ls : Array Slot} {cells slots : Nat} {i : Int32} (hi : ∀ k : Nat, k < 6 → vp_in (i + nI k) L) (hf : cells + 8 ≤ room_1.cells ∧ slots + 48 ≤ room_1.slots) (G : hk_GG g (hk_EE 232 229) S n s H locs) (hl : lv_has ls 9 [(0, .ref b), (1, .ref (g.1 + 0)), (2, .ref (g.1 + 221)), (3, .ref (g.1 + 231)), (4, .int i)]) (o : hk_S) (hsp : mop_59 F S (xs (i + 1).toNatClampNeg) (xs (i + 2).toNatClampNeg) (xs (i + 3).toNatClampNeg) (xs (i + 4).toNatClampNeg) (xs (i + 5).toNatClampNeg) = some o) (kk : ∀ (n1 : Nat) (H1 : Heap) (locs1 : List Loc) (ls1 : Array Slot), hk_GG g (hk_EE 232 229) o n1 s H1 locs1 → lv_has ls1 9 [(0, .ref b), (1, .ref (g.1 + 0)), (2, .ref (g.1 + 221)), (3, .ref (g.1 + 231)), (4, .int i)] → W p l e room_1 s m #[Value.ref b] below meth c H1 locs1 (cells + 8) (slots + 48) Q (F0 m 3152 ls1 [])) : W p l e room_1 s m #[Value.ref b] below meth c H locs cells slots Q (F0 m 3017 ls []) := by
  have hfc := hf.1
  have hfs := hf.2
  have F9 := hC.1
  have hx := F9.1
  have hb := F9.2.1
  generalize hp1 : xs (i + 1).toNatClampNeg = p1 at hsp
  generalize hp2 : xs (i + 2).toNatClampNeg = p2 at hsp
  generalize hp3 : xs (i + 3).toNatClampNeg = p3 at hsp
  generalize hp4 : xs (i + 4).toNatClampNeg = p4 at hsp
  generalize hp5 : xs (i + 5).toNatClampNeg = p5 at hsp
  unfold mop_59 at hsp
  refine lv_aload_n hx hb dL_law_3017 rfl (lv_at hl 1 rfl) ?_
  obtain ⟨r1, er1, hsp⟩ := hk_b hsp
  refine hk_callV (As := []) (rest := []) F9 G (by decide +kernel) hkc_8 rfl (kX11_meanMoisture l g (hk_EE 232 229) F n S 0 r1 (by decide +kernel) er1) qv_RL_353 ⟨rfl, rfl, (Nat.le_of_ble_eq_true rfl), (Nat.le_of_ble_eq_true rfl)⟩ rfl hl.1 rfl (Nat.le_of_ble_eq_true rfl) ⟨by omega, by omega⟩ dL_law_3018 (fun H locs G => ?_)
  refine lv_dstore (lv' := [(5, .double r1.1), (0, .ref b), (1, .ref (g.1 + 0)), (2, .ref (g.1 + 221)), (3, .ref (g.1 + 231)), (4, .int i)]) hx hb dL_law_3021  hl (by decide) rfl (fun ls hl => ?_)
  refine lv_aload_n hx hb dL_law_3023 rfl (lv_at hl 3 rfl) ?_
  obtain ⟨r2, er2, hsp⟩ := hk_b hsp
  refine hk_callV (As := []) (rest := []) F9 G (by decide +kernel) hkc_9 rfl (kX12_meanMoisture l g (hk_EE 232 229) F n r1.2 221 r2 (by decide +kernel) er2) qv_RL_357 ⟨rfl, rfl, (Nat.le_of_ble_eq_true rfl), (Nat.le_of_ble_eq_true rfl)⟩ rfl hl.1 rfl (Nat.le_of_ble_eq_true rfl) ⟨by omega, by omega⟩ dL_law_3024 (fun H locs G => ?_)
  refine lv_dstore (lv' := [(7, .double r2.1), (5, .double r1.1), (0, .ref b), (1, .ref (g.1 + 0)), (2, .ref (g.1 + 221)), (3, .ref (g.1 + 231)), (4, .int i)]) hx hb dL_law_3027  hl (by decide) rfl (fun ls hl => ?_)
  refine lv_dload hx hb dL_law_3029 (lv_at hl 1 rfl) ?_
  refine lv_dload hx hb dL_law_3031 (lv_at hl 0 rfl) ?_
  refine lv_dcmp hx hb dL_law_3033 ?_
  refine lv_if_eq (tgt := 3055) hx hb dL_law_3034 (by decide) (fun c3 => ?_) (fun c3 => ?_)
  · have hsp := hk_t c3 hsp
    refine lv_goto (tgt := 3152) hx hb dL_law_3055 (by decide) ?_
    obtain rfl := hk_s hsp
    exact W.widen (by omega) (by omega) (kk n H locs ls G (lv_sub hl [2, 3, 4, 5, 6] rfl))
  · have hsp := hk_f c3 hsp
    refine lv_dload hx hb dL_law_3037 (lv_at hl 1 rfl) ?_
    refine lv_dload hx hb dL_law_3039 (lv_at hl 1 rfl) ?_
    refine lv_dcmp hx hb dL_law_3041 ?_
    refine lv_if_eq (tgt := 3053) hx hb dL_law_3042 (by decide) (fun c4 => ?_) (fun c4 => ?_)
    · have hsp := hk_t c4 hsp
      exact nomatch hsp
    · have hsp := hk_f c4 hsp
      refine lv_dload hx hb dL_law_3045 (lv_at hl 0 rfl) ?_
      refine lv_dload hx hb dL_law_3047 (lv_at hl 0 rfl) ?_
      refine lv_dcmp hx hb dL_law_3049 ?_
      refine lv_if_ne (tgt := 3055) hx hb dL_law_3050 (by decide) (fun c5 => ?_) (fun c5 => ?_)
      · have hsp := hk_t c5 hsp
        refine lv_goto (tgt := 3152) hx hb dL_law_3055 (by decide) ?_
        obtain rfl := hk_s hsp
        exact W.widen (by omega) (by omega) (kk n H locs ls G (lv_sub hl [2, 3, 4, 5, 6] rfl))
      · have hsp := hk_g c5 hsp
        exact nomatch hsp
def mop_60 (F : Nat) (S : hk_S) (p1 p2 p3 p4 p5 : Int32) : Option hk_S :=
(mX11_readyShare (hk_EE 232 229) F S 0).bind (fun r1 => if (FP.f2d r1.1) &&& 0x7fffffffffffffff ≤ 0x7ff0000000000000 then ((mX12_readyShare (hk_EE 232 229) F r1.2 221).bind (fun r3 => if (FP.f2d r3.1) &&& 0x7fffffffffffffff ≤ 0x7ff0000000000000 then (if (Op.cmpValue (FP.dcmp (FP.f2d r1.1) (FP.f2d r3.1)) .l) = 0 then (some r3.2) else (if (Op.cmpValue (FP.dcmp (FP.f2d r1.1) (FP.f2d r1.1)) .l) = 0 then (none) else (if ¬ (Op.cmpValue (FP.dcmp (FP.f2d r3.1) (FP.f2d r3.1)) .l) = 0 then (some r3.2) else (none)))) else none)) else none)
set_option maxHeartbeats 4000000 in
set_option maxRecDepth 100000 in
theorem kop_60 (hst : l.stackTraces = false) (hC : hk_LC p s m meth c b L xs g) (F : Nat) {n : Nat} {S : hk_S} {H : Heap} {locs : List Loc} {ls : Array Slot} {cells slots : Nat} {i : Int32} (hi : ∀ k : Nat, k < 6 → vp_in (i + nI k) L) (hf : cells + 8 ≤ room_1.cells ∧ slots + 48 ≤ room_1.slots) (G : hk_GG g (hk_EE 232 229) S n s H locs) (hl : lv_has ls 9 [(0, .ref b), (1, .ref (g.1 + 0)), (2, .ref (g.1 + 221)), (3, .ref (g.1 + 231)), (4, .int i)]) (o : hk_S) (hsp : mop_60 F S (xs (i + 1).toNatClampNeg) (xs (i + 2).toNatClampNeg) (xs (i + 3).toNatClampNeg) (xs (i + 4).toNatClampNeg) (xs (i + 5).toNatClampNeg) = some o) (kk : ∀ (n1 : Nat) (H1 : Heap) (locs1 : List Loc) (ls1 : Array Slot), hk_GG g (hk_EE 232 229) o n1 s H1 locs1 → lv_has ls1 9 [(0, .ref b), (1, .ref (g.1 + 0)), (2, .ref (g.1 + 221)), (3, .ref (g.1 + 231)), (4, .int i)] → W p l e room_1 s m #[Value.ref b] below meth c H1 locs1 (cells + 8) (slots + 48) Q (F0 m 3152 ls1 [])) : W p l e room_1 s m #[Value.ref b] below meth c H locs cells slots Q (F0 m 3058 ls []) := by
  have hfc := hf.1
  have hfs := hf.2
  have F9 := hC.1
  have hx := F9.1
  have hb := F9.2.1
  generalize hp1 : xs (i + 1).toNatClampNeg = p1 at hsp
  generalize hp2 : xs (i + 2).toNatClampNeg = p2 at hsp
  generalize hp3 : xs (i + 3).toNatClampNeg = p3 at hsp
  generalize hp4 : xs (i + 4).toNatClampNeg = p4 at hsp
  generalize hp5 : xs (i + 5).toNatClampNeg = p5 at hsp
  unfold mop_60 at hsp
  refine lv_aload_n hx hb dL_law_3058 rfl (lv_at hl 1 rfl) ?_
  obtain ⟨r1, er1, hsp⟩ := hk_b hsp
  refine hk_callV (As := []) (rest := []) F9 G (by decide +kernel) hkc_8 rfl (kX11_readyShare l g (hk_EE 232 229) F n S 0 r1 (by decide +kernel) er1) qv_RL_358 ⟨rfl, rfl, (Nat.le_of_ble_eq_true rfl), (Nat.le_of_ble_eq_true rfl)⟩ rfl hl.1 rfl (Nat.le_of_ble_eq_true rfl) ⟨by omega, by omega⟩ dL_law_3059 (fun H locs G => ?_)
  obtain ⟨q2, hsp⟩ := hk_k hsp
  refine lv_f2d hx hb dL_law_3062 q2 ?_
  refine lv_dstore (lv' := [(5, .double (FP.f2d r1.1)), (0, .ref b), (1, .ref (g.1 + 0)), (2, .ref (g.1 + 221)), (3, .ref (g.1 + 231)), (4, .int i)]) hx hb dL_law_3063  hl (by decide) rfl (fun ls hl => ?_)
  refine lv_aload_n hx hb dL_law_3065 rfl (lv_at hl 3 rfl) ?_
  obtain ⟨r3, er3, hsp⟩ := hk_b hsp
  refine hk_callV (As := []) (rest := []) F9 G (by decide +kernel) hkc_9 rfl (kX12_readyShare l g (hk_EE 232 229) F n r1.2 221 r3 (by decide +kernel) er3) qv_RL_362 ⟨rfl, rfl, (Nat.le_of_ble_eq_true rfl), (Nat.le_of_ble_eq_true rfl)⟩ rfl hl.1 rfl (Nat.le_of_ble_eq_true rfl) ⟨by omega, by omega⟩ dL_law_3066 (fun H locs G => ?_)
  obtain ⟨q4, hsp⟩ := hk_k hsp
  refine lv_f2d hx hb dL_law_3069 q4 ?_
  refine lv_dstore (lv' := [(7, .double (FP.f2d r3.1)), (5, .double (FP.f2d r1.1)), (0, .ref b), (1, .ref (g.1 + 0)), (2, .ref (g.1 + 221)), (3, .ref (g.1 + 231)), (4, .int i)]) hx hb dL_law_3070  hl (by decide) rfl (fun ls hl => ?_)
  refine lv_dload hx hb dL_law_3072 (lv_at hl 1 rfl) ?_
  refine lv_dload hx hb dL_law_3074 (lv_at hl 0 rfl) ?_
  refine lv_dcmp hx hb dL_law_3076 ?_
  refine lv_if_eq (tgt := 3098) hx hb dL_law_3077 (by decide) (fun c5 => ?_) (fun c5 => ?_)
  · have hsp := hk_t c5 hsp
    refine lv_goto (tgt := 3152) hx hb dL_law_3098 (by decide) ?_
    obtain rfl := hk_s hsp
    exact W.widen (by omega) (by omega) (kk n H locs ls G (lv_sub hl [2, 3, 4, 5, 6] rfl))
  · have hsp := hk_f c5 hsp
    refine lv_dload hx hb dL_law_3080 (lv_at hl 1 rfl) ?_
    refine lv_dload hx hb dL_law_3082 (lv_at hl 1 rfl) ?_
    refine lv_dcmp hx hb dL_law_3084 ?_
    refine lv_if_eq (tgt := 3096) hx hb dL_law_3085 (by decide) (fun c6 => ?_) (fun c6 => ?_)
    · have hsp := hk_t c6 hsp
      exact nomatch hsp
    · have hsp := hk_f c6 hsp
      refine lv_dload hx hb dL_law_3088 (lv_at hl 0 rfl) ?_
      refine lv_dload hx hb dL_law_3090 (lv_at hl 0 rfl) ?_
      refine lv_dcmp hx hb dL_law_3092 ?_
      refine lv_if_ne (tgt := 3098) hx hb dL_law_3093 (by decide) (fun c7 => ?_) (fun c7 => ?_)
      · have hsp := hk_t c7 hsp
        refine lv_goto (tgt := 3152) hx hb dL_law_3098 (by decide) ?_
        obtain rfl := hk_s hsp
        exact W.widen (by omega) (by omega) (kk n H locs ls G (lv_sub hl [2, 3, 4, 5, 6] rfl))
      · have hsp := hk_g c7 hsp
        exact nomatch hsp
def mop_61 (F : Nat) (S : hk_S) (p1 p2 p3 p4 p5 : Int32) : Option hk_S :=
(mX11_violations (hk_EE 232 229) F S 0).bind (fun r1 => (mX12_violations (hk_EE 232 229) F r1.2 221).bind (fun r2 => if r1.1 = r2.1 then (some r2.2) else (none)))
set_option maxHeartbeats 4000000 in
set_option maxRecDepth 100000 in
theorem kop_61 (hst : l.stackTraces = false) (hC : hk_LC p s m meth c b L xs g) (F : Nat) {n : Nat} {S : hk_S} {H : Heap} {locs : List Loc} {ls : Array Slot} {cells slots : Nat} {i : Int32} (hi : ∀ k : Nat, k < 6 → vp_in (i + nI k) L) (hf : cells + 8 ≤ room_1.cells ∧ slots + 48 ≤ room_1.slots) (G : hk_GG g (hk_EE 232 229) S n s H locs) (hl : lv_has ls 9 [(0, .ref b), (1, .ref (g.1 + 0)), (2, .ref (g.1 + 221)), (3, .ref (g.1 + 231)), (4, .int i)]) (o : hk_S) (hsp : mop_61 F S (xs (i + 1).toNatClampNeg) (xs (i + 2).toNatClampNeg) (xs (i + 3).toNatClampNeg) (xs (i + 4).toNatClampNeg) (xs (i + 5).toNatClampNeg) = some o) (kk : ∀ (n1 : Nat) (H1 : Heap) (locs1 : List Loc) (ls1 : Array Slot), hk_GG g (hk_EE 232 229) o n1 s H1 locs1 → lv_has ls1 9 [(0, .ref b), (1, .ref (g.1 + 0)), (2, .ref (g.1 + 221)), (3, .ref (g.1 + 231)), (4, .int i)] → W p l e room_1 s m #[Value.ref b] below meth c H1 locs1 (cells + 8) (slots + 48) Q (F0 m 3152 ls1 [])) : W p l e room_1 s m #[Value.ref b] below meth c H locs cells slots Q (F0 m 3101 ls []) := by
  have hfc := hf.1
  have hfs := hf.2
  have F9 := hC.1
  have hx := F9.1
  have hb := F9.2.1
  generalize hp1 : xs (i + 1).toNatClampNeg = p1 at hsp
  generalize hp2 : xs (i + 2).toNatClampNeg = p2 at hsp
  generalize hp3 : xs (i + 3).toNatClampNeg = p3 at hsp
  generalize hp4 : xs (i + 4).toNatClampNeg = p4 at hsp
  generalize hp5 : xs (i + 5).toNatClampNeg = p5 at hsp
  unfold mop_61 at hsp
  refine lv_aload_n hx hb dL_law_3101 rfl (lv_at hl 1 rfl) ?_
  obtain ⟨r1, er1, hsp⟩ := hk_b hsp
  refine hk_callVi (As := []) (rest := []) F9 G (by decide +kernel) hkc_8 rfl (kX11_violations l g (hk_EE 232 229) F n S 0 r1 (by decide +kernel) er1) qv_RL_363 ⟨rfl, rfl, (Nat.le_of_ble_eq_true rfl), (Nat.le_of_ble_eq_true rfl)⟩ rfl hl.1 rfl (Nat.le_of_ble_eq_true rfl) ⟨by omega, by omega⟩ dL_law_3102 (fun H locs G => ?_)
  refine lv_aload_n hx hb dL_law_3105 rfl (lv_at hl 2 rfl) ?_
  obtain ⟨r2, er2, hsp⟩ := hk_b hsp
  refine hk_callVi (As := []) (rest := [.int r1.1]) F9 G (by decide +kernel) hkc_9 rfl (kX12_violations l g (hk_EE 232 229) F n r1.2 221 r2 (by decide +kernel) er2) qv_RL_366 ⟨rfl, rfl, (Nat.le_of_ble_eq_true rfl), (Nat.le_of_ble_eq_true rfl)⟩ rfl hl.1 rfl (Nat.le_of_ble_eq_true rfl) ⟨by omega, by omega⟩ dL_law_3106 (fun H locs G => ?_)
  refine lv_icmp_eq (tgt := 3152) hx hb dL_law_3109 (by decide) (fun c3 => ?_) (fun c3 => ?_)
  · have hsp := hk_t c3 hsp
    obtain rfl := hk_s hsp
    exact W.widen (by omega) (by omega) (kk n H locs ls G (lv_sub hl [0, 1, 2, 3, 4] rfl))
  · have hsp := hk_f c3 hsp
    exact nomatch hsp
def mop_62 (F : Nat) (S : hk_S) (p1 p2 p3 p4 p5 : Int32) : Option hk_S :=
(mX11_writeTroughs (hk_EE 232 229) F S 0).bind (fun r1 => (mX12_writeTroughs (hk_EE 232 229) F r1.2 221).bind (fun r2 => if r1.1 = r2.1 then (some r2.2) else (none)))
set_option maxHeartbeats 4000000 in
set_option maxRecDepth 100000 in
theorem kop_62 (hst : l.stackTraces = false) (hC : hk_LC p s m meth c b L xs g) (F : Nat) {n : Nat} {S : hk_S} {H : Heap} {locs : List Loc} {ls : Array Slot} {cells slots : Nat} {i : Int32} (hi : ∀ k : Nat, k < 6 → vp_in (i + nI k) L) (hf : cells + 8 ≤ room_1.cells ∧ slots + 48 ≤ room_1.slots) (G : hk_GG g (hk_EE 232 229) S n s H locs) (hl : lv_has ls 9 [(0, .ref b), (1, .ref (g.1 + 0)), (2, .ref (g.1 + 221)), (3, .ref (g.1 + 231)), (4, .int i)]) (o : hk_S) (hsp : mop_62 F S (xs (i + 1).toNatClampNeg) (xs (i + 2).toNatClampNeg) (xs (i + 3).toNatClampNeg) (xs (i + 4).toNatClampNeg) (xs (i + 5).toNatClampNeg) = some o) (kk : ∀ (n1 : Nat) (H1 : Heap) (locs1 : List Loc) (ls1 : Array Slot), hk_GG g (hk_EE 232 229) o n1 s H1 locs1 → lv_has ls1 9 [(0, .ref b), (1, .ref (g.1 + 0)), (2, .ref (g.1 + 221)), (3, .ref (g.1 + 231)), (4, .int i)] → W p l e room_1 s m #[Value.ref b] below meth c H1 locs1 (cells + 8) (slots + 48) Q (F0 m 3152 ls1 [])) : W p l e room_1 s m #[Value.ref b] below meth c H locs cells slots Q (F0 m 3114 ls []) := by
  have hfc := hf.1
  have hfs := hf.2
  have F9 := hC.1
  have hx := F9.1
  have hb := F9.2.1
  generalize hp1 : xs (i + 1).toNatClampNeg = p1 at hsp
  generalize hp2 : xs (i + 2).toNatClampNeg = p2 at hsp
  generalize hp3 : xs (i + 3).toNatClampNeg = p3 at hsp
  generalize hp4 : xs (i + 4).toNatClampNeg = p4 at hsp
  generalize hp5 : xs (i + 5).toNatClampNeg = p5 at hsp
  unfold mop_62 at hsp
  refine lv_aload_n hx hb dL_law_3114 rfl (lv_at hl 1 rfl) ?_
  obtain ⟨r1, er1, hsp⟩ := hk_b hsp
  refine hk_callVi (As := []) (rest := []) F9 G (by decide +kernel) hkc_8 rfl (kX11_writeTroughs l g (hk_EE 232 229) F n S 0 r1 (by decide +kernel) er1) qv_RL_367 ⟨rfl, rfl, (Nat.le_of_ble_eq_true rfl), (Nat.le_of_ble_eq_true rfl)⟩ rfl hl.1 rfl (Nat.le_of_ble_eq_true rfl) ⟨by omega, by omega⟩ dL_law_3115 (fun H locs G => ?_)
  refine lv_aload_n hx hb dL_law_3118 rfl (lv_at hl 2 rfl) ?_
  obtain ⟨r2, er2, hsp⟩ := hk_b hsp
  refine hk_callVi (As := []) (rest := [.int r1.1]) F9 G (by decide +kernel) hkc_9 rfl (kX12_writeTroughs l g (hk_EE 232 229) F n r1.2 221 r2 (by decide +kernel) er2) qv_RL_370 ⟨rfl, rfl, (Nat.le_of_ble_eq_true rfl), (Nat.le_of_ble_eq_true rfl)⟩ rfl hl.1 rfl (Nat.le_of_ble_eq_true rfl) ⟨by omega, by omega⟩ dL_law_3119 (fun H locs G => ?_)
  refine lv_icmp_eq (tgt := 3152) hx hb dL_law_3122 (by decide) (fun c3 => ?_) (fun c3 => ?_)
  · have hsp := hk_t c3 hsp
    obtain rfl := hk_s hsp
    exact W.widen (by omega) (by omega) (kk n H locs ls G (lv_sub hl [0, 1, 2, 3, 4] rfl))
  · have hsp := hk_f c3 hsp
    exact nomatch hsp
def mop_63 (F : Nat) (S : hk_S) (p1 p2 p3 p4 p5 : Int32) : Option hk_S :=
(mX11_reportByte (hk_EE 232 229) F S 0 p1).bind (fun r1 => (mX12_reportByte (hk_EE 232 229) F r1.2 221 p1).bind (fun r2 => if r1.1 = r2.1 then (some r2.2) else (none)))
set_option maxHeartbeats 4000000 in
set_option maxRecDepth 100000 in
theorem kop_63 (hst : l.stackTraces = false) (hC : hk_LC p s m meth c b L xs g) (F : Nat) {n : Nat} {S : hk_S} {H : Heap} {locs : List Loc} {ls : Array Slot} {cells slots : Nat} {i : Int32} (hi : ∀ k : Nat, k < 6 → vp_in (i + nI k) L) (hf : cells + 8 ≤ room_1.cells ∧ slots + 48 ≤ room_1.slots) (G : hk_GG g (hk_EE 232 229) S n s H locs) (hl : lv_has ls 9 [(0, .ref b), (1, .ref (g.1 + 0)), (2, .ref (g.1 + 221)), (3, .ref (g.1 + 231)), (4, .int i)]) (o : hk_S) (hsp : mop_63 F S (xs (i + 1).toNatClampNeg) (xs (i + 2).toNatClampNeg) (xs (i + 3).toNatClampNeg) (xs (i + 4).toNatClampNeg) (xs (i + 5).toNatClampNeg) = some o) (kk : ∀ (n1 : Nat) (H1 : Heap) (locs1 : List Loc) (ls1 : Array Slot), hk_GG g (hk_EE 232 229) o n1 s H1 locs1 → lv_has ls1 9 [(0, .ref b), (1, .ref (g.1 + 0)), (2, .ref (g.1 + 221)), (3, .ref (g.1 + 231)), (4, .int i)] → W p l e room_1 s m #[Value.ref b] below meth c H1 locs1 (cells + 8) (slots + 48) Q (F0 m 3152 ls1 [])) : W p l e room_1 s m #[Value.ref b] below meth c H locs cells slots Q (F0 m 3127 ls []) := by
  have hfc := hf.1
  have hfs := hf.2
  have F9 := hC.1
  have hx := F9.1
  have hb := F9.2.1
  generalize hp1 : xs (i + 1).toNatClampNeg = p1 at hsp
  generalize hp2 : xs (i + 2).toNatClampNeg = p2 at hsp
  generalize hp3 : xs (i + 3).toNatClampNeg = p3 at hsp
  generalize hp4 : xs (i + 4).toNatClampNeg = p4 at hsp
  generalize hp5 : xs (i + 5).toNatClampNeg = p5 at hsp
  unfold mop_63 at hsp
  refine lv_aload_n hx hb dL_law_3127 rfl (lv_at hl 1 rfl) ?_
  refine lv_aload_n hx hb dL_law_3128 rfl (lv_at hl 0 rfl) ?_
  refine lv_iload hx hb dL_law_3129 (lv_at hl 4 rfl) ?_
  refine lv_iconst (v := 1) hx hb dL_law_3131 (by decide) ?_
  refine lv_iadd hx hb dL_law_3132 ?_
  refine va_sld hx hb hC.2.2.1 hC.2.2.2.1 hC.2.2.2.2 G.2.1 (hi 1 (by decide)) dL_law_3133 ?_
  rw [hp1]
  obtain ⟨r1, er1, hsp⟩ := hk_b hsp
  refine hk_callVi (As := [.int p1]) (rest := []) F9 G (by decide +kernel) hkc_8 rfl (kX11_reportByte l g (hk_EE 232 229) F n S 0 p1 r1 (by decide +kernel) er1) qv_RL_371 ⟨rfl, rfl, (Nat.le_of_ble_eq_true rfl), (Nat.le_of_ble_eq_true rfl)⟩ rfl hl.1 rfl (Nat.le_of_ble_eq_true rfl) ⟨by omega, by omega⟩ dL_law_3134 (fun H locs G => ?_)
  refine lv_aload_n hx hb dL_law_3137 rfl (lv_at hl 2 rfl) ?_
  refine lv_aload_n hx hb dL_law_3138 rfl (lv_at hl 0 rfl) ?_
  refine lv_iload hx hb dL_law_3139 (lv_at hl 4 rfl) ?_
  refine lv_iconst (v := 1) hx hb dL_law_3141 (by decide) ?_
  refine lv_iadd hx hb dL_law_3142 ?_
  refine va_sld hx hb hC.2.2.1 hC.2.2.2.1 hC.2.2.2.2 G.2.1 (hi 1 (by decide)) dL_law_3143 ?_
  rw [hp1]
  obtain ⟨r2, er2, hsp⟩ := hk_b hsp
  refine hk_callVi (As := [.int p1]) (rest := [.int r1.1]) F9 G (by decide +kernel) hkc_9 rfl (kX12_reportByte l g (hk_EE 232 229) F n r1.2 221 p1 r2 (by decide +kernel) er2) qv_RL_374 ⟨rfl, rfl, (Nat.le_of_ble_eq_true rfl), (Nat.le_of_ble_eq_true rfl)⟩ rfl hl.1 rfl (Nat.le_of_ble_eq_true rfl) ⟨by omega, by omega⟩ dL_law_3144 (fun H locs G => ?_)
  refine lv_icmp_eq (tgt := 3152) hx hb dL_law_3147 (by decide) (fun c3 => ?_) (fun c3 => ?_)
  · have hsp := hk_t c3 hsp
    obtain rfl := hk_s hsp
    exact W.widen (by omega) (by omega) (kk n H locs ls G (lv_sub hl [0, 1, 2, 3, 4] rfl))
  · have hsp := hk_f c3 hsp
    exact nomatch hsp
end HKLAW
