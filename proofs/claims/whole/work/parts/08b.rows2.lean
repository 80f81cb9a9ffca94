section HKS
variable {p : Program} {l : Launch} {e : Env} {R : Room} {s : State} {m : MethodId} {args : Array Value} {below : List Frame} {meth : Method} {c : Code} {H : Heap} {locs : List Loc} {cells slots : Nat} {Q : State → Prop}
variable {cc : ByteArray} {nL pc : Nat} {ls : Array Slot} {rest : List Value} {own : String} {g : hk_G} {E : hk_E} {S : hk_S} {n : Nat}
/-! text constants -/
theorem hk_strq {i : Nat} (h : i < 47) : ∃ q, hk_str[i]? = some q ∧ hk_ln i = q.2.2.2.length ∧ ∀ k, hk_ch i k = q.2.2.2.getD k.toNatClampNeg 0 := by
  have hL : hk_str.length = 47 := by decide +kernel
  refine ⟨hk_str[i]'(by omega), List.getElem?_eq_getElem _, ?_, fun k => ?_⟩
  · unfold hk_ln
    rw [List.getElem?_eq_getElem (by omega)]
    rfl
  · unfold hk_ch
    rw [List.getElem?_eq_getElem (by omega)]
    rfl
theorem hk_scoder (F : CallFix p m c cc nL s args hk_W own) (G : hk_GG g E S n s H locs) {i index : Nat} (hi : i < 47) (hl : Cond.fieldLink own index "java/lang/String" "coder" "B" ∈ hk_W) (hdg : decode cc pc = .ok (.getfield index, 3))
    (kk : W p l e R s m args below meth c H locs cells slots Q (F0 m (pc + 3) ls (.int 0 :: rest))) : W p l e R s m args below meth c H locs cells slots Q (F0 m pc ls (.ref (g.2.2.2 0 i) :: rest)) := by
  obtain ⟨q, hq, -⟩ := hk_strq hi
  exact vk_getf F.1 F.2.1 (G.2.2.1.1 i q hq).2.2.1 G.2.1 F.2.2.2.1 (F.2.2.2.2 _ hl) (fun _ h => h) hdg kk
theorem hk_svalue (F : CallFix p m c cc nL s args hk_W own) (G : hk_GG g E S n s H locs) {i index : Nat} (hi : i < 47) (hl : Cond.fieldLink own index "java/lang/String" "value" "[B" ∈ hk_W) (hdg : decode cc pc = .ok (.getfield index, 3))
    (kk : W p l e R s m args below meth c H locs cells slots Q (F0 m (pc + 3) ls (.ref (g.2.2.2 1 i) :: rest))) : W p l e R s m args below meth c H locs cells slots Q (F0 m pc ls (.ref (g.2.2.2 0 i) :: rest)) := by
  obtain ⟨q, hq, -⟩ := hk_strq hi
  exact vk_getf F.1 F.2.1 (G.2.2.1.1 i q hq).2.2.2.1 G.2.1 F.2.2.2.1 (F.2.2.2.2 _ hl) (fun _ h => h) hdg kk
theorem hk_salen (F : CallFix p m c cc nL s args hk_W own) (G : hk_GG g E S n s H locs) {i : Nat} (hi : i < 47) (hdg : decode cc pc = .ok (.arraylength, 1))
    (kk : W p l e R s m args below meth c H locs cells slots Q (F0 m (pc + 1) ls (.int (hk_len i) :: rest))) : W p l e R s m args below meth c H locs cells slots Q (F0 m pc ls (.ref (g.2.2.2 1 i) :: rest)) := by
  obtain ⟨q, hq, hn, -⟩ := hk_strq hi
  exact va_tlen F.1 F.2.1 (G.2.2.1.1 i q hq).2.2.2.2 G.2.1 (v := hk_len i) (by unfold hk_len; rw [hn]; rfl) hdg kk
theorem hk_sbald (F : CallFix p m c cc nL s args hk_W own) (G : hk_GG g E S n s H locs) {i : Nat} {k : Int32} (hi : i < 47) (hin : hk_ok k (hk_ln i)) (hdg : decode cc pc = .ok (.baload, 1))
    (kk : W p l e R s m args below meth c H locs cells slots Q (F0 m (pc + 1) ls (.int (hk_ch i k) :: rest))) : W p l e R s m args below meth c H locs cells slots Q (F0 m pc ls (.int k :: .ref (g.2.2.2 1 i) :: rest)) := by
  obtain ⟨q, hq, hn, hc⟩ := hk_strq hi
  rw [hn] at hin
  exact va_tb F.1 F.2.1 (G.2.2.1.1 i q hq).2.2.2.2 G.2.1 hin (v := .int (hk_ch i k)) (by rw [hc]) hdg kk
theorem hk_srecv (G : hk_GG g E S n s H locs) {i : Nat} (hi : i < 47) : ∃ cell : Cell, H[g.2.2.2 0 i]? = some cell ∧ cell.vm.isStatics = false ∧ s.vm.findClass "java/lang/String" = some cell.cls := by
  obtain ⟨q, hq, -⟩ := hk_strq hi
  obtain ⟨cell, h1, h2, h3, -⟩ := ((G.2.2.1.1 i q hq).2.1).kept G.2.1.2.1
  exact ⟨cell, h1, h2, h3⟩
/-- a call on an object that isn't ours -/
theorem hk_callX (F : CallFix p m c cc nL s args hk_W own) (G : hk_GG g E S n s H locs) {b0 index np maxL : Nat} {C : String} {y : MethodName} {b : ByteArray} {ret : Option FieldType} {rm : Room} {v : Value} {E1 : hk_E} {S1 : hk_S} {n1 : Nat} {As st : List Value} (hrecv : ∃ cell : Cell, H[b0]? = some cell ∧ cell.vm.isStatics = false ∧ s.vm.findClass C = some cell.cls) (hyC : y.cls = C)
    (hM : Met l y (hk_ws y b maxL ret) rm (hk_Pc g E S n (.ref b0 :: As)) (hk_Q g E1 S1 n1 (some v)) 0 0 (hk_A g)) (hy : hk_yV own index y b maxL ret np) (hrm : rm.cells = 0 ∧ rm.slots = 0 ∧ rm.frames + 1 ≤ R.frames ∧ 8 + (maxL + 11) + rm.locals ≤ R.locals) (hn : As.length = np) (hL : ls.size = nL) (hst : st = As.reverse ++ .ref b0 :: rest) (hrest : (rest.map fun v => v.category).sum ≤ 8) (hf : cells ≤ R.cells ∧ slots ≤ R.slots) (hdg : decode cc pc = .ok (.invokevirtual index, 3))
    (kk : ∀ (H1 : Heap) (locs1 : List Loc), hk_GG g E1 S1 n1 s H1 locs1 → W p l e R s m args below meth c H1 locs1 cells slots Q (F0 m (pc + 3) ls (v :: rest))) : W p l e R s m args below meth c H locs cells slots Q (F0 m pc ls st) := by
  obtain ⟨w1, w2, w3, w4, w5, d1, d2, d3⟩ := hy
  subst hyC
  refine hk_call (va_runV (bytes := b) (maxL := maxL) (ret := ret) (As := As) (rest := rest) F hM ⟨?_, F.2.2.2.2 _ w3, F.2.2.2.2 _ w4⟩ ⟨hk_blind, hrecv, hk_pre G _⟩ rfl hn hL hst (lv_room hrest) hdg hf) G kk
  exact callB_of np F.2.2.2.2 (hk_goodws w1) rfl hrm.1 hrm.2.1 (F.2.2.2.2 _ w5) (F.2.2.2.2 _ w2) ⟨d1, d2, d3⟩ hrm.2.2
/-- a static that is a number -/
theorem hk_compact (F : CallFix p m c cc nL s args hk_W own) (G : hk_GG g E S n s H locs) {index : Nat} (hl : Cond.fieldLink own index "java/lang/String" "COMPACT_STRINGS" "Z" ∈ hk_W) (hdg : decode cc pc = .ok (.getstatic index, 3))
    (kk : W p l e R s m args below meth c H locs cells slots Q (F0 m (pc + 3) ls (.int 1 :: rest))) : W p l e R s m args below meth c H locs cells slots Q (F0 m pc ls rest) :=
  va_gets F.1 F.2.1 G.2.2.1.2.2.2.2.2.2.1.1 G.2.1 F.2.2.2.1 (F.2.2.2.2 _ hl) (fun _ h => h) hdg kk
theorem hk_sioobe (F : CallFix p m c cc nL s args hk_W own) (G : hk_GG g E S n s H locs) {index : Nat} (hl : Cond.fieldLink own index "jdk/internal/util/Preconditions" "SIOOBE_FORMATTER" "Ljava/util/function/BiFunction;" ∈ hk_W) (hdg : decode cc pc = .ok (.getstatic index, 3))
    (kk : ∀ w : Value, w.category = 1 → (w = .null ∨ ∃ t, w = .ref t) → W p l e R s m args below meth c H locs cells slots Q (F0 m (pc + 3) ls (w :: rest))) : W p l e R s m args below meth c H locs cells slots Q (F0 m pc ls rest) := by
  rcases G.2.2.1.2.2.2.2.2.2.1.2.1.1 with h | ⟨t, h⟩
  · exact va_gets F.1 F.2.1 h G.2.1 F.2.2.2.1 (F.2.2.2.2 _ hl) (fun _ h => h) hdg (kk _ rfl (Or.inl rfl))
  · exact va_gets F.1 F.2.1 h G.2.1 F.2.2.2.1 (F.2.2.2.2 _ hl) (fun _ h => h) hdg (kk _ rfl (Or.inr ⟨t, rfl⟩))
/-! constants of enums -/
theorem hk_en_ref {ad : Nat → Nat} {x : Int32} (h : ¬ x < 0) : hk_en ad x = .ref (ad x.toNatClampNeg) := by
  unfold hk_en
  rw [if_neg h]
theorem hk_en_null {ad : Nat → Nat} {x : Int32} (h : x < 0) : hk_en ad x = .null := by
  unfold hk_en
  rw [if_pos h]
theorem hk_en_cat (ad : Nat → Nat) (x : Int32) : (hk_en ad x).category = 1 := by
  unfold hk_en
  by_cases h : x < 0
  · rw [if_pos h]; rfl
  · rw [if_neg h]; rfl
theorem hk_en_or (ad : Nat → Nat) (x : Int32) : hk_en ad x = .null ∨ ∃ a, hk_en ad x = .ref a := by
  by_cases h : x < 0
  · exact Or.inl (hk_en_null h)
  · exact Or.inr ⟨_, hk_en_ref h⟩
theorem hk_aloadE_n (hexec : p.tables.exec = Jvm.exec) (hb : c.code = cc) {k : Fin 4} {i : Nat} {ad : Nat → Nat} {x : Int32} (hdg : decode cc pc = .ok (.aload_n k, 1)) (hi : (k : Nat) = i) (hl : ls[i]? = some (.val (hk_en ad x)))
    (kk : W p l e R s m args below meth c H locs cells slots Q (F0 m (pc + 1) ls (hk_en ad x :: rest))) : W p l e R s m args below meth c H locs cells slots Q (F0 m pc ls rest) := by
  by_cases h : x < 0
  · rw [hk_en_null h] at hl kk
    exact lv_aload_nN hexec hb hdg hi hl kk
  · rw [hk_en_ref h] at hl kk
    exact lv_aload_n hexec hb hdg hi hl kk
theorem hk_pushE {w w' : Value} (h : w' = w) (kk : W p l e R s m args below meth c H locs cells slots Q (F0 m pc ls (w :: rest))) : W p l e R s m args below meth c H locs cells slots Q (F0 m pc ls (w' :: rest)) := by
  subst h
  exact kk
/-- getstatic of a constant -/
theorem hk_getTok (F : CallFix p m c cc nL s args hk_W own) (G : hk_GG g E S n s H locs) (i : Nat) {index : Nat} {x : Int32} (hi : i < 7) (hx : hk_en (g.2.2.2 2) x = .ref (g.2.2.2 2 i)) (hl : Cond.fieldLink own index "WitheringLoft$Token" (hk_tok.getD i "") "LWitheringLoft$Token;" ∈ hk_W) (hdg : decode cc pc = .ok (.getstatic index, 3))
    (kk : W p l e R s m args below meth c H locs cells slots Q (F0 m (pc + 3) ls (hk_en (g.2.2.2 2) x :: rest))) : W p l e R s m args below meth c H locs cells slots Q (F0 m pc ls rest) := by
  rw [hx] at kk
  exact va_gets F.1 F.2.1 (G.2.2.1.2.1.1 i hi).1 G.2.1 F.2.2.2.1 (F.2.2.2.2 _ hl) (fun _ h => h) hdg kk
theorem hk_getCom (F : CallFix p m c cc nL s args hk_W own) (G : hk_GG g E S n s H locs) (i : Nat) {index : Nat} {x : Int32} (hi : i < 15) (hx : hk_en (g.2.2.2 3) x = .ref (g.2.2.2 3 i)) (hl : Cond.fieldLink own index "WitheringLoft$Command" (hk_com.getD i "") "LWitheringLoft$Command;" ∈ hk_W) (hdg : decode cc pc = .ok (.getstatic index, 3))
    (kk : W p l e R s m args below meth c H locs cells slots Q (F0 m (pc + 3) ls (hk_en (g.2.2.2 3) x :: rest))) : W p l e R s m args below meth c H locs cells slots Q (F0 m pc ls rest) := by
  rw [hx] at kk
  exact va_gets F.1 F.2.1 (G.2.2.1.2.2.1.1 i hi).1 G.2.1 F.2.2.2.1 (F.2.2.2.2 _ hl) (fun _ h => h) hdg kk
/-- a constant, or none, of N -/
abbrev hk_ec (x : Int32) (N : Nat) : Prop := (x = -1) ∨ ¬ (x < 0 ∨ N ≤ x.toNatClampNeg)
theorem hk_en_inj {ad : Nat → Nat} {N : Nat} (inj : ∀ i j, i < N → j < N → ad i = ad j → i = j) {x y : Int32} (hx : hk_ec x N) (hy : hk_ec y N) : (hk_en ad x = hk_en ad y) ↔ x = y := by
  refine ⟨fun h => ?_, fun h => by rw [h]⟩
  have key : ∀ z : Int32, ¬ (z < 0 ∨ N ≤ z.toNatClampNeg) → ¬ z < 0 ∧ z.toNatClampNeg < N := fun z hz => ⟨fun q => hz (Or.inl q), Nat.not_le.mp fun q => hz (Or.inr q)⟩
  rcases hx with hx | hx <;> rcases hy with hy | hy
  · rw [hx, hy]
  · subst hx
    rw [hk_en_null (by decide), hk_en_ref (key y hy).1] at h
    cases h
  · subst hy
    rw [hk_en_null (x := -1) (by decide), hk_en_ref (key x hx).1] at h
    cases h
  · obtain ⟨a1, a2⟩ := key x hx
    obtain ⟨b1, b2⟩ := key y hy
    rw [hk_en_ref a1, hk_en_ref b1] at h
    have h2 := inj _ _ a2 b2 (Value.ref.inj h)
    obtain ⟨j, hj, rfl⟩ := nI_of a1
    obtain ⟨k, hk, rfl⟩ := nI_of b1
    rw [nI_clamp hj, nI_clamp hk] at h2
    rw [h2]
theorem hk_en_rf (ad : Nat → Nat) (x : Int32) : hk_en ad x = va_rf (if x < 0 then none else some (ad x.toNatClampNeg)) := by
  unfold hk_en
  by_cases h : x < 0
  · rw [if_pos h, if_pos h]; rfl
  · rw [if_neg h, if_neg h]; rfl
theorem hk_rf_inj {a b : Option Nat} (h : va_rf a = va_rf b) : a = b := by
  cases a with
  | none =>
    cases b with
    | none => rfl
    | some y => cases h
  | some x =>
    cases b with
    | none => cases h
    | some y => exact congrArg some (Value.ref.inj h)
theorem hk_acmp_ne (hexec : p.tables.exec = Jvm.exec) (hb : c.code = cc) {ad : Nat → Nat} {N : Nat} (inj : ∀ i j, i < N → j < N → ad i = ad j → i = j) {x y : Int32} (hx : hk_ec x N) (hy : hk_ec y N) {off : Int} {tgt : Nat} (hdg : decode cc pc = .ok (.if_acmp .ne off, 3)) (ht : (pc : Int) + off = (tgt : Int))
    (kt : ¬ x = y → W p l e R s m args below meth c H locs cells slots Q (F0 m tgt ls rest)) (kf : x = y → W p l e R s m args below meth c H locs cells slots Q (F0 m (pc + 3) ls rest)) : W p l e R s m args below meth c H locs cells slots Q (F0 m pc ls (hk_en ad y :: hk_en ad x :: rest)) := by
  have hj := hk_en_inj inj hx hy
  rw [hk_en_rf ad x, hk_en_rf ad y] at hj ⊢
  exact lv_acmp_ne hexec hb hdg ht (fun q => kt (fun z => q (hk_rf_inj (hj.mpr z)))) (fun q => kf (hj.mp (by rw [q])))
theorem hk_acmp_eq (hexec : p.tables.exec = Jvm.exec) (hb : c.code = cc) {ad : Nat → Nat} {N : Nat} (inj : ∀ i j, i < N → j < N → ad i = ad j → i = j) {x y : Int32} (hx : hk_ec x N) (hy : hk_ec y N) {off : Int} {tgt : Nat} (hdg : decode cc pc = .ok (.if_acmp .eq off, 3)) (ht : (pc : Int) + off = (tgt : Int))
    (kt : x = y → W p l e R s m args below meth c H locs cells slots Q (F0 m tgt ls rest)) (kf : ¬ x = y → W p l e R s m args below meth c H locs cells slots Q (F0 m (pc + 3) ls rest)) : W p l e R s m args below meth c H locs cells slots Q (F0 m pc ls (hk_en ad y :: hk_en ad x :: rest)) := by
  have hj := hk_en_inj inj hx hy
  rw [hk_en_rf ad x, hk_en_rf ad y] at hj ⊢
  exact lv_acmp_eq hexec hb hdg ht (fun q => kt (hj.mp (by rw [q]))) (fun q => kf (fun z => q (hk_rf_inj (hj.mpr z))))
theorem hk_ifnonnull (hexec : p.tables.exec = Jvm.exec) (hb : c.code = cc) {ad : Nat → Nat} {x : Int32} {off : Int} {tgt : Nat} (hdg : decode cc pc = .ok (.ifnonnull off, 3)) (ht : (pc : Int) + off = (tgt : Int))
    (kt : ¬ x < 0 → W p l e R s m args below meth c H locs cells slots Q (F0 m tgt ls rest)) (kf : x < 0 → W p l e R s m args below meth c H locs cells slots Q (F0 m (pc + 3) ls rest)) : W p l e R s m args below meth c H locs cells slots Q (F0 m pc ls (hk_en ad x :: rest)) := by
  by_cases h : x < 0
  · rw [hk_en_null h]
    exact lv_ifnonnullN hexec hb hdg (kf h)
  · rw [hk_en_ref h]
    exact lv_ifnonnull hexec hb hdg ht (kt h)
theorem hk_putE (F : CallFix p m c cc nL s args hk_W own) (G : hk_GG g E S n s H locs) {a ci N k index : Nat} {C : String} {T : u_T} {ty : Nat → FieldType} {v : Int32} {nm : String} (ha : E.2.1 a = ci + 1) (hc : hk_cls ci C T N ty) (hk : k < N) (hl : Cond.fieldLink own index (T k).1 (T k).2.1 (T k).2.2.1 ∈ hk_W) (hs : hk_sort ci k = 2) (hfin : (T k).2.2.2 = false) (hd : parseFieldDescriptor (T k).2.2.1 = some (.object nm)) (hdg : decode cc pc = .ok (.putfield index, 3))
    (kk : ∀ (H1 : Heap) (locs1 : List Loc), hk_GG g E (hk_up S a k v) n s H1 locs1 → W p l e R s m args below meth c H1 locs1 cells slots Q (F0 m (pc + 3) ls rest)) : W p l e R s m args below meth c H locs cells slots Q (F0 m pc ls (hk_en (g.2.2.2 2) v :: .ref (g.1 + a) :: rest)) := by
  refine hk_put F G ha hc hk hl hfin hd ?_ ?_ (hk_flds_put (by rw [hc.2.2.1]; exact hk) (by unfold hk_fld; rw [hs, pk_us]; rfl)) hdg kk
  · by_cases h : v < 0
    · rw [hk_en_null h]; rfl
    · rw [hk_en_ref h]; rfl
  · by_cases h : v < 0
    · rw [hk_en_null h]; rfl
    · rw [hk_en_ref h]; rfl
/-- COMMANDS[i], its word; the switch's table -/
theorem hk_getCOM (F : CallFix p m c cc nL s args hk_W own) (G : hk_GG g E S n s H locs) {index : Nat} (hl : Cond.fieldLink own index "WitheringLoft$Script" "COMMANDS" "[LWitheringLoft$Command;" ∈ hk_W) (hdg : decode cc pc = .ok (.getstatic index, 3))
    (kk : W p l e R s m args below meth c H locs cells slots Q (F0 m (pc + 3) ls (.ref (g.2.2.2 4 0) :: rest))) : W p l e R s m args below meth c H locs cells slots Q (F0 m pc ls rest) :=
  va_gets F.1 F.2.1 G.2.2.1.2.2.2.2.1.1 G.2.1 F.2.2.2.1 (F.2.2.2.2 _ hl) (fun _ h => h) hdg kk
theorem hk_lenCOM (F : CallFix p m c cc nL s args hk_W own) (G : hk_GG g E S n s H locs) (hdg : decode cc pc = .ok (.arraylength, 1))
    (kk : W p l e R s m args below meth c H locs cells slots Q (F0 m (pc + 1) ls (.int 15 :: rest))) : W p l e R s m args below meth c H locs cells slots Q (F0 m pc ls (.ref (g.2.2.2 4 0) :: rest)) :=
  va_tlen F.1 F.2.1 G.2.2.1.2.2.2.2.1.2 G.2.1 (v := 15) (by decide) hdg kk
theorem hk_ldCOM (F : CallFix p m c cc nL s args hk_W own) (G : hk_GG g E S n s H locs) {i : Int32} (hin : hk_ok i 15) (hdg : decode cc pc = .ok (.aaload, 1))
    (kk : W p l e R s m args below meth c H locs cells slots Q (F0 m (pc + 1) ls (hk_en (g.2.2.2 3) i :: rest))) : W p l e R s m args below meth c H locs cells slots Q (F0 m pc ls (.int i :: .ref (g.2.2.2 4 0) :: rest)) :=
  vb_tq F.1 F.2.1 G.2.2.1.2.2.2.2.1.2 G.2.1 hin (v := hk_en (g.2.2.2 3) i) (hk_en_ref (fun q => hin (Or.inl q))).symm hdg kk
theorem hk_getSM (F : CallFix p m c cc nL s args hk_W own) (G : hk_GG g E S n s H locs) {index : Nat} (hl : Cond.fieldLink own index "WitheringLoft$1" "$SwitchMap$WitheringLoft$Command" "[I" ∈ hk_W) (hdg : decode cc pc = .ok (.getstatic index, 3))
    (kk : W p l e R s m args below meth c H locs cells slots Q (F0 m (pc + 3) ls (.ref (g.2.2.2 4 1) :: rest))) : W p l e R s m args below meth c H locs cells slots Q (F0 m pc ls rest) :=
  va_gets F.1 F.2.1 G.2.2.1.2.2.2.2.2.1.1 G.2.1 F.2.2.2.1 (F.2.2.2.2 _ hl) (fun _ h => h) hdg kk
theorem hk_ldSM (F : CallFix p m c cc nL s args hk_W own) (G : hk_GG g E S n s H locs) {i : Int32} (hin : hk_ok i 15) (hdg : decode cc pc = .ok (.iaload, 1))
    (kk : W p l e R s m args below meth c H locs cells slots Q (F0 m (pc + 1) ls (.int (hk_sm.getD i.toNatClampNeg 0) :: rest))) : W p l e R s m args below meth c H locs cells slots Q (F0 m pc ls (.int i :: .ref (g.2.2.2 4 1) :: rest)) :=
  va_ti F.1 F.2.1 G.2.2.1.2.2.2.2.2.1.2 G.2.1 hin (v := .int (hk_sm.getD i.toNatClampNeg 0)) rfl hdg kk
theorem hk_word (F : CallFix p m c cc nL s args hk_W own) (G : hk_GG g E S n s H locs) {i : Int32} {index : Nat} (hin : hk_ok i 15) (hl : Cond.fieldLink own index "WitheringLoft$Command" "word" "Ljava/lang/String;" ∈ hk_W) (hdg : decode cc pc = .ok (.getfield index, 3))
    (kk : W p l e R s m args below meth c H locs cells slots Q (F0 m (pc + 3) ls (.ref (g.2.2.2 0 (hk_wd.getD i.toNatClampNeg 0)) :: rest))) : W p l e R s m args below meth c H locs cells slots Q (F0 m pc ls (hk_en (g.2.2.2 3) i :: rest)) := by
  rw [hk_en_ref (fun q => hin (Or.inl q))]
  exact vk_getf F.1 F.2.1 (G.2.2.1.2.2.2.1 i.toNatClampNeg (Nat.not_le.mp fun q => hin (Or.inr q))) G.2.1 F.2.2.2.1 (F.2.2.2.2 _ hl) (fun _ h => h) hdg kk
theorem hk_wd_lt (k : Nat) : hk_wd.getD k 0 < 47 := by
  by_cases h : k < 15
  · exact (show ∀ k, k < 15 → hk_wd.getD k 0 < 47 by decide +kernel) k h
  · rw [List.getD_eq_getElem?_getD, List.getElem?_eq_none (show hk_wd.length ≤ k by have : hk_wd.length = 15 := by decide +kernel
                                                                                    omega)]
    decide
/-- a static call of a nest mate's private method -/
theorem hk_callSNi (F : CallFix p m c cc nL s args hk_W own) (G : hk_GG g E S n s H locs) {index np maxL : Nat} {y : MethodName} {host : String} {b : ByteArray} {ret : Option FieldType} {rm : Room} {v : Int32} {E1 : hk_E} {S1 : hk_S} {n1 : Nat} {As st : List Value}
    (hM : Met l y (hk_ws y b maxL ret) rm (hk_Pc g E S n As) (hk_Q g E1 S1 n1 (some (.int v))) 0 0 (hk_A g)) (hy : (own, index, y, host) ∈ hk_nest ∧ Cond.code y b maxL ret ∈ hk_W ∧ Cond.static y ∈ hk_W ∧ Cond.initialized y.cls ∈ hk_W ∧ (y.cls ≠ "java/lang/invoke/MethodHandle" ∧ y.cls ≠ "java/lang/invoke/VarHandle" ∧ (parseMethodDescriptor y.desc).map (fun d => d.parameters.length) = some np)) (hrm : rm.cells = 0 ∧ rm.slots = 0 ∧ rm.frames + 1 ≤ R.frames ∧ 8 + (maxL + 11) + rm.locals ≤ R.locals) (hn : As.length = np) (hL : ls.size = nL) (hst : st = As.reverse ++ rest) (hrest : (rest.map fun v => v.category).sum ≤ 8) (hf : cells ≤ R.cells ∧ slots ≤ R.slots) (hdg : decode cc pc = .ok (.invokestatic index, 3))
    (kk : ∀ (H1 : Heap) (locs1 : List Loc), hk_GG g E1 S1 n1 s H1 locs1 → W p l e R s m args below meth c H1 locs1 cells slots Q (F0 m (pc + 3) ls (.int v :: rest))) : W p l e R s m args below meth c H locs cells slots Q (F0 m pc ls st) := by
  obtain ⟨w0, w1, w3, w5, d⟩ := hy
  have hnest := G.2.2.1.2.2.2.2.2.2.2.1 _ w0
  exact hk_call (va_runSN (As := As) (rest := rest) F hM ⟨va_cnB (host := host) np F.2.2.2.2 (hk_goodws w1) rfl hrm.1 hrm.2.1 hnest (F.2.2.2.2 _ w5) d hrm.2.2, F.2.2.2.2 _ w3, trivial⟩ ⟨hk_blind, hk_pre G _⟩ rfl hn hL hst (lv_room hrest) hdg hf) G kk
end HKS
