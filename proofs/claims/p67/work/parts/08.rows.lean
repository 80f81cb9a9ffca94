/-- what is ours: all from the base address on -/
abbrev hk_A (g : hk_G) : Nat → Prop := fun q => g.1 ≤ q
def hk_nest : List (String × Nat × MethodName × String) := [("WitheringLoft$Loft", 11, ⟨"WitheringLoft$Air", "<init>", "()V"⟩, "WitheringLoft"), ("WitheringLoft$Loft", 30, ⟨"WitheringLoft$Trough", "<init>", "()V"⟩, "WitheringLoft"), ("WitheringLoft$Loft", 31, ⟨"WitheringLoft$Probe", "<init>", "()V"⟩, "WitheringLoft"), ("WitheringLoft", 28, ⟨"WitheringLoft$Script", "<init>", "()V"⟩, "WitheringLoft"), ("WitheringLoft$Script", 11, ⟨"WitheringLoft$Input", "<init>", "()V"⟩, "WitheringLoft"), ("WitheringLoft", 35, ⟨"WitheringLoft$Report", "<init>", "()V"⟩, "WitheringLoft"), ("WitheringLoft", 42, ⟨"WitheringLoft$Trough", "<init>", "()V"⟩, "WitheringLoft"), ("WitheringLoft$Trough", 66, ⟨"WitheringLoft", "notBelowLowest", "(I)I"⟩, "WitheringLoft")]
/-- the constants, as they stand in a heap -/
def hk_Z (g : hk_G) (U : State) (H : Heap) : Prop := va_Z "WitheringLoft$Token" "END" "LWitheringLoft$Token;" (.ref (g.2.2.2 2 5)) (hk_A g) U H ∧ (∀ q ∈ hk_nest, va_Nw (.methodLinkNest q.1 q.2.1 q.2.2.1 q.2.2.2) U) ∧ va_AO "WitheringLoft$Loft" U ∧ va_AO "WitheringLoft$Probe" U ∧ va_AO "WitheringLoft$Trough" U
theorem hk_Z.kept {g : hk_G} {U : State} {H H1 : Heap} (h : hk_Z g U H) (hq : ∀ a : Nat, a < H.size → ¬ hk_A g a → H1[a]? = H[a]?) : hk_Z g U H1 := ⟨h.1.kept hq, h.2⟩
theorem hk_Z.warm {g : hk_G} {s U : State} {H : Heap} (hW : s.WarmedH U.vm) (h : hk_Z g s H) : hk_Z g U H := by
  obtain ⟨h1, n1, n5, n6, n7⟩ := h
  have hvm : s.vm.Alike U.vm := hW.alike
  exact ⟨h1.moved hvm, fun q hq => (n1 q hq).warmM hW, n5.moved hvm, n6.moved hvm, n7.moved hvm⟩
theorem hk_Z.same {g : hk_G} {u U : State} {H : Heap} (hv : U.vm = u.vm) (h : hk_Z g u H) : hk_Z g U H := by
  obtain ⟨h1, n1, n5, n6, n7⟩ := h
  have hvm : u.vm.Alike U.vm := by rw [hv]; exact Vm.Alike.refl _
  exact ⟨h1.moved hvm, fun q hq => va_Nw.same rfl hv.symm (n1 q hq), n5.moved hvm, n6.moved hvm, n7.moved hvm⟩
/-- the heap as numbers, its size, the tables -/
def hk_C (g : hk_G) (E : hk_E) (S : hk_S) (n : Nat) (U : State) (H : Heap) : Prop := hk_H g E S H ∧ H.size = n ∧ va_K g.2.1 vwCl (hk_tys g) U
/-- the same, within a method that began at s -/
def hk_GG (g : hk_G) (E : hk_E) (S : hk_S) (n : Nat) (s : State) (H : Heap) (locs : List Loc) : Prop := hk_C g E S n s H ∧ va_S (hk_A g) s.heap H locs ∧ hk_Z g s s.heap ∧ g.1 ≤ s.heap.size
def hk_Pc (g : hk_G) (E : hk_E) (S : hk_S) (n : Nat) (av : List Value) : Array Value → State → Prop := va_Pc av (fun U => hk_C g E S n U U.heap ∧ hk_Z g U U.heap ∧ g.1 ≤ U.heap.size)
def hk_Q (g : hk_G) (E : hk_E) (S : hk_S) (n : Nat) (v : Option Value) : Array Value → State → Outcome → State → Prop := fun _ st oc t => oc = .returned v ∧ hk_C g E S n t t.heap ∧ va_F (hk_A g) st t
theorem hk_blind {g : hk_G} {E : hk_E} {S : hk_S} {n : Nat} {av : List Value} : FrameBlind (hk_Pc g E S n av) := by
  intro a U f mk h
  obtain ⟨h0, ⟨h1, h2, h3⟩, h4, h5⟩ := h
  exact ⟨h0, ⟨h1, h2, va_K.moved (u := U) (U := U.calling f mk a) (Vm.Alike.refl U.vm) h3⟩, hk_Z.same (u := U) (U := U.calling f mk a) rfl h4, h5⟩
/-- a method begins -/
theorem hk_begin {g : hk_G} {E : hk_E} {S : hk_S} {n : Nat} {av : List Value} {args : Array Value} {s : State} (h : hk_Pc g E S n av args s) : args = av.toArray ∧ hk_GG g E S n s s.heap [] := ⟨h.1, h.2.1, va_S.rf, h.2.2⟩
/-- a class of ours: its place, name, fields -/
def hk_cls (ci : Nat) (C : String) (T : u_T) (N : Nat) (ty : Nat → FieldType) : Prop := ci < 10 ∧ vwCl[ci]? = some (C, T, N) ∧ hk_nf ci = N ∧ (∀ w ∈ u_ws C T N, w ∈ hk_W) ∧ (∀ k, k < N → parseFieldDescriptor (T k).2.2.1 = some (ty k)) ∧ (∀ a, a < N → ∀ b, b < N → a ≠ b → (T a).2.1 ≠ (T b).2.1)
theorem hk_cell_o {g : hk_G} {ci ln : Nat} {I : Nat → Int32} {J : Nat → Option Nat} (h : ci < 10) : hk_cell g (ci + 1) ln I J = .inr (ci, hk_flds g ci I J) := by
  unfold hk_cell
  rw [if_pos (by omega)]
  rfl
theorem hk_cell_i {g : hk_G} {t ln : Nat} {I : Nat → Int32} {J : Nat → Option Nat} (h : t < 3) : hk_cell g (t + 11) ln I J = .inl (g.2.2.1 t, (ln, .inl I)) := by
  unfold hk_cell
  rw [if_neg (by omega), if_pos (by omega), Nat.add_sub_cancel]
theorem hk_cell_q {g : hk_G} {t ln : Nat} {I : Nat → Int32} {J : Nat → Option Nat} (h : t < 3) : hk_cell g (t + 14) ln I J = .inl (g.2.2.1 (t + 3), (ln, .inr (.inr (.inr (.inr (fun j => (J j).map (fun x => g.1 + x))))))) := by
  unfold hk_cell
  rw [if_neg (by omega), if_neg (by omega), if_pos (by omega), show t + 14 - 11 = t + 3 by omega]
section HKR
variable {p : Program} {l : Launch} {e : Env} {R : Room} {s : State} {m : MethodId} {args : Array Value} {below : List Frame} {meth : Method} {c : Code} {H : Heap} {locs : List Loc} {cells slots : Nat} {Q : State → Prop}
variable {cc : ByteArray} {nL pc : Nat} {ls : Array Slot} {rest : List Value} {own : String} {g : hk_G} {E : hk_E} {S : hk_S} {n : Nat}
/-- getfield, any sort -/
theorem hk_get (F : CallFix p m c cc nL s args hk_W own) (G : hk_GG g E S n s H locs) {a ci N k index : Nat} {C : String} {T : u_T} {ty : Nat → FieldType} {v : Value} (ha : E.2.1 a = ci + 1) (hc : hk_cls ci C T N ty) (hk : k < N) (hl : Cond.fieldLink own index (T k).1 (T k).2.1 (T k).2.2.1 ∈ hk_W) (hv : hk_fld g ci k (S a) (E.2.2.2 a) = v) (hdg : decode cc pc = .ok (.getfield index, 3))
    (kk : W p l e R s m args below meth c H locs cells slots Q (F0 m (pc + 3) ls (v :: rest))) : W p l e R s m args below meth c H locs cells slots Q (F0 m pc ls (.ref (g.1 + a) :: rest)) := by
  obtain ⟨hx, hb, hml, hown, hts⟩ := F
  obtain ⟨c1, c2, c3, c4, c5, c6⟩ := hc
  have hP := G.1.1.one ha (Nat.succ_ne_zero ci)
  rw [hk_cell_o c1] at hP
  exact va_get hx hb hts c4 hown G.1.2.2 hP 0 rfl c2 k hk (hts _ hl) (fun _ h9 => h9) (by rw [hk_flds_get (by rw [c3]; exact hk), hv]) hdg kk
theorem hk_getI (F : CallFix p m c cc nL s args hk_W own) (G : hk_GG g E S n s H locs) {a ci N k index : Nat} {C : String} {T : u_T} {ty : Nat → FieldType} (ha : E.2.1 a = ci + 1) (hc : hk_cls ci C T N ty) (hk : k < N) (hl : Cond.fieldLink own index (T k).1 (T k).2.1 (T k).2.2.1 ∈ hk_W) (hs : hk_sort ci k = 0) (hdg : decode cc pc = .ok (.getfield index, 3))
    (kk : W p l e R s m args below meth c H locs cells slots Q (F0 m (pc + 3) ls (.int (S a k) :: rest))) : W p l e R s m args below meth c H locs cells slots Q (F0 m pc ls (.ref (g.1 + a) :: rest)) :=
  hk_get F G ha hc hk hl (by unfold hk_fld; rw [hs]; rfl) hdg kk
theorem hk_getR (F : CallFix p m c cc nL s args hk_W own) (G : hk_GG g E S n s H locs) {a ci N k index r : Nat} {C : String} {T : u_T} {ty : Nat → FieldType} (ha : E.2.1 a = ci + 1) (hc : hk_cls ci C T N ty) (hk : k < N) (hl : Cond.fieldLink own index (T k).1 (T k).2.1 (T k).2.2.1 ∈ hk_W) (hs : hk_sort ci k = 1) (hr : E.2.2.2 a k = some r) (hdg : decode cc pc = .ok (.getfield index, 3))
    (kk : W p l e R s m args below meth c H locs cells slots Q (F0 m (pc + 3) ls (.ref (g.1 + r) :: rest))) : W p l e R s m args below meth c H locs cells slots Q (F0 m pc ls (.ref (g.1 + a) :: rest)) :=
  hk_get F G ha hc hk hl (by unfold hk_fld; rw [hs, hr]; rfl) hdg kk
/-- putfield, any sort; the new row is I -/
theorem hk_put (F : CallFix p m c cc nL s args hk_W own) (G : hk_GG g E S n s H locs) {a ci N k index : Nat} {C : String} {T : u_T} {ty : Nat → FieldType} {v : Value} {I : Nat → Int32} {ft : FieldType} (ha : E.2.1 a = ci + 1) (hc : hk_cls ci C T N ty) (hk : k < N) (hl : Cond.fieldLink own index (T k).1 (T k).2.1 (T k).2.2.1 ∈ hk_W) (hfin : (T k).2.2.2 = false) (hd : parseFieldDescriptor (T k).2.2.1 = some ft) (hn : narrow ft v = v) (hfit : fits ft v = true) (hv : (hk_flds g ci (S a) (E.2.2.2 a)).set k v = hk_flds g ci I (E.2.2.2 a)) (hdg : decode cc pc = .ok (.putfield index, 3))
    (kk : ∀ (H1 : Heap) (locs1 : List Loc), hk_GG g E (va_up S a I) n s H1 locs1 → W p l e R s m args below meth c H1 locs1 cells slots Q (F0 m (pc + 3) ls rest)) : W p l e R s m args below meth c H locs cells slots Q (F0 m pc ls (v :: .ref (g.1 + a) :: rest)) := by
  obtain ⟨hx, hb, hml, hown, hts⟩ := F
  obtain ⟨c1, c2, c3, c4, c5, c6⟩ := hc
  obtain ⟨⟨hH, hsz, hK⟩, hS, hZ, hg⟩ := G
  have hP := hH.one ha (Nat.succ_ne_zero ci)
  rw [hk_cell_o c1] at hP
  have hap := va_apart (own := own) hts c4 ty c5 c6 hK c2
  obtain ⟨r, h1, cell, q1, q2, q3, q4⟩ := hP 0 _ rfl
  have hr : r = (C, T, N) := Option.some.inj (h1.symm.trans c2)
  subst hr
  obtain ⟨hS0, hfc, kC, hkC, hkind⟩ := hK.1 ci _ c2
  obtain ⟨cf, kf, fi, f, hi, hsl⟩ := hS0 k hk
  have hlay := hts _ (c4 _ (u_in_lay hk))
  unfold u_lay at hlay
  rw [if_neg (by rw [hfin]; decide)] at hlay
  have hst := (u_facts hfc hkC (u_lays hts c4 hk) hi).1
  have h6 := u_store hfc hkC hkind hlay hi hd hn hfit
  refine W.putK hx hb (f := f) ⟨hown, hts _ hl, ⟨_, _, _, hi⟩, hst⟩ (by rw [q2]; exact h6) q1 q3 (by rw [hsl]; exact k2_hasslot (q4 k hk)) rfl rfl hdg fun H' e1 e2 e3 => ?_
  rw [hsl] at e1 ⊢
  refine kk H' _ ⟨⟨hH.kept (S1 := va_up S a I) ha (Nat.succ_ne_zero ci) e2 e3 (fun b hb => va_up_ne _ _ hb) ?_, by rw [e2]; exact hsz, hK⟩, hS.put e2 e3 (Nat.le_add_right _ _), hZ, hg⟩
  rw [hk_cell_o c1, va_up_self, ← hv]
  exact ⟨_, c2, t_OB.to (V := updV (vp_V (hk_flds g ci (S a) (E.2.2.2 a))) k v) ⟨_, e1, q2, q3, t_set q4 hap hk v⟩ (fun j _ => vp_updV_set (by rw [hk_flds_len, c3]; exact hk) v j)⟩
theorem hk_putI (F : CallFix p m c cc nL s args hk_W own) (G : hk_GG g E S n s H locs) {a ci N k index : Nat} {C : String} {T : u_T} {ty : Nat → FieldType} {v : Int32} {ft : FieldType} (ha : E.2.1 a = ci + 1) (hc : hk_cls ci C T N ty) (hk : k < N) (hl : Cond.fieldLink own index (T k).1 (T k).2.1 (T k).2.2.1 ∈ hk_W) (hs : hk_sort ci k = 0) (hfin : (T k).2.2.2 = false) (hd : parseFieldDescriptor (T k).2.2.1 = some ft) (hn : narrow ft (.int v) = .int v) (hfit : fits ft (.int v) = true) (hdg : decode cc pc = .ok (.putfield index, 3))
    (kk : ∀ (H1 : Heap) (locs1 : List Loc), hk_GG g E (hk_up S a k v) n s H1 locs1 → W p l e R s m args below meth c H1 locs1 cells slots Q (F0 m (pc + 3) ls rest)) : W p l e R s m args below meth c H locs cells slots Q (F0 m pc ls (.int v :: .ref (g.1 + a) :: rest)) :=
  hk_put F G ha hc hk hl hfin hd hn hfit (hk_flds_put (by rw [hc.2.2.1]; exact hk) (by unfold hk_fld; rw [hs, pk_us]; rfl)) hdg kk
/-- loads from arrays -/
theorem hk_iald (F : CallFix p m c cc nL s args hk_W own) (G : hk_GG g E S n s H locs) {a ln j : Nat} {i : Int32} (ha : E.2.1 a = 13) (hn : E.2.2.1 a = ln) (hin : vp_in i ln) (hj : i.toNatClampNeg = j) (hdg : decode cc pc = .ok (.iaload, 1))
    (kk : W p l e R s m args below meth c H locs cells slots Q (F0 m (pc + 1) ls (.int (S a j) :: rest))) : W p l e R s m args below meth c H locs cells slots Q (F0 m pc ls (.int i :: .ref (g.1 + a) :: rest)) := by
  subst hj
  have hP := G.1.1.one ha (by decide)
  rw [hk_cell_i (t := 2) (by decide), hn] at hP
  exact va_iald F.1 F.2.1 G.1.2.2 hP 0 2 rfl rfl hin hdg kk
theorem hk_bald (F : CallFix p m c cc nL s args hk_W own) (G : hk_GG g E S n s H locs) {a ln j : Nat} {i : Int32} (ha : E.2.1 a = 11) (hn : E.2.2.1 a = ln) (hin : vp_in i ln) (hj : i.toNatClampNeg = j) (hdg : decode cc pc = .ok (.baload, 1))
    (kk : W p l e R s m args below meth c H locs cells slots Q (F0 m (pc + 1) ls (.int (S a j) :: rest))) : W p l e R s m args below meth c H locs cells slots Q (F0 m pc ls (.int i :: .ref (g.1 + a) :: rest)) := by
  subst hj
  have hP := G.1.1.one ha (by decide)
  rw [hk_cell_i (t := 0) (by decide), hn] at hP
  exact va_bald F.1 F.2.1 G.1.2.2 hP 0 0 rfl rfl hin hdg kk
theorem hk_aald (F : CallFix p m c cc nL s args hk_W own) (G : hk_GG g E S n s H locs) {a ln t r j : Nat} {C : String} {i : Int32} (ha : E.2.1 a = t + 14) (ht : t < 3) (hty : (hk_tys g)[t + 3]? = some (g.2.2.1 (t + 3), .object C)) (hn : E.2.2.1 a = ln) (hin : vp_in i ln) (hj : i.toNatClampNeg = j) (hr : E.2.2.2 a j = some r) (hdg : decode cc pc = .ok (.aaload, 1))
    (kk : W p l e R s m args below meth c H locs cells slots Q (F0 m (pc + 1) ls (.ref (g.1 + r) :: rest))) : W p l e R s m args below meth c H locs cells slots Q (F0 m pc ls (.int i :: .ref (g.1 + a) :: rest)) := by
  subst hj
  have hP := G.1.1.one ha (by omega)
  rw [hk_cell_q ht, hn] at hP
  refine va_aldq F.1 F.2.1 G.1.2.2 hP 0 (t + 3) rfl hty hin hdg ?_
  show W p l e R s m args below meth c H locs cells slots Q (F0 m (pc + 1) ls (va_rf ((E.2.2.2 a i.toNatClampNeg).map (fun x => g.1 + x)) :: rest))
  rw [hr]
  exact kk
theorem hk_alen (F : CallFix p m c cc nL s args hk_W own) (G : hk_GG g E S n s H locs) {a t : Nat} {ft : FieldType} {v : Int32} (ha : E.2.1 a = t + 11) (ht : t < 3) (hty : (hk_tys g)[t]? = some (g.2.2.1 t, ft)) (hv : Int32.ofNat (E.2.2.1 a) = v) (hdg : decode cc pc = .ok (.arraylength, 1))
    (kk : W p l e R s m args below meth c H locs cells slots Q (F0 m (pc + 1) ls (.int v :: rest))) : W p l e R s m args below meth c H locs cells slots Q (F0 m pc ls (.ref (g.1 + a) :: rest)) := by
  have hP := G.1.1.one ha (by omega)
  rw [hk_cell_i ht] at hP
  exact va_alen F.1 F.2.1 G.1.2.2 hP 0 t rfl hty hv hdg kk
/-- what a store into an array leaves -/
theorem hk_stored (G : hk_GG g E S n s H locs) {a kd k : Nat} {v : Int32} {H1 : Heap} (ha : E.2.1 a = kd) (h0 : kd ≠ 0) (z : H1.size = H.size) (o : ∀ q : Nat, q ≠ g.1 + a → H1[q]? = H[q]?) {j : Nat} (hn : va_at g.2.1 vwCl (g.1 + a, hk_cell g kd (E.2.2.1 a) (upd (S a) k v) (E.2.2.2 a)) H1) : hk_GG g E (hk_up S a k v) n s H1 (locs ++ [⟨g.1 + a, j⟩]) := by
  obtain ⟨⟨hH, hsz, hK⟩, hS, hZ, hg⟩ := G
  refine ⟨⟨hH.kept (S1 := hk_up S a k v) ha h0 z o (fun b hb => hk_up_ne _ _ _ hb) ?_, by rw [z]; exact hsz, hK⟩, hS.put z o (Nat.le_add_right _ _), hZ, hg⟩
  rw [hk_up_self]
  exact hn
theorem hk_cellst {H1 : Heap} {q k ln : Nat} {cA : ClassId} {f : Nat → Int32} {v : Int32} (e : H1[q]? = some ((vp_cell cA (ln, .inl f)).setSlot k (.int v))) : H1[q]? = some (vp_cell cA (ln, .inl (upd f k v))) := by
  rw [e, vp_cell_i, vp_cell_i, arrV_store]
  congr 2
  funext j
  by_cases hj : j = k
  · subst hj
    simp [updV, upd]
  · simp [updV, upd, hj]
theorem hk_iast (F : CallFix p m c cc nL s args hk_W own) (G : hk_GG g E S n s H locs) {a ln j : Nat} {i x : Int32} (ha : E.2.1 a = 13) (hn : E.2.2.1 a = ln) (hin : vp_in i ln) (hj : i.toNatClampNeg = j) (hdg : decode cc pc = .ok (.iastore, 1))
    (kk : ∀ (H1 : Heap) (locs1 : List Loc), hk_GG g E (hk_up S a j x) n s H1 locs1 → W p l e R s m args below meth c H1 locs1 cells slots Q (F0 m (pc + 1) ls rest)) : W p l e R s m args below meth c H locs cells slots Q (F0 m pc ls (.int x :: .int i :: .ref (g.1 + a) :: rest)) := by
  subst hj
  have hP := G.1.1.one ha (by decide)
  rw [hk_cell_i (t := 2) (by decide), hn] at hP
  refine W.iast F.1 F.2.1 (hP 0 _ rfl) ((G.1.2.2.2 2 _ rfl).1 ln (fun j => .int (S a j))) (fun q => by cases q) (by show ¬ (i < 0 ∨ (arrV _ _ _).slots.size ≤ _); rw [arrV_size]; exact hin) rfl rfl hdg fun H1 e1 z o => ?_
  refine kk H1 _ (hk_stored G ha (by decide) z o ?_)
  rw [hk_cell_i (t := 2) (by decide), hn]
  exact hk_cellst e1
theorem hk_narB (x : Int32) : narrow .byte (.int x) = .int x.toInt8.toInt32 := rfl
theorem hk_bast (F : CallFix p m c cc nL s args hk_W own) (G : hk_GG g E S n s H locs) {a ln j : Nat} {i x : Int32} (ha : E.2.1 a = 11) (hn : E.2.2.1 a = ln) (hin : vp_in i ln) (hj : i.toNatClampNeg = j) (hdg : decode cc pc = .ok (.bastore, 1))
    (kk : ∀ (H1 : Heap) (locs1 : List Loc), hk_GG g E (hk_up S a j x.toInt8.toInt32) n s H1 locs1 → W p l e R s m args below meth c H1 locs1 cells slots Q (F0 m (pc + 1) ls rest)) : W p l e R s m args below meth c H locs cells slots Q (F0 m pc ls (.int x :: .int i :: .ref (g.1 + a) :: rest)) := by
  subst hj
  have hP := G.1.1.one ha (by decide)
  rw [hk_cell_i (t := 0) (by decide), hn] at hP
  refine W.bast F.1 F.2.1 (hP 0 _ rfl) ((G.1.2.2.2 0 _ rfl).1 ln (fun j => .int (S a j))) (fun q => by cases q) (by show ¬ (i < 0 ∨ (arrV _ _ _).slots.size ≤ _); rw [arrV_size]; exact hin) rfl rfl hdg fun H1 e1 z o => ?_
  rw [hk_narB] at e1
  refine kk H1 _ (hk_stored G ha (by decide) z o ?_)
  rw [hk_cell_i (t := 0) (by decide), hn]
  exact hk_cellst e1
/-- the method's end: what its caller gets -/
theorem hk_end (G : hk_GG g E S n s H locs) {v : Option Value} {t : State} (ht : t.heap = H) (hW : s.WarmedH t.vm) : hk_Q g E S n v args s (.returned v) t := by
  obtain ⟨⟨hH, hsz, hK⟩, hS, hZ, hg⟩ := G
  exact ⟨rfl, ⟨by rw [ht]; exact hH, by rw [ht]; exact hsz, va_K.moved hW.alike hK⟩, hS.F ht⟩
/-- a callee's start -/
theorem hk_pre (G : hk_GG g E S n s H locs) (av : List Value) : ∀ U : State, U.heap = H → s.WarmedH U.vm → hk_Pc g E S n av av.toArray U := by
  intro U hU hW
  obtain ⟨⟨hH, hsz, hK⟩, hS, hZ, hg⟩ := G
  exact ⟨rfl, ⟨by rw [hU]; exact hH, by rw [hU]; exact hsz, va_K.moved hW.alike hK⟩, by rw [hU]; exact (hZ.kept hS.2.1).warm hW, by rw [hU]; exact Nat.le_trans hg hS.1⟩
/-- behind a call -/
theorem hk_call {g0 : JFrame} {mc ms : Nat} {a : Array Value} {v : Option Value} {E1 : hk_E} {S1 : hk_S} {n1 : Nat} (hr : va_Run p l e R s m args below meth c H locs cells slots mc ms g0 rest (hk_Q g E1 S1 n1 v a) (hk_A g)) (G : hk_GG g E S n s H locs)
    (kk : ∀ (H1 : Heap) (locs1 : List Loc), hk_GG g E1 S1 n1 s H1 locs1 → W p l e R s m args below meth c H1 locs1 (cells + mc) (slots + ms) Q { g0 with pc := g0.pc + 3, stack := v.toList ++ rest }) : W p l e R s m args below meth c H locs cells slots Q g0 := by
  intro T hT X
  obtain ⟨v', st0, t, T', L, h0, X', hL, e1, e2, ⟨hv, ⟨hH, hsz, hK⟩, hz, hk⟩, st⟩ := hr T hT X
  cases hv
  rw [h0] at hz hk
  obtain ⟨-, hS, hZ, hg⟩ := G
  obtain ⟨t2, a1, b1⟩ := kk T'.heap (locs ++ L) ⟨⟨by rw [e1]; exact hH, by rw [e1]; exact hsz, va_K.moved (by rw [← e2]; exact X'.warmed.alike.symm) hK⟩, ⟨Nat.le_trans hS.1 (by rw [e1]; exact hz), fun q h1 h2 => by rw [e1, hk q (Nat.lt_of_lt_of_le h1 hS.1) h2]; exact hS.2.1 q h1 h2, fun q hq => by
      rcases List.mem_append.mp hq with h | h
      · exact hS.2.2 q h
      · exact hL q h⟩, hZ, hg⟩ T' rfl X'
  exact ⟨t2, st t2 a1, b1⟩
/-- a method's words -/
abbrev hk_ws (y : MethodName) (b : ByteArray) (maxL : Nat) (ret : Option FieldType) : List Cond := .code y b maxL ret :: hk_W
theorem hk_in {y : MethodName} {b : ByteArray} {maxL : Nat} {ret : Option FieldType} {w : Cond} (h : w ∈ hk_W) : w ∈ hk_ws y b maxL ret := List.mem_cons_of_mem _ h
theorem hk_goodws {y : MethodName} {b : ByteArray} {maxL : Nat} {ret : Option FieldType} (h : Cond.code y b maxL ret ∈ hk_W) : GoodIn hk_W (hk_ws y b maxL ret) := by
  intro w hw
  have hw2 : w ∈ hk_W := by
    rcases List.mem_cons.mp hw with q | q
    · rw [q]; exact h
    · exact q
  exact ⟨hw2, hk_good w hw2⟩
/-- the words of a call of an instance method -/
def hk_yV (own : String) (index : Nat) (y : MethodName) (b : ByteArray) (maxL : Nat) (ret : Option FieldType) (np : Nat) : Prop :=
  Cond.code y b maxL ret ∈ hk_W ∧ Cond.methodLink own index y ∈ hk_W ∧ Cond.instanceMethod y ∈ hk_W ∧ Cond.selects y.cls y y ∈ hk_W ∧ Cond.initialized y.cls ∈ hk_W ∧ (y.cls ≠ "java/lang/invoke/MethodHandle" ∧ y.cls ≠ "java/lang/invoke/VarHandle" ∧ (parseMethodDescriptor y.desc).map (fun d => d.parameters.length) = some np)
def hk_yS (own : String) (index : Nat) (y : MethodName) (b : ByteArray) (maxL : Nat) (ret : Option FieldType) (np : Nat) : Prop :=
  Cond.code y b maxL ret ∈ hk_W ∧ Cond.methodLink own index y ∈ hk_W ∧ Cond.static y ∈ hk_W ∧ Cond.initialized y.cls ∈ hk_W ∧ (y.cls ≠ "java/lang/invoke/MethodHandle" ∧ y.cls ≠ "java/lang/invoke/VarHandle" ∧ (parseMethodDescriptor y.desc).map (fun d => d.parameters.length) = some np)
theorem hk_recv (G : hk_GG g E S n s H locs) {a ci N : Nat} {C : String} {T : u_T} {ty : Nat → FieldType} (ha : E.2.1 a = ci + 1) (hc : hk_cls ci C T N ty) : ∃ cell : Cell, H[g.1 + a]? = some cell ∧ cell.vm.isStatics = false ∧ s.vm.findClass C = some cell.cls := by
  have hP := G.1.1.one ha (Nat.succ_ne_zero ci)
  rw [hk_cell_o hc.1] at hP
  exact va_recv (q := (C, T, N)) G.1.2.2 hP hc.2.1 (q0 := 0) rfl
theorem hk_callV (F : CallFix p m c cc nL s args hk_W own) (G : hk_GG g E S n s H locs) {a ci N index np maxL mc ms : Nat} {C : String} {T : u_T} {ty : Nat → FieldType} {y : MethodName} {b : ByteArray} {ret : Option FieldType} {rm : Room} {v : Option Value} {E1 : hk_E} {S1 : hk_S} {n1 : Nat} {As st : List Value} (ha : E.2.1 a = ci + 1) (hc : hk_cls ci C T N ty) (hyC : y.cls = C)
    (hM : Met l y (hk_ws y b maxL ret) rm (hk_Pc g E S n (.ref (g.1 + a) :: As)) (hk_Q g E1 S1 n1 v) mc ms (hk_A g)) (hy : hk_yV own index y b maxL ret np) (hrm : rm.cells = mc ∧ rm.slots = ms ∧ rm.frames + 1 ≤ R.frames ∧ 8 + (maxL + 11) + rm.locals ≤ R.locals) (hn : As.length = np) (hL : ls.size = nL) (hst : st = As.reverse ++ .ref (g.1 + a) :: rest) (hrest : (rest.map fun v => v.category).sum ≤ 8) (hf : cells + mc ≤ R.cells ∧ slots + ms ≤ R.slots) (hdg : decode cc pc = .ok (.invokevirtual index, 3))
    (kk : ∀ (H1 : Heap) (locs1 : List Loc), hk_GG g E1 S1 n1 s H1 locs1 → W p l e R s m args below meth c H1 locs1 (cells + mc) (slots + ms) Q (F0 m (pc + 3) ls (v.toList ++ rest))) : W p l e R s m args below meth c H locs cells slots Q (F0 m pc ls st) := by
  obtain ⟨w1, w2, w3, w4, w5, d1, d2, d3⟩ := hy
  subst hyC
  refine hk_call (va_runV (bytes := b) (maxL := maxL) (ret := ret) (As := As) (rest := rest) F hM ⟨?_, F.2.2.2.2 _ w3, F.2.2.2.2 _ w4⟩ ⟨hk_blind, hk_recv G ha hc, hk_pre G _⟩ rfl hn hL hst (lv_room hrest) hdg hf) G kk
  exact callB_of np F.2.2.2.2 (hk_goodws w1) rfl hrm.1 hrm.2.1 (F.2.2.2.2 _ w5) (F.2.2.2.2 _ w2) ⟨d1, d2, d3⟩ hrm.2.2
theorem hk_callS (F : CallFix p m c cc nL s args hk_W own) (G : hk_GG g E S n s H locs) {index np maxL mc ms : Nat} {y : MethodName} {b : ByteArray} {ret : Option FieldType} {rm : Room} {v : Option Value} {E1 : hk_E} {S1 : hk_S} {n1 : Nat} {As st : List Value}
    (hM : Met l y (hk_ws y b maxL ret) rm (hk_Pc g E S n As) (hk_Q g E1 S1 n1 v) mc ms (hk_A g)) (hy : hk_yS own index y b maxL ret np) (hrm : rm.cells = mc ∧ rm.slots = ms ∧ rm.frames + 1 ≤ R.frames ∧ 8 + (maxL + 11) + rm.locals ≤ R.locals) (hn : As.length = np) (hL : ls.size = nL) (hst : st = As.reverse ++ rest) (hrest : (rest.map fun v => v.category).sum ≤ 8) (hf : cells + mc ≤ R.cells ∧ slots + ms ≤ R.slots) (hdg : decode cc pc = .ok (.invokestatic index, 3))
    (kk : ∀ (H1 : Heap) (locs1 : List Loc), hk_GG g E1 S1 n1 s H1 locs1 → W p l e R s m args below meth c H1 locs1 (cells + mc) (slots + ms) Q (F0 m (pc + 3) ls (v.toList ++ rest))) : W p l e R s m args below meth c H locs cells slots Q (F0 m pc ls st) := by
  obtain ⟨w1, w2, w3, w5, d1, d2, d3⟩ := hy
  refine hk_call (va_runS (bytes := b) (maxL := maxL) (ret := ret) (As := As) (rest := rest) F hM ⟨?_, F.2.2.2.2 _ w3⟩ ⟨hk_blind, hk_pre G _⟩ rfl hn hL hst (lv_room hrest) hdg hf) G kk
  exact callB_of np F.2.2.2.2 (hk_goodws w1) rfl hrm.1 hrm.2.1 (F.2.2.2.2 _ w5) (F.2.2.2.2 _ w2) ⟨d1, d2, d3⟩ hrm.2.2
theorem hk_callVi (F : CallFix p m c cc nL s args hk_W own) (G : hk_GG g E S n s H locs) {a ci N index np maxL : Nat} {C : String} {T : u_T} {ty : Nat → FieldType} {y : MethodName} {b : ByteArray} {ret : Option FieldType} {rm : Room} {v : Int32} {E1 : hk_E} {S1 : hk_S} {n1 : Nat} {As st : List Value} (ha : E.2.1 a = ci + 1) (hc : hk_cls ci C T N ty) (hyC : y.cls = C)
    (hM : Met l y (hk_ws y b maxL ret) rm (hk_Pc g E S n (.ref (g.1 + a) :: As)) (hk_Q g E1 S1 n1 (some (.int v))) 0 0 (hk_A g)) (hy : hk_yV own index y b maxL ret np) (hrm : rm.cells = 0 ∧ rm.slots = 0 ∧ rm.frames + 1 ≤ R.frames ∧ 8 + (maxL + 11) + rm.locals ≤ R.locals) (hn : As.length = np) (hL : ls.size = nL) (hst : st = As.reverse ++ .ref (g.1 + a) :: rest) (hrest : (rest.map fun v => v.category).sum ≤ 8) (hf : cells ≤ R.cells ∧ slots ≤ R.slots) (hdg : decode cc pc = .ok (.invokevirtual index, 3))
    (kk : ∀ (H1 : Heap) (locs1 : List Loc), hk_GG g E1 S1 n1 s H1 locs1 → W p l e R s m args below meth c H1 locs1 cells slots Q (F0 m (pc + 3) ls (.int v :: rest))) : W p l e R s m args below meth c H locs cells slots Q (F0 m pc ls st) :=
  hk_callV F G ha hc hyC hM hy hrm hn hL hst hrest hf hdg kk
theorem hk_callVv (F : CallFix p m c cc nL s args hk_W own) (G : hk_GG g E S n s H locs) {a ci N index np maxL : Nat} {C : String} {T : u_T} {ty : Nat → FieldType} {y : MethodName} {b : ByteArray} {ret : Option FieldType} {rm : Room} {E1 : hk_E} {S1 : hk_S} {n1 : Nat} {As st : List Value} (ha : E.2.1 a = ci + 1) (hc : hk_cls ci C T N ty) (hyC : y.cls = C)
    (hM : Met l y (hk_ws y b maxL ret) rm (hk_Pc g E S n (.ref (g.1 + a) :: As)) (hk_Q g E1 S1 n1 none) 0 0 (hk_A g)) (hy : hk_yV own index y b maxL ret np) (hrm : rm.cells = 0 ∧ rm.slots = 0 ∧ rm.frames + 1 ≤ R.frames ∧ 8 + (maxL + 11) + rm.locals ≤ R.locals) (hn : As.length = np) (hL : ls.size = nL) (hst : st = As.reverse ++ .ref (g.1 + a) :: rest) (hrest : (rest.map fun v => v.category).sum ≤ 8) (hf : cells ≤ R.cells ∧ slots ≤ R.slots) (hdg : decode cc pc = .ok (.invokevirtual index, 3))
    (kk : ∀ (H1 : Heap) (locs1 : List Loc), hk_GG g E1 S1 n1 s H1 locs1 → W p l e R s m args below meth c H1 locs1 cells slots Q (F0 m (pc + 3) ls rest)) : W p l e R s m args below meth c H locs cells slots Q (F0 m pc ls st) :=
  hk_callV F G ha hc hyC hM hy hrm hn hL hst hrest hf hdg kk
theorem hk_callVr (F : CallFix p m c cc nL s args hk_W own) (G : hk_GG g E S n s H locs) {a ci N index np maxL : Nat} {C : String} {T : u_T} {ty : Nat → FieldType} {y : MethodName} {b : ByteArray} {ret : Option FieldType} {rm : Room} {v : Nat} {E1 : hk_E} {S1 : hk_S} {n1 : Nat} {As st : List Value} (ha : E.2.1 a = ci + 1) (hc : hk_cls ci C T N ty) (hyC : y.cls = C)
    (hM : Met l y (hk_ws y b maxL ret) rm (hk_Pc g E S n (.ref (g.1 + a) :: As)) (hk_Q g E1 S1 n1 (some (.ref (g.1 + v)))) 0 0 (hk_A g)) (hy : hk_yV own index y b maxL ret np) (hrm : rm.cells = 0 ∧ rm.slots = 0 ∧ rm.frames + 1 ≤ R.frames ∧ 8 + (maxL + 11) + rm.locals ≤ R.locals) (hn : As.length = np) (hL : ls.size = nL) (hst : st = As.reverse ++ .ref (g.1 + a) :: rest) (hrest : (rest.map fun v => v.category).sum ≤ 8) (hf : cells ≤ R.cells ∧ slots ≤ R.slots) (hdg : decode cc pc = .ok (.invokevirtual index, 3))
    (kk : ∀ (H1 : Heap) (locs1 : List Loc), hk_GG g E1 S1 n1 s H1 locs1 → W p l e R s m args below meth c H1 locs1 cells slots Q (F0 m (pc + 3) ls (.ref (g.1 + v) :: rest))) : W p l e R s m args below meth c H locs cells slots Q (F0 m pc ls st) :=
  hk_callV F G ha hc hyC hM hy hrm hn hL hst hrest hf hdg kk
theorem hk_callSi (F : CallFix p m c cc nL s args hk_W own) (G : hk_GG g E S n s H locs) {index np maxL : Nat} {y : MethodName} {b : ByteArray} {ret : Option FieldType} {rm : Room} {v : Int32} {E1 : hk_E} {S1 : hk_S} {n1 : Nat} {As st : List Value}
    (hM : Met l y (hk_ws y b maxL ret) rm (hk_Pc g E S n As) (hk_Q g E1 S1 n1 (some (.int v))) 0 0 (hk_A g)) (hy : hk_yS own index y b maxL ret np) (hrm : rm.cells = 0 ∧ rm.slots = 0 ∧ rm.frames + 1 ≤ R.frames ∧ 8 + (maxL + 11) + rm.locals ≤ R.locals) (hn : As.length = np) (hL : ls.size = nL) (hst : st = As.reverse ++ rest) (hrest : (rest.map fun v => v.category).sum ≤ 8) (hf : cells ≤ R.cells ∧ slots ≤ R.slots) (hdg : decode cc pc = .ok (.invokestatic index, 3))
    (kk : ∀ (H1 : Heap) (locs1 : List Loc), hk_GG g E1 S1 n1 s H1 locs1 → W p l e R s m args below meth c H1 locs1 cells slots Q (F0 m (pc + 3) ls (.int v :: rest))) : W p l e R s m args below meth c H locs cells slots Q (F0 m pc ls st) :=
  hk_callS F G hM hy hrm hn hL hst hrest hf hdg kk
theorem hk_callSv (F : CallFix p m c cc nL s args hk_W own) (G : hk_GG g E S n s H locs) {index np maxL : Nat} {y : MethodName} {b : ByteArray} {ret : Option FieldType} {rm : Room} {E1 : hk_E} {S1 : hk_S} {n1 : Nat} {As st : List Value}
    (hM : Met l y (hk_ws y b maxL ret) rm (hk_Pc g E S n As) (hk_Q g E1 S1 n1 none) 0 0 (hk_A g)) (hy : hk_yS own index y b maxL ret np) (hrm : rm.cells = 0 ∧ rm.slots = 0 ∧ rm.frames + 1 ≤ R.frames ∧ 8 + (maxL + 11) + rm.locals ≤ R.locals) (hn : As.length = np) (hL : ls.size = nL) (hst : st = As.reverse ++ rest) (hrest : (rest.map fun v => v.category).sum ≤ 8) (hf : cells ≤ R.cells ∧ slots ≤ R.slots) (hdg : decode cc pc = .ok (.invokestatic index, 3))
    (kk : ∀ (H1 : Heap) (locs1 : List Loc), hk_GG g E1 S1 n1 s H1 locs1 → W p l e R s m args below meth c H1 locs1 cells slots Q (F0 m (pc + 3) ls rest)) : W p l e R s m args below meth c H locs cells slots Q (F0 m pc ls st) :=
  hk_callS F G hM hy hrm hn hL hst hrest hf hdg kk
/-- a number on top of the stack gets a name -/
theorem hk_top {x y : Int32} (h : x = y) (k : W p l e R s m args below meth c H locs cells slots Q (F0 m pc ls (.int y :: rest))) : W p l e R s m args below meth c H locs cells slots Q (F0 m pc ls (.int x :: rest)) := by
  subst h
  exact k
end HKR
abbrev hk_ok (i : Int32) (n : Nat) : Prop := ¬ (i < 0 ∨ n ≤ i.toNatClampNeg)
def hk_let {α β : Type} (x : α) (f : α → Option β) : Option β := f x
theorem hk_l {α β : Type} {x : α} {f : α → Option β} {o : β} (h : hk_let x f = some o) : ∃ y, x = y ∧ f y = some o := ⟨x, rfl, h⟩
theorem hk_sw {x : Int32} {lo : Int} {n : Nat} (h : ∀ k : Nat, k < n → ¬ x = Int32.ofInt (lo + k)) : x.toInt < lo ∨ lo + n - 1 < x.toInt := by
  rcases Int.lt_or_le x.toInt lo with q | q
  · exact Or.inl q
  · refine Or.inr ?_
    apply Classical.byContradiction
    intro z
    refine h (x.toInt - lo).toNat (by omega) ?_
    rw [show lo + ((x.toInt - lo).toNat : Int) = x.toInt by omega, Int32.ofInt_toInt]
/-- out of an Option's chain -/
theorem hk_b {α β : Type} {x : Option α} {f : α → Option β} {o : β} (h : x.bind f = some o) : ∃ a, x = some a ∧ f a = some o := by
  cases x with
  | none => cases h
  | some a => exact ⟨a, rfl, h⟩
theorem hk_t {α : Type} {c : Prop} [Decidable c] {a b o : α} (h : c) (e : (if c then a else b) = o) : a = o := by rw [if_pos h] at e; exact e
theorem hk_f {α : Type} {c : Prop} [Decidable c] {a b o : α} (h : ¬ c) (e : (if c then a else b) = o) : b = o := by rw [if_neg h] at e; exact e
/-- a check -/
theorem hk_k {α : Type} {c : Prop} [Decidable c] {a : Option α} {o : α} (e : (if c then a else none) = some o) : c ∧ a = some o := by
  by_cases h : c
  · rw [if_pos h] at e; exact ⟨h, e⟩
  · rw [if_neg h] at e; cases e
theorem hk_s {α : Type} {a o : α} (e : some a = some o) : a = o := Option.some.inj e
theorem hk_z {v : Int32} (h : v = 0 ∨ v = 1) : narrow .boolean (.int v) = .int v ∧ fits .boolean (.int v) = true := by
  rcases h with h | h <;> subst h <;> exact ⟨by decide +kernel, by decide +kernel⟩
theorem hk_g {α : Type} {c : Prop} [Decidable c] {a b o : α} (h : c) (e : (if ¬ c then a else b) = o) : b = o := by rw [if_neg (fun z => z h)] at e; exact e
