/-! Objects and arrays that are made: one place more; a reference is set. -/
def hk_grow (E E1 : hk_E) (kd ln : Nat) : Prop := E1.1 = E.1 + 1 ∧ E1.2.1 E.1 = kd ∧ E1.2.2.1 E.1 = ln ∧ E1.2.2.2 E.1 = (fun _ => none) ∧ ∀ a, a ≠ E.1 → E1.2.1 a = E.2.1 a ∧ E1.2.2.1 a = E.2.2.1 a ∧ E1.2.2.2 a = E.2.2.2 a
def hk_set (E E1 : hk_E) (a k r : Nat) : Prop := E1.1 = E.1 ∧ E1.2.1 = E.2.1 ∧ E1.2.2.1 = E.2.2.1 ∧ E1.2.2.2 a = va_up (E.2.2.2 a) k (some r) ∧ ∀ b, b ≠ a → E1.2.2.2 b = E.2.2.2 b
/-- the first values of an object's fields -/
def hk_i0 (ci : Nat) : Nat → Int32 := fun k => if hk_sort ci k = 2 then -1 else 0
theorem hk_dv {g : hk_G} {ci j : Nat} (h2 : hk_sort ci j ≤ 2) : hk_fld g ci j (hk_i0 ci) (fun _ => none) = if hk_sort ci j = 0 then .int 0 else .null := by
  unfold hk_fld hk_i0
  by_cases h0 : hk_sort ci j = 0
  · rw [if_pos h0, if_pos h0, if_neg (by rw [h0]; decide)]
  · rw [if_neg h0, if_neg h0]
    by_cases h1 : hk_sort ci j = 1
    · rw [if_pos h1]; rfl
    · rw [if_neg h1, if_pos (by omega)]
      exact hk_en_null (by decide)
/-- the heap with one thing more -/
theorem hk_H.grow {g : hk_G} {E E1 : hk_E} {S : hk_S} {H H1 : Heap} {kd ln : Nat} {I : Nat → Int32} (h : hk_H g E S H) (hq : H.size = g.1 + E.1) (hE : hk_grow E E1 kd ln) (z : H1.size = H.size + 1) (o : ∀ q : Nat, q < H.size → H1[q]? = H[q]?) (hn : va_at g.2.1 vwCl (g.1 + E.1, hk_cell g kd ln I (fun _ => none)) H1) : hk_H g E1 (va_up S E.1 I) H1 := by
  obtain ⟨e1, e2, e3, e4, e5⟩ := hE
  refine ⟨by rw [e1, z]; omega, fun a ha => ?_⟩
  by_cases hae : a = E.1
  · subst hae
    rw [e1]
    refine ⟨Nat.lt_succ_self _, ?_⟩
    rw [e2, e3, e4, va_up_self]
    exact hn
  · obtain ⟨f1, f2, f3⟩ := e5 a hae
    rw [f1] at ha ⊢
    have h2 := h.2 a ha
    rw [f2, f3, va_up_ne _ _ hae, e1]
    exact ⟨Nat.lt_succ_of_lt h2.1, h2.2.kept (o _ (by omega))⟩
theorem hk_H.setR {g : hk_G} {E E1 : hk_E} {S : hk_S} {H H1 : Heap} {a k r kd : Nat} (h : hk_H g E S H) (hE : hk_set E E1 a k r) (hk : E.2.1 a = kd) (hz : H1.size = H.size) (o : ∀ q : Nat, q ≠ g.1 + a → H1[q]? = H[q]?) (hn : va_at g.2.1 vwCl (g.1 + a, hk_cell g kd (E.2.2.1 a) (S a) (va_up (E.2.2.2 a) k (some r))) H1) : hk_H g E1 S H1 := by
  obtain ⟨e1, e2, e3, e4, e5⟩ := hE
  refine ⟨by rw [e1, hz]; exact h.1, fun b hb => ?_⟩
  rw [e2] at hb ⊢
  refine ⟨by rw [e1]; exact (h.2 b hb).1, ?_⟩
  rw [e3]
  by_cases hba : b = a
  · subst hba
    rw [hk, e4]
    exact hn
  · rw [e5 b hba]
    exact (h.2 b hb).2.kept (o (g.1 + b) (by omega))
section HKC
variable {p : Program} {l : Launch} {e : Env} {R : Room} {s : State} {m : MethodId} {args : Array Value} {below : List Frame} {meth : Method} {c : Code} {H : Heap} {locs : List Loc} {cells slots : Nat} {Q : State → Prop}
variable {cc : ByteArray} {nL pc : Nat} {ls : Array Slot} {rest : List Value} {own : String} {g : hk_G} {E E1 : hk_E} {S : hk_S} {n : Nat}
theorem hk_gg1 {kd ln : Nat} {I : Nat → Int32} {H1 : Heap} (G : hk_GG g E S n s H locs) (hn : n = g.1 + E.1) (hE : hk_grow E E1 kd ln) (z : H1.size = H.size + 1) (o : ∀ q : Nat, q < H.size → H1[q]? = H[q]?) (ha : va_at g.2.1 vwCl (g.1 + E.1, hk_cell g kd ln I (fun _ => none)) H1) : hk_GG g E1 (va_up S E.1 I) (g.1 + E1.1) s H1 locs := by
  obtain ⟨⟨hH, hsz, hK⟩, hS, hZ, hg⟩ := G
  have hq : H.size = g.1 + E.1 := hsz.trans hn
  refine ⟨⟨hH.grow hq hE z o ha, by rw [z, hE.1, hq]; omega, hK⟩, ⟨Nat.le_trans hS.1 (by omega), fun x h1 h2 => (o x (Nat.lt_of_lt_of_le h1 hS.1)).trans (hS.2.1 x h1 h2), hS.2.2⟩, hZ, hg⟩
theorem hk_new (F : CallFix p m c cc nL s args hk_W own) (G : hk_GG g E S n s H locs) (hn : n = g.1 + E.1) {a b : Nat} (hab : E.1 = a ∧ E1.1 = b) {ci N index : Nat} {C : String} {T : u_T} {ty : Nat → FieldType} (hc : hk_cls ci C T N ty) (hd : ∀ j, j < N → defaultValue (ty j) = (if hk_sort ci j = 0 then .int 0 else .null) ∧ hk_sort ci j ≤ 2) (hE : hk_grow E E1 (ci + 1) 0) (hcl : Cond.classLink own index C ∈ hk_W) (hinst : Cond.instantiable C N ∈ hk_W) (hini : Cond.initialized C ∈ hk_W) (hf : cells + 1 ≤ R.cells ∧ slots + N ≤ R.slots) (hdg : decode cc pc = .ok (.new index, 3))
    (kk : ∀ H1 : Heap, hk_GG g E1 (va_up S a (hk_i0 ci)) (g.1 + b) s H1 locs → W p l e R s m args below meth c H1 locs (cells + 1) (slots + N) Q (F0 m (pc + 3) ls (.ref (g.1 + a) :: rest))) : W p l e R s m args below meth c H locs cells slots Q (F0 m pc ls rest) := by
  obtain ⟨rfl, rfl⟩ := hab
  obtain ⟨hx, hb, hml, hown, hts⟩ := F
  obtain ⟨c1, c2, c3, c4, c5, c6⟩ := hc
  have hKn := G.1.2.2.1 ci _ c2
  have hq : H.size = g.1 + E.1 := G.1.2.1.trans hn
  refine W.newcK hx hb hown (hts _ hcl) (hts _ hinst) (hts _ hini) rfl hdg hf.1 hf.2 hKn.2.1 hq fun H1 kC hkC e1 z1 o1 => ?_
  refine kk H1 (hk_gg1 G hn hE (by rw [hq]; exact z1) (fun q h => o1 q (by omega)) ?_)
  rw [hk_cell_o c1]
  refine ⟨_, c2, (u_born ty hts c4 hKn hkC e1 c5).to fun j hj => ?_⟩
  show defaultValue (ty j) = (hk_flds g ci (hk_i0 ci) (fun _ => none)).getD j .null
  rw [List.getD_eq_getElem?_getD, hk_flds_get (by rw [c3]; exact hj), (hd j hj).1, hk_dv (hd j hj).2]
  rfl
/-- an array of numbers -/
theorem hk_newA (F : CallFix p m c cc nL s args hk_W own) (G : hk_GG g E S n s H locs) (hn : n = g.1 + E.1) {a b : Nat} (hab : E.1 = a ∧ E1.1 = b) {atype : ArrayType} {ft : FieldType} {t ln : Nat} {x : Int32} {cA : ClassId} (hft : newarray.typeOf atype = ft) (hobj : ∀ C, ft ≠ .object C) (hty : (hk_tys g)[t]? = some (cA, ft)) {kd : Nat} (hcell : ∀ I : Nat → Int32, (∀ j, I j = 0) → hk_cell g kd ln I (fun _ => none) = .inl (cA, (ln, if ft = .long then .inr (.inl (fun j => (I j).toInt64)) else .inl I)))
    (hdef : defaultValue ft = (if ft = .long then .long 0 else .int 0)) (hE : hk_grow E E1 kd ln) (harr : Cond.arrayClass ft ∈ hk_W) (h0 : ¬ x < 0) (hl : x.toNatClampNeg = ln) (hbytes : ln * componentBytes ft ≤ 536870912) (hf : cells + 1 ≤ R.cells ∧ slots + ln ≤ R.slots) (hdg : decode cc pc = .ok (.newarray atype, 2))
    (kk : ∀ H1 : Heap, hk_GG g E1 (va_up S a (fun _ => 0)) (g.1 + b) s H1 locs → W p l e R s m args below meth c H1 locs (cells + 1) (slots + ln) Q (F0 m (pc + 2) ls (.ref (g.1 + a) :: rest))) : W p l e R s m args below meth c H locs cells slots Q (F0 m pc ls (.int x :: rest)) := by
  obtain ⟨rfl, rfl⟩ := hab
  obtain ⟨hx, hb, hml, hown, hts⟩ := F
  have hq : H.size = g.1 + E.1 := G.1.2.1.trans hn
  subst hft
  refine va_newaK hx hb (hts _ harr) rfl hdg rfl h0 hl hbytes hf.1 hf.2 hq fun H1 cB e1 z1 o1 hAr hNm => ?_
  have hcA : cB = cA := by
    have h2 := (G.1.2.2.2 t _ hty).2
    have h3 : s.vm.findClass ("[" ++ (newarray.typeOf atype).toString) = some cA := by
      cases atype <;> exact h2
    exact Option.some.inj (hNm.symm.trans h3)
  subst hcA
  refine kk H1 (hk_gg1 G hn hE (by rw [hq]; exact z1) (fun q h => o1 q (by omega)) ?_)
  rw [hcell (fun _ => 0) (fun _ => rfl)]
  show H1[g.1 + E.1]? = some (vp_cell _ _)
  rw [e1, hdef]
  by_cases hL : newarray.typeOf atype = .long
  · rw [if_pos hL, if_pos hL, vp_cell_l]
    rfl
  · rw [if_neg hL, if_neg hL, vp_cell_i]
/-- an array of references -/
theorem hk_newQ (F : CallFix p m c cc nL s args hk_W own) (G : hk_GG g E S n s H locs) (hn : n = g.1 + E.1) {a b : Nat} (hab : E.1 = a ∧ E1.1 = b) {index t ln : Nat} {x : Int32} {C : String} (ht : t < 3) (hty : (hk_tys g)[t + 3]? = some (g.2.2.1 (t + 3), .object C)) (hover : va_AO C s) (hE : hk_grow E E1 (t + 14) ln) (hcl : Cond.classLink own index C ∈ hk_W) (h0 : ¬ x < 0) (hl : x.toNatClampNeg = ln) (hbytes : ln * 4 ≤ 536870912) (hf : cells + 1 ≤ R.cells ∧ slots + ln ≤ R.slots) (hdg : decode cc pc = .ok (.anewarray index, 3))
    (kk : ∀ H1 : Heap, hk_GG g E1 (va_up S a (fun _ => 0)) (g.1 + b) s H1 locs → W p l e R s m args below meth c H1 locs (cells + 1) (slots + ln) Q (F0 m (pc + 3) ls (.ref (g.1 + a) :: rest))) : W p l e R s m args below meth c H locs cells slots Q (F0 m pc ls (.int x :: rest)) := by
  obtain ⟨rfl, rfl⟩ := hab
  obtain ⟨hx, hb, hml, hown, hts⟩ := F
  have hq : H.size = g.1 + E.1 := G.1.2.1.trans hn
  subst hl
  refine W.anew hx hb hown (hts _ hcl) (va_AO.use hover) rfl hdg rfl h0 hbytes hf.1 hf.2 fun cB kA comp f1 f2 f3 f4 => ?_
  obtain ⟨kA', comp', q1, q2, q3, q4⟩ := (G.1.2.2.2 (t + 3) _ hty).2
  have hcA : cB = g.2.2.1 (t + 3) := Option.some.inj (f1.symm.trans q4)
  subst hcA
  generalize hH1 : H.push ({ cls := g.2.2.1 (t + 3), slots := Array.replicate x.toNatClampNeg .null, vm := .none } : Cell) = H1
  have z1 : H1.size = H.size + 1 := by rw [← hH1, Array.size_push]
  have e1 : H1[g.1 + E.1]? = some (arrV (g.2.2.1 (t + 3)) x.toNatClampNeg (fun _ => .null)) := by rw [← hH1, ← hq, Array.getElem?_push_size, ← arrV_new]
  have o1 : ∀ q : Nat, q < H.size → H1[q]? = H[q]? := fun q h => by rw [← hH1, Array.getElem?_push, if_neg (Nat.ne_of_lt h)]
  have h9 := kk H1 (hk_gg1 (I := fun _ => 0) G hn hE z1 o1 (by
    rw [hk_cell_q ht]
    show H1[g.1 + E.1]? = some (vp_cell _ _)
    rw [e1, vp_cell_q]
    rfl))
  rw [hq]
  exact h9
theorem hk_putR (F : CallFix p m c cc nL s args hk_W own) (G : hk_GG g E S n s H locs) {a ci N k r index : Nat} {C : String} {T : u_T} {ty : Nat → FieldType} {ft : FieldType} (ha : E.2.1 a = ci + 1) (hc : hk_cls ci C T N ty) (hk : k < N) (hl : Cond.fieldLink own index (T k).1 (T k).2.1 (T k).2.2.1 ∈ hk_W) (hs : hk_sort ci k = 1) (hfin : (T k).2.2.2 = true) (hin : meth.name = "<init>") (hdecl : (T k).1 = own) (hd : parseFieldDescriptor (T k).2.2.1 = some ft) (hn : ∀ x, narrow ft (.ref x) = .ref x) (hfit : ∀ x, fits ft (.ref x) = true) (hE : hk_set E E1 a k r) (hdg : decode cc pc = .ok (.putfield index, 3))
    (kk : ∀ (H1 : Heap) (locs1 : List Loc), hk_GG g E1 S n s H1 locs1 → W p l e R s m args below meth c H1 locs1 cells slots Q (F0 m (pc + 3) ls rest)) : W p l e R s m args below meth c H locs cells slots Q (F0 m pc ls (.ref (g.1 + r) :: .ref (g.1 + a) :: rest)) := by
  obtain ⟨hx, hb, hml, hown, hts⟩ := F
  obtain ⟨c1, c2, c3, c4, c5, c6⟩ := hc
  obtain ⟨⟨hH, hsz, hK⟩, hS, hZ, hg⟩ := G
  have hP := hH.one ha (Nat.succ_ne_zero ci)
  rw [hk_cell_o c1] at hP
  have hap := va_apart (own := own) hts c4 ty c5 c6 hK c2
  obtain ⟨r', h1, cell, q1, q2, q3, q4⟩ := hP 0 _ rfl
  have hr : r' = (C, T, N) := Option.some.inj (h1.symm.trans c2)
  subst hr
  obtain ⟨hS0, hfc, kC, hkC, hkind⟩ := hK.1 ci _ c2
  obtain ⟨cf, kf, fi, f, hi, hsl⟩ := hS0 k hk
  have hlay := hts _ (c4 _ (u_in_lay hk))
  unfold u_lay at hlay
  rw [if_pos hfin] at hlay
  have hst := (u_facts hfc hkC (u_lays hts c4 hk) hi).1
  have hcf : m.cls = cf := by
    obtain ⟨_, _, c', _, _, _, -, -, hf', -, -, -, hown2, -⟩ := Cond.laysFinal_spec hlay
    have e1 : c' = cf := by have := hi.symm.trans hf'; simp at this; exact this.1.symm
    rw [hdecl] at hown2
    rw [← e1]; exact Option.some.inj (hown.symm.trans hown2)
  have h6 := u_fits hfc hkC hkind (Or.inr hlay) hi hd (hn (g.1 + r)) (hfit (g.1 + r))
  refine W.putFinK hx hb hown (hts _ hl) hi hst hcf hin (by rw [q2]; exact h6) q1 q3 (by rw [hsl]; exact k2_hasslot (q4 k hk)) rfl rfl hdg fun H' e1 e2 e3 => ?_
  rw [hsl] at e1 ⊢
  refine kk H' _ ⟨⟨hH.setR hE ha e2 e3 ?_, by rw [e2]; exact hsz, hK⟩, hS.put e2 e3 (Nat.le_add_right _ _), hZ, hg⟩
  rw [hk_cell_o c1, ← hk_flds_putR (by rw [c3]; exact hk) hs]
  exact ⟨_, c2, t_OB.to (V := updV (vp_V (hk_flds g ci (S a) (E.2.2.2 a))) k (.ref (g.1 + r))) ⟨_, e1, q2, q3, t_set q4 hap hk (.ref (g.1 + r))⟩ (fun j _ => vp_updV_set (by rw [hk_flds_len, c3]; exact hk) (.ref (g.1 + r)) j)⟩
theorem hk_aast (F : CallFix p m c cc nL s args hk_W own) (G : hk_GG g E S n s H locs) {a t ci ln r j : Nat} {q : vw_C} {i : Int32} (ht : t < 3) (ha : E.2.1 a = t + 14) (hr : E.2.1 r = ci + 1) (hci : ci < 10) (hcc : vwCl[ci]? = some q) (hty : (hk_tys g)[t + 3]? = some (g.2.2.1 (t + 3), .object q.1)) (hln : E.2.2.1 a = ln) (h0 : ¬ i < 0) (hj : i.toNatClampNeg = j) (hlt : j < ln) (hE : hk_set E E1 a j r) (hdg : decode cc pc = .ok (.aastore, 1))
    (kk : ∀ (H1 : Heap) (locs1 : List Loc), hk_GG g E1 S n s H1 locs1 → W p l e R s m args below meth c H1 locs1 cells slots Q (F0 m (pc + 1) ls rest)) : W p l e R s m args below meth c H locs cells slots Q (F0 m pc ls (.ref (g.1 + r) :: .int i :: .ref (g.1 + a) :: rest)) := by
  obtain ⟨hx, hb, hml, hown, hts⟩ := F
  obtain ⟨⟨hH, hsz, hK⟩, hS, hZ, hg⟩ := G
  subst hj
  have hP := hH.one ha (by omega)
  rw [hk_cell_q ht, hln] at hP
  have hV := hH.one hr (by omega)
  rw [hk_cell_o hci] at hV
  obtain ⟨r', hr', cellV, g1, g2, g3, -⟩ := hV 0 _ rfl
  have hcls := (hK.1 ci q hcc).2
  obtain ⟨kA, comp, k1, k2, k3, -⟩ := (hK.2 (t + 3) _ hty).2
  have hcomp : comp = g.2.1.1 ci := Option.some.inj (k3.symm.trans hcls.1)
  subst hcomp
  obtain ⟨kC, hkC, -⟩ := hcls.2
  refine W.aast hx hb (hP 0 _ rfl) (fun q h => by cases h) (fun h => by cases h) k1 k2 rfl hkC ⟨h0, by show _ < (arrV _ _ _).slots.size; rw [arrV_size]; exact hlt⟩ g1 (fun q h => by rw [g3] at h; cases h) (by rw [g2]; exact hkC) (by rw [g2]; exact va_assign hcls) rfl rfl hdg fun H1 e z oq => ?_
  refine kk H1 _ ⟨⟨hH.setR hE ha z oq ?_, by rw [z]; exact hsz, hK⟩, hS.put z oq (Nat.le_add_right _ _), hZ, hg⟩
  rw [hk_cell_q ht, hln]
  show H1[g.1 + a]? = some (vp_cell _ _)
  rw [e, vp_cell_q, vp_cell_q, arrV_store]
  congr 2
  funext q
  by_cases hq : q = i.toNatClampNeg
  · subst hq
    simp [updV, va_up, va_rf]
  · simp [updV, va_up, hq]
/-- the words of a call of a constructor -/
def hk_yI (own : String) (index : Nat) (y : MethodName) (b : ByteArray) (maxL : Nat) : Prop := Cond.code y b maxL none ∈ hk_W ∧ Cond.methodLink own index y ∈ hk_W ∧ Cond.instanceMethod y ∈ hk_W ∧ Cond.initialized y.cls ∈ hk_W ∧ y.name = "<init>" ∧ (y.cls ≠ "java/lang/invoke/MethodHandle" ∧ y.cls ≠ "java/lang/invoke/VarHandle" ∧ (parseMethodDescriptor y.desc).map (fun d => d.parameters.length) = some 0)
def hk_yIN (own : String) (index : Nat) (y : MethodName) (b : ByteArray) (maxL : Nat) (host : String) : Prop := Cond.code y b maxL none ∈ hk_W ∧ (own, index, y, host) ∈ hk_nest ∧ Cond.instanceMethod y ∈ hk_W ∧ Cond.initialized y.cls ∈ hk_W ∧ y.name = "<init>" ∧ (y.cls ≠ "java/lang/invoke/MethodHandle" ∧ y.cls ≠ "java/lang/invoke/VarHandle" ∧ (parseMethodDescriptor y.desc).map (fun d => d.parameters.length) = some 0)
theorem hk_callI (F : CallFix p m c cc nL s args hk_W own) (G : hk_GG g E S n s H locs) {a index maxL mc ms : Nat} {y : MethodName} {b : ByteArray} {rm : Room} {S1 : hk_S} {n1 : Nat}
    (hM : Met l y (hk_ws y b maxL none) rm (hk_Pc g E S n [.ref (g.1 + a)]) (hk_Q g E1 S1 n1 none) mc ms (hk_A g)) (hy : hk_yI own index y b maxL) (hrm : rm.cells = mc ∧ rm.slots = ms ∧ rm.frames + 1 ≤ R.frames ∧ 8 + (maxL + 11) + rm.locals ≤ R.locals) (hL : ls.size = nL) (hrest : (rest.map fun v => v.category).sum ≤ 8) (hf : cells + mc ≤ R.cells ∧ slots + ms ≤ R.slots) (hdg : decode cc pc = .ok (.invokespecial index, 3))
    (kk : ∀ (H1 : Heap) (locs1 : List Loc), hk_GG g E1 S1 n1 s H1 locs1 → W p l e R s m args below meth c H1 locs1 (cells + mc) (slots + ms) Q (F0 m (pc + 3) ls rest)) : W p l e R s m args below meth c H locs cells slots Q (F0 m pc ls (.ref (g.1 + a) :: rest)) := by
  obtain ⟨w1, w2, w3, w5, w6, d1, d2, d3⟩ := hy
  exact hk_call (va_runI (bytes := b) (maxL := maxL) (As := []) (rest := rest) F hM ⟨callB_of 0 F.2.2.2.2 (hk_goodws w1) rfl hrm.1 hrm.2.1 (F.2.2.2.2 _ w5) (F.2.2.2.2 _ w2) ⟨d1, d2, d3⟩ hrm.2.2, w6, F.2.2.2.2 _ w3⟩ ⟨hk_blind, hk_pre G _⟩ rfl rfl hL rfl (lv_room hrest) hdg hf) G kk
theorem hk_callIN (F : CallFix p m c cc nL s args hk_W own) (G : hk_GG g E S n s H locs) {a index maxL mc ms : Nat} {y : MethodName} {host : String} {b : ByteArray} {rm : Room} {S1 : hk_S} {n1 : Nat}
    (hM : Met l y (hk_ws y b maxL none) rm (hk_Pc g E S n [.ref (g.1 + a)]) (hk_Q g E1 S1 n1 none) mc ms (hk_A g)) (hy : hk_yIN own index y b maxL host) (hrm : rm.cells = mc ∧ rm.slots = ms ∧ rm.frames + 1 ≤ R.frames ∧ 8 + (maxL + 11) + rm.locals ≤ R.locals) (hL : ls.size = nL) (hrest : (rest.map fun v => v.category).sum ≤ 8) (hf : cells + mc ≤ R.cells ∧ slots + ms ≤ R.slots) (hdg : decode cc pc = .ok (.invokespecial index, 3))
    (kk : ∀ (H1 : Heap) (locs1 : List Loc), hk_GG g E1 S1 n1 s H1 locs1 → W p l e R s m args below meth c H1 locs1 (cells + mc) (slots + ms) Q (F0 m (pc + 3) ls rest)) : W p l e R s m args below meth c H locs cells slots Q (F0 m pc ls (.ref (g.1 + a) :: rest)) := by
  obtain ⟨w1, w2, w3, w5, w6, d1, d2, d3⟩ := hy
  have hnest := G.2.2.1.2.1 _ w2
  exact hk_call (va_runIN (bytes := b) (maxL := maxL) (As := []) (rest := rest) F hM ⟨va_cnB (host := host) 0 F.2.2.2.2 (hk_goodws w1) rfl hrm.1 hrm.2.1 hnest (F.2.2.2.2 _ w5) ⟨d1, d2, d3⟩ hrm.2.2, w6, F.2.2.2.2 _ w3⟩ ⟨hk_blind, hk_pre G _⟩ rfl rfl hL rfl (lv_room hrest) hdg hf) G kk
theorem hk_obj (F : CallFix p m c cc nL s args hk_W own) {a index : Nat} (hl : Cond.methodLink own index Lib.objectInit ∈ hk_W) (hi : Cond.instanceMethod Lib.objectInit ∈ hk_W) (hc : Cond.code Lib.objectInit ⟨#[0xb1]⟩ 1 none ∈ hk_W) (hL : ls.size = nL) (hR : 1 ≤ R.frames ∧ (rest.map fun v => v.category).sum + 12 ≤ R.locals) (hdg : decode cc pc = .ok (.invokespecial index, 3))
    (kk : W p l e R s m args below meth c H locs cells slots Q (F0 m (pc + 3) ls rest)) : W p l e R s m args below meth c H locs cells slots Q (F0 m pc ls (.ref a :: rest)) :=
  W.objInit F.1 F.2.1 F.2.2.2.1 (F.2.2.2.2 _ hl) (F.2.2.2.2 _ hi) (F.2.2.2.2 _ hc) (g := F0 m pc ls (.ref a :: rest)) rfl (hL.trans F.2.2.1.symm) rfl hdg hR.1 (by show 2 * 0 + _ + 12 ≤ _; omega) kk
end HKC
