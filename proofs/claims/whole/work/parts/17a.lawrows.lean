/-! The law's own rows: an array of longs, wrappers that catch, calls of them. -/
def hk_QN (g : hk_G) (E : hk_E) (S : hk_S) (v : Option Value) : Array Value → State → Outcome → State → Prop := fun a st oc t => ∃ n, hk_Q g E S n v a st oc t
def hk_XF : String → State → State → Prop := fun _ _ _ => False
section HKL
variable {p : Program} {l : Launch} {e : Env} {R : Room} {s : State} {m : MethodId} {args : Array Value} {below : List Frame} {meth : Method} {c : Code} {H : Heap} {locs : List Loc} {cells slots : Nat} {Q : State → Prop}
variable {cc : ByteArray} {nL pc : Nat} {ls : Array Slot} {rest : List Value} {own : String} {g : hk_G} {E : hk_E} {S : hk_S} {n : Nat}
theorem hk_last (F : CallFix p m c cc nL s args hk_W own) (G : hk_GG g E S n s H locs) {a ln j : Nat} {i y : Int32} {x : Int64} (hy : x = y.toInt64) (ha : E.2.1 a = 17) (hn : E.2.2.1 a = ln) (hin : vp_in i ln) (hj : i.toNatClampNeg = j) (hdg : decode cc pc = .ok (.lastore, 1))
    (kk : ∀ (H1 : Heap) (locs1 : List Loc), hk_GG g E (hk_up S a j y) n s H1 locs1 → W p l e R s m args below meth c H1 locs1 cells slots Q (F0 m (pc + 1) ls rest)) : W p l e R s m args below meth c H locs cells slots Q (F0 m pc ls (.long x :: .int i :: .ref (g.1 + a) :: rest)) := by
  subst hj
  subst hy
  have hP := G.1.1.one ha (by decide)
  rw [hk_cell_l, hn] at hP
  refine W.last F.1 F.2.1 (hP 0 _ rfl) ((G.1.2.2.2 6 _ rfl).1 ln (fun j => .long (S a j).toInt64)) (fun q => by cases q) (by show ¬ (i < 0 ∨ (arrV _ _ _).slots.size ≤ _); rw [arrV_size]; exact hin) rfl rfl hdg fun H1 e1 z o => ?_
  refine kk H1 _ (hk_stored G ha (by decide) z o ?_)
  rw [hk_cell_l, hn]
  show H1[g.1 + a]? = some (vp_cell _ _)
  rw [e1, vp_cell_l, vp_cell_l, arrV_store]
  congr 2
  funext q
  by_cases hq : q = i.toNatClampNeg
  · subst hq
    simp [updV, upd]
  · simp [updV, upd, hq]
/-- a wrapper's words -/
abbrev hk_wsW (y : MethodName) (b : ByteArray) (maxL : Nat) (ret : Option FieldType) (hh : List (Nat × Nat × Nat × Nat)) : List Cond := .codeWith y b maxL ret hh :: hk_W
theorem hk_inW {y : MethodName} {b : ByteArray} {maxL : Nat} {ret : Option FieldType} {hh : List (Nat × Nat × Nat × Nat)} {w : Cond} (h : w ∈ hk_W) : w ∈ hk_wsW y b maxL ret hh := List.mem_cons_of_mem _ h
def hk_yW (own : String) (index : Nat) (y : MethodName) (b : ByteArray) (maxL : Nat) (ret : Option FieldType) (hh : List (Nat × Nat × Nat × Nat)) (np : Nat) : Prop :=
  Cond.codeWith y b maxL ret hh ∈ hk_W ∧ Cond.methodLink own index y ∈ hk_W ∧ Cond.static y ∈ hk_W ∧ Cond.initialized y.cls ∈ hk_W ∧ (y.cls ≠ "java/lang/invoke/MethodHandle" ∧ y.cls ≠ "java/lang/invoke/VarHandle" ∧ (parseMethodDescriptor y.desc).map (fun d => d.parameters.length) = some np)
theorem hk_goodwsW {y : MethodName} {b : ByteArray} {maxL : Nat} {ret : Option FieldType} {hh : List (Nat × Nat × Nat × Nat)} (h : Cond.codeWith y b maxL ret hh ∈ hk_W) : GoodIn hk_W (hk_wsW y b maxL ret hh) := by
  intro w hw
  have hw2 : w ∈ hk_W := by
    rcases List.mem_cons.mp hw with q | q
    · rw [q]; exact h
    · exact q
  exact ⟨hw2, hk_good w hw2⟩
theorem hk_callW (F : CallFix p m c cc nL s args hk_W own) (G : hk_GG g E S n s H locs) {index np maxL mc ms : Nat} {y : MethodName} {b : ByteArray} {ret : Option FieldType} {hh : List (Nat × Nat × Nat × Nat)} {rm : Room} {v : Int32} {S1 : hk_S} {As st : List Value}
    (hM : vx_Met l y (hk_wsW y b maxL ret hh) rm (hk_Pc g E S n As) (hk_QN g E S1 (some (.int v))) hk_XF mc ms (hk_A g)) (hy : hk_yW own index y b maxL ret hh np) (hrm : rm.cells = mc ∧ rm.slots = ms ∧ rm.frames + 1 ≤ R.frames ∧ 8 + (maxL + 11) + rm.locals ≤ R.locals) (hn : As.length = np) (hL : ls.size = nL) (hst : st = As.reverse ++ rest) (hrest : (rest.map fun v => v.category).sum ≤ 8) (hf : cells + mc ≤ R.cells ∧ slots + ms ≤ R.slots) (hdg : decode cc pc = .ok (.invokestatic index, 3))
    (kk : ∀ (n1 : Nat) (H1 : Heap) (locs1 : List Loc), hk_GG g E S1 n1 s H1 locs1 → W p l e R s m args below meth c H1 locs1 (cells + mc) (slots + ms) Q (F0 m (pc + 3) ls (.int v :: rest))) : W p l e R s m args below meth c H locs cells slots Q (F0 m pc ls st) := by
  obtain ⟨w1, w2, w3, w5, d1, d2, d3⟩ := hy
  have hc : Cond.codeWith y b maxL ret hh ∈ hk_wsW y b maxL ret hh := List.mem_cons_self
  have hr := vx_runSX (hh := hh) (bytes := b) (maxL := maxL) (ret := ret) (As := As) (rest := rest) (g := F0 m pc ls st) (n := np) (index := index) (cells := cells) (slots := slots) (locs := locs) (H := H) (R := R) (e := e) (below := below) (meth := meth) F hM
    ⟨⟨hrm.1, hrm.2.1, hrm.2.2.1, hrm.2.2.2, pay_in F.2.2.2.2 (hk_goodwsW w1), hc⟩, F.2.2.2.2 _ w1, F.2.2.2.2 _ w5, ⟨d1, d2⟩, fun sig h => by rw [h] at d3; exact (Option.some.inj d3).symm, F.2.2.2.2 _ w2, F.2.2.2.2 _ w3⟩ ⟨hk_blind, hk_pre G _⟩ rfl hn hL hst (lv_room hrest) hdg hf
  intro T hT X
  obtain ⟨-, hS, hZ, hg⟩ := G
  rcases hr T hT X with ⟨v', st0, t, T', L, h0, X', hL2, e1, e2, ⟨n1, hv, ⟨hH, hsz, hK⟩, hF⟩, st⟩ | ⟨q, st0, t, T', L, E9, ce, h0, X', hL2, e1, e2, hf9, -, -, -, -⟩
  · cases hv
    obtain ⟨k1, k2, k3⟩ := vx_keep h0 e1 hS (fun _ _ h => h) (fun _ h => h) hL2 hF
    obtain ⟨t2, a1, b1⟩ := kk n1 T'.heap (locs ++ L) ⟨⟨by rw [e1]; exact hH, by rw [e1]; exact hsz, va_K.moved (by rw [← e2]; exact X'.warmed.alike.symm) hK⟩, k3, hZ, hg⟩ T' rfl X'
    exact ⟨t2, st t2 a1, b1⟩
  · exact hf9.elim
/-- the end of a wrapper -/
theorem hk_endN (G : hk_GG g E S n s H locs) {v : Option Value} {t : State} (ht : t.heap = H) (hW : s.WarmedH t.vm) : hk_QN g E S v args s (.returned v) t := ⟨n, hk_end G ht hW⟩
/-- an exception of the class that is number k is caught -/
theorem hk_caught (F : CallFix p m c cc nL s args hk_W own) (G : hk_GG g E S n s H locs) {k : Nat} {ce : Cell} {q9 : Addr} (h1 : H[q9]? = some ce) (h2 : ce.vm = .none) (h3 : s.vm.findClass (hk_xn k) = some ce.cls) (pre : List ExceptionTableEntry) (x : ExceptionTableEntry) (suf : List ExceptionTableEntry) (hsplit : c.exceptionTable.toList = pre ++ x :: suf)
    (hpass : ∀ z ∈ pre, covers z pc = false ∨ (z.catchType ≠ 0 ∧ ∃ nm : String, Cond.classLink own z.catchType nm ∈ hk_W ∧ (hk_xn k, nm) ∈ hk_ncas)) (hx : covers x pc = true) (h0 : x.catchType ≠ 0) {name : String} (hlink : Cond.classLink own x.catchType name ∈ hk_W) (hcast : (hk_xn k, name) ∈ hk_cas)
    (kk : W p l e R s m args below meth c H locs cells slots Q (F0 m x.handlerPc ls [.ref q9])) : vx_W p l e R s m args below meth c H locs cells slots Q (F0 m pc ls rest) q9 := by
  refine vx_catch F.2.2.2.1 pre x suf hsplit (fun z hz => ?_) hx h0 (F.2.2.2.2 _ hlink) (va_Nw.use rfl (G.2.2.1.2.2.2.2.2.2.2.2.2.1 _ hcast)) h1 h2 h3 kk
  rcases hpass z hz with h | ⟨a1, nm, a2, a3⟩
  · exact Or.inl h
  · exact Or.inr ⟨a1, nm, F.2.2.2.2 _ a2, G.2.2.1.2.2.2.2.2.2.2.2.2.2.1 _ a3⟩
end HKL
