section HKS
variable {p : Program} {l : Launch} {e : Env} {R : Room} {s : State} {m : MethodId} {args : Array Value} {below : List Frame} {meth : Method} {c : Code} {H : Heap} {locs : List Loc} {cells slots : Nat} {Q : State → Prop}
variable {cc : ByteArray} {nL pc : Nat} {ls : Array Slot} {rest : List Value} {own : String} {g : hk_G} {E : hk_E} {S : hk_S} {n : Nat}
theorem hk_en_ref {ad : Nat → Nat} {x : Int32} (h : ¬ x < 0) : hk_en ad x = .ref (ad x.toNatClampNeg) := by
  unfold hk_en
  rw [if_neg h]
theorem hk_en_null {ad : Nat → Nat} {x : Int32} (h : x < 0) : hk_en ad x = .null := by
  unfold hk_en
  rw [if_pos h]
theorem hk_en_cat (ad : Nat → Nat) (x : Int32) : (hk_en ad x).category = 1 := by
  unfold hk_en
  by_cases h : x < 0
  · rw [if_pos h]; rfl
  · rw [if_neg h]; rfl
theorem hk_en_or (ad : Nat → Nat) (x : Int32) : hk_en ad x = .null ∨ ∃ a, hk_en ad x = .ref a := by
  by_cases h : x < 0
  · exact Or.inl (hk_en_null h)
  · exact Or.inr ⟨_, hk_en_ref h⟩
theorem hk_topl {x y : Int64} (h : x = y) (k : W p l e R s m args below meth c H locs cells slots Q (F0 m pc ls (.long y :: rest))) : W p l e R s m args below meth c H locs cells slots Q (F0 m pc ls (.long x :: rest)) := by
  subst h
  exact k
theorem hk_getEND (F : CallFix p m c cc nL s args hk_W own) (G : hk_GG g E S n s H locs) {index : Nat} (hl : Cond.fieldLink own index "WitheringLoft$Token" "END" "LWitheringLoft$Token;" ∈ hk_W) (hdg : decode cc pc = .ok (.getstatic index, 3))
    (kk : W p l e R s m args below meth c H locs cells slots Q (F0 m (pc + 3) ls (hk_en (g.2.2.2 2) 5 :: rest))) : W p l e R s m args below meth c H locs cells slots Q (F0 m pc ls rest) := by
  rw [hk_en_ref (by decide)] at kk
  exact va_gets F.1 F.2.1 G.2.2.1.1 G.2.1 F.2.2.2.1 (F.2.2.2.2 _ hl) (fun _ h => h) hdg kk
theorem hk_pushE {w w' : Value} (h : w' = w) (kk : W p l e R s m args below meth c H locs cells slots Q (F0 m pc ls (w :: rest))) : W p l e R s m args below meth c H locs cells slots Q (F0 m pc ls (w' :: rest)) := by
  subst h
  exact kk
theorem hk_putE (F : CallFix p m c cc nL s args hk_W own) (G : hk_GG g E S n s H locs) {a ci N k index : Nat} {C : String} {T : u_T} {ty : Nat → FieldType} {v : Int32} {nm : String} (ha : E.2.1 a = ci + 1) (hc : hk_cls ci C T N ty) (hk : k < N) (hl : Cond.fieldLink own index (T k).1 (T k).2.1 (T k).2.2.1 ∈ hk_W) (hs : hk_sort ci k = 2) (hfin : (T k).2.2.2 = false) (hd : parseFieldDescriptor (T k).2.2.1 = some (.object nm)) (hdg : decode cc pc = .ok (.putfield index, 3))
    (kk : ∀ (H1 : Heap) (locs1 : List Loc), hk_GG g E (hk_up S a k v) n s H1 locs1 → W p l e R s m args below meth c H1 locs1 cells slots Q (F0 m (pc + 3) ls rest)) : W p l e R s m args below meth c H locs cells slots Q (F0 m pc ls (hk_en (g.2.2.2 2) v :: .ref (g.1 + a) :: rest)) := by
  refine hk_put F G ha hc hk hl hfin hd ?_ ?_ (hk_flds_put (by rw [hc.2.2.1]; exact hk) (by unfold hk_fld; rw [hs, pk_us]; rfl)) hdg kk
  · by_cases h : v < 0
    · rw [hk_en_null h]; rfl
    · rw [hk_en_ref h]; rfl
  · by_cases h : v < 0
    · rw [hk_en_null h]; rfl
    · rw [hk_en_ref h]; rfl
theorem hk_callSNi (F : CallFix p m c cc nL s args hk_W own) (G : hk_GG g E S n s H locs) {index np maxL : Nat} {y : MethodName} {host : String} {b : ByteArray} {ret : Option FieldType} {rm : Room} {v : Int32} {E1 : hk_E} {S1 : hk_S} {n1 : Nat} {As st : List Value}
    (hM : Met l y (hk_ws y b maxL ret) rm (hk_Pc g E S n As) (hk_Q g E1 S1 n1 (some (.int v))) 0 0 (hk_A g)) (hy : (own, index, y, host) ∈ hk_nest ∧ Cond.code y b maxL ret ∈ hk_W ∧ Cond.static y ∈ hk_W ∧ Cond.initialized y.cls ∈ hk_W ∧ (y.cls ≠ "java/lang/invoke/MethodHandle" ∧ y.cls ≠ "java/lang/invoke/VarHandle" ∧ (parseMethodDescriptor y.desc).map (fun d => d.parameters.length) = some np)) (hrm : rm.cells = 0 ∧ rm.slots = 0 ∧ rm.frames + 1 ≤ R.frames ∧ 8 + (maxL + 11) + rm.locals ≤ R.locals) (hn : As.length = np) (hL : ls.size = nL) (hst : st = As.reverse ++ rest) (hrest : (rest.map fun v => v.category).sum ≤ 8) (hf : cells ≤ R.cells ∧ slots ≤ R.slots) (hdg : decode cc pc = .ok (.invokestatic index, 3))
    (kk : ∀ (H1 : Heap) (locs1 : List Loc), hk_GG g E1 S1 n1 s H1 locs1 → W p l e R s m args below meth c H1 locs1 cells slots Q (F0 m (pc + 3) ls (.int v :: rest))) : W p l e R s m args below meth c H locs cells slots Q (F0 m pc ls st) := by
  obtain ⟨w0, w1, w3, w5, d⟩ := hy
  have hnest := G.2.2.1.2.1 _ w0
  exact hk_call (va_runSN (As := As) (rest := rest) F hM ⟨va_cnB (host := host) np F.2.2.2.2 (hk_goodws w1) rfl hrm.1 hrm.2.1 hnest (F.2.2.2.2 _ w5) d hrm.2.2, F.2.2.2.2 _ w3, trivial⟩ ⟨hk_blind, hk_pre G _⟩ rfl hn hL hst (lv_room hrest) hdg hf) G kk
end HKS
theorem hk_outs {x : Int32} {lo hi : Int} {n : Nat} {L : List Int32} (h : ∀ y ∈ L, ¬ x = y) (hL : (List.range n).all (fun k => L.contains (Int32.ofInt (lo + (k : Int)))) = true) (hh : lo + (n : Int) - 1 = hi) : x.toInt < lo ∨ hi < x.toInt := by
  rw [← hh]
  refine hk_sw (fun k hk e => ?_)
  have h1 := List.all_eq_true.mp hL k (List.mem_range.mpr hk)
  exact h _ (List.contains_iff_mem.mp h1) e
