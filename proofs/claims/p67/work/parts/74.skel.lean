/-! THE CLAIM OUT OF ONE WALK OF THE LAW'S BODY. Your part is whole_start (and what it stands on); all else here is the same for every law, but numbers. -/
def R_law : String := "WitheringLoftLaw"
def lw_P (b : Addr) (xs : List Int32) (args : Array Value) (s : State) : Prop := args = #[.ref b] ∧ s.IntsAt b xs ∧ xs.length ≤ 260 ∧ (Jvm.Cond.and given_1 narrow_1).before args s = true
def lw_Q (_ : Array Value) (s : State) (o : Outcome) (t : State) : Prop := o = .returned (some (.int 1)) ∧ Framed s o t [] 617508 7249174
def lw_Z (below : List Frame) (a : Array Value) (s : State) : State → Prop := fun t => ∃ o, t.status = .running ∧ Ended t below o ∧ lw_Q a s o t
/-- the law's own end, with 1 on the stack, nothing written that was there before, its room as the claim has it -/
theorem lw_ret {p : Program} {l : Launch} {e : Env} {s : State} {m : MethodId} {below : List Frame} {meth : Method} {c : Code} {b : Nat} (hx : p.tables.exec = Jvm.exec) (hb : c.code = code) (hr : meth.sig.returnType = ret) (hlocks : meth.locks = false) {pc : Nat} {H : Heap} {ls : Array Slot} (hdg : decode code pc = .ok (.ireturn, 1)) : W p l e room_1 s m #[Value.ref b] below meth c H [] 617508 7249174 (lw_Z below #[Value.ref b] s) (F0 m pc ls [.int 1]) := by
  intro T hT X
  obtain ⟨fs, hret, hrun, hended, hW, hframe⟩ := X.leave (v := some (.int 1)) (hlocks := hlocks) (fun h => by rw [hr] at h; cases h)
  have hmeth' : T.vm.method? m = some meth := X.method'
  refine ⟨T.setFrames fs, ?_, .returned (some (.int 1)), hrun, hended, rfl, ⟨_, rfl⟩, hW, hframe⟩
  jvm_step X.here [X.here.top, hx, hb, hdg, hmeth', hr, ret, narrow_b1]
  (try refine ⟨rfl, ?_⟩); (try refine ⟨rfl, ?_⟩)
  first | (intro acts; rw [hret _ acts rfl rfl rfl]) | rw [hret _ _ rfl rfl rfl]
  exact Steps.refl _
/-- what holds at the law's entry: the machine, the code, the tables' words (any of lw_tbl by 'hts w (by decide +kernel)'), the script of L ints xs at the cell b, what the Statement gives of the start (any of its parts by flat_of_before) -/
def lw_At (p : Program) (s : State) (m : MethodId) (meth : Method) (c : Code) (b L : Nat) (xs : Nat → Int32) : Prop :=
  p.tables.exec = Jvm.exec ∧ c.code = code ∧ meth.sig.returnType = ret ∧ c.maxLocals = 8 ∧ s.vm.findClass R_law = some m.cls ∧ (∀ w ∈ lw_tbl, w.before #[Value.ref b] s = true) ∧ va_X b L xs s s.heap ∧ b < s.heap.size ∧ meth.locks = false ∧ (Jvm.Cond.and given_1 narrow_1).before #[Value.ref b] s = true
section HKLAW
variable {p : Program} {l : Launch} {e : Env} {s : State} {m : MethodId} {below : List Frame} {meth : Method} {c : Code} {Q : State → Prop} {b L : Nat} {xs : Nat → Int32} {g : hk_G}
set_option maxHeartbeats 4000000 in
theorem klaw_loop (hC : hk_LC p s m meth c b L xs g) (F : Nat) (cs : Nat → Int32) (hcs : ∀ j : Nat, lw_cell L xs (nI j) = cs j) {cells slots : Nat} (hf : cells ≤ room_1.cells ∧ slots ≤ room_1.slots) (o : hk_S) (kk : ∀ (n1 : Nat) (H1 : Heap) (locs1 : List Loc) (ls1 : Array Slot), hk_GG g (hk_EE 221 220) o n1 s H1 locs1 → lv_has ls1 8 [(0, .ref b), (1, .ref (g.1 + 0)), (2, .int (nI 12))] → W p l e room_1 s m #[Value.ref b] below meth c H1 locs1 cells slots Q (F0 m 215 ls1 [])) : ∀ (d j : Nat), j + d = 12 → ∀ (n : Nat) (S : hk_S) (H : Heap) (locs : List Loc) (ls : Array Slot), hk_GG g (hk_EE 221 220) S n s H locs → lv_has ls 8 [(0, .ref b), (1, .ref (g.1 + 0)), (2, .int (nI j))] → mlaw_loop F cs d j S = some o → W p l e room_1 s m #[Value.ref b] below meth c H locs cells slots Q (F0 m 73 ls []) := by
  have F9 := hC.1
  have hx := F9.1
  have hb := F9.2.1
  intro d
  induction d with
  | zero =>
    intro j hj n S H locs ls G hl hsp
    have hj12 : j = 12 := by omega
    subst hj12
    refine lv_iload_n hx hb dL_law_73 rfl (lv_at hl 2 rfl) ?_
    refine lv_bipush (v := 12) hx hb dL_law_74 (by decide) ?_
    refine lv_icmp_ge (tgt := 215) hx hb dL_law_76 (by decide) (fun _ => ?_) (fun hc => ?_)
    · cases hsp
      exact kk n H locs ls G hl
    · exact absurd (by decide) hc
  | succ d ih =>
    intro j hj n S H locs ls G hl hsp
    rw [mlaw_loop] at hsp
    dsimp only at hsp
    obtain ⟨S1, e1, hsp⟩ := hk_b hsp
    refine lv_iload_n hx hb dL_law_73 rfl (lv_at hl 2 rfl) ?_
    refine lv_bipush (v := 12) hx hb dL_law_74 (by decide) ?_
    refine lv_icmp_ge (tgt := 215) hx hb dL_law_76 (by decide) (fun hc => ?_) (fun _ => ?_)
    · exact absurd hc (nI_ge (a := j) (b := 12) (by omega) (by omega))
    · refine klaw_body hC F (k := nI j) (ck := cs j) ⟨nI_pos' (by omega), (nI_leI (b := 12) (by omega) (by omega)).mpr (by omega)⟩ hf G hl S1 e1 (hcs j) (fun n1 H1 locs1 ls1 G1 hl1 => ?_)
      refine lv_iinc (v := nI (j + 1)) (lv' := [(2, .int (nI (j + 1))), (0, .ref b), (1, .ref (g.1 + 0))]) hx hb dL_law_209 hl1 (k := 2) rfl (by rw [← nI_1]; rfl) (by decide) rfl (fun ls hl => ?_)
      refine lv_goto (tgt := 73) hx hb dL_law_212 (by decide) ?_
      exact ih (j + 1) (by omega) n1 S1 H1 locs1 ls G1 (lv_sub hl [1, 2, 0] rfl) hsp
end HKLAW
set_option maxHeartbeats 4000000 in
theorem whole_start {p : Program} {e : Env} {s : State} {m : MethodId} {below : List Frame} {meth : Method} {c : Code} (l : Launch) (hflags : l.flags = flags0) {b L : Nat} {xs : Nat → Int32} (hL : L ≤ 260) (C0 : lw_At p s m meth c b L xs) : W p l e room_1 s m #[Value.ref b] below meth c s.heap [] 0 0 (lw_Z below #[Value.ref b] s) (entryFrame m ([Value.ref b] : List Value).toArray 8) := by
  obtain ⟨hx, hb, hr, hml, hown, hts, hX, hbl, hlocks, hgv⟩ := C0
  obtain ⟨g, hg, G⟩ := hk_world hts hgv
  obtain ⟨o1, o2, o3, o4, e1, e2, e3, e4⟩ := hk_pure (fun j => lw_cell L xs (nI j))
  have hC : hk_LC p s m meth c b L xs g := ⟨⟨hx, hb, hml, hown, fun w hw => hts w (List.mem_filter.mp hw).1⟩, hlocks, hX, hbl, fun h => absurd (show g.1 ≤ b from h) (by rw [hg]; exact Nat.not_le.mpr hbl), by omega⟩
  have hf : 221 ≤ room_1.cells ∧ 2205 ≤ room_1.slots := ⟨Nat.le_of_ble_eq_true rfl, Nat.le_of_ble_eq_true rfl⟩
  have hl := lv_entry ([Value.ref b]) (n := 8) (Nat.le_of_ble_eq_true rfl)
  rw [lg_entry_eq]
  generalize (lg_sl ([Value.ref b]) ++ List.replicate (8 - (lg_sl ([Value.ref b])).length) Slot.unset).toArray = ls at hl ⊢
  have hl : lv_has ls 8 [(0, .ref b)] := hl
  refine klaw_start hC hk_F G hl o1 e1 (fun H1 locs1 ls1 G1 hl1 => ?_)
  refine klaw_pre hC hk_F hf G1 hl1 o2 e2 rfl rfl (fun n2 H2 locs2 ls2 G2 hl2 => ?_)
  refine lv_iconst (v := 0) hx hb dL_law_71 (by decide) ?_
  refine lv_istore_n (lv' := [(2, .int (nI 0)), (0, .ref b), (1, .ref (g.1 + 0))]) hx hb dL_law_72 rfl hl2 (by decide) rfl (fun ls hl => ?_)
  refine klaw_loop hC hk_F (fun j => lw_cell L xs (nI j)) (fun _ => rfl) hf o3 (fun n3 H3 locs3 ls3 G3 hl3 => ?_) 12 0 (by omega) n2 o2 H2 locs2 ls G2 (lv_sub hl [1, 2, 0] rfl) e3
  refine klaw_end hC hk_F hf G3 (lv_sub hl3 [0, 1] rfl) o4 e4 rfl rfl (fun n4 H4 locs4 ls4 G4 => ?_)
  refine va_forget (fun q hq => by rw [← hg]; exact G4.2.1.2.2 q hq) ?_
  refine W.widen (k := 617508) (n := 7249174) (Nat.le_of_ble_eq_true rfl) (Nat.le_of_ble_eq_true rfl) ?_
  exact lw_ret hx hb hr hlocks dL_law_243
