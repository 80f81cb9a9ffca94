/-! What the statement gives of the start, as the world of the rows. -/
def hk_strT (q : String × Nat × String × List Int32) : Term := .field (.string q.1 q.2.1) "java/lang/String" "value" "[B"
def hk_strW (q : String × Nat × String × List Int32) : List Cond := [.exactly (.string q.1 q.2.1) "java/lang/String", .eq (.field (.string q.1 q.2.1) "java/lang/String" "coder" "B") (.int 0), .arrayOf (hk_strT q) .byte, .eq (.length (hk_strT q)) (.int (Int32.ofNat q.2.2.2.length))] ++ (List.range q.2.2.2.length).map (fun j => Cond.eq (.elem (hk_strT q) (.int (Int32.ofNat j))) (.int (q.2.2.2.getD j 0)))
def hk_fl : Cond → List Cond → List Cond
  | .and a b, acc => hk_fl a (hk_fl b acc)
  | c, acc => c :: acc
theorem hk_fl_ok {args : Array Value} {s : State} (T : Cond) : ∀ acc : List Cond, T.before args s = true → (∀ w ∈ acc, w.before args s = true) → ∀ w ∈ hk_fl T acc, w.before args s = true := by
  induction T with
  | and a b iha ihb =>
    intro acc h ha
    rw [Cond.before_and, Bool.and_eq_true] at h
    simp only [hk_fl]
    exact iha _ h.1 (ihb _ h.2 ha)
  | _ =>
    intro acc h ha w hw
    simp only [hk_fl, List.mem_cons] at hw
    rcases hw with e | e
    · rw [e]; exact h
    · exact ha w e
def hk_sub : List Cond → List Cond → Bool
  | [], _ => true
  | _ :: _, [] => false
  | a :: r, b :: t => if a = b then hk_sub r t else hk_sub (a :: r) t
theorem hk_sub_mem : ∀ (L N : List Cond), hk_sub N L = true → ∀ w ∈ N, w ∈ L
  | _, [], _ => fun w hw => nomatch hw
  | [], _ :: _, h => nomatch h
  | b :: t, a :: r, h => by
    unfold hk_sub at h
    by_cases e : a = b
    · rw [if_pos e] at h
      intro w hw
      rcases List.mem_cons.mp hw with q | q
      · rw [q, e]; exact List.mem_cons_self
      · exact List.mem_cons_of_mem _ (hk_sub_mem t r h w q)
    · rw [if_neg e] at h
      intro w hw
      exact List.mem_cons_of_mem _ (hk_sub_mem t (a :: r) h w hw)
def hk_flat : List Cond := hk_fl (Jvm.Cond.and given_1 narrow_1) []
theorem hk_strOk : (hk_str.all fun q => hk_sub (hk_strW q) hk_flat) = true := by decide +kernel
theorem hk_strRefs : (hk_str.all fun q => decide (Cond.stringRef q.1 q.2.1 q.2.2.1 ∈ lw_tbl)) = true := by decide +kernel
theorem hk_strLen : (hk_str.all fun q => decide (q.2.2.2.length < 2 ^ 31)) = true := by decide +kernel
theorem hk_strEx {args : Array Value} {s : State} {A : Nat → Prop} (hs : ∀ w ∈ hk_flat, w.before args s = true) (hts : ∀ w ∈ lw_tbl, w.before args s = true) (hA : ∀ a : Nat, a < s.heap.size → ¬ A a) {q : String × Nat × String × List Int32} (hq : q ∈ hk_str) :
    ∃ ab : Nat × Nat, (vk_R q.1 q.2.1 q.2.2.1 ab.1 s ∧ va_O "java/lang/String" ab.1 A s s.heap ∧ va_OF "java/lang/String" "coder" "B" (.int 0) ab.1 A s s.heap ∧ va_OF "java/lang/String" "value" "[B" (.ref ab.2) ab.1 A s s.heap ∧ va_T .byte ab.2 q.2.2.2.length (fun j => .int (q.2.2.2.getD j 0)) A s s.heap) ∧ (Term.string q.1 q.2.1).eval args s none [] s = some (.ref ab.1) := by
  have hw : ∀ w ∈ hk_strW q, w.before args s = true := fun w h => hs w (hk_sub_mem _ _ (List.all_eq_true.mp hk_strOk q hq) w h)
  have hex : (Cond.exactly (.string q.1 q.2.1) "java/lang/String").before args s = true := hw _ (by simp [hk_strW])
  obtain ⟨a, c, cell, k, q1, -⟩ := Cond.exactly_spec hex
  have hcod : (Cond.eq (.field (.string q.1 q.2.1) "java/lang/String" "coder" "B") (.int 0)).before args s = true := hw _ (by simp [hk_strW])
  have harr : (Cond.arrayOf (hk_strT q) .byte).before args s = true := hw _ (by simp [hk_strW])
  have hlen : (Cond.eq (.length (hk_strT q)) (.int (Int32.ofNat q.2.2.2.length))).before args s = true := hw _ (by simp [hk_strW])
  have hel : ∀ j : Nat, j < q.2.2.2.length → (Cond.eq (.elem (hk_strT q) (.int (Int32.ofNat j))) (.int (q.2.2.2.getD j 0))).before args s = true := fun j hj => hw _ (List.mem_append_right _ (List.mem_map.mpr ⟨j, List.mem_range.mpr hj, rfl⟩))
  obtain ⟨t, ht, hT⟩ := va_Tof (A := A) (f := fun j => .int (q.2.2.2.getD j 0)) (of_decide_eq_true (List.all_eq_true.mp hk_strLen q hq)) harr (va_eqt hlen) (fun j hj => va_eqt (hel j hj)) hA
  exact ⟨(a, t), ⟨vk_R.of (hts _ (of_decide_eq_true (List.all_eq_true.mp hk_strRefs q hq))) q1, va_Oof hex q1 hA, vk_OFof q1 (va_eqt hcod) hA, vk_OFof q1 ht hA, hT⟩, q1⟩
theorem hk_strAll {args : Array Value} {s : State} {A : Nat → Prop} (hs : ∀ w ∈ hk_flat, w.before args s = true) (hts : ∀ w ∈ lw_tbl, w.before args s = true) (hA : ∀ a : Nat, a < s.heap.size → ¬ A a) :
    ∃ z : Nat → Nat × Nat, ∀ (i : Nat) (q : String × Nat × String × List Int32), hk_str[i]? = some q → (vk_R q.1 q.2.1 q.2.2.1 (z i).1 s ∧ va_O "java/lang/String" (z i).1 A s s.heap ∧ va_OF "java/lang/String" "coder" "B" (.int 0) (z i).1 A s s.heap ∧ va_OF "java/lang/String" "value" "[B" (.ref (z i).2) (z i).1 A s s.heap ∧ va_T .byte (z i).2 q.2.2.2.length (fun j => .int (q.2.2.2.getD j 0)) A s s.heap) ∧ (Term.string q.1 q.2.1).eval args s none [] s = some (.ref (z i).1) := by
  refine Classical.axiomOfChoice (r := fun (i : Nat) (ab : Nat × Nat) => ∀ (q : String × Nat × String × List Int32), hk_str[i]? = some q → (vk_R q.1 q.2.1 q.2.2.1 ab.1 s ∧ va_O "java/lang/String" ab.1 A s s.heap ∧ va_OF "java/lang/String" "coder" "B" (.int 0) ab.1 A s s.heap ∧ va_OF "java/lang/String" "value" "[B" (.ref ab.2) ab.1 A s s.heap ∧ va_T .byte ab.2 q.2.2.2.length (fun j => .int (q.2.2.2.getD j 0)) A s s.heap) ∧ (Term.string q.1 q.2.1).eval args s none [] s = some (.ref ab.1)) fun i => ?_
  cases h : hk_str[i]? with
  | none => exact ⟨(0, 0), fun q hq => nomatch hq⟩
  | some q =>
    obtain ⟨ab, hab⟩ := hk_strEx hs hts hA (List.mem_of_getElem? h)
    exact ⟨ab, fun q' hq' => by cases hq'; exact hab⟩
