/-! What the statement gives of the start, as the world of the rows. -/
def hk_strT (q : String × Nat × String × List Int32) : Term := .field (.string q.1 q.2.1) "java/lang/String" "value" "[B"
def hk_strW (q : String × Nat × String × List Int32) : List Cond := [.exactly (.string q.1 q.2.1) "java/lang/String", .eq (.field (.string q.1 q.2.1) "java/lang/String" "coder" "B") (.int 0), .arrayOf (hk_strT q) .byte, .eq (.length (hk_strT q)) (.int (Int32.ofNat q.2.2.2.length))] ++ (List.range q.2.2.2.length).map (fun j => Cond.eq (.elem (hk_strT q) (.int (Int32.ofNat j))) (.int (q.2.2.2.getD j 0)))
def hk_fl : Cond → List Cond → List Cond
  | .and a b, acc => hk_fl a (hk_fl b acc)
  | c, acc => c :: acc
theorem hk_fl_ok {args : Array Value} {s : State} (T : Cond) : ∀ acc : List Cond, T.before args s = true → (∀ w ∈ acc, w.before args s = true) → ∀ w ∈ hk_fl T acc, w.before args s = true := by
  induction T with
  | and a b iha ihb =>
    intro acc h ha
    rw [Cond.before_and, Bool.and_eq_true] at h
    simp only [hk_fl]
    exact iha _ h.1 (ihb _ h.2 ha)
  | _ =>
    intro acc h ha w hw
    simp only [hk_fl, List.mem_cons] at hw
    rcases hw with e | e
    · rw [e]; exact h
    · exact ha w e
def hk_sub : List Cond → List Cond → Bool
  | [], _ => true
  | _ :: _, [] => false
  | a :: r, b :: t => if a = b then hk_sub r t else hk_sub (a :: r) t
theorem hk_sub_mem : ∀ (L N : List Cond), hk_sub N L = true → ∀ w ∈ N, w ∈ L
  | _, [], _ => fun w hw => nomatch hw
  | [], _ :: _, h => nomatch h
  | b :: t, a :: r, h => by
    unfold hk_sub at h
    by_cases e : a = b
    · rw [if_pos e] at h
      intro w hw
      rcases List.mem_cons.mp hw with q | q
      · rw [q, e]; exact List.mem_cons_self
      · exact List.mem_cons_of_mem _ (hk_sub_mem t r h w q)
    · rw [if_neg e] at h
      intro w hw
      exact List.mem_cons_of_mem _ (hk_sub_mem t (a :: r) h w hw)
def hk_flat : List Cond := hk_fl (Jvm.Cond.and given_1 narrow_1) []
theorem hk_strOk : (hk_str.all fun q => hk_sub (hk_strW q) hk_flat) = true := by decide +kernel
theorem hk_strRefs : (hk_str.all fun q => decide (Cond.stringRef q.1 q.2.1 q.2.2.1 ∈ lw_tbl)) = true := by decide +kernel
theorem hk_strLen : (hk_str.all fun q => decide (q.2.2.2.length < 2 ^ 31)) = true := by decide +kernel
theorem hk_strEx {args : Array Value} {s : State} {A : Nat → Prop} (hs : ∀ w ∈ hk_flat, w.before args s = true) (hts : ∀ w ∈ lw_tbl, w.before args s = true) (hA : ∀ a : Nat, a < s.heap.size → ¬ A a) {q : String × Nat × String × List Int32} (hq : q ∈ hk_str) :
    ∃ ab : Nat × Nat, (vk_R q.1 q.2.1 q.2.2.1 ab.1 s ∧ va_O "java/lang/String" ab.1 A s s.heap ∧ va_OF "java/lang/String" "coder" "B" (.int 0) ab.1 A s s.heap ∧ va_OF "java/lang/String" "value" "[B" (.ref ab.2) ab.1 A s s.heap ∧ va_T .byte ab.2 q.2.2.2.length (fun j => .int (q.2.2.2.getD j 0)) A s s.heap) ∧ (Term.string q.1 q.2.1).eval args s none [] s = some (.ref ab.1) := by
  have hw : ∀ w ∈ hk_strW q, w.before args s = true := fun w h => hs w (hk_sub_mem _ _ (List.all_eq_true.mp hk_strOk q hq) w h)
  have hex : (Cond.exactly (.string q.1 q.2.1) "java/lang/String").before args s = true := hw _ (by simp [hk_strW])
  obtain ⟨a, c, cell, k, q1, -⟩ := Cond.exactly_spec hex
  have hcod : (Cond.eq (.field (.string q.1 q.2.1) "java/lang/String" "coder" "B") (.int 0)).before args s = true := hw _ (by simp [hk_strW])
  have harr : (Cond.arrayOf (hk_strT q) .byte).before args s = true := hw _ (by simp [hk_strW])
  have hlen : (Cond.eq (.length (hk_strT q)) (.int (Int32.ofNat q.2.2.2.length))).before args s = true := hw _ (by simp [hk_strW])
  have hel : ∀ j : Nat, j < q.2.2.2.length → (Cond.eq (.elem (hk_strT q) (.int (Int32.ofNat j))) (.int (q.2.2.2.getD j 0))).before args s = true := fun j hj => hw _ (List.mem_append_right _ (List.mem_map.mpr ⟨j, List.mem_range.mpr hj, rfl⟩))
  obtain ⟨t, ht, hT⟩ := va_Tof (A := A) (f := fun j => .int (q.2.2.2.getD j 0)) (of_decide_eq_true (List.all_eq_true.mp hk_strLen q hq)) harr (va_eqt hlen) (fun j hj => va_eqt (hel j hj)) hA
  exact ⟨(a, t), ⟨vk_R.of (hts _ (of_decide_eq_true (List.all_eq_true.mp hk_strRefs q hq))) q1, va_Oof hex q1 hA, vk_OFof q1 (va_eqt hcod) hA, vk_OFof q1 ht hA, hT⟩, q1⟩
theorem hk_strAll {args : Array Value} {s : State} {A : Nat → Prop} (hs : ∀ w ∈ hk_flat, w.before args s = true) (hts : ∀ w ∈ lw_tbl, w.before args s = true) (hA : ∀ a : Nat, a < s.heap.size → ¬ A a) :
    ∃ z : Nat → Nat × Nat, ∀ (i : Nat) (q : String × Nat × String × List Int32), hk_str[i]? = some q → (vk_R q.1 q.2.1 q.2.2.1 (z i).1 s ∧ va_O "java/lang/String" (z i).1 A s s.heap ∧ va_OF "java/lang/String" "coder" "B" (.int 0) (z i).1 A s s.heap ∧ va_OF "java/lang/String" "value" "[B" (.ref (z i).2) (z i).1 A s s.heap ∧ va_T .byte (z i).2 q.2.2.2.length (fun j => .int (q.2.2.2.getD j 0)) A s s.heap) ∧ (Term.string q.1 q.2.1).eval args s none [] s = some (.ref (z i).1) := by
  refine Classical.axiomOfChoice (r := fun (i : Nat) (ab : Nat × Nat) => ∀ (q : String × Nat × String × List Int32), hk_str[i]? = some q → (vk_R q.1 q.2.1 q.2.2.1 ab.1 s ∧ va_O "java/lang/String" ab.1 A s s.heap ∧ va_OF "java/lang/String" "coder" "B" (.int 0) ab.1 A s s.heap ∧ va_OF "java/lang/String" "value" "[B" (.ref ab.2) ab.1 A s s.heap ∧ va_T .byte ab.2 q.2.2.2.length (fun j => .int (q.2.2.2.getD j 0)) A s s.heap) ∧ (Term.string q.1 q.2.1).eval args s none [] s = some (.ref ab.1)) fun i => ?_
  cases h : hk_str[i]? with
  | none => exact ⟨(0, 0), fun q hq => nomatch hq⟩
  | some q =>
    obtain ⟨ab, hab⟩ := hk_strEx hs hts hA (List.mem_of_getElem? h)
    exact ⟨ab, fun q' hq' => by cases hq'; exact hab⟩
/-! the enums -/
theorem hk_tokW : (∀ i, i < 7 → Cond.laysStatic "WitheringLoft$Token" (hk_tok.getD i "") "LWitheringLoft$Token;" ∈ lw_tbl) ∧ (∀ i, i < 15 → Cond.laysStatic "WitheringLoft$Command" (hk_com.getD i "") "LWitheringLoft$Command;" ∈ lw_tbl) := by decide +kernel
theorem hk_tokX : (∀ i, i < 7 → Cond.exactly (.static "WitheringLoft$Token" (hk_tok.getD i "") "LWitheringLoft$Token;") "WitheringLoft$Token" ∈ hk_flat) ∧ (∀ i, i < 15 → Cond.exactly (.static "WitheringLoft$Command" (hk_com.getD i "") "LWitheringLoft$Command;") "WitheringLoft$Command" ∈ hk_flat) := by decide +kernel
theorem hk_tokO : (∀ i, i < 7 → Cond.eq (.field (.static "WitheringLoft$Token" (hk_tok.getD i "") "LWitheringLoft$Token;") "java/lang/Enum" "ordinal" "I") (.int (([0, 1, 2, 3, 4, 5, 6] : List Int32).getD i 0)) ∈ hk_flat) ∧ (∀ i, i < 15 → Cond.eq (.field (.static "WitheringLoft$Command" (hk_com.getD i "") "LWitheringLoft$Command;") "java/lang/Enum" "ordinal" "I") (.int (([0, 1, 2, 3, 4, 5, 6, 7, 8, 9, 10, 11, 12, 13, 14] : List Int32).getD i 0)) ∈ hk_flat) := by decide +kernel
def hk_neW (E d : String) (a b : String) : Cond := .not (.eq (.static E a d) (.static E b d))
theorem hk_tokN : (∀ i, i < 7 → ∀ j, j < 7 → i ≠ j → hk_neW "WitheringLoft$Token" "LWitheringLoft$Token;" (hk_tok.getD i "") (hk_tok.getD j "") ∈ hk_flat ∨ hk_neW "WitheringLoft$Token" "LWitheringLoft$Token;" (hk_tok.getD j "") (hk_tok.getD i "") ∈ hk_flat) := by decide +kernel
def hk_comP : List (Nat × Nat) := [(14, 0), (14, 1), (0, 1), (14, 2), (0, 2), (1, 2), (14, 3), (0, 3), (1, 3), (2, 3), (14, 4), (0, 4), (1, 4), (2, 4), (3, 4), (14, 5), (0, 5), (1, 5), (2, 5), (3, 5), (4, 5), (14, 6), (0, 6), (1, 6), (2, 6), (3, 6), (4, 6), (5, 6), (14, 7), (0, 7), (1, 7), (2, 7), (3, 7), (4, 7), (5, 7), (6, 7), (14, 8), (0, 8), (1, 8), (2, 8), (3, 8), (4, 8), (5, 8), (6, 8), (7, 8), (14, 9), (0, 9), (1, 9), (2, 9), (3, 9), (4, 9), (5, 9), (6, 9), (7, 9), (8, 9), (14, 10), (0, 10), (1, 10), (2, 10), (3, 10), (4, 10), (5, 10), (6, 10), (7, 10), (8, 10), (9, 10), (14, 11), (0, 11), (1, 11), (2, 11), (3, 11), (4, 11), (5, 11), (6, 11), (7, 11), (8, 11), (9, 11), (10, 11), (14, 12), (0, 12), (1, 12), (2, 12), (3, 12), (4, 12), (5, 12), (6, 12), (7, 12), (8, 12), (9, 12), (10, 12), (11, 12), (14, 13), (0, 13), (1, 13), (2, 13), (3, 13), (4, 13), (5, 13), (6, 13), (7, 13), (8, 13), (9, 13), (10, 13), (11, 13), (12, 13)]
def hk_comW (q : Nat × Nat) : Cond := hk_neW "WitheringLoft$Command" "LWitheringLoft$Command;" (hk_com.getD q.1 "") (hk_com.getD q.2 "")
theorem hk_comS : hk_sub (hk_comP.map hk_comW) hk_flat = true := by decide +kernel
theorem hk_comI : ((List.range 15).all fun i => (List.range 15).all fun j => i == j || hk_comP.any (fun q => (q.1 == i && q.2 == j) || (q.1 == j && q.2 == i))) = true := by decide +kernel
theorem hk_comN : (∀ i, i < 15 → ∀ j, j < 15 → i ≠ j → hk_comW (i, j) ∈ hk_flat ∨ hk_comW (j, i) ∈ hk_flat) := by
  intro i hi j hj h
  have h1 := List.all_eq_true.mp (List.all_eq_true.mp hk_comI i (List.mem_range.mpr hi)) j (List.mem_range.mpr hj)
  rw [Bool.or_eq_true] at h1
  rcases h1 with h1 | h1
  · exact absurd (by simpa using h1) h
  · obtain ⟨q, hq, h2⟩ := List.any_eq_true.mp h1
    rw [Bool.or_eq_true, Bool.and_eq_true, Bool.and_eq_true] at h2
    rcases h2 with ⟨e1, e2⟩ | ⟨e1, e2⟩
    · left
      have : q = (i, j) := Prod.ext (by simpa using e1) (by simpa using e2)
      rw [← this]
      exact hk_sub_mem _ _ hk_comS _ (List.mem_map.mpr ⟨_, hq, rfl⟩)
    · right
      have : q = (j, i) := Prod.ext (by simpa using e1) (by simpa using e2)
      rw [← this]
      exact hk_sub_mem _ _ hk_comS _ (List.mem_map.mpr ⟨_, hq, rfl⟩)
/-! the tables of constants -/
theorem hk_comT : Cond.arrayOf (.static "WitheringLoft$Script" "COMMANDS" "[LWitheringLoft$Command;") (.object "WitheringLoft$Command") ∈ hk_flat ∧ Cond.eq (.length (.static "WitheringLoft$Script" "COMMANDS" "[LWitheringLoft$Command;")) (.int 15) ∈ hk_flat ∧ (∀ i, i < 15 → Cond.eq (.elem (.static "WitheringLoft$Script" "COMMANDS" "[LWitheringLoft$Command;") (.int (Int32.ofNat i))) (.static "WitheringLoft$Command" (hk_com.getD i "") "LWitheringLoft$Command;") ∈ hk_flat) := by decide +kernel
theorem hk_smT : Cond.arrayOf (.static "WitheringLoft$1" "$SwitchMap$WitheringLoft$Command" "[I") .int ∈ hk_flat ∧ Cond.eq (.length (.static "WitheringLoft$1" "$SwitchMap$WitheringLoft$Command" "[I")) (.int 15) ∈ hk_flat ∧ (∀ i, i < 15 → Cond.eq (.elem (.static "WitheringLoft$1" "$SwitchMap$WitheringLoft$Command" "[I") (.int (Int32.ofNat i))) (.int (hk_sm.getD i 0)) ∈ hk_flat) := by decide +kernel
theorem hk_wordT : ∀ i, i < 15 → Cond.eq (.field (.static "WitheringLoft$Command" (hk_com.getD i "") "LWitheringLoft$Command;") "WitheringLoft$Command" "word" "Ljava/lang/String;") (.string ((hk_str.getD (hk_wd.getD i 0) ("", 0, "", [])).1) ((hk_str.getD (hk_wd.getD i 0) ("", 0, "", [])).2.1)) ∈ hk_flat := by decide +kernel
theorem hk_statT : Cond.eq (.static "java/lang/String" "COMPACT_STRINGS" "Z") (.int 1) ∈ hk_flat ∧ Cond.isRef (.static "jdk/internal/util/Preconditions" "SIOOBE_FORMATTER" "Ljava/util/function/BiFunction;") ∈ hk_flat ∧ Cond.isRef (.static Bundle.tN "UNASSIGNED_STACK" Bundle.steD) ∈ hk_flat ∧ Cond.isRef (.static Bundle.tN "SUPPRESSED_SENTINEL" Bundle.listD) ∈ hk_flat := by decide +kernel
theorem hk_laysT : Cond.laysStatic "java/lang/String" "COMPACT_STRINGS" "Z" ∈ lw_tbl ∧ Cond.laysStatic "jdk/internal/util/Preconditions" "SIOOBE_FORMATTER" "Ljava/util/function/BiFunction;" ∈ lw_tbl ∧ Cond.laysStatic Bundle.tN "UNASSIGNED_STACK" Bundle.steD ∈ lw_tbl ∧ Cond.laysStatic Bundle.tN "SUPPRESSED_SENTINEL" Bundle.listD ∈ lw_tbl ∧ Cond.laysStatic "WitheringLoft$Script" "COMMANDS" "[LWitheringLoft$Command;" ∈ lw_tbl ∧ Cond.laysStatic "WitheringLoft$1" "$SwitchMap$WitheringLoft$Command" "[I" ∈ lw_tbl := by decide +kernel
theorem hk_iniT : ∀ C ∈ ["java/lang/String", "jdk/internal/util/Preconditions", Bundle.tN, "WitheringLoft$Script", "WitheringLoft$1", "WitheringLoft$Token", "WitheringLoft$Command"], Cond.initialized C ∈ lw_tbl := by decide +kernel
theorem hk_nestT : ∀ q ∈ hk_nest, Cond.methodLinkNest q.1 q.2.1 q.2.2.1 q.2.2.2 ∈ lw_tbl := by decide +kernel
theorem hk_declT : ∀ q ∈ hk_decl, Cond.declares q ∈ lw_tbl := by decide +kernel
theorem hk_casT : ∀ q ∈ hk_cas, Cond.castable q.1 q.2 ∈ lw_tbl := by decide +kernel
theorem hk_ncasT : ∀ q ∈ hk_ncas, Cond.not (.castable q.1 q.2) ∈ hk_flat := by decide +kernel
theorem hk_aoT : ∀ C ∈ ["WitheringLoft$Loft", "WitheringLoft$Probe", "WitheringLoft$Trough"], Cond.arrayOver (.object C) ∈ lw_tbl := by decide +kernel
theorem hk_acT : ∀ t ∈ [FieldType.byte, FieldType.char, FieldType.int, FieldType.long], Cond.arrayClass t ∈ lw_tbl := by decide +kernel
