/-! the enums -/
theorem hk_tokW : (∀ i, i < 7 → Cond.laysStatic "WitheringLoft$Token" (hk_tok.getD i "") "LWitheringLoft$Token;" ∈ lw_tbl) ∧ (∀ i, i < 15 → Cond.laysStatic "WitheringLoft$Command" (hk_com.getD i "") "LWitheringLoft$Command;" ∈ lw_tbl) := by decide +kernel
theorem hk_tokX : (∀ i, i < 7 → Cond.exactly (.static "WitheringLoft$Token" (hk_tok.getD i "") "LWitheringLoft$Token;") "WitheringLoft$Token" ∈ hk_flat) ∧ (∀ i, i < 15 → Cond.exactly (.static "WitheringLoft$Command" (hk_com.getD i "") "LWitheringLoft$Command;") "WitheringLoft$Command" ∈ hk_flat) := by decide +kernel
theorem hk_tokO : (∀ i, i < 7 → Cond.eq (.field (.static "WitheringLoft$Token" (hk_tok.getD i "") "LWitheringLoft$Token;") "java/lang/Enum" "ordinal" "I") (.int (([0, 1, 2, 3, 4, 5, 6] : List Int32).getD i 0)) ∈ hk_flat) ∧ (∀ i, i < 15 → Cond.eq (.field (.static "WitheringLoft$Command" (hk_com.getD i "") "LWitheringLoft$Command;") "java/lang/Enum" "ordinal" "I") (.int (([0, 1, 2, 3, 4, 5, 6, 7, 8, 9, 10, 11, 12, 13, 14] : List Int32).getD i 0)) ∈ hk_flat) := by decide +kernel
def hk_neW (E d : String) (a b : String) : Cond := .not (.eq (.static E a d) (.static E b d))
def hk_tkP : List (Nat × Nat) := [(5, 1), (5, 6), (1, 6), (5, 0), (1, 0), (6, 0), (5, 2), (1, 2), (6, 2), (0, 2), (5, 3), (1, 3), (6, 3), (0, 3), (2, 3), (5, 4), (1, 4), (6, 4), (0, 4), (2, 4), (3, 4)]
def hk_tkW (q : Nat × Nat) : Cond := hk_neW "WitheringLoft$Token" "LWitheringLoft$Token;" (hk_tok.getD q.1 "") (hk_tok.getD q.2 "")
theorem hk_tkS : hk_sub (hk_tkP.map hk_tkW) hk_flat = true := by decide +kernel
theorem hk_tkI : ((List.range 7).all fun i => (List.range 7).all fun j => i == j || hk_tkP.any (fun q => (q.1 == i && q.2 == j) || (q.1 == j && q.2 == i))) = true := by decide +kernel
theorem hk_tokN : (∀ i, i < 7 → ∀ j, j < 7 → i ≠ j → hk_tkW (i, j) ∈ hk_flat ∨ hk_tkW (j, i) ∈ hk_flat) := by
  intro i hi j hj h
  have h1 := List.all_eq_true.mp (List.all_eq_true.mp hk_tkI i (List.mem_range.mpr hi)) j (List.mem_range.mpr hj)
  rw [Bool.or_eq_true] at h1
  rcases h1 with h1 | h1
  · exact absurd (by simpa using h1) h
  · obtain ⟨q, hq, h2⟩ := List.any_eq_true.mp h1
    rw [Bool.or_eq_true, Bool.and_eq_true, Bool.and_eq_true] at h2
    rcases h2 with ⟨e1, e2⟩ | ⟨e1, e2⟩
    · left
      have : q = (i, j) := Prod.ext (by simpa using e1) (by simpa using e2)
      rw [← this]
      exact hk_sub_mem _ _ hk_tkS _ (List.mem_map.mpr ⟨_, hq, rfl⟩)
    · right
      have : q = (j, i) := Prod.ext (by simpa using e1) (by simpa using e2)
      rw [← this]
      exact hk_sub_mem _ _ hk_tkS _ (List.mem_map.mpr ⟨_, hq, rfl⟩)
def hk_comP : List (Nat × Nat) := [(14, 0), (14, 1), (0, 1), (14, 2), (0, 2), (1, 2), (14, 3), (0, 3), (1, 3), (2, 3), (14, 4), (0, 4), (1, 4), (2, 4), (3, 4), (14, 5), (0, 5), (1, 5), (2, 5), (3, 5), (4, 5), (14, 6), (0, 6), (1, 6), (2, 6), (3, 6), (4, 6), (5, 6), (14, 7), (0, 7), (1, 7), (2, 7), (3, 7), (4, 7), (5, 7), (6, 7), (14, 8), (0, 8), (1, 8), (2, 8), (3, 8), (4, 8), (5, 8), (6, 8), (7, 8), (14, 9), (0, 9), (1, 9), (2, 9), (3, 9), (4, 9), (5, 9), (6, 9), (7, 9), (8, 9), (14, 10), (0, 10), (1, 10), (2, 10), (3, 10), (4, 10), (5, 10), (6, 10), (7, 10), (8, 10), (9, 10), (14, 11), (0, 11), (1, 11), (2, 11), (3, 11), (4, 11), (5, 11), (6, 11), (7, 11), (8, 11), (9, 11), (10, 11), (14, 12), (0, 12), (1, 12), (2, 12), (3, 12), (4, 12), (5, 12), (6, 12), (7, 12), (8, 12), (9, 12), (10, 12), (11, 12), (14, 13), (0, 13), (1, 13), (2, 13), (3, 13), (4, 13), (5, 13), (6, 13), (7, 13), (8, 13), (9, 13), (10, 13), (11, 13), (12, 13)]
def hk_comW (q : Nat × Nat) : Cond := hk_neW "WitheringLoft$Command" "LWitheringLoft$Command;" (hk_com.getD q.1 "") (hk_com.getD q.2 "")
theorem hk_comS : hk_sub (hk_comP.map hk_comW) hk_flat = true := by decide +kernel
theorem hk_comI : ((List.range 15).all fun i => (List.range 15).all fun j => i == j || hk_comP.any (fun q => (q.1 == i && q.2 == j) || (q.1 == j && q.2 == i))) = true := by decide +kernel
theorem hk_comN : (∀ i, i < 15 → ∀ j, j < 15 → i ≠ j → hk_comW (i, j) ∈ hk_flat ∨ hk_comW (j, i) ∈ hk_flat) := by
  intro i hi j hj h
  have h1 := List.all_eq_true.mp (List.all_eq_true.mp hk_comI i (List.mem_range.mpr hi)) j (List.mem_range.mpr hj)
  rw [Bool.or_eq_true] at h1
  rcases h1 with h1 | h1
  · exact absurd (by simpa using h1) h
  · obtain ⟨q, hq, h2⟩ := List.any_eq_true.mp h1
    rw [Bool.or_eq_true, Bool.and_eq_true, Bool.and_eq_true] at h2
    rcases h2 with ⟨e1, e2⟩ | ⟨e1, e2⟩
    · left
      have : q = (i, j) := Prod.ext (by simpa using e1) (by simpa using e2)
      rw [← this]
      exact hk_sub_mem _ _ hk_comS _ (List.mem_map.mpr ⟨_, hq, rfl⟩)
    · right
      have : q = (j, i) := Prod.ext (by simpa using e1) (by simpa using e2)
      rw [← this]
      exact hk_sub_mem _ _ hk_comS _ (List.mem_map.mpr ⟨_, hq, rfl⟩)
/-! the tables of constants -/
theorem hk_comT : Cond.arrayOf (.static "WitheringLoft$Script" "COMMANDS" "[LWitheringLoft$Command;") (.object "WitheringLoft$Command") ∈ hk_flat ∧ Cond.eq (.length (.static "WitheringLoft$Script" "COMMANDS" "[LWitheringLoft$Command;")) (.int 15) ∈ hk_flat ∧ (∀ i, i < 15 → Cond.eq (.elem (.static "WitheringLoft$Script" "COMMANDS" "[LWitheringLoft$Command;") (.int (Int32.ofNat i))) (.static "WitheringLoft$Command" (hk_com.getD i "") "LWitheringLoft$Command;") ∈ hk_flat) := by decide +kernel
theorem hk_smT : Cond.arrayOf (.static "WitheringLoft$1" "$SwitchMap$WitheringLoft$Command" "[I") .int ∈ hk_flat ∧ Cond.eq (.length (.static "WitheringLoft$1" "$SwitchMap$WitheringLoft$Command" "[I")) (.int 15) ∈ hk_flat ∧ (∀ i, i < 15 → Cond.eq (.elem (.static "WitheringLoft$1" "$SwitchMap$WitheringLoft$Command" "[I") (.int (Int32.ofNat i))) (.int (hk_sm.getD i 0)) ∈ hk_flat) := by decide +kernel
theorem hk_wordT : ∀ i, i < 15 → Cond.eq (.field (.static "WitheringLoft$Command" (hk_com.getD i "") "LWitheringLoft$Command;") "WitheringLoft$Command" "word" "Ljava/lang/String;") (.string ((hk_str.getD (hk_wd.getD i 0) ("", 0, "", [])).1) ((hk_str.getD (hk_wd.getD i 0) ("", 0, "", [])).2.1)) ∈ hk_flat := by decide +kernel
theorem hk_statT : Cond.eq (.static "java/lang/String" "COMPACT_STRINGS" "Z") (.int 1) ∈ hk_flat ∧ Cond.isRef (.static "jdk/internal/util/Preconditions" "SIOOBE_FORMATTER" "Ljava/util/function/BiFunction;") ∈ hk_flat ∧ Cond.isRef (.static Bundle.tN "UNASSIGNED_STACK" Bundle.steD) ∈ hk_flat ∧ Cond.isRef (.static Bundle.tN "SUPPRESSED_SENTINEL" Bundle.listD) ∈ hk_flat := by decide +kernel
theorem hk_laysT : Cond.laysStatic "java/lang/String" "COMPACT_STRINGS" "Z" ∈ lw_tbl ∧ Cond.laysStatic "jdk/internal/util/Preconditions" "SIOOBE_FORMATTER" "Ljava/util/function/BiFunction;" ∈ lw_tbl ∧ Cond.laysStatic Bundle.tN "UNASSIGNED_STACK" Bundle.steD ∈ lw_tbl ∧ Cond.laysStatic Bundle.tN "SUPPRESSED_SENTINEL" Bundle.listD ∈ lw_tbl ∧ Cond.laysStatic "WitheringLoft$Script" "COMMANDS" "[LWitheringLoft$Command;" ∈ lw_tbl ∧ Cond.laysStatic "WitheringLoft$1" "$SwitchMap$WitheringLoft$Command" "[I" ∈ lw_tbl := by decide +kernel
theorem hk_iniT : ∀ C ∈ ["java/lang/String", "jdk/internal/util/Preconditions", Bundle.tN, "WitheringLoft$Script", "WitheringLoft$1", "WitheringLoft$Token", "WitheringLoft$Command"], Cond.initialized C ∈ lw_tbl := by decide +kernel
theorem hk_nestT : ∀ q ∈ hk_nest, Cond.methodLinkNest q.1 q.2.1 q.2.2.1 q.2.2.2 ∈ lw_tbl := by decide +kernel
theorem hk_declT : ∀ q ∈ hk_decl, Cond.declares q ∈ lw_tbl := by decide +kernel
theorem hk_casT : ∀ q ∈ hk_cas, Cond.castable q.1 q.2 ∈ lw_tbl := by decide +kernel
theorem hk_ncasS : hk_sub (hk_ncas.map (fun q => Cond.not (.castable q.1 q.2))) hk_flat = true := by decide +kernel
theorem hk_ncasT : ∀ q ∈ hk_ncas, Cond.not (.castable q.1 q.2) ∈ hk_flat := fun q hq => hk_sub_mem _ _ hk_ncasS _ (List.mem_map.mpr ⟨q, hq, rfl⟩)
theorem hk_aoT : ∀ C ∈ ["WitheringLoft$Loft", "WitheringLoft$Probe", "WitheringLoft$Trough"], Cond.arrayOver (.object C) ∈ lw_tbl := by decide +kernel
theorem hk_acT : ∀ t ∈ [FieldType.byte, FieldType.char, FieldType.int, FieldType.long], Cond.arrayClass t ∈ lw_tbl := by decide +kernel
