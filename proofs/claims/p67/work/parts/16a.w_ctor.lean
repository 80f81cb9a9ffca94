/-- the kinds, the lengths, the references in the order in which they are set -/
def hk_KT : List Nat := [9, 4, 1, 13, 16, 15, 8, 8, 8, 8, 8, 8, 8, 8, 5, 5, 5, 5, 5, 5, 4, 1, 13, 16, 15, 8, 8, 8, 8, 8, 8, 8, 8, 5, 5, 5, 5, 5, 5, 2, 14, 4, 1, 13, 16, 15, 8, 8, 8, 8, 8, 8, 8, 8, 5, 5, 5, 5, 5, 5, 4, 1, 13, 16, 15, 8, 8, 8, 8, 8, 8, 8, 8, 5, 5, 5, 5, 5, 5, 4, 1, 13, 16, 15, 8, 8, 8, 8, 8, 8, 8, 8, 5, 5, 5, 5, 5, 5, 4, 1, 13, 16, 15, 8, 8, 8, 8, 8, 8, 8, 8, 5, 5, 5, 5, 5, 5, 4, 1, 13, 16, 15, 8, 8, 8, 8, 8, 8, 8, 8, 5, 5, 5, 5, 5, 5, 4, 1, 13, 16, 15, 8, 8, 8, 8, 8, 8, 8, 8, 5, 5, 5, 5, 5, 5, 4, 1, 13, 16, 15, 8, 8, 8, 8, 8, 8, 8, 8, 5, 5, 5, 5, 5, 5, 4, 1, 13, 16, 15, 8, 8, 8, 8, 8, 8, 8, 8, 5, 5, 5, 5, 5, 5, 7, 3, 11, 4, 1, 13, 16, 15, 8, 8, 8, 8, 8, 8, 8, 8, 5, 5, 5, 5, 5, 5, 13, 13, 13, 6, 11, 8]
def hk_LT : List Nat := [0, 0, 0, 3, 8, 6, 0, 0, 0, 0, 0, 0, 0, 0, 0, 0, 0, 0, 0, 0, 0, 0, 3, 8, 6, 0, 0, 0, 0, 0, 0, 0, 0, 0, 0, 0, 0, 0, 0, 0, 8, 0, 0, 3, 8, 6, 0, 0, 0, 0, 0, 0, 0, 0, 0, 0, 0, 0, 0, 0, 0, 0, 3, 8, 6, 0, 0, 0, 0, 0, 0, 0, 0, 0, 0, 0, 0, 0, 0, 0, 0, 3, 8, 6, 0, 0, 0, 0, 0, 0, 0, 0, 0, 0, 0, 0, 0, 0, 0, 0, 3, 8, 6, 0, 0, 0, 0, 0, 0, 0, 0, 0, 0, 0, 0, 0, 0, 0, 0, 3, 8, 6, 0, 0, 0, 0, 0, 0, 0, 0, 0, 0, 0, 0, 0, 0, 0, 0, 3, 8, 6, 0, 0, 0, 0, 0, 0, 0, 0, 0, 0, 0, 0, 0, 0, 0, 0, 3, 8, 6, 0, 0, 0, 0, 0, 0, 0, 0, 0, 0, 0, 0, 0, 0, 0, 0, 3, 8, 6, 0, 0, 0, 0, 0, 0, 0, 0, 0, 0, 0, 0, 0, 0, 0, 0, 600, 0, 0, 3, 8, 6, 0, 0, 0, 0, 0, 0, 0, 0, 0, 0, 0, 0, 0, 0, 4, 2, 2, 0, 88, 0]
def hk_RT : List (Nat × Nat × Nat) := [(2, 4, 3), (1, 0, 2), (1, 1, 4), (1, 3, 5), (4, 0, 6), (4, 1, 7), (4, 2, 8), (4, 3, 9), (4, 4, 10), (4, 5, 11), (4, 6, 12), (4, 7, 13), (5, 0, 14), (5, 1, 15), (5, 2, 16), (5, 3, 17), (5, 4, 18), (5, 5, 19), (0, 0, 1), (21, 4, 22), (20, 0, 21), (20, 1, 23), (20, 3, 24), (23, 0, 25), (23, 1, 26), (23, 2, 27), (23, 3, 28), (23, 4, 29), (23, 5, 30), (23, 6, 31), (23, 7, 32), (24, 0, 33), (24, 1, 34), (24, 2, 35), (24, 3, 36), (24, 4, 37), (24, 5, 38), (0, 1, 20), (39, 0, 40), (42, 4, 43), (41, 0, 42), (41, 1, 44), (41, 3, 45), (44, 0, 46), (44, 1, 47), (44, 2, 48), (44, 3, 49), (44, 4, 50), (44, 5, 51), (44, 6, 52), (44, 7, 53), (45, 0, 54), (45, 1, 55), (45, 2, 56), (45, 3, 57), (45, 4, 58), (45, 5, 59), (40, 0, 41), (61, 4, 62), (60, 0, 61), (60, 1, 63), (60, 3, 64), (63, 0, 65), (63, 1, 66), (63, 2, 67), (63, 3, 68), (63, 4, 69), (63, 5, 70), (63, 6, 71), (63, 7, 72), (64, 0, 73), (64, 1, 74), (64, 2, 75), (64, 3, 76), (64, 4, 77), (64, 5, 78), (40, 1, 60), (80, 4, 81), (79, 0, 80), (79, 1, 82), (79, 3, 83), (82, 0, 84), (82, 1, 85), (82, 2, 86), (82, 3, 87), (82, 4, 88), (82, 5, 89), (82, 6, 90), (82, 7, 91), (83, 0, 92), (83, 1, 93), (83, 2, 94), (83, 3, 95), (83, 4, 96), (83, 5, 97), (40, 2, 79), (99, 4, 100), (98, 0, 99), (98, 1, 101), (98, 3, 102), (101, 0, 103), (101, 1, 104), (101, 2, 105), (101, 3, 106), (101, 4, 107), (101, 5, 108), (101, 6, 109), (101, 7, 110), (102, 0, 111), (102, 1, 112), (102, 2, 113), (102, 3, 114), (102, 4, 115), (102, 5, 116), (40, 3, 98), (118, 4, 119), (117, 0, 118), (117, 1, 120), (117, 3, 121), (120, 0, 122), (120, 1, 123), (120, 2, 124), (120, 3, 125), (120, 4, 126), (120, 5, 127), (120, 6, 128), (120, 7, 129), (121, 0, 130), (121, 1, 131), (121, 2, 132), (121, 3, 133), (121, 4, 134), (121, 5, 135), (40, 4, 117), (137, 4, 138), (136, 0, 137), (136, 1, 139), (136, 3, 140), (139, 0, 141), (139, 1, 142), (139, 2, 143), (139, 3, 144), (139, 4, 145), (139, 5, 146), (139, 6, 147), (139, 7, 148), (140, 0, 149), (140, 1, 150), (140, 2, 151), (140, 3, 152), (140, 4, 153), (140, 5, 154), (40, 5, 136), (156, 4, 157), (155, 0, 156), (155, 1, 158), (155, 3, 159), (158, 0, 160), (158, 1, 161), (158, 2, 162), (158, 3, 163), (158, 4, 164), (158, 5, 165), (158, 6, 166), (158, 7, 167), (159, 0, 168), (159, 1, 169), (159, 2, 170), (159, 3, 171), (159, 4, 172), (159, 5, 173), (40, 6, 155), (175, 4, 176), (174, 0, 175), (174, 1, 177), (174, 3, 178), (177, 0, 179), (177, 1, 180), (177, 2, 181), (177, 3, 182), (177, 4, 183), (177, 5, 184), (177, 6, 185), (177, 7, 186), (178, 0, 187), (178, 1, 188), (178, 2, 189), (178, 3, 190), (178, 4, 191), (178, 5, 192), (40, 7, 174), (0, 3, 39), (194, 0, 195), (193, 0, 194), (197, 4, 198), (196, 0, 197), (196, 1, 199), (196, 3, 200), (199, 0, 201), (199, 1, 202), (199, 2, 203), (199, 3, 204), (199, 4, 205), (199, 5, 206), (199, 6, 207), (199, 7, 208), (200, 0, 209), (200, 1, 210), (200, 2, 211), (200, 3, 212), (200, 4, 213), (200, 5, 214), (193, 1, 196), (193, 8, 215), (193, 12, 216), (193, 13, 217), (0, 4, 193), (218, 0, 219), (0, 5, 218), (0, 6, 220)]
def hk_ref (L : List (Nat × Nat × Nat)) (a k : Nat) : Option Nat := (L.find? (fun q => q.1 == a && q.2.1 == k)).map (fun q => q.2.2)
def hk_EE (c p : Nat) : hk_E := (c, fun a => if a < c then hk_KT.getD a 0 else 0, fun a => hk_LT.getD a 0, fun a k => hk_ref (hk_RT.take p) a k)
theorem hk_growE {c p kd ln : Nat} (h1 : hk_KT.getD c 0 = kd) (h2 : hk_LT.getD c 0 = ln) (h3 : ((hk_RT.take p).all fun q => q.1 != c) = true) : hk_grow (hk_EE c p) (hk_EE (c + 1) p) kd ln := by
  refine ⟨rfl, ?_, h2, ?_, fun a ha => ⟨?_, rfl, rfl⟩⟩
  · show (if c < c + 1 then hk_KT.getD c 0 else 0) = kd
    rw [if_pos (Nat.lt_succ_self c)]
    exact h1
  · funext k
    show hk_ref (hk_RT.take p) c k = none
    unfold hk_ref
    rw [List.find?_eq_none.mpr (fun q hq => by
      have := List.all_eq_true.mp h3 q hq
      simp at this ⊢
      intro h
      exact absurd h this)]
    rfl
  · show (if a < c + 1 then hk_KT.getD a 0 else 0) = if a < c then hk_KT.getD a 0 else 0
    have ha2 : a ≠ c := ha
    by_cases h : a < c
    · rw [if_pos h, if_pos (by omega)]
    · rw [if_neg h, if_neg (by omega)]
theorem hk_setE {c p a k r : Nat} (h1 : hk_RT[p]? = some (a, k, r)) (h2 : ((hk_RT.take p).all fun q => !(q.1 == a && q.2.1 == k)) = true) : hk_set (hk_EE c p) (hk_EE c (p + 1)) a k r := by
  have hlt : p < hk_RT.length := (List.getElem?_eq_some_iff.mp h1).1
  have hap : hk_RT.take (p + 1) = hk_RT.take p ++ [(a, k, r)] := by
    rw [List.take_succ, h1]
    rfl
  have hn : (hk_RT.take p).find? (fun q => q.1 == a && q.2.1 == k) = none := List.find?_eq_none.mpr (fun q hq => by
    have := List.all_eq_true.mp h2 q hq
    simp at this ⊢
    rcases this with h | h
    · exact fun e => absurd e h
    · exact fun _ => h)
  refine ⟨rfl, rfl, rfl, ?_, fun b hb => ?_⟩
  · funext j
    show hk_ref (hk_RT.take (p + 1)) a j = va_up (hk_ref (hk_RT.take p) a) k (some r) j
    by_cases hj : j = k
    · subst hj
      rw [va_up_self]
      unfold hk_ref
      rw [hap, List.find?_append, hn]
      simp
    · rw [va_up_ne _ _ hj]
      unfold hk_ref
      rw [hap, List.find?_append]
      have : [(a, k, r)].find? (fun q => q.1 == a && q.2.1 == j) = none := List.find?_eq_none.mpr (fun q hq => by
        simp at hq
        subst hq
        simp
        exact fun h => hj h.symm)
      rw [this, Option.or_none]
  · funext j
    show hk_ref (hk_RT.take (p + 1)) b j = hk_ref (hk_RT.take p) b j
    unfold hk_ref
    rw [hap, List.find?_append]
    have : [(a, k, r)].find? (fun q => q.1 == b && q.2.1 == j) = none := List.find?_eq_none.mpr (fun q hq => by
      simp at hq
      subst hq
      simp
      exact fun h => absurd h.symm hb)
    rw [this, Option.or_none]
theorem hkd_0 : ∀ j, j < 5 → defaultValue (tyX1 j) = (if hk_sort 0 j = 0 then .int 0 else .null) ∧ hk_sort 0 j ≤ 2 := by decide +kernel
theorem hkd_1 : ∀ j, j < 3 → defaultValue (tyX3 j) = (if hk_sort 1 j = 0 then .int 0 else .null) ∧ hk_sort 1 j ≤ 2 := by decide +kernel
theorem hkd_2 : ∀ j, j < 2 → defaultValue (tyX4 j) = (if hk_sort 2 j = 0 then .int 0 else .null) ∧ hk_sort 2 j ≤ 2 := by decide +kernel
theorem hkd_3 : ∀ j, j < 13 → defaultValue (tyX5 j) = (if hk_sort 3 j = 0 then .int 0 else .null) ∧ hk_sort 3 j ≤ 2 := by decide +kernel
theorem hkd_4 : ∀ j, j < 3 → defaultValue (tyX6 j) = (if hk_sort 4 j = 0 then .int 0 else .null) ∧ hk_sort 4 j ≤ 2 := by decide +kernel
theorem hkd_5 : ∀ j, j < 2 → defaultValue (tyX7 j) = (if hk_sort 5 j = 0 then .int 0 else .null) ∧ hk_sort 5 j ≤ 2 := by decide +kernel
theorem hkd_6 : ∀ j, j < 14 → defaultValue (tyX8 j) = (if hk_sort 6 j = 0 then .int 0 else .null) ∧ hk_sort 6 j ≤ 2 := by decide +kernel
theorem hkd_7 : ∀ j, j < 10 → defaultValue (tyX10 j) = (if hk_sort 7 j = 0 then .int 0 else .null) ∧ hk_sort 7 j ≤ 2 := by decide +kernel
theorem hkd_8 : ∀ j, j < 7 → defaultValue (tyX11 j) = (if hk_sort 8 j = 0 then .int 0 else .null) ∧ hk_sort 8 j ≤ 2 := by decide +kernel
theorem qv_RX5_32 : hk_yV RX5 32 yX5_clear cX5_clear 2 (Option.none : Option Jvm.ClassFile.FieldType) 0 := ⟨hk_m 145 (by decide +kernel) (by decide +kernel), hk_m 142 (by decide +kernel) (by decide +kernel), hk_m 143 (by decide +kernel) (by decide +kernel), hk_m 144 (by decide +kernel) (by decide +kernel), hk_m 7 (by decide +kernel) (by decide +kernel), by decide +kernel⟩
theorem qw_1 : (Jvm.Cond.initialized "WitheringLoft") ∈ hk_W := hk_m 6 (by decide +kernel) (by decide +kernel)
theorem qw_11 : (Jvm.Cond.initialized "WitheringLoft$Report") ∈ hk_W := hk_m 16 (by decide +kernel) (by decide +kernel)
theorem qw_116 : (Jvm.Cond.instantiable "WitheringLoft$Probe" (3 : Nat)) ∈ hk_W := hk_m 121 (by decide +kernel) (by decide +kernel)
theorem qw_2 : (Jvm.Cond.initialized "WitheringLoft$Loft") ∈ hk_W := hk_m 7 (by decide +kernel) (by decide +kernel)
theorem qw_200 : (Jvm.Cond.classLink "WitheringLoft" (19 : Nat) "WitheringLoft$History") ∈ hk_W := hk_m 205 (by decide +kernel) (by decide +kernel)
theorem qw_201 : (Jvm.Cond.instantiable "WitheringLoft$History" (3 : Nat)) ∈ hk_W := hk_m 206 (by decide +kernel) (by decide +kernel)
theorem qw_205 : (Jvm.Cond.methodLink "WitheringLoft$History" (3 : Nat) ({ cls := "java/lang/Object", name := "<init>", desc := "()V" } : Jvm.MethodName)) ∈ hk_W := hk_m 210 (by decide +kernel) (by decide +kernel)
theorem qw_206 : (Jvm.Cond.classLink "WitheringLoft$History" (9 : Nat) "WitheringLoft$Loft") ∈ hk_W := hk_m 211 (by decide +kernel) (by decide +kernel)
theorem qw_21 : (Jvm.Cond.classLink "WitheringLoftLaw" (8 : Nat) "WitheringLoft") ∈ hk_W := hk_m 26 (by decide +kernel) (by decide +kernel)
theorem qw_22 : (Jvm.Cond.instantiable "WitheringLoft" (7 : Nat)) ∈ hk_W := hk_m 27 (by decide +kernel) (by decide +kernel)
theorem qw_220 : (Jvm.Cond.classLink "WitheringLoft" (26 : Nat) "WitheringLoft$Script") ∈ hk_W := hk_m 225 (by decide +kernel) (by decide +kernel)
theorem qw_221 : (Jvm.Cond.instantiable "WitheringLoft$Script" (14 : Nat)) ∈ hk_W := hk_m 226 (by decide +kernel) (by decide +kernel)
theorem qw_225 : (Jvm.Cond.methodLink "WitheringLoft$Script" (3 : Nat) ({ cls := "java/lang/Object", name := "<init>", desc := "()V" } : Jvm.MethodName)) ∈ hk_W := hk_m 230 (by decide +kernel) (by decide +kernel)
theorem qw_226 : (Jvm.Cond.classLink "WitheringLoft$Script" (9 : Nat) "WitheringLoft$Input") ∈ hk_W := hk_m 231 (by decide +kernel) (by decide +kernel)
theorem qw_227 : (Jvm.Cond.instantiable "WitheringLoft$Input" (2 : Nat)) ∈ hk_W := hk_m 232 (by decide +kernel) (by decide +kernel)
theorem qw_231 : (Jvm.Cond.methodLink "WitheringLoft$Input" (3 : Nat) ({ cls := "java/lang/Object", name := "<init>", desc := "()V" } : Jvm.MethodName)) ∈ hk_W := hk_m 236 (by decide +kernel) (by decide +kernel)
theorem qw_232 : (Jvm.Cond.fieldLink "WitheringLoft$Input" (9 : Nat) "WitheringLoft$Input" "bytes" "[B") ∈ hk_W := hk_m 237 (by decide +kernel) (by decide +kernel)
theorem qw_238 : (Jvm.Cond.arrayClass Jvm.ClassFile.FieldType.byte) ∈ hk_W := hk_m 243 (by decide +kernel) (by decide +kernel)
theorem qw_239 : (Jvm.Cond.classLink "WitheringLoft$Script" (18 : Nat) "WitheringLoft$Loft") ∈ hk_W := hk_m 244 (by decide +kernel) (by decide +kernel)
theorem qw_241 : (Jvm.Cond.fieldLink "WitheringLoft$Script" (25 : Nat) "WitheringLoft$Token" "END" "LWitheringLoft$Token;") ∈ hk_W := hk_m 246 (by decide +kernel) (by decide +kernel)
theorem qw_243 : (Jvm.Cond.fieldLink "WitheringLoft$Script" (12 : Nat) "WitheringLoft$Script" "text" "LWitheringLoft$Input;") ∈ hk_W := hk_m 248 (by decide +kernel) (by decide +kernel)
theorem qw_244 : (Jvm.Cond.fieldLink "WitheringLoft$Script" (21 : Nat) "WitheringLoft$Script" "draft" "LWitheringLoft$Loft;") ∈ hk_W := hk_m 249 (by decide +kernel) (by decide +kernel)
theorem qw_245 : (Jvm.Cond.fieldLink "WitheringLoft$Script" (31 : Nat) "WitheringLoft$Script" "token" "LWitheringLoft$Token;") ∈ hk_W := hk_m 250 (by decide +kernel) (by decide +kernel)
theorem qw_246 : (Jvm.Cond.fieldLink "WitheringLoft$Script" (34 : Nat) "WitheringLoft$Script" "operands" "[I") ∈ hk_W := hk_m 251 (by decide +kernel) (by decide +kernel)
theorem qw_247 : (Jvm.Cond.fieldLink "WitheringLoft$Script" (38 : Nat) "WitheringLoft$Script" "bodyStarts" "[I") ∈ hk_W := hk_m 252 (by decide +kernel) (by decide +kernel)
theorem qw_248 : (Jvm.Cond.fieldLink "WitheringLoft$Script" (41 : Nat) "WitheringLoft$Script" "timesLeft" "[I") ∈ hk_W := hk_m 253 (by decide +kernel) (by decide +kernel)
theorem qw_26 : (Jvm.Cond.methodLink "WitheringLoft" (3 : Nat) ({ cls := "java/lang/Object", name := "<init>", desc := "()V" } : Jvm.MethodName)) ∈ hk_W := hk_m 31 (by decide +kernel) (by decide +kernel)
theorem qw_278 : (Jvm.Cond.classLink "WitheringLoft" (33 : Nat) "WitheringLoft$Report") ∈ hk_W := hk_m 283 (by decide +kernel) (by decide +kernel)
theorem qw_279 : (Jvm.Cond.instantiable "WitheringLoft$Report" (2 : Nat)) ∈ hk_W := hk_m 284 (by decide +kernel) (by decide +kernel)
theorem qw_283 : (Jvm.Cond.methodLink "WitheringLoft$Report" (3 : Nat) ({ cls := "java/lang/Object", name := "<init>", desc := "()V" } : Jvm.MethodName)) ∈ hk_W := hk_m 288 (by decide +kernel) (by decide +kernel)
theorem qw_284 : (Jvm.Cond.fieldLink "WitheringLoft$Report" (11 : Nat) "WitheringLoft$Report" "bytes" "[B") ∈ hk_W := hk_m 289 (by decide +kernel) (by decide +kernel)
theorem qw_29 : (Jvm.Cond.classLink "WitheringLoft" (9 : Nat) "WitheringLoft$Loft") ∈ hk_W := hk_m 34 (by decide +kernel) (by decide +kernel)
theorem qw_290 : (Jvm.Cond.classLink "WitheringLoft" (40 : Nat) "WitheringLoft$Trough") ∈ hk_W := hk_m 295 (by decide +kernel) (by decide +kernel)
theorem qw_3 : (Jvm.Cond.initialized "WitheringLoft$Air") ∈ hk_W := hk_m 8 (by decide +kernel) (by decide +kernel)
theorem qw_30 : (Jvm.Cond.instantiable "WitheringLoft$Loft" (13 : Nat)) ∈ hk_W := hk_m 35 (by decide +kernel) (by decide +kernel)
theorem qw_34 : (Jvm.Cond.methodLink "WitheringLoft$Loft" (3 : Nat) ({ cls := "java/lang/Object", name := "<init>", desc := "()V" } : Jvm.MethodName)) ∈ hk_W := hk_m 39 (by decide +kernel) (by decide +kernel)
theorem qw_35 : (Jvm.Cond.classLink "WitheringLoft$Loft" (9 : Nat) "WitheringLoft$Air") ∈ hk_W := hk_m 40 (by decide +kernel) (by decide +kernel)
theorem qw_36 : (Jvm.Cond.instantiable "WitheringLoft$Air" (5 : Nat)) ∈ hk_W := hk_m 41 (by decide +kernel) (by decide +kernel)
theorem qw_364 : (Jvm.Cond.fieldLink "WitheringLoft" (29 : Nat) "WitheringLoft" "script" "LWitheringLoft$Script;") ∈ hk_W := hk_m 369 (by decide +kernel) (by decide +kernel)
theorem qw_365 : (Jvm.Cond.fieldLink "WitheringLoft" (36 : Nat) "WitheringLoft" "report" "LWitheringLoft$Report;") ∈ hk_W := hk_m 370 (by decide +kernel) (by decide +kernel)
theorem qw_4 : (Jvm.Cond.initialized "WitheringLoft$Trough") ∈ hk_W := hk_m 9 (by decide +kernel) (by decide +kernel)
theorem qw_40 : (Jvm.Cond.methodLink "WitheringLoft$Air" (3 : Nat) ({ cls := "java/lang/Object", name := "<init>", desc := "()V" } : Jvm.MethodName)) ∈ hk_W := hk_m 45 (by decide +kernel) (by decide +kernel)
theorem qw_5 : (Jvm.Cond.initialized "WitheringLoft$Probe") ∈ hk_W := hk_m 10 (by decide +kernel) (by decide +kernel)
theorem qw_6 : (Jvm.Cond.initialized "WitheringLoft$History") ∈ hk_W := hk_m 11 (by decide +kernel) (by decide +kernel)
theorem qw_62 : (Jvm.Cond.arrayClass Jvm.ClassFile.FieldType.int) ∈ hk_W := hk_m 67 (by decide +kernel) (by decide +kernel)
theorem qw_63 : (Jvm.Cond.classLink "WitheringLoft$Loft" (18 : Nat) "WitheringLoft$Trough") ∈ hk_W := hk_m 68 (by decide +kernel) (by decide +kernel)
theorem qw_65 : (Jvm.Cond.classLink "WitheringLoft$Loft" (24 : Nat) "WitheringLoft$Probe") ∈ hk_W := hk_m 70 (by decide +kernel) (by decide +kernel)
theorem qw_67 : (Jvm.Cond.instantiable "WitheringLoft$Trough" (10 : Nat)) ∈ hk_W := hk_m 72 (by decide +kernel) (by decide +kernel)
theorem qw_7 : (Jvm.Cond.initialized "WitheringLoft$Script") ∈ hk_W := hk_m 12 (by decide +kernel) (by decide +kernel)
theorem qw_8 : (Jvm.Cond.initialized "WitheringLoft$Input") ∈ hk_W := hk_m 13 (by decide +kernel) (by decide +kernel)
theorem qi_RX3_17 : hk_yI RX3 17 yX5_init cX5_init 2 := ⟨hk_m 38 (by decide +kernel) (by decide +kernel), hk_m 213 (by decide +kernel) (by decide +kernel), hk_m 37 (by decide +kernel) (by decide +kernel), hk_m 7 (by decide +kernel) (by decide +kernel), rfl, by decide +kernel⟩
theorem qi_RX8_20 : hk_yI RX8 20 yX5_init cX5_init 2 := ⟨hk_m 38 (by decide +kernel) (by decide +kernel), hk_m 245 (by decide +kernel) (by decide +kernel), hk_m 37 (by decide +kernel) (by decide +kernel), hk_m 7 (by decide +kernel) (by decide +kernel), rfl, by decide +kernel⟩
theorem qi_RX11_11 : hk_yI RX11 11 yX5_init cX5_init 2 := ⟨hk_m 38 (by decide +kernel) (by decide +kernel), hk_m 36 (by decide +kernel) (by decide +kernel), hk_m 37 (by decide +kernel) (by decide +kernel), hk_m 7 (by decide +kernel) (by decide +kernel), rfl, by decide +kernel⟩
theorem qi_RX11_21 : hk_yI RX11 21 yX3_init cX3_init 2 := ⟨hk_m 209 (by decide +kernel) (by decide +kernel), hk_m 207 (by decide +kernel) (by decide +kernel), hk_m 208 (by decide +kernel) (by decide +kernel), hk_m 11 (by decide +kernel) (by decide +kernel), rfl, by decide +kernel⟩
theorem qi_RL_196 : hk_yI RL 196 yX11_init cX11_init 1 := ⟨hk_m 30 (by decide +kernel) (by decide +kernel), hk_m 28 (by decide +kernel) (by decide +kernel), hk_m 29 (by decide +kernel) (by decide +kernel), hk_m 6 (by decide +kernel) (by decide +kernel), rfl, by decide +kernel⟩
theorem qin_RX5_11 : hk_yIN RX5 11 yX1_init cX1_init 1 "WitheringLoft" := ⟨hk_m 44 (by decide +kernel) (by decide +kernel), by decide +kernel, hk_m 43 (by decide +kernel) (by decide +kernel), hk_m 8 (by decide +kernel) (by decide +kernel), rfl, by decide +kernel⟩
theorem qin_RX5_30 : hk_yIN RX5 30 yX10_init cX10_init 1 "WitheringLoft" := ⟨hk_m 75 (by decide +kernel) (by decide +kernel), by decide +kernel, hk_m 74 (by decide +kernel) (by decide +kernel), hk_m 9 (by decide +kernel) (by decide +kernel), rfl, by decide +kernel⟩
theorem qin_RX5_31 : hk_yIN RX5 31 yX6_init cX6_init 1 "WitheringLoft" := ⟨hk_m 124 (by decide +kernel) (by decide +kernel), by decide +kernel, hk_m 123 (by decide +kernel) (by decide +kernel), hk_m 10 (by decide +kernel) (by decide +kernel), rfl, by decide +kernel⟩
theorem qin_RX8_11 : hk_yIN RX8 11 yX4_init cX4_init 1 "WitheringLoft" := ⟨hk_m 235 (by decide +kernel) (by decide +kernel), by decide +kernel, hk_m 234 (by decide +kernel) (by decide +kernel), hk_m 13 (by decide +kernel) (by decide +kernel), rfl, by decide +kernel⟩
theorem qin_RX11_28 : hk_yIN RX11 28 yX8_init cX8_init 1 "WitheringLoft" := ⟨hk_m 229 (by decide +kernel) (by decide +kernel), by decide +kernel, hk_m 228 (by decide +kernel) (by decide +kernel), hk_m 12 (by decide +kernel) (by decide +kernel), rfl, by decide +kernel⟩
theorem qin_RX11_35 : hk_yIN RX11 35 yX7_init cX7_init 1 "WitheringLoft" := ⟨hk_m 287 (by decide +kernel) (by decide +kernel), by decide +kernel, hk_m 286 (by decide +kernel) (by decide +kernel), hk_m 16 (by decide +kernel) (by decide +kernel), rfl, by decide +kernel⟩
theorem qin_RX11_42 : hk_yIN RX11 42 yX10_init cX10_init 1 "WitheringLoft" := ⟨hk_m 75 (by decide +kernel) (by decide +kernel), by decide +kernel, hk_m 74 (by decide +kernel) (by decide +kernel), hk_m 9 (by decide +kernel) (by decide +kernel), rfl, by decide +kernel⟩
