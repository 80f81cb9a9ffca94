def mlaw_step (F : Nat) (S : hk_S) (q p1 p2 p3 p4 p5 : Int32) : Option hk_S :=
  if (q &&& 63) = 0 then mop_0 F S p1 p2 p3 p4 p5 else (if (q &&& 63) = 1 then mop_1 F S p1 p2 p3 p4 p5 else (if (q &&& 63) = 2 then mop_2 F S p1 p2 p3 p4 p5 else (if (q &&& 63) = 3 then mop_3 F S p1 p2 p3 p4 p5 else (if (q &&& 63) = 4 then mop_4 F S p1 p2 p3 p4 p5 else (if (q &&& 63) = 5 then mop_5 F S p1 p2 p3 p4 p5 else (if (q &&& 63) = 6 then mop_6 F S p1 p2 p3 p4 p5 else (if (q &&& 63) = 7 then mop_7 F S p1 p2 p3 p4 p5 else (if (q &&& 63) = 8 then mop_8 F S p1 p2 p3 p4 p5 else (if (q &&& 63) = 9 then mop_9 F S p1 p2 p3 p4 p5 else (if (q &&& 63) = 10 then mop_10 F S p1 p2 p3 p4 p5 else (if (q &&& 63) = 11 then mop_11 F S p1 p2 p3 p4 p5 else (if (q &&& 63) = 12 then mop_12 F S p1 p2 p3 p4 p5 else (if (q &&& 63) = 13 then mop_13 F S p1 p2 p3 p4 p5 else (if (q &&& 63) = 14 then mop_14 F S p1 p2 p3 p4 p5 else (if (q &&& 63) = 15 then mop_15 F S p1 p2 p3 p4 p5 else (if (q &&& 63) = 16 then mop_16 F S p1 p2 p3 p4 p5 else (if (q &&& 63) = 17 then mop_17 F S p1 p2 p3 p4 p5 else (if (q &&& 63) = 18 then mop_18 F S p1 p2 p3 p4 p5 else (if (q &&& 63) = 19 then mop_19 F S p1 p2 p3 p4 p5 else (if (q &&& 63) = 20 then mop_20 F S p1 p2 p3 p4 p5 else (if (q &&& 63) = 21 then mop_21 F S p1 p2 p3 p4 p5 else (if (q &&& 63) = 22 then mop_22 F S p1 p2 p3 p4 p5 else (if (q &&& 63) = 23 then mop_23 F S p1 p2 p3 p4 p5 else (if (q &&& 63) = 24 then mop_24 F S p1 p2 p3 p4 p5 else (if (q &&& 63) = 25 then mop_25 F S p1 p2 p3 p4 p5 else (if (q &&& 63) = 26 then mop_26 F S p1 p2 p3 p4 p5 else (if (q &&& 63) = 27 then mop_27 F S p1 p2 p3 p4 p5 else (if (q &&& 63) = 28 then mop_28 F S p1 p2 p3 p4 p5 else (if (q &&& 63) = 29 then mop_29 F S p1 p2 p3 p4 p5 else (if (q &&& 63) = 30 then mop_30 F S p1 p2 p3 p4 p5 else (if (q &&& 63) = 31 then mop_31 F S p1 p2 p3 p4 p5 else (if (q &&& 63) = 32 then mop_32 F S p1 p2 p3 p4 p5 else (if (q &&& 63) = 33 then mop_33 F S p1 p2 p3 p4 p5 else (if (q &&& 63) = 34 then mop_34 F S p1 p2 p3 p4 p5 else (if (q &&& 63) = 35 then mop_35 F S p1 p2 p3 p4 p5 else (if (q &&& 63) = 36 then mop_36 F S p1 p2 p3 p4 p5 else (if (q &&& 63) = 37 then mop_37 F S p1 p2 p3 p4 p5 else (if (q &&& 63) = 38 then mop_38 F S p1 p2 p3 p4 p5 else (if (q &&& 63) = 39 then mop_39 F S p1 p2 p3 p4 p5 else (if (q &&& 63) = 40 then mop_40 F S p1 p2 p3 p4 p5 else (if (q &&& 63) = 41 then mop_41 F S p1 p2 p3 p4 p5 else (if (q &&& 63) = 42 then mop_42 F S p1 p2 p3 p4 p5 else (if (q &&& 63) = 43 then mop_43 F S p1 p2 p3 p4 p5 else (if (q &&& 63) = 44 then mop_44 F S p1 p2 p3 p4 p5 else (if (q &&& 63) = 45 then mop_45 F S p1 p2 p3 p4 p5 else (if (q &&& 63) = 46 then mop_46 F S p1 p2 p3 p4 p5 else (if (q &&& 63) = 47 then mop_47 F S p1 p2 p3 p4 p5 else (if (q &&& 63) = 48 then mop_48 F S p1 p2 p3 p4 p5 else (if (q &&& 63) = 49 then mop_49 F S p1 p2 p3 p4 p5 else (if (q &&& 63) = 50 then mop_50 F S p1 p2 p3 p4 p5 else (if (q &&& 63) = 51 then mop_51 F S p1 p2 p3 p4 p5 else (if (q &&& 63) = 52 then mop_52 F S p1 p2 p3 p4 p5 else (if (q &&& 63) = 53 then mop_53 F S p1 p2 p3 p4 p5 else (if (q &&& 63) = 54 then mop_54 F S p1 p2 p3 p4 p5 else (if (q &&& 63) = 55 then mop_55 F S p1 p2 p3 p4 p5 else (if (q &&& 63) = 56 then mop_56 F S p1 p2 p3 p4 p5 else (if (q &&& 63) = 57 then mop_57 F S p1 p2 p3 p4 p5 else (if (q &&& 63) = 58 then mop_58 F S p1 p2 p3 p4 p5 else (if (q &&& 63) = 59 then mop_59 F S p1 p2 p3 p4 p5 else (if (q &&& 63) = 60 then mop_60 F S p1 p2 p3 p4 p5 else (if (q &&& 63) = 61 then mop_61 F S p1 p2 p3 p4 p5 else (if (q &&& 63) = 62 then mop_62 F S p1 p2 p3 p4 p5 else (if (q &&& 63) = 63 then mop_63 F S p1 p2 p3 p4 p5 else (some S))))))))))))))))))))))))))))))))))))))))))))))))))))))))))))))))
def mlaw_loop (F : Nat) (xs : Nat → Int32) : Nat → Nat → hk_S → Option hk_S
  | 0, _ => fun S => some S
  | d + 1, k => fun S => (mlaw_step F S (xs k) (xs (k + 1)) (xs (k + 2)) (xs (k + 3)) (xs (k + 4)) (xs (k + 5))).bind (fun S1 => mlaw_loop F xs d (k + 6) S1)
section HKLAW
variable {p : Program} {l : Launch} {e : Env} {s : State} {m : MethodId} {below : List Frame} {meth : Method} {c : Code} {Q : State → Prop} {b L : Nat} {xs : Nat → Int32} {g : hk_G}
set_option maxHeartbeats 4000000 in
set_option maxRecDepth 100000 in
theorem klaw_step (hst : l.stackTraces = false) (hC : hk_LC p s m meth c b L xs g) (F : Nat) {n : Nat} {S : hk_S} {H : Heap} {locs : List Loc} {ls : Array Slot} {cells slots : Nat} {i : Int32} (hi : ∀ k : Nat, k < 6 → vp_in (i + nI k) L) (hf : cells + 8 ≤ room_1.cells ∧ slots + 48 ≤ room_1.slots) (G : hk_GG g (hk_EE 232 229) S n s H locs) (hl : lv_has ls 9 [(0, .ref b), (1, .ref (g.1 + 0)), (2, .ref (g.1 + 221)), (3, .ref (g.1 + 231)), (4, .int i)]) (o : hk_S) (hsp : mlaw_step F S (xs i.toNatClampNeg) (xs (i + 1).toNatClampNeg) (xs (i + 2).toNatClampNeg) (xs (i + 3).toNatClampNeg) (xs (i + 4).toNatClampNeg) (xs (i + 5).toNatClampNeg) = some o) (kk : ∀ (n1 : Nat) (H1 : Heap) (locs1 : List Loc) (ls1 : Array Slot), hk_GG g (hk_EE 232 229) o n1 s H1 locs1 → lv_has ls1 9 [(0, .ref b), (1, .ref (g.1 + 0)), (2, .ref (g.1 + 221)), (3, .ref (g.1 + 231)), (4, .int i)] → W p l e room_1 s m #[Value.ref b] below meth c H1 locs1 (cells + 8) (slots + 48) Q (F0 m 3152 ls1 [])) : W p l e room_1 s m #[Value.ref b] below meth c H locs cells slots Q (F0 m 33 ls []) := by
  have F9 := hC.1
  have hx := F9.1
  have hb := F9.2.1
  refine lv_aload_n hx hb dL_law_33 rfl (lv_at hl 0 rfl) ?_
  refine lv_iload hx hb dL_law_34 (lv_at hl 4 rfl) ?_
  have hi0 : vp_in i L := by
    have h := hi 0 (by decide)
    rwa [nI_0, Int32.add_zero] at h
  refine va_sld hx hb hC.2.2.1 hC.2.2.2.1 hC.2.2.2.2 G.2.1 hi0 dL_law_36 ?_
  refine lv_bipush (v := 63) hx hb dL_law_37 (by decide) ?_
  refine lv_iand hx hb dL_law_39 ?_
  unfold mlaw_step at hsp
  generalize (xs i.toNatClampNeg &&& 63) = v at hsp ⊢
  rcases Classical.em (v = 0) with w0 | w0
  · have hsp := hk_t w0 hsp
    refine lv_tableIn (off := 272) (tgt := 312) hx hb dL_law_40 (by rw [w0]; decide) (by rw [w0]; decide) (by rw [w0]; rfl) (by decide) ?_
    exact kop_0 hst hC F hi hf G hl o hsp kk
  have hsp := hk_f w0 hsp
  rcases Classical.em (v = 1) with w1 | w1
  · have hsp := hk_t w1 hsp
    refine lv_tableIn (off := 345) (tgt := 385) hx hb dL_law_40 (by rw [w1]; decide) (by rw [w1]; decide) (by rw [w1]; rfl) (by decide) ?_
    exact kop_1 hst hC F hi hf G hl o hsp kk
  have hsp := hk_f w1 hsp
  rcases Classical.em (v = 2) with w2 | w2
  · have hsp := hk_t w2 hsp
    refine lv_tableIn (off := 401) (tgt := 441) hx hb dL_law_40 (by rw [w2]; decide) (by rw [w2]; decide) (by rw [w2]; rfl) (by decide) ?_
    exact kop_2 hst hC F hi hf G hl o hsp kk
  have hsp := hk_f w2 hsp
  rcases Classical.em (v = 3) with w3 | w3
  · have hsp := hk_t w3 hsp
    refine lv_tableIn (off := 414) (tgt := 454) hx hb dL_law_40 (by rw [w3]; decide) (by rw [w3]; decide) (by rw [w3]; rfl) (by decide) ?_
    exact kop_3 hst hC F hi hf G hl o hsp kk
  have hsp := hk_f w3 hsp
  rcases Classical.em (v = 4) with w4 | w4
  · have hsp := hk_t w4 hsp
    refine lv_tableIn (off := 470) (tgt := 510) hx hb dL_law_40 (by rw [w4]; decide) (by rw [w4]; decide) (by rw [w4]; rfl) (by decide) ?_
    exact kop_4 hst hC F hi hf G hl o hsp kk
  have hsp := hk_f w4 hsp
  rcases Classical.em (v = 5) with w5 | w5
  · have hsp := hk_t w5 hsp
    refine lv_tableIn (off := 550) (tgt := 590) hx hb dL_law_40 (by rw [w5]; decide) (by rw [w5]; decide) (by rw [w5]; rfl) (by decide) ?_
    exact kop_5 hst hC F hi hf G hl o hsp kk
  have hsp := hk_f w5 hsp
  rcases Classical.em (v = 6) with w6 | w6
  · have hsp := hk_t w6 hsp
    refine lv_tableIn (off := 618) (tgt := 658) hx hb dL_law_40 (by rw [w6]; decide) (by rw [w6]; decide) (by rw [w6]; rfl) (by decide) ?_
    exact kop_6 hst hC F hi hf G hl o hsp kk
  have hsp := hk_f w6 hsp
  rcases Classical.em (v = 7) with w7 | w7
  · have hsp := hk_t w7 hsp
    refine lv_tableIn (off := 681) (tgt := 721) hx hb dL_law_40 (by rw [w7]; decide) (by rw [w7]; decide) (by rw [w7]; rfl) (by decide) ?_
    exact kop_7 hst hC F hi hf G hl o hsp kk
  have hsp := hk_f w7 hsp
  rcases Classical.em (v = 8) with w8 | w8
  · have hsp := hk_t w8 hsp
    refine lv_tableIn (off := 737) (tgt := 777) hx hb dL_law_40 (by rw [w8]; decide) (by rw [w8]; decide) (by rw [w8]; rfl) (by decide) ?_
    exact kop_8 hst hC F hi hf G hl o hsp kk
  have hsp := hk_f w8 hsp
  rcases Classical.em (v = 9) with w9 | w9
  · have hsp := hk_t w9 hsp
    refine lv_tableIn (off := 793) (tgt := 833) hx hb dL_law_40 (by rw [w9]; decide) (by rw [w9]; decide) (by rw [w9]; rfl) (by decide) ?_
    exact kop_9 hst hC F hi hf G hl o hsp kk
  have hsp := hk_f w9 hsp
  rcases Classical.em (v = 10) with w10 | w10
  · have hsp := hk_t w10 hsp
    refine lv_tableIn (off := 849) (tgt := 889) hx hb dL_law_40 (by rw [w10]; decide) (by rw [w10]; decide) (by rw [w10]; rfl) (by decide) ?_
    exact kop_10 hst hC F hi hf G hl o hsp kk
  have hsp := hk_f w10 hsp
  rcases Classical.em (v = 11) with w11 | w11
  · have hsp := hk_t w11 hsp
    refine lv_tableIn (off := 917) (tgt := 957) hx hb dL_law_40 (by rw [w11]; decide) (by rw [w11]; decide) (by rw [w11]; rfl) (by decide) ?_
    exact kop_11 hst hC F hi hf G hl o hsp kk
  have hsp := hk_f w11 hsp
  rcases Classical.em (v = 12) with w12 | w12
  · have hsp := hk_t w12 hsp
    refine lv_tableIn (off := 973) (tgt := 1013) hx hb dL_law_40 (by rw [w12]; decide) (by rw [w12]; decide) (by rw [w12]; rfl) (by decide) ?_
    exact kop_12 hst hC F hi hf G hl o hsp kk
  have hsp := hk_f w12 hsp
  rcases Classical.em (v = 13) with w13 | w13
  · have hsp := hk_t w13 hsp
    refine lv_tableIn (off := 1029) (tgt := 1069) hx hb dL_law_40 (by rw [w13]; decide) (by rw [w13]; decide) (by rw [w13]; rfl) (by decide) ?_
    exact kop_13 hst hC F hi hf G hl o hsp kk
  have hsp := hk_f w13 hsp
  rcases Classical.em (v = 14) with w14 | w14
  · have hsp := hk_t w14 hsp
    refine lv_tableIn (off := 1085) (tgt := 1125) hx hb dL_law_40 (by rw [w14]; decide) (by rw [w14]; decide) (by rw [w14]; rfl) (by decide) ?_
    exact kop_14 hst hC F hi hf G hl o hsp kk
  have hsp := hk_f w14 hsp
  rcases Classical.em (v = 15) with w15 | w15
  · have hsp := hk_t w15 hsp
    refine lv_tableIn (off := 1165) (tgt := 1205) hx hb dL_law_40 (by rw [w15]; decide) (by rw [w15]; decide) (by rw [w15]; rfl) (by decide) ?_
    exact kop_15 hst hC F hi hf G hl o hsp kk
  have hsp := hk_f w15 hsp
  rcases Classical.em (v = 16) with w16 | w16
  · have hsp := hk_t w16 hsp
    refine lv_tableIn (off := 1245) (tgt := 1285) hx hb dL_law_40 (by rw [w16]; decide) (by rw [w16]; decide) (by rw [w16]; rfl) (by decide) ?_
    exact kop_16 hst hC F hi hf G hl o hsp kk
  have hsp := hk_f w16 hsp
  rcases Classical.em (v = 17) with w17 | w17
  · have hsp := hk_t w17 hsp
    refine lv_tableIn (off := 1301) (tgt := 1341) hx hb dL_law_40 (by rw [w17]; decide) (by rw [w17]; decide) (by rw [w17]; rfl) (by decide) ?_
    exact kop_17 hst hC F hi hf G hl o hsp kk
  have hsp := hk_f w17 hsp
  rcases Classical.em (v = 18) with w18 | w18
  · have hsp := hk_t w18 hsp
    refine lv_tableIn (off := 1357) (tgt := 1397) hx hb dL_law_40 (by rw [w18]; decide) (by rw [w18]; decide) (by rw [w18]; rfl) (by decide) ?_
    exact kop_18 hst hC F hi hf G hl o hsp kk
  have hsp := hk_f w18 hsp
  rcases Classical.em (v = 19) with w19 | w19
  · have hsp := hk_t w19 hsp
    refine lv_tableIn (off := 1370) (tgt := 1410) hx hb dL_law_40 (by rw [w19]; decide) (by rw [w19]; decide) (by rw [w19]; rfl) (by decide) ?_
    exact kop_19 hst hC F hi hf G hl o hsp kk
  have hsp := hk_f w19 hsp
  rcases Classical.em (v = 20) with w20 | w20
  · have hsp := hk_t w20 hsp
    refine lv_tableIn (off := 1383) (tgt := 1423) hx hb dL_law_40 (by rw [w20]; decide) (by rw [w20]; decide) (by rw [w20]; rfl) (by decide) ?_
    exact kop_20 hst hC F hi hf G hl o hsp kk
  have hsp := hk_f w20 hsp
  rcases Classical.em (v = 21) with w21 | w21
  · have hsp := hk_t w21 hsp
    refine lv_tableIn (off := 1396) (tgt := 1436) hx hb dL_law_40 (by rw [w21]; decide) (by rw [w21]; decide) (by rw [w21]; rfl) (by decide) ?_
    exact kop_21 hst hC F hi hf G hl o hsp kk
  have hsp := hk_f w21 hsp
  rcases Classical.em (v = 22) with w22 | w22
  · have hsp := hk_t w22 hsp
    refine lv_tableIn (off := 1440) (tgt := 1480) hx hb dL_law_40 (by rw [w22]; decide) (by rw [w22]; decide) (by rw [w22]; rfl) (by decide) ?_
    exact kop_22 hst hC F hi hf G hl o hsp kk
  have hsp := hk_f w22 hsp
  rcases Classical.em (v = 23) with w23 | w23
  · have hsp := hk_t w23 hsp
    refine lv_tableIn (off := 1453) (tgt := 1493) hx hb dL_law_40 (by rw [w23]; decide) (by rw [w23]; decide) (by rw [w23]; rfl) (by decide) ?_
    exact kop_23 hst hC F hi hf G hl o hsp kk
  have hsp := hk_f w23 hsp
  rcases Classical.em (v = 24) with w24 | w24
  · have hsp := hk_t w24 hsp
    refine lv_tableIn (off := 1466) (tgt := 1506) hx hb dL_law_40 (by rw [w24]; decide) (by rw [w24]; decide) (by rw [w24]; rfl) (by decide) ?_
    exact kop_24 hst hC F hi hf G hl o hsp kk
  have hsp := hk_f w24 hsp
  rcases Classical.em (v = 25) with w25 | w25
  · have hsp := hk_t w25 hsp
    refine lv_tableIn (off := 1479) (tgt := 1519) hx hb dL_law_40 (by rw [w25]; decide) (by rw [w25]; decide) (by rw [w25]; rfl) (by decide) ?_
    exact kop_25 hst hC F hi hf G hl o hsp kk
  have hsp := hk_f w25 hsp
  rcases Classical.em (v = 26) with w26 | w26
  · have hsp := hk_t w26 hsp
    refine lv_tableIn (off := 1492) (tgt := 1532) hx hb dL_law_40 (by rw [w26]; decide) (by rw [w26]; decide) (by rw [w26]; rfl) (by decide) ?_
    exact kop_26 hst hC F hi hf G hl o hsp kk
  have hsp := hk_f w26 hsp
  rcases Classical.em (v = 27) with w27 | w27
  · have hsp := hk_t w27 hsp
    refine lv_tableIn (off := 1548) (tgt := 1588) hx hb dL_law_40 (by rw [w27]; decide) (by rw [w27]; decide) (by rw [w27]; rfl) (by decide) ?_
    exact kop_27 hst hC F hi hf G hl o hsp kk
  have hsp := hk_f w27 hsp
  rcases Classical.em (v = 28) with w28 | w28
  · have hsp := hk_t w28 hsp
    refine lv_tableIn (off := 1561) (tgt := 1601) hx hb dL_law_40 (by rw [w28]; decide) (by rw [w28]; decide) (by rw [w28]; rfl) (by decide) ?_
    exact kop_28 hst hC F hi hf G hl o hsp kk
  have hsp := hk_f w28 hsp
  rcases Classical.em (v = 29) with w29 | w29
  · have hsp := hk_t w29 hsp
    refine lv_tableIn (off := 1574) (tgt := 1614) hx hb dL_law_40 (by rw [w29]; decide) (by rw [w29]; decide) (by rw [w29]; rfl) (by decide) ?_
    exact kop_29 hst hC F hi hf G hl o hsp kk
  have hsp := hk_f w29 hsp
  rcases Classical.em (v = 30) with w30 | w30
  · have hsp := hk_t w30 hsp
    refine lv_tableIn (off := 1587) (tgt := 1627) hx hb dL_law_40 (by rw [w30]; decide) (by rw [w30]; decide) (by rw [w30]; rfl) (by decide) ?_
    exact kop_30 hst hC F hi hf G hl o hsp kk
  have hsp := hk_f w30 hsp
  rcases Classical.em (v = 31) with w31 | w31
  · have hsp := hk_t w31 hsp
    refine lv_tableIn (off := 1600) (tgt := 1640) hx hb dL_law_40 (by rw [w31]; decide) (by rw [w31]; decide) (by rw [w31]; rfl) (by decide) ?_
    exact kop_31 hst hC F hi hf G hl o hsp kk
  have hsp := hk_f w31 hsp
  rcases Classical.em (v = 32) with w32 | w32
  · have hsp := hk_t w32 hsp
    refine lv_tableIn (off := 1613) (tgt := 1653) hx hb dL_law_40 (by rw [w32]; decide) (by rw [w32]; decide) (by rw [w32]; rfl) (by decide) ?_
    exact kop_32 hst hC F hi hf G hl o hsp kk
  have hsp := hk_f w32 hsp
  rcases Classical.em (v = 33) with w33 | w33
  · have hsp := hk_t w33 hsp
    refine lv_tableIn (off := 1669) (tgt := 1709) hx hb dL_law_40 (by rw [w33]; decide) (by rw [w33]; decide) (by rw [w33]; rfl) (by decide) ?_
    exact kop_33 hst hC F hi hf G hl o hsp kk
  have hsp := hk_f w33 hsp
  rcases Classical.em (v = 34) with w34 | w34
  · have hsp := hk_t w34 hsp
    refine lv_tableIn (off := 1725) (tgt := 1765) hx hb dL_law_40 (by rw [w34]; decide) (by rw [w34]; decide) (by rw [w34]; rfl) (by decide) ?_
    exact kop_34 hst hC F hi hf G hl o hsp kk
  have hsp := hk_f w34 hsp
  rcases Classical.em (v = 35) with w35 | w35
  · have hsp := hk_t w35 hsp
    refine lv_tableIn (off := 1781) (tgt := 1821) hx hb dL_law_40 (by rw [w35]; decide) (by rw [w35]; decide) (by rw [w35]; rfl) (by decide) ?_
    exact kop_35 hst hC F hi hf G hl o hsp kk
  have hsp := hk_f w35 hsp
  rcases Classical.em (v = 36) with w36 | w36
  · have hsp := hk_t w36 hsp
    refine lv_tableIn (off := 1837) (tgt := 1877) hx hb dL_law_40 (by rw [w36]; decide) (by rw [w36]; decide) (by rw [w36]; rfl) (by decide) ?_
    exact kop_36 hst hC F hi hf G hl o hsp kk
  have hsp := hk_f w36 hsp
  rcases Classical.em (v = 37) with w37 | w37
  · have hsp := hk_t w37 hsp
    refine lv_tableIn (off := 1900) (tgt := 1940) hx hb dL_law_40 (by rw [w37]; decide) (by rw [w37]; decide) (by rw [w37]; rfl) (by decide) ?_
    exact kop_37 hst hC F hi hf G hl o hsp kk
  have hsp := hk_f w37 hsp
  rcases Classical.em (v = 38) with w38 | w38
  · have hsp := hk_t w38 hsp
    refine lv_tableIn (off := 1968) (tgt := 2008) hx hb dL_law_40 (by rw [w38]; decide) (by rw [w38]; decide) (by rw [w38]; rfl) (by decide) ?_
    exact kop_38 hst hC F hi hf G hl o hsp kk
  have hsp := hk_f w38 hsp
  rcases Classical.em (v = 39) with w39 | w39
  · have hsp := hk_t w39 hsp
    refine lv_tableIn (off := 2024) (tgt := 2064) hx hb dL_law_40 (by rw [w39]; decide) (by rw [w39]; decide) (by rw [w39]; rfl) (by decide) ?_
    exact kop_39 hst hC F hi hf G hl o hsp kk
  have hsp := hk_f w39 hsp
  rcases Classical.em (v = 40) with w40 | w40
  · have hsp := hk_t w40 hsp
    refine lv_tableIn (off := 2080) (tgt := 2120) hx hb dL_law_40 (by rw [w40]; decide) (by rw [w40]; decide) (by rw [w40]; rfl) (by decide) ?_
    exact kop_40 hst hC F hi hf G hl o hsp kk
  have hsp := hk_f w40 hsp
  rcases Classical.em (v = 41) with w41 | w41
  · have hsp := hk_t w41 hsp
    refine lv_tableIn (off := 2136) (tgt := 2176) hx hb dL_law_40 (by rw [w41]; decide) (by rw [w41]; decide) (by rw [w41]; rfl) (by decide) ?_
    exact kop_41 hst hC F hi hf G hl o hsp kk
  have hsp := hk_f w41 hsp
  rcases Classical.em (v = 42) with w42 | w42
  · have hsp := hk_t w42 hsp
    refine lv_tableIn (off := 2192) (tgt := 2232) hx hb dL_law_40 (by rw [w42]; decide) (by rw [w42]; decide) (by rw [w42]; rfl) (by decide) ?_
    exact kop_42 hst hC F hi hf G hl o hsp kk
  have hsp := hk_f w42 hsp
  rcases Classical.em (v = 43) with w43 | w43
  · have hsp := hk_t w43 hsp
    refine lv_tableIn (off := 2248) (tgt := 2288) hx hb dL_law_40 (by rw [w43]; decide) (by rw [w43]; decide) (by rw [w43]; rfl) (by decide) ?_
    exact kop_43 hst hC F hi hf G hl o hsp kk
  have hsp := hk_f w43 hsp
  rcases Classical.em (v = 44) with w44 | w44
  · have hsp := hk_t w44 hsp
    refine lv_tableIn (off := 2304) (tgt := 2344) hx hb dL_law_40 (by rw [w44]; decide) (by rw [w44]; decide) (by rw [w44]; rfl) (by decide) ?_
    exact kop_44 hst hC F hi hf G hl o hsp kk
  have hsp := hk_f w44 hsp
  rcases Classical.em (v = 45) with w45 | w45
  · have hsp := hk_t w45 hsp
    refine lv_tableIn (off := 2317) (tgt := 2357) hx hb dL_law_40 (by rw [w45]; decide) (by rw [w45]; decide) (by rw [w45]; rfl) (by decide) ?_
    exact kop_45 hst hC F hi hf G hl o hsp kk
  have hsp := hk_f w45 hsp
  rcases Classical.em (v = 46) with w46 | w46
  · have hsp := hk_t w46 hsp
    refine lv_tableIn (off := 2373) (tgt := 2413) hx hb dL_law_40 (by rw [w46]; decide) (by rw [w46]; decide) (by rw [w46]; rfl) (by decide) ?_
    exact kop_46 hst hC F hi hf G hl o hsp kk
  have hsp := hk_f w46 hsp
  rcases Classical.em (v = 47) with w47 | w47
  · have hsp := hk_t w47 hsp
    refine lv_tableIn (off := 2429) (tgt := 2469) hx hb dL_law_40 (by rw [w47]; decide) (by rw [w47]; decide) (by rw [w47]; rfl) (by decide) ?_
    exact kop_47 hst hC F hi hf G hl o hsp kk
  have hsp := hk_f w47 hsp
  rcases Classical.em (v = 48) with w48 | w48
  · have hsp := hk_t w48 hsp
    refine lv_tableIn (off := 2485) (tgt := 2525) hx hb dL_law_40 (by rw [w48]; decide) (by rw [w48]; decide) (by rw [w48]; rfl) (by decide) ?_
    exact kop_48 hst hC F hi hf G hl o hsp kk
  have hsp := hk_f w48 hsp
  rcases Classical.em (v = 49) with w49 | w49
  · have hsp := hk_t w49 hsp
    refine lv_tableIn (off := 2541) (tgt := 2581) hx hb dL_law_40 (by rw [w49]; decide) (by rw [w49]; decide) (by rw [w49]; rfl) (by decide) ?_
    exact kop_49 hst hC F hi hf G hl o hsp kk
  have hsp := hk_f w49 hsp
  rcases Classical.em (v = 50) with w50 | w50
  · have hsp := hk_t w50 hsp
    refine lv_tableIn (off := 2597) (tgt := 2637) hx hb dL_law_40 (by rw [w50]; decide) (by rw [w50]; decide) (by rw [w50]; rfl) (by decide) ?_
    exact kop_50 hst hC F hi hf G hl o hsp kk
  have hsp := hk_f w50 hsp
  rcases Classical.em (v = 51) with w51 | w51
  · have hsp := hk_t w51 hsp
    refine lv_tableIn (off := 2677) (tgt := 2717) hx hb dL_law_40 (by rw [w51]; decide) (by rw [w51]; decide) (by rw [w51]; rfl) (by decide) ?_
    exact kop_51 hst hC F hi hf G hl o hsp kk
  have hsp := hk_f w51 hsp
  rcases Classical.em (v = 52) with w52 | w52
  · have hsp := hk_t w52 hsp
    refine lv_tableIn (off := 2733) (tgt := 2773) hx hb dL_law_40 (by rw [w52]; decide) (by rw [w52]; decide) (by rw [w52]; rfl) (by decide) ?_
    exact kop_52 hst hC F hi hf G hl o hsp kk
  have hsp := hk_f w52 hsp
  rcases Classical.em (v = 53) with w53 | w53
  · have hsp := hk_t w53 hsp
    refine lv_tableIn (off := 2789) (tgt := 2829) hx hb dL_law_40 (by rw [w53]; decide) (by rw [w53]; decide) (by rw [w53]; rfl) (by decide) ?_
    exact kop_53 hst hC F hi hf G hl o hsp kk
  have hsp := hk_f w53 hsp
  rcases Classical.em (v = 54) with w54 | w54
  · have hsp := hk_t w54 hsp
    refine lv_tableIn (off := 2857) (tgt := 2897) hx hb dL_law_40 (by rw [w54]; decide) (by rw [w54]; decide) (by rw [w54]; rfl) (by decide) ?_
    exact kop_54 hst hC F hi hf G hl o hsp kk
  have hsp := hk_f w54 hsp
  rcases Classical.em (v = 55) with w55 | w55
  · have hsp := hk_t w55 hsp
    refine lv_tableIn (off := 2925) (tgt := 2965) hx hb dL_law_40 (by rw [w55]; decide) (by rw [w55]; decide) (by rw [w55]; rfl) (by decide) ?_
    exact kop_55 hst hC F hi hf G hl o hsp kk
  have hsp := hk_f w55 hsp
  rcases Classical.em (v = 56) with w56 | w56
  · have hsp := hk_t w56 hsp
    refine lv_tableIn (off := 2938) (tgt := 2978) hx hb dL_law_40 (by rw [w56]; decide) (by rw [w56]; decide) (by rw [w56]; rfl) (by decide) ?_
    exact kop_56 hst hC F hi hf G hl o hsp kk
  have hsp := hk_f w56 hsp
  rcases Classical.em (v = 57) with w57 | w57
  · have hsp := hk_t w57 hsp
    refine lv_tableIn (off := 2951) (tgt := 2991) hx hb dL_law_40 (by rw [w57]; decide) (by rw [w57]; decide) (by rw [w57]; rfl) (by decide) ?_
    exact kop_57 hst hC F hi hf G hl o hsp kk
  have hsp := hk_f w57 hsp
  rcases Classical.em (v = 58) with w58 | w58
  · have hsp := hk_t w58 hsp
    refine lv_tableIn (off := 2964) (tgt := 3004) hx hb dL_law_40 (by rw [w58]; decide) (by rw [w58]; decide) (by rw [w58]; rfl) (by decide) ?_
    exact kop_58 hst hC F hi hf G hl o hsp kk
  have hsp := hk_f w58 hsp
  rcases Classical.em (v = 59) with w59 | w59
  · have hsp := hk_t w59 hsp
    refine lv_tableIn (off := 2977) (tgt := 3017) hx hb dL_law_40 (by rw [w59]; decide) (by rw [w59]; decide) (by rw [w59]; rfl) (by decide) ?_
    exact kop_59 hst hC F hi hf G hl o hsp kk
  have hsp := hk_f w59 hsp
  rcases Classical.em (v = 60) with w60 | w60
  · have hsp := hk_t w60 hsp
    refine lv_tableIn (off := 3018) (tgt := 3058) hx hb dL_law_40 (by rw [w60]; decide) (by rw [w60]; decide) (by rw [w60]; rfl) (by decide) ?_
    exact kop_60 hst hC F hi hf G hl o hsp kk
  have hsp := hk_f w60 hsp
  rcases Classical.em (v = 61) with w61 | w61
  · have hsp := hk_t w61 hsp
    refine lv_tableIn (off := 3061) (tgt := 3101) hx hb dL_law_40 (by rw [w61]; decide) (by rw [w61]; decide) (by rw [w61]; rfl) (by decide) ?_
    exact kop_61 hst hC F hi hf G hl o hsp kk
  have hsp := hk_f w61 hsp
  rcases Classical.em (v = 62) with w62 | w62
  · have hsp := hk_t w62 hsp
    refine lv_tableIn (off := 3074) (tgt := 3114) hx hb dL_law_40 (by rw [w62]; decide) (by rw [w62]; decide) (by rw [w62]; rfl) (by decide) ?_
    exact kop_62 hst hC F hi hf G hl o hsp kk
  have hsp := hk_f w62 hsp
  rcases Classical.em (v = 63) with w63 | w63
  · have hsp := hk_t w63 hsp
    refine lv_tableIn (off := 3087) (tgt := 3127) hx hb dL_law_40 (by rw [w63]; decide) (by rw [w63]; decide) (by rw [w63]; rfl) (by decide) ?_
    exact kop_63 hst hC F hi hf G hl o hsp kk
  have hsp := hk_f w63 hsp
  refine lv_tableOut (tgt := 3152) hx hb dL_law_40 (hk_outs (lo := 0) (n := 64) (L := [0, 1, 2, 3, 4, 5, 6, 7, 8, 9, 10, 11, 12, 13, 14, 15, 16, 17, 18, 19, 20, 21, 22, 23, 24, 25, 26, 27, 28, 29, 30, 31, 32, 33, 34, 35, 36, 37, 38, 39, 40, 41, 42, 43, 44, 45, 46, 47, 48, 49, 50, 51, 52, 53, 54, 55, 56, 57, 58, 59, 60, 61, 62, 63]) (List.forall_mem_cons.mpr ⟨w0, List.forall_mem_cons.mpr ⟨w1, List.forall_mem_cons.mpr ⟨w2, List.forall_mem_cons.mpr ⟨w3, List.forall_mem_cons.mpr ⟨w4, List.forall_mem_cons.mpr ⟨w5, List.forall_mem_cons.mpr ⟨w6, List.forall_mem_cons.mpr ⟨w7, List.forall_mem_cons.mpr ⟨w8, List.forall_mem_cons.mpr ⟨w9, List.forall_mem_cons.mpr ⟨w10, List.forall_mem_cons.mpr ⟨w11, List.forall_mem_cons.mpr ⟨w12, List.forall_mem_cons.mpr ⟨w13, List.forall_mem_cons.mpr ⟨w14, List.forall_mem_cons.mpr ⟨w15, List.forall_mem_cons.mpr ⟨w16, List.forall_mem_cons.mpr ⟨w17, List.forall_mem_cons.mpr ⟨w18, List.forall_mem_cons.mpr ⟨w19, List.forall_mem_cons.mpr ⟨w20, List.forall_mem_cons.mpr ⟨w21, List.forall_mem_cons.mpr ⟨w22, List.forall_mem_cons.mpr ⟨w23, List.forall_mem_cons.mpr ⟨w24, List.forall_mem_cons.mpr ⟨w25, List.forall_mem_cons.mpr ⟨w26, List.forall_mem_cons.mpr ⟨w27, List.forall_mem_cons.mpr ⟨w28, List.forall_mem_cons.mpr ⟨w29, List.forall_mem_cons.mpr ⟨w30, List.forall_mem_cons.mpr ⟨w31, List.forall_mem_cons.mpr ⟨w32, List.forall_mem_cons.mpr ⟨w33, List.forall_mem_cons.mpr ⟨w34, List.forall_mem_cons.mpr ⟨w35, List.forall_mem_cons.mpr ⟨w36, List.forall_mem_cons.mpr ⟨w37, List.forall_mem_cons.mpr ⟨w38, List.forall_mem_cons.mpr ⟨w39, List.forall_mem_cons.mpr ⟨w40, List.forall_mem_cons.mpr ⟨w41, List.forall_mem_cons.mpr ⟨w42, List.forall_mem_cons.mpr ⟨w43, List.forall_mem_cons.mpr ⟨w44, List.forall_mem_cons.mpr ⟨w45, List.forall_mem_cons.mpr ⟨w46, List.forall_mem_cons.mpr ⟨w47, List.forall_mem_cons.mpr ⟨w48, List.forall_mem_cons.mpr ⟨w49, List.forall_mem_cons.mpr ⟨w50, List.forall_mem_cons.mpr ⟨w51, List.forall_mem_cons.mpr ⟨w52, List.forall_mem_cons.mpr ⟨w53, List.forall_mem_cons.mpr ⟨w54, List.forall_mem_cons.mpr ⟨w55, List.forall_mem_cons.mpr ⟨w56, List.forall_mem_cons.mpr ⟨w57, List.forall_mem_cons.mpr ⟨w58, List.forall_mem_cons.mpr ⟨w59, List.forall_mem_cons.mpr ⟨w60, List.forall_mem_cons.mpr ⟨w61, List.forall_mem_cons.mpr ⟨w62, List.forall_mem_cons.mpr ⟨w63, fun _ h => absurd h List.not_mem_nil⟩⟩⟩⟩⟩⟩⟩⟩⟩⟩⟩⟩⟩⟩⟩⟩⟩⟩⟩⟩⟩⟩⟩⟩⟩⟩⟩⟩⟩⟩⟩⟩⟩⟩⟩⟩⟩⟩⟩⟩⟩⟩⟩⟩⟩⟩⟩⟩⟩⟩⟩⟩⟩⟩⟩⟩⟩⟩⟩⟩⟩⟩⟩⟩) (by decide) (by decide)) (by decide) ?_
  obtain rfl := hk_s hsp
  exact W.widen (by omega) (by omega) (kk n H locs ls G hl)
theorem hk_len6 {L j : Nat} (hL : L ≤ 3072) (hj : j ≤ 512) : (Int32.ofNat L - 6 < nI (6 * j)) ↔ L < 6 * j + 6 := by
  have h1 : (Int32.ofNat L - 6).toInt = (L : Int) - 6 := by
    rw [Int32.toInt_sub]
    have h2 : (Int32.ofNat L).toInt = (L : Int) := nI_toInt (n := L) (by omega)
    have h3 : (6 : Int32).toInt = 6 := by decide
    rw [h2, h3]
    exact Int.bmod_eq_of_le (by omega) (by omega)
  rw [Int32.lt_iff_toInt_lt, h1, nI_toInt (by omega)]
  omega
set_option maxHeartbeats 4000000 in
theorem klaw_loop (hst : l.stackTraces = false) (hC : hk_LC p s m meth c b L xs g) (F : Nat) (hL : L ≤ 3072) (N : Nat) (hN : 6 * N ≤ L ∧ L < 6 * N + 6) (o : hk_S) (kk : ∀ j, j = N → ∀ (n1 : Nat) (H1 : Heap) (locs1 : List Loc) (ls1 : Array Slot), hk_GG g (hk_EE 232 229) o n1 s H1 locs1 → lv_has ls1 9 [(0, .ref b), (1, .ref (g.1 + 0)), (2, .ref (g.1 + 221)), (3, .ref (g.1 + 231)), (4, .int (nI (6 * j)))] → W p l e room_1 s m #[Value.ref b] below meth c H1 locs1 (232 + 8 * j) (4835 + 48 * j) Q (F0 m 3158 ls1 [])) : ∀ (d j : Nat), j + d = N → ∀ (n : Nat) (S : hk_S) (H : Heap) (locs : List Loc) (ls : Array Slot), hk_GG g (hk_EE 232 229) S n s H locs → lv_has ls 9 [(0, .ref b), (1, .ref (g.1 + 0)), (2, .ref (g.1 + 221)), (3, .ref (g.1 + 231)), (4, .int (nI (6 * j)))] → mlaw_loop F xs d (6 * j) S = some o → W p l e room_1 s m #[Value.ref b] below meth c H locs (232 + 8 * j) (4835 + 48 * j) Q (F0 m 23 ls []) := by
  have F9 := hC.1
  have hx := F9.1
  have hb := F9.2.1
  intro d
  induction d with
  | zero =>
    intro j hj n S H locs ls G hl hsp
    refine lv_iload hx hb dL_law_23 (lv_at hl 4 rfl) ?_
    refine lv_aload_n hx hb dL_law_25 rfl (lv_at hl 0 rfl) ?_
    refine va_slen hx hb hC.2.2.1 hC.2.2.2.1 hC.2.2.2.2 G.2.1 dL_law_26 ?_
    refine lv_bipush (v := 6) hx hb dL_law_27 (by decide) ?_
    refine lv_isub hx hb dL_law_29 ?_
    refine lv_icmp_gt (tgt := 3158) hx hb dL_law_30 (by decide) (fun _ => ?_) (fun hc => ?_)
    · have e : j = N := by omega
      subst e
      cases hsp
      exact kk j rfl n H locs ls G hl
    · exact absurd ((hk_len6 hL (by omega)).mpr (by omega)) hc
  | succ d ih =>
    intro j hj n S H locs ls G hl hsp
    obtain ⟨S1, e1, hsp⟩ := hk_b hsp
    refine lv_iload hx hb dL_law_23 (lv_at hl 4 rfl) ?_
    refine lv_aload_n hx hb dL_law_25 rfl (lv_at hl 0 rfl) ?_
    refine va_slen hx hb hC.2.2.1 hC.2.2.2.1 hC.2.2.2.2 G.2.1 dL_law_26 ?_
    refine lv_bipush (v := 6) hx hb dL_law_27 (by decide) ?_
    refine lv_isub hx hb dL_law_29 ?_
    refine lv_icmp_gt (tgt := 3158) hx hb dL_law_30 (by decide) (fun hc => ?_) (fun _ => ?_)
    · have := (hk_len6 hL (by omega)).mp hc
      omega
    · have hidx : ∀ k : Nat, (nI (6 * j) + nI k).toNatClampNeg = 6 * j + k ∨ 6 ≤ k := fun k => by
        by_cases hk : k < 6
        · left
          rw [nI_add, nI_clamp (by omega)]
        · right
          omega
      have h0 : (nI (6 * j)).toNatClampNeg = 6 * j := nI_clamp (by omega)
      refine klaw_step hst hC F (i := nI (6 * j)) (fun k hk => by rw [nI_add]; exact nI_in (by omega) (by omega)) ⟨?_, ?_⟩ G hl S1 ?_ (fun n1 H1 locs1 ls1 G1 hl1 => ?_)
      · show 232 + 8 * j + 8 ≤ 601024
        omega
      · show 4835 + 48 * j + 48 ≤ 7293034
        omega
      · have q1 := (hidx 1).resolve_right (by decide)
        have q2 := (hidx 2).resolve_right (by decide)
        have q3 := (hidx 3).resolve_right (by decide)
        have q4 := (hidx 4).resolve_right (by decide)
        have q5 := (hidx 5).resolve_right (by decide)
        rw [h0, show (nI (6 * j) + 1).toNatClampNeg = 6 * j + 1 from q1, show (nI (6 * j) + 2).toNatClampNeg = 6 * j + 2 from q2, show (nI (6 * j) + 3).toNatClampNeg = 6 * j + 3 from q3, show (nI (6 * j) + 4).toNatClampNeg = 6 * j + 4 from q4, show (nI (6 * j) + 5).toNatClampNeg = 6 * j + 5 from q5]
        exact e1
      · have hinc : nI (6 * j) + nI 6 = nI (6 * (j + 1)) := by rw [nI_add, Nat.mul_add]
        refine lv_iinc (v := nI (6 * (j + 1))) (lv' := [(4, .int (nI (6 * (j + 1)))), (0, .ref b), (1, .ref (g.1 + 0)), (2, .ref (g.1 + 221)), (3, .ref (g.1 + 231))]) hx hb dL_law_3152 hl1 (k := 4) rfl (by rw [← hinc]; rfl) (by decide) rfl (fun ls hl => ?_)
        refine lv_goto (tgt := 23) hx hb dL_law_3155 (by decide) ?_
        exact ih (j + 1) (by omega) n1 S1 H1 locs1 ls G1 (lv_sub hl [1, 2, 3, 4, 0] rfl) hsp
def mlaw_start (F : Nat) (S : hk_S) : Option hk_S :=
hk_let (va_up S 0 (hk_i0 8)) (fun S1 => (mX11_init_0 F S1).bind (fun r2 => hk_let (va_up r2 221 (hk_i0 9)) (fun S3 => (mX12_init_221 F S3).bind (fun r4 => hk_let (va_up r4 231 (fun _ => 0)) (fun S5 => some S5)))))
set_option maxHeartbeats 4000000 in
set_option maxRecDepth 100000 in
theorem klaw_start (hC : hk_LC p s m meth c b L xs g) (F : Nat) {S : hk_S} {H : Heap} {locs : List Loc} {ls : Array Slot} (G : hk_GG g (hk_EE 0 0) S (g.1 + 0) s H locs) (hl : lv_has ls 9 [(0, .ref b)]) (o : hk_S) (hsp : mlaw_start F S = some o) (kk : ∀ (H1 : Heap) (locs1 : List Loc) (ls1 : Array Slot), hk_GG g (hk_EE 232 229) o (g.1 + 232) s H1 locs1 → lv_has ls1 9 [(0, .ref b), (1, .ref (g.1 + 0)), (2, .ref (g.1 + 221)), (3, .ref (g.1 + 231))] → W p l e room_1 s m #[Value.ref b] below meth c H1 locs1 232 4835 Q (F0 m 20 ls1 [])) : W p l e room_1 s m #[Value.ref b] below meth c H locs 0 0 Q (F0 m 0 ls []) := by
  have F9 := hC.1
  have hx := F9.1
  have hb := F9.2.1
  unfold mlaw_start at hsp
  refine hk_new (E1 := (hk_EE 1 0)) (a := 0) (b := 1) F9 G rfl ⟨rfl, rfl⟩ hkc_8 hkd_8 (hk_growE (kd := 9) (ln := 0) (by decide +kernel) (by decide +kernel) (by decide +kernel)) qw_28 qw_29 qw_1 ⟨(Nat.le_of_ble_eq_true rfl), (Nat.le_of_ble_eq_true rfl)⟩ dL_law_0 (fun H G => ?_)
  obtain ⟨S1, eS1, hsp⟩ := hk_l hsp
  rw [eS1] at G
  refine lv_dup hx hb dL_law_3 rfl ?_
  obtain ⟨r2, er2, hsp⟩ := hk_b hsp
  refine hk_callI (rest := [.ref (g.1 + 0)]) F9 G (kX11_init_0 l g F S1 r2 er2) qi_RL_142 ⟨rfl, rfl, (Nat.le_of_ble_eq_true rfl), (Nat.le_of_ble_eq_true rfl)⟩ hl.1 (Nat.le_of_ble_eq_true rfl) ⟨(Nat.le_of_ble_eq_true rfl), (Nat.le_of_ble_eq_true rfl)⟩ dL_law_4 (fun H locs G => ?_)
  refine lv_astore_n (lv' := [(1, .ref (g.1 + 0)), (0, .ref b)]) hx hb dL_law_7 rfl hl (by decide) rfl (fun ls hl => ?_)
  refine hk_new (E1 := (hk_EE 222 220)) (a := 221) (b := 222) F9 G rfl ⟨rfl, rfl⟩ hkc_9 hkd_9 (hk_growE (kd := 10) (ln := 0) (by decide +kernel) (by decide +kernel) (by decide +kernel)) qw_1315 qw_1316 qw_12 ⟨(Nat.le_of_ble_eq_true rfl), (Nat.le_of_ble_eq_true rfl)⟩ dL_law_8 (fun H G => ?_)
  obtain ⟨S3, eS3, hsp⟩ := hk_l hsp
  rw [eS3] at G
  refine lv_dup hx hb dL_law_11 rfl ?_
  obtain ⟨r4, er4, hsp⟩ := hk_b hsp
  refine hk_callI (rest := [.ref (g.1 + 221)]) F9 G (kX12_init_221 l g F S3 r4 er4) qi_RL_145 ⟨rfl, rfl, (Nat.le_of_ble_eq_true rfl), (Nat.le_of_ble_eq_true rfl)⟩ hl.1 (Nat.le_of_ble_eq_true rfl) ⟨(Nat.le_of_ble_eq_true rfl), (Nat.le_of_ble_eq_true rfl)⟩ dL_law_12 (fun H locs G => ?_)
  refine lv_astore_n (lv' := [(2, .ref (g.1 + 221)), (1, .ref (g.1 + 0)), (0, .ref b)]) hx hb dL_law_15 rfl hl (by decide) rfl (fun ls hl => ?_)
  refine lv_iconst (v := 1) hx hb dL_law_16 (by decide) ?_
  refine hk_newA (E1 := (hk_EE 232 229)) (a := 231) (b := 232) (ft := .long) (t := 6) (ln := 1) (kd := 17) F9 G rfl ⟨rfl, rfl⟩ rfl (fun _ h => nomatch h) rfl (fun I _ => hk_cell_l) rfl (hk_growE (kd := 17) (ln := 1) (by decide +kernel) (by decide +kernel) (by decide +kernel)) qw_2015 (by decide) (by decide) (by decide) ⟨(Nat.le_of_ble_eq_true rfl), (Nat.le_of_ble_eq_true rfl)⟩ dL_law_17 (fun H G => ?_)
  obtain ⟨S5, eS5, hsp⟩ := hk_l hsp
  rw [eS5] at G
  refine lv_astore_n (lv' := [(3, .ref (g.1 + 231)), (2, .ref (g.1 + 221)), (1, .ref (g.1 + 0)), (0, .ref b)]) hx hb dL_law_19 rfl hl (by decide) rfl (fun ls hl => ?_)
  obtain rfl := hk_s hsp
  exact kk H locs ls G (lv_sub hl [3, 2, 1, 0] rfl)
end HKLAW
