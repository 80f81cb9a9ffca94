/-! every action, and the loop-/
set_option maxHeartbeats 4000000 in
set_option maxRecDepth 100000 in
theorem mstep_ok {F : Nat} {S : hk_S} {q p1 p2 p3 p4 p5 : Int32} (hF : 2000000 ≤ F) (hI : hk_I S) : ∃ S', mlaw_step F S q p1 p2 p3 p4 p5 = some S' ∧ hk_I S' := by
  unfold mlaw_step
  generalize (q &&& 63) = v
  by_cases w0 : v = 0
  · rw [if_pos w0]
    exact mop_0_ok hF hI
  rw [if_neg w0]
  by_cases w1 : v = 1
  · rw [if_pos w1]
    exact mop_1_ok hF hI
  rw [if_neg w1]
  by_cases w2 : v = 2
  · rw [if_pos w2]
    exact mop_2_ok hF hI
  rw [if_neg w2]
  by_cases w3 : v = 3
  · rw [if_pos w3]
    exact mop_3_ok hF hI
  rw [if_neg w3]
  by_cases w4 : v = 4
  · rw [if_pos w4]
    exact mop_4_ok hF hI
  rw [if_neg w4]
  by_cases w5 : v = 5
  · rw [if_pos w5]
    exact mop_5_ok hF hI
  rw [if_neg w5]
  by_cases w6 : v = 6
  · rw [if_pos w6]
    exact mop_6_ok hF hI
  rw [if_neg w6]
  by_cases w7 : v = 7
  · rw [if_pos w7]
    exact mop_7_ok hF hI
  rw [if_neg w7]
  by_cases w8 : v = 8
  · rw [if_pos w8]
    exact mop_8_ok hF hI
  rw [if_neg w8]
  by_cases w9 : v = 9
  · rw [if_pos w9]
    exact mop_9_ok hF hI
  rw [if_neg w9]
  by_cases w10 : v = 10
  · rw [if_pos w10]
    exact mop_10_ok hF hI
  rw [if_neg w10]
  by_cases w11 : v = 11
  · rw [if_pos w11]
    exact mop_11_ok hF hI
  rw [if_neg w11]
  by_cases w12 : v = 12
  · rw [if_pos w12]
    exact mop_12_ok hF hI
  rw [if_neg w12]
  by_cases w13 : v = 13
  · rw [if_pos w13]
    exact mop_13_ok hF hI
  rw [if_neg w13]
  by_cases w14 : v = 14
  · rw [if_pos w14]
    exact mop_14_ok hF hI
  rw [if_neg w14]
  by_cases w15 : v = 15
  · rw [if_pos w15]
    exact mop_15_ok hF hI
  rw [if_neg w15]
  by_cases w16 : v = 16
  · rw [if_pos w16]
    exact mop_16_ok hF hI
  rw [if_neg w16]
  by_cases w17 : v = 17
  · rw [if_pos w17]
    exact mop_17_ok hF hI
  rw [if_neg w17]
  by_cases w18 : v = 18
  · rw [if_pos w18]
    exact mop_18_ok hF hI
  rw [if_neg w18]
  by_cases w19 : v = 19
  · rw [if_pos w19]
    exact mop_19_ok hF hI
  rw [if_neg w19]
  by_cases w20 : v = 20
  · rw [if_pos w20]
    exact mop_20_ok hF hI
  rw [if_neg w20]
  by_cases w21 : v = 21
  · rw [if_pos w21]
    exact mop_21_ok hF hI
  rw [if_neg w21]
  by_cases w22 : v = 22
  · rw [if_pos w22]
    exact mop_22_ok hF hI
  rw [if_neg w22]
  by_cases w23 : v = 23
  · rw [if_pos w23]
    exact mop_23_ok hF hI
  rw [if_neg w23]
  by_cases w24 : v = 24
  · rw [if_pos w24]
    exact mop_24_ok hF hI
  rw [if_neg w24]
  by_cases w25 : v = 25
  · rw [if_pos w25]
    exact mop_25_ok hF hI
  rw [if_neg w25]
  by_cases w26 : v = 26
  · rw [if_pos w26]
    exact mop_26_ok hF hI
  rw [if_neg w26]
  by_cases w27 : v = 27
  · rw [if_pos w27]
    exact mop_27_ok hF hI
  rw [if_neg w27]
  by_cases w28 : v = 28
  · rw [if_pos w28]
    exact mop_28_ok hF hI
  rw [if_neg w28]
  by_cases w29 : v = 29
  · rw [if_pos w29]
    exact mop_29_ok hF hI
  rw [if_neg w29]
  by_cases w30 : v = 30
  · rw [if_pos w30]
    exact mop_30_ok hF hI
  rw [if_neg w30]
  by_cases w31 : v = 31
  · rw [if_pos w31]
    exact mop_31_ok hF hI
  rw [if_neg w31]
  by_cases w32 : v = 32
  · rw [if_pos w32]
    exact mop_32_ok hF hI
  rw [if_neg w32]
  by_cases w33 : v = 33
  · rw [if_pos w33]
    exact mop_33_ok hF hI
  rw [if_neg w33]
  by_cases w34 : v = 34
  · rw [if_pos w34]
    exact mop_34_ok hF hI
  rw [if_neg w34]
  by_cases w35 : v = 35
  · rw [if_pos w35]
    exact mop_35_ok hF hI
  rw [if_neg w35]
  by_cases w36 : v = 36
  · rw [if_pos w36]
    exact mop_36_ok hF hI
  rw [if_neg w36]
  by_cases w37 : v = 37
  · rw [if_pos w37]
    exact mop_37_ok hF hI
  rw [if_neg w37]
  by_cases w38 : v = 38
  · rw [if_pos w38]
    exact mop_38_ok hF hI
  rw [if_neg w38]
  by_cases w39 : v = 39
  · rw [if_pos w39]
    exact mop_39_ok hF hI
  rw [if_neg w39]
  by_cases w40 : v = 40
  · rw [if_pos w40]
    exact mop_40_ok hF hI
  rw [if_neg w40]
  by_cases w41 : v = 41
  · rw [if_pos w41]
    exact mop_41_ok hF hI
  rw [if_neg w41]
  by_cases w42 : v = 42
  · rw [if_pos w42]
    exact mop_42_ok hF hI
  rw [if_neg w42]
  by_cases w43 : v = 43
  · rw [if_pos w43]
    exact mop_43_ok hF hI
  rw [if_neg w43]
  by_cases w44 : v = 44
  · rw [if_pos w44]
    exact mop_44_ok hF hI
  rw [if_neg w44]
  by_cases w45 : v = 45
  · rw [if_pos w45]
    exact mop_45_ok hF hI
  rw [if_neg w45]
  by_cases w46 : v = 46
  · rw [if_pos w46]
    exact mop_46_ok hF hI
  rw [if_neg w46]
  by_cases w47 : v = 47
  · rw [if_pos w47]
    exact mop_47_ok hF hI
  rw [if_neg w47]
  by_cases w48 : v = 48
  · rw [if_pos w48]
    exact mop_48_ok hF hI
  rw [if_neg w48]
  by_cases w49 : v = 49
  · rw [if_pos w49]
    exact mop_49_ok hF hI
  rw [if_neg w49]
  by_cases w50 : v = 50
  · rw [if_pos w50]
    exact mop_50_ok hF hI
  rw [if_neg w50]
  by_cases w51 : v = 51
  · rw [if_pos w51]
    exact mop_51_ok hF hI
  rw [if_neg w51]
  by_cases w52 : v = 52
  · rw [if_pos w52]
    exact mop_52_ok hF hI
  rw [if_neg w52]
  by_cases w53 : v = 53
  · rw [if_pos w53]
    exact mop_53_ok hF hI
  rw [if_neg w53]
  by_cases w54 : v = 54
  · rw [if_pos w54]
    exact mop_54_ok hF hI
  rw [if_neg w54]
  by_cases w55 : v = 55
  · rw [if_pos w55]
    exact mop_55_ok hF hI
  rw [if_neg w55]
  by_cases w56 : v = 56
  · rw [if_pos w56]
    exact mop_56_ok hF hI
  rw [if_neg w56]
  by_cases w57 : v = 57
  · rw [if_pos w57]
    exact mop_57_ok hF hI
  rw [if_neg w57]
  by_cases w58 : v = 58
  · rw [if_pos w58]
    exact mop_58_ok hF hI
  rw [if_neg w58]
  by_cases w59 : v = 59
  · rw [if_pos w59]
    exact mop_59_ok hF hI
  rw [if_neg w59]
  by_cases w60 : v = 60
  · rw [if_pos w60]
    exact mop_60_ok hF hI
  rw [if_neg w60]
  by_cases w61 : v = 61
  · rw [if_pos w61]
    exact mop_61_ok hF hI
  rw [if_neg w61]
  by_cases w62 : v = 62
  · rw [if_pos w62]
    exact mop_62_ok hF hI
  rw [if_neg w62]
  by_cases w63 : v = 63
  · rw [if_pos w63]
    exact mop_63_ok hF hI
  rw [if_neg w63]
  exact ⟨S, rfl, hI⟩
theorem mloop_ok {F : Nat} (hF : 2000000 ≤ F) (xs : Nat → Int32) : ∀ (d k : Nat) (S : hk_S), hk_I S → ∃ o, mlaw_loop F xs d k S = some o := by
  intro d
  induction d with
  | zero => intro k S _; exact ⟨S, rfl⟩
  | succ d ih =>
    intro k S hI
    obtain ⟨S1, h1, h2⟩ := mstep_ok (q := xs k) (p1 := xs (k + 1)) (p2 := xs (k + 2)) (p3 := xs (k + 3)) (p4 := xs (k + 4)) (p5 := xs (k + 5)) hF hI
    obtain ⟨o, h3⟩ := ih (k + 6) S1 h2
    refine ⟨o, ?_⟩
    rw [mlaw_loop]
    dsimp only
    rw [h1, Option.bind_some, h3]
theorem hk_pure_of {o1 : hk_S} (h1 : mlaw_start hk_F (fun _ _ => 0) = some o1) (hI : hk_I o1) : hk_Pure := fun xs L _ => by
  obtain ⟨o, h2⟩ := mloop_ok (F := hk_F) (by decide) xs (L / 6) 0 o1 hI
  exact ⟨o1, o, h1, h2⟩
