/-! a quotient of two numbers is no NaN -/
theorem k_nn (s : Bool) (e t : Nat) (h : (e < 2047 ∧ t < 4503599627370496) ∨ (e = 2047 ∧ t = 0)) : UInt64.ofNat ((s.toNat * 2048 + e) * 4503599627370496 + t) &&& 0x7fffffffffffffff ≤ 0x7ff0000000000000 := by
  rw [UInt64.le_iff_toNat_le, UInt64.toNat_and, UInt64.toNat_ofNat']
  have e1 : (0x7fffffffffffffff : UInt64).toNat = 2 ^ 63 - 1 := by decide
  have e2 : (0x7ff0000000000000 : UInt64).toNat = 9218868437227405312 := by decide
  rw [e1, e2, Nat.and_two_pow_sub_one_eq_mod]
  cases s
  · simp only [Bool.toNat_false]
    omega
  · simp only [Bool.toNat_true]
    omega
def k_okD (d : FP.Core.Datum) : Prop := match d with
  | .nan => False
  | .inf _ => True
  | .fin _ c q => c < 9007199254740992 ∧ q ≤ 971
theorem k_enc {d : FP.Core.Datum} (h : k_okD d) : UInt64.ofNat (FP.Core.encode FP.Core.b64 d) &&& 0x7fffffffffffffff ≤ 0x7ff0000000000000 := by
  have ht : FP.Core.b64.tails = 4503599627370496 := by decide
  have he : FP.Core.b64.exps = 2048 := by decide
  have hq : FP.Core.b64.qmin = -1074 := by decide
  cases d with
  | nan => exact absurd h (by simp [k_okD])
  | inf s =>
    unfold FP.Core.encode FP.Core.assemble
    dsimp only
    rw [ht, he]
    exact k_nn s 2047 0 (Or.inr ⟨rfl, rfl⟩)
  | fin s c q =>
    obtain ⟨h1, h2⟩ := h
    unfold FP.Core.encode FP.Core.assemble
    dsimp only
    rw [ht, he, hq]
    by_cases hc : c < 4503599627370496
    · rw [if_pos hc]
      exact k_nn s 0 c (Or.inl ⟨by omega, hc⟩)
    · rw [if_neg hc]
      exact k_nn s _ _ (Or.inl ⟨by omega, by omega⟩)
theorem k_bound {s : Bool} {c : Nat} {q : Int} (h : c < 9007199254740992) : k_okD (FP.Core.bound FP.Core.b64 s c q) := by
  have hm : FP.Core.b64.qmax = 971 := by decide
  unfold FP.Core.bound
  rw [hm]
  by_cases hq : q ≤ 971
  · rw [if_pos hq]
    exact ⟨h, hq⟩
  · rw [if_neg hq]
    trivial
theorem k_rratio (s : Bool) (n d : Nat) (e : Int) : k_okD (FP.Core.roundRatio FP.Core.b64 s n d e) := by
  have hp : (2 : Nat) ^ FP.Core.b64.p = 9007199254740992 := by decide
  have ht : FP.Core.b64.tails = 4503599627370496 := by decide
  have hq : FP.Core.b64.qmin = -1074 := by decide
  unfold FP.Core.roundRatio
  by_cases h : n = 0
  · rw [if_pos h, hq]
    exact ⟨by omega, by omega⟩
  · rw [if_neg h]
    unfold FP.Core.roundAt FP.Core.settle
    rw [hp, ht]
    by_cases hc : FP.Core.nearest (FP.Core.unitsNum n e (FP.Core.quantum FP.Core.b64 n d e)) (FP.Core.unitsDen d e (FP.Core.quantum FP.Core.b64 n d e)) < 9007199254740992
    · rw [if_pos hc]
      exact k_bound hc
    · rw [if_neg hc]
      exact k_bound (by omega)
theorem k_i2d (x : Int32) : FP.i2d x &&& 0x7fffffffffffffff ≤ 0x7ff0000000000000 := k_enc (k_rratio _ _ _ _)
theorem k_dec {x : UInt64} (h : x &&& 0x7fffffffffffffff ≤ 0x7ff0000000000000) : FP.Core.decode FP.Core.b64 x.toNat ≠ .nan := by
  have ht : FP.Core.b64.tails = 4503599627370496 := by decide
  have he : FP.Core.b64.exps = 2048 := by decide
  rw [UInt64.le_iff_toNat_le, UInt64.toNat_and] at h
  have e1 : (0x7fffffffffffffff : UInt64).toNat = 2 ^ 63 - 1 := by decide
  have e2 : (0x7ff0000000000000 : UInt64).toNat = 9218868437227405312 := by decide
  rw [e1, e2, Nat.and_two_pow_sub_one_eq_mod] at h
  have hx := x.toNat_lt
  generalize x.toNat = n at *
  unfold FP.Core.decode FP.Core.fieldE FP.Core.fieldT
  rw [ht, he]
  by_cases q1 : n / 4503599627370496 % 2048 = 2048 - 1
  · rw [if_pos q1]
    by_cases q2 : n % 4503599627370496 = 0
    · rw [if_pos q2]
      exact fun z => nomatch z
    · exfalso
      omega
  · rw [if_neg q1]
    by_cases q2 : n / 4503599627370496 % 2048 = 0
    · rw [if_pos q2]
      exact fun z => nomatch z
    · rw [if_neg q2]
      exact fun z => nomatch z
theorem k_quot {x y : FP.Core.Datum} (hx : x ≠ .nan) (hy : ∃ s c q, y = .fin s c q ∧ ¬ c = 0) : k_okD (FP.Core.quotient FP.Core.b64 x y) := by
  obtain ⟨s, c, q, rfl, hc⟩ := hy
  cases x with
  | nan => exact absurd rfl hx
  | inf s => trivial
  | fin s' c' q' =>
    unfold FP.Core.quotient
    dsimp only
    rw [if_neg hc]
    exact k_rratio _ _ _ _
theorem k_ddiv {x : Int32} {m : Nat} (h0 : 0 < m) (hm : m ≤ 8) : FP.ddiv (FP.i2d x) (FP.i2d (nI (2 * m))) &&& 0x7fffffffffffffff ≤ 0x7ff0000000000000 := by
  refine k_enc (k_quot (k_dec (k_i2d x)) ?_)
  have h : m = 1 ∨ m = 2 ∨ m = 3 ∨ m = 4 ∨ m = 5 ∨ m = 6 ∨ m = 7 ∨ m = 8 := by omega
  rcases h with q | q | q | q | q | q | q | q <;> subst q <;> exact ⟨_, _, _, rfl, by decide +kernel⟩
theorem k_share : ∀ n, n < 9 → ∀ m, m < 9 → ¬ m = 0 → (FP.fdiv (FP.i2f (nI n)) (FP.i2f (nI m)) &&& 0x7fffffff ≤ 0x7f800000) ∧ (FP.f2d (FP.fdiv (FP.i2f (nI n)) (FP.i2f (nI m))) &&& 0x7fffffffffffffff ≤ 0x7ff0000000000000) := by decide +kernel
theorem k_share0 : FP.f2d FP.fconst0 &&& 0x7fffffffffffffff ≤ 0x7ff0000000000000 := by decide +kernel
