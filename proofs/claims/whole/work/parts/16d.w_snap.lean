theorem qw_1104 : (Jvm.Cond.classLink "WitheringLoft" (214 : Nat) "java/util/NoSuchElementException") ∈ hk_W := hk_m 1214 (by decide +kernel) (by decide +kernel)
theorem qw_27 : (Jvm.Cond.initialized "java/util/NoSuchElementException") ∈ hk_W := hk_m 137 (by decide +kernel) (by decide +kernel)
