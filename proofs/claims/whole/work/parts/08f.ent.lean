theorem hk_entryE {a n : Nat} {ad : Nat → Nat} {x : Int32} (hn : 2 ≤ n) : lv_has (lg_sl [.ref a, hk_en ad x] ++ List.replicate (n - (lg_sl [.ref a, hk_en ad x]).length) Slot.unset).toArray n [(0, .ref a), (1, hk_en ad x)] := by
  by_cases h : x < 0
  · rw [hk_en_null h]
    exact lv_entry ([.ref a, .null]) (n := n) hn
  · rw [hk_en_ref h]
    exact lv_entry ([.ref a, .ref (ad x.toNatClampNeg)]) (n := n) hn
