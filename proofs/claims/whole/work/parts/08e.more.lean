section HKM
variable {p : Program} {l : Launch} {e : Env} {R : Room} {s : State} {m : MethodId} {args : Array Value} {below : List Frame} {meth : Method} {c : Code} {H : Heap} {locs : List Loc} {cells slots : Nat} {Q : State → Prop}
variable {cc : ByteArray} {nL pc : Nat} {ls : Array Slot} {rest : List Value} {own : String} {g : hk_G} {E : hk_E} {S : hk_S} {n : Nat}
theorem hk_astoreE_n (hexec : p.tables.exec = Jvm.exec) (hb : c.code = cc) {k : Fin 4} {i nL : Nat} {ad : Nat → Nat} {x : Int32} {lv lv' : List (Nat × Value)} (hdg : decode cc pc = .ok (.astore_n k, 1)) (hi : (k : Nat) = i) (h : lv_has ls nL lv) (hn : i < nL) (hl : (i, hk_en ad x) :: lv.filter (fun q => !(q.1 == i) && !(q.1 + 1 == i && q.2.category == 2)) = lv')
    (kk : ∀ ls' : Array Slot, lv_has ls' nL lv' → W p l e R s m args below meth c H locs cells slots Q (F0 m (pc + 1) ls' rest)) : W p l e R s m args below meth c H locs cells slots Q (F0 m pc ls (hk_en ad x :: rest)) := by
  by_cases hx : x < 0
  · rw [hk_en_null hx] at hl ⊢
    exact lv_astore_nN hexec hb hdg hi h hn hl kk
  · rw [hk_en_ref hx] at hl ⊢
    exact lv_astore_n hexec hb hdg hi h hn hl kk
end HKM
theorem hk_outs {x : Int32} {lo hi : Int} {n : Nat} {L : List Int32} (h : ∀ y ∈ L, ¬ x = y) (hL : (List.range n).all (fun k => L.contains (Int32.ofInt (lo + (k : Int)))) = true) (hh : lo + (n : Int) - 1 = hi) : x.toInt < lo ∨ hi < x.toInt := by
  rw [← hh]
  refine hk_sw (fun k hk e => ?_)
  have h1 := List.all_eq_true.mp hL k (List.mem_range.mpr hk)
  exact h _ (List.contains_iff_mem.mp h1) e
theorem hk_nc {v : Int32} (h : (v.toUInt32 % 65536).toInt32 = v) : narrow .char (.int v) = .int v := by rw [hk_narC, h]
