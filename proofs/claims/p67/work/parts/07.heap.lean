/-! The heap as numbers: every object and array of the class has a place k (its address is a base + k), a kind, a length, references that are fixed once it is made, and a row of ints. -/
/-- base address, class ids, array class ids, addresses of constants -/
abbrev hk_G : Type := Nat × va_G × (Nat → ClassId) × (Nat → Nat → Nat)
/-- how many places, the kind, the length, the references -/
abbrev hk_E : Type := Nat × (Nat → Nat) × (Nat → Nat) × (Nat → Nat → Option Nat)
abbrev hk_S : Type := Nat → Nat → Int32
/-- the sort of a field: 0 an int, 1 a reference, 2 a constant of an enum (by its ordinal, -1 for null) -/
def hk_sort (ci k : Nat) : Nat :=
  match ci with
  | 0 => if k = 4 then 1 else 0
  | 1 => if k = 0 then 1 else 0
  | 2 => if k = 0 then 1 else 0
  | 3 => if k = 0 ∨ k = 1 ∨ k = 3 then 1 else 0
  | 5 => if k = 0 then 1 else 0
  | 6 => if k = 0 ∨ k = 1 ∨ k = 8 ∨ k = 12 ∨ k = 13 then 1 else if k = 5 then 2 else 0
  | 8 => if k = 2 then 0 else 1
  | _ => 0
def hk_nf (ci : Nat) : Nat := match ci with
  | 0 => 5 | 1 => 3 | 2 => 2 | 3 => 13 | 4 => 3 | 5 => 2 | 6 => 14 | 7 => 10 | _ => 7
/-- a constant of an enum -/
def hk_en (ad : Nat → Nat) (x : Int32) : Value := if x < 0 then .null else .ref (ad x.toNatClampNeg)
def hk_rf (b : Nat) (r : Option Nat) : Value := va_rf (r.map (fun x => b + x))
def hk_fld (g : hk_G) (ci k : Nat) (I : Nat → Int32) (J : Nat → Option Nat) : Value :=
  if hk_sort ci k = 0 then .int (I k) else if hk_sort ci k = 1 then hk_rf g.1 (J k) else hk_en (g.2.2.2 2) (I k)
def hk_flds (g : hk_G) (ci : Nat) (I : Nat → Int32) (J : Nat → Option Nat) : List Value := (List.range (hk_nf ci)).map (fun k => hk_fld g ci k I J)
def hk_cell (g : hk_G) (kd ln : Nat) (I : Nat → Int32) (J : Nat → Option Nat) : va_E :=
  if kd ≤ 10 then .inr (kd - 1, hk_flds g (kd - 1) I J)
  else if kd ≤ 13 then .inl (g.2.2.1 (kd - 11), (ln, .inl I))
  else if kd ≤ 16 then .inl (g.2.2.1 (kd - 11), (ln, .inr (.inr (.inr (.inr (fun j => (J j).map (fun x => g.1 + x)))))))
  else .inl (g.2.2.1 (kd - 11), (ln, .inr (.inl (fun j => (I j).toInt64))))
def hk_tys (g : hk_G) : List (ClassId × FieldType) := [(g.2.2.1 0, .byte), (g.2.2.1 1, .byte), (g.2.2.1 2, .int), (g.2.2.1 3, .object "WitheringLoft$Loft"), (g.2.2.1 4, .object "WitheringLoft$Probe"), (g.2.2.1 5, .object "WitheringLoft$Trough")]
def hk_H (g : hk_G) (E : hk_E) (S : hk_S) (H : Heap) : Prop := g.1 + E.1 ≤ H.size ∧ ∀ a, E.2.1 a ≠ 0 → a < E.1 ∧ va_at g.2.1 vwCl (g.1 + a, hk_cell g (E.2.1 a) (E.2.2.1 a) (S a) (E.2.2.2 a)) H
/-- the row of a place, with one value new -/
def hk_up (S : hk_S) (a k : Nat) (v : Int32) : hk_S := va_up S a (upd (S a) k v)
theorem hk_up_self (S : hk_S) (a k : Nat) (v : Int32) : hk_up S a k v a = upd (S a) k v := va_up_self _ _ _
theorem hk_up_ne (S : hk_S) {a b : Nat} (k : Nat) (v : Int32) (h : b ≠ a) : hk_up S a k v b = S b := va_up_ne _ _ h
theorem hk_H.one {g : hk_G} {E : hk_E} {S : hk_S} {H : Heap} {a kd : Nat} (h : hk_H g E S H) (hk : E.2.1 a = kd) (h0 : kd ≠ 0) : va_P g.2.1 vwCl [(g.1 + a, hk_cell g kd (E.2.2.1 a) (S a) (E.2.2.2 a))] H := by
  intro k q hq
  have hz : k = 0 := by
    have := (List.getElem?_eq_some_iff.mp hq).1
    simp at this
    omega
  subst hz
  cases hq
  subst hk
  exact (h.2 a h0).2
theorem hk_H.kept {g : hk_G} {E : hk_E} {S S1 : hk_S} {H H1 : Heap} {a kd : Nat} (h : hk_H g E S H) (hk : E.2.1 a = kd) (h0 : kd ≠ 0) (hz : H1.size = H.size) (o : ∀ q : Nat, q ≠ g.1 + a → H1[q]? = H[q]?) (hS : ∀ b, b ≠ a → S1 b = S b) (hn : va_at g.2.1 vwCl (g.1 + a, hk_cell g kd (E.2.2.1 a) (S1 a) (E.2.2.2 a)) H1) : hk_H g E S1 H1 := by
  refine ⟨by rw [hz]; exact h.1, fun b hb => ⟨(h.2 b hb).1, ?_⟩⟩
  by_cases hba : b = a
  · subst hba
    rw [hk]
    exact hn
  · rw [hS b hba]
    exact (h.2 b hb).2.kept (o (g.1 + b) (by omega))
theorem hk_flds_get {g : hk_G} {ci k : Nat} {I : Nat → Int32} {J : Nat → Option Nat} (hk : k < hk_nf ci) : (hk_flds g ci I J)[k]? = some (hk_fld g ci k I J) := by
  unfold hk_flds
  rw [List.getElem?_map, List.getElem?_range hk]
  rfl
theorem hk_flds_len {g : hk_G} {ci : Nat} {I : Nat → Int32} {J : Nat → Option Nat} : (hk_flds g ci I J).length = hk_nf ci := by
  unfold hk_flds
  rw [List.length_map, List.length_range]
theorem hk_flds_put {g : hk_G} {ci k : Nat} {I : Nat → Int32} {J : Nat → Option Nat} {v : Int32} {w : Value} (hk : k < hk_nf ci) (hw : hk_fld g ci k (upd I k v) J = w) : (hk_flds g ci I J).set k w = hk_flds g ci (upd I k v) J := by
  apply List.ext_getElem?
  intro j
  by_cases hj : j = k
  · subst hj
    rw [List.getElem?_set_self (by rw [hk_flds_len]; exact hk), hk_flds_get hk, hw]
  · rw [List.getElem?_set_ne (Ne.symm hj)]
    by_cases hl : j < hk_nf ci
    · rw [hk_flds_get hl, hk_flds_get hl]
      have e : upd I k v j = I j := pk_un hj
      unfold hk_fld
      rw [e]
    · rw [List.getElem?_eq_none (by rw [hk_flds_len]; omega), List.getElem?_eq_none (by rw [hk_flds_len]; omega)]
theorem hk_flds_putR {g : hk_G} {ci k : Nat} {I : Nat → Int32} {J : Nat → Option Nat} {v : Option Nat} (hk : k < hk_nf ci) (hs : hk_sort ci k = 1) : (hk_flds g ci I J).set k (hk_rf g.1 v) = hk_flds g ci I (va_up J k v) := by
  apply List.ext_getElem?
  intro j
  by_cases hj : j = k
  · subst hj
    rw [List.getElem?_set_self (by rw [hk_flds_len]; exact hk), hk_flds_get hk]
    unfold hk_fld
    rw [hs, if_neg (by decide), if_pos rfl, va_up_self]
  · rw [List.getElem?_set_ne (Ne.symm hj)]
    by_cases hl : j < hk_nf ci
    · rw [hk_flds_get hl, hk_flds_get hl]
      have e : va_up J k v j = J j := va_up_ne _ _ hj
      unfold hk_fld
      rw [e]
    · rw [List.getElem?_eq_none (by rw [hk_flds_len]; omega), List.getElem?_eq_none (by rw [hk_flds_len]; omega)]
/-- the words that every method needs: those of the tables that hold on as the run goes on -/
def hk_W : List Cond := lw_tbl.filter goodWord
theorem hk_good : ∀ w ∈ hk_W, ((w.onTables && w.keeps) = true ∨ ∃ ty, w = .arrayClass ty) := fun w hw => good_of_word (List.mem_filter.mp hw).2
theorem hk_m {w : Cond} (i : Nat) (h : lw_tbl[i]? = some w) (hg : goodWord w = true) : w ∈ hk_W := List.mem_filter.mpr ⟨List.mem_of_getElem? h, hg⟩
theorem hk_mm {ws : List Cond} (h : ∀ w ∈ ws, w ∈ lw_tbl) (hg : ws.all goodWord = true) : ∀ w ∈ ws, w ∈ hk_W := fun w hw => List.mem_filter.mpr ⟨h w hw, List.all_eq_true.mp hg w hw⟩
