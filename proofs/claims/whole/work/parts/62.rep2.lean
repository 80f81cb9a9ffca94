/-! bodies and repetitions -/
def k_run (F s : Nat) (C C' : hk_S) (go : Int32) : Prop := ∀ (K : hk_S → Int32 → Int32 → Option (Int32 × hk_S)) (f z : Nat), z + s ≤ 1000000 → mX8_run_52 hk_E0 F 193 K (f + s) C 1 (nI z) = mX8_run_52 hk_E0 F 193 K f C' go (nI (z + s))
theorem k_run_refl (F : Nat) (C : hk_S) : k_run F 0 C C 1 := fun _ _ _ _ => rfl
theorem k_run_trans {F s1 s2 : Nat} {C C1 C2 : hk_S} {go : Int32} (h : k_run F s1 C C1 1) (h2 : k_run F s2 C1 C2 go) : k_run F (s1 + s2) C C2 go := fun K f z hz => by
  rw [show f + (s1 + s2) = (f + s2) + s1 by omega, h K (f + s2) z (by omega), h2 K f (z + s1) (by omega), show z + s1 + s2 = z + (s1 + s2) by omega]
theorem k_run_1 {F : Nat} {C C2 : hk_S} {go : Int32} {r : Option (Int32 × hk_S)} (st : ∀ (K : hk_S → Int32 → Int32 → Option (Int32 × hk_S)) (f z : Nat), z + 1 ≤ 1000000 → mX8_run_52 hk_E0 F 193 K (f + 1) C 1 (nI z) = r.bind (fun r => mX8_run_52 hk_E0 F 193 K f r.2 r.1 (nI (z + 1)))) (h : r = some (go, C2)) : k_run F 1 C C2 go := fun K f z hz => by rw [st K f z hz, h, Option.bind_some]
def k_fl (F B2 : Nat) (C M : hk_S) (rm : Option (Int32 × hk_S)) : Prop := ∃ (C' M' : hk_S) (k : Int32) (o s : Nat), rm = some (0, M') ∧ s ≤ B2 ∧ ¬ k = 0 ∧ C' 193 2 = k ∧ C' 193 3 = nI o ∧ M' 221 11 = k ∧ M' 221 12 = nI o ∧ k_gC 0 C C' ∧ k_gM M M' ∧ k_run F s C C' 0
theorem k_fl_pre {F B2 B3 s : Nat} {C C1 M M1 : hk_S} {rm : Option (Int32 × hk_S)} {d : Nat} (h : k_fl F B2 C1 M1 rm) (hr : k_run F s C C1 1) (hs : s + B2 ≤ B3) (hc : k_gC d C C1) (hm : k_gM M M1) : k_fl F B3 C M rm := by
  obtain ⟨C', M', k, o, s', h1, h2, h3, h4, h5, h6, h7, h8, h9, h10⟩ := h
  exact ⟨C', M', k, o, s + s', h1, by omega, h3, h4, h5, h6, h7, k_gC_trans (k_gC_le hc (Nat.zero_le _)) h8, k_gM_trans hm h9, k_run_trans hr h10⟩
theorem k_mb {B a b c : Nat} (h : a ≤ b) (h2 : b ≤ c) : B * (b - a) + B * (c - b) = B * (c - a) := by
  rw [← Nat.mul_add, show b - a + (c - b) = c - a by omega]
def u_bod (T : Nat → Int32) (n : Nat) (g : Nat → Nat) : Nat → Nat → Nat
  | 0, q => q
  | u + 1, q => if u_k T n q = 5 then q else u_bod T n g u (g q)
theorem k_body {T : Nat → Int32} {n F d B : Nat} {g : Nat → Nat} {rc : hk_S → Nat → Int32 → Option (Int32 × hk_S)} {c15 c16 c17 : Int32} {K : hk_S → Option (Int32 × hk_S)} (hF : 2000 ≤ F)
    (CMD : ∀ p x w C M, k_Q T n p x (d + 1) w C → k_P T n p x w M → x ≤ 200 → ¬ u_k T n p = 5 → k_out T n F (d + 1) p (g p) (B * (g p - p)) (B * (n + 1 - p)) C M (rc M 221 (nI d + 1))) :
    ∀ u q x w C M fm, n + 1 - q ≤ u → u < fm → k_Q T n q x (d + 1) w C → k_P T n q x w M → x ≤ 200 →
    (∃ (C' M' : hk_S) (x' : Nat) (w' : Nat → Int32) (s : Nat), mX12_readsRepeat_51 hk_E0 F rc 221 (nI d) c15 c16 c17 K fm M = K M' ∧ q ≤ u_bod T n g u q ∧ u_k T n (u_bod T n g u q) = 5 ∧ s ≤ B * (u_bod T n g u q - q) ∧ k_Q T n (u_bod T n g u q) x' (d + 1) w' C' ∧ k_P T n (u_bod T n g u q) x' w' M' ∧ x' ≤ 200 ∧ k_gC (d + 1) C C' ∧ k_gM M M' ∧ k_run F s C C' 1)
    ∨ k_fl F (B * (n + 1 - q)) C M (mX12_readsRepeat_51 hk_E0 F rc 221 (nI d) c15 c16 c17 K fm M) := by
  intro u
  induction u with
  | zero =>
    intro q x w C M fm h1 h2 h3 h4 h5
    have := h3.2.1
    omega
  | succ u ih =>
    intro q x w C M fm h1 h2 h3 h4 h5
    obtain ⟨fm, rfl⟩ : ∃ f, fm = f + 1 := ⟨fm - 1, by omega⟩
    have hq := h3.2.1
    rw [u_bod, mX12_readsRepeat_51]
    dsimp only
    rw [h4.2.2.1.2.1]
    by_cases k5 : u_k T n q = 5
    · rw [if_pos k5, if_pos k5]
      exact Or.inl ⟨C, M, x, w, 0, rfl, Nat.le_refl _, k5, Nat.zero_le _, h3, h4, h5, k_gC_refl _ _, k_gM_refl _, k_run_refl _ _⟩
    · rw [if_neg k5, if_neg k5]
      rcases CMD q x w C M h3 h4 h5 k5 with ⟨C1, M1, q1, x1, w1, s1, r1, r2, r3, r4, r5, r6, r7, r8, r9, r10, r11⟩ | ⟨C1, M1, k, o, s1, r1, r2, r3, r4, r5, r6, r7, r8, r9, r10⟩
      · obtain ⟨M2, b1, b2, b3⟩ := k_P_next (F := F) hE1 (by omega) r7
        rw [r3] at b2
        have hu : (rc M 221 (nI d + 1)).bind (fun r19 => if ¬ r19.1 = 0 then ((mX12_next hk_E0 F r19.2 221).bind (fun r21 => mX12_readsRepeat_51 hk_E0 F rc 221 (nI d) c15 c16 c17 K fm r21)) else (some (0, r19.2))) = mX12_readsRepeat_51 hk_E0 F rc 221 (nI d) c15 c16 c17 K fm M2 := by
          rw [r1, Option.bind_some]
          dsimp only
          rw [if_pos (show ¬ (1 : Int32) = 0 by decide), b1, Option.bind_some]
        rw [hu]
        have gm : k_gM M M2 := k_gM_fx r10 b3
        rcases ih (g q) x1 w1 C1 M2 fm (by omega) (by omega) r6 b2 r8 with ⟨C3, M3, x3, w3, s3, t1, t2, t3, t4, t5, t6, t7, t8, t9, t10⟩ | hfl
        · have hb := k_mb (B := B) (show q ≤ g q by omega) t2
          exact Or.inl ⟨C3, M3, x3, w3, s1 + s3, t1, by omega, t3, by omega, t5, t6, t7, k_gC_trans r9 t8, k_gM_trans gm t9, k_run_trans r11 t10⟩
        · have hb := k_mb (B := B) (show q ≤ g q by omega) (show g q ≤ n + 1 by omega)
          exact Or.inr (k_fl_pre hfl r11 (by omega) r9 gm)
      · right
        refine ⟨C1, M1, k, o, s1, ?_, r2, r3, r4, r5, r6, r7, r8, r9, r10⟩
        rw [r1, Option.bind_some]
        dsimp only
        rw [if_neg (fun z => z rfl)]
theorem k_P_jump {T w : Nat → Int32} {n F p q x : Nat} {M : hk_S} (hF : 1000 ≤ F) (h : k_P T n p x w M) (hq : q ≤ n) : ∃ M', mX12_next hk_E0 F (hk_up M 221 18 (nI q)) 221 = some M' ∧ k_P T n q x w M' ∧ k_gM M M' := by
  obtain ⟨h1, h2, h3, h4, h5, h6, h7, h8⟩ := h
  obtain ⟨M', a1, a2, a3, a4, a5, a6⟩ := pX12_next (F := F) hE1 hF (k_mT_up h1 (show 18 ∈ [16, 17, 18, 19] by decide) (nI q)) hq (by rw [hk_up_eq, if_pos rfl])
  have f : s_fx [16, 17, 18, 19] 221 M M' := s_fx_trans (s_fx_up (s_fx_refl _ _ _) (by decide) _) a6
  exact ⟨M', a1, ⟨k_mT_fx h1 f, hq, ⟨a2, a3, a4, a5⟩, (f.2 20 (by decide)).trans h4, (f.2 11 (by decide)).trans h5, (f.2 12 (by decide)).trans h6, (f.1 222 (by decide)).trans h7, h8⟩, k_gM_fx (k_gM_refl M) f⟩
theorem k_KKok {T w : Nat → Int32} {n F p x : Nat} {M : hk_S} {y : Int32} (hF : 1000 ≤ F) (h : k_P T n p x w M) :
    (u_k T n (u_e T n p) = 1 → ∃ M', k_KK F M y = some (1, M') ∧ k_P T n (u_e T n p) x w M' ∧ k_gM M M') ∧ (¬ u_k T n (u_e T n p) = 1 → ∃ M', k_KK F M y = some (0, M') ∧ k_gM M M' ∧ M' 221 11 = 1 ∧ M' 221 12 = nI (u_s T n (u_e T n p))) := by
  obtain ⟨M1, b1, b2, b3⟩ := k_P_next (F := F) hE1 hF h
  have g1 : k_gM M M1 := k_gM_fx (k_gM_refl M) b3
  refine ⟨fun z => ⟨M1, ?_, b2, g1⟩, fun z => ⟨_, ?_, k_gM_up (k_gM_up g1 (show 11 ∈ [11, 12, 16, 17, 18, 19, 20] by decide) 1) (show 12 ∈ [11, 12, 16, 17, 18, 19, 20] by decide) (nI (u_s T n (u_e T n p))), by rw [hk_up_eq, if_neg (by decide), hk_up_eq, if_pos rfl], by rw [hk_up_eq, if_pos rfl]⟩⟩
  · unfold k_KK mX12_is
    rw [b1, Option.bind_some, if_pos (show M1 221 16 = 1 from b2.2.2.1.2.1.trans z), Option.bind_some, if_pos (Or.inr rfl)]
  · unfold k_KK mX12_is
    rw [b1, Option.bind_some, if_neg (show ¬ M1 221 16 = 1 from fun y => z (b2.2.2.1.2.1.symm.trans y)), pX12_fail b2, Option.bind_some, if_pos rfl, Option.bind_some, if_pos (Or.inl rfl)]
theorem k_reps {T : Nat → Int32} {n F d B q v p0 : Nat} {g : Nat → Nat} {rc : hk_S → Nat → Int32 → Option (Int32 × hk_S)} (hF : 2000 ≤ F) (hd : d < 2) (hB : 1 ≤ B) (hv : v ≤ 20) (hp0 : p0 ≤ q) (hn : n ≤ 600)
    (CMD : ∀ p x w C M, k_Q T n p x (d + 1) w C → k_P T n p x w M → x ≤ 200 → ¬ u_k T n p = 5 → k_out T n F (d + 1) p (g p) (B * (g p - p)) (B * (n + 1 - p)) C M (rc M 221 (nI d + 1))) :
    ∀ r z pp x w C M fm, z + (r + 1) = v → r + 1 < fm → k_Q T n q x (d + 1) w C → k_P T n pp x w M → x ≤ 200 → C 216 d = nI q → C 217 d = nI (r + 1) →
    k_out T n F d p0 (u_e T n (u_e T n (u_bod T n g (n + 1) q))) ((r + 1) * (B * (u_e T n (u_bod T n g (n + 1) q) - q))) ((r + 1) * (B * (n + 1 - q))) C M (mX12_readsRepeat_36 hk_E0 F rc 221 (nI d) (nI v) (nI q) (k_KK F) fm M (nI z)) := by
  intro r
  induction r with
  | zero =>
    intro z pp x w C M fm h1 h2 h3 h4 h5 h6 h7
    obtain ⟨fm, rfl⟩ : ∃ f, fm = f + 2 := ⟨fm - 2, by omega⟩
    have hq := h3.2.1
    obtain ⟨M1, b1, b2, b3⟩ := k_P_jump (F := F) (by omega) h4 hq
    rw [mX12_readsRepeat_36]
    dsimp only
    rw [if_neg (show ¬ nI v ≤ nI z from nI_ge (by omega) (by omega)), hk_let_eq, b1, Option.bind_some]
    rcases k_body (F := F) (T := T) (n := n) (c15 := nI v) (c16 := nI q) (c17 := nI z) (K := fun S22 => hk_let (nI z + 1) (fun y23 => mX12_readsRepeat_36 hk_E0 F rc 221 (nI d) (nI v) (nI q) (k_KK F) (fm + 1) S22 y23)) hF CMD (n + 1) q x w C M1 F (by omega) (by omega) h3 b2 h5 with ⟨C3, M3, x3, w3, s3, t1, t2, t3, t4, t5, t6, t7, t8, t9, t10⟩ | hfl
    · rw [t1, hk_let_eq, nI_1, mX12_readsRepeat_36]
      dsimp only
      rw [if_pos (show nI v ≤ nI (z + 1) from (nI_leI (by omega) (by omega)).mpr (by omega))]
      have hqb := u_e_ge T t5.2.1
      have hsb := u_s_ge T t5.2.1
      have hlt := hqb.2.2 (u_k_lt (by rw [t3]; decide))
      obtain ⟨C4, a1, a2, a3, a4, a5, a6⟩ := pX8_readToken (F := F) (by omega) t5.1 t5.2.1 t5.2.2.1
      have q4 := k_Q_tok t5 a6 a2
      have i6 : C4 216 d = nI q := by rw [a6.1 216 (by decide), (t8.2 d (by omega)).1, h6]
      have i7 : C4 217 d = nI 1 := by rw [a6.1 217 (by decide), (t8.2 d (by omega)).2, h7]
      have g4 : k_gC d C C4 := k_gC_fx (k_gC_le t8 (by omega)) a6
      have st := fun (K : hk_S → Int32 → Int32 → Option (Int32 × hk_S)) (f z : Nat) (hz : z + 1 ≤ 1000000) => k_close (K := K) (f := f) a1 a3 (q4.2.2.2.2.1) (by omega) (show z < 1000000 by omega) (show 0 < d + 1 by omega) t3
      obtain ⟨-, l2, l3⟩ := k_closeC (F := F) (r := 1) (q := q) (by omega) hd q4 i7 i6 hq (Nat.le_refl _) (by omega)
      obtain ⟨m1, m2⟩ := k_KKok (F := F) (y := nI (z + 1)) (by omega) t6
      have gM3 : k_gM M M3 := k_gM_trans b3 t9
      have hY : B * (u_bod T n g (n + 1) q - q) + 1 ≤ B * (u_e T n (u_bod T n g (n + 1) q) - q) := by
        have e := k_mb (B := B) t2 (show u_bod T n g (n + 1) q ≤ u_e T n (u_bod T n g (n + 1) q) by omega)
        have e2 : B * 1 ≤ B * (u_e T n (u_bod T n g (n + 1) q) - u_bod T n g (n + 1) q) := Nat.mul_le_mul_left B (by omega)
        omega
      have hY2 : B * (u_e T n (u_bod T n g (n + 1) q) - q) ≤ B * (n + 1 - q) := Nat.mul_le_mul_left B (by omega)
      by_cases k1 : u_k T n (u_e T n (u_bod T n g (n + 1) q)) = 1
      · obtain ⟨C5, c1, c2, c3⟩ := l2 rfl k1
        obtain ⟨M5, d1, d2, d3⟩ := m1 k1
        have hpe := u_e_ge T hqb.2.1
        have hps := u_s_ge T hqb.2.1
        refine Or.inl ⟨C5, M5, u_e T n (u_bod T n g (n + 1) q), x3, w3, s3 + 1, d1, by omega, rfl, by omega, hpe.2.1, c2, d2, t7, k_gC_trans g4 c3, k_gM_trans gM3 d3, k_run_trans t10 (k_run_1 st c1)⟩
      · obtain ⟨C5, c1, c2, c3, c4⟩ := l3 rfl k1
        obtain ⟨M5, d1, d2, d3, d4⟩ := m2 k1
        exact Or.inr ⟨C5, M5, 1, _, s3 + 1, d1, by omega, by decide, c3, c4, d3, d4, k_gC_trans (k_gC_le g4 (Nat.zero_le _)) c2, k_gM_trans gM3 d2, k_run_trans t10 (k_run_1 st c1)⟩
    · exact Or.inr (k_fl_pre hfl (k_run_refl F C) (by omega) (k_gC_refl 0 C) b3)
  | succ r ih =>
    intro z pp x w C M fm h1 h2 h3 h4 h5 h6 h7
    obtain ⟨fm, rfl⟩ : ∃ f, fm = f + 1 := ⟨fm - 1, by omega⟩
    have hq := h3.2.1
    obtain ⟨M1, b1, b2, b3⟩ := k_P_jump (F := F) (by omega) h4 hq
    rw [mX12_readsRepeat_36]
    dsimp only
    rw [if_neg (show ¬ nI v ≤ nI z from nI_ge (by omega) (by omega)), hk_let_eq, b1, Option.bind_some]
    have hm1 : (r + 1 + 1) * (B * (n + 1 - q)) = (r + 1) * (B * (n + 1 - q)) + B * (n + 1 - q) := Nat.succ_mul _ _
    have hm2 : (r + 1 + 1) * (B * (u_e T n (u_bod T n g (n + 1) q) - q)) = (r + 1) * (B * (u_e T n (u_bod T n g (n + 1) q) - q)) + B * (u_e T n (u_bod T n g (n + 1) q) - q) := Nat.succ_mul _ _
    rcases k_body (F := F) (T := T) (n := n) (c15 := nI v) (c16 := nI q) (c17 := nI z) (K := fun S22 => hk_let (nI z + 1) (fun y23 => mX12_readsRepeat_36 hk_E0 F rc 221 (nI d) (nI v) (nI q) (k_KK F) fm S22 y23)) hF CMD (n + 1) q x w C M1 F (by omega) (by omega) h3 b2 h5 with ⟨C3, M3, x3, w3, s3, t1, t2, t3, t4, t5, t6, t7, t8, t9, t10⟩ | hfl
    · rw [t1, hk_let_eq, nI_1]
      have hqb := u_e_ge T t5.2.1
      have hsb := u_s_ge T t5.2.1
      have hlt := hqb.2.2 (u_k_lt (by rw [t3]; decide))
      obtain ⟨C4, a1, a2, a3, a4, a5, a6⟩ := pX8_readToken (F := F) (by omega) t5.1 t5.2.1 t5.2.2.1
      have q4 := k_Q_tok t5 a6 a2
      have i6 : C4 216 d = nI q := by rw [a6.1 216 (by decide), (t8.2 d (by omega)).1, h6]
      have i7 : C4 217 d = nI (r + 1 + 1) := by rw [a6.1 217 (by decide), (t8.2 d (by omega)).2, h7]
      have g4 : k_gC d C C4 := k_gC_fx (k_gC_le t8 (by omega)) a6
      have st := fun (K : hk_S → Int32 → Int32 → Option (Int32 × hk_S)) (f z : Nat) (hz : z + 1 ≤ 1000000) => k_close (K := K) (f := f) a1 a3 (q4.2.2.2.2.1) (by omega) (show z < 1000000 by omega) (show 0 < d + 1 by omega) t3
      obtain ⟨l1, -, -⟩ := k_closeC (F := F) (r := r + 1 + 1) (q := q) (by omega) hd q4 i7 i6 hq (by omega) (by omega)
      obtain ⟨C5, c1, c2, c3, c4, c5⟩ := l1 (by omega)
      have gM3 : k_gM M M3 := k_gM_trans b3 t9
      have hY : B * (u_bod T n g (n + 1) q - q) + 1 ≤ B * (u_e T n (u_bod T n g (n + 1) q) - q) := by
        have e := k_mb (B := B) t2 (show u_bod T n g (n + 1) q ≤ u_e T n (u_bod T n g (n + 1) q) by omega)
        have e2 : B * 1 ≤ B * (u_e T n (u_bod T n g (n + 1) q) - u_bod T n g (n + 1) q) := Nat.mul_le_mul_left B (by omega)
        omega
      have hY2 : B * (u_e T n (u_bod T n g (n + 1) q) - q) ≤ B * (n + 1 - q) := Nat.mul_le_mul_left B (by omega)
      have rn : k_run F (s3 + 1) C C5 1 := k_run_trans t10 (k_run_1 st c1)
      have gc : k_gC d C C5 := k_gC_trans g4 c3
      rcases ih (z + 1) _ x3 w3 C5 M3 fm (by omega) (by omega) c2 t6 t7 c5 c4 with ⟨C', M', q', x', w', s', v1, v2, v3, v4, v5, v6, v7, v8, v9, v10, v11⟩ | hfl
      · exact Or.inl ⟨C', M', q', x', w', s3 + 1 + s', v1, by omega, v3, v4, v5, v6, v7, v8, k_gC_trans gc v9, k_gM_trans gM3 v10, k_run_trans rn v11⟩
      · exact Or.inr (k_fl_pre hfl rn (by omega) gc gM3)
    · exact Or.inr (k_fl_pre hfl (k_run_refl F C) (by omega) (k_gC_refl 0 C) b3)
