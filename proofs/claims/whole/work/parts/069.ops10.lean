/-! move -/
theorem mv1 {i A N B : Nat} (hi : i < 4) (hA : A + N ≤ 40) (b d : Int32) : ∀ (n k f : Nat) (s : St), k + n = N → n < f → ∃ t, fX9_move_119 (nI i) (nI A) b d (nI N) f (nI k) s = some t ∧ (∀ q, q ≠ 10 → t q = s q) ∧ (∀ j, j < k → t 10 j = s 10 j) ∧ ∀ j, k ≤ j → j < N → t 10 j = s 9 (40 * i + A + j)
  | n, k, 0, _, _, hf => absurd hf (Nat.not_lt_zero _)
  | 0, k, f + 1, s, hk, _ => by
    have : k = N := by omega
    subst this
    rw [fX9_move_119, if_pos (nI_le (Nat.le_refl _) (by omega))]
    exact ⟨s, rfl, fun _ _ => rfl, fun _ _ => rfl, fun j h1 h2 => by omega⟩
  | n + 1, k, f + 1, s, hk, hf => by
    rw [fX9_move_119, if_neg (nI_ge (by omega) (by omega)), show (40 : Int32) * nI i + nI A + nI k = nI (40 * i + A + k) by rw [show (40 : Int32) = nI 40 from rfl, pk_mul, nI_add, nI_add], ald_i (show 40 * i + A + k < 160 by omega) (by decide), bd1_s, ast_i (show k < 40 by omega) (by decide), bd1_s, nI_1]
    obtain ⟨t, e, h1, h2, h3⟩ := mv1 (B := B) hi hA b d n (k + 1) f (u2 s 10 k (s 9 (40 * i + A + k))) (by omega) (by omega)
    refine ⟨t, e, fun q hq => by rw [h1 q hq, u2_ne hq], fun j hj => by rw [h2 j (by omega), u2_slot (by omega)], fun j h4 h5 => ?_⟩
    by_cases q : j = k
    · subst q; rw [h2 j (by omega), u2_same]
    · rw [h3 j (by omega) h5, u2_ne (by decide)]
theorem mv2 {i A N : Nat} (hi : i < 4) (hA : A + N ≤ 40) : ∀ (n k f : Nat) (s : St), k + n = N → n < f → ∃ t, fX9_move_156 (nI i) (nI A) (nI N) f (nI k) s = some t ∧ (∀ q, q ≠ 9 → t q = s q) ∧ (∀ j, j < 40 * i + A + k ∨ 40 * i + A + N ≤ j → t 9 j = s 9 j) ∧ ∀ j, k ≤ j → j < N → t 9 (40 * i + A + j) = s 10 j
  | n, k, 0, _, _, hf => absurd hf (Nat.not_lt_zero _)
  | 0, k, f + 1, s, hk, _ => by
    have : k = N := by omega
    subst this
    rw [fX9_move_156, if_pos (nI_le (Nat.le_refl _) (by omega))]
    exact ⟨s, rfl, fun _ _ => rfl, fun _ _ => rfl, fun j h1 h2 => by omega⟩
  | n + 1, k, f + 1, s, hk, hf => by
    rw [fX9_move_156, if_neg (nI_ge (by omega) (by omega)), ald_i (show k < 40 by omega) (by decide), bd1_s, show (40 : Int32) * nI i + nI A + nI k = nI (40 * i + A + k) by rw [show (40 : Int32) = nI 40 from rfl, pk_mul, nI_add, nI_add], ast_i (show 40 * i + A + k < 160 by omega) (by decide), bd1_s, nI_1]
    obtain ⟨t, e, h1, h2, h3⟩ := mv2 hi hA n (k + 1) f (u2 s 9 (40 * i + A + k) (s 10 k)) (by omega) (by omega)
    refine ⟨t, e, fun q hq => by rw [h1 q hq, u2_ne hq], fun j hj => by rw [h2 j (by omega), u2_slot (by omega)], fun j h4 h5 => ?_⟩
    by_cases q : j = k
    · subst q; rw [h2 _ (by omega), u2_same]
    · rw [h3 j (by omega) h5, u2_ne (by decide)]
/-- numbers from a sheet's place on -/
theorem hold_iff {n : Nat} (hn : n ≤ 40) {p l : Int32} (hl : ¬ l < 0) (hp : ¬ p < 0) : (nI n - l < p) ∨ ∃ A N : Nat, p = nI A ∧ l = nI N ∧ A + N ≤ n := by
  have l0 : 0 ≤ l.toInt := by
    have : ¬ l.toInt < 0 := fun q => hl (i_lt.mpr (by rw [show (0 : Int32).toInt = 0 by decide]; exact q))
    omega
  have p0 : 0 ≤ p.toInt := by
    have : ¬ p.toInt < 0 := fun q => hp (i_lt.mpr (by rw [show (0 : Int32).toInt = 0 by decide]; exact q))
    omega
  have lm : l.toInt < 2 ^ 31 := Int32.toInt_lt l
  have pm : p.toInt < 2 ^ 31 := Int32.toInt_lt p
  have e : (nI n - l).toInt = (n : Int) - l.toInt := by
    rw [Int32.toInt_sub, nI_toInt (by omega)]
    exact Int.bmod_eq_of_le (by omega) (by omega)
  by_cases q : nI n - l < p
  · exact Or.inl q
  · refine Or.inr ⟨p.toInt.toNat, l.toInt.toNat, i_eq.mpr (by rw [nI_toInt (by omega)]; omega), i_eq.mpr (by rw [nI_toInt (by omega)]; omega), ?_⟩
    have : ¬ (nI n - l).toInt < p.toInt := fun w => q (i_lt.mpr w)
    rw [e] at this
    omega
theorem op_move {σ τ : St} {m : Nat} (r : Rel σ τ m) (a b c d e : Int32) : OK2 (fX8_move a b c d e σ) (fX9_move a b c d e τ) m := by
  have r0 := r
  obtain ⟨h', T, dn, n0, z, rt, rw', rk, rd, rs, rv⟩ := r
  unfold fX8_move fX9_move
  simp only [jn, c_isSheet, m_isSheet, bd2_s, gi0, bd2_eta]
  refine ok_if (σ := σ) (τ := τ) (fun h1 => ok_if (σ := σ) (τ := τ) (fun h2 => ?_) (fun _ => ok_e1 r0)) (fun _ => ok_e1 r0)
  obtain ⟨i, hi, -, rfl⟩ := rg 3 h1 (by decide)
  obtain ⟨j, hj, -, rfl⟩ := rg 3 h2 (by decide)
  have hi4 : i < 4 := by omega
  have hj4 : j < 4 := by omega
  obtain ⟨n, p1, p2, p3, p4, p5, p6⟩ := rs i hi4
  obtain ⟨n', q1, q2, q3, q4, q5, q6⟩ := rs j hj4
  simp only [rld_i hi4, rld_i hj4, bd1_s, ald_i (s := τ) (q := 7) (n := 4) hi4 (by decide), ald_i (s := τ) (q := 7) (n := 4) hj4 (by decide), ald_i (s := τ) (q := 8) (n := 4) hi4 (by decide), ald_i (s := τ) (q := 8) (n := 4) hj4 (by decide), p4, q4, p3, q3]
  refine ok_if (σ := σ) (τ := τ) (fun _ => ok_e2 r0) (fun b0 => ok_if (σ := σ) (τ := τ) (fun _ => ok_e2 r0) (fun b1 => ok_if (σ := σ) (τ := τ) (fun be => ?_) (fun _ => ok_e5 r0)))
  unfold fX5_holds
  simp only [jn, p2, q2]
  by_cases c1 : e < 0
  · rw [if_pos c1, if_pos c1]
    simp only [bd2_s, if_true]
    exact ok_e1 r0
  rw [if_neg c1, if_neg c1]
  by_cases c2 : b < 0
  · rw [if_pos c2, if_pos c2]
    simp only [bd2_s, if_true]
    exact ok_e1 r0
  rw [if_neg c2, if_neg c2]
  rcases hold_iff p1 c1 c2 with c3 | ⟨A, N, rfl, rfl, hA⟩
  · rw [if_pos c3]
    simp only [bd2_s, if_true]
    by_cases c4 : d < 0
    · rw [if_pos c4]; exact ok_e1 r0
    · rw [if_neg c4, if_pos c3]; exact ok_e1 r0
  have c3 : ¬ nI n - nI N < nI A := fun w => by
    have e : nI n - nI N = nI (n - N) := by
      have : nI (n - N) + nI N = nI n := by rw [nI_add, Nat.sub_add_cancel (by omega)]
      rw [← this, Int32.add_sub_cancel]
    rw [e] at w
    have := (nI_ltI (by omega) (by omega)).mp w
    omega
  rw [if_neg c3]
  simp only [bd2_s, if_neg (show ¬ (1 : Int32) = 0 by decide), if_neg c1, q2]
  by_cases c4 : d < 0
  · rw [if_pos c4, if_pos c4]
    simp only [bd2_s, if_true]
    exact ok_e1 r0
  rw [if_neg c4, if_neg c4, if_neg c3]
  rcases hold_iff q1 c1 c4 with c5 | ⟨D, N', rfl, eN, hD⟩
  · rw [if_pos c5, if_neg (fun w => by have := i_lt.mp c5; have := i_le.mp w; omega)]
    simp only [bd2_s, if_true]
    exact ok_e1 r0
  have : N' = N := (nI_eq (by omega) (by omega)).mp eN.symm
  subst this
  have c5 : ¬ nI n' - nI N' < nI D := fun w => by
    have e : nI n' - nI N' = nI (n' - N') := by
      have : nI (n' - N') + nI N' = nI n' := by rw [nI_add, Nat.sub_add_cancel (by omega)]
      rw [← this, Int32.add_sub_cancel]
    rw [e] at w
    have := (nI_ltI (by omega) (by omega)).mp w
    omega
  rw [if_neg c5, if_pos (i_le.mpr (by have : ¬ (nI n' - nI N').toInt < (nI D).toInt := fun w => c5 (i_lt.mpr w)
                                      omega))]
  simp only [bd2_s, if_neg (show ¬ (1 : Int32) = 0 by decide)]
  obtain ⟨τ1, e1, f1, f2, f3⟩ := mv1 (B := 0) hi4 (show A + N' ≤ 40 by omega) (nI j) (nI D) N' 0 FU τ (by omega) (FU_lt (by omega))
  obtain ⟨τ2, e2, g1, g2, g3⟩ := mv2 hj4 (show D + N' ≤ 40 by omega) N' 0 FU τ1 (by omega) (FU_lt (by omega))
  rw [show fX9_move_119 (nI i) (nI A) (nI j) (nI D) (nI N') FU 0 τ = _ from e1, bd1_s, show fX9_move_156 (nI j) (nI D) (nI N') FU 0 τ1 = _ from e2, bd1_s]
  unfold acp
  rw [if_pos ⟨nI_pos (by omega), nI_pos (by omega), nI_pos (by omega), by rw [nI_clamp (by omega), nI_clamp (by omega)]; omega, by rw [nI_clamp (by omega), nI_clamp (by omega)]; omega⟩, bd1_s, nI_clamp (by omega), nI_clamp (by omega), nI_clamp (by omega)]
  refine ok_some _ (r0.sh (fun q hq => uA_ne _ (by omega)) (fun q hq => by rw [g1 q (by omega), f1 q (by omega)]) ?_)
  intro l hl
  obtain ⟨o, o1, o2, o3, o4, o5, o6⟩ := rs l hl
  have t7 : τ2 7 = τ 7 := by rw [g1 7 (by decide), f1 7 (by decide)]
  have t8 : τ2 8 = τ 8 := by rw [g1 8 (by decide), f1 8 (by decide)]
  refine ⟨o, o1, by rw [uA_ne _ (by omega)]; exact o2, by rw [t8]; exact o3, by rw [uA_ne _ (by omega), t7]; exact o4, by rw [t7]; exact o5, fun w hw => ?_⟩
  rw [t7]
  by_cases el : l = j
  · subst el
    rw [show 60 + 2 * l = 59 + 2 * l + 1 by omega, uA_same]
    unfold va_cpy
    by_cases cw : D ≤ w ∧ w < D + N'
    · rw [if_pos cw, show 40 * l + w = 40 * l + D + (w - D) by omega, g3 (w - D) (by omega) (by omega), f3 (w - D) (by omega) (by omega), ← be, show 59 + 2 * i + 1 = 60 + 2 * i by omega, show 40 * i + A + (w - D) = 40 * i + (A + (w - D)) by omega]
      exact p6 _ (by omega)
    · rw [if_neg cw, g2 _ (by omega), f1 9 (by decide), show 59 + 2 * l + 1 = 60 + 2 * l by omega]; exact o6 w hw
  · rw [uA_ne _ (by omega), g2 _ (by omega), f1 9 (by decide)]; exact o6 w hw
