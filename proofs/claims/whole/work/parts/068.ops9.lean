theorem rgn {v : Int32} {n : Nat} (hn : n ≤ 40) (h : 0 ≤ v ∧ v ≤ nI n - 1) : ∃ k : Nat, k < n ∧ v = nI k := by
  cases n with
  | zero =>
    have h1 := i_le.mp h.1
    have h2 := i_le.mp h.2
    rw [show (0 : Int32).toInt = 0 by decide] at h1
    rw [show (nI 0 - 1).toInt = -1 by decide] at h2
    omega
  | succ n =>
    have e : nI (n + 1) - 1 = nI n := by rw [← nI_1, Int32.add_sub_cancel]
    rw [e] at h
    obtain ⟨k, hk, -, q⟩ := rg n h (by omega)
    exact ⟨k, by omega, q⟩
theorem op_put {σ τ : St} {m : Nat} (r : Rel σ τ m) (a b c : Int32) : OK2 (fX8_put a b c σ) (fX9_put a b c τ) m := by
  have r0 := r
  obtain ⟨h', T, dn, n0, z, rt, rw', rk, rd, rs, rv⟩ := r
  unfold fX8_put fX9_put
  simp only [c_isSheet, m_isSheet, bd2_s, gi0, bd2_eta]
  refine ok_if (σ := σ) (τ := τ) (fun h1 => ?_) (fun _ => ok_e1 r0)
  obtain ⟨i, hi, -, rfl⟩ := rg 3 h1 (by decide)
  have hi4 : i < 4 := by omega
  obtain ⟨n, p1, p2, p3, p4, p5, p6⟩ := rs i hi4
  rw [rld_i hi4, bd1_s, ald_i hi4 (by decide), bd1_s, bd1_s, p4]
  by_cases b0 : τ 7 i = 0
  · rw [if_pos b0, if_pos b0]; exact ok_e2 r0
  rw [if_neg b0, if_neg b0, ald_i hi4 (by decide), bd1_s, p2, p3, c_within, m_in, bd2_s, bd2_s, gi0, gi0]
  refine ok_if (σ := σ) (τ := τ) (fun h2 => ?_) (fun _ => ok_e1 r0)
  obtain ⟨k, hk, rfl⟩ := rgn p1 h2
  rw [bd1_s, ald_i hi4 (by decide), bd1_s]
  have fin : ∀ x y : Int32, SR (τ 7 i) x y → OK2 (some (1, u2 σ (59 + 2 * i + 1) k x)) (some (1, u2 τ 9 (40 * i + k) y)) m := by
    intro x y hxy
    refine ok_some _ (r0.sh (fun q hq => u2_ne (by omega)) (fun q hq => u2_ne (by omega)) ?_)
    intro j hj
    obtain ⟨n', q1, q2, q3, q4, q5, q6⟩ := rs j hj
    refine ⟨n', q1, by rw [u2_ne (by omega)]; exact q2, by rw [u2_ne (by decide)]; exact q3, by rw [u2_ne (by omega), u2_ne (by decide)]; exact q4, by rw [u2_ne (by decide)]; exact q5, fun l hl => ?_⟩
    rw [u2_ne (q := 9) (r := 7) (by decide)]
    by_cases e : j = i
    · subst e
      rw [show 60 + 2 * j = 59 + 2 * j + 1 by omega]
      by_cases e2 : l = k
      · subst e2; rw [u2_same, u2_same]; exact hxy
      · rw [u2_slot e2, u2_slot (by omega), show 59 + 2 * j + 1 = 60 + 2 * j by omega]; exact q6 l hl
    · rw [u2_ne (by omega), u2_slot (by omega)]; exact q6 l hl
  unfold fX5_write fX9_narrow
  rw [p4]
  have ix : (40 : Int32) * nI i + nI k = nI (40 * i + k) := by rw [show (40 : Int32) = nI 40 from rfl, pk_mul, nI_add]
  rcases p5 with q | q | q | q
  · exact absurd q b0
  · rw [q, if_neg (show ¬ (8 : Int32) = 32 by decide), if_pos rfl, ast_i (show k < 40 by omega) (by decide), bd1_s, bd1_s, bd2_s, ix, ast_i (show 40 * i + k < 160 by omega) (by decide), bd1_s, show shl 1 8 - 1 = (255 : Int32) by decide]
    exact fin _ _ (by unfold SR; rw [q, if_pos rfl]; exact ⟨(i8_and c).symm, i8_i8 c⟩)
  · rw [q, if_neg (show ¬ (16 : Int32) = 32 by decide), if_neg (show ¬ (16 : Int32) = 8 by decide), if_pos rfl, ast_i (show k < 40 by omega) (by decide), bd1_s, bd1_s, bd2_s, ix, ast_i (show 40 * i + k < 160 by omega) (by decide), bd1_s, show shl 1 16 - 1 = (65535 : Int32) by decide]
    exact fin _ _ (by unfold SR; rw [q, if_neg (by decide), if_pos rfl]; exact ⟨(i16_and c).symm, i16_i16 c⟩)
  · rw [q, if_pos rfl, if_neg (show ¬ (32 : Int32) = 8 by decide), if_neg (show ¬ (32 : Int32) = 16 by decide), ast_i (show k < 40 by omega) (by decide), bd1_s, bd1_s, bd2_s, ix, ast_i (show 40 * i + k < 160 by omega) (by decide), bd1_s]
    exact fin _ _ (by unfold SR; rw [q, if_neg (by decide), if_neg (by decide)])
theorem judge_c {σ : St} {i N : Nat} (hN : N ≤ 8) : ∀ (n k f : Nat), k + n = N → n < f → (∃ j, j < N ∧ (∀ l, k ≤ l → l < j → σ (59 + 2 * i + 1) l = σ 8 l) ∧ k ≤ j ∧ ¬ σ (59 + 2 * i + 1) j = σ 8 j ∧ fX8_judge_54 (59 + 2 * i) (nI N) f (nI k) σ = some (.inl (nI j, σ))) ∨ ((∀ l, k ≤ l → l < N → σ (59 + 2 * i + 1) l = σ 8 l) ∧ fX8_judge_54 (59 + 2 * i) (nI N) f (nI k) σ = some (.inr σ))
  | n, k, 0, _, hf => absurd hf (Nat.not_lt_zero _)
  | 0, k, f + 1, hk, _ => by
    have : k = N := by omega
    subst this
    rw [fX8_judge_54, if_pos (nI_le (Nat.le_refl _) (by omega))]
    exact Or.inr ⟨fun l h1 h2 => by omega, rfl⟩
  | n + 1, k, f + 1, hk, hf => by
    rw [fX8_judge_54, if_neg (nI_ge (by omega) (by omega)), ald_i (show k < 40 by omega) (by decide), bd1_s, ald_i (show k < 8 by omega) (by decide), bd1_s]
    by_cases q : σ (59 + 2 * i + 1) k = σ 8 k
    · rw [if_pos q, nI_1]
      rcases judge_c hN n (k + 1) f (by omega) (by omega) with ⟨j, h1, h2, h3, h4, h5⟩ | ⟨h1, h2⟩
      · exact Or.inl ⟨j, h1, fun l p1 p2 => by
          by_cases e : l = k
          · subst e; exact q
          · exact h2 l (by omega) p2, by omega, h4, h5⟩
      · exact Or.inr ⟨fun l p1 p2 => by
          by_cases e : l = k
          · subst e; exact q
          · exact h1 l (by omega) p2, h2⟩
    · rw [if_neg q]
      exact Or.inl ⟨k, by omega, fun l p1 p2 => by omega, Nat.le_refl _, q, rfl⟩
theorem judge_m {τ : St} {i dn n' : Nat} (hi : i < 4) (hd : dn ≤ 8) (hn : n' ≤ 40) (e2 : τ 1 2 = nI dn) (e8 : τ 8 i = nI n') {J : Nat} (hJ : J ≤ dn ∧ J ≤ n') (hend : J = dn ∨ J = n' ∨ ¬ τ 9 (40 * i + J) = τ 1 (47 + 5 * J + 2)) (hall : ∀ l, l < J → τ 9 (40 * i + l) = τ 1 (47 + 5 * l + 2)) : ∀ (n k f : Nat), k + n = J → n < f → fX9_judge_32 (nI i) f (nI k) τ = some (nI J, τ)
  | n, k, 0, _, hf => absurd hf (Nat.not_lt_zero _)
  | 0, k, f + 1, hk, _ => by
    have : k = J := by omega
    subst this
    rw [fX9_judge_32, ald1 (x := 2) (i := 2) rfl (by decide), bd1_s, e2]
    by_cases q : k = dn
    · rw [if_pos (nI_le (by omega) (by omega))]
    · rw [if_neg (nI_ge (by omega) (by omega)), ald_i hi (by decide), bd1_s, e8]
      by_cases q2 : k = n'
      · rw [if_pos (nI_le (by omega) (by omega))]
      · rw [if_neg (nI_ge (by omega) (by omega)), show (40 : Int32) * nI i + nI k = nI (40 * i + k) by rw [show (40 : Int32) = nI 40 from rfl, pk_mul, nI_add], ald_i (show 40 * i + k < 160 by omega) (by decide), bd1_s, its_eq (x := 2) (w := 2) rfl (by omega) (by decide), bd2_s, if_neg (by rcases hend with z | z | z <;> first | omega | exact z)]
  | n + 1, k, f + 1, hk, hf => by
    rw [fX9_judge_32, ald1 (x := 2) (i := 2) rfl (by decide), bd1_s, e2, if_neg (nI_ge (by omega) (by omega)), ald_i hi (by decide), bd1_s, e8, if_neg (nI_ge (by omega) (by omega)), show (40 : Int32) * nI i + nI k = nI (40 * i + k) by rw [show (40 : Int32) = nI 40 from rfl, pk_mul, nI_add], ald_i (show 40 * i + k < 160 by omega) (by decide), bd1_s, its_eq (x := 2) (w := 2) rfl (by omega) (by decide), bd2_s, if_pos (hall k (by omega)), nI_1]
    exact judge_m hi hd hn e2 e8 hJ hend hall n (k + 1) f (by omega) (by omega)
theorem imn_nI {a b : Nat} (ha : a < 2 ^ 31) (hb : b < 2 ^ 31) : imn (nI a) (nI b) = nI (min a b) := by
  unfold imn
  by_cases h : b < a
  · rw [if_pos (show nI a > nI b from (nI_ltI hb ha).mpr h), Nat.min_eq_right (by omega)]
  · rw [if_neg (show ¬ nI a > nI b from fun z => h ((nI_ltI hb ha).mp z)), Nat.min_eq_left (by omega)]
theorem op_judge {σ τ : St} {m : Nat} (r : Rel σ τ m) (a : Int32) : OK2 (fX8_judge a σ) (fX9_judge a τ) m := by
  have r0 := r
  obtain ⟨h, T, dn, n0, z, rt, rw', rk, rd, rs, rv⟩ := r
  obtain ⟨a1, a2, a3, a4, a5, a6, a7, a8⟩ := id n0
  have e12 : σ 2 12 = nI dn := by rw [a1.2.2.2.2, a3.d3]
  have e2 : τ 1 2 = nI dn := by rw [a2.1.2.1, a3.d3]
  have hd := a3.dn
  unfold fX8_judge fX9_judge
  simp only [c_isSheet, m_isSheet, bd2_s, gi0, bd2_eta, jn]
  refine ok_if (σ := σ) (τ := τ) (fun h1 => ?_) (fun _ => ok_e1 r0)
  obtain ⟨i, hi, -, rfl⟩ := rg 3 h1 (by decide)
  have hi4 : i < 4 := by omega
  obtain ⟨n, p1, p2, p3, p4, p5, p6⟩ := rs i hi4
  rw [rld_i hi4, bd1_s, ald_i hi4 (by decide), bd1_s, p4]
  by_cases b0 : τ 7 i = 0
  · rw [if_pos b0, if_pos b0]; exact ok_e2 r0
  rw [if_neg b0, if_neg b0, p2, e12, imn_nI (by omega) (by omega)]
  have same : ∀ l, l < 8 → (σ (59 + 2 * i + 1) l = σ 8 l ↔ τ 9 (40 * i + l) = τ 1 (47 + 5 * l + 2)) := by
    intro l hl
    have g := a3.2.2.2.2.2.2.2.1 l hl
    obtain ⟨v, hv, -, ev⟩ := bt_ex (hi := 9) g
    have p7 := p6 l (by omega)
    rw [show 60 + 2 * i = 59 + 2 * i + 1 by omega] at p7
    rw [show σ 8 l = h 5 l from a1.1.2.2.2.2.2.1 l hl, (a2.2.2.2 l hl).2.2.1, ev]
    exact p7.small (k := v) (by omega) rfl
  rcases judge_c (σ := σ) (i := i) (N := min n dn) (by omega) (min n dn) 0 FU (by omega) (FU_lt (by omega)) with ⟨J, h1, h2, h3, h4, h5⟩ | ⟨h1, h2⟩
  · have g := judge_m (τ := τ) hi4 hd p1 e2 p3 (J := J) (by omega) (Or.inr (Or.inr (fun q => h4 ((same J (by omega)).mpr q)))) (fun l hl => (same l (by omega)).mp (h2 l (by omega) hl)) J 0 FU (by omega) (FU_lt (by omega))
    rw [show fX8_judge_54 (59 + 2 * i) (nI (min n dn)) FU 0 σ = _ from h5, bS1_l, show fX9_judge_32 (nI i) FU 0 τ = _ from g, bd2_s, ald1 (x := 2) (i := 2) rfl (by decide), bd1_s, e2, if_neg (fun q => by have := (nI_eq (by omega) (by omega)).mp q; omega)]
    exact ok_some _ r0
  · have g := judge_m (τ := τ) hi4 hd p1 e2 p3 (J := min n dn) (by omega) (by omega) (fun l hl => (same l (by omega)).mp (h1 l (by omega) hl)) (min n dn) 0 FU (by omega) (FU_lt (by omega))
    rw [show fX8_judge_54 (59 + 2 * i) (nI (min n dn)) FU 0 σ = _ from h2, bS1_r, show fX9_judge_32 (nI i) FU 0 τ = _ from g, bd2_s, ald1 (x := 2) (i := 2) rfl (by decide), bd1_s, e2, p2, e12, ald_i hi4 (by decide), bd1_s, p3]
    by_cases q : n = dn
    · subst q
      rw [if_pos rfl, Nat.min_self, if_pos rfl, if_pos rfl]
      exact ok_some _ r0
    · rw [if_neg (fun w => q ((nI_eq (by omega) (by omega)).mp w))]
      by_cases q2 : min n dn = dn
      · rw [q2, if_pos rfl, if_neg (fun w => q ((nI_eq (by omega) (by omega)).mp w).symm)]
        exact ok_some _ r0
      · rw [if_neg (fun w => q2 ((nI_eq (by omega) (by omega)).mp w))]
        exact ok_some _ r0
theorem menus_loop {m i : Nat} (hi : i < 4) : ∀ (n k f g : Nat) (σ τ : St), k + n = 7 → n < f → n < g → Rel σ τ m → OK2 (fX8_menus_38 (59 + 2 * i) f (nI k) (nI k) σ) (fX9_menus_32 (nI i) g (nI k) τ) m
  | n, k, 0, _, _, _, _, hf, _, _ => absurd hf (Nat.not_lt_zero _)
  | n, k, _, 0, _, _, _, _, hg, _ => absurd hg (Nat.not_lt_zero _)
  | n, k, f + 1, g + 1, σ, τ, hk, hf, hg, r => by
    have r0 := r
    obtain ⟨h, T, dn, n0, rest⟩ := r
    obtain ⟨a1, a2, a3, a4, a5, a6, a7, a8⟩ := id n0
    obtain ⟨z, rt, rw', rk, rd, rs, rv⟩ := id rest
    obtain ⟨N, p1, p2, p3, p4, p5, p6⟩ := rs i hi
    rw [fX8_menus_38, fX9_menus_32, p2, ald_i hi (by decide), bd1_s, p3]
    refine ok_if (σ := σ) (τ := τ) (fun _ => ok_some _ r0) (fun hN => ?_)
    have hkN : k < N := Nat.lt_of_not_le (fun q => hN (nI_le q (by omega)))
    rw [c_isCourse, m_isCourse, bd2_s, bd2_s, gi0, gi0]
    refine ok_if (σ := σ) (τ := τ) (fun hc => ?_) (fun _ => ok_some _ r0)
    have hk6 : k < 6 := by
      have := i_le.mp hc.2
      rw [nI_toInt (by omega), show (5 : Int32).toInt = 5 by decide] at this
      omega
    have ix : (40 : Int32) * nI i + nI k = nI (40 * i + k) := by rw [show (40 : Int32) = nI 40 from rfl, pk_mul, nI_add]
    have p7 := p6 k (by omega)
    rw [show 60 + 2 * i = 59 + 2 * i + 1 by omega] at p7
    rw [ald_i (show k < 40 by omega) (by decide), ix, ald_i (show 40 * i + k < 160 by omega) (by decide), bd1_s, bd1_s, c_isDish, m_isDish, bd2_s, bd2_s, gi0, gi0]
    by_cases q : 0 ≤ τ 9 (40 * i + k) ∧ τ 9 (40 * i + k) ≤ 15
    · obtain ⟨v, hv, -, ev⟩ := rg 15 q (by decide)
      have ex := (p7.small (k := v) (by omega) rfl).mpr ev
      have ey := bt_of (hi := 15) q (by decide)
      rw [if_pos q, if_pos (by rw [ex, ← ev]; exact q)]
      rw [ald_i (show k < 40 by omega) (by decide), bd1_s, ald_i (show 40 * i + k < 160 by omega) (by decide), bd1_s, ast_i hk6 (by decide), bd1_s, ast1 (x := 41 + nI k) (i := 41 + k) (by rw [l41, nI_add]) (by omega), bd1_s, nI_1, ex, ev]
      rw [ev] at ey
      exact menus_loop hi (n - 1) (k + 1) f g _ _ (by omega) (by omega) (by omega) (Rel.go n0 rest (FC.u (by omega) _) (FM.u1 (by omega) (by omega) _) (a1.set2 (k := k) (nI v)) (a2.sv (by omega) (nI v)) (a3.set2 ey) (a5.u2c (by decide) _) (a6.u1 (by omega) (by omega) _))
    · rw [if_neg q, if_neg (fun w => by
        obtain ⟨v, hv, -, ev⟩ := rg 15 w (by decide)
        have := (p7.small (k := v) (by omega) rfl).mp ev
        exact q (by rw [this, ← ev]; exact w))]
      exact ok_some _ r0
  termination_by n => n
  decreasing_by omega
theorem op_menus {σ τ : St} {m : Nat} (r : Rel σ τ m) (a : Int32) : OK2 (fX8_menus a σ) (fX9_menus a τ) m := by
  have r0 := r
  obtain ⟨h', T, dn, n0, z, rt, rw', rk, rd, rs, rv⟩ := r
  unfold fX8_menus fX9_menus
  simp only [c_isSheet, m_isSheet, bd2_s, gi0, bd2_eta]
  refine ok_if (σ := σ) (τ := τ) (fun h1 => ?_) (fun _ => ok_e1 r0)
  obtain ⟨i, hi, -, rfl⟩ := rg 3 h1 (by decide)
  have hi4 : i < 4 := by omega
  obtain ⟨n, p1, p2, p3, p4, p5, p6⟩ := rs i hi4
  rw [rld_i hi4, bd1_s, ald_i hi4 (by decide), bd1_s, p4]
  by_cases b0 : τ 7 i = 0
  · rw [if_pos b0, if_pos b0]; exact ok_e2 r0
  rw [if_neg b0, if_neg b0]
  exact menus_loop hi4 7 0 FU FU σ τ rfl (FU_lt (by omega)) (FU_lt (by omega)) r0
