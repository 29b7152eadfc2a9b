/-! the acts: diners, counts -/
theorem div10 {n : Nat} (h : n ≤ 69) : nI n / 10 = nI (n / 10) := by rw [l10, pk_div (by omega) (by decide) (by decide)]
theorem rem10 {n : Nat} (h : n ≤ 69) : irm (nI n) 10 = nI (n % 10) := by
  unfold irm
  rw [l10, pk_rem (by omega) (by decide) (by decide)]
theorem op_diner {σ τ : St} {m : Nat} (r : Rel σ τ m) (a b : Int32) : OK2 (fX8_diner a b σ) (fX9_diner a b τ) m := by
  unfold fX8_diner fX9_diner
  simp only [jn, c_isKindAndM, c_within, m_in, bd2_s, gi0, bd2_eta]
  refine ok_if (σ := σ) (τ := τ) (fun h1 => ok_if (σ := σ) (τ := τ) (fun h2 => ?_) (fun _ => ok_e1 r)) (fun _ => ok_e1 r)
  have r0 := r
  obtain ⟨h, T, dn, n0, rest⟩ := r
  obtain ⟨a1, a2, a3, a4, a5, a6, a7, a8⟩ := id n0
  obtain ⟨i, hi, -, rfl⟩ := rg 69 h1 (by decide)
  have hd8 := a3.dn
  rw [a1.2.2.2.2, a3.d3, ald1 (x := 2) (i := 2) rfl (by decide), bd1_s, a2.1.2.1, a3.d3]
  by_cases hd : dn = 8
  · subst hd
    rw [if_neg (show ¬ nI 8 < (8 : Int32) by decide), if_pos (show nI 8 = (8 : Int32) from rfl)]
    exact ok_e4 r0
  · have hlt : dn < 8 := by omega
    rw [if_pos (show nI dn < 8 from nI_lt hlt (by decide)), if_neg (show ¬ nI dn = (8 : Int32) from fun q => hd ((nI_eq (by omega) (by decide)).mp (show nI dn = nI 8 from q)))]
    rw [bd1_s, puts_eq (x := 0) (w := 0) rfl hlt (by decide), bd1_s, puts_eq (x := 1) (w := 1) rfl hlt (by decide), bd1_s, puts_eq (x := 2) (w := 2) rfl hlt (by decide), bd1_s, puts_eq (x := 3) (w := 3) rfl hlt (by decide), bd1_s, puts_eq (x := 4) (w := 4) rfl hlt (by decide), bd1_s, ald1 (x := 2) (i := 2) rfl (by decide), bd1_s, ast1 (x := 2) (i := 2) rfl (by decide), bd1_s]
    unfold fX0_seat
    rw [a1.2.2.2.2, a3.d3, ast_i hlt (by decide), bd1_s, ast_i hlt (by decide), bd1_s, ast_i hlt (by decide), bd1_s, ast_i hlt (by decide), bd1_s, ast_i hlt (by decide), bd1_s, ptf, bd1_s]
    simp only [u2_ne (show (2 : Nat) ≠ 2 + 4 by decide), u2_ne (show (2 : Nat) ≠ 2 + 5 by decide), u2_ne (show (2 : Nat) ≠ 2 + 6 by decide), u2_ne (show (2 : Nat) ≠ 2 + 7 by decide), u2_ne (show (2 : Nat) ≠ 2 + 8 by decide)]
    rw [a1.2.2.2.2, a3.d3, nI_1, u2_slot (by omega), u2_slot (by omega), u2_slot (by omega), u2_slot (by omega), u2_slot (by omega), a2.1.2.1, a3.d3, nI_1, div10 hi, rem10 hi]
    have hb1 : bt 0 6 (nI (i / 10)) := bt_nI (by omega) (by omega)
    have hb2 : bt 0 9 (nI (i % 10)) := bt_nI (by omega) (by omega)
    have C := ((((((a1.set3 (k := dn) (nI (i / 10))).set4 (k := dn) (nI (i % 10))).set5 (k := dn) b).set6 (k := dn) (nI dn)).set7 (k := dn) 0).set8 (k := 3) (by decide) (nI (dn + 1)))
    have M := ((((((a2.kd hlt (nI (i / 10))).mm hlt (nI (i % 10))).set5 hlt b).lo hlt (nI dn)).set7 hlt 0).dn (nI (dn + 1)))
    have B := ((((((a3.set3 (k := dn) hb1).set4 (k := dn) hb2).set5 (k := dn) (bt_of (hi := 9) h2 (by decide))).set6 (k := dn) (v := nI dn) (bt_nI (by omega) (by omega))).set7 (k := dn) (v := 0) ⟨by decide, by decide⟩).set83 (dn' := dn + 1) (by omega))
    refine ⟨_, _, _, rfl, rfl, Rel.go n0 rest ?_ ?_ C M B ?_ ?_⟩
    · exact ((((((FC.rf σ).tr (FC.u (by omega) _)).tr (FC.u (by omega) _)).tr (FC.u (by omega) _)).tr (FC.u (by omega) _)).tr (FC.u (by omega) _)).tr (FC.u (by omega) _)
    · exact ((((((FM.rf τ).tr (FM.u1 (by omega) (by omega) _)).tr (FM.u1 (by omega) (by omega) _)).tr (FM.u1 (by omega) (by omega) _)).tr (FM.u1 (by omega) (by omega) _)).tr (FM.u1 (by omega) (by omega) _)).tr (FM.u1 (by omega) (by omega) _)
    · exact (((((a5.u2c (by decide) _).u2c (by decide) _).u2c (by decide) _).u2c (by decide) _).u2c (by decide) _).u2c (by decide) _
    · exact (((((a6.u1 (by omega) (by omega) _).u1 (by omega) (by omega) _).u1 (by omega) (by omega) _).u1 (by omega) (by omega) _).u1 (by omega) (by omega) _).u1 (by omega) (by omega) _
theorem op_change {σ τ : St} {m : Nat} (r : Rel σ τ m) (a b c : Int32) : OK2 (fX8_change a b c σ) (fX9_change a b c τ) m := by
  have r0 := r
  obtain ⟨h, T, dn, n0, rest⟩ := r
  obtain ⟨a1, a2, a3, a4, a5, a6, a7, a8⟩ := id n0
  have e12 : σ 2 12 = nI dn := by rw [a1.2.2.2.2, a3.d3]
  have e2 : τ 1 2 = nI dn := by rw [a2.1.2.1, a3.d3]
  unfold fX8_change fX9_change
  simp only [jn, c_isDiner e12, c_within, c_isKnown, m_isDiner e2, m_in, bd2_s, gi0, bd2_eta]
  by_cases h1 : 0 ≤ a ∧ a ≤ nI dn - 1
  · simp only [if_pos h1]
    obtain ⟨k, hk, hk8, rfl⟩ := rgd a3.dn h1
    by_cases b0 : b = 0
    · subst b0
      rw [if_pos (by decide), if_pos rfl, if_pos rfl]
      refine ok_if (σ := σ) (τ := τ) (fun h3 => ?_) (fun _ => ok_e1 r0)
      rw [replaced_eq (i := k) rfl (by omega) (by decide), becomes_eq (x := 47 + 5 * nI k + 2 + 0) (i := 47 + 5 * k + 2) (by rw [l47, l5, l2, pk_mul, nI_add, nI_add, show (0 : Int32) = nI 0 from rfl, nI_add]) (by omega)]
      exact ⟨_, _, _, rfl, by rw [(a2.2.2.2 k hk8).2.2.1, a1.1.2.2.2.2.2.1 k hk8], Rel.go n0 rest (FC.u (by omega) _) (FM.u1 (by omega) (by omega) _) (a1.set5 (k := k) c) (a2.set5 hk8 c) (a3.set5 (bt_of (hi := 9) h3 (by decide))) (a5.u2c (by decide) _) (a6.u1 (by omega) (by omega) _)⟩
    · rw [if_neg b0, if_neg b0]
      by_cases b1 : b = 1
      · subst b1
        rw [if_pos (by decide), if_pos rfl, if_pos rfl]
        refine ok_if (σ := σ) (τ := τ) (fun h3 => ?_) (fun _ => ok_e1 r0)
        rw [replaced_eq (i := k) rfl (by omega) (by decide), becomes_eq (x := 47 + 5 * nI k + 2 + 1) (i := 47 + 5 * k + 3) (by rw [l47, l5, l2, l1, pk_mul, nI_add, nI_add, nI_add]) (by omega)]
        exact ⟨_, _, _, rfl, by rw [(a2.2.2.2 k hk8).2.2.2.1, a1.1.2.2.2.2.2.2.1 k hk8], Rel.go n0 rest (FC.u (by omega) _) (FM.u1 (by omega) (by omega) _) (a1.set6 (k := k) c) (a2.lo hk8 c) (a3.set6 (bt_of (hi := 7) h3 (by decide))) (a5.u2c (by decide) _) (a6.u1 (by omega) (by omega) _)⟩
      · rw [if_neg b1, if_neg b1]
        by_cases b2 : b = 2
        · subst b2
          rw [if_pos (by decide), if_pos rfl]
          simp only [if_pos (show (0 : Int32) = 0 from rfl), if_neg (show ¬ (1 : Int32) = 0 by decide)]
          refine ok_if (σ := σ) (τ := τ) (fun h3 => ?_) (fun _ => ok_e1 r0)
          rw [replaced_eq (i := k) rfl (by omega) (by decide), becomes_eq (x := 47 + 5 * nI k + 2 + 2) (i := 47 + 5 * k + 4) (by rw [l47, l5, l2, pk_mul, nI_add, nI_add, nI_add]) (by omega)]
          exact ⟨_, _, _, rfl, by rw [(a2.2.2.2 k hk8).2.2.2.2, a1.1.2.2.2.2.2.2.2 k hk8], Rel.go n0 rest (FC.u (by omega) _) (FM.u1 (by omega) (by omega) _) (a1.set7 (k := k) c) (a2.set7 hk8 c) (a3.set7 (bt_of (hi := 99) h3 (by decide))) (a5.u2c (by decide) _) (a6.u1 (by omega) (by omega) _)⟩
        · rw [if_neg b2, if_neg (fun q => by
            obtain ⟨w, hw, -, e⟩ := rg 2 q (by decide)
            rcases (show w = 0 ∨ w = 1 ∨ w = 2 by omega) with rfl | rfl | rfl
            · exact b0 e
            · exact b1 e
            · exact b2 e)]
          first | exact ok_e1 r0 | (rw [if_pos trivial]; exact ok_e1 r0) | (simp only [if_true]; exact ok_e1 r0)
  · simp only [if_neg h1]
    have : ∀ X Y : Option (Int32 × St), X = fX9_errs (-1000000001) τ → OK2 (fX8_error 1 σ) X m := fun X _ e => by rw [e]; exact ok_e1 r0
    refine this _ none ?_
    repeat' split
    all_goals rfl
theorem op_become {σ τ : St} {m : Nat} (r : Rel σ τ m) (a b : Int32) : OK2 (fX8_become a b σ) (fX9_become a b τ) m := by
  have r0 := r
  obtain ⟨h, T, dn, n0, rest⟩ := r
  obtain ⟨a1, a2, a3, a4, a5, a6, a7, a8⟩ := id n0
  have e12 : σ 2 12 = nI dn := by rw [a1.2.2.2.2, a3.d3]
  have e2 : τ 1 2 = nI dn := by rw [a2.1.2.1, a3.d3]
  unfold fX8_become fX9_become
  simp only [jn, c_isDiner e12, c_isKindAndM, m_isDiner e2, m_in, bd2_s, gi0, bd2_eta]
  refine ok_if (σ := σ) (τ := τ) (fun h1 => ok_if (σ := σ) (τ := τ) (fun h2 => ?_) (fun _ => ok_e1 r0)) (fun _ => ok_e1 r0)
  obtain ⟨k, hk, hk8, rfl⟩ := rgd a3.dn h1
  obtain ⟨i, hi, -, rfl⟩ := rg 69 h2 (by decide)
  rw [ast_i hk8 (by decide), bd1_s, replaced_eq (i := k) rfl (by omega) (by decide), puts_eq (x := 1) (w := 1) rfl hk8 (by decide), bd1_s, becomes_eq (x := 47 + 5 * nI k) (i := 47 + 5 * k) (by rw [l47, l5, pk_mul, nI_add]) (by omega), u2_ne (by decide), u2_slot (by omega), div10 hi, rem10 hi]
  have hb1 : bt 0 6 (nI (i / 10)) := bt_nI (by omega) (by omega)
  have hb2 : bt 0 9 (nI (i % 10)) := bt_nI (by omega) (by omega)
  exact ⟨_, _, _, rfl, by rw [(a2.2.2.2 k hk8).1, a1.1.2.2.2.1 k hk8], Rel.go n0 rest ((FC.u (by omega) _).tr (FC.u (by omega) _)) ((FM.u1 (by omega) (by omega) _).tr (FM.u1 (by omega) (by omega) _)) ((a1.set4 (k := k) _).set3 (k := k) _) ((a2.mm hk8 _).kd hk8 _) ((a3.set4 hb2).set3 hb1) ((a5.u2c (by decide) _).u2c (by decide) _) ((a6.u1 (by omega) (by omega) _).u1 (by omega) (by omega) _)⟩
def und (i j : Nat) : Bool := i == j || j == 0 || (i == 4 && j == 1) || (i == 5 && j == 2) || (i == 6 && j == 3)
theorem under_eq {i j : Nat} (hi : i < 7) (hj : j < 7) (s : St) : fX1_isUnder (nI i) (nI j) s = some (if und i j = true then 1 else 0, s) := by
  rcases (show i = 0 ∨ i = 1 ∨ i = 2 ∨ i = 3 ∨ i = 4 ∨ i = 5 ∨ i = 6 by omega) with rfl | rfl | rfl | rfl | rfl | rfl | rfl <;> rcases (show j = 0 ∨ j = 1 ∨ j = 2 ∨ j = 3 ∨ j = 4 ∨ j = 5 ∨ j = 6 by omega) with rfl | rfl | rfl | rfl | rfl | rfl | rfl <;> rfl
theorem as32_eq {i j : Nat} (hi : i < 7) (hj : j < 7) (a : Int32) (s : St) : fX9_as_32 a (nI j) FU (nI i) s = some (if und i j = true then nI j else -1, s) := by
  rcases (show i = 0 ∨ i = 1 ∨ i = 2 ∨ i = 3 ∨ i = 4 ∨ i = 5 ∨ i = 6 by omega) with rfl | rfl | rfl | rfl | rfl | rfl | rfl <;> rcases (show j = 0 ∨ j = 1 ∨ j = 2 ∨ j = 3 ∨ j = 4 ∨ j = 5 ∨ j = 6 by omega) with rfl | rfl | rfl | rfl | rfl | rfl | rfl <;> rfl
theorem op_as {σ τ : St} {m : Nat} (r : Rel σ τ m) (a b : Int32) : OK2 (fX8_as a b σ) (fX9_as a b τ) m := by
  have r0 := r
  obtain ⟨h, T, dn, n0, rest⟩ := r
  obtain ⟨a1, a2, a3, a4, a5, a6, a7, a8⟩ := id n0
  have e12 : σ 2 12 = nI dn := by rw [a1.2.2.2.2, a3.d3]
  have e2 : τ 1 2 = nI dn := by rw [a2.1.2.1, a3.d3]
  unfold fX8_as fX9_as
  simp only [jn, c_isDiner e12, c_within, m_isDiner e2, m_in, bd2_s, gi0, bd2_eta]
  refine ok_if (σ := σ) (τ := τ) (fun h1 => ok_if (σ := σ) (τ := τ) (fun h2 => ?_) (fun _ => ok_e1 r0)) (fun _ => ok_e1 r0)
  obtain ⟨k, hk, hk8, rfl⟩ := rgd a3.dn h1
  obtain ⟨j, hj, -, rfl⟩ := rg 6 h2 (by decide)
  obtain ⟨i, hi, -, ei⟩ := bt_ex (hi := 6) (a3.kd hk8)
  rw [ald_i hk8 (by decide), bd1_s, a1.1.2.2.2.1 k hk8, ei, under_eq (by omega) (by omega), bd2_s, gi0, its_eq (x := 0) (w := 0) rfl hk8 (by decide), bd2_s, show τ 1 (47 + 5 * k + 0) = h 3 k from (a2.2.2.2 k hk8).1, ei, as32_eq (by omega) (by omega), bd2_s]
  by_cases q : und i j = true
  · rw [if_pos q, if_pos q, if_pos (nI_pos' (by omega)), ald_i hk8 (by decide), bd1_s, its_eq (x := 1) (w := 1) rfl hk8 (by decide), (a2.2.2.2 k hk8).2.1, a1.1.2.2.2.2.1 k hk8]
    exact ok_some _ r0
  · rw [if_neg q, if_neg q, if_neg (by decide)]
    exact ok_e5 r0
theorem op_told {σ τ : St} {m : Nat} (r : Rel σ τ m) (a : Int32) : OK2 (fX8_told a σ) (fX9_told a τ) m := by
  unfold fX8_told fX9_told
  simp only [c_within, m_in, bd2_s, gi0, bd2_eta]
  refine ok_if (σ := σ) (τ := τ) (fun h1 => ?_) (fun _ => ok_e1 r)
  obtain ⟨i, hi, -, rfl⟩ := rg 5 ⟨i_le.mpr (by have := i_le.mp h1.1; have e0 : (0 : Int32).toInt = 0 := by decide
                                               have e1 : (1 : Int32).toInt = 1 := by decide
                                               omega), h1.2⟩ (by decide)
  rw [ald_i (by omega) (by decide), bd1_s, ald_i (by omega) (by decide), bd1_s]
  have r0 := r
  obtain ⟨h, T, dn, n0, z, rt, rw', rk, rd, rs, rv⟩ := r
  rw [rd i (by omega)]
  exact ok_some _ r0
theorem op_trace {σ τ : St} {m : Nat} (r : Rel σ τ m) (a : Int32) : OK2 (fX8_trace a σ) (fX9_trace a τ) m := by
  have r0 := r
  obtain ⟨h, T, dn, n0, z, rt, rw', rk, rd, rs, n, hn, e1, e2, e3⟩ := r
  unfold fX8_trace fX9_trace
  simp only [c_within, m_in, bd2_s, gi0, bd2_eta]
  rw [e1, e2]
  refine ok_if (σ := σ) (τ := τ) (fun h1 => ?_) (fun _ => ok_e2 r0)
  have hx : ∃ i, i < n ∧ a = nI i := by
    have q1 := i_le.mp h1.1
    have q2 := i_le.mp h1.2
    rw [show (0 : Int32).toInt = 0 by decide] at q1
    rw [show (1 : Int32) = nI 1 from rfl, pk_sub_toInt (by omega) (by decide)] at q2
    have e4 : a.toInt.toNat < 2 ^ 31 := by omega
    exact ⟨a.toInt.toNat, by omega, i_eq.mpr (by rw [nI_toInt e4]; omega)⟩
  obtain ⟨i, hi, rfl⟩ := hx
  rw [ald_i (by omega) (by decide), bd1_s, ald_i (by omega) (by decide), bd1_s, e3 i hi]
  exact ok_some _ r0
/-- sums -/
def sm (f : Nat → Int32) : Nat → Int32
  | 0 => 0
  | n + 1 => sm f n + f n
theorem c_grief4 {h : Hs} {σ : St} {b : Nat} {D : Int} {dn : Nat} (hH : CH σ b h) (hB : HB D dn h) : ∀ (n k f : Nat), k + n = dn → n < f → fX0_griefOfAll_4 b f (sm (h 5) k) (nI k) σ = some (sm (h 5) dn, σ)
  | n, k, 0, _, hf => absurd hf (Nat.not_lt_zero _)
  | 0, k, f + 1, hk, _ => by
    have : k = dn := by omega
    subst this
    rw [fX0_griefOfAll_4, hH.2.2.2.2, hB.d3, if_pos (nI_le (Nat.le_refl _) (by have := hB.dn; omega))]
  | n + 1, k, f + 1, hk, hf => by
    have := hB.dn
    rw [fX0_griefOfAll_4, hH.2.2.2.2, hB.d3, if_neg (nI_ge (by omega) (by omega)), ald_i (by omega) (by decide), bd1_s, hH.1.2.2.2.2.2.1 k (by omega), nI_1]
    exact c_grief4 hH hB n (k + 1) f (by omega) (by omega)
theorem c_known4 {h : Hs} {σ : St} {b : Nat} {D : Int} {dn : Nat} (hH : CH σ b h) (hB : HB D dn h) : ∀ (n k f : Nat), k + n = dn → n < f → fX0_knownOfAll_4 b f (sm (h 7) k) (nI k) σ = some (sm (h 7) dn, σ)
  | n, k, 0, _, hf => absurd hf (Nat.not_lt_zero _)
  | 0, k, f + 1, hk, _ => by
    have : k = dn := by omega
    subst this
    rw [fX0_knownOfAll_4, hH.2.2.2.2, hB.d3, if_pos (nI_le (Nat.le_refl _) (by have := hB.dn; omega))]
  | n + 1, k, f + 1, hk, hf => by
    have := hB.dn
    rw [fX0_knownOfAll_4, hH.2.2.2.2, hB.d3, if_neg (nI_ge (by omega) (by omega)), ald_i (by omega) (by decide), bd1_s, hH.1.2.2.2.2.2.2.2 k (by omega), nI_1]
    exact c_known4 hH hB n (k + 1) f (by omega) (by omega)
theorem c_sweet4 {h : Hs} {σ : St} {b : Nat} (hH : CH σ b h) : ∀ (n k f : Nat), k + n = 16 → n < f → fX0_sweetOfAll_4 b f (sm (h 0) k) (nI k) σ = some (sm (h 0) 16, σ)
  | n, k, 0, _, hf => absurd hf (Nat.not_lt_zero _)
  | 0, k, f + 1, hk, _ => by
    have : k = 16 := by omega
    subst this
    rw [fX0_sweetOfAll_4, if_pos (show (16 : Int32) ≤ nI 16 by decide)]
  | n + 1, k, f + 1, hk, hf => by
    rw [fX0_sweetOfAll_4, if_neg (show ¬ (16 : Int32) ≤ nI k from nI_ge (b := 16) (by omega) (by decide)), ald_i (by omega) (by decide), bd1_s, hH.1.1 k (by omega), nI_1]
    exact c_sweet4 hH n (k + 1) f (by omega) (by omega)
theorem m_sum4 {s : St} {w dn : Nat} (hw : w < 5) (hd : dn ≤ 8) (h2 : s 1 2 = nI dn) {g : Nat → Int32} (hg : ∀ k, k < dn → s 1 (47 + 5 * k + w) = g k) : ∀ (n k f : Nat), k + n = dn → n < f → fX9_sumOf_4 (nI w) f (sm g k) (nI k) s = some (sm g dn, s)
  | n, k, 0, _, hf => absurd hf (Nat.not_lt_zero _)
  | 0, k, f + 1, hk, _ => by
    have : k = dn := by omega
    subst this
    rw [fX9_sumOf_4, ald1 (x := 2) (i := 2) rfl (by decide), bd1_s, h2, if_pos (nI_le (Nat.le_refl _) (by omega))]
  | n + 1, k, f + 1, hk, hf => by
    rw [fX9_sumOf_4, ald1 (x := 2) (i := 2) rfl (by decide), bd1_s, h2, if_neg (nI_ge (by omega) (by omega)), its_eq (w := w) rfl (by omega) hw, bd2_s, hg k (by omega), nI_1]
    exact m_sum4 hw hd h2 hg n (k + 1) f (by omega) (by omega)
theorem m_sum {s : St} {w dn : Nat} {x : Int32} (hx : x = nI w) (hw : w < 5) (hd : dn ≤ 8) (h2 : s 1 2 = nI dn) {g : Nat → Int32} (hg : ∀ k, k < dn → s 1 (47 + 5 * k + w) = g k) : fX9_sumOf x s = some (sm g dn, s) := by
  subst hx
  have e := m_sum4 hw hd h2 hg dn 0 FU (by omega) (FU_lt (by omega))
  unfold fX9_sumOf
  rw [show fX9_sumOf_4 (nI w) FU 0 0 s = some (sm g dn, s) from e, bd2_s]
theorem m_sweets4 {h : Hs} {s : St} (hH : MH (s 1) h) : ∀ (n k f : Nat), k + n = 16 → n < f → fX9_sweetOfAll_4 f (sm (h 0) k) (nI k) s = some (sm (h 0) 16, s)
  | n, k, 0, _, hf => absurd hf (Nat.not_lt_zero _)
  | 0, k, f + 1, hk, _ => by
    have : k = 16 := by omega
    subst this
    rw [fX9_sweetOfAll_4, if_pos (show (16 : Int32) ≤ nI 16 by decide)]
  | n + 1, k, f + 1, hk, hf => by
    rw [fX9_sweetOfAll_4, if_neg (show ¬ (16 : Int32) ≤ nI k from nI_ge (b := 16) (by omega) (by decide)), l9, l2, pk_mul, nI_add, ald_i (by omega) (by decide), bd1_s, (hH.2.1 k (by omega)).1, nI_1]
    exact m_sweets4 hH n (k + 1) f (by omega) (by omega)
theorem c_known {h : Hs} {σ : St} {b : Nat} {D : Int} {dn : Nat} (hH : CH σ b h) (hB : HB D dn h) : fX0_knownOfAll b σ = some (sm (h 7) dn, σ) := by
  have e := c_known4 hH hB dn 0 FU (by omega) (FU_lt (by have := hB.dn; omega))
  unfold fX0_knownOfAll
  rw [show fX0_knownOfAll_4 b FU 0 0 σ = some (sm (h 7) dn, σ) from e, bd2_s]
theorem c_grief {h : Hs} {σ : St} {b : Nat} {D : Int} {dn : Nat} (hH : CH σ b h) (hB : HB D dn h) : fX0_griefOfAll b σ = some (sm (h 5) dn, σ) := by
  have e := c_grief4 hH hB dn 0 FU (by omega) (FU_lt (by have := hB.dn; omega))
  unfold fX0_griefOfAll
  rw [show fX0_griefOfAll_4 b FU 0 0 σ = some (sm (h 5) dn, σ) from e, bd2_s]
theorem c_sweets {h : Hs} {σ : St} {b : Nat} (hH : CH σ b h) : fX0_sweetOfAll b σ = some (sm (h 0) 16, σ) := by
  have e := c_sweet4 hH 16 0 FU (by omega) (FU_lt (by omega))
  unfold fX0_sweetOfAll
  rw [show fX0_sweetOfAll_4 b FU 0 0 σ = some (sm (h 0) 16, σ) from e, bd2_s]
theorem m_sweets {h : Hs} {s : St} (hH : MH (s 1) h) : fX9_sweetOfAll s = some (sm (h 0) 16, s) := by
  have e := m_sweets4 hH 16 0 FU (by omega) (FU_lt (by omega))
  unfold fX9_sweetOfAll
  rw [show fX9_sweetOfAll_4 FU 0 0 s = some (sm (h 0) 16, s) from e, bd2_s]
theorem op_count {σ τ : St} {m : Nat} (r : Rel σ τ m) (a : Int32) : OK2 (fX8_count a σ) (fX9_count a τ) m := by
  have r0 := r
  obtain ⟨h, T, dn, ⟨a1, a2, a3, a4, a5, a6, a7, a8⟩, z, ⟨⟨tn, t1, t2, t3, t4⟩, t5⟩, ⟨wn, w1, w2, w3, w4⟩, rk, rd, rs, vn, v1, v2, v3, v4⟩ := r
  have e2 : τ 1 2 = nI dn := by rw [a2.1.2.1, a3.d3]
  unfold fX8_count fX9_count
  simp only [bd2_eta, c_grief a1 a3, c_known a1 a3, c_sweets a1, m_sweets a2, m_sum (x := 2) (w := 2) rfl (by decide) a3.dn e2 (g := h 5) (fun k hk => (a2.2.2.2 k (by have := a3.dn; omega)).2.2.1), m_sum (x := 4) (w := 4) rfl (by decide) a3.dn e2 (g := h 7) (fun k hk => (a2.2.2.2 k (by have := a3.dn; omega)).2.2.2.2), ald1 (x := 2) (i := 2) rfl (by decide), ald1 (x := 0) (i := 0) rfl (by decide), ald1 (x := 3) (i := 3) rfl (by decide), ald1 (x := 4) (i := 4) rfl (by decide), ald1 (x := 5) (i := 5) rfl (by decide), ald1 (x := 6) (i := 6) rfl (by decide), ald1 (x := 1) (i := 1) rfl (by decide), bd1_s]
  refine ok_if (σ := σ) (τ := τ) (fun _ => ok_some2 (by rw [a1.2.2.2.2, a2.1.2.1]) r0) (fun _ => ?_)
  refine ok_if (σ := σ) (τ := τ) (fun _ => ok_some2 (by rw [a1.2.2.2.1, a2.1.1]) r0) (fun _ => ?_)
  refine ok_if (σ := σ) (τ := τ) (fun _ => ok_some2 (by rw [a1.2.1, a2.1.2.2.1]) r0) (fun _ => ?_)
  refine ok_if (σ := σ) (τ := τ) (fun _ => ok_some2 (by rw [a1.2.2.1, a2.1.2.2.2]) r0) (fun _ => ?_)
  refine ok_if (σ := σ) (τ := τ) (fun _ => ok_some _ r0) (fun _ => ?_)
  refine ok_if (σ := σ) (τ := τ) (fun _ => ok_some _ r0) (fun _ => ?_)
  refine ok_if (σ := σ) (τ := τ) (fun _ => ok_some _ r0) (fun _ => ?_)
  refine ok_if (σ := σ) (τ := τ) (fun _ => ok_some2 (by rw [t2, t3]) r0) (fun _ => ?_)
  refine ok_if (σ := σ) (τ := τ) (fun _ => ok_some2 (by rw [w2, w3]) r0) (fun _ => ?_)
  refine ok_if (σ := σ) (τ := τ) (fun _ => ok_some2 (by rw [v2, v3]) r0) (fun _ => ?_)
  exact ok_if (σ := σ) (τ := τ) (fun _ => ok_some2 z r0) (fun _ => ok_e1 r0)
