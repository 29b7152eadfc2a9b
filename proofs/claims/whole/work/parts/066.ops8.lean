theorem FrG.M {s t : St} (p : FrG s t) (h : t 0 16 = s 0 16) : FM s t := ⟨fun k h1 _ _ h4 => p.1 k h1 h4, fun j _ => by rw [p.1 1 (by decide) (by decide)], fun j hj => p.2 j (by omega)⟩
theorem FrG.M' {s t : St} (p : FrG s t) : FM s t := ⟨fun k h1 _ _ h4 => p.1 k h1 h4, fun j _ => by rw [p.1 1 (by decide) (by decide)], fun j hj => p.2 j (by omega)⟩
theorem op_ofDiner {σ τ : St} {m : Nat} (r : Rel σ τ m) (a b : Int32) : OK2 (fX8_ofDiner a b σ) (fX9_ofDiner a b τ) m := by
  have r0 := r
  obtain ⟨h, T, dn, n0, rest⟩ := r
  obtain ⟨a1, a2, a3, a4, a5, a6, a7, a8⟩ := id n0
  have e12 : σ 2 12 = nI dn := by rw [a1.2.2.2.2, a3.d3]
  have e2 : τ 1 2 = nI dn := by rw [a2.1.2.1, a3.d3]
  unfold fX8_ofDiner fX9_ofDiner
  simp only [jn, c_isDiner e12, c_within, m_isDiner e2, m_in, bd2_s, gi0, bd2_eta]
  refine ok_if (σ := σ) (τ := τ) (fun h1 => ok_if (σ := σ) (τ := τ) (fun h2 => ?_) (fun _ => ok_e1 r0)) (fun _ => ok_e1 r0)
  obtain ⟨k, hk, hk8, rfl⟩ := rgd a3.dn h1
  obtain ⟨w, hw, -, rfl⟩ := rg 11 h2 (by decide)
  by_cases w0 : w = 0
  · subst w0
    rw [if_pos (show nI 0 = (0 : Int32) from rfl), if_neg (show ¬ (5 : Int32) ≤ nI 0 by decide), ald_i hk8 (by decide), bd1_s, its_eq (w := 0) rfl hk8 (by decide)]
    exact ⟨_, _, _, rfl, by rw [Nat.add_zero, (a2.2.2.2 k hk8).1, show σ 6 k = h 3 k from a1.1.2.2.2.1 k hk8], r0⟩
  by_cases w1 : w = 1
  · subst w1
    rw [if_neg (show ¬ nI 1 = (0 : Int32) by decide), if_pos (show nI 1 = (1 : Int32) from rfl), if_neg (show ¬ (5 : Int32) ≤ nI 1 by decide), ald_i hk8 (by decide), bd1_s, its_eq (w := 1) rfl hk8 (by decide)]
    exact ⟨_, _, _, rfl, by rw [(a2.2.2.2 k hk8).2.1, show σ 7 k = h 4 k from a1.1.2.2.2.2.1 k hk8], r0⟩
  by_cases w2 : w = 2
  · subst w2
    rw [if_neg (show ¬ nI 2 = (0 : Int32) by decide), if_neg (show ¬ nI 2 = (1 : Int32) by decide), if_pos (show nI 2 = (2 : Int32) from rfl), if_neg (show ¬ (5 : Int32) ≤ nI 2 by decide), ald_i hk8 (by decide), bd1_s, its_eq (w := 2) rfl hk8 (by decide)]
    exact ⟨_, _, _, rfl, by rw [(a2.2.2.2 k hk8).2.2.1, show σ 8 k = h 5 k from a1.1.2.2.2.2.2.1 k hk8], r0⟩
  by_cases w3 : w = 3
  · subst w3
    rw [if_neg (show ¬ nI 3 = (0 : Int32) by decide), if_neg (show ¬ nI 3 = (1 : Int32) by decide), if_neg (show ¬ nI 3 = (2 : Int32) by decide), if_pos (show nI 3 = (3 : Int32) from rfl), if_neg (show ¬ (5 : Int32) ≤ nI 3 by decide), ald_i hk8 (by decide), bd1_s, its_eq (w := 3) rfl hk8 (by decide)]
    exact ⟨_, _, _, rfl, by rw [(a2.2.2.2 k hk8).2.2.2.1, show σ 9 k = h 6 k from a1.1.2.2.2.2.2.2.1 k hk8], r0⟩
  by_cases w4 : w = 4
  · subst w4
    rw [if_neg (show ¬ nI 4 = (0 : Int32) by decide), if_neg (show ¬ nI 4 = (1 : Int32) by decide), if_neg (show ¬ nI 4 = (2 : Int32) by decide), if_neg (show ¬ nI 4 = (3 : Int32) by decide), if_pos (show nI 4 = (4 : Int32) from rfl), if_neg (show ¬ (5 : Int32) ≤ nI 4 by decide), ald_i hk8 (by decide), bd1_s, its_eq (w := 4) rfl hk8 (by decide)]
    exact ⟨_, _, _, rfl, by rw [(a2.2.2.2 k hk8).2.2.2.2, show σ 10 k = h 7 k from a1.1.2.2.2.2.2.2.2 k hk8], r0⟩
  have ne : ∀ c : Nat, c < 2 ^ 31 → w ≠ c → ¬ nI w = nI c := fun c hc q z => q ((nI_eq (by omega) hc).mp z)
  rw [if_neg (show ¬ nI w = (0 : Int32) from ne 0 (by decide) w0), if_neg (show ¬ nI w = (1 : Int32) from ne 1 (by decide) w1), if_neg (show ¬ nI w = (2 : Int32) from ne 2 (by decide) w2), if_neg (show ¬ nI w = (3 : Int32) from ne 3 (by decide) w3), if_neg (show ¬ nI w = (4 : Int32) from ne 4 (by decide) w4), if_pos (show (5 : Int32) ≤ nI w from nI_le (a := 5) (by omega) (by omega))]
  by_cases w5 : w = 5
  · subst w5
    rw [if_pos (show nI 5 = (5 : Int32) from rfl), if_pos (show nI 5 = (5 : Int32) from rfl), mendsOf_eq a1 hk8, m_mending a2 hk8]
    exact ok_some _ r0
  · rw [if_neg (show ¬ nI w = (5 : Int32) from ne 5 (by decide) w5), if_neg (show ¬ nI w = (5 : Int32) from ne 5 (by decide) w5)]
    have es : nI w - 6 = nI (w - 6) := by
      rcases (show w = 6 ∨ w = 7 ∨ w = 8 ∨ w = 9 ∨ w = 10 ∨ w = 11 by omega) with rfl | rfl | rfl | rfl | rfl | rfl <;> decide
    rw [es]
    obtain ⟨σ1, e1, c1, f1⟩ := leftOf_eq a4 a1 a3 a5 (c := w - 6) (by omega) hk8
    obtain ⟨τ1, g1, m1, t1⟩ := m_left a2 a3 a6 (c := w - 6) (x := nI (w - 6)) rfl (by omega) hk8
    rw [e1, g1]
    exact ok_some _ (Rel.go n0 rest f1.C t1.M' (a1.frL hH_2 f1) (by rw [t1.1 1 (by decide) (by decide)]; exact a2) a3 c1 m1)
theorem op_law {σ τ : St} {m : Nat} (r : Rel σ τ m) (a b c d : Int32) : OK2 (fX8_law a b c d σ) (fX9_law a b c d τ) m := by
  have r0 := r
  obtain ⟨h, T, dn, n0, rest⟩ := r
  obtain ⟨a1, a2, a3, a4, a5, a6, a7, a8⟩ := id n0
  unfold fX8_law fX9_law
  simp only [c_within, m_in, bd2_s, gi0, bd2_eta]
  refine ok_if (σ := σ) (τ := τ) (fun h1 => ?_) (fun _ => ok_e1 r0)
  obtain ⟨u, hu, -, rfl⟩ := rg 1 h1 (by decide)
  obtain ⟨σ1, e1, f1⟩ := a5.1.at u b c d hu
  obtain ⟨τ1, g1, m1, t1⟩ := lawOf_eq a6 hu (x := nI u) rfl b c d
  rw [e1, g1]
  exact ok_some _ (Rel.go n0 rest (fun k _ _ h3 _ => f1 k h3) t1.M' (a1.fr (fun k hk => f1 _ (by omega))) (by rw [t1.1 1 (by decide) (by decide)]; exact a2) a3 (a5.fr (f1 _ (by decide)) (f1 _ (by decide)) (f1 _ (by decide)) (f1 _ (by decide)) (f1 _ (by decide))) m1)
/-! what waits, and the tape -/
theorem rl14 : rl 14 = 20 := rfl
theorem rl12 : rl 12 = 50 := rfl
theorem op_tell {σ τ : St} {m : Nat} (r : Rel σ τ m) (a : Int32) : OK2 (fX8_tell a σ) (fX9_tell a τ) m := by
  have r0 := r
  obtain ⟨h, T, dn, n0, z, rt, rw', rk, rd, rs, rv⟩ := r
  obtain ⟨N, hN, w1, w2, w3⟩ := id rw'
  unfold fX8_tell fX9_tell
  rw [ald1 (x := 6) (i := 6) rfl (by decide), bd1_s, w1, w2]
  by_cases hn : N = 20
  · subst hn
    rw [if_neg (show ¬ nI 20 < (20 : Int32) by decide), if_pos (show nI 20 = (20 : Int32) from rfl)]
    simp only [bd2_eta]
    exact ok_e4 r0
  · rw [if_pos (show nI N < (20 : Int32) from (nI_ltI (b := 20) (by omega) (by decide)).mpr (by omega)), if_neg (show ¬ nI N = (20 : Int32) from fun q => hn ((nI_eq (b := 20) (by omega) (by decide)).mp q))]
    unfold fX4_add
    rw [rl14, w1, if_neg (show ¬ Int32.ofNat 20 ≤ nI N from nI_ge (b := 20) (by omega) (by decide)), ast_i (show N < 20 by omega) (by decide), bd1_s, ptf, bd1_s, bd1_s, u2_ne (show (14 : Nat) ≠ 14 + 1 by decide), w1, nI_1]
    rw [bd1_s, ast1 (x := 137 + nI N) (i := 137 + N) (by rw [show (137 : Int32) = nI 137 from rfl, nI_add]) (by omega), bd1_s, ald1 (x := 6) (i := 6) rfl (by decide), bd1_s, u2_slot (show (6 : Nat) ≠ 137 + N by omega), w2, ast1 (x := 6) (i := 6) rfl (by decide), bd1_s, ald1 (x := 6) (i := 6) rfl (by decide), bd1_s, nI_1, u2_same, u2_same]
    refine ok_some _ ⟨h, T, dn, n0.fr (fun k hk => by rw [u2_ne (by omega), u2_ne (by omega)]) (fun j hj _ _ h6 => by rw [u2_slot h6, u2_slot (by omega)]) (by rw [u2_ne (by decide), u2_ne (by decide)]), ?_, rt.fr (by rw [u2_ne (by decide), u2_ne (by decide)]) (by rw [u2_ne (by decide), u2_ne (by decide)]) (fun j hj => by rw [u2_slot (by omega), u2_slot (by omega)]), ?_, rk.fr (Nat.le_refl _) (by rw [u2_ne (by decide), u2_ne (by decide)]) (fun k hk => by rw [u2_ne (by omega), u2_ne (by omega)]) (by rw [u2_ne (by decide), u2_ne (by decide)]) (by rw [u2_ne (by decide), u2_ne (by decide)]) (by rw [u2_ne (by decide), u2_ne (by decide)]), rd.fr (by rw [u2_ne (by decide), u2_ne (by decide)]) (by rw [u2_ne (by decide), u2_ne (by decide)]), rs.fr (fun k hk => by rw [u2_ne (by omega), u2_ne (by omega)]) (by rw [u2_ne (by decide), u2_ne (by decide)]) (by rw [u2_ne (by decide), u2_ne (by decide)]) (by rw [u2_ne (by decide), u2_ne (by decide)]), rv.fr (by rw [u2_ne (by decide), u2_ne (by decide)]) (by rw [u2_ne (by decide), u2_ne (by decide)]) (by rw [u2_ne (by decide), u2_ne (by decide)]) (by rw [u2_ne (by decide), u2_ne (by decide)])⟩
    · rw [u2_ne (by decide), u2_ne (by decide), u2_slot (by decide), u2_slot (by omega)]; exact z
    · refine ⟨N + 1, by omega, by rw [u2_same], by rw [u2_same], fun i hi => ?_⟩
      show u2 (u2 σ (14 + 1) N a) 14 1 (nI (N + 1)) 15 i = u2 (u2 τ 1 (137 + N) a) 1 6 (nI (N + 1)) 1 (137 + i)
      rw [u2_ne (by decide), u2_slot (show 137 + i ≠ 6 by omega)]
      by_cases q : i = N
      · subst q; rw [show (15 : Nat) = 14 + 1 from rfl, u2_same, u2_same]
      · rw [u2_slot q, u2_slot (by omega)]; exact w3 i (by omega)
theorem lus_bv (x : Int64) {i : Nat} (hi : i < 8) : (lus x (8 * nI i)).toBitVec = x.toBitVec >>> (8 * i) := by
  rcases (show i = 0 ∨ i = 1 ∨ i = 2 ∨ i = 3 ∨ i = 4 ∨ i = 5 ∨ i = 6 ∨ i = 7 by omega) with rfl | rfl | rfl | rfl | rfl | rfl | rfl | rfl <;> rfl
theorem lsr_bv (x : Int64) {i : Nat} (hi : i < 8) : (lsr x (8 * nI i)).toBitVec = x.toBitVec.sshiftRight (8 * i) := by
  rcases (show i = 0 ∨ i = 1 ∨ i = 2 ∨ i = 3 ∨ i = 4 ∨ i = 5 ∨ i = 6 ∨ i = 7 by omega) with rfl | rfl | rfl | rfl | rfl | rfl | rfl | rfl <;> rfl
theorem bits255 {w i : Nat} (hw : 8 ≤ w) : (BitVec.ofNat w 255).getLsbD i = decide (i < 8) := by
  rw [BitVec.getLsbD_ofNat, show (255 : Nat) = 2 ^ 8 - 1 by decide, Nat.testBit_two_pow_sub_one]
  by_cases h : i < 8
  · simp [h]; omega
  · simp [h]
theorem byt_eq (x : Int64) {i : Nat} (hi : i < 8) : ((lus x (8 * nI i)).toInt32) &&& 255 = ((lsr x (8 * nI i)) &&& 255).toInt32 := by
  rw [← Int32.toBitVec_inj, Int32.toBitVec_and, Int64.toBitVec_toInt32, Int64.toBitVec_toInt32, Int64.toBitVec_and, lus_bv x hi, lsr_bv x hi]
  refine BitVec.eq_of_getLsbD_eq (fun j hj => ?_)
  rw [BitVec.getLsbD_and, BitVec.getLsbD_signExtend, BitVec.getLsbD_signExtend, BitVec.getLsbD_and, BitVec.getLsbD_sshiftRight, BitVec.getLsbD_ushiftRight, show (255 : Int32).toBitVec = BitVec.ofNat 32 255 from rfl, show (255 : Int64).toBitVec = BitVec.ofNat 64 255 from rfl, bits255 (by decide), bits255 (by decide)]
  by_cases h : j < 8
  · simp [h, show j < 32 by omega, show j < 64 by omega, show 8 * i + j < 64 by omega, show ¬ 64 ≤ j by omega]
  · simp [h, show j < 64 by omega]
theorem byt_b (x : Int64) {i : Nat} (hi : i < 8) : bt 0 255 (((lus x (8 * nI i)).toInt32) &&& 255) := by
  have e : (((lus x (8 * nI i)).toInt32) &&& 255).toBitVec.toNat ≤ 255 := by
    rw [Int32.toBitVec_and, BitVec.toNat_and]
    exact Nat.and_le_right
  have e2 : (((lus x (8 * nI i)).toInt32) &&& 255) = nI (((lus x (8 * nI i)).toInt32) &&& 255).toBitVec.toNat := by
    rw [← Int32.toBitVec_inj]
    apply BitVec.eq_of_toNat_eq
    rw [pk_tn (by omega)]
  rw [e2]
  exact bt_nI (by omega) (by omega)
theorem tape_add {σ τ : St} {m N : Nat} {v : Int32} (r : Rel σ τ m) (hs : σ 12 1 = nI N) (hN : N < 50) (hv : bt 0 255 v) : ∃ σ' τ', fX4_add 12 v σ = some σ' ∧ Rel σ' τ' m ∧ σ' 12 1 = nI (N + 1) ∧ τ 1 5 = nI N ∧ τ' 1 5 = nI (N + 1) ∧ τ' = u2 (u2 τ 1 (87 + N) v) 1 5 (nI (N + 1)) := by
  obtain ⟨h, T, dn, n0, z, rt, rw', rk, rd, rs, rv⟩ := r
  obtain ⟨⟨N', hN', w1, w2, w3⟩, w4⟩ := id rt
  have : N' = N := (nI_eq (by omega) (by omega)).mp (w1.symm.trans hs)
  subst this
  refine ⟨u2 (u2 σ (12 + 1) N' v) 12 1 (nI (N' + 1)), u2 (u2 τ 1 (87 + N') v) 1 5 (nI (N' + 1)), ?_, ⟨h, T, dn, n0.fr (fun k hk => by rw [u2_ne (by omega), u2_ne (by omega)]) (fun j hj _ h5 _ => by rw [u2_slot h5, u2_slot (by omega)]) (by rw [u2_ne (by decide), u2_ne (by decide)]), ?_, ?_, rw'.fr (by rw [u2_ne (by decide), u2_ne (by decide)]) (by rw [u2_ne (by decide), u2_ne (by decide)]) (fun j hj => by rw [u2_slot (by omega), u2_slot (by omega)]), rk.fr (Nat.le_refl _) (by rw [u2_ne (by decide), u2_ne (by decide)]) (fun k hk => by rw [u2_ne (by omega), u2_ne (by omega)]) (by rw [u2_ne (by decide), u2_ne (by decide)]) (by rw [u2_ne (by decide), u2_ne (by decide)]) (by rw [u2_ne (by decide), u2_ne (by decide)]), rd.fr (by rw [u2_ne (by decide), u2_ne (by decide)]) (by rw [u2_ne (by decide), u2_ne (by decide)]), rs.fr (fun k hk => by rw [u2_ne (by omega), u2_ne (by omega)]) (by rw [u2_ne (by decide), u2_ne (by decide)]) (by rw [u2_ne (by decide), u2_ne (by decide)]) (by rw [u2_ne (by decide), u2_ne (by decide)]), rv.fr (by rw [u2_ne (by decide), u2_ne (by decide)]) (by rw [u2_ne (by decide), u2_ne (by decide)]) (by rw [u2_ne (by decide), u2_ne (by decide)]) (by rw [u2_ne (by decide), u2_ne (by decide)])⟩, ?_, w2, u2_same _ _ _ _, rfl⟩
  · unfold fX4_add
    rw [rl12, w1, if_neg (show ¬ Int32.ofNat 50 ≤ nI N' from nI_ge (b := 50) (by omega) (by decide)), ast_i (show N' < 50 by omega) (by decide), bd1_s, ptf, bd1_s, u2_ne (show (12 : Nat) ≠ 12 + 1 by decide), w1, nI_1]
  · rw [u2_ne (by decide), u2_ne (by decide), u2_slot (by decide), u2_slot (by omega)]; exact z
  · refine ⟨⟨N' + 1, by omega, u2_same _ _ _ _, u2_same _ _ _ _, fun i hi => ?_⟩, fun i hi => ?_⟩
    · show u2 (u2 σ (12 + 1) N' v) 12 1 (nI (N' + 1)) 13 i = u2 (u2 τ 1 (87 + N') v) 1 5 (nI (N' + 1)) 1 (87 + i)
      rw [u2_ne (by decide), u2_slot (show 87 + i ≠ 5 by omega)]
      by_cases q : i = N'
      · subst q; rw [show (13 : Nat) = 12 + 1 from rfl, u2_same, u2_same]
      · rw [u2_slot q, u2_slot (by omega)]; exact w3 i (by omega)
    · rw [u2_same, nI_clamp (by omega)] at hi
      rw [u2_slot (show 87 + i ≠ 5 by omega)]
      by_cases q : i = N'
      · subst q; rw [u2_same]; exact hv
      · rw [u2_slot (by omega)]; exact w4 i (by rw [w2, nI_clamp (by omega)]; omega)
  · rw [u2_same]
theorem feed_loop (x : Int64) {A m : Nat} (hA : A ≤ 8) : ∀ (n i f g N : Nat) (σ τ : St), i + n = A → n < f → n < g → N + n ≤ 50 → Rel σ τ m → σ 12 1 = nI N → τ 1 5 = nI N → ∃ σ' τ', fX8_feed_42 x (nI A) f (nI i) σ = some σ' ∧ fX9_feed_40 x (nI A) g (nI i) τ = some τ' ∧ Rel σ' τ' m ∧ σ' 12 1 = nI (N + n) ∧ τ' 1 5 = nI (N + n)
  | n, i, 0, _, _, _, _, _, hf, _, _, _, _, _ => absurd hf (Nat.not_lt_zero _)
  | n, i, _, 0, _, _, _, _, _, hg, _, _, _, _ => absurd hg (Nat.not_lt_zero _)
  | 0, i, f + 1, g + 1, N, σ, τ, hi, _, _, _, r, h1, h2 => by
    have : i = A := by omega
    subst this
    rw [fX8_feed_42, fX9_feed_40, if_pos (nI_le (Nat.le_refl _) (by omega)), if_pos (nI_le (Nat.le_refl _) (by omega))]
    exact ⟨σ, τ, rfl, rfl, r, h1, h2⟩
  | n + 1, i, f + 1, g + 1, N, σ, τ, hi, hf, hg, hN, r, h1, h2 => by
    obtain ⟨σ1, τ1, e1, r1, s1, -, s3, s4⟩ := tape_add r h1 (by omega) (byt_b x (i := i) (by omega))
    rw [fX8_feed_42, fX9_feed_40, if_neg (nI_ge (by omega) (by omega)), if_neg (nI_ge (by omega) (by omega)), e1, bd1_s, ald1 (x := 5) (i := 5) rfl (by decide), bd1_s, h2, ast1 (x := 87 + nI N) (i := 87 + N) (by rw [show (87 : Int32) = nI 87 from rfl, nI_add]) (by omega), bd1_s, ald1 (x := 5) (i := 5) rfl (by decide), bd1_s, u2_slot (show (5 : Nat) ≠ 87 + N by omega), h2, ast1 (x := 5) (i := 5) rfl (by decide), bd1_s, nI_1, nI_1, ← byt_eq x (show i < 8 by omega), ← s4]
    obtain ⟨σ2, τ2, f1, f2, f3, f4, f5⟩ := feed_loop x hA n (i + 1) f g (N + 1) σ1 τ1 (by omega) (by omega) (by omega) (by omega) r1 s1 s3
    exact ⟨σ2, τ2, f1, f2, f3, by rw [f4]; congr 1; omega, by rw [f5]; congr 1; omega⟩
theorem op_feed {σ τ : St} {m : Nat} (r : Rel σ τ m) (x : Int64) (a : Int32) : OK2 (fX8_feed x a σ) (fX9_feed x a τ) m := by
  have r0 := r
  obtain ⟨h, T, dn, n0, z, ⟨⟨N, hN, w1, w2, w3⟩, w4⟩, rest⟩ := r
  unfold fX8_feed fX9_feed
  simp only [c_within, m_in, bd2_s, gi0, bd2_eta]
  refine ok_if (σ := σ) (τ := τ) (fun h1 => ?_) (fun _ => ok_e1 r0)
  obtain ⟨A, hA1, hA, rfl⟩ := rg1 8 h1 (by decide)
  rw [ald1 (x := 5) (i := 5) rfl (by decide), bd1_s, w1, w2, nI_add]
  by_cases q : N + A ≤ 50
  · rw [if_pos (show nI (N + A) ≤ (50 : Int32) from nI_le q (by decide)), if_pos (show nI (N + A) ≤ (50 : Int32) from nI_le q (by decide))]
    obtain ⟨σ2, τ2, f1, f2, f3, f4, f5⟩ := feed_loop x hA A 0 FU FU N σ τ (by omega) (FU_lt (by omega)) (FU_lt (by omega)) q r0 w1 w2
    rw [show fX8_feed_42 x (nI A) FU 0 σ = _ from f1, show fX9_feed_40 x (nI A) FU 0 τ = _ from f2, bd1_s, bd1_s, ald1 (x := 5) (i := 5) rfl (by decide), bd1_s, f4, f5]
    exact ok_some _ f3
  · rw [if_neg (show ¬ nI (N + A) ≤ (50 : Int32) from nI_ge (a := 50) (b := N + A) (by omega) (by omega)), if_neg (show ¬ nI (N + A) ≤ (50 : Int32) from nI_ge (a := 50) (b := N + A) (by omega) (by omega))]
    exact ok_e4 r0
