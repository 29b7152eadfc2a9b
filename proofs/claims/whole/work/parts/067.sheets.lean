/-! sheets -/
theorem rld_i {i : Nat} (hi : i < 4) : rld 59 4 (nI i) = some (59 + 2 * i) := by
  unfold rld
  rw [if_pos (ixb_nI hi (by decide)), nI_clamp (by omega)]
theorem fill_loop {k N : Nat} (hN : N ≤ 2000) (v : Int32) : ∀ (n i f : Nat) (s : St), i + n = N → n < f → ∃ t, fJ7_fill_53178_5 k N v (nI N) f (nI i) s = some t ∧ (∀ q, q ≠ k → t q = s q) ∧ (∀ j, j < i → t k j = s k j) ∧ ∀ j, i ≤ j → j < N → t k j = v
  | n, i, 0, _, _, hf => absurd hf (Nat.not_lt_zero _)
  | 0, i, f + 1, s, hi, _ => by
    have : i = N := by omega
    subst this
    rw [fJ7_fill_53178_5, if_pos (nI_le (Nat.le_refl _) (by omega))]
    exact ⟨s, rfl, fun _ _ => rfl, fun _ _ => rfl, fun j h1 h2 => by omega⟩
  | n + 1, i, f + 1, s, hi, hf => by
    rw [fJ7_fill_53178_5, if_neg (nI_ge (by omega) (by omega)), ast_i (by omega) (by omega), bd1_s, nI_1]
    obtain ⟨t, e, h1, h2, h3⟩ := fill_loop hN v n (i + 1) f (u2 s k i v) (by omega) (by omega)
    refine ⟨t, e, fun q hq => by rw [h1 q hq, u2_ne hq], fun j hj => by rw [h2 j (by omega), u2_slot (by omega)], fun j h4 h5 => ?_⟩
    by_cases q : j = i
    · subst q; rw [h2 j (by omega), u2_same]
    · exact h3 j (by omega) h5
theorem fill_eq {k N : Nat} (hN : N ≤ 2000) (v : Int32) (s : St) : ∃ t, fJ7_fill_53178 k N v s = some t ∧ (∀ q, q ≠ k → t q = s q) ∧ ∀ j, j < N → t k j = v := by
  obtain ⟨t, e, h1, h2, h3⟩ := fill_loop (k := k) hN v N 0 FU s (by omega) (FU_lt (by omega))
  refine ⟨t, ?_, h1, fun j hj => h3 j (by omega) hj⟩
  unfold fJ7_fill_53178
  rw [show fJ7_fill_53178_5 k N v (Int32.ofNat N) FU 0 s = some t from e, bd1_s]
theorem zero_loop {a : Nat} (ha : a < 4) : ∀ (n i f : Nat) (s : St), i + n = 40 → n < f → ∃ t, fX9_sheet_93 (nI a) f (nI i) s = some t ∧ (∀ q, q ≠ 9 → t q = s q) ∧ (∀ j, j < 40 * a + i ∨ 40 * a + 40 ≤ j → t 9 j = s 9 j) ∧ ∀ j, i ≤ j → j < 40 → t 9 (40 * a + j) = 0
  | n, i, 0, _, _, hf => absurd hf (Nat.not_lt_zero _)
  | 0, i, f + 1, s, hi, _ => by
    have : i = 40 := by omega
    subst this
    rw [fX9_sheet_93, if_pos (show (40 : Int32) ≤ nI 40 by decide)]
    exact ⟨s, rfl, fun _ _ => rfl, fun _ _ => rfl, fun j h1 h2 => by omega⟩
  | n + 1, i, f + 1, s, hi, hf => by
    rw [fX9_sheet_93, if_neg (show ¬ (40 : Int32) ≤ nI i from nI_ge (b := 40) (by omega) (by decide)), show (40 : Int32) * nI a + nI i = nI (40 * a + i) by rw [show (40 : Int32) = nI 40 from rfl, pk_mul, nI_add], ast_i (by omega) (by decide), bd1_s, nI_1]
    obtain ⟨t, e, h1, h2, h3⟩ := zero_loop ha n (i + 1) f (u2 s 9 (40 * a + i) 0) (by omega) (by omega)
    refine ⟨t, e, fun q hq => by rw [h1 q hq, u2_ne hq], fun j hj => by rw [h2 j (by omega), u2_slot (by omega)], fun j h4 h5 => ?_⟩
    by_cases q : j = i
    · subst q; rw [h2 _ (by omega), u2_same]
    · exact h3 j (by omega) h5
theorem SR.zero (b : Int32) : SR b 0 0 := by
  unfold SR
  by_cases h : b = 8
  · rw [if_pos h]; decide
  · rw [if_neg h]
    by_cases h2 : b = 16
    · rw [if_pos h2]; decide
    · rw [if_neg h2]
/-- sheets change, and nothing else -/
theorem Rel.sh {σ τ σ' τ' : St} {m : Nat} (r : Rel σ τ m) (c : ∀ k, k < 59 ∨ k = 67 → σ' k = σ k) (d : ∀ k, k < 7 ∨ k = 13 → τ' k = τ k) (s : RS σ' τ') : Rel σ' τ' m := by
  obtain ⟨h', T, dn, n0, z, rt, rw', rk, rd, rs, rv⟩ := r
  have d1 : τ' 1 = τ 1 := d 1 (by decide)
  have d0 : τ' 0 = τ 0 := d 0 (by decide)
  refine ⟨h', T, dn, n0.fr (fun k hk => c k (by omega)) (fun j _ _ _ _ => by rw [d1]) (d 6 (by decide)), ?_, rt.fr (c _ (by decide)) (c _ (by decide)) (fun j _ => by rw [d1]), rw'.fr (c _ (by decide)) (c _ (by decide)) (fun j _ => by rw [d1]), rk.fr (Nat.le_refl _) (by rw [c 0 (by decide)]) (fun k hk => c k (by omega)) (by rw [d0]) (by rw [d0]) (d 2 (by decide)), rd.fr (c _ (by decide)) (d 5 (by decide)), s, rv.fr (c _ (by decide)) (c _ (by decide)) (by rw [d0]) (d 13 (by decide))⟩
  rw [c 1 (by decide), d1]; exact z
theorem lay_ok {σ τ : St} {m : Nat} (r : Rel σ τ m) {i n : Nat} (hi : i < 4) (hn : n ≤ 40) {b : Int32} (hb : b = 0 ∨ b = 8 ∨ b = 16 ∨ b = 32) {w : Int32} (hw : w = nI n) :
    OK2 (bd1 (rld 59 4 (nI i)) fun v8 => bd1 (fX5_lay v8 b w σ) fun s10 => some (1, s10)) (bd1 (ast τ 7 4 (nI i) b) fun s8 => bd1 (ast s8 8 4 (nI i) w) fun s11 => bd1 (fX9_sheet_93 (nI i) FU 0 s11) fun s15 => some (1, s15)) m := by
  subst hw
  obtain ⟨σ1, e1, f1, f2⟩ := fill_eq (k := 59 + 2 * i + 1) (N := 40) (by decide) 0 (u2 (u2 σ (59 + 2 * i) 2 b) (59 + 2 * i) 1 (nI n))
  obtain ⟨τ1, g1, k1, k2, k3⟩ := zero_loop hi 40 0 FU (u2 (u2 τ 7 i b) 8 i (nI n)) rfl (FU_lt (by omega))
  rw [rld_i hi, bd1_s]
  unfold fX5_lay
  rw [ptf, bd1_s, ptf, bd1_s, e1, bd1_s, bd1_s, ast_i hi (by decide), bd1_s, ast_i hi (by decide), bd1_s, show fX9_sheet_93 (nI i) FU 0 _ = _ from g1, bd1_s]
  refine ok_some _ (r.sh (fun k hk => by rw [f1 k (by omega), u2_ne (by omega), u2_ne (by omega)]) (fun k hk => by rw [k1 k (by omega), u2_ne (by omega), u2_ne (by omega)]) ?_)
  obtain ⟨h', T, dn, n0, z, rt, rw', rk, rd, rs, rv⟩ := r
  intro j hj
  by_cases q : j = i
  · subst q
    refine ⟨n, hn, ?_, ?_, ?_, ?_, fun l hl => ?_⟩
    · rw [f1 _ (by omega), u2_same]
    · rw [k1 _ (by decide), u2_same]
    · rw [f1 _ (by omega), u2_slot (by decide), u2_same, k1 _ (by decide), u2_ne (by decide), u2_same]
    · rw [k1 _ (by decide), u2_ne (by decide), u2_same]; exact hb
    · rw [show 60 + 2 * j = 59 + 2 * j + 1 by omega, f2 l hl, k3 l (by omega) hl]; exact SR.zero _
  · obtain ⟨n', p1, p2, p3, p4, p5, p6⟩ := rs j hj
    refine ⟨n', p1, ?_, ?_, ?_, ?_, fun l hl => ?_⟩
    · rw [f1 _ (by omega), u2_ne (by omega), u2_ne (by omega)]; exact p2
    · rw [k1 _ (by decide), u2_slot q, u2_ne (by decide)]; exact p3
    · rw [f1 _ (by omega), u2_ne (by omega), u2_ne (by omega), k1 _ (by decide), u2_ne (by decide), u2_slot q]; exact p4
    · rw [k1 _ (by decide), u2_ne (by decide), u2_slot q]; exact p5
    · rw [f1 _ (by omega), u2_ne (by omega), u2_ne (by omega), k1 7 (by decide), u2_ne (by decide), u2_slot q, k2 _ (by omega), u2_ne (by decide), u2_ne (by decide)]; exact p6 l hl
theorem op_sheet {σ τ : St} {m : Nat} (r : Rel σ τ m) (a b c : Int32) : OK2 (fX8_sheet a b c σ) (fX9_sheet a b c τ) m := by
  unfold fX8_sheet fX9_sheet
  simp only [jn, c_isSheet, m_isSheet, bd2_s, gi0, bd2_eta]
  refine ok_if (σ := σ) (τ := τ) (fun h1 => ?_) (fun _ => ok_e1 r)
  obtain ⟨i, hi, -, rfl⟩ := rg 3 h1 (by decide)
  by_cases b0 : b = 0
  · subst b0
    simp only [if_pos (show (0 : Int32) = 0 from rfl)]
    exact lay_ok r (by omega) (n := 0) (by decide) (Or.inl rfl) rfl
  · simp only [if_neg b0]
    have go : (b = 0 ∨ b = 8 ∨ b = 16 ∨ b = 32) → OK2 (if 0 ≤ c then if c ≤ 40 then bd1 (rld 59 4 (nI i)) fun v8 => bd1 (fX5_lay v8 b c σ) fun s10 => some (1, s10) else fX8_error 1 σ else fX8_error 3 σ) (if 0 ≤ c then if c ≤ 40 then bd1 (ast τ 7 4 (nI i) b) fun s8 => bd1 (ast s8 8 4 (nI i) c) fun s11 => bd1 (fX9_sheet_93 (nI i) FU 0 s11) fun s15 => some (1, s15) else fX9_errs (-1000000001) τ else fX9_errs (-1000000003) τ) m := by
      intro hb
      refine ok_if (σ := σ) (τ := τ) (fun h2 => ok_if (σ := σ) (τ := τ) (fun h3 => ?_) (fun _ => ok_e1 r)) (fun _ => ok_e3 r)
      obtain ⟨n, hn, -, e⟩ := rg 40 ⟨h2, h3⟩ (by decide)
      exact lay_ok r (by omega) hn hb e
    by_cases b8 : b = 8
    · rw [if_pos b8, if_pos b8]; exact go (Or.inr (Or.inl b8))
    · rw [if_neg b8, if_neg b8]
      by_cases b16 : b = 16
      · rw [if_pos b16, if_pos b16]; exact go (Or.inr (Or.inr (Or.inl b16)))
      · rw [if_neg b16, if_neg b16]
        by_cases b32 : b = 32
        · rw [if_pos b32, if_pos b32]; exact go (Or.inr (Or.inr (Or.inr b32)))
        · rw [if_neg b32, if_neg b32]; exact ok_e1 r
theorem i8_bv (x : Int32) : (i8 x).toBitVec = (x.toBitVec.signExtend 8).signExtend 32 := rfl
theorem i16_bv (x : Int32) : (i16 x).toBitVec = (x.toBitVec.signExtend 16).signExtend 32 := rfl
theorem bitsN {w n i : Nat} (hw : n ≤ w) : (BitVec.ofNat w (2 ^ n - 1)).getLsbD i = decide (i < n) := by
  rw [BitVec.getLsbD_ofNat, Nat.testBit_two_pow_sub_one]
  by_cases h : i < n
  · simp [h]; omega
  · simp [h]
theorem i8_and (x : Int32) : i8 x &&& 255 = x &&& 255 := by
  rw [← Int32.toBitVec_inj, Int32.toBitVec_and, Int32.toBitVec_and, i8_bv]
  refine BitVec.eq_of_getLsbD_eq (fun j hj => ?_)
  rw [BitVec.getLsbD_and, BitVec.getLsbD_and, show (255 : Int32).toBitVec = BitVec.ofNat 32 (2 ^ 8 - 1) from rfl, bitsN (by decide), BitVec.getLsbD_signExtend, BitVec.getLsbD_signExtend]
  by_cases h : j < 8
  · simp [h, show j < 32 by omega]
  · simp [h]
theorem i16_and (x : Int32) : i16 x &&& 65535 = x &&& 65535 := by
  rw [← Int32.toBitVec_inj, Int32.toBitVec_and, Int32.toBitVec_and, i16_bv]
  refine BitVec.eq_of_getLsbD_eq (fun j hj => ?_)
  rw [BitVec.getLsbD_and, BitVec.getLsbD_and, show (65535 : Int32).toBitVec = BitVec.ofNat 32 (2 ^ 16 - 1) from rfl, bitsN (by decide), BitVec.getLsbD_signExtend, BitVec.getLsbD_signExtend]
  by_cases h : j < 16
  · simp [h, show j < 32 by omega]
  · simp [h]
theorem i8_of (x : Int32) : i8 (x &&& 255) = i8 x := by
  unfold i8
  congr 1
  rw [← Int8.toBitVec_inj, Int32.toBitVec_toInt8, Int32.toBitVec_toInt8, Int32.toBitVec_and]
  refine BitVec.eq_of_getLsbD_eq (fun j hj => ?_)
  rw [BitVec.getLsbD_signExtend, BitVec.getLsbD_signExtend, BitVec.getLsbD_and, show (255 : Int32).toBitVec = BitVec.ofNat 32 (2 ^ 8 - 1) from rfl, bitsN (by decide)]
  simp [hj, show j < 32 by omega]
theorem i16_of (x : Int32) : i16 (x &&& 65535) = i16 x := by
  unfold i16
  congr 1
  rw [← Int16.toBitVec_inj, Int32.toBitVec_toInt16, Int32.toBitVec_toInt16, Int32.toBitVec_and]
  refine BitVec.eq_of_getLsbD_eq (fun j hj => ?_)
  rw [BitVec.getLsbD_signExtend, BitVec.getLsbD_signExtend, BitVec.getLsbD_and, show (65535 : Int32).toBitVec = BitVec.ofNat 32 (2 ^ 16 - 1) from rfl, bitsN (by decide)]
  simp [hj, show j < 32 by omega]
theorem i8_i8 (x : Int32) : i8 x = i8 (i8 x) := by rw [← i8_of (i8 x), i8_and, i8_of]
theorem i16_i16 (x : Int32) : i16 x = i16 (i16 x) := by rw [← i16_of (i16 x), i16_and, i16_of]
/-- a small number of a sheet is read alike -/
theorem SR.small {b x y : Int32} (h : SR b x y) {k : Nat} (hk : k < 16) {v : Int32} (hv : v = nI k) : x = v ↔ y = v := by
  subst hv
  unfold SR at h
  by_cases h8 : b = 8
  · rw [if_pos h8] at h
    obtain ⟨h1, h2⟩ := h
    constructor
    · intro z
      rw [h2, ← i8_of y, ← h1, z]
      rcases (show k = 0 ∨ k = 1 ∨ k = 2 ∨ k = 3 ∨ k = 4 ∨ k = 5 ∨ k = 6 ∨ k = 7 ∨ k = 8 ∨ k = 9 ∨ k = 10 ∨ k = 11 ∨ k = 12 ∨ k = 13 ∨ k = 14 ∨ k = 15 by omega) with rfl | rfl | rfl | rfl | rfl | rfl | rfl | rfl | rfl | rfl | rfl | rfl | rfl | rfl | rfl | rfl <;> decide
    · intro z
      rw [h1, z]
      rcases (show k = 0 ∨ k = 1 ∨ k = 2 ∨ k = 3 ∨ k = 4 ∨ k = 5 ∨ k = 6 ∨ k = 7 ∨ k = 8 ∨ k = 9 ∨ k = 10 ∨ k = 11 ∨ k = 12 ∨ k = 13 ∨ k = 14 ∨ k = 15 by omega) with rfl | rfl | rfl | rfl | rfl | rfl | rfl | rfl | rfl | rfl | rfl | rfl | rfl | rfl | rfl | rfl <;> decide
  · rw [if_neg h8] at h
    by_cases h16 : b = 16
    · rw [if_pos h16] at h
      obtain ⟨h1, h2⟩ := h
      constructor
      · intro z
        rw [h2, ← i16_of y, ← h1, z]
        rcases (show k = 0 ∨ k = 1 ∨ k = 2 ∨ k = 3 ∨ k = 4 ∨ k = 5 ∨ k = 6 ∨ k = 7 ∨ k = 8 ∨ k = 9 ∨ k = 10 ∨ k = 11 ∨ k = 12 ∨ k = 13 ∨ k = 14 ∨ k = 15 by omega) with rfl | rfl | rfl | rfl | rfl | rfl | rfl | rfl | rfl | rfl | rfl | rfl | rfl | rfl | rfl | rfl <;> decide
      · intro z
        rw [h1, z]
        rcases (show k = 0 ∨ k = 1 ∨ k = 2 ∨ k = 3 ∨ k = 4 ∨ k = 5 ∨ k = 6 ∨ k = 7 ∨ k = 8 ∨ k = 9 ∨ k = 10 ∨ k = 11 ∨ k = 12 ∨ k = 13 ∨ k = 14 ∨ k = 15 by omega) with rfl | rfl | rfl | rfl | rfl | rfl | rfl | rfl | rfl | rfl | rfl | rfl | rfl | rfl | rfl | rfl <;> decide
    · rw [if_neg h16] at h
      rw [h]
