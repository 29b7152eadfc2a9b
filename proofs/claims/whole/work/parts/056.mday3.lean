/-! sets as bits -/
theorem shl1 {k : Nat} (hk : k < 8) : shl 1 (nI k) = nI (2 ^ k) := by
  rcases (show k = 0 ∨ k = 1 ∨ k = 2 ∨ k = 3 ∨ k = 4 ∨ k = 5 ∨ k = 6 ∨ k = 7 by omega) with rfl | rfl | rfl | rfl | rfl | rfl | rfl | rfl <;> decide
theorem nI_or (a b : Nat) : nI a ||| nI b = nI (a ||| b) := by
  unfold nI
  rw [← Int32.toBitVec_inj]
  simp
theorem shr_bit {m k : Nat} (hm : m < 2 ^ 31) (hk : k < 8) : shr (nI m) (nI k) &&& 1 = nI (m / 2 ^ k % 2) := by
  unfold shr
  have hs : ((nI k &&& 31 : Int32).toBitVec.smod 32).toNat = k := by
    rcases (show k = 0 ∨ k = 1 ∨ k = 2 ∨ k = 3 ∨ k = 4 ∨ k = 5 ∨ k = 6 ∨ k = 7 by omega) with rfl | rfl | rfl | rfl | rfl | rfl | rfl | rfl <;> decide
  rw [pk_shrN hm (nI k &&& 31) k hs]
  have hlt : m / 2 ^ k < 2 ^ 32 := by
    have := Nat.div_le_self m (2 ^ k)
    omega
  rw [show (1 : Int32) = (1 : Int32) from rfl, pk_andN hlt 1 (by decide)]
theorem shr_test {m k : Nat} (hm : m < 2 ^ 31) (hk : k < 8) : (shr (nI m) (nI k) &&& 1 = 1) ↔ m.testBit k = true := by
  rw [shr_bit hm hk, Nat.testBit_eq_decide_div_mod_eq, decide_eq_true_iff]
  constructor
  · intro h
    rcases (show m / 2 ^ k % 2 = 0 ∨ m / 2 ^ k % 2 = 1 by omega) with q | q
    · rw [q] at h; exact absurd h (by decide)
    · exact q
  · intro h; rw [h]; rfl
/-- the heartless, as a set -/
def hm (T : Tx) (h : Hs) : Nat → Nat
  | 0 => 0
  | n + 1 => if lft T h 5 n = 4 then hm T h n ||| 2 ^ n else hm T h n
theorem hm_lt (T : Tx) (h : Hs) : ∀ n, hm T h n < 2 ^ n
  | 0 => by simp [hm]
  | n + 1 => by
    have ih := hm_lt T h n
    unfold hm
    have h2 : (2 : Nat) ^ n < 2 ^ (n + 1) := Nat.pow_lt_pow_right (by decide) (by omega)
    split
    · exact Nat.or_lt_two_pow (by omega) h2
    · omega
theorem hm_bit (T : Tx) (h : Hs) (i : Nat) : ∀ n, (hm T h n).testBit i = decide (i < n ∧ lft T h 5 i = 4)
  | 0 => by simp [hm]
  | n + 1 => by
    have ih := hm_bit T h i n
    unfold hm
    by_cases q : lft T h 5 n = 4
    · rw [if_pos q, Nat.testBit_or, ih, Nat.testBit_two_pow]
      by_cases hi : i = n
      · subst hi; simp [q]
      · have : ¬ n = i := fun z => hi z.symm
        by_cases hl : i < n
        · simp [hl, this, show i < n + 1 by omega]
        · simp [hl, this, show ¬ i < n + 1 by omega]
    · rw [if_neg q, ih]
      by_cases hi : i = n
      · subst hi; simp [q]
      · by_cases hl : i < n
        · simp [hl, show i < n + 1 by omega]
        · simp [hl, show ¬ i < n + 1 by omega]
theorem heart7_eq {T : Tx} {D : Int} {dn : Nat} {h : Hs} (hB : HB D dn h) : ∀ (n k : Nat) (f : Nat) (s : St), k + n = dn → n < f → MH (s 1) h → MLC s T → s 0 16 = nI (hm T h k) →
    ∃ t, fX9_findHeartless_7 f (nI k) s = some t ∧ MLC t T ∧ FrD s t ∧ t 1 = s 1 ∧ t 0 16 = nI (hm T h dn)
  | n, k, 0, _, _, hf, _, _, _ => absurd hf (Nat.not_lt_zero _)
  | 0, k, f + 1, s, hk, _, hH, hc, h16 => by
    have : k = dn := by omega
    subst this
    rw [fX9_findHeartless_7, ald1 (x := 2) (i := 2) rfl (by decide), bd1_s, hH.1.2.1, hB.d3, if_pos (show nI k ≤ nI k from nI_le (Nat.le_refl _) (by have := hB.dn; omega))]
    exact ⟨s, rfl, hc, FrD.rf s, rfl, h16⟩
  | n + 1, k, f + 1, s, hk, hf, hH, hc, h16 => by
    have hd8 := hB.dn
    have hk8 : k < 8 := by omega
    rw [fX9_findHeartless_7, ald1 (x := 2) (i := 2) rfl (by decide), bd1_s, hH.1.2.1, hB.d3, if_neg (show ¬ nI dn ≤ nI k from nI_ge (by omega) (by omega))]
    obtain ⟨s1, e1, c1, f1⟩ := m_left hH hB hc (x := 5) (c := 5) rfl (by decide) hk8
    rw [e1, bd2_s]
    simp only [jn]
    have fin : ∀ w, nI (hm T h k) ||| w = nI (hm T h (k + 1)) → ∃ t, (bd1 (ptf s1 0 16 (s 0 16 ||| w)) fun s8 => fX9_findHeartless_7 f (nI k + 1) s8) = some t ∧ MLC t T ∧ FrD s t ∧ t 1 = s 1 ∧ t 0 16 = nI (hm T h dn) := by
      intro w hw
      rw [ptf, bd1_s, nI_1, h16, hw]
      have e11 : s1 1 = s 1 := f1.1 1 (by decide) (by decide)
      obtain ⟨t, e2, c2, f2, q2, g2⟩ := heart7_eq hB n (k + 1) f (u2 s1 0 16 (nI (hm T h (k + 1)))) (by omega) (by omega) (by rw [u2_ne (by decide), e11]; exact hH) (c1.u0 _) (u2_same _ _ _ _)
      exact ⟨t, e2, c2, (f1.D.tr (FrD.h _)).tr f2, by rw [q2, u2_ne (by decide), e11], g2⟩
    by_cases q : lft T h 5 k = 4
    · rw [if_pos q]
      refine fin _ ?_
      rw [shl1 hk8, nI_or]
      simp only [hm, if_pos q]
    · rw [if_neg q]
      refine fin _ ?_
      rw [show (0 : Int32) = nI 0 from rfl, nI_or]
      simp only [hm, if_neg q, Nat.or_zero]
theorem heart_eq {T : Tx} {D : Int} {dn : Nat} {h : Hs} {s : St} (hB : HB D dn h) (hH : MH (s 1) h) (hc : MLC s T) : ∃ t, fX9_findHeartless s = some t ∧ MLC t T ∧ FrD s t ∧ t 1 = s 1 ∧ t 0 16 = nI (hm T h dn) := by
  unfold fX9_findHeartless
  rw [ptf, bd1_s]
  obtain ⟨t, e, c1, f1, q1, g1⟩ := heart7_eq hB dn 0 FU (u2 s 0 16 0) (by omega) (FU_lt (by have := hB.dn; omega)) (by rw [u2_ne (by decide)]; exact hH) (hc.u0 _) (u2_same _ _ _ _)
  rw [show fX9_findHeartless_7 FU 0 (u2 s 0 16 0) = some t from e, bd1_s]
  exact ⟨t, rfl, c1, (FrD.h _).tr f1, by rw [q1, u2_ne (by decide)], g1⟩
theorem hm31 (T : Tx) (h : Hs) {dn : Nat} (hd : dn ≤ 8) : hm T h dn < 2 ^ 31 := Nat.lt_of_lt_of_le (hm_lt T h dn) (Nat.pow_le_pow_right (by decide) (by omega))
theorem slight_eq {T : Tx} {D : Int} {dn : Nat} {h h0 : Hs} {s : St} (hB : HB D dn h0) (hH : MH (s 1) h) (h6 : h 6 = h0 6) (h16 : s 0 16 = nI (hm T h0 dn)) {k : Nat} (hk : k < 8) : fX9_isSlighted (nI k) s = some (if ¬ (h0 6 k).toNatClampNeg = k ∧ (h0 6 k).toNatClampNeg < dn ∧ lft T h0 5 (h0 6 k).toNatClampNeg = 4 then 1 else 0, s) := by
  have ev : h0 6 k = nI (h0 6 k).toNatClampNeg := (bt_cl (hi := 7) (hB.lo hk)).2
  have hl := hB.lon hk
  unfold fX9_isSlighted
  rw [its_eq (x := 3) (w := 3) rfl hk (by decide), bd2_s, (hH.2.2.2 k hk).2.2.2.1, h6]
  simp only [jn]
  by_cases q1 : h0 6 k = nI k
  · rw [if_pos q1, if_neg (fun z => z.1 (by rw [q1, nI_clamp (by omega)]))]
  · rw [if_neg q1, h16]
    have ht := shr_test (m := hm T h0 dn) (k := (h0 6 k).toNatClampNeg) (hm31 T h0 hB.dn) hl
    rw [← ev, hm_bit, decide_eq_true_iff] at ht
    by_cases q2 : (h0 6 k).toNatClampNeg < dn ∧ lft T h0 5 (h0 6 k).toNatClampNeg = 4
    · rw [if_pos (ht.mpr q2), if_pos ⟨fun z => q1 (by rw [ev, z]), q2⟩]
    · rw [if_neg (fun z => q2 (ht.mp z)), if_neg (fun z => q2 z.2)]
theorem oneDay10_eq {T : Tx} {D : Int} {dn : Nat} {h : Hs} (hB : HB D dn h) : ∀ (n k : Nat) (f : Nat) (s : St), k + n = dn → n < f → MH (s 1) (grvN T dn k h) → MLC s T → s 0 16 = nI (hm T h dn) →
    ∃ t, fX9_oneDay_10 f (nI k) s = some t ∧ MH (t 1) (grvN T dn dn h) ∧ MLC t T ∧ FrD s t
  | n, k, 0, _, _, hf, _, _, _ => absurd hf (Nat.not_lt_zero _)
  | 0, k, f + 1, s, hk, _, hH, hc, h16 => by
    have : k = dn := by omega
    subst this
    rw [fX9_oneDay_10, ald1 (x := 2) (i := 2) rfl (by decide), bd1_s, hH.1.2.1, grvN_ne (by decide), hB.d3, if_pos (show nI k ≤ nI k from nI_le (Nat.le_refl _) (by have := hB.dn; omega))]
    exact ⟨s, rfl, hH, hc, FrD.rf s⟩
  | n + 1, k, f + 1, s, hk, hf, hH, hc, h16 => by
    have hd8 := hB.dn
    have hk8 : k < 8 := by omega
    rw [fX9_oneDay_10, ald1 (x := 2) (i := 2) rfl (by decide), bd1_s, hH.1.2.1, grvN_ne (by decide), hB.d3, if_neg (show ¬ nI dn ≤ nI k from nI_ge (by omega) (by omega)), slight_eq hB hH (by funext j; exact grvN_ne (by decide)) h16 hk8, bd2_s]
    simp only [jn]
    have e5 : s 1 (47 + 5 * k + 2) = h 5 k := by rw [(hH.2.2.2 k hk8).2.2.1, grvN_5 (Nat.le_refl _)]
    have fin : ∀ w, hld w 0 9 = grf T dn h k → ∃ t, (bd2 (fX9_held w 0 9 s) fun u14 s12 => bd1 (fX9_puts (nI k) 2 u14 s12) fun s15 => fX9_oneDay_10 f (nI k + 1) s15) = some t ∧ MH (t 1) (grvN T dn dn h) ∧ MLC t T ∧ FrD s t := by
      intro w hw
      rw [m_held, bd2_s, hw, puts_eq (x := 2) (w := 2) rfl hk8 (by decide), bd1_s, nI_1]
      have H1 := hH.set5 hk8 (grf T dn h k)
      rw [grvN_s] at H1
      obtain ⟨t, e1, H2, c2, f2⟩ := oneDay10_eq hB n (k + 1) f _ (by omega) (by omega) H1 (hc.u1 (by omega) (by omega) _) (by rw [u2_ne (by decide)]; exact h16)
      exact ⟨t, e1, H2, c2, (FrD.u1 (by omega) (by omega) _).tr f2⟩
    have g := hB.gr hk8
    have g1 := g.1
    have g2 := g.2
    by_cases q : ¬ (h 6 k).toNatClampNeg = k ∧ (h 6 k).toNatClampNeg < dn ∧ lft T h 5 (h 6 k).toNatClampNeg = 4
    · rw [if_pos q, if_neg (by decide), its_eq (x := 2) (w := 2) rfl hk8 (by decide), bd2_s, e5]
      refine fin _ ?_
      unfold grf
      rw [if_pos q]
      refine hld_mn ?_
      rw [add_I g (show bt 1 1 (1 : Int32) from ⟨by decide, by decide⟩), show (1 : Int32).toInt = 1 by decide]
      omega
    · rw [if_neg q, if_pos rfl, its_eq (x := 2) (w := 2) rfl hk8 (by decide), bd2_s, m_mending hH hk8, bd2_s, e5]
      refine fin _ ?_
      unfold grf
      rw [if_neg q]
      have em : mnd (grvN T dn k h) k = mnd h k := by
        unfold mnd
        rw [grvN_ne (by decide), grvN_ne (by decide), grvN_ne (by decide)]
      rw [em]
      have m := MD_b (h 3 k) (h 4 k) (h 8 2)
      have m1 := m.1
      have m2 := m.2
      refine hld_mx ?_
      unfold mnd
      rw [sub_I g m, show (9 : Int32).toInt = 9 by decide]
      omega
theorem oneDay_eq {T : Tx} (hT : TB T) {D : Int} {dn : Nat} {s : St} {h : Hs} (hH : MH (s 1) h) (hB : HB D dn h) (hc : MLC s T) : ∃ t, fX9_oneDay s = some t ∧ MH (t 1) (dayS T dn h) ∧ MLC t T ∧ FrD s t := by
  unfold fX9_oneDay
  obtain ⟨s1, e1, H1, c1, f1⟩ := eats_eq hT hH hB hc
  rw [e1, bd1_s]
  have hB1 := hB.eat hT
  obtain ⟨s2, e2, c2, f2, q2, g2⟩ := heart_eq hB1 H1 c1
  rw [e2, bd1_s]
  have e0 : ∀ h' : Hs, grvN T dn 0 h' = h' := fun h' => by funext i j; unfold grvN; rw [if_neg (by omega)]
  obtain ⟨s3, e3, H3, c3, f3⟩ := oneDay10_eq hB1 dn 0 FU s2 (by omega) (FU_lt (by have := hB.dn; omega)) (by rw [e0, q2]; exact H1) c2 g2
  rw [show fX9_oneDay_10 FU 0 s2 = some s3 from e3, bd1_s, ald1 (x := 0) (i := 0) rfl (by decide), bd1_s, ast1 (x := 0) (i := 0) rfl (by decide), bd1_s]
  have e8 : s3 1 0 = h 8 2 := by
    rw [H3.1.1, grvN_ne (by decide)]
    exact (eatA_eq7 T dn 6 0 (h, h 8 0)).2 2 (by decide)
  rw [e8]
  exact ⟨_, rfl, H3.set0 (h 8 2 + 1), c3.u1 (by decide) (by decide) _, ((f1.tr f2).tr f3).tr (FrD.u1 (by decide) (by decide) _)⟩
theorem passes2_eq {T : Tx} (hT : TB T) {dn N : Nat} (hN : N ≤ 60) : ∀ (n i : Nat) (f : Nat) (D : Int) (s : St) (h : Hs), i + n = N → n < f → D + n < 2000000000 → MH (s 1) h → HB D dn h → MLC s T →
    ∃ t, fX9_passes_2 (nI N) f (nI i) s = some t ∧ MH (t 1) (daysS T dn n h) ∧ MLC t T ∧ FrD s t
  | n, i, 0, _, _, _, _, hf, _, _, _, _ => absurd hf (Nat.not_lt_zero _)
  | 0, i, f + 1, D, s, h, hi, _, hD, hH, hB, hc => by
    rw [fX9_passes_2, if_pos (show nI N ≤ nI i by rw [← hi]; exact nI_le (Nat.le_refl _) (by omega))]
    exact ⟨s, rfl, hH, hc, FrD.rf s⟩
  | n + 1, i, f + 1, D, s, h, hi, hf, hD, hH, hB, hc => by
    rw [fX9_passes_2, if_neg (show ¬ nI N ≤ nI i from nI_ge (by omega) (by omega))]
    obtain ⟨s1, e1, H1, c1, f1⟩ := oneDay_eq hT hH hB hc
    rw [e1, bd1_s, nI_1]
    obtain ⟨t, e2, H2, c2, f2⟩ := passes2_eq hT hN n (i + 1) f (D + 1) s1 _ (by omega) (by omega) (by omega) H1 (dayS_b hT (by omega) hB) c1
    exact ⟨t, e2, H2, c2, f1.tr f2⟩
theorem passes_eq {T : Tx} (hT : TB T) {dn n : Nat} (hn : n ≤ 60) {D : Int} {s : St} {h : Hs} (hD : D < 1000000000) (hH : MH (s 1) h) (hB : HB D dn h) (hc : MLC s T) : ∃ t, fX9_passes (nI n) s = some t ∧ MH (t 1) (daysS T dn n h) ∧ MLC t T ∧ FrD s t := by
  obtain ⟨t, e, q⟩ := passes2_eq hT hn n 0 FU D s h (by omega) (FU_lt (by omega)) (by omega) hH hB hc
  unfold fX9_passes
  rw [show (0 : Int32) = nI 0 from rfl, e, bd1_s]
  exact ⟨t, rfl, q⟩
/-- all of a row is moved -/
theorem moveAll2_eq {p q : Nat} (hpq : p ≠ q) : ∀ (n i : Nat) (f : Nat) (s : St), i + n = 257 → n < f → (∀ j, j < i → s q j = s p j) → ∃ t, fX9_moveAll_2 p 257 q 257 f (nI i) s = some t ∧ (∀ k, k ≠ q → t k = s k) ∧ (∀ j, j < 257 → t q j = s p j) ∧ ∀ j, 257 ≤ j → t q j = s q j
  | n, i, 0, _, _, hf, _ => absurd hf (Nat.not_lt_zero _)
  | 0, i, f + 1, s, hi, _, h => by
    have : i = 257 := by omega
    subst this
    rw [fX9_moveAll_2, if_pos (show (257 : Int32) ≤ nI 257 by decide)]
    exact ⟨s, rfl, fun _ _ => rfl, h, fun _ _ => rfl⟩
  | n + 1, i, f + 1, s, hi, hf, h => by
    rw [fX9_moveAll_2, if_neg (show ¬ (257 : Int32) ≤ nI i from nI_ge (b := 257) (by omega) (by decide)), ald_i (by omega) (by decide), bd1_s, ast_i (by omega) (by decide), bd1_s, nI_1]
    obtain ⟨t, e, f1, g1, o1⟩ := moveAll2_eq hpq n (i + 1) f (u2 s q i (s p i)) (by omega) (by omega) (fun j hj => by
      rw [u2_ne (r := p) hpq]
      by_cases hji : j = i
      · subst hji; rw [u2_same]
      · rw [u2_slot hji]; exact h j (by omega))
    refine ⟨t, e, fun k hk => ?_, fun j hj => ?_, fun j hj => ?_⟩
    · rw [f1 k hk, u2_ne hk]
    · rw [g1 j hj, u2_ne hpq]
    · rw [o1 j hj, u2_slot (by omega)]
theorem moveAll_eq {p q : Nat} (hpq : p ≠ q) (s : St) : ∃ t, fX9_moveAll p 257 q 257 s = some t ∧ (∀ k, k ≠ q → t k = s k) ∧ ∀ j, j < 257 → t q j = s p j := by
  obtain ⟨t, e, f1, g1, -⟩ := moveAll2_eq hpq 257 0 FU s rfl (FU_lt (by omega)) (fun j hj => absurd hj (Nat.not_lt_zero _))
  unfold fX9_moveAll
  rw [show (0 : Int32) = nI 0 from rfl, e, bd1_s]
  exact ⟨t, rfl, f1, g1⟩
