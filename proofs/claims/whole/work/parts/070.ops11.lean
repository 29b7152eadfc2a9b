/-! whose: a search both ways -/
def fit (T : Tx) (h : Hs) (k : Nat) (ys : Nat → Int32) : Nat → Nat → Bool
  | _, 0 => true
  | j, n + 1 => decide (lft T h j k = ys j) && fit T h k ys (j + 1) n
def fitB (T : Tx) (N k : Nat) (ys : Nat → Int32) (h : Hs) : Bool := decide (N ≤ 6) && fit T h k ys 0 N
def hw (h : Hs) (k : Nat) (x y : Int32) : Hs := hset (hset h 3 k x) 5 k y
theorem hw_hw (h : Hs) (k : Nat) (a b c d : Int32) : hset (hset (hw h k a b) 3 k c) 5 k d = hw h k c d := by
  funext i j
  unfold hw hset
  by_cases p : i = 5
  · subst p
    by_cases q : j = k <;> simp [q]
  · by_cases p3 : i = 3
    · subst p3
      by_cases q : j = k <;> simp [q]
    · simp [p, p3]
theorem hw_self (h : Hs) (k : Nat) : hw h k (h 3 k) (h 5 k) = h := by
  unfold hw
  rw [hset_self, hset_self]
theorem HB.hw {D : Int} {dn : Nat} {h : Hs} (q : HB D dn h) {k a b : Nat} (ha : a ≤ 6) (hb : b ≤ 9) : HB D dn (hw h k (nI a) (nI b)) := (q.set3 (bt_nI (by omega) (by omega))).set5 (bt_nI (by omega) (by omega))
theorem c_fit {T : Tx} {dn k i N : Nat} (hT : TB T) (hk : k < 8) (hi : i < 4) (hN : N ≤ 6) {h : Hs} {D : Int} (hB : HB D dn h) {ys : Nat → Int32} {bits : Int32} : ∀ (n j f : Nat) (σ : St), j + n = N → n < f → σ (59 + 2 * i) 1 = nI N → (∀ l, l < 40 → SR bits (σ (59 + 2 * i + 1) l) (ys l)) → CH σ 39 h → CLC σ T → ∃ σ', fX8_fitsLeavings_35 (59 + 2 * i) (nI k) f (nI j) σ = some (if fit T h k ys j n = true then .inr σ' else .inl (0, σ')) ∧ CLC σ' T ∧ Fr σ σ'
  | n, j, 0, _, _, hf, _, _, _, _ => absurd hf (Nat.not_lt_zero _)
  | 0, j, f + 1, σ, hj, _, hs, hx, hC, hc => by
    have : j = N := by omega
    subst this
    rw [fX8_fitsLeavings_35, hs, if_pos (nI_le (Nat.le_refl _) (by omega))]
    exact ⟨σ, rfl, hc, fun _ _ _ => rfl⟩
  | n + 1, j, f + 1, σ, hj, hf, hs, hx, hC, hc => by
    obtain ⟨σ1, e1, c1, f1⟩ := leftOf_eq hT hC hB hc (c := j) (by omega) hk
    obtain ⟨v, hv, -, ev⟩ := bt_ex (hi := 4) (show bt 0 4 (lft T h j k) from (hT _ _ _).1)
    have sm := (hx j (by omega)).small (k := v) (by omega) rfl
    rw [fX8_fitsLeavings_35, hs, if_neg (nI_ge (by omega) (by omega)), e1, bd2_s, ald_i (show j < 40 by omega) (by decide), bd1_s, f1 (59 + 2 * i + 1) (by omega) (by omega), fit]
    by_cases q : lft T h j k = ys j
    · rw [if_pos (show lft T h j k = σ (59 + 2 * i + 1) j by rw [ev]; exact (sm.mpr (q.symm.trans ev)).symm), nI_1]
      obtain ⟨σ2, e2, c2, f2⟩ := c_fit hT hk hi hN hB (ys := ys) n (j + 1) f σ1 (by omega) (by omega) (by rw [f1 _ (by omega) (by omega)]; exact hs) (fun l hl => by rw [f1 (59 + 2 * i + 1) (by omega) (by omega)]; exact hx l hl) (hC.frL hH_39 f1) c1
      refine ⟨σ2, ?_, c2, fun p h1 h2 => (f2 p h1 h2).trans (f1 p h1 h2)⟩
      rw [e2, decide_eq_true q, Bool.true_and]
    · rw [if_neg (show ¬ lft T h j k = σ (59 + 2 * i + 1) j from fun w => q (ev.trans (sm.mp (w.symm.trans ev)).symm)), decide_eq_false q, Bool.false_and]
      exact ⟨σ1, rfl, c1, f1⟩
theorem m_fit {T : Tx} {dn k i N : Nat} (hk : k < 8) (hi : i < 4) (hN : N ≤ 6) {h : Hs} {D : Int} (hB : HB D dn h) {ys : Nat → Int32} : ∀ (n j f : Nat) (s : St), j + n = N → n + 1 < f → s 8 i = nI N → (∀ l, l < 40 → s 9 (40 * i + l) = ys l) → MH (s 1) h → MLC s T → ∃ t, fX9_leavesSo_20 (nI i) (nI k) f 1 (nI j) s = some (if fit T h k ys j n = true then 1 else 0, t) ∧ MLC t T ∧ FrG s t
  | n, j, 0, _, _, hf, _, _, _, _ => absurd hf (Nat.not_lt_zero _)
  | 0, j, f + 1, s, hj, _, hs, hy, hM, hm => by
    have : j = N := by omega
    subst this
    rw [fX9_leavesSo_20, ald_i hi (by decide), bd1_s, hs, if_pos (nI_le (Nat.le_refl _) (by omega))]
    exact ⟨s, rfl, hm, FrG.rf s⟩
  | n + 1, j, f + 1, s, hj, hf, hs, hy, hM, hm => by
    obtain ⟨s1, e1, m1, t1⟩ := m_left hM hB hm (c := j) (x := nI j) rfl (by omega) hk
    rw [fX9_leavesSo_20, ald_i hi (by decide), bd1_s, hs, if_neg (nI_ge (by omega) (by omega)), if_neg (show ¬ (1 : Int32) = 0 by decide), show (40 : Int32) * nI i + nI j = nI (40 * i + j) by rw [show (40 : Int32) = nI 40 from rfl, pk_mul, nI_add], ald_i (show 40 * i + j < 160 by omega) (by decide), bd1_s, e1, bd2_s, hy j (by omega), fit]
    simp only [jn]
    by_cases q : lft T h j k = ys j
    · rw [if_pos q.symm, nI_1]
      obtain ⟨s2, e2, m2, t2⟩ := m_fit hk hi hN hB (ys := ys) n (j + 1) f s1 (by omega) (by omega) (by rw [t1.1 8 (by decide) (by decide)]; exact hs) (fun l hl => by rw [t1.1 9 (by decide) (by decide)]; exact hy l hl) (hM.frG t1) m1
      refine ⟨s2, ?_, m2, t1.tr t2⟩
      rw [e2, decide_eq_true q, Bool.true_and]
    · rw [if_neg (fun w => q w.symm), decide_eq_false q, Bool.false_and, nI_1]
      cases f with
      | zero => omega
      | succ f =>
        rw [fX9_leavesSo_20, ald_i hi (by decide), bd1_s]
        refine ⟨s1, ?_, m1, t1⟩
        by_cases w : s1 8 i ≤ nI (j + 1)
        · rw [if_pos w]; rfl
        · rw [if_neg w, if_pos rfl]; rfl
theorem c_fits {T : Tx} {dn k i N q g : Nat} (hT : TB T) (hk : k < 8) (hi : i < 4) (hN : N ≤ 40) (hq : q ≤ 6) (hg : g ≤ 9) {h : Hs} {D : Int} (hB : HB D dn h) {ys : Nat → Int32} {bits : Int32} {σ : St} {x y : Int32} (hs : σ (59 + 2 * i) 1 = nI N) (hx : ∀ l, l < 40 → SR bits (σ (59 + 2 * i + 1) l) (ys l)) (hC : CH σ 39 (hw h k x y)) (hc : CLC σ T) :
    ∃ σ' x' y', fX8_fitsLeavings (59 + 2 * i) (nI k) (nI q) (nI g) σ = some (if fitB T N k ys (hw h k (nI q) (nI g)) = true then 1 else 0, σ') ∧ CLC σ' T ∧ TQ σ σ' ∧ CH σ' 39 (hw h k x' y') := by
  unfold fX8_fitsLeavings fitB
  rw [hs]
  by_cases hN6 : N ≤ 6
  · rw [if_pos (show nI N ≤ (6 : Int32) from nI_le hN6 (by decide)), decide_eq_true hN6, Bool.true_and, ast_i hk (by decide), bd1_s, ast_i hk (by decide), bd1_s]
    have C2 := (hC.set3 (k := k) (nI q)).set5 (k := k) (nI g)
    rw [hw_hw] at C2
    obtain ⟨σ1, e1, c1, f1⟩ := c_fit (dn := dn) (i := i) hT hk hi hN6 (hB.hw (k := k) hq hg) (ys := ys) (bits := bits) N 0 FU (u2 (u2 σ 43 k (nI q)) 45 k (nI g)) (by omega) (FU_lt (by omega)) (by rw [u2_ne (by omega), u2_ne (by omega)]; exact hs) (fun l hl => by rw [u2_ne (by omega), u2_ne (by omega)]; exact hx l hl) C2 ((hc.u2c (by decide) _).u2c (by decide) _)
    have Q : TQ σ σ1 := ((TQ.u (by decide) _).tr (TQ.u (by decide) _)).tr f1.Q
    refine ⟨σ1, _, _, ?_, c1, Q, C2.frL hH_39 f1⟩
    rw [show fX8_fitsLeavings_35 (59 + 2 * i) (nI k) FU 0 _ = _ from e1]
    by_cases z : fit T (hw h k (nI q) (nI g)) k ys 0 N = true
    · rw [if_pos z, if_pos z, bS1_r]
    · rw [if_neg z, if_neg z, bS1_l]
  · rw [if_neg (show ¬ nI N ≤ (6 : Int32) from nI_ge (a := 6) (by omega) (by omega)), decide_eq_false hN6, Bool.false_and]
    exact ⟨σ, x, y, rfl, hc, TQ.rf σ, hC⟩
theorem m_fits {T : Tx} {dn k i N : Nat} (hk : k < 8) (hi : i < 4) (hN : N ≤ 40) {h : Hs} {D : Int} (hB : HB D dn h) {ys : Nat → Int32} {s : St} (hs : s 8 i = nI N) (hy : ∀ l, l < 40 → s 9 (40 * i + l) = ys l) (hM : MH (s 1) h) (hm : MLC s T) :
    ∃ t, fX9_leavesSo (nI i) (nI k) s = some (if fitB T N k ys h = true then 1 else 0, t) ∧ MLC t T ∧ FrG s t := by
  unfold fX9_leavesSo fitB
  rw [ald_i hi (by decide), bd1_s, hs]
  simp only [jn]
  by_cases hN6 : N ≤ 6
  · obtain ⟨t, e, m1, t1⟩ := m_fit hk hi hN6 hB (ys := ys) N 0 FU s (by omega) (FU_lt (by omega)) hs hy hM hm
    rw [if_neg (show ¬ (6 : Int32) < nI N from fun w => by have := (nI_ltI (a := 6) (by decide) (by omega)).mp w; omega), decide_eq_true hN6, Bool.true_and, show fX9_leavesSo_20 (nI i) (nI k) FU 1 0 s = _ from e, bd2_s, gb01]
    exact ⟨t, rfl, m1, t1⟩
  · rw [if_pos (show (6 : Int32) < nI N from (nI_ltI (a := 6) (by decide) (by omega)).mpr (by omega)), decide_eq_false hN6, Bool.false_and]
    have e : fX9_leavesSo_20 (nI i) (nI k) FU 0 0 s = some (0, s) := by
      show fX9_leavesSo_20 (nI i) (nI k) (2099 + 1) 0 0 s = some (0, s)
      rw [fX9_leavesSo_20, ald_i hi (by decide), bd1_s, hs, if_neg (show ¬ nI N ≤ (0 : Int32) from nI_ge (a := 0) (by omega) (by omega)), if_pos rfl]
    rw [e, bd2_s]
    exact ⟨s, rfl, hm, FrG.rf s⟩
def cN (p : Nat → Bool) : Nat → Nat → Nat
  | _, 0 => 0
  | x, n + 1 => (if p x = true then 1 else 0) + cN p (x + 1) n
def fs (p : Nat → Bool) : Nat → Nat → Option Nat
  | _, 0 => none
  | x, n + 1 => if p x = true then some x else fs p (x + 1) n
theorem cN_snoc (p : Nat → Bool) : ∀ (n x : Nat), cN p x (n + 1) = cN p x n + (if p (x + n) = true then 1 else 0)
  | 0, x => by simp [cN]
  | n + 1, x => by
    have ih := cN_snoc p n (x + 1)
    rw [cN, ih, cN, show x + 1 + n = x + (n + 1) by omega]; omega
theorem fs_snoc (p : Nat → Bool) : ∀ (n x : Nat), fs p x (n + 1) = (match fs p x n with | some y => some y | none => if p (x + n) = true then some (x + n) else none)
  | 0, x => by simp [fs]
  | n + 1, x => by
    have ih := fs_snoc p n (x + 1)
    rw [fs, ih, fs, show x + 1 + n = x + (n + 1) by omega]
    by_cases q : p x = true
    · rw [if_pos q, if_pos q]
    · rw [if_neg q, if_neg q]
theorem fs_lt (p : Nat → Bool) : ∀ (n x y : Nat), fs p x n = some y → x ≤ y ∧ y < x + n
  | 0, x, y, h => by simp [fs] at h
  | n + 1, x, y, h => by
    rw [fs] at h
    by_cases q : p x = true
    · rw [if_pos q] at h
      injection h with h
      omega
    · rw [if_neg q] at h
      have := fs_lt p n (x + 1) y h
      omega
/-- the class' walk: it ends at the first one where only one is asked for -/
def Wk (p : Nat → Bool) (w : Nat) : Int32 → Nat → Nat → Int32 ⊕ Int32
  | acc, _, 0 => .inr acc
  | acc, x, n + 1 => if p x = true then (if w = 1 then .inl (nI x) else Wk p w (acc + 1) (x + 1) n) else Wk p w acc (x + 1) n
theorem Wk_add (p : Nat → Bool) (w : Nat) : ∀ (a b : Nat) (acc : Int32) (x : Nat), Wk p w acc x (a + b) = (match Wk p w acc x a with | .inl v => .inl v | .inr acc' => Wk p w acc' (x + a) b)
  | 0, b, acc, x => by simp [Wk]
  | a + 1, b, acc, x => by
    rw [show a + 1 + b = (a + b) + 1 by omega, Wk, Wk, Wk_add p w a b, Wk_add p w a b, show x + 1 + a = x + (a + 1) by omega]
    by_cases q : p x = true
    · rw [if_pos q, if_pos q]
      by_cases q2 : w = 1
      · rw [if_pos q2, if_pos q2]
      · rw [if_neg q2, if_neg q2]
    · rw [if_neg q, if_neg q]
theorem Wk_0 (p : Nat → Bool) {w : Nat} (hw : w ≠ 1) : ∀ (n : Nat) (acc : Int32) (x : Nat), Wk p w acc x n = .inr (acc + nI (cN p x n))
  | 0, acc, x => by rw [Wk, cN, show nI 0 = 0 from rfl, Int32.add_zero]
  | n + 1, acc, x => by
    rw [Wk, Wk_0 p hw n, Wk_0 p hw n, cN, if_neg hw]
    by_cases q : p x = true
    · rw [if_pos q, if_pos q, ← nI_add, ← Int32.add_assoc]; rfl
    · rw [if_neg q, if_neg q, Nat.zero_add]
theorem Wk_1 (p : Nat → Bool) : ∀ (n : Nat) (acc : Int32) (x : Nat), Wk p 1 acc x n = (match fs p x n with | some y => .inl (nI y) | none => .inr acc)
  | 0, acc, x => by rw [Wk, fs]
  | n + 1, acc, x => by
    rw [Wk, Wk_1 p n acc, fs, if_pos rfl]
    by_cases q : p x = true
    · rw [if_pos q, if_pos q]
    · rw [if_neg q, if_neg q]
def ij (r : Int32 ⊕ Int32) (s : St) : (Int32 × St) ⊕ (Int32 × St) := match r with | .inl v => .inl (v, s) | .inr v => .inr (v, s)
def pW (T : Tx) (N k : Nat) (ys : Nat → Int32) (h : Hs) (x : Nat) : Bool := fitB T N k ys (hw h k (nI (x / 10)) (nI (x % 10)))
theorem whose_in {σ0 : St} {T : Tx} {dn k i N w q : Nat} (hT : TB T) (hk : k < 8) (hi : i < 4) (hN : N ≤ 40) (hq : q ≤ 6) (hw1 : w ≤ 1) {h : Hs} {D : Int} (hB : HB D dn h) {ys : Nat → Int32} {bits : Int32} (hs : σ0 (59 + 2 * i) 1 = nI N) (hx : ∀ l, l < 40 → SR bits (σ0 (59 + 2 * i + 1) l) (ys l)) : ∀ (n g f : Nat) (acc : Int32) (σ : St) (x y : Int32), g + n = 10 → n < f → CH σ 39 (hw h k x y) → CLC σ T → TQ σ0 σ →
    ∃ σ' x' y', fX8_whose_68 (nI i) (nI k) (nI w) (nI q) f acc (nI g) σ = some (ij (Wk (pW T N k ys h) w acc (10 * q + g) n) σ') ∧ CLC σ' T ∧ TQ σ0 σ' ∧ CH σ' 39 (hw h k x' y')
  | n, g, 0, _, _, _, _, _, hf, _, _, _ => absurd hf (Nat.not_lt_zero _)
  | 0, g, f + 1, acc, σ, x, y, hg, _, hC, hc, hQ => by
    have : g = 10 := by omega
    subst this
    rw [fX8_whose_68, if_pos (show (9 : Int32) < nI 10 by decide)]
    exact ⟨σ, x, y, rfl, hc, hQ, hC⟩
  | n + 1, g, f + 1, acc, σ, x, y, hg, hf, hC, hc, hQ => by
    obtain ⟨σ1, x1, y1, e1, c1, q1, C1⟩ := c_fits (dn := dn) (i := i) (q := q) (g := g) hT hk hi hN hq (by omega) hB (ys := ys) (bits := bits) (by rw [hQ _ (by omega) (by omega) (by omega)]; exact hs) (fun l hl => by rw [hQ _ (by omega) (by omega) (by omega)]; exact hx l hl) hC hc
    have ep : pW T N k ys h (10 * q + g) = fitB T N k ys (hw h k (nI q) (nI g)) := by
      unfold pW
      rw [show (10 * q + g) / 10 = q by omega, show (10 * q + g) % 10 = g by omega]
    rw [fX8_whose_68, if_neg (show ¬ (9 : Int32) < nI g from fun z => by have := (nI_ltI (a := 9) (by decide) (by omega)).mp z; omega), rld_i hi, bd1_s, e1, bd2_s, Wk, ep]
    simp only [jn, gi0]
    have Q1 := hQ.tr q1
    by_cases z : fitB T N k ys (hw h k (nI q) (nI g)) = true
    · rw [if_pos z, if_pos z]
      by_cases z2 : w = 1
      · subst z2
        rw [if_pos (show nI 1 = (1 : Int32) from rfl), if_pos rfl, show (10 : Int32) * nI q + nI g = nI (10 * q + g) by rw [show (10 : Int32) = nI 10 from rfl, pk_mul, nI_add]]
        exact ⟨σ1, x1, y1, rfl, c1, Q1, C1⟩
      · rw [if_neg (show ¬ nI w = (1 : Int32) from fun e => z2 ((nI_eq (b := 1) (by omega) (by decide)).mp e)), if_neg z2, nI_1]
        exact whose_in hT hk hi hN hq hw1 hB hs hx n (g + 1) f (acc + 1) σ1 x1 y1 (by omega) (by omega) C1 c1 Q1
    · rw [if_neg z, if_neg z, nI_1]
      exact whose_in hT hk hi hN hq hw1 hB hs hx n (g + 1) f acc σ1 x1 y1 (by omega) (by omega) C1 c1 Q1
theorem whose_out {σ0 : St} {T : Tx} {dn k i N w : Nat} (hT : TB T) (hk : k < 8) (hi : i < 4) (hN : N ≤ 40) (hw1 : w ≤ 1) {h : Hs} {D : Int} (hB : HB D dn h) {ys : Nat → Int32} {bits : Int32} (hs : σ0 (59 + 2 * i) 1 = nI N) (hx : ∀ l, l < 40 → SR bits (σ0 (59 + 2 * i + 1) l) (ys l)) : ∀ (n q f : Nat) (acc : Int32) (σ : St) (x y : Int32), q + n = 7 → n < f → CH σ 39 (hw h k x y) → CLC σ T → TQ σ0 σ →
    ∃ σ', fX8_whose_58 (nI i) (nI k) (nI w) f acc (nI q) σ = some (ij (Wk (pW T N k ys h) w acc (10 * q) (10 * n)) σ') ∧ CLC σ' T ∧ TQ σ0 σ'
  | n, q, 0, _, _, _, _, _, hf, _, _, _ => absurd hf (Nat.not_lt_zero _)
  | 0, q, f + 1, acc, σ, x, y, hq, _, hC, hc, hQ => by
    have : q = 7 := by omega
    subst this
    rw [fX8_whose_58, if_pos (show (6 : Int32) < nI 7 by decide)]
    exact ⟨σ, rfl, hc, hQ⟩
  | n + 1, q, f + 1, acc, σ, x, y, hq, hf, hC, hc, hQ => by
    obtain ⟨σ1, x1, y1, e1, c1, Q1, C1⟩ := whose_in (dn := dn) (q := q) hT hk hi hN (by omega) hw1 hB hs hx 10 0 FU acc σ x y rfl (FU_lt (by omega)) hC hc hQ
    rw [Nat.add_zero] at e1
    rw [fX8_whose_58, if_neg (show ¬ (6 : Int32) < nI q from fun z => by have := (nI_ltI (a := 6) (by decide) (by omega)).mp z; omega), show fX8_whose_68 (nI i) (nI k) (nI w) (nI q) FU acc 0 σ = _ from e1, show 10 * (n + 1) = 10 + 10 * n by omega, Wk_add]
    cases hr : Wk (pW T N k ys h) w acc (10 * q) 10 with
    | inl v =>
      simp only [ij, bS2_l]
      exact ⟨σ1, rfl, c1, Q1⟩
    | inr v =>
      simp only [ij, bS2_r]
      rw [nI_1]
      obtain ⟨σ2, e2, c2, Q2⟩ := whose_out hT hk hi hN hw1 hB hs hx n (q + 1) f v σ1 x1 y1 (by omega) (by omega) C1 c1 Q1
      refine ⟨σ2, ?_, c2, Q2⟩
      rw [e2, show 10 * (q + 1) = 10 * q + 10 by omega]; rfl
theorem whose_m {τ0 : St} {T : Tx} {dn k i N : Nat} (hk : k < 8) (hi : i < 4) (hN : N ≤ 40) {h : Hs} {D : Int} (hB : HB D dn h) {ys : Nat → Int32} (hs : τ0 8 i = nI N) (hy : ∀ l, l < 40 → τ0 9 (40 * i + l) = ys l) (w : Int32) : ∀ (n f c : Nat) (a : Int32) (τ : St) (x y : Int32), n ≤ 70 → n < f → MH (τ 1) (hw h k x y) → MLC τ T → TM τ0 τ →
    ∃ τ', fX9_whose_70 (nI i) (nI k) w f (nI c) a (nI n - 1) τ = some (nI (c + cN (pW T N k ys h) 0 n), (match fs (pW T N k ys h) 0 n with | some y => nI y | none => a), τ') ∧ MLC τ' T ∧ TM τ0 τ'
  | n, 0, _, _, _, _, _, _, hf, _, _, _ => absurd hf (Nat.not_lt_zero _)
  | 0, f + 1, c, a, τ, x, y, hn, _, hM, hm, ht => by
    rw [fX9_whose_70, if_pos (show nI 0 - 1 < (0 : Int32) by decide), cN, fs, Nat.add_zero]
    exact ⟨τ, rfl, hm, ht⟩
  | n + 1, f + 1, c, a, τ, x, y, hn, hf, hM, hm, ht => by
    have en : nI (n + 1) - 1 = nI n := by rw [← nI_1, Int32.add_sub_cancel]
    have hq : n / 10 ≤ 6 := by omega
    have hg : n % 10 ≤ 9 := by omega
    rw [fX9_whose_70, en, if_neg (nI_pos (by omega)), show nI n / 10 = nI (n / 10) from pk_div (by omega) (by decide) (by decide), show irm (nI n) 10 = nI (n % 10) from pk_rem (by omega) (by decide) (by decide), puts_eq (x := 0) (w := 0) rfl hk (by decide), bd1_s, puts_eq (x := 2) (w := 2) rfl hk (by decide), bd1_s]
    have M2 := (hM.kd hk (nI (n / 10))).set5 hk (nI (n % 10))
    rw [hw_hw] at M2
    have t2 := (ht.u1 (j := 47 + 5 * k + 0) (nI (n / 10))).u1 (j := 47 + 5 * k + 2) (nI (n % 10))
    obtain ⟨τ1, e1, m1, t1⟩ := m_fits (dn := dn) (i := i) hk hi hN (hB.hw (k := k) hq hg) (ys := ys) (s := u2 (u2 τ 1 (47 + 5 * k + 0) (nI (n / 10))) 1 (47 + 5 * k + 2) (nI (n % 10))) (by rw [t2.2.1 8 (by decide) (by decide) (by decide) (by decide)]; exact hs) (fun l hl => by rw [t2.2.1 9 (by decide) (by decide) (by decide) (by decide)]; exact hy l hl) M2 ((hm.u1 (by omega) (by omega) _).u1 (by omega) (by omega) _)
    have t3 := t2.D t1.D
    have M3 : MH (τ1 1) (hw h k (nI (n / 10)) (nI (n % 10))) := M2.frG t1
    rw [e1, bd2_s, cN_snoc, fs_snoc, Nat.zero_add]
    simp only [jn, gi0]
    rw [show (-1 : Int32) = 0 - 1 by decide, show nI n + (0 - 1) = nI n - 1 by rw [Int32.sub_eq_add_neg, Int32.sub_eq_add_neg, Int32.zero_add]]
    by_cases z : fitB T N k ys (hw h k (nI (n / 10)) (nI (n % 10))) = true
    · have z' : pW T N k ys h n = true := z
      rw [if_pos z, if_pos z, nI_1, if_pos z']
      obtain ⟨τ2, e2, m2, tt⟩ := whose_m (dn := dn) hk hi hN hB hs hy w n f (c + 1) (nI n) τ1 _ _ (by omega) (by omega) M3 m1 t3
      refine ⟨τ2, ?_, m2, tt⟩
      rw [e2, show c + 1 + cN (pW T N k ys h) 0 n = c + (cN (pW T N k ys h) 0 n + 1) by omega]
      cases fs (pW T N k ys h) 0 n with
      | none => simp only [if_pos z']
      | some y => rfl
    · have z' : ¬ pW T N k ys h n = true := z
      rw [if_neg z, if_neg z, Int32.add_zero, if_neg z', Nat.add_zero]
      obtain ⟨τ2, e2, m2, tt⟩ := whose_m (dn := dn) hk hi hN hB hs hy w n f c a τ1 _ _ (by omega) (by omega) M3 m1 t3
      refine ⟨τ2, ?_, m2, tt⟩
      rw [e2]
      cases fs (pW T N k ys h) 0 n with
      | none => simp only [if_neg z']
      | some y => rfl
theorem op_whose {σ τ : St} {m : Nat} (r : Rel σ τ m) (a b c : Int32) : OK2 (fX8_whose a b c σ) (fX9_whose a b c τ) m := by
  have r0 := r
  obtain ⟨h, T, dn, n0, rest⟩ := r
  obtain ⟨a1, a2, a3, a4, a5, a6, a7, a8⟩ := id n0
  obtain ⟨z, rt, rw', rk, rd, rs, rv⟩ := id rest
  have e12 : σ 2 12 = nI dn := by rw [a1.2.2.2.2, a3.d3]
  have e2 : τ 1 2 = nI dn := by rw [a2.1.2.1, a3.d3]
  unfold fX8_whose fX9_whose
  simp only [jn, c_isSheet, c_isDiner e12, c_within, m_isSheet, m_isDiner e2, m_in, bd2_s, gi0, bd2_eta]
  refine ok_if (σ := σ) (τ := τ) (fun h1 => ok_if (σ := σ) (τ := τ) (fun h2 => ok_if (σ := σ) (τ := τ) (fun h3 => ?_) (fun _ => ok_e1 r0)) (fun _ => ok_e1 r0)) (fun _ => ok_e1 r0)
  obtain ⟨i, hi, -, rfl⟩ := rg 3 h1 (by decide)
  obtain ⟨k, hk, hk8, rfl⟩ := rgd a3.dn h2
  obtain ⟨w, hw1, -, rfl⟩ := rg 1 h3 (by decide)
  have hi4 : i < 4 := by omega
  obtain ⟨N, p1, p2, p3, p4, p5, p6⟩ := rs i hi4
  rw [rld_i hi4, bd1_s, ald_i hi4 (by decide), bd1_s, p4]
  by_cases b0 : τ 7 i = 0
  · rw [if_pos b0, if_pos b0]; exact ok_e2 r0
  rw [if_neg b0, if_neg b0]
  obtain ⟨σ1, f1, C1, q1, c1⟩ := think_eq a1 a5
  obtain ⟨τ1, g1, t1, u1, m1⟩ := thinkM_eq a6
  rw [f1, bd1_s, g1, bd1_s]
  obtain ⟨σ2, f2, c2, q2⟩ := whose_out (σ0 := σ) (dn := dn) (N := N) (w := w) a4 hk8 hi4 p1 hw1 a3 (ys := fun l => τ 9 (40 * i + l)) (bits := τ 7 i) p2 (fun l hl => by rw [show 59 + 2 * i + 1 = 60 + 2 * i by omega]; exact p6 l hl) 7 0 FU 0 σ1 (h 3 k) (h 5 k) rfl (FU_lt (by omega)) (by rw [hw_self]; exact C1) c1 q1
  obtain ⟨τ2, g2, m2, t2⟩ := whose_m (τ0 := τ) (dn := dn) (N := N) hk8 hi4 p1 a3 (ys := fun l => τ 9 (40 * i + l)) p3 (fun l hl => rfl) (nI w) 70 FU 0 (-1000000002) τ1 (h 3 k) (h 5 k) (by decide) (FU_lt (by omega)) (by rw [hw_self, u1]; exact a2) m1 t1
  obtain ⟨τ3, g3, t3, u3, m3⟩ := backM_eq a6.1 t2 m2.2
  have R := Rel.q n0 rest q2 c2 t3 u3 m3
  rw [show fX8_whose_58 (nI i) (nI k) (nI w) FU 0 0 σ1 = _ from f2, show fX9_whose_70 (nI i) (nI k) (nI w) FU 0 (-1000000002) 69 τ1 = _ from g2, bd3_s, g3, bd1_s, Nat.zero_add]
  by_cases w0 : w = 0
  · subst w0
    rw [Wk_0 _ (by decide)]
    simp only [ij, bS2_r]
    rw [if_pos (show nI 0 = (0 : Int32) from rfl), if_pos (show nI 0 = (0 : Int32) from rfl), Int32.zero_add]
    exact ok_some _ R
  · have : w = 1 := by omega
    subst this
    rw [Wk_1]
    simp only [if_neg (show ¬ nI 1 = (0 : Int32) by decide)]
    cases hf : fs (pW T N k (fun l => τ 9 (40 * i + l)) h) 0 70 with
    | none =>
      rw [hf] at *
      simp only [ij, bS2_r, hf, if_neg (show ¬ (0 : Int32) ≤ -1000000002 by decide)]
      exact ok_e2 R
    | some y =>
      have hy := fs_lt _ _ _ _ hf
      simp only [ij, bS2_l, hf, if_pos (show (0 : Int32) ≤ nI y from nI_pos' (n := y) (by omega))]
      exact ok_some _ R
/-! loved -/
def gv (T : Tx) (dn k : Nat) (ys : Nat → Int32) : Hs → Nat → Nat → Bool
  | _, _, 0 => true
  | h, j, n + 1 => decide (dayS T dn h 5 k = ys j) && gv T dn k ys (dayS T dn h) (j + 1) n
theorem loved_c {σ0 : St} {T : Tx} {dn k i N : Nat} (hT : TB T) (hk : k < 8) (hi : i < 4) (hN : N ≤ 40) (x y : Int32) {ys : Nat → Int32} {bits : Int32} (hs : σ0 (59 + 2 * i) 1 = nI N) (hx : ∀ l, l < 40 → SR bits (σ0 (59 + 2 * i + 1) l) (ys l)) : ∀ (n j f : Nat) (D : Int) (σ : St) (h : Hs), j + n = N → n + 1 < f → D + n < 1000000000 → CH σ 39 h → HB D dn h → CLC σ T → TQ σ0 σ → ∃ σ', fX8_loved_75 (nI k) (59 + 2 * i) x y f 1 (nI j) σ = some (if gv T dn k ys h j n = true then 1 else 0, σ') ∧ CLC σ' T ∧ TQ σ0 σ'
  | n, j, 0, _, _, _, _, hf, _, _, _, _, _ => absurd hf (Nat.not_lt_zero _)
  | 0, j, f + 1, D, σ, h, hj, _, _, hC, hB, hc, hQ => by
    have : j = N := by omega
    subst this
    rw [fX8_loved_75, if_neg (show ¬ (1 : Int32) = 0 by decide), hQ (59 + 2 * i) (by omega) (by omega) (by omega), hs, if_pos (nI_le (Nat.le_refl _) (by omega))]
    exact ⟨σ, rfl, hc, hQ⟩
  | n + 1, j, f + 1, D, σ, h, hj, hf, hD, hC, hB, hc, hQ => by
    obtain ⟨σ1, e1, C1, B1, c1, q1⟩ := spend1 hH_39 hT (by omega) hC hB hc
    have Q1 := hQ.tr q1.Q
    obtain ⟨v, hv, -, ev⟩ := bt_ex (hi := 9) (B1.2.2.2.2.2.2.2.1 k hk)
    have sm := (hx j (by omega)).small (k := v) (by omega) rfl
    rw [fX8_loved_75, if_neg (show ¬ (1 : Int32) = 0 by decide), hQ (59 + 2 * i) (by omega) (by omega) (by omega), hs, if_neg (nI_ge (by omega) (by omega)), e1, bd1_s, ald_i hk (by decide), bd1_s, ald_i (show j < 40 by omega) (by decide), bd1_s, Q1 (59 + 2 * i + 1) (by omega) (by omega) (by omega), show σ1 45 k = _ from C1.1.2.2.2.2.2.1 k hk, gv]
    simp only [jn]
    by_cases q : dayS T dn h 5 k = ys j
    · rw [if_pos (show dayS T dn h 5 k = σ0 (59 + 2 * i + 1) j by rw [ev]; exact (sm.mpr (q.symm.trans ev)).symm), nI_1, decide_eq_true q, Bool.true_and]
      exact loved_c hT hk hi hN x y hs hx n (j + 1) f (D + 1) σ1 _ (by omega) (by omega) (by omega) C1 B1 c1 Q1
    · rw [if_neg (show ¬ dayS T dn h 5 k = σ0 (59 + 2 * i + 1) j from fun w => q (ev.trans (sm.mp (w.symm.trans ev)).symm)), decide_eq_false q, Bool.false_and]
      cases f with
      | zero => omega
      | succ f =>
        rw [fX8_loved_75, if_pos rfl]
        exact ⟨σ1, rfl, c1, Q1⟩
theorem loved_m {τ0 : St} {T : Tx} {dn k i N : Nat} (hT : TB T) (hk : k < 8) (hi : i < 4) (hN : N ≤ 40) {ys : Nat → Int32} (hs : τ0 8 i = nI N) (hy : ∀ l, l < 40 → τ0 9 (40 * i + l) = ys l) : ∀ (n j f : Nat) (D : Int) (τ : St) (h : Hs), j + n = N → n + 1 < f → D + n < 1000000000 → MH (τ 1) h → HB D dn h → MLC τ T → TM τ0 τ → ∃ τ', fX9_grievesSo_5 (nI i) (nI k) f 1 (nI j) τ = some (if gv T dn k ys h j n = true then 1 else 0, τ') ∧ MLC τ' T ∧ TM τ0 τ'
  | n, j, 0, _, _, _, _, hf, _, _, _, _, _ => absurd hf (Nat.not_lt_zero _)
  | 0, j, f + 1, D, τ, h, hj, _, _, hM, hB, hm, ht => by
    have : j = N := by omega
    subst this
    rw [fX9_grievesSo_5, ald_i hi (by decide), bd1_s, ht.2.1 8 (by decide) (by decide) (by decide) (by decide), hs, if_pos (nI_le (Nat.le_refl _) (by omega))]
    exact ⟨τ, rfl, hm, ht⟩
  | n + 1, j, f + 1, D, τ, h, hj, hf, hD, hM, hB, hm, ht => by
    obtain ⟨τ1, e1, M1, m1, t1⟩ := oneDay_eq hT hM hB hm
    have T1 := ht.D t1
    rw [fX9_grievesSo_5, ald_i hi (by decide), bd1_s, ht.2.1 8 (by decide) (by decide) (by decide) (by decide), hs, if_neg (nI_ge (by omega) (by omega)), if_neg (show ¬ (1 : Int32) = 0 by decide), e1, bd1_s, show (40 : Int32) * nI i + nI j = nI (40 * i + j) by rw [show (40 : Int32) = nI 40 from rfl, pk_mul, nI_add], ald_i (show 40 * i + j < 160 by omega) (by decide), bd1_s, its_eq (x := 2) (w := 2) rfl hk (by decide), bd2_s, T1.2.1 9 (by decide) (by decide) (by decide) (by decide), hy j (by omega), (M1.2.2.2 k hk).2.2.1, gv]
    simp only [jn]
    have B1 : HB (D + 1) dn (dayS T dn h) := dayS_b hT (by omega) hB
    by_cases q : dayS T dn h 5 k = ys j
    · rw [if_pos q.symm, nI_1, decide_eq_true q, Bool.true_and]
      exact loved_m hT hk hi hN hs hy n (j + 1) f (D + 1) τ1 _ (by omega) (by omega) (by omega) M1 B1 m1 T1
    · rw [if_neg (fun w => q w.symm), decide_eq_false q, Bool.false_and, nI_1]
      cases f with
      | zero => omega
      | succ f =>
        rw [fX9_grievesSo_5, ald_i hi (by decide), bd1_s]
        refine ⟨τ1, ?_, m1, T1⟩
        by_cases w : τ1 8 i ≤ nI (j + 1)
        · rw [if_pos w]; rfl
        · rw [if_neg w, if_pos rfl]; rfl
theorem loved_loop {σ0 τ0 : St} {T : Tx} {dn k i N : Nat} {h : Hs} (hT : TB T) (hk : k < 8) (hi : i < 4) (hN : N ≤ 40) (hC0 : CH σ0 2 h) (hM0 : MH (τ0 1) h) (hB : HB 9999 dn h) (h0 : ML τ0 T) {ys : Nat → Int32} {bits : Int32} (hs : σ0 (59 + 2 * i) 1 = nI N) (hx : ∀ l, l < 40 → SR bits (σ0 (59 + 2 * i + 1) l) (ys l)) (hs2 : τ0 8 i = nI N) (hy : ∀ l, l < 40 → τ0 9 (40 * i + l) = ys l) : ∀ (n e f g : Nat) (acc : Int32) (σ τ : St), e + n = 8 → n < f → n < g → TQ σ0 σ → CLC σ T → TM τ0 τ → (∀ j, j < 257 → τ 1 j = τ0 1 j) → MLC τ T →
    ∃ x σ' τ', fX8_loved_47 (nI k) (59 + 2 * i) f acc (nI e) σ = some (x, σ') ∧ fX9_loved_55 (nI i) (nI k) g acc (nI e) τ = some (x, τ') ∧ TQ σ0 σ' ∧ CLC σ' T ∧ TM τ0 τ' ∧ (∀ j, j < 257 → τ' 1 j = τ0 1 j) ∧ MLC τ' T
  | n, e, 0, _, _, _, _, _, hf, _, _, _, _, _, _ => absurd hf (Nat.not_lt_zero _)
  | n, e, _, 0, _, _, _, _, _, hg, _, _, _, _, _ => absurd hg (Nat.not_lt_zero _)
  | 0, e, f + 1, g + 1, acc, σ, τ, he, _, _, q, c, t, re, ml => by
    have : e = 8 := by omega
    subst this
    rw [fX8_loved_47, fX9_loved_55, if_pos (show (8 : Int32) ≤ nI 8 by decide), if_pos (show (8 : Int32) ≤ nI 8 by decide)]
    exact ⟨acc, σ, τ, rfl, rfl, q, c, t, re, ml⟩
  | n + 1, e, f + 1, g + 1, acc, σ, τ, he, hf, hg, q, c, t, re, ml => by
    obtain ⟨σ1, e1, C1, q1, c1⟩ := think_eq (hC0.q q) c
    have B1 : HB 9999 dn (hset h 6 k (nI e)) := hB.set6 (bt_nI (by omega) (by omega))
    obtain ⟨σ2, e2, c2, q2⟩ := loved_c (σ0 := σ0) (dn := dn) (N := N) hT hk hi hN acc (nI e) hs hx N 0 FU 9999 (u2 σ1 46 k (nI e)) (hset h 6 k (nI e)) (by omega) (FU_lt (by omega)) (by omega) (C1.set6 (k := k) (nI e)) B1 (c1.u2c (by decide) _) ((q.tr q1).tr (TQ.u (by decide) _))
    have hM : MH (τ 1) h := hM0.of (fun j hj => re j (by omega))
    obtain ⟨τ1, g1, m1, t1⟩ := loved_m (τ0 := τ0) (dn := dn) (N := N) hT hk hi hN hs2 hy N 0 FU 9999 (u2 τ 1 (47 + 5 * k + 3) (nI e)) (hset h 6 k (nI e)) (by omega) (FU_lt (by omega)) (by omega) (hM.lo hk (nI e)) B1 (ml.u1 (by omega) (by omega) _) (t.u1 _)
    obtain ⟨τ2, g2, t2, u2', m2⟩ := backM_eq h0 t1 m1.2
    rw [fX8_loved_47, fX9_loved_55, if_neg (show ¬ (8 : Int32) ≤ nI e from nI_ge (b := 8) (by omega) (by decide)), if_neg (show ¬ (8 : Int32) ≤ nI e from nI_ge (b := 8) (by omega) (by decide)), e1, bd1_s, ast_i hk (by decide), bd1_s, show fX8_loved_75 (nI k) (59 + 2 * i) acc (nI e) FU 1 0 _ = _ from e2, bd2_s, puts_eq (x := 3) (w := 3) rfl hk (by decide), bd1_s]
    unfold fX9_grievesSo
    rw [show fX9_grievesSo_5 (nI i) (nI k) FU 1 0 _ = _ from g1, bd2_s, g2, bd1_s, gb01, bd2_s]
    simp only [jn, gi0]
    rw [nI_1]
    by_cases z : gv T dn k ys (hset h 6 k (nI e)) 0 N = true
    · rw [if_pos z, if_pos z]
      exact loved_loop hT hk hi hN hC0 hM0 hB h0 hs hx hs2 hy n (e + 1) f g _ σ2 τ2 (by omega) (by omega) (by omega) q2 c2 t2 u2' m2
    · rw [if_neg z, if_neg z, show acc ||| 0 = acc by simp]
      exact loved_loop hT hk hi hN hC0 hM0 hB h0 hs hx hs2 hy n (e + 1) f g _ σ2 τ2 (by omega) (by omega) (by omega) q2 c2 t2 u2' m2
theorem op_loved {σ τ : St} {m : Nat} (r : Rel σ τ m) (a b : Int32) : OK2 (fX8_loved a b σ) (fX9_loved a b τ) m := by
  have r0 := r
  obtain ⟨h, T, dn, n0, rest⟩ := r
  obtain ⟨a1, a2, a3, a4, a5, a6, a7, a8⟩ := id n0
  obtain ⟨z, rt, rw', rk, rd, rs, rv⟩ := id rest
  have e12 : σ 2 12 = nI dn := by rw [a1.2.2.2.2, a3.d3]
  have e2 : τ 1 2 = nI dn := by rw [a2.1.2.1, a3.d3]
  unfold fX8_loved fX9_loved
  simp only [jn, c_isSheet, c_isDiner e12, m_isSheet, m_isDiner e2, bd2_s, gi0, bd2_eta]
  refine ok_if (σ := σ) (τ := τ) (fun h1 => ok_if (σ := σ) (τ := τ) (fun h2 => ?_) (fun _ => ok_e1 r0)) (fun _ => ok_e1 r0)
  obtain ⟨i, hi, -, rfl⟩ := rg 3 h1 (by decide)
  obtain ⟨k, hk, hk8, rfl⟩ := rgd a3.dn h2
  have hi4 : i < 4 := by omega
  obtain ⟨N, p1, p2, p3, p4, p5, p6⟩ := rs i hi4
  rw [rld_i hi4, bd1_s, ald_i hi4 (by decide), bd1_s, p4]
  by_cases b0 : τ 7 i = 0
  · rw [if_pos b0, if_pos b0]; exact ok_e2 r0
  rw [if_neg b0, if_neg b0]
  obtain ⟨τ1, g1, t1, u1, m1⟩ := thinkM_eq a6
  obtain ⟨x, σ2, τ2, f2, g2, q2, c2, t2, u2', m2⟩ := loved_loop (σ0 := σ) (τ0 := τ) (dn := dn) (N := N) a4 hk8 hi4 p1 a1 a2 a3 a6.1 (ys := fun l => τ 9 (40 * i + l)) (bits := τ 7 i) p2 (fun l hl => by rw [show 59 + 2 * i + 1 = 60 + 2 * i by omega]; exact p6 l hl) p3 (fun l hl => rfl) 8 0 FU FU 0 σ τ1 rfl (FU_lt (by omega)) (FU_lt (by omega)) (TQ.rf σ) a5 t1 (fun j _ => by rw [u1]) m1
  rw [g1, bd1_s, show fX8_loved_47 (nI k) (59 + 2 * i) FU 0 0 σ = _ from f2, show fX9_loved_55 (nI i) (nI k) FU 0 0 τ1 = _ from g2]
  exact ok_some _ (Rel.q n0 rest q2 c2 t2 u2' m2)
