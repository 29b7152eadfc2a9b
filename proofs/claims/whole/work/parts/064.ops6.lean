/-! the least of which P holds, from i on -/
def lsg (P : Nat → Prop) [DecidablePred P] : Nat → Nat → Option Nat
  | 0, _ => none
  | n + 1, i => if P i then some i else lsg P n (i + 1)
theorem lsg_some {P : Nat → Prop} [DecidablePred P] {j : Nat} : ∀ {n i : Nat}, lsg P n i = some j → i ≤ j ∧ j < i + n ∧ P j ∧ ∀ k, i ≤ k → k < j → ¬ P k
  | 0, _, h => by cases h
  | n + 1, i, h => by
    unfold lsg at h
    split at h
    · next q => cases h; exact ⟨Nat.le_refl _, by omega, q, fun k h1 h2 => absurd h1 (by omega)⟩
    · next q =>
      obtain ⟨h1, h2, h3, h4⟩ := lsg_some h
      refine ⟨by omega, by omega, h3, fun k k1 k2 => ?_⟩
      by_cases hk : k = i
      · subst hk; exact q
      · exact h4 k (by omega) k2
theorem lsg_none {P : Nat → Prop} [DecidablePred P] : ∀ {n i : Nat}, lsg P n i = none → ∀ k, i ≤ k → k < i + n → ¬ P k
  | 0, _, _, k, h1, h2 => absurd h2 (by omega)
  | n + 1, i, h, k, h1, h2 => by
    unfold lsg at h
    split at h
    · cases h
    · next q =>
      by_cases hk : k = i
      · subst hk; exact q
      · exact lsg_none h k (by omega) (by omega)
/-! first -/
theorem who2_eq {T : Tx} (hT : TB T) {D : Int} {dn b : Nat} (hb : isH b) {h : Hs} (hB : HB D dn h) : ∀ (n k f : Nat) (σ : St), k + n = dn → n < f → CH σ b h → CLC σ T → ∃ σ', fX0_whoLeavesSweet_2 b f (nI k) σ = some (match lsg (fun k => lft T h 5 k = 4) n k with | none => .inr σ' | some j => .inl (nI j, σ')) ∧ CLC σ' T ∧ Fr σ σ'
  | n, k, 0, _, _, hf, _, _ => absurd hf (Nat.not_lt_zero _)
  | 0, k, f + 1, σ, hk, _, hC, c => by
    have : k = dn := by omega
    subst this
    rw [fX0_whoLeavesSweet_2, hC.2.2.2.2, hB.d3, if_pos (nI_le (Nat.le_refl _) (by have := hB.dn; omega))]
    exact ⟨σ, rfl, c, Fr.rf σ⟩
  | n + 1, k, f + 1, σ, hk, hf, hC, c => by
    have := hB.dn
    rw [fX0_whoLeavesSweet_2, hC.2.2.2.2, hB.d3, if_neg (nI_ge (by omega) (by omega))]
    obtain ⟨σ1, e1, c1, f1⟩ := leftOf_eq hT hC hB c (show 5 < 6 by decide) (show k < 8 by omega)
    rw [show fX0_leftOf b 5 (nI k) σ = some (lft T h 5 k, σ1) from e1, bd2_s]
    by_cases q : lft T h 5 k = 4
    · rw [if_pos q]
      refine ⟨σ1, ?_, c1, f1⟩
      simp only [lsg, if_pos q]
    · rw [if_neg q, nI_1]
      obtain ⟨σ2, e2, c2, f2⟩ := who2_eq hT hb hB n (k + 1) f σ1 (by omega) (by omega) (hC.frL hb f1) c1
      refine ⟨σ2, ?_, c2, f1.tr f2⟩
      rw [e2]
      simp only [lsg, if_neg q]
theorem who_eq {T : Tx} (hT : TB T) {D : Int} {dn b : Nat} (hb : isH b) {h : Hs} (hB : HB D dn h) {σ : St} (hC : CH σ b h) (c : CLC σ T) : ∃ σ', fX0_whoLeavesSweet b σ = some (mxv (lsg (fun k => lft T h 5 k = 4) dn 0), σ') ∧ CLC σ' T ∧ Fr σ σ' := by
  obtain ⟨σ', e, q⟩ := who2_eq hT hb hB dn 0 FU σ (by omega) (FU_lt (by have := hB.dn; omega)) hC c
  refine ⟨σ', ?_, q⟩
  unfold fX0_whoLeavesSweet
  rw [show fX0_whoLeavesSweet_2 b FU 0 σ = _ from e]
  cases lsg (fun k => lft T h 5 k = 4) dn 0 with
  | none => rfl
  | some j => rfl
theorem hm_zero {T : Tx} {h : Hs} : ∀ {n : Nat}, (∀ k, k < n → ¬ lft T h 5 k = 4) → hm T h n = 0
  | 0, _ => rfl
  | n + 1, q => by
    unfold hm
    rw [if_neg (q n (by omega))]
    exact hm_zero (fun k hk => q k (by omega))
theorem first_loop {σ0 τ0 : St} {T : Tx} {dn : Nat} (hT : TB T) (w : Int32) : ∀ (n i f g : Nat) (D : Int) (σ τ : St) (h : Hs), i + n = 61 → n < f → n < g → D + n < 1000000000 → CH σ 39 h → MH (τ 1) h → HB D dn h → TQ σ0 σ → CLC σ T → TM τ0 τ → MLC τ T → τ 0 16 = nI (hm T h dn) →
    ∃ σ' τ', TQ σ0 σ' ∧ CLC σ' T ∧ TM τ0 τ' ∧ MLC τ' T ∧ ((∃ j k M, j ≤ 60 ∧ k < 8 ∧ M < 2 ^ 31 ∧ M.testBit k = true ∧ (∀ i, i < k → M.testBit i = false) ∧ τ' 0 16 = nI M ∧ fX8_first_21 w f (nI i) σ = some (.inl (if w = 0 then nI j else nI k, σ')) ∧ fX9_first_34 w g (nI i) τ = some (nI j, τ')) ∨ (fX8_first_21 w f (nI i) σ = some (.inr σ') ∧ fX9_first_34 w g (nI i) τ = some (nI 61, τ')))
  | n, i, 0, _, _, _, _, _, _, hf, _, _, _, _, _, _, _, _, _, _ => absurd hf (Nat.not_lt_zero _)
  | n, i, _, 0, _, _, _, _, _, _, hg, _, _, _, _, _, _, _, _, _ => absurd hg (Nat.not_lt_zero _)
  | 0, i, f + 1, g + 1, D, σ, τ, h, hi, _, _, _, hC, hM, hB, q, c, t, ml, h16 => by
    have : i = 61 := by omega
    subst this
    refine ⟨σ, τ, q, c, t, ml, Or.inr ⟨?_, ?_⟩⟩
    · rw [fX8_first_21, if_pos (by decide)]
    · rw [fX9_first_34, if_pos (by decide)]
  | n + 1, i, f + 1, g + 1, D, σ, τ, h, hi, hf, hg, hD, hC, hM, hB, q, c, t, ml, h16 => by
    have hd8 := hB.dn
    rw [fX8_first_21, fX9_first_34, if_neg (fun z => by have := (i60 (by omega)).mp z; omega), if_neg (fun z => by have := (i60 (by omega)).mp z; omega)]
    obtain ⟨σ1, e1, c1, f1⟩ := who_eq hT hH_39 hB hC c
    rw [e1, bd2_s, h16]
    have hlt := hm31 T h hB.dn
    cases hx : lsg (fun k => lft T h 5 k = 4) dn 0 with
    | none =>
      have hz : hm T h dn = 0 := hm_zero (fun k hk => lsg_none hx k (by omega) (by omega))
      rw [if_pos (show mxv none < 0 by decide), if_pos (show nI (hm T h dn) = 0 by rw [hz]; rfl)]
      obtain ⟨σ2, e2, C2, B2, c2, q2⟩ := spend1 hH_39 hT (by omega) (hC.frL hH_39 f1) hB c1
      obtain ⟨τ1, g1, M1, m1, t1⟩ := oneDay_eq hT hM hB ml
      obtain ⟨τ2, g2, m2, t2, u2', v2⟩ := heart_eq B2 M1 m1
      rw [e2, bd1_s, g1, bd1_s, g2, bd1_s, nI_1]
      exact first_loop hT w n (i + 1) f g (D + 1) σ2 τ2 _ (by omega) (by omega) (by omega) (by omega) C2 (by rw [u2']; exact M1) B2 ((q.tr f1.Q).tr q2.Q) c2 ((t.D t1).D t2) m2 v2
    | some k =>
      obtain ⟨-, k2, k3, k4⟩ := lsg_some hx
      have hb : (hm T h dn).testBit k = true := by rw [hm_bit]; exact decide_eq_true ⟨by omega, k3⟩
      have hnz : hm T h dn ≠ 0 := fun z => by rw [z] at hb; simp at hb
      rw [if_neg (show ¬ mxv (some k) < 0 from nI_pos (n := k) (by omega)), if_neg (show ¬ nI (hm T h dn) = (0 : Int32) from fun z => hnz ((nI_eq hlt (by decide)).mp (show nI (hm T h dn) = nI 0 from z)))]
      refine ⟨σ1, τ, q.tr f1.Q, c1, t, ml, Or.inl ⟨i, k, hm T h dn, by omega, by omega, hlt, hb, fun j hj => ?_, h16, ?_, rfl⟩⟩
      · rw [hm_bit]; exact decide_eq_false (fun z => k4 j (by omega) hj z.2)
      · by_cases hw : w = 0
        · rw [if_pos hw, if_pos hw]
        · rw [if_neg hw, if_neg hw]; rfl
theorem bit_loop {s : St} {M k : Nat} (a b : Int32) (hM : M < 2 ^ 31) (hk : k < 8) (h1 : M.testBit k = true) (h2 : ∀ i, i < k → M.testBit i = false) (h16 : s 0 16 = nI M) : ∀ (n i f : Nat), i + n = k → n < f → fX9_first_88 a b f (nI i) s = some (nI k, s)
  | n, i, 0, _, hf => absurd hf (Nat.not_lt_zero _)
  | 0, i, f + 1, hi, _ => by
    have : i = k := by omega
    subst this
    rw [fX9_first_88, h16, if_neg (fun z => by
      have := (shr_test hM hk).mpr h1
      rw [z] at this; exact absurd this (by decide))]
  | n + 1, i, f + 1, hi, hf => by
    rw [fX9_first_88, h16, if_pos (by
      rw [shr_bit hM (by omega)]
      have q := h2 i (by omega)
      rw [Nat.testBit_eq_decide_div_mod_eq] at q
      have q2 := of_decide_eq_false q
      rw [show M / 2 ^ i % 2 = 0 by omega]; rfl), nI_1]
    exact bit_loop a b hM hk h1 h2 h16 n (i + 1) f (by omega) (by omega)
theorem op_first {σ τ : St} {m : Nat} (r : Rel σ τ m) (a : Int32) : OK2 (fX8_first a σ) (fX9_first a τ) m := by
  have r0 := r
  obtain ⟨h, T, dn, n0, rest⟩ := r
  obtain ⟨a1, a2, a3, a4, a5, a6, a7, a8⟩ := id n0
  unfold fX8_first fX9_first
  simp only [c_within, m_in, bd2_s, gi0, bd2_eta]
  refine ok_if (σ := σ) (τ := τ) (fun h1 => ?_) (fun _ => ok_e1 r0)
  obtain ⟨σ1, e1, C1, q1, c1⟩ := think_eq a1 a5
  obtain ⟨τ1, g1, t1, u1, m1⟩ := thinkM_eq a6
  obtain ⟨τ2, g2, m2, t2, u2', v2⟩ := heart_eq a3 (s := τ1) (by rw [u1]; exact a2) m1
  rw [e1, bd1_s, g1, bd1_s, g2, bd1_s]
  obtain ⟨σ3, τ3, q3, c3, t3, m3, hor⟩ := first_loop (σ0 := σ) (τ0 := τ) a4 a 61 0 FU FU 9999 σ1 τ2 h rfl (FU_lt (by omega)) (FU_lt (by omega)) (by decide) C1 (by rw [u2', u1]; exact a2) a3 q1 c1 (t1.D t2) m2 v2
  obtain ⟨t, e4, f4, gg4⟩ := moveAll_eq (p := 3) (q := 1) (by decide) τ3
  have re4 : ∀ j, j < 257 → t 1 j = τ 1 j := fun j hj => (gg4 j hj).trans (t3.1 j hj)
  have t4 : TM τ t := ⟨fun j hj => by rw [f4 3 (by decide)]; exact t3.1 j hj, fun k h0 h1 h3 h6 => (f4 k h1).trans (t3.2.1 k h0 h1 h3 h6), fun j hj => by rw [f4 0 (by decide)]; exact t3.2.2 j hj⟩
  have m4 : MLC t T := ⟨a6.1.fr (fun j hj => re4 j (by omega)), m3.2.fr (f4 6 (by decide))⟩
  have R := Rel.q n0 rest q3 c3 t4 re4 m4
  rcases hor with ⟨j, k, M, hj, hk, hM, b1, b2, h16, f1, f2⟩ | ⟨f1, f2⟩
  · rw [show fX8_first_21 a FU 0 σ1 = _ from f1, bS1_l, show fX9_first_34 a FU 0 τ2 = _ from f2, bd2_s, e4, bd1_s, if_pos (show nI j ≤ 60 from nI_le hj (by decide)), show fX9_first_88 a (nI j) FU 0 t = some (nI k, t) from bit_loop a (nI j) hM hk b1 b2 (by rw [f4 0 (by decide)]; exact h16) k 0 FU (by omega) (FU_lt (by omega)), bd2_s]
    by_cases ha : a = 0
    · rw [if_pos ha, if_pos ha]; exact ok_some _ R
    · rw [if_neg ha, if_neg ha]; exact ok_some _ R
  · rw [show fX8_first_21 a FU 0 σ1 = _ from f1, bS1_r, show fX9_first_34 a FU 0 τ2 = _ from f2, bd2_s, e4, bd1_s, if_neg (show ¬ nI 61 ≤ 60 by decide)]
    exact ok_e2 R
/-! check -/
theorem check_loop {σ0 τ0 : St} {T : Tx} {dn N : Nat} (hT : TB T) (hN : N ≤ 20) (hw : ∀ i, i < N → σ0 15 i = τ0 1 (137 + i)) : ∀ (n i f g : Nat) (D : Int) (σ τ : St) (h : Hs), i + n = N → n < f → n + 1 < g → D + n < 1000000000 → CH σ 39 h → MH (τ 1) h → HB D dn h → TQ σ0 σ → CLC σ T → TM τ0 τ → MLC τ T → (∀ j, 87 ≤ j → τ 1 j = τ0 1 j) →
    ∃ σ' τ', TQ σ0 σ' ∧ CLC σ' T ∧ TM τ0 τ' ∧ MLC τ' T ∧ ((∃ j, fX8_check_28 (nI N) f (nI i) σ = some (.inl (1 + nI j, σ')) ∧ fX9_check_32 (nI N) g (nI i) 1 τ = some (nI j, 0, τ')) ∨ (fX8_check_28 (nI N) f (nI i) σ = some (.inr σ') ∧ ∃ j, fX9_check_32 (nI N) g (nI i) 1 τ = some (j, 1, τ')))
  | n, i, 0, _, _, _, _, _, _, hf, _, _, _, _, _, _, _, _, _, _ => absurd hf (Nat.not_lt_zero _)
  | n, i, _, 0, _, _, _, _, _, _, hg, _, _, _, _, _, _, _, _, _ => absurd hg (Nat.not_lt_zero _)
  | 0, i, f + 1, g + 1, D, σ, τ, h, hi, _, _, _, hC, hM, hB, q, c, t, ml, hr => by
    have : i = N := by omega
    subst this
    refine ⟨σ, τ, q, c, t, ml, Or.inr ⟨?_, nI i, ?_⟩⟩
    · rw [fX8_check_28, if_pos (nI_le (Nat.le_refl _) (by omega))]
    · rw [fX9_check_32, if_pos (nI_le (Nat.le_refl _) (by omega))]
  | n + 1, i, f + 1, g + 1, D, σ, τ, h, hi, hf, hg, hD, hC, hM, hB, q, c, t, ml, hr => by
    rw [fX8_check_28, fX9_check_32, if_neg (nI_ge (by omega) (by omega)), if_neg (nI_ge (by omega) (by omega)), if_neg (show ¬ (1 : Int32) = 0 by decide)]
    obtain ⟨σ1, e1, C1, B1, c1, q1⟩ := spend1 hH_39 hT (by omega) hC hB c
    obtain ⟨τ1, g1, M1, m1, t1⟩ := oneDay_eq hT hM hB ml
    have Q := q.tr q1.Q
    rw [e1, bd1_s, ald_i (show i < 20 by omega) (by decide), bd1_s, g1, bd1_s, ald1 (x := 4) (i := 4) rfl (by decide), bd1_s, ald1 (x := 137 + nI i) (i := 137 + i) (by rw [show (137 : Int32) = nI 137 from rfl, nI_add]) (by omega), bd1_s, M1.1.2.2.2, show σ1 39 10 = _ from C1.2.2.1, show σ1 15 i = σ0 15 i by rw [Q 15 (by decide) (by decide) (by decide)], hw i (by omega), show τ1 1 (137 + i) = τ0 1 (137 + i) by rw [t1.2.1 _ (by omega), hr _ (by omega)]]
    simp only [jn]
    by_cases z : dayS T dn h 8 1 = τ0 1 (137 + i)
    · rw [if_pos z, if_pos z, if_neg (show ¬ (1 : Int32) = 0 by decide), nI_1]
      exact check_loop hT hN hw n (i + 1) f g (D + 1) σ1 τ1 _ (by omega) (by omega) (by omega) (by omega) C1 M1 B1 Q c1 (t.D t1) m1 (fun j hj => by rw [t1.2.1 _ (by omega), hr _ hj])
    · rw [if_neg z, if_neg z, if_pos trivial, show nI i + 0 = nI i by simp]
      refine ⟨σ1, τ1, Q, c1, t.D t1, m1, Or.inl ⟨i, rfl, ?_⟩⟩
      cases g with
      | zero => omega
      | succ g => rw [fX9_check_32, if_neg (nI_ge (by omega) (by omega)), if_pos rfl]
