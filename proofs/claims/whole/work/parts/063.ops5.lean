/-! cheer: the most grief -/
def lal (T : Tx) (h : Hs) (k : Nat) : Int32 := sm (fun c => lft T h c k) 6
theorem c_leftAll5 {T : Tx} (hT : TB T) {D : Int} {dn b k : Nat} (hb : isH b) (hk : k < 8) {h : Hs} (hB : HB D dn h) : ∀ (n c f : Nat) (σ : St), c + n = 6 → n < f → CH σ b h → CLC σ T → ∃ σ', fX0_leftOfAll_5 b (nI k) f (sm (fun c => lft T h c k) c) (nI c) σ = some (lal T h k, σ') ∧ CLC σ' T ∧ Fr σ σ'
  | n, c, 0, _, _, hf, _, _ => absurd hf (Nat.not_lt_zero _)
  | 0, c, f + 1, σ, hc, _, _, cc => by
    have : c = 6 := by omega
    subst this
    rw [fX0_leftOfAll_5, if_pos (by decide)]
    exact ⟨σ, rfl, cc, Fr.rf σ⟩
  | n + 1, c, f + 1, σ, hc, hf, hC, cc => by
    rw [fX0_leftOfAll_5, if_neg (show ¬ (6 : Int32) ≤ nI c from nI_ge (b := 6) (by omega) (by decide))]
    obtain ⟨σ1, e1, c1, f1⟩ := leftOf_eq hT hC hB cc (show c < 6 by omega) hk
    rw [e1, bd2_s, nI_1]
    obtain ⟨σ2, e2, c2, f2⟩ := c_leftAll5 hT hb hk hB n (c + 1) f σ1 (by omega) (by omega) (hC.frL hb f1) c1
    exact ⟨σ2, e2, c2, f1.tr f2⟩
theorem c_leftAll {T : Tx} (hT : TB T) {D : Int} {dn b k : Nat} (hb : isH b) (hk : k < 8) {h : Hs} (hB : HB D dn h) {σ : St} (hC : CH σ b h) (cc : CLC σ T) : ∃ σ', fX0_leftOfAll b (nI k) σ = some (lal T h k, σ') ∧ CLC σ' T ∧ Fr σ σ' := by
  obtain ⟨σ', e, q⟩ := c_leftAll5 hT hb hk hB 6 0 FU σ rfl (FU_lt (by omega)) hC cc
  unfold fX0_leftOfAll
  rw [show fX0_leftOfAll_5 b (nI k) FU 0 0 σ = some (lal T h k, σ') from e, bd2_s]
  exact ⟨σ', rfl, q⟩
theorem m_leftAll4 {T : Tx} {D : Int} {dn k : Nat} (hk : k < 8) {h : Hs} (hB : HB D dn h) : ∀ (n c f : Nat) (s : St), c + n = 6 → n < f → MH (s 1) h → MLC s T → ∃ t, fX9_leftOfAll_4 (nI k) f (sm (fun c => lft T h c k) c) (nI c) s = some (lal T h k, t) ∧ MLC t T ∧ FrG s t
  | n, c, 0, _, _, hf, _, _ => absurd hf (Nat.not_lt_zero _)
  | 0, c, f + 1, s, hc, _, _, cc => by
    have : c = 6 := by omega
    subst this
    rw [fX9_leftOfAll_4, if_pos (by decide)]
    exact ⟨s, rfl, cc, FrG.rf s⟩
  | n + 1, c, f + 1, s, hc, hf, hM, cc => by
    rw [fX9_leftOfAll_4, if_neg (show ¬ (6 : Int32) ≤ nI c from nI_ge (b := 6) (by omega) (by decide))]
    obtain ⟨s1, e1, c1, f1⟩ := m_left hM hB cc (x := nI c) rfl (show c < 6 by omega) hk
    rw [e1, bd2_s, nI_1]
    obtain ⟨s2, e2, c2, f2⟩ := m_leftAll4 hk hB n (c + 1) f s1 (by omega) (by omega) (hM.frG f1) c1
    exact ⟨s2, e2, c2, f1.tr f2⟩
theorem m_leftAll {T : Tx} {D : Int} {dn k : Nat} (hk : k < 8) {h : Hs} (hB : HB D dn h) {s : St} (hM : MH (s 1) h) (cc : MLC s T) : ∃ t, fX9_leftOfAll (nI k) s = some (lal T h k, t) ∧ MLC t T ∧ FrG s t := by
  obtain ⟨t, e, q⟩ := m_leftAll4 hk hB 6 0 FU s rfl (FU_lt (by omega)) hM cc
  unfold fX9_leftOfAll
  rw [show fX9_leftOfAll_4 (nI k) FU 0 0 s = some (lal T h k, t) from e, bd2_s]
  exact ⟨t, rfl, q⟩
/-- the greatest below n of which P holds -/
def mxg (P : Nat → Prop) [DecidablePred P] : Nat → Option Nat
  | 0 => none
  | n + 1 => if P n then some n else mxg P n
def mxv (o : Option Nat) : Int32 := match o with
  | none => -1
  | some n => nI n
theorem mxg_lt {P : Nat → Prop} [DecidablePred P] {k : Nat} : ∀ {n : Nat}, mxg P n = some k → k < n
  | 0, h => by cases h
  | n + 1, h => by
    unfold mxg at h
    split at h
    · cases h; omega
    · have := mxg_lt h; omega
theorem cheer_c {σ0 : St} {T : Tx} {dn k : Nat} {h : Hs} (hT : TB T) (hk : k < 8) (v : Int32) (hB : HB 9999 dn h) : ∀ (n f : Nat) (σ : St) (x : Int32), n ≤ 10 → n < f → CH σ 39 (hset h 5 k x) → TQ σ0 σ → CLC σ T →
    ∃ σ', TQ σ0 σ' ∧ CLC σ' T ∧ fX8_cheer_31 (nI k) v f (nI n - 1) σ = some (match mxg (fun g => ¬ v < lal T (hset h 5 k (nI g)) k) n with | none => .inr σ' | some g => .inl (nI g, σ'))
  | n, 0, _, _, _, hf, _, _, _ => absurd hf (Nat.not_lt_zero _)
  | 0, f + 1, σ, x, _, _, hC, q, c => by
    rw [fX8_cheer_31, if_pos (by decide)]
    exact ⟨σ, q, c, rfl⟩
  | n + 1, f + 1, σ, x, hn, hf, hC, q, c => by
    rw [nI_pred, fX8_cheer_31, if_neg (nI_pos (by omega)), ast_i hk (by decide), bd1_s]
    have C1 := hC.set5 (k := k) (nI n)
    rw [hset_hset] at C1
    have B1 := hB.set5 (k := k) (v := nI n) (bt_nI (by omega) (by omega))
    obtain ⟨σ1, e1, c1, f1⟩ := c_leftAll hT hH_39 hk B1 C1 (c.u2c (by decide) _)
    have q1 := (q.tr (TQ.u (σ := σ) (k := 45) (j := k) (by decide) (nI n))).tr f1.Q
    rw [e1, bd2_s]
    by_cases z : v < lal T (hset h 5 k (nI n)) k
    · rw [if_pos z, show nI n + (-1) = nI n - 1 by rw [Int32.sub_eq_add_neg]]
      obtain ⟨σ2, q2, c2, e2⟩ := cheer_c hT hk v hB n f σ1 (nI n) (by omega) (by omega) (C1.frL hH_39 f1) q1 c1
      refine ⟨σ2, q2, c2, ?_⟩
      rw [e2]
      simp only [mxg, if_neg (show ¬ ¬ v < lal T (hset h 5 k (nI n)) k from fun w => w z)]
    · rw [if_neg z]
      refine ⟨σ1, q1, c1, ?_⟩
      simp only [mxg, if_pos z]
theorem cheer_m {T : Tx} {dn k : Nat} {h : Hs} (hT : TB T) (hk : k < 8) (v had : Int32) (hB : HB 9999 dn h) : ∀ (n i f : Nat) (s : St) (x : Int32), i + n = 10 → n < f → MH (s 1) (hset h 5 k x) → MLC s T →
    ∃ t y, fX9_cheer_38 (nI k) v had f (mxv (mxg (fun g => ¬ v < lal T (hset h 5 k (nI g)) k) i)) (nI i) s = some (mxv (mxg (fun g => ¬ v < lal T (hset h 5 k (nI g)) k) 10), t) ∧ MH (t 1) (hset h 5 k y) ∧ MLC t T ∧ FrD s t
  | n, i, 0, _, _, _, hf, _, _ => absurd hf (Nat.not_lt_zero _)
  | 0, i, f + 1, s, x, hi, _, hM, c => by
    have : i = 10 := by omega
    subst this
    rw [fX9_cheer_38, if_pos (by decide)]
    exact ⟨s, x, rfl, hM, c, FrD.rf s⟩
  | n + 1, i, f + 1, s, x, hi, hf, hM, c => by
    rw [fX9_cheer_38, if_neg (show ¬ (9 : Int32) < nI i from fun z => by
      rw [l9, nI_ltI (by decide) (by omega)] at z; omega), puts_eq (x := 2) (w := 2) rfl hk (by decide), bd1_s]
    have M1 := hM.set5 hk (nI i)
    rw [hset_hset] at M1
    have B1 := hB.set5 (k := k) (v := nI i) (bt_nI (by omega) (by omega))
    obtain ⟨s1, e1, c1, f1⟩ := m_leftAll hk B1 M1 (c.u1 (by omega) (by omega) _)
    rw [e1, bd2_s]
    simp only [jn]
    have fd := (FrD.u1 (s := s) (j := 47 + 5 * k + 2) (by omega) (by omega) (nI i)).tr f1.D
    by_cases z : v < lal T (hset h 5 k (nI i)) k
    · rw [if_pos z, nI_1]
      obtain ⟨t, y, e2, M2, c2, f2⟩ := cheer_m hT hk v had hB n (i + 1) f s1 (nI i) (by omega) (by omega) (M1.frG f1) c1
      refine ⟨t, y, ?_, M2, c2, fd.tr f2⟩
      rw [← e2]
      simp only [mxg, if_neg (show ¬ ¬ v < lal T (hset h 5 k (nI i)) k from fun w => w z)]
    · rw [if_neg z, nI_1]
      obtain ⟨t, y, e2, M2, c2, f2⟩ := cheer_m hT hk v had hB n (i + 1) f s1 (nI i) (by omega) (by omega) (M1.frG f1) c1
      refine ⟨t, y, ?_, M2, c2, fd.tr f2⟩
      rw [← e2]
      simp only [mxg, if_pos z, mxv]
theorem op_cheer {σ τ : St} {m : Nat} (r : Rel σ τ m) (a b : Int32) : OK2 (fX8_cheer a b σ) (fX9_cheer a b τ) m := by
  have r0 := r
  obtain ⟨h, T, dn, n0, rest⟩ := r
  obtain ⟨a1, a2, a3, a4, a5, a6, a7, a8⟩ := id n0
  have e12 : σ 2 12 = nI dn := by rw [a1.2.2.2.2, a3.d3]
  have e2 : τ 1 2 = nI dn := by rw [a2.1.2.1, a3.d3]
  unfold fX8_cheer fX9_cheer
  simp only [jn, c_isDiner e12, c_within, m_isDiner e2, m_in, bd2_s, gi0, bd2_eta]
  refine ok_if (σ := σ) (τ := τ) (fun h1 => ok_if (σ := σ) (τ := τ) (fun h2 => ?_) (fun _ => ok_e1 r0)) (fun _ => ok_e1 r0)
  obtain ⟨k, hk, hk8, rfl⟩ := rgd a3.dn h1
  obtain ⟨σ1, e1, C1, q1, c1⟩ := think_eq a1 a5
  obtain ⟨σ2, q2, c2, f2⟩ := cheer_c (σ0 := σ) a4 hk8 b a3 10 FU σ1 (h 5 k) (Nat.le_refl _) (FU_lt (by omega)) (by rw [hset_self]; exact C1) q1 c1
  obtain ⟨τ2, y, g2, M2, m2, t2⟩ := cheer_m (T := T) a4 hk8 b (h 5 k) a3 10 0 FU τ (h 5 k) rfl (FU_lt (by omega)) (by rw [hset_self]; exact a2) a6
  have M3 := M2.set5 hk8 (h 5 k)
  rw [hset_hset, hset_self] at M3
  have R : Rel σ2 (u2 τ2 1 (47 + 5 * k + 2) (h 5 k)) m := Rel.go n0 rest q2.FC (t2.M.tr (FM.u1 (by omega) (by omega) _)) (a1.q q2) M3 a3 c2 (m2.u1 (by omega) (by omega) _)
  rw [e1, bd1_s, show (9 : Int32) = nI 10 - 1 by decide, f2, its_eq (x := 2) (w := 2) rfl hk8 (by decide), bd2_s, (a2.2.2.2 k hk8).2.2.1, show fX9_cheer_38 (nI k) b (h 5 k) FU (-1) 0 τ = _ from g2, bd2_s, puts_eq (x := 2) (w := 2) rfl hk8 (by decide), bd1_s]
  cases hx : mxg (fun g => ¬ b < lal T (hset h 5 k (nI g)) k) 10 with
  | none =>
    rw [if_neg (show ¬ (0 : Int32) ≤ mxv none by decide), bS1_r]
    exact ok_e2 R
  | some g =>
    have := mxg_lt hx
    rw [if_pos (show (0 : Int32) ≤ mxv (some g) from nI_pos' (n := g) (by omega)), bS1_l]
    exact ok_some _ R
