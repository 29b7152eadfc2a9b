/-! thinking: what both sides do with their copies -/
def TQ (σ0 σ : St) : Prop := ∀ k, ¬ (39 ≤ k ∧ k ≤ 48) → k ≠ 50 → k ≠ 51 → σ k = σ0 k
def TM (τ0 τ : St) : Prop := (∀ j, j < 257 → τ 3 j = τ0 1 j) ∧ (∀ k, k ≠ 0 → k ≠ 1 → k ≠ 3 → k ≠ 6 → τ k = τ0 k) ∧ ∀ j, j < 7 ∨ (14 < j ∧ j ≠ 16) → τ 0 j = τ0 0 j
theorem TQ.rf (σ : St) : TQ σ σ := fun _ _ _ _ => rfl
theorem TQ.tr {a b c : St} (p : TQ a b) (q : TQ b c) : TQ a c := fun k h1 h2 h3 => (q k h1 h2 h3).trans (p k h1 h2 h3)
theorem FrB.Q {s t : St} (p : FrB 39 s t) : TQ s t := fun k h1 h2 h3 => p k h2 h3 (by omega) (by omega) (by omega) (by omega)
theorem Fr.Q {s t : St} (p : Fr s t) : TQ s t := fun k _ h2 h3 => p k h2 h3
theorem TQ.u {σ : St} {k j : Nat} (hk : 39 ≤ k ∧ k ≤ 48) (v : Int32) : TQ σ (u2 σ k j v) := fun i h1 _ _ => u2_ne (by omega)
theorem TM.D {τ0 τ τ' : St} (p : TM τ0 τ) (q : FrD τ τ') : TM τ0 τ' := ⟨fun j hj => by rw [q.1 3 (by decide) (by decide) (by decide)]; exact p.1 j hj, fun k h0 h1 h3 h6 => (q.1 k h0 h1 h6).trans (p.2.1 k h0 h1 h3 h6), fun j hj => (q.2.2 j hj).trans (p.2.2 j hj)⟩
theorem TM.u1 {τ0 τ : St} (p : TM τ0 τ) {j : Nat} (v : Int32) : TM τ0 (u2 τ 1 j v) := ⟨fun i hi => by rw [u2_ne (by decide)]; exact p.1 i hi, fun k h0 h1 h3 h6 => by rw [u2_ne h1]; exact p.2.1 k h0 h1 h3 h6, fun i hi => by rw [u2_ne (by decide)]; exact p.2.2 i hi⟩
theorem CH.q {σ0 σ : St} {h : Hs} (p : CH σ0 2 h) (q : TQ σ0 σ) : CH σ 2 h := p.fr (fun k hk => q _ (by omega) (by omega) (by omega))
theorem acp_full {s : St} {q0 q1 n : Nat} {x : Int32} (hx : x = nI n) (hn : n < 2 ^ 31) : acp s q0 n 0 q1 n 0 x = some (uA s q1 (va_cpy (s q0) (s q1) 0 0 n)) := by
  subst hx
  unfold acp
  rw [if_pos ⟨by decide, by decide, nI_pos hn, by rw [nI_clamp hn, show (0 : Int32).toNatClampNeg = 0 from rfl]; omega, by rw [nI_clamp hn, show (0 : Int32).toNatClampNeg = 0 from rfl]; omega⟩, nI_clamp hn, show (0 : Int32).toNatClampNeg = 0 from rfl]
theorem cpy0 {f g : Nat → Int32} {n j : Nat} (h : j < n) : va_cpy f g 0 0 n j = f j := by
  unfold va_cpy; rw [if_pos ⟨Nat.zero_le _, by omega⟩, Nat.zero_add, Nat.sub_zero]
/-- a house is copied -/
theorem copyH_eq {a b : Nat} (ha : isH a) (hb : isH b) (hab : a ≠ b) {σ : St} {h : Hs} (hH : CH σ b h) : ∃ σ', fX0_copyFrom a b σ = some σ' ∧ CH σ' a h ∧ (∀ k, k < a ∨ a + 8 < k → σ' k = σ k) := by
  have sep : ∀ i j, i ≤ 9 → j ≤ 9 → a + i ≠ b + j := by
    intro i j hi hj
    rcases ha with rfl | rfl | rfl <;> rcases hb with rfl | rfl | rfl <;> omega
  have sep0 : ∀ i, i ≤ 9 → a + i ≠ b := fun i hi => sep i 0 hi (by omega)
  have sep1 : ∀ j, j ≤ 9 → a ≠ b + j := fun j hj => sep 0 j (by omega) hj
  unfold fX0_copyFrom
  rw [acp_full (x := 16) (n := 16) rfl (by decide), bd1_s, acp_full (x := 16) (n := 16) rfl (by decide), bd1_s, acp_full (x := 6) (n := 6) rfl (by decide), bd1_s, acp_full (x := 8) (n := 8) rfl (by decide), bd1_s, acp_full (x := 8) (n := 8) rfl (by decide), bd1_s, acp_full (x := 8) (n := 8) rfl (by decide), bd1_s, acp_full (x := 8) (n := 8) rfl (by decide), bd1_s, acp_full (x := 8) (n := 8) rfl (by decide), bd1_s, ptf, bd1_s, ptf, bd1_s, ptf, bd1_s, ptf, bd1_s]
  obtain ⟨⟨h0, h1, h2, h3, h4, h5, h6, h7⟩, g0, g1, g2, g3⟩ := hH
  refine ⟨_, rfl, ?_, ?_⟩
  · have d : ∀ {i j : Nat}, i ≠ j → a + i ≠ a + j := fun q z => q (by omega)
    have d0 : ∀ {i : Nat}, i ≠ 0 → a + i ≠ a := fun q z => q (by omega)
    have d1 : ∀ {i : Nat}, i ≠ 0 → a ≠ a + i := fun q z => q (by omega)
    have eb : ∀ {i j : Nat}, i ≤ 9 → j ≤ 9 → b + j ≠ a + i := fun hi hj q => sep _ _ hi hj q.symm
    have eb0 : ∀ {j : Nat}, j ≤ 9 → b + j ≠ a := fun hj q => sep1 _ hj q.symm
    have eb1 : ∀ {i : Nat}, i ≤ 9 → b ≠ a + i := fun hi q => sep0 _ hi q.symm
    have ebb : b ≠ a := fun q => hab q.symm
    refine ⟨⟨fun j hj => ?_, fun j hj => ?_, fun j hj => ?_, fun j hj => ?_, fun j hj => ?_, fun j hj => ?_, fun j hj => ?_, fun j hj => ?_⟩, ?_, ?_, ?_, ?_⟩
    · rw [u2_ne (d0 (by decide)), u2_ne (d0 (by decide)), u2_ne (d0 (by decide)), u2_ne (d0 (by decide)), uA_ne _ (d (by decide)), uA_ne _ (d (by decide)), uA_ne _ (d (by decide)), uA_ne _ (d (by decide)), uA_ne _ (d (by decide)), uA_ne _ (d (by decide)), uA_ne _ (d (by decide)), uA_same, cpy0 hj]; exact h0 j hj
    · rw [u2_ne (d0 (by decide)), u2_ne (d0 (by decide)), u2_ne (d0 (by decide)), u2_ne (d0 (by decide)), uA_ne _ (d (by decide)), uA_ne _ (d (by decide)), uA_ne _ (d (by decide)), uA_ne _ (d (by decide)), uA_ne _ (d (by decide)), uA_ne _ (d (by decide)), uA_same, cpy0 hj, uA_ne _ (eb (by decide) (by decide))]; exact h1 j hj
    · rw [u2_ne (d0 (by decide)), u2_ne (d0 (by decide)), u2_ne (d0 (by decide)), u2_ne (d0 (by decide)), uA_ne _ (d (by decide)), uA_ne _ (d (by decide)), uA_ne _ (d (by decide)), uA_ne _ (d (by decide)), uA_ne _ (d (by decide)), uA_same, cpy0 hj, uA_ne _ (eb (by decide) (by decide)), uA_ne _ (eb (by decide) (by decide))]; exact h2 j hj
    · rw [u2_ne (d0 (by decide)), u2_ne (d0 (by decide)), u2_ne (d0 (by decide)), u2_ne (d0 (by decide)), uA_ne _ (d (by decide)), uA_ne _ (d (by decide)), uA_ne _ (d (by decide)), uA_ne _ (d (by decide)), uA_same, cpy0 hj, uA_ne _ (eb (by decide) (by decide)), uA_ne _ (eb (by decide) (by decide)), uA_ne _ (eb (by decide) (by decide))]; exact h3 j hj
    · rw [u2_ne (d0 (by decide)), u2_ne (d0 (by decide)), u2_ne (d0 (by decide)), u2_ne (d0 (by decide)), uA_ne _ (d (by decide)), uA_ne _ (d (by decide)), uA_ne _ (d (by decide)), uA_same, cpy0 hj, uA_ne _ (eb (by decide) (by decide)), uA_ne _ (eb (by decide) (by decide)), uA_ne _ (eb (by decide) (by decide)), uA_ne _ (eb (by decide) (by decide))]; exact h4 j hj
    · rw [u2_ne (d0 (by decide)), u2_ne (d0 (by decide)), u2_ne (d0 (by decide)), u2_ne (d0 (by decide)), uA_ne _ (d (by decide)), uA_ne _ (d (by decide)), uA_same, cpy0 hj, uA_ne _ (eb (by decide) (by decide)), uA_ne _ (eb (by decide) (by decide)), uA_ne _ (eb (by decide) (by decide)), uA_ne _ (eb (by decide) (by decide)), uA_ne _ (eb (by decide) (by decide))]; exact h5 j hj
    · rw [u2_ne (d0 (by decide)), u2_ne (d0 (by decide)), u2_ne (d0 (by decide)), u2_ne (d0 (by decide)), uA_ne _ (d (by decide)), uA_same, cpy0 hj, uA_ne _ (eb (by decide) (by decide)), uA_ne _ (eb (by decide) (by decide)), uA_ne _ (eb (by decide) (by decide)), uA_ne _ (eb (by decide) (by decide)), uA_ne _ (eb (by decide) (by decide)), uA_ne _ (eb (by decide) (by decide))]; exact h6 j hj
    · rw [u2_ne (d0 (by decide)), u2_ne (d0 (by decide)), u2_ne (d0 (by decide)), u2_ne (d0 (by decide)), uA_same, cpy0 hj, uA_ne _ (eb (by decide) (by decide)), uA_ne _ (eb (by decide) (by decide)), uA_ne _ (eb (by decide) (by decide)), uA_ne _ (eb (by decide) (by decide)), uA_ne _ (eb (by decide) (by decide)), uA_ne _ (eb (by decide) (by decide)), uA_ne _ (eb (by decide) (by decide))]; exact h7 j hj
    · rw [u2_slot (by decide), u2_slot (by decide), u2_slot (by decide), u2_same, uA_ne _ (eb1 (by decide)), uA_ne _ (eb1 (by decide)), uA_ne _ (eb1 (by decide)), uA_ne _ (eb1 (by decide)), uA_ne _ (eb1 (by decide)), uA_ne _ (eb1 (by decide)), uA_ne _ (eb1 (by decide)), uA_ne _ (eb1 (by decide))]; exact g0
    · rw [u2_slot (by decide), u2_slot (by decide), u2_same, u2_ne ebb, uA_ne _ (eb1 (by decide)), uA_ne _ (eb1 (by decide)), uA_ne _ (eb1 (by decide)), uA_ne _ (eb1 (by decide)), uA_ne _ (eb1 (by decide)), uA_ne _ (eb1 (by decide)), uA_ne _ (eb1 (by decide)), uA_ne _ (eb1 (by decide))]; exact g1
    · rw [u2_slot (by decide), u2_same, u2_ne ebb, u2_ne ebb, uA_ne _ (eb1 (by decide)), uA_ne _ (eb1 (by decide)), uA_ne _ (eb1 (by decide)), uA_ne _ (eb1 (by decide)), uA_ne _ (eb1 (by decide)), uA_ne _ (eb1 (by decide)), uA_ne _ (eb1 (by decide)), uA_ne _ (eb1 (by decide))]; exact g2
    · rw [u2_same, u2_ne ebb, u2_ne ebb, u2_ne ebb, uA_ne _ (eb1 (by decide)), uA_ne _ (eb1 (by decide)), uA_ne _ (eb1 (by decide)), uA_ne _ (eb1 (by decide)), uA_ne _ (eb1 (by decide)), uA_ne _ (eb1 (by decide)), uA_ne _ (eb1 (by decide)), uA_ne _ (eb1 (by decide))]; exact g3
  · intro k hk
    have n0 : ∀ i, i ≤ 8 → k ≠ a + i := fun i hi => by omega
    rw [u2_ne (show k ≠ a from n0 0 (by omega)), u2_ne (show k ≠ a from n0 0 (by omega)), u2_ne (show k ≠ a from n0 0 (by omega)), u2_ne (show k ≠ a from n0 0 (by omega)), uA_ne _ (n0 8 (by omega)), uA_ne _ (n0 7 (by omega)), uA_ne _ (n0 6 (by omega)), uA_ne _ (n0 5 (by omega)), uA_ne _ (n0 4 (by omega)), uA_ne _ (n0 3 (by omega)), uA_ne _ (n0 2 (by omega)), uA_ne _ (n0 1 (by omega))]
theorem think_eq {σ : St} {h : Hs} {T : Tx} (hH : CH σ 2 h) (hc : CLC σ T) : ∃ σ', fX8_thinkAnew σ = some σ' ∧ CH σ' 39 h ∧ TQ σ σ' ∧ CLC σ' T := by
  obtain ⟨σ', e, H, f⟩ := copyH_eq hH_39 hH_2 (by decide) hH
  unfold fX8_thinkAnew
  rw [e, bd1_s]
  exact ⟨σ', rfl, H, fun k h1 _ _ => f k (by omega), hc.fr (f _ (by decide)) (f _ (by decide)) (f _ (by decide)) (f _ (by decide)) (f _ (by decide))⟩
theorem thinkM_eq {τ : St} {T : Tx} (hm : MLC τ T) : ∃ τ', fX9_moveAll 1 257 3 257 τ = some τ' ∧ TM τ τ' ∧ τ' 1 = τ 1 ∧ MLC τ' T := by
  obtain ⟨t, e, f, g⟩ := moveAll_eq (p := 1) (q := 3) (by decide) τ
  exact ⟨t, e, ⟨g, fun k _ _ h3 _ => f k h3, fun j _ => by rw [f 0 (by decide)]⟩, f 1 (by decide), ⟨hm.1.fr (fun j _ => by rw [f 1 (by decide)]), hm.2.fr (f 6 (by decide))⟩⟩
theorem backM_eq {τ0 τ : St} {T : Tx} (h0 : ML τ0 T) (hq : TM τ0 τ) (hm : MC τ T) : ∃ τ', fX9_moveAll 3 257 1 257 τ = some τ' ∧ TM τ0 τ' ∧ (∀ j, j < 257 → τ' 1 j = τ0 1 j) ∧ MLC τ' T := by
  obtain ⟨t, e, f, g⟩ := moveAll_eq (p := 3) (q := 1) (by decide) τ
  have r : ∀ j, j < 257 → t 1 j = τ0 1 j := fun j hj => (g j hj).trans (hq.1 j hj)
  exact ⟨t, e, ⟨fun j hj => by rw [f 3 (by decide)]; exact hq.1 j hj, fun k h0 h1 h3 h6 => (f k h1).trans (hq.2.1 k h0 h1 h3 h6), fun j hj => by rw [f 0 (by decide)]; exact hq.2.2 j hj⟩, r, ⟨h0.fr (fun j hj => r j (by omega)), hm.fr (f 6 (by decide))⟩⟩
theorem TM.FM {τ0 τ : St} (p : TM τ0 τ) (r : ∀ j, j < 257 → τ 1 j = τ0 1 j) : FM τ0 τ := ⟨p.2.1, fun j hj => r j (by omega), p.2.2⟩
theorem TQ.FC {a b : St} (p : TQ a b) : FC a b := fun k _ h2 h3 h4 => p k h2 h3 h4
/-- a thought has ended -/
theorem Rel.q {σ τ σ' τ' : St} {m : Nat} {h : Hs} {T : Tx} {dn : Nat} (n0 : RN σ τ h T dn) (r : σ 1 5 = τ 1 1 ∧ RT σ τ ∧ RW σ τ ∧ RK σ τ m ∧ RD σ τ ∧ RS σ τ ∧ RV σ τ) (fc : TQ σ σ') (cc : CLC σ' T) (fm : TM τ τ') (re : ∀ j, j < 257 → τ' 1 j = τ 1 j) (mc : MLC τ' T) : Rel σ' τ' m :=
  Rel.go n0 r fc.FC (fm.FM re) (n0.1.q fc) (n0.2.1.of (fun j hj => re j (by omega))) n0.2.2.1 cc mc
theorem op_then {σ τ : St} {m : Nat} (r : Rel σ τ m) (a b c : Int32) : OK2 (fX8_then a b c σ) (fX9_then a b c τ) m := by
  have r0 := r
  obtain ⟨h, T, dn, n0, rest⟩ := r
  obtain ⟨a1, a2, a3, a4, a5, a6, a7, a8⟩ := id n0
  have e12 : σ 2 12 = nI dn := by rw [a1.2.2.2.2, a3.d3]
  have e2 : τ 1 2 = nI dn := by rw [a2.1.2.1, a3.d3]
  unfold fX8_then fX9_then
  simp only [jn, c_isDiner e12, c_within, c_isAhead, m_isDiner e2, m_in, bd2_s, gi0, bd2_eta]
  refine ok_if (σ := σ) (τ := τ) (fun h1 => ok_if (σ := σ) (τ := τ) (fun h2 => ok_if (σ := σ) (τ := τ) (fun h3 => ?_) (fun _ => ok_e1 r0)) (fun _ => ok_e1 r0)) (fun _ => ok_e1 r0)
  obtain ⟨n, hn, -, rfl⟩ := rg 60 h1 (by decide)
  obtain ⟨k, hk, hk8, rfl⟩ := rgd a3.dn h2
  obtain ⟨σ1, e1, C1, q1, c1⟩ := think_eq a1 a5
  obtain ⟨σ2, f2, C2, B2, c2, q2⟩ := spend_eq hH_39 a4 hn (D := 9999) (by decide) C1 a3 c1
  obtain ⟨τ1, g1, t1, u1, m1⟩ := thinkM_eq a6
  obtain ⟨τ2, g2, M2, m2, t2⟩ := passes_eq a4 hn (D := 9999) (s := τ1) (by decide) (by rw [u1]; exact a2) a3 m1
  obtain ⟨τ3, g3, t3, u3, m3⟩ := backM_eq a6.1 (t1.D t2) m2.2
  rw [e1, bd1_s, f2, bd1_s, g1, bd1_s, g2, bd1_s]
  have R := Rel.q n0 rest (q1.tr q2.Q) c2 t3 u3 m3
  obtain ⟨w, hw, -, rfl⟩ := rg 1 h3 (by decide)
  rcases (show w = 0 ∨ w = 1 by omega) with rfl | rfl
  · rw [if_pos (show nI 0 = (0 : Int32) from rfl), if_pos (show nI 0 = (0 : Int32) from rfl), ald_i hk8 (by decide), bd1_s, its_eq (x := 2) (w := 2) rfl hk8 (by decide), bd2_s, g3, bd1_s, (M2.2.2.2 k hk8).2.2.1, show σ2 45 k = daysS T dn n h 5 k from C2.1.2.2.2.2.2.1 k hk8]
    exact ok_some _ R
  · rw [if_neg (show ¬ nI 1 = (0 : Int32) by decide), if_neg (show ¬ nI 1 = (0 : Int32) by decide), ald_i hk8 (by decide), bd1_s, its_eq (x := 4) (w := 4) rfl hk8 (by decide), bd2_s, g3, bd1_s, (M2.2.2.2 k hk8).2.2.2.2, show σ2 47 k = daysS T dn n h 7 k from C2.1.2.2.2.2.2.2.2 k hk8]
    exact ok_some _ R
theorem spend1 {σ : St} {h : Hs} {T : Tx} {dn : Nat} {D : Int} {b : Nat} (hb : isH b) (hT : TB T) (hD : D < 1000000000) (hH : CH σ b h) (hB : HB D dn h) (hc : CLC σ T) : ∃ σ', fX0_spend b 1 σ = some σ' ∧ CH σ' b (dayS T dn h) ∧ HB (D + 1) dn (dayS T dn h) ∧ CLC σ' T ∧ FrB b σ σ' := by
  obtain ⟨σ', e, C, B, c, q⟩ := spend_eq hb hT (n := 1) (by decide) hD hH hB hc
  exact ⟨σ', e, C, B, c, q⟩
theorem i60 {i : Nat} (hi : i < 2 ^ 31) : (60 : Int32) < nI i ↔ 60 < i := by
  rw [show (60 : Int32) = nI 60 from rfl, nI_ltI (by decide) hi]
theorem i40 {i : Nat} (hi : i < 2 ^ 31) : (40 : Int32) < nI i ↔ 40 < i := by
  rw [show (40 : Int32) = nI 40 from rfl, nI_ltI (by decide) hi]
theorem out_loop {σ0 τ0 : St} {T : Tx} {dn k : Nat} (hT : TB T) (hk : k < 8) (v : Int32) : ∀ (n i f g : Nat) (D : Int) (σ τ : St) (h : Hs), i + n = 61 → n < f → n < g → D + n < 1000000000 → CH σ 39 h → MH (τ 1) h → HB D dn h → TQ σ0 σ → CLC σ T → TM τ0 τ → MLC τ T →
    ∃ σ' τ', TQ σ0 σ' ∧ CLC σ' T ∧ TM τ0 τ' ∧ MLC τ' T ∧ ((∃ j, j ≤ 60 ∧ fX8_out_27 (nI k) v f (nI i) σ = some (.inl (nI j, σ')) ∧ fX9_out_39 (nI k) v g (nI i) τ = some (nI j, τ')) ∨ (fX8_out_27 (nI k) v f (nI i) σ = some (.inr σ') ∧ fX9_out_39 (nI k) v g (nI i) τ = some (nI 61, τ')))
  | n, i, 0, _, _, _, _, _, _, hf, _, _, _, _, _, _, _, _, _ => absurd hf (Nat.not_lt_zero _)
  | n, i, _, 0, _, _, _, _, _, _, hg, _, _, _, _, _, _, _, _ => absurd hg (Nat.not_lt_zero _)
  | 0, i, f + 1, g + 1, D, σ, τ, h, hi, _, _, _, hC, hM, hB, q, c, t, ml => by
    have : i = 61 := by omega
    subst this
    refine ⟨σ, τ, q, c, t, ml, Or.inr ⟨?_, ?_⟩⟩
    · rw [fX8_out_27, if_pos (by decide)]
    · rw [fX9_out_39, if_pos (by decide)]
  | n + 1, i, f + 1, g + 1, D, σ, τ, h, hi, hf, hg, hD, hC, hM, hB, q, c, t, ml => by
    rw [fX8_out_27, fX9_out_39, if_neg (fun z => by have := (i60 (by omega)).mp z; omega), if_neg (fun z => by have := (i60 (by omega)).mp z; omega), ald_i hk (by decide), bd1_s, its_eq (x := 4) (w := 4) rfl hk (by decide), bd2_s, (hM.2.2.2 k hk).2.2.2.2, show σ 47 k = h 7 k from hC.1.2.2.2.2.2.2.2 k hk]
    by_cases z : h 7 k < v
    · rw [if_pos z, if_neg (fun y => by have := i_lt.mp z; have := i_le.mp y; omega)]
      obtain ⟨σ1, e1, C1, B1, c1, q1⟩ := spend1 hH_39 hT (by omega) hC hB c
      obtain ⟨τ1, g1, M1, m1, t1⟩ := oneDay_eq hT hM hB ml
      rw [e1, bd1_s, g1, bd1_s, nI_1]
      exact out_loop hT hk v n (i + 1) f g (D + 1) σ1 τ1 _ (by omega) (by omega) (by omega) (by omega) C1 M1 B1 (q.tr q1.Q) c1 (t.D t1) m1
    · rw [if_neg z, if_pos (i_le.mpr (by have : ¬ (h 7 k).toInt < v.toInt := fun y => z (i_lt.mpr y)
                                         omega))]
      exact ⟨σ, τ, q, c, t, ml, Or.inl ⟨i, by omega, rfl, rfl⟩⟩
theorem op_out {σ τ : St} {m : Nat} (r : Rel σ τ m) (a b : Int32) : OK2 (fX8_out a b σ) (fX9_out a b τ) m := by
  have r0 := r
  obtain ⟨h, T, dn, n0, rest⟩ := r
  obtain ⟨a1, a2, a3, a4, a5, a6, a7, a8⟩ := id n0
  have e12 : σ 2 12 = nI dn := by rw [a1.2.2.2.2, a3.d3]
  have e2 : τ 1 2 = nI dn := by rw [a2.1.2.1, a3.d3]
  unfold fX8_out fX9_out
  simp only [jn, c_isDiner e12, c_isKnown, m_isDiner e2, m_in, bd2_s, gi0, bd2_eta]
  refine ok_if (σ := σ) (τ := τ) (fun h1 => ok_if (σ := σ) (τ := τ) (fun h2 => ?_) (fun _ => ok_e1 r0)) (fun _ => ok_e1 r0)
  obtain ⟨k, hk, hk8, rfl⟩ := rgd a3.dn h1
  obtain ⟨σ1, e1, C1, q1, c1⟩ := think_eq a1 a5
  obtain ⟨τ1, g1, t1, u1, m1⟩ := thinkM_eq a6
  rw [e1, bd1_s, g1, bd1_s]
  obtain ⟨σ2, τ2, q2, c2, t2, m2, hor⟩ := out_loop (σ0 := σ) (τ0 := τ) a4 hk8 b 61 0 FU FU 9999 σ1 τ1 h rfl (FU_lt (by omega)) (FU_lt (by omega)) (by decide) C1 (by rw [u1]; exact a2) a3 q1 c1 t1 m1
  obtain ⟨τ3, g3, t3, u3, m3⟩ := backM_eq a6.1 t2 m2.2
  have R := Rel.q n0 rest q2 c2 t3 u3 m3
  rcases hor with ⟨j, hj, f1, f2⟩ | ⟨f1, f2⟩
  · rw [show fX8_out_27 (nI k) b FU 0 σ1 = some (.inl (nI j, σ2)) from f1, bS1_l, show fX9_out_39 (nI k) b FU 0 τ1 = some (nI j, τ2) from f2, bd2_s, g3, bd1_s, if_pos (show nI j ≤ 60 from nI_le hj (by decide))]
    exact ok_some _ R
  · rw [show fX8_out_27 (nI k) b FU 0 σ1 = some (.inr σ2) from f1, bS1_r, show fX9_out_39 (nI k) b FU 0 τ1 = some (nI 61, τ2) from f2, bd2_s, g3, bd1_s, if_neg (show ¬ nI 61 ≤ 60 by decide)]
    exact ok_e2 R
/-- room for one -/
theorem HB.room {D : Int} {dn : Nat} {h : Hs} (q : HB D dn h) {i : Nat} (hi : i ≤ 40) : HB D dn (hset h 8 0 (nI i)) := q.set80 (bt_nI (by omega) (by omega))
theorem m_isKnown {τ0 τ : St} {T : Tx} {dn k n i : Nat} {h : Hs} (hT : TB T) (hk : k < 8) (hn : n ≤ 60) (hi : i ≤ 40) (v : Int32) (h0 : ML τ0 T) (hB : HB 9999 dn h) (hH0 : MH (τ0 1) h) (re : ∀ j, j < 257 → τ 1 j = τ0 1 j) (t : TM τ0 τ) (ml : MLC τ T) :
    ∃ τ', fX9_isKnown (nI k) (nI i) (nI n) v τ = some (if daysS T dn n (hset h 8 0 (nI i)) 7 k < v then 0 else 1, τ') ∧ TM τ0 τ' ∧ (∀ j, j < 257 → τ' 1 j = τ0 1 j) ∧ MLC τ' T := by
  have hH : MH (τ 1) h := hH0.of (fun j hj => re j (by omega))
  unfold fX9_isKnown
  rw [ast1 (x := 3) (i := 3) rfl (by decide), bd1_s]
  obtain ⟨τ1, g1, M1, m1, t1⟩ := passes_eq hT hn (D := 9999) (s := u2 τ 1 3 (nI i)) (by decide) (hH.rm (nI i)) (hB.room hi) (ml.u1 (by decide) (by decide) _)
  rw [g1, bd1_s, its_eq (x := 4) (w := 4) rfl hk (by decide), bd2_s, (M1.2.2.2 k hk).2.2.2.2]
  obtain ⟨τ2, g2, t2, u2', m2⟩ := backM_eq h0 ((t.u1 _).D t1) m1.2
  simp only [jn]
  rw [g2, bd1_s, bd1_s]
  by_cases z : daysS T dn n (hset h 8 0 (nI i)) 7 k < v
  · rw [if_pos z, if_pos z]
    exact ⟨τ2, rfl, t2, u2', m2⟩
  · rw [if_neg z, if_neg z]
    exact ⟨τ2, rfl, t2, u2', m2⟩
theorem c_room {σ : St} {T : Tx} {dn n i : Nat} {h : Hs} (hT : TB T) (hn : n ≤ 60) (hi : i ≤ 40) (hB : HB 9999 dn h) (hC : CH σ 2 h) (c : CLC σ T) : ∃ σ1 σ2, fX8_thinkAnew σ = some σ1 ∧ fX0_spend 39 (nI n) (u2 σ1 39 9 (nI i)) = some σ2 ∧ CH σ2 39 (daysS T dn n (hset h 8 0 (nI i))) ∧ TQ σ σ2 ∧ CLC σ2 T := by
  obtain ⟨σ1, e1, C1, q1, c1⟩ := think_eq hC c
  obtain ⟨σ2, f2, C2, B2, c2, q2⟩ := spend_eq hH_39 hT hn (D := 9999) (by decide) (C1.set8 (k := 0) (by decide) (nI i)) (hB.room hi) (c1.u2c (by decide) _)
  exact ⟨σ1, σ2, e1, f2, C2, (q1.tr (TQ.u (by decide) _)).tr q2.Q, c2⟩
theorem room_loop {σ0 τ0 : St} {T : Tx} {dn k N : Nat} {h : Hs} (hT : TB T) (hk : k < 8) (hN : N ≤ 60) (v : Int32) (hC0 : CH σ0 2 h) (h0 : ML τ0 T) (hB : HB 9999 dn h) (hM0 : MH (τ0 1) h) : ∀ (n i f g : Nat) (σ τ : St), i + n = 41 → n < f → n < g → TQ σ0 σ → CLC σ T → TM τ0 τ → (∀ j, j < 257 → τ 1 j = τ0 1 j) → MLC τ T →
    ∃ σ' τ', TQ σ0 σ' ∧ CLC σ' T ∧ TM τ0 τ' ∧ (∀ j, j < 257 → τ' 1 j = τ0 1 j) ∧ MLC τ' T ∧ ((∃ j, j ≤ 40 ∧ fX8_roomFor_34 (nI k) v (nI N) f (nI i) σ = some (.inl (nI j, σ')) ∧ fX9_roomFor_50 (nI k) v (nI N) g (nI i) τ = some (nI j, τ')) ∨ (fX8_roomFor_34 (nI k) v (nI N) f (nI i) σ = some (.inr σ') ∧ fX9_roomFor_50 (nI k) v (nI N) g (nI i) τ = some (nI 41, τ')))
  | n, i, 0, _, _, _, _, hf, _, _, _, _, _, _ => absurd hf (Nat.not_lt_zero _)
  | n, i, _, 0, _, _, _, _, hg, _, _, _, _, _ => absurd hg (Nat.not_lt_zero _)
  | 0, i, f + 1, g + 1, σ, τ, hi, _, _, q, c, t, re, ml => by
    have : i = 41 := by omega
    subst this
    refine ⟨σ, τ, q, c, t, re, ml, Or.inr ⟨?_, ?_⟩⟩
    · rw [fX8_roomFor_34, if_pos (by decide)]
    · rw [fX9_roomFor_50, if_pos (by decide)]
  | n + 1, i, f + 1, g + 1, σ, τ, hi, hf, hg, q, c, t, re, ml => by
    rw [fX8_roomFor_34, fX9_roomFor_50, if_neg (fun z => by have := (i40 (by omega)).mp z; omega), if_neg (fun z => by have := (i40 (by omega)).mp z; omega)]
    obtain ⟨σ1, σ2, e1, e2, C2, q2, c2⟩ := c_room (dn := dn) (i := i) hT hN (by omega) hB (hC0.q q) c
    obtain ⟨τ1, g1, t1, r1, m1⟩ := m_isKnown hT hk hN (show i ≤ 40 by omega) v h0 hB hM0 re t ml
    rw [e1, bd1_s, ptf, bd1_s, e2, bd1_s, ald_i hk (by decide), bd1_s, g1, bd2_s, show σ2 47 k = _ from C2.1.2.2.2.2.2.2.2 k hk]
    by_cases z : daysS T dn N (hset h 8 0 (nI i)) 7 k < v
    · rw [if_pos z, if_pos z, if_pos rfl, nI_1]
      exact room_loop hT hk hN v hC0 h0 hB hM0 n (i + 1) f g σ2 τ1 (by omega) (by omega) (by omega) (q.tr q2) c2 t1 r1 m1
    · rw [if_neg z, if_neg z, if_neg (by decide)]
      exact ⟨σ2, τ1, q.tr q2, c2, t1, r1, m1, Or.inl ⟨i, by omega, rfl, rfl⟩⟩
theorem op_roomFor {σ τ : St} {m : Nat} (r : Rel σ τ m) (a b c : Int32) : OK2 (fX8_roomFor a b c σ) (fX9_roomFor a b c τ) m := by
  have r0 := r
  obtain ⟨h, T, dn, n0, rest⟩ := r
  obtain ⟨a1, a2, a3, a4, a5, a6, a7, a8⟩ := id n0
  have e12 : σ 2 12 = nI dn := by rw [a1.2.2.2.2, a3.d3]
  have e2 : τ 1 2 = nI dn := by rw [a2.1.2.1, a3.d3]
  unfold fX8_roomFor fX9_roomFor
  simp only [jn, c_isDiner e12, c_isKnown, c_within, m_isDiner e2, m_in, bd2_s, gi0, bd2_eta]
  refine ok_if (σ := σ) (τ := τ) (fun h1 => ok_if (σ := σ) (τ := τ) (fun h2 => ok_if (σ := σ) (τ := τ) (fun h3 => ?_) (fun _ => ok_e1 r0)) (fun _ => ok_e1 r0)) (fun _ => ok_e1 r0)
  obtain ⟨k, hk, hk8, rfl⟩ := rgd a3.dn h1
  obtain ⟨N, hN, -, rfl⟩ := rg 30 h3 (by decide)
  obtain ⟨τ1, g1, t1, u1, m1⟩ := thinkM_eq a6
  rw [g1, bd1_s]
  obtain ⟨σ2, τ2, q2, c2, t2, re2, m2, hor⟩ := room_loop (σ0 := σ) (τ0 := τ) (dn := dn) a4 hk8 (show N ≤ 60 by omega) b a1 a6.1 a3 a2 41 0 FU FU σ τ1 rfl (FU_lt (by omega)) (FU_lt (by omega)) (TQ.rf σ) a5 t1 (fun j _ => by rw [u1]) m1
  have R := Rel.q n0 rest q2 c2 t2 re2 m2
  rcases hor with ⟨j, hj, f1, f2⟩ | ⟨f1, f2⟩
  · rw [show fX8_roomFor_34 (nI k) b (nI N) FU 0 σ = some (.inl (nI j, σ2)) from f1, bS1_l, show fX9_roomFor_50 (nI k) b (nI N) FU 0 τ1 = some (nI j, τ2) from f2, bd2_s, if_pos (show nI j ≤ 40 from nI_le hj (by decide))]
    exact ok_some _ R
  · rw [show fX8_roomFor_34 (nI k) b (nI N) FU 0 σ = some (.inr σ2) from f1, bS1_r, show fX9_roomFor_50 (nI k) b (nI N) FU 0 τ1 = some (nI 41, τ2) from f2, bd2_s, if_neg (show ¬ nI 41 ≤ 40 by decide)]
    exact ok_e2 R
