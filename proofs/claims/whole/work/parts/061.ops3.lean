theorem HB.mono {D D' : Int} {dn : Nat} {h : Hs} (q : HB D dn h) (hD : D ≤ D') : HB D' dn h := ⟨q.1, q.2.1, q.2.2.1, q.2.2.2.1, q.2.2.2.2.1, q.2.2.2.2.2.1, q.2.2.2.2.2.2.1, q.2.2.2.2.2.2.2.1, q.2.2.2.2.2.2.2.2.1, q.2.2.2.2.2.2.2.2.2.1, q.rm, q.pg, q.dy.mono (Int.le_refl _) hD⟩
theorem HB.tight {D : Int} {dn : Nat} {h : Hs} (q : HB D dn h) : HB (h 8 2).toInt dn h := ⟨q.1, q.2.1, q.2.2.1, q.2.2.2.1, q.2.2.2.2.1, q.2.2.2.2.2.1, q.2.2.2.2.2.2.1, q.2.2.2.2.2.2.2.1, q.2.2.2.2.2.2.2.2.1, q.2.2.2.2.2.2.2.2.2.1, q.rm, q.pg, ⟨q.dy.1, Int.le_refl _⟩⟩
theorem hset_hset (h : Hs) (i j : Nat) (v w : Int32) : hset (hset h i j v) i j w = hset h i j w := by
  funext a b
  unfold hset
  by_cases p : a = i
  · by_cases q : b = j
    · simp [p, q]
    · simp [p, q]
  · simp [p]
theorem hset_self (h : Hs) (i j : Nat) : hset h i j (h i j) = h := by
  funext a b
  unfold hset
  by_cases p : a = i
  · by_cases q : b = j
    · simp [p, q]
    · simp [p, q]
  · simp [p]
theorem rg1 {v : Int32} (hi : Nat) (h : 1 ≤ v ∧ v ≤ nI hi) (h2 : hi < 2 ^ 31) : ∃ n : Nat, 1 ≤ n ∧ n ≤ hi ∧ v = nI n := by
  have h1 := i_le.mp h.1
  have e1 : (1 : Int32).toInt = 1 := by decide
  obtain ⟨n, hn, hn2, rfl⟩ := rg hi ⟨i_le.mpr (by rw [show (0 : Int32).toInt = 0 by decide]; omega), h.2⟩ h2
  rw [nI_toInt hn2, e1] at h1
  exact ⟨n, by omega, hn, rfl⟩
theorem day_le {h : Hs} {dn n : Nat} (hB : HB 9999 dn h) (hn : n ≤ 60) (hd : h 8 2 + nI n ≤ 9999) : (h 8 2).toInt + n ≤ 9999 := by
  have hn2 : bt 0 60 (nI n) := bt_nI (by omega) (by omega)
  have := i_le.mp hd
  rw [add_I hB.dy hn2, nI_toInt (by omega), show (9999 : Int32).toInt = 9999 by decide] at this
  exact this
theorem op_days {σ τ : St} {m : Nat} (r : Rel σ τ m) (a : Int32) : OK2 (fX8_days a σ) (fX9_days a τ) m := by
  have r0 := r
  obtain ⟨h, T, dn, n0, rest⟩ := r
  obtain ⟨a1, a2, a3, a4, a5, a6, a7, a8⟩ := id n0
  unfold fX8_days fX9_days
  simp only [c_within, m_in, bd2_s, gi0, bd2_eta]
  refine ok_if (σ := σ) (τ := τ) (fun h1 => ?_) (fun _ => ok_e1 r0)
  obtain ⟨n, hn1, hn, rfl⟩ := rg1 60 h1 (by decide)
  rw [ald1 (x := 0) (i := 0) rfl (by decide), bd1_s, a2.1.1, show σ 2 11 = h 8 2 from a1.2.2.2.1]
  refine ok_if (σ := σ) (τ := τ) (fun h2 => ?_) (fun _ => ok_e3 r0)
  have hd := day_le a3 hn h2
  have hD := a3.dy.2
  obtain ⟨σ2, f2, C2, B2, c2, q2⟩ := spend_eq hH_2 a4 hn (D := (h 8 2).toInt) (by omega) a1 a3.tight a5
  obtain ⟨τ2, g2, M2, m2, t2⟩ := passes_eq a4 hn (D := (h 8 2).toInt) (s := τ) (by omega) a2 a3.tight a6
  rw [f2, bd1_s, g2, bd1_s, ald1 (x := 4) (i := 4) rfl (by decide), bd1_s, M2.1.2.2.2, show σ2 2 10 = _ from C2.2.2.1]
  exact ⟨_, _, _, rfl, rfl, Rel.go n0 rest q2.C2 t2.M C2 M2 (B2.mono hd) c2 m2⟩
/-! draws -/
theorem rest_b {x : Int32} {n : Nat} (hn : 0 < n) (hn2 : n < 2 ^ 31) : ∃ k, k < n ∧ irm (ush x 8) (nI n) = nI k := by
  have hs : ((8 : Int32).toUInt32 &&& Int32.toUInt32 31).toBitVec % 32 = 8 := by decide
  have e := pk_ushr x 8 8 (by rw [hs]; rfl)
  have hlt : x.toBitVec.toNat < 2 ^ 32 := x.toBitVec.isLt
  have e2 : ush x 8 = nI (x.toBitVec.toNat / 2 ^ 8) := by
    unfold ush
    rw [← Int32.toBitVec_inj]
    apply BitVec.eq_of_toNat_eq
    rw [e, pk_tn (by omega)]
  rw [e2]
  unfold irm
  rw [pk_rem (by omega) hn hn2]
  exact ⟨_, Nat.mod_lt _ hn, rfl⟩
theorem loose_loop {σ0 τ0 : St} {T : Tx} {dn N : Nat} (hT : TB T) (hN : N ≤ 40) : ∀ (n i f g : Nat) (D : Int) (σ τ : St) (h : Hs), i + n = N → n < f → n < g → D + n < 1000000000 → CH σ 2 h → MH (τ 1) h → HB D dn h → CLC σ T → MLC τ T → σ 1 5 = τ 1 1 →
    ∃ σ' τ' h', fX8_loose_42 (nI N) f (nI i) σ = some σ' ∧ fX9_loose_40 (nI N) g (nI i) τ = some τ' ∧ CH σ' 2 h' ∧ MH (τ' 1) h' ∧ HB (D + n) dn h' ∧ CLC σ' T ∧ MLC τ' T ∧ σ' 1 5 = τ' 1 1 ∧ (∀ k, k ≠ 1 → ¬ (2 ≤ k ∧ k ≤ 11) → k ≠ 50 → k ≠ 51 → σ' k = σ k) ∧ (∀ j, j ≠ 5 → σ' 1 j = σ 1 j) ∧ ((∀ k, k ≠ 0 → k ≠ 1 → k ≠ 6 → τ' k = τ k) ∧ (∀ j, j = 5 ∨ j = 6 ∨ j = 7 ∨ j = 8 ∨ 87 ≤ j → τ' 1 j = τ 1 j) ∧ ∀ j, j < 7 ∨ (14 < j ∧ j ≠ 16) → τ' 0 j = τ 0 j)
  | n, i, 0, _, _, _, _, _, _, hf, _, _, _, _, _, _, _, _ => absurd hf (Nat.not_lt_zero _)
  | n, i, _, 0, _, _, _, _, _, _, hg, _, _, _, _, _, _, _ => absurd hg (Nat.not_lt_zero _)
  | 0, i, f + 1, g + 1, D, σ, τ, h, hi, _, _, _, hC, hM, hB, c, ml, z => by
    have : i = N := by omega
    subst this
    refine ⟨σ, τ, h, ?_, ?_, hC, hM, by simpa using hB, c, ml, z, fun _ _ _ _ _ => rfl, fun _ _ => rfl, fun _ _ _ _ => rfl, fun _ _ => rfl, fun _ _ => rfl⟩
    · rw [fX8_loose_42, if_pos (nI_le (Nat.le_refl _) (by omega))]
    · rw [fX9_loose_40, if_pos (nI_le (Nat.le_refl _) (by omega))]
  | n + 1, i, f + 1, g + 1, D, σ, τ, h, hi, hf, hg, hD, hC, hM, hB, c, ml, z => by
    rw [fX8_loose_42, fX9_loose_40, if_neg (nI_ge (by omega) (by omega)), if_neg (nI_ge (by omega) (by omega))]
    unfold fX7_draw fX9_drawn
    rw [ptf, bd1_s, bd2_s, ptf, bd1_s, bd2_s, ald1 (x := 1) (i := 1) rfl (by decide), bd1_s, ast1 (x := 1) (i := 1) rfl (by decide), bd1_s, ald1 (x := 1) (i := 1) rfl (by decide), bd1_s, bd2_s, ald1 (x := 1) (i := 1) rfl (by decide), bd1_s, ast1 (x := 1) (i := 1) rfl (by decide), bd1_s, ald1 (x := 1) (i := 1) rfl (by decide), bd1_s, bd2_s]
    simp only [u2_same, z]
    obtain ⟨y, hy, ey⟩ := rest_b (x := τ 1 1 * 1103515245 + 12345) (n := 6) (by decide) (by decide)
    obtain ⟨d, hd, ed⟩ := rest_b (x := (τ 1 1 * 1103515245 + 12345) * 1103515245 + 12345) (n := 16) (by decide) (by decide)
    rw [show (6 : Int32) = nI 6 from rfl, show (16 : Int32) = nI 16 from rfl, ey, ed, ast_i hy (by decide), bd1_s, l41, nI_add, ast_i (by omega) (by decide), bd1_s]
    have C1 : CH (u2 (u2 σ 1 5 (τ 1 1 * 1103515245 + 12345)) 1 5 ((τ 1 1 * 1103515245 + 12345) * 1103515245 + 12345)) 2 h := hC.fr (fun k hk => by rw [u2_ne (by omega), u2_ne (by omega)])
    have C2 := C1.set2 (k := y) (nI d)
    have M1 : MH (u2 (u2 τ 1 1 (τ 1 1 * 1103515245 + 12345)) 1 1 ((τ 1 1 * 1103515245 + 12345) * 1103515245 + 12345) 1) h := by
      obtain ⟨⟨b0, b1, b2, b3⟩, b, cc, dd⟩ := hM
      refine ⟨⟨?_, ?_, ?_, ?_⟩, fun j hj => ?_, fun j hj => ?_, fun j hj => ?_⟩
      · rw [u2_slot (by decide), u2_slot (by decide)]; exact b0
      · rw [u2_slot (by decide), u2_slot (by decide)]; exact b1
      · rw [u2_slot (by decide), u2_slot (by decide)]; exact b2
      · rw [u2_slot (by decide), u2_slot (by decide)]; exact b3
      · rw [u2_slot (by omega), u2_slot (by omega), u2_slot (by omega), u2_slot (by omega)]; exact b j hj
      · rw [u2_slot (by omega), u2_slot (by omega)]; exact cc j hj
      · rw [u2_slot (by omega), u2_slot (by omega), u2_slot (by omega), u2_slot (by omega), u2_slot (by omega), u2_slot (by omega), u2_slot (by omega), u2_slot (by omega), u2_slot (by omega), u2_slot (by omega)]; exact dd j hj
    have M2 := M1.sv hy (nI d)
    have B2 := hB.set2 (k := y) (v := nI d) (bt_nI (by omega) (by omega))
    obtain ⟨σ3, e3, C3, B3, c3, q3⟩ := spend1 hH_2 hT (by omega) C2 B2 (((c.u2c (by decide) _).u2c (by decide) _).u2c (by decide) _)
    obtain ⟨τ3, g3, M3, m3, t3⟩ := oneDay_eq hT M2 B2 (((ml.u1 (by decide) (by decide) _).u1 (by decide) (by decide) _).u1 (by omega) (by omega) _)
    rw [e3, bd1_s, g3, bd1_s, nI_1]
    have z3 : σ3 1 5 = τ3 1 1 := by
      rw [q3 1 (by decide) (by decide) (by decide) (by decide) (by decide) (by decide), t3.2.1 1 (by omega), u2_ne (by decide), u2_same, u2_slot (by omega), u2_same]
    obtain ⟨σ', τ', h', f1, f2, C4, M4, B4, c4, m4, z4, p4, p5, p6, p7, p8⟩ := loose_loop (σ0 := σ0) (τ0 := τ0) hT hN n (i + 1) f g (D + 1) σ3 τ3 _ (by omega) (by omega) (by omega) (by omega) C3 M3 B3 c3 m3 z3
    refine ⟨σ', τ', h', f1, f2, C4, M4, by rw [show D + ((n + 1 : Nat) : Int) = D + 1 + (n : Int) by omega]; exact B4, c4, m4, z4, ?_, ?_, ?_, ?_, ?_⟩
    · intro k h1 h2 h3 h4
      rw [p4 k h1 h2 h3 h4, q3 k h3 h4 (by omega) (by omega) (by omega) (by omega), u2_ne (by omega), u2_ne h1, u2_ne h1]
    · intro j hj
      rw [p5 j hj, q3 1 (by decide) (by decide) (by decide) (by decide) (by decide) (by decide), u2_ne (by decide), u2_slot hj, u2_slot hj]
    · intro k h0 h1 h6
      rw [p6 k h0 h1 h6, t3.1 k h0 h1 h6, u2_ne h1, u2_ne h1, u2_ne h1]
    · intro j hj
      rw [p7 j hj, t3.2.1 j (by omega), u2_slot (by omega), u2_slot (by omega), u2_slot (by omega)]
    · intro j hj
      rw [p8 j hj, t3.2.2 j hj, u2_ne (by decide), u2_ne (by decide), u2_ne (by decide)]
theorem Rel.z {σ τ : St} {m : Nat} {h : Hs} {T : Tx} {dn : Nat} (n0 : RN σ τ h T dn) (r : σ 1 5 = τ 1 1 ∧ RT σ τ ∧ RW σ τ ∧ RK σ τ m ∧ RD σ τ ∧ RS σ τ ∧ RV σ τ) (v : Int32) : RN (u2 σ 1 5 v) (u2 τ 1 1 v) h T dn ∧ (u2 σ 1 5 v 1 5 = u2 τ 1 1 v 1 1 ∧ RT (u2 σ 1 5 v) (u2 τ 1 1 v) ∧ RW (u2 σ 1 5 v) (u2 τ 1 1 v) ∧ RK (u2 σ 1 5 v) (u2 τ 1 1 v) m ∧ RD (u2 σ 1 5 v) (u2 τ 1 1 v) ∧ RS (u2 σ 1 5 v) (u2 τ 1 1 v) ∧ RV (u2 σ 1 5 v) (u2 τ 1 1 v)) := by
  obtain ⟨a1, a2, a3, a4, a5, a6, a7, a8⟩ := n0
  obtain ⟨z, rt, rw', rk, rd, rs, rv⟩ := r
  refine ⟨⟨a1.fr (fun k hk => u2_ne (by omega)), ?_, a3, a4, a5.u2c (by decide) _, a6.u1 (by decide) (by decide) _, by rw [u2_ne (by decide)]; exact a7, by rw [u2_ne (by decide)]; exact a8⟩, by rw [u2_same, u2_same], ?_, ?_, ?_, ?_, ?_, ?_⟩
  · obtain ⟨⟨b0, b1, b2, b3⟩, b, cc, dd⟩ := a2
    refine ⟨⟨?_, ?_, ?_, ?_⟩, fun j hj => ?_, fun j hj => ?_, fun j hj => ?_⟩
    · rw [u2_slot (by decide)]; exact b0
    · rw [u2_slot (by decide)]; exact b1
    · rw [u2_slot (by decide)]; exact b2
    · rw [u2_slot (by decide)]; exact b3
    · rw [u2_slot (by omega), u2_slot (by omega)]; exact b j hj
    · rw [u2_slot (by omega)]; exact cc j hj
    · rw [u2_slot (by omega), u2_slot (by omega), u2_slot (by omega), u2_slot (by omega), u2_slot (by omega)]; exact dd j hj
  · obtain ⟨⟨n, h1, h2, h3, h4⟩, h5⟩ := rt
    refine ⟨⟨n, h1, by rw [u2_ne (by decide)]; exact h2, by rw [u2_slot (by decide)]; exact h3, fun i hi => ?_⟩, fun i hi => ?_⟩
    · show u2 σ 1 5 v 13 i = u2 τ 1 1 v 1 (87 + i)
      rw [u2_ne (by decide), u2_slot (by omega)]; exact h4 i hi
    · rw [u2_slot (by decide)] at hi
      rw [u2_slot (by omega)]; exact h5 i hi
  · obtain ⟨n, h1, h2, h3, h4⟩ := rw'
    refine ⟨n, h1, by rw [u2_ne (by decide)]; exact h2, by rw [u2_slot (by decide)]; exact h3, fun i hi => ?_⟩
    show u2 σ 1 5 v 15 i = u2 τ 1 1 v 1 (137 + i)
    rw [u2_ne (by decide), u2_slot (by omega)]; exact h4 i hi
  · obtain ⟨n, h1, h2, h3, h4, h5⟩ := rk
    refine ⟨n, h1, by rw [u2_ne (by decide)]; exact h2, by rw [u2_ne (by decide)]; exact h3, by rw [u2_ne (by decide)]; exact h4, fun hn => ?_⟩
    have k := h5 hn
    unfold RKK CH at k ⊢
    simp only [u2_ne (show (21 + 1 : Nat) ≠ 1 by decide), u2_ne (show (21 + 2 : Nat) ≠ 1 by decide), u2_ne (show (21 + 3 : Nat) ≠ 1 by decide), u2_ne (show (21 + 4 : Nat) ≠ 1 by decide), u2_ne (show (21 + 5 : Nat) ≠ 1 by decide), u2_ne (show (21 + 6 : Nat) ≠ 1 by decide), u2_ne (show (21 + 7 : Nat) ≠ 1 by decide), u2_ne (show (21 + 8 : Nat) ≠ 1 by decide), u2_ne (show (21 : Nat) ≠ 1 by decide), u2_ne (show (35 : Nat) ≠ 1 by decide), u2_ne (show (36 : Nat) ≠ 1 by decide), u2_ne (show (37 : Nat) ≠ 1 by decide), u2_ne (show (38 : Nat) ≠ 1 by decide), u2_ne (show (20 : Nat) ≠ 1 by decide), u2_ne (show (31 : Nat) ≠ 1 by decide), u2_ne (show (32 : Nat) ≠ 1 by decide), u2_ne (show (33 : Nat) ≠ 1 by decide), u2_ne (show (34 : Nat) ≠ 1 by decide), u2_ne (show (2 : Nat) ≠ 1 by decide)]
    exact k
  · intro k hk; rw [u2_ne (by decide), u2_ne (by decide)]; exact rd k hk
  · intro i hi
    obtain ⟨n, q⟩ := rs i hi
    rw [u2_ne (r := 59 + 2 * i) (by omega), u2_ne (r := 60 + 2 * i) (by omega), u2_ne (r := 7) (by decide), u2_ne (r := 8) (by decide), u2_ne (r := 9) (by decide)]
    exact ⟨n, q⟩
  · unfold RV; rw [u2_ne (by decide), u2_ne (by decide), u2_ne (by decide), u2_ne (by decide)]; exact rv
theorem op_seed {σ τ : St} {m : Nat} (r : Rel σ τ m) (a : Int32) : OK2 (fX8_seed a σ) (fX9_seed a τ) m := by
  obtain ⟨h, T, dn, n0, rest⟩ := r
  unfold fX8_seed fX9_seed
  rw [ptf, bd1_s, ald1 (x := 1) (i := 1) rfl (by decide), bd1_s, ast1 (x := 1) (i := 1) rfl (by decide), bd1_s]
  obtain ⟨p, q⟩ := Rel.z n0 rest a
  exact ⟨_, _, _, rfl, by rw [rest.1], h, T, dn, p, q⟩
theorem op_loose {σ τ : St} {m : Nat} (r : Rel σ τ m) (a : Int32) : OK2 (fX8_loose a σ) (fX9_loose a τ) m := by
  have r0 := r
  obtain ⟨h, T, dn, n0, rest⟩ := r
  obtain ⟨a1, a2, a3, a4, a5, a6, a7, a8⟩ := id n0
  unfold fX8_loose fX9_loose
  simp only [c_within, m_in, bd2_s, gi0, bd2_eta]
  refine ok_if (σ := σ) (τ := τ) (fun h1 => ?_) (fun _ => ok_e1 r0)
  obtain ⟨n, hn1, hn, rfl⟩ := rg1 40 h1 (by decide)
  rw [ald1 (x := 0) (i := 0) rfl (by decide), bd1_s, a2.1.1, show σ 2 11 = h 8 2 from a1.2.2.2.1]
  refine ok_if (σ := σ) (τ := τ) (fun h2 => ?_) (fun _ => ok_e3 r0)
  have hd := day_le a3 (by omega) h2
  have hD := a3.dy.2
  obtain ⟨σ', τ', h', f1, f2, C4, M4, B4, c4, m4, z4, p4, p5, p6, p7, p8⟩ := loose_loop (σ0 := σ) (τ0 := τ) a4 hn n 0 FU FU (h 8 2).toInt σ τ h (by omega) (FU_lt (by omega)) (FU_lt (by omega)) (by omega) a1 a2 a3.tight a5 a6 rest.1
  rw [show fX8_loose_42 (nI n) FU 0 σ = some σ' from f1, bd1_s, show fX9_loose_40 (nI n) FU 0 τ = some τ' from f2, bd1_s, ald1 (x := 4) (i := 4) rfl (by decide), bd1_s, M4.1.2.2.2, show σ' 2 10 = _ from C4.2.2.1]
  obtain ⟨p, q⟩ := Rel.z n0 rest (τ' 1 1)
  refine ⟨_, _, _, rfl, rfl, Rel.go p q ?_ ?_ C4 M4 (B4.mono hd) c4 m4⟩
  · intro k h1 h2 h3 h4
    by_cases hk : k = 1
    · subst hk
      funext j
      by_cases hj : j = 5
      · subst hj; rw [u2_same]; exact z4
      · rw [u2_slot hj]; exact p5 j hj
    · rw [u2_ne hk]; exact p4 k hk h1 h3 h4
  · refine ⟨fun k h0 h1 h3 h6 => by rw [u2_ne h1]; exact p6 k h0 h1 h6, fun j hj => ?_, fun j hj => by rw [u2_ne (by decide)]; exact p8 j hj⟩
    by_cases hj1 : j = 1
    · subst hj1; rw [u2_same]
    · rw [u2_slot hj1]; exact p7 j (by omega)
