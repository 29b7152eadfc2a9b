theorem sm_b {f : Nat → Int32} {hi : Nat} : ∀ {n : Nat}, (∀ k, k < n → bt 0 hi (f k)) → n * hi < 2000000000 → bt 0 (n * hi) (sm f n)
  | 0, _, _ => ⟨by show (0 : Int) ≤ (0 : Int32).toInt; decide, by simp [sm]⟩
  | n + 1, h, hb => by
    have hb' : n * hi < 2000000000 := by rw [Nat.succ_mul] at hb; omega
    have ih := sm_b (n := n) (fun k hk => h k (by omega)) hb'
    have hn := h n (by omega)
    have e : (sm f n + f n).toInt = (sm f n).toInt + (f n).toInt := fb_addI (by have := ih.1; have := hn.1; omega) (by have := ih.2; have := hn.2; rw [Nat.succ_mul] at hb; omega)
    have h1 := ih.1
    have h2 := ih.2
    have h3 := hn.1
    have h4 := hn.2
    unfold bt
    simp only [sm]
    rw [e]
    constructor
    · omega
    · rw [show (((n + 1 : Nat) : Int) * (hi : Int)) = (n : Int) * hi + hi by rw [Int.natCast_succ, Int.add_mul, Int.one_mul]]
      omega
theorem known_b {D : Int} {dn : Nat} {h : Hs} (hB : HB D dn h) : 0 ≤ (sm (h 7) dn).toInt := (sm_b (hi := 99) (fun k hk => hB.kn (by have := hB.dn; omega)) (by have := hB.dn; omega)).1
theorem daysS_b {T : Tx} (hT : TB T) {dn : Nat} : ∀ (n : Nat) {D : Int} {h : Hs}, D + n < 1000000000 → HB D dn h → HB (D + n) dn (daysS T dn n h)
  | 0, D, h, _, hB => by show HB (D + ((0 : Nat) : Int)) dn h; simpa using hB
  | n + 1, D, h, hD, hB => by
    have := daysS_b hT n (D := D + 1) (by omega) (dayS_b hT (by omega) hB)
    rw [show D + ((n + 1 : Nat) : Int) = D + 1 + (n : Int) by omega]
    exact this
theorem m_behind {τ0 τ : St} {T : Tx} {dn n : Nat} {h : Hs} (hT : TB T) (hn : n ≤ 60) (h0 : ML τ0 T) (hB : HB 9999 dn h) (hH : MH (τ 1) h) (t : TM τ0 τ) (ml : MLC τ T) :
    ∃ τ', fX9_knownBehind (nI n) τ = some (sm (daysS T dn n h 7) dn, τ') ∧ TM τ0 τ' ∧ (∀ j, j < 257 → τ' 1 j = τ0 1 j) ∧ MLC τ' T := by
  unfold fX9_knownBehind
  obtain ⟨τ1, g1, M1, m1, t1⟩ := passes_eq hT hn (D := 9999) (by decide) hH hB ml
  have B1 := daysS_b hT n (D := 9999) (h := h) (by omega) hB
  obtain ⟨τ2, g2, t2, u2', m2⟩ := backM_eq h0 (t.D t1) m1.2
  rw [g1, bd1_s, m_sum (x := 4) (w := 4) rfl (by decide) hB.dn (by rw [M1.1.2.1, B1.d3]) (g := daysS T dn n h 7) (fun k hk => (M1.2.2.2 k (by have := hB.dn; omega)).2.2.2.2), bd2_s, g2, bd1_s]
  exact ⟨τ2, rfl, t2, u2', m2⟩
theorem best_loop {σ0 τ0 : St} {T : Tx} {dn y N : Nat} {h : Hs} (hT : TB T) (hy : y < 6) (hN : N ≤ 60) (w : Int32) (hC0 : CH σ0 2 h) (h0 : ML τ0 T) (hB : HB 9999 dn h) (hM0 : MH (τ0 1) h) : ∀ (n d f g : Nat) (a4 b4 a5 : Int32) (σ τ : St), d + n = 16 → n < f → n < g → (d = 0 → a5 = -1) → (d ≠ 0 → a4 = b4) → TQ σ0 σ → CLC σ T → TM τ0 τ → (∀ j, j < 257 → τ 1 j = τ0 1 j) → MLC τ T →
    ∃ x z σ' τ', fX8_best_41 (nI y) (nI N) w f a4 a5 (nI d) σ = some (x, z, σ') ∧ fX9_best_54 (nI y) (nI N) w g b4 a5 (nI d) τ = some (x, z, τ') ∧ TQ σ0 σ' ∧ CLC σ' T ∧ TM τ0 τ' ∧ (∀ j, j < 257 → τ' 1 j = τ0 1 j) ∧ MLC τ' T
  | n, i, 0, _, _, _, _, _, _, _, hf, _, _, _, _, _, _, _, _ => absurd hf (Nat.not_lt_zero _)
  | n, i, _, 0, _, _, _, _, _, _, _, hg, _, _, _, _, _, _, _ => absurd hg (Nat.not_lt_zero _)
  | 0, d, f + 1, g + 1, a4, b4, a5, σ, τ, hi, _, _, i1, i2, q, c, t, re, ml => by
    have : d = 16 := by omega
    subst this
    refine ⟨a4, a5, σ, τ, ?_, ?_, q, c, t, re, ml⟩
    · rw [fX8_best_41, if_pos (by decide)]
    · rw [fX9_best_54, if_pos (by decide), i2 (by decide)]
  | n + 1, d, f + 1, g + 1, a4, b4, a5, σ, τ, hi, hf, hg, i1, i2, q, c, t, re, ml => by
    rw [fX8_best_41, fX9_best_54, if_neg (show ¬ (16 : Int32) ≤ nI d from nI_ge (b := 16) (by omega) (by decide)), if_neg (show ¬ (16 : Int32) ≤ nI d from nI_ge (b := 16) (by omega) (by decide))]
    obtain ⟨σ1, e1, C1, q1, c1⟩ := think_eq (hC0.q q) c
    have B1 := hB.set2 (k := y) (v := nI d) (bt_nI (by omega) (by omega))
    obtain ⟨σ2, f2, C2, B2, c2, q2⟩ := spend_eq hH_39 hT hN (D := 9999) (by decide) (C1.set2 (k := y) (nI d)) B1 (c1.u2c (by decide) _)
    have M1 : MH (u2 τ 1 (41 + y) (nI d) 1) (hset h 2 y (nI d)) := (hM0.of (fun j hj => re j (by omega))).sv hy (nI d)
    obtain ⟨τ1, g1, t1, r1, m1⟩ := m_behind hT hN h0 B1 M1 (t.u1 _) (ml.u1 (by omega) (by omega) _)
    rw [e1, bd1_s, ast_i hy (by decide), bd1_s, f2, bd1_s, c_known C2 B2, bd2_s, l41, nI_add, ast_i (by omega) (by decide), bd1_s, g1, bd2_s]
    simp only [jn]
    have Q := q.tr ((q1.tr (TQ.u (σ := σ1) (k := 42) (j := y) (by decide) (nI d))).tr q2.Q)
    by_cases z : sm (daysS T dn N (hset h 2 y (nI d)) 7) dn ≤ a5
    · rw [if_pos z, if_pos z, if_pos z, nI_1]
      have hd0 : d ≠ 0 := by
        intro hd
        rw [i1 hd] at z
        have z1 := i_le.mp z
        have z2 := known_b B2
        rw [show (-1 : Int32).toInt = -1 by decide] at z1
        omega
      exact best_loop hT hy hN w hC0 h0 hB hM0 n (d + 1) f g a4 b4 a5 σ2 τ1 (by omega) (by omega) (by omega) (fun hd => absurd hd (by omega)) (fun _ => i2 hd0) Q c2 t1 r1 m1
    · rw [if_neg z, if_neg z, if_neg z, nI_1]
      exact best_loop hT hy hN w hC0 h0 hB hM0 n (d + 1) f g (nI d) (nI d) _ σ2 τ1 (by omega) (by omega) (by omega) (fun hd => absurd hd (by omega)) (fun _ => rfl) Q c2 t1 r1 m1
theorem op_best {σ τ : St} {m : Nat} (r : Rel σ τ m) (a b c : Int32) : OK2 (fX8_best a b c σ) (fX9_best a b c τ) m := by
  have r0 := r
  obtain ⟨h, T, dn, n0, rest⟩ := r
  obtain ⟨a1, a2, a3, a4, a5, a6, a7, a8⟩ := id n0
  unfold fX8_best fX9_best
  simp only [jn, c_isCourse, c_within, m_isCourse, m_in, bd2_s, gi0, bd2_eta]
  refine ok_if (σ := σ) (τ := τ) (fun h1 => ok_if (σ := σ) (τ := τ) (fun h2 => ok_if (σ := σ) (τ := τ) (fun h3 => ?_) (fun _ => ok_e1 r0)) (fun _ => ok_e1 r0)) (fun _ => ok_e1 r0)
  obtain ⟨y, hy, -, rfl⟩ := rg 5 h1 (by decide)
  obtain ⟨N, hN, -, rfl⟩ := rg 20 h2 (by decide)
  obtain ⟨τ1, g1, t1, u1, m1⟩ := thinkM_eq a6
  obtain ⟨x, z, σ2, τ2, f1, f2, q2, c2, t2, re2, m2⟩ := best_loop (σ0 := σ) (τ0 := τ) (dn := dn) a4 (show y < 6 by omega) (show N ≤ 60 by omega) c a1 a6.1 a3 a2 16 0 FU FU (-1) 0 (-1) σ τ1 rfl (FU_lt (by omega)) (FU_lt (by omega)) (fun _ => rfl) (fun h => absurd rfl h) (TQ.rf σ) a5 t1 (fun j _ => by rw [u1]) m1
  have R := Rel.q n0 rest q2 c2 t2 re2 m2
  rw [g1, bd1_s, show fX8_best_41 (nI y) (nI N) c FU (-1) (-1) 0 σ = some (x, z, σ2) from f1, bd3_s, show fX9_best_54 (nI y) (nI N) c FU 0 (-1) 0 τ1 = some (x, z, τ2) from f2, bd3_s]
  exact ok_if (σ := σ2) (τ := τ2) (fun _ => ok_some _ R) (fun _ => ok_some _ R)
theorem swap_in {σ0 τ0 : St} {T : Tx} {dn y N : Nat} {h : Hs} (hT : TB T) (hy : y < 6) (hN : N ≤ 60) (hC0 : CH σ0 2 h) (h0 : ML τ0 T) (hB : HB 9999 dn h) (hM0 : MH (τ0 1) h) : ∀ (n o f g : Nat) (p most : Int32) (σ τ : St), o + n = 6 → n < f → n < g → TQ σ0 σ → CLC σ T → TM τ0 τ → (∀ j, j < 257 → τ 1 j = τ0 1 j) → MLC τ T →
    ∃ x z σ' τ', fX8_swap_58 (nI N) (nI y) f most p (nI o) σ = some (z, x, σ') ∧ fX9_swap_53 (nI N) (nI y) g p most (nI o) τ = some (x, z, τ') ∧ TQ σ0 σ' ∧ CLC σ' T ∧ TM τ0 τ' ∧ (∀ j, j < 257 → τ' 1 j = τ0 1 j) ∧ MLC τ' T
  | n, i, 0, _, _, _, _, _, _, hf, _, _, _, _, _, _ => absurd hf (Nat.not_lt_zero _)
  | n, i, _, 0, _, _, _, _, _, _, hg, _, _, _, _, _ => absurd hg (Nat.not_lt_zero _)
  | 0, o, f + 1, g + 1, p, most, σ, τ, hi, _, _, q, c, t, re, ml => by
    have : o = 6 := by omega
    subst this
    refine ⟨p, most, σ, τ, ?_, ?_, q, c, t, re, ml⟩
    · rw [fX8_swap_58, if_pos (by decide)]
    · rw [fX9_swap_53, if_pos (by decide)]
  | n + 1, o, f + 1, g + 1, p, most, σ, τ, hi, hf, hg, q, c, t, re, ml => by
    have ho : o < 6 := by omega
    rw [fX8_swap_58, fX9_swap_53, if_neg (show ¬ (6 : Int32) ≤ nI o from nI_ge (b := 6) (by omega) (by decide)), if_neg (show ¬ (6 : Int32) ≤ nI o from nI_ge (b := 6) (by omega) (by decide))]
    have CC := hC0.q q
    obtain ⟨σ1, e1, C1, q1, c1⟩ := think_eq CC c
    have C5 := CC.q q1
    have B1 := (hB.set2 (k := y) (hB.sv ho)).set2 (k := o) (hB.sv hy)
    have C2a := (C1.set2 (k := y) (h 2 o)).set2 (k := o) (h 2 y)
    obtain ⟨σ2, f2, C2, B2, c2, q2⟩ := spend_eq hH_39 hT hN (D := 9999) (by decide) C2a B1 ((c1.u2c (by decide) _).u2c (by decide) _)
    have M0 : MH (τ 1) h := hM0.of (fun j hj => re j (by omega))
    have M1 := (M0.sv hy (h 2 o)).sv ho (h 2 y)
    obtain ⟨τ1, g1, t1, r1, m1⟩ := m_behind hT hN h0 B1 M1 ((t.u1 _).u1 _) ((ml.u1 (by omega) (by omega) _).u1 (by omega) (by omega) _)
    rw [e1, bd1_s, ald_i ho (by decide), bd1_s, show σ1 5 o = h 2 o from C5.1.2.2.1 o ho, ast_i hy (by decide), bd1_s, ald_i hy (by decide), bd1_s, u2_ne (show (5 : Nat) ≠ 42 by decide), show σ1 5 y = h 2 y from C5.1.2.2.1 y hy, ast_i ho (by decide), bd1_s, f2, bd1_s, c_known C2 B2, bd2_s, c_known C2 B2, l41, nI_add, nI_add, ald_i (by omega) (by decide), bd1_s, t.1 _ (by omega), hM0.2.2.1 o ho, ast_i (by omega) (by decide), bd1_s, ald_i (by omega) (by decide), bd1_s, u2_ne (show (3 : Nat) ≠ 1 by decide), t.1 _ (by omega), hM0.2.2.1 y hy, ast_i (by omega) (by decide), bd1_s, g1, bd2_s]
    simp only [jn, bd2_s]
    have Q := q.tr (((q1.tr (TQ.u (σ := σ1) (k := 42) (j := y) (by decide) (h 2 o))).tr (TQ.u (k := 42) (j := o) (by decide) (h 2 y))).tr q2.Q)
    by_cases z : sm (daysS T dn N (hset (hset h 2 y (h 2 o)) 2 o (h 2 y)) 7) dn ≤ most
    · rw [if_pos z, if_pos z, if_pos z, nI_1]
      exact swap_in hT hy hN hC0 h0 hB hM0 n (o + 1) f g p most σ2 τ1 (by omega) (by omega) (by omega) Q c2 t1 r1 m1
    · rw [if_neg z, if_neg z, if_neg z, nI_1]
      exact swap_in hT hy hN hC0 h0 hB hM0 n (o + 1) f g _ _ σ2 τ1 (by omega) (by omega) (by omega) Q c2 t1 r1 m1
theorem swap_out {σ0 τ0 : St} {T : Tx} {dn N : Nat} {h : Hs} (hT : TB T) (hN : N ≤ 60) (hC0 : CH σ0 2 h) (h0 : ML τ0 T) (hB : HB 9999 dn h) (hM0 : MH (τ0 1) h) : ∀ (n y f g : Nat) (p most : Int32) (σ τ : St), y + n = 6 → n < f → n < g → TQ σ0 σ → CLC σ T → TM τ0 τ → (∀ j, j < 257 → τ 1 j = τ0 1 j) → MLC τ T →
    ∃ x σ' τ', fX8_swap_45 (nI N) f most p (nI y) σ = some (x, σ') ∧ fX9_swap_40 (nI N) g p most (nI y) τ = some (x, τ') ∧ TQ σ0 σ' ∧ CLC σ' T ∧ TM τ0 τ' ∧ (∀ j, j < 257 → τ' 1 j = τ0 1 j) ∧ MLC τ' T
  | n, i, 0, _, _, _, _, _, _, hf, _, _, _, _, _, _ => absurd hf (Nat.not_lt_zero _)
  | n, i, _, 0, _, _, _, _, _, _, hg, _, _, _, _, _ => absurd hg (Nat.not_lt_zero _)
  | 0, y, f + 1, g + 1, p, most, σ, τ, hi, _, _, q, c, t, re, ml => by
    have : y = 6 := by omega
    subst this
    refine ⟨p, σ, τ, ?_, ?_, q, c, t, re, ml⟩
    · rw [fX8_swap_45, if_pos (by decide)]
    · rw [fX9_swap_40, if_pos (by decide)]
  | n + 1, y, f + 1, g + 1, p, most, σ, τ, hi, hf, hg, q, c, t, re, ml => by
    rw [fX8_swap_45, fX9_swap_40, if_neg (show ¬ (6 : Int32) ≤ nI y from nI_ge (b := 6) (by omega) (by decide)), if_neg (show ¬ (6 : Int32) ≤ nI y from nI_ge (b := 6) (by omega) (by decide)), nI_1]
    obtain ⟨x, z, σ1, τ1, f1, f2, q1, c1, t1, r1, m1⟩ := swap_in (dn := dn) hT (show y < 6 by omega) hN hC0 h0 hB hM0 (5 - y) (y + 1) FU FU p most σ τ (by omega) (FU_lt (by omega)) (FU_lt (by omega)) q c t re ml
    rw [f1, bd3_s, f2, bd3_s]
    exact swap_out hT hN hC0 h0 hB hM0 n (y + 1) f g x z σ1 τ1 (by omega) (by omega) (by omega) q1 c1 t1 r1 m1
theorem op_swap {σ τ : St} {m : Nat} (r : Rel σ τ m) (a : Int32) : OK2 (fX8_swap a σ) (fX9_swap a τ) m := by
  have r0 := r
  obtain ⟨h, T, dn, n0, rest⟩ := r
  obtain ⟨a1, a2, a3, a4, a5, a6, a7, a8⟩ := id n0
  unfold fX8_swap fX9_swap
  simp only [c_within, m_in, bd2_s, gi0, bd2_eta]
  refine ok_if (σ := σ) (τ := τ) (fun h1 => ?_) (fun _ => ok_e1 r0)
  obtain ⟨N, hN, -, rfl⟩ := rg 20 h1 (by decide)
  obtain ⟨σ1, e1, C1, q1, c1⟩ := think_eq a1 a5
  obtain ⟨σ2, f2, C2, B2, c2, q2⟩ := spend_eq hH_39 a4 (show N ≤ 60 by omega) (D := 9999) (by decide) C1 a3 c1
  obtain ⟨τ1, g1, t1, u1, m1⟩ := thinkM_eq a6
  obtain ⟨τ2, g2, t2, r2, m2⟩ := m_behind a4 (show N ≤ 60 by omega) a6.1 a3 (by rw [u1]; exact a2) t1 m1
  rw [e1, bd1_s, f2, bd1_s, c_known C2 B2, bd2_s, g1, bd1_s, g2, bd2_s]
  obtain ⟨x, σ3, τ3, f3, g3, q3, c3, t3, r3, m3⟩ := swap_out (σ0 := σ) (τ0 := τ) (dn := dn) a4 (show N ≤ 60 by omega) a1 a6.1 a3 a2 6 0 FU FU (-1) (sm (daysS T dn N h 7) dn) σ2 τ2 rfl (FU_lt (by omega)) (FU_lt (by omega)) (q1.tr q2.Q) c2 t2 r2 m2
  rw [show fX8_swap_45 (nI N) FU (sm (daysS T dn N h 7) dn) (-1) 0 σ2 = some (x, σ3) from f3, show fX9_swap_40 (nI N) FU (-1) (sm (daysS T dn N h 7) dn) 0 τ2 = some (x, τ3) from g3]
  exact ok_some _ (Rel.q n0 rest q3 c3 t3 r3 m3)
def brk (h : Hs) : Nat → Int32
  | 0 => 0
  | n + 1 => if h 5 n = 9 then brk h n ||| shl 1 (nI n) else brk h n
theorem c_broken {σ : St} {h : Hs} {D : Int} {dn : Nat} (hC : CH σ 39 h) (hB : HB D dn h) : ∀ (n k f : Nat), k + n = dn → n < f → fX8_broken_33 f (brk h k) (nI k) σ = some (brk h dn, σ)
  | n, k, 0, _, hf => absurd hf (Nat.not_lt_zero _)
  | 0, k, f + 1, hk, _ => by
    have : k = dn := by omega
    subst this
    rw [fX8_broken_33, hC.2.2.2.2, hB.d3, if_pos (nI_le (Nat.le_refl _) (by have := hB.dn; omega))]
  | n + 1, k, f + 1, hk, hf => by
    have := hB.dn
    rw [fX8_broken_33, hC.2.2.2.2, hB.d3, if_neg (nI_ge (by omega) (by omega)), ald_i (by omega) (by decide), bd1_s, show σ 45 k = h 5 k from hC.1.2.2.2.2.2.1 k (by omega)]
    simp only [jn]
    have ih := c_broken hC hB n (k + 1) f (by omega) (by omega)
    rw [nI_1]
    by_cases q : h 5 k = 9
    · rw [if_pos q]; simp only [brk, if_pos q] at ih; exact ih
    · rw [if_neg q]; simp only [brk, if_neg q] at ih; exact ih
theorem m_broken {s : St} {h : Hs} {D : Int} {dn : Nat} (hH : MH (s 1) h) (hB : HB D dn h) : ∀ (n k f : Nat), k + n = dn → n < f → fX9_brokenSet_4 f (brk h k) (nI k) s = some (brk h dn, s)
  | n, k, 0, _, hf => absurd hf (Nat.not_lt_zero _)
  | 0, k, f + 1, hk, _ => by
    have : k = dn := by omega
    subst this
    rw [fX9_brokenSet_4, ald1 (x := 2) (i := 2) rfl (by decide), bd1_s, hH.1.2.1, hB.d3, if_pos (nI_le (Nat.le_refl _) (by have := hB.dn; omega))]
  | n + 1, k, f + 1, hk, hf => by
    have := hB.dn
    rw [fX9_brokenSet_4, ald1 (x := 2) (i := 2) rfl (by decide), bd1_s, hH.1.2.1, hB.d3, if_neg (nI_ge (by omega) (by omega)), its_eq (x := 2) (w := 2) rfl (by omega) (by decide), bd2_s, (hH.2.2.2 k (by omega)).2.2.1]
    simp only [jn]
    have ih := m_broken hH hB n (k + 1) f (by omega) (by omega)
    rw [nI_1]
    by_cases q : h 5 k = 9
    · rw [if_pos q]; simp only [brk, if_pos q] at ih; exact ih
    · rw [if_neg q, show brk h k ||| 0 = brk h k by simp]; simp only [brk, if_neg q] at ih; exact ih
theorem op_broken {σ τ : St} {m : Nat} (r : Rel σ τ m) (a : Int32) : OK2 (fX8_broken a σ) (fX9_broken a τ) m := by
  have r0 := r
  obtain ⟨h, T, dn, n0, rest⟩ := r
  obtain ⟨a1, a2, a3, a4, a5, a6, a7, a8⟩ := id n0
  unfold fX8_broken fX9_broken fX9_brokenSet
  simp only [c_isAhead, m_in, bd2_s, gi0, bd2_eta]
  refine ok_if (σ := σ) (τ := τ) (fun h1 => ?_) (fun _ => ok_e1 r0)
  obtain ⟨n, hn, -, rfl⟩ := rg 60 h1 (by decide)
  obtain ⟨σ1, e1, C1, q1, c1⟩ := think_eq a1 a5
  obtain ⟨σ2, f2, C2, B2, c2, q2⟩ := spend_eq hH_39 a4 hn (D := 9999) (by decide) C1 a3 c1
  obtain ⟨τ1, g1, t1, u1, m1⟩ := thinkM_eq a6
  obtain ⟨τ2, g2, M2, m2, t2⟩ := passes_eq a4 hn (D := 9999) (s := τ1) (by decide) (by rw [u1]; exact a2) a3 m1
  obtain ⟨τ3, g3, t3, u3, m3⟩ := backM_eq a6.1 (t1.D t2) m2.2
  rw [e1, bd1_s, f2, bd1_s, g1, bd1_s, g2, bd1_s, show fX8_broken_33 FU 0 0 σ2 = some (brk _ dn, σ2) from c_broken C2 B2 dn 0 FU (by omega) (FU_lt (by have := a3.dn; omega)), show fX9_brokenSet_4 FU 0 0 τ2 = some (brk _ dn, τ2) from m_broken M2 B2 dn 0 FU (by omega) (FU_lt (by have := a3.dn; omega)), bd2_s, g3, bd1_s]
  exact ok_some _ (Rel.q n0 rest (q1.tr q2.Q) c2 t3 u3 m3)
theorem op_swill {σ τ : St} {m : Nat} (r : Rel σ τ m) (a : Int32) : OK2 (fX8_swill a σ) (fX9_swill a τ) m := by
  have r0 := r
  obtain ⟨h, T, dn, n0, rest⟩ := r
  obtain ⟨a1, a2, a3, a4, a5, a6, a7, a8⟩ := id n0
  unfold fX8_swill fX9_swill
  simp only [c_isAhead, m_in, bd2_s, gi0, bd2_eta]
  refine ok_if (σ := σ) (τ := τ) (fun h1 => ?_) (fun _ => ok_e1 r0)
  obtain ⟨n, hn, -, rfl⟩ := rg 60 h1 (by decide)
  obtain ⟨σ1, e1, C1, q1, c1⟩ := think_eq a1 a5
  obtain ⟨σ2, f2, C2, B2, c2, q2⟩ := spend_eq hH_39 a4 hn (D := 9999) (by decide) C1 a3 c1
  obtain ⟨τ1, g1, t1, u1, m1⟩ := thinkM_eq a6
  obtain ⟨τ2, g2, M2, m2, t2⟩ := passes_eq a4 hn (D := 9999) (s := τ1) (by decide) (by rw [u1]; exact a2) a3 m1
  have t12 := t1.D t2
  obtain ⟨τ3, g3, t3, u3, m3⟩ := backM_eq a6.1 t12 m2.2
  have Q := q1.tr q2.Q
  rw [e1, bd1_s, f2, bd1_s, g1, bd1_s, g2, bd1_s, ald1 (x := 4) (i := 4) rfl (by decide), bd1_s, show ald τ2 3 257 4 = some (τ2 3 4) from ald_i (i := 4) (by decide) (by decide), bd1_s, g3, bd1_s, M2.1.2.2.2, t12.1 4 (by decide), a2.1.2.2.2, show σ2 39 10 = _ from C2.2.2.1, show σ2 2 10 = h 8 1 from (a1.q Q).2.2.1]
  exact ok_some _ (Rel.q n0 rest Q c2 t3 u3 m3)
theorem odds_loop {σ0 τ0 : St} {T : Tx} {dn k N : Nat} {h : Hs} (hT : TB T) (hk : k < 8) (hN : N ≤ 60) (v w : Int32) (hC0 : CH σ0 2 h) (h0 : ML τ0 T) (hB : HB 9999 dn h) (hM0 : MH (τ0 1) h) : ∀ (n i f g x : Nat) (σ τ : St), i + n = 10 → x ≤ i → n < f → n < g → TQ σ0 σ → CLC σ T → TM τ0 τ → (∀ j, j < 257 → τ 1 j = τ0 1 j) → MLC τ T →
    ∃ y σ' τ', y ≤ 10 ∧ fX8_odds_47 (nI k) (nI N) v w f (nI x) (nI i) σ = some (nI y, σ') ∧ fX9_odds_63 (nI k) (nI N) v w g (nI x) (nI i) τ = some (nI y, τ') ∧ TQ σ0 σ' ∧ CLC σ' T ∧ TM τ0 τ' ∧ (∀ j, j < 257 → τ' 1 j = τ0 1 j) ∧ MLC τ' T
  | n, i, 0, _, _, _, _, _, _, hf, _, _, _, _, _, _ => absurd hf (Nat.not_lt_zero _)
  | n, i, _, 0, _, _, _, _, _, _, hg, _, _, _, _, _ => absurd hg (Nat.not_lt_zero _)
  | 0, i, f + 1, g + 1, x, σ, τ, hi, hx, _, _, q, c, t, re, ml => by
    have : i = 10 := by omega
    subst this
    refine ⟨x, σ, τ, hx, ?_, ?_, q, c, t, re, ml⟩
    · rw [fX8_odds_47, if_pos (by decide)]
    · rw [fX9_odds_63, if_pos (by decide)]
  | n + 1, i, f + 1, g + 1, x, σ, τ, hi, hx, hf, hg, q, c, t, re, ml => by
    rw [fX8_odds_47, fX9_odds_63, if_neg (show ¬ (10 : Int32) ≤ nI i from nI_ge (b := 10) (by omega) (by decide)), if_neg (show ¬ (10 : Int32) ≤ nI i from nI_ge (b := 10) (by omega) (by decide)), show (4 : Int32) = nI 4 from rfl, pk_mul]
    obtain ⟨σ1, σ2, e1, e2, C2, q2, c2⟩ := c_room (dn := dn) (i := 4 * i) hT hN (by omega) hB (hC0.q q) c
    obtain ⟨τ1, g1, t1, r1, m1⟩ := m_isKnown hT hk hN (show 4 * i ≤ 40 by omega) v h0 hB hM0 re t ml
    rw [e1, bd1_s, ptf, bd1_s, e2, bd1_s, ald_i hk (by decide), bd1_s, g1, bd2_s, show σ2 47 k = _ from C2.1.2.2.2.2.2.2.2 k hk]
    simp only [jn]
    by_cases z : daysS T dn N (hset h 8 0 (nI (4 * i))) 7 k < v
    · rw [if_pos z, if_pos z, if_pos rfl, nI_1, show nI x + 0 = nI x by simp]
      exact odds_loop hT hk hN v w hC0 h0 hB hM0 n (i + 1) f g x σ2 τ1 (by omega) (by omega) (by omega) (by omega) (q.tr q2) c2 t1 r1 m1
    · rw [if_neg z, if_neg z, if_neg (by decide), nI_1, nI_1]
      exact odds_loop hT hk hN v w hC0 h0 hB hM0 n (i + 1) f g (x + 1) σ2 τ1 (by omega) (by omega) (by omega) (by omega) (q.tr q2) c2 t1 r1 m1
theorem op_odds {σ τ : St} {m : Nat} (r : Rel σ τ m) (a b c d : Int32) : OK2 (fX8_odds a b c d σ) (fX9_odds a b c d τ) m := by
  have r0 := r
  obtain ⟨h, T, dn, n0, rest⟩ := r
  obtain ⟨a1, a2, a3, a4, a5, a6, a7, a8⟩ := id n0
  have e12 : σ 2 12 = nI dn := by rw [a1.2.2.2.2, a3.d3]
  have e2 : τ 1 2 = nI dn := by rw [a2.1.2.1, a3.d3]
  unfold fX8_odds fX9_odds
  simp only [jn, c_isDiner e12, c_isKnown, c_within, m_isDiner e2, m_in, bd2_s, gi0, bd2_eta]
  refine ok_if (σ := σ) (τ := τ) (fun h1 => ok_if (σ := σ) (τ := τ) (fun h2 => ok_if (σ := σ) (τ := τ) (fun h3 => ok_if (σ := σ) (τ := τ) (fun h4 => ?_) (fun _ => ok_e1 r0)) (fun _ => ok_e1 r0)) (fun _ => ok_e1 r0)) (fun _ => ok_e1 r0)
  obtain ⟨k, hk, hk8, rfl⟩ := rgd a3.dn h1
  obtain ⟨N, hN, -, rfl⟩ := rg 30 h2 (by decide)
  obtain ⟨w, hw, -, rfl⟩ := rg 1 h4 (by decide)
  obtain ⟨τ1, g1, t1, u1, m1⟩ := thinkM_eq a6
  obtain ⟨y, σ2, τ2, hy, f1, f2, q2, c2, t2, re2, m2⟩ := odds_loop (σ0 := σ) (τ0 := τ) (dn := dn) a4 hk8 (show N ≤ 60 by omega) c (nI w) a1 a6.1 a3 a2 10 0 FU FU 0 σ τ1 rfl (Nat.le_refl _) (FU_lt (by omega)) (FU_lt (by omega)) (TQ.rf σ) a5 t1 (fun j _ => by rw [u1]) m1
  have R := Rel.q n0 rest q2 c2 t2 re2 m2
  rw [g1, bd1_s, show fX8_odds_47 (nI k) (nI N) c (nI w) FU 0 0 σ = some (nI y, σ2) from f1, bd2_s, show fX9_odds_63 (nI k) (nI N) c (nI w) FU 0 0 τ1 = some (nI y, τ2) from f2, bd2_s]
  rcases (show w = 0 ∨ w = 1 by omega) with rfl | rfl <;> rcases (show y = 0 ∨ y = 1 ∨ y = 2 ∨ y = 3 ∨ y = 4 ∨ y = 5 ∨ y = 6 ∨ y = 7 ∨ y = 8 ∨ y = 9 ∨ y = 10 by omega) with rfl | rfl | rfl | rfl | rfl | rfl | rfl | rfl | rfl | rfl | rfl <;> exact ⟨_, σ2, τ2, rfl, rfl, R⟩
