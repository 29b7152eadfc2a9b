/-! images -/
theorem CLg.of {p q r w p' q' r' w' : Nat → Int32} {T : Tx} (c : CLg p q r w T) (h1 : p' 1 = p 1) (h2 : ∀ i, i < (p 1).toNatClampNeg → q' i = q i) (h3 : r' 1 = r 1) (h4 : ∀ i, i < (r 1).toNatClampNeg → w' i = w i) : CLg p' q' r' w' T := by
  intro u s hu hs
  refine c u s hu ⟨fun h0 => ⟨(hs.1 h0).1.trans h1, fun i hi => ?_⟩, fun h0 => ⟨(hs.2 h0).1.trans h3, fun i hi => ?_⟩⟩
  · rw [(hs.1 h0).2 i (by rw [h1]; exact hi), h2 i hi]
  · rw [(hs.2 h0).2 i (by rw [h3]; exact hi), h4 i hi]
theorem MLg.of {r r' : Nat → Int32} {T : Tx} (c : MLg r T) (e : ∀ j, j = 7 ∨ j = 8 ∨ (157 ≤ j ∧ j < 257) → r' j = r j) : MLg r' T := fun s u hu q => c s u hu (fun j hj => (q j hj).trans (e j (by omega)))
theorem rowcp {a b n : Nat} {σ : St} (hs : σ b 1 = nI n) (hn : n ≤ rl a) (hr : rl a = rl b) (h1 : a ≠ b) (h2 : a + 1 ≠ b) (h3 : a ≠ b + 1) (hl : rl a ≤ 50) : ∃ σ', fX4_copyFrom a b σ = some σ' ∧ σ' a 1 = nI n ∧ (∀ i, i < n → σ' (a + 1) i = σ (b + 1) i) ∧ ∀ k, k ≠ a → k ≠ a + 1 → σ' k = σ k := by
  unfold fX4_copyFrom
  have e : imn (nI n) (Int32.ofNat (rl a)) = nI n := by
    rw [show Int32.ofNat (rl a) = nI (rl a) from rfl, imn_nI (by omega) (by omega), Nat.min_eq_left hn]
  rw [hs, ptf, bd1_s, e, u2_same]
  unfold acp
  rw [if_pos ⟨by decide, by decide, nI_pos (by omega), by rw [nI_clamp (by omega), show (0 : Int32).toNatClampNeg = 0 from rfl]; omega, by rw [nI_clamp (by omega), show (0 : Int32).toNatClampNeg = 0 from rfl]; omega⟩, bd1_s, nI_clamp (by omega), show (0 : Int32).toNatClampNeg = 0 from rfl]
  refine ⟨_, rfl, ?_, fun i hi => ?_, fun k hk hk1 => ?_⟩
  · rw [uA_ne _ (by omega), u2_same]
  · rw [uA_same, cpy0 hi, u2_ne (by omega)]
  · rw [uA_ne _ hk1, u2_ne hk]
theorem wholecp {a b : Nat} (hab : (a = 20 ∧ b = 1) ∨ (a = 1 ∧ b = 20)) {σ : St} {h : Hs} {n1 n2 n3 n4 : Nat} (hC : CH σ (b + 1) h) (r1 : σ (b + 11) 1 = nI n1) (l1 : n1 ≤ 50) (r2 : σ (b + 13) 1 = nI n2) (l2 : n2 ≤ 20) (r3 : σ (b + 15) 1 = nI n3) (l3 : n3 ≤ 50) (r4 : σ (b + 17) 1 = nI n4) (l4 : n4 ≤ 50) :
    ∃ σ', fX7_copyFrom a b σ = some σ' ∧ CH σ' (a + 1) h ∧ (σ' (a + 11) 1 = nI n1 ∧ ∀ i, i < n1 → σ' (a + 12) i = σ (b + 12) i) ∧ (σ' (a + 13) 1 = nI n2 ∧ ∀ i, i < n2 → σ' (a + 14) i = σ (b + 14) i) ∧ (σ' (a + 15) 1 = nI n3 ∧ ∀ i, i < n3 → σ' (a + 16) i = σ (b + 16) i) ∧ (σ' (a + 17) 1 = nI n4 ∧ ∀ i, i < n4 → σ' (a + 18) i = σ (b + 18) i) ∧ σ' a 5 = σ b 5 ∧ ∀ k, k < a ∨ a + 18 < k → σ' k = σ k := by
  have sep : ∀ i j, i ≤ 18 → j ≤ 18 → b + i ≠ a + j := by omega
  have hHa : isH (a + 1) := by unfold isH; omega
  have hHb : isH (b + 1) := by unfold isH; omega
  have rr : rl (a + 11) = 50 ∧ rl (b + 11) = 50 ∧ rl (a + 13) = 20 ∧ rl (b + 13) = 20 ∧ rl (a + 15) = 50 ∧ rl (b + 15) = 50 ∧ rl (a + 17) = 50 ∧ rl (b + 17) = 50 := by rcases hab with ⟨rfl, rfl⟩ | ⟨rfl, rfl⟩ <;> decide
  obtain ⟨q1, q2, q3, q4, q5, q6, q7, q8⟩ := rr
  obtain ⟨s1, e1, C1, f1⟩ := copyH_eq hHa hHb (by omega) hC
  obtain ⟨s2, e2, g2, k2, f2⟩ := rowcp (a := a + 11) (b := b + 11) (σ := s1) (n := n1) (by rw [f1 _ (by omega)]; exact r1) (by omega) (by omega) (by omega) (by omega) (by omega) (by omega)
  obtain ⟨s3, e3, g3, k3, f3⟩ := rowcp (a := a + 13) (b := b + 13) (σ := s2) (n := n2) (by rw [f2 _ (by omega) (by omega), f1 _ (by omega)]; exact r2) (by omega) (by omega) (by omega) (by omega) (by omega) (by omega)
  obtain ⟨s4, e4, g4, k4, f4⟩ := rowcp (a := a + 15) (b := b + 15) (σ := s3) (n := n3) (by rw [f3 _ (by omega) (by omega), f2 _ (by omega) (by omega), f1 _ (by omega)]; exact r3) (by omega) (by omega) (by omega) (by omega) (by omega) (by omega)
  obtain ⟨s5, e5, g5, k5, f5⟩ := rowcp (a := a + 17) (b := b + 17) (σ := s4) (n := n4) (by rw [f4 _ (by omega) (by omega), f3 _ (by omega) (by omega), f2 _ (by omega) (by omega), f1 _ (by omega)]; exact r4) (by omega) (by omega) (by omega) (by omega) (by omega) (by omega)
  unfold fX7_copyFrom
  rw [e1, bd1_s, e2, bd1_s, e3, bd1_s, e4, bd1_s, e5, bd1_s, ptf, bd1_s]
  have F1 : ∀ k, k ≤ 10 → s5 (a + k) = s1 (a + k) := fun k hk => by rw [f5 _ (by omega) (by omega), f4 _ (by omega) (by omega), f3 _ (by omega) (by omega), f2 _ (by omega) (by omega)]
  refine ⟨_, rfl, ?_, ⟨?_, fun i hi => ?_⟩, ⟨?_, fun i hi => ?_⟩, ⟨?_, fun i hi => ?_⟩, ⟨?_, fun i hi => ?_⟩, ?_, fun k hk => ?_⟩
  · exact C1.fr (fun k hk => by rw [u2_ne (by omega), show a + 1 + k = a + (k + 1) by omega, F1 _ (by omega)])
  · rw [u2_ne (by omega), f5 _ (by omega) (by omega), f4 _ (by omega) (by omega), f3 _ (by omega) (by omega)]; exact g2
  · rw [u2_ne (by omega), f5 _ (by omega) (by omega), f4 _ (by omega) (by omega), f3 _ (by omega) (by omega), show a + 12 = a + 11 + 1 by omega, k2 i hi, f1 _ (by omega)]
  · rw [u2_ne (by omega), f5 _ (by omega) (by omega), f4 _ (by omega) (by omega)]; exact g3
  · rw [u2_ne (by omega), f5 _ (by omega) (by omega), f4 _ (by omega) (by omega), show a + 14 = a + 13 + 1 by omega, k3 i hi, f2 _ (by omega) (by omega), f1 _ (by omega)]
  · rw [u2_ne (by omega), f5 _ (by omega) (by omega)]; exact g4
  · rw [u2_ne (by omega), f5 _ (by omega) (by omega), show a + 16 = a + 15 + 1 by omega, k4 i hi, f3 _ (by omega) (by omega), f2 _ (by omega) (by omega), f1 _ (by omega)]
  · rw [u2_ne (by omega)]; exact g5
  · rw [u2_ne (by omega), show a + 18 = a + 17 + 1 by omega, k5 i hi, f4 _ (by omega) (by omega), f3 _ (by omega) (by omega), f2 _ (by omega) (by omega), f1 _ (by omega)]
  · rw [u2_same, f5 _ (by omega) (by omega), f4 _ (by omega) (by omega), f3 _ (by omega) (by omega), f2 _ (by omega) (by omega), f1 _ (by omega)]
  · rw [u2_ne (by omega), f5 _ (by omega) (by omega), f4 _ (by omega) (by omega), f3 _ (by omega) (by omega), f2 _ (by omega) (by omega), f1 _ (by omega)]
theorem op_image {σ τ : St} {m : Nat} (r : Rel σ τ m) : OK2 (fX8_image σ) (fX9_image τ) (m + 1) := by
  obtain ⟨h, T, dn, n0, z, rt, rw', rk, rd, rs, rv⟩ := r
  obtain ⟨a1, a2, a3, a4, a5, a6, a7, a8⟩ := id n0
  obtain ⟨⟨N1, l1, t1, t2, t3⟩, t4⟩ := id rt
  obtain ⟨N2, l2, w1, w2, w3⟩ := id rw'
  obtain ⟨N3, l3, -, x3⟩ := bt_ex (hi := 50) a7
  obtain ⟨N4, l4, -, x4⟩ := bt_ex (hi := 50) a8
  obtain ⟨n, k1, k2, k3, k4, k5⟩ := id rk
  obtain ⟨σ1, e1, C1, ⟨g1, g1'⟩, ⟨g2, g2'⟩, ⟨g3, g3'⟩, ⟨g4, g4'⟩, g5, f1⟩ := wholecp (a := 20) (b := 1) (Or.inl ⟨rfl, rfl⟩) a1 t1 l1 w1 l2 x3 l3 x4 l4
  obtain ⟨τ1, m1, u1, u2'⟩ := moveAll_eq (p := 1) (q := 2) (by decide) τ
  have f1' : ∀ k, k < 20 ∨ 38 < k → σ1 k = σ k := fun k hk => f1 k (by omega)
  unfold fX8_image fX9_image
  rw [e1, bd1_s, ptf, bd1_s, m1, bd1_s, ptf, bd1_s, ptf, bd1_s, u2_same, u2_same, u2_slot (show (5 : Nat) ≠ 4 by decide), f1' 0 (by decide), u1 0 (by decide), k2, k3, nI_1]
  have c : ∀ k, k ≠ 0 → k < 20 ∨ 38 < k → u2 σ1 0 10 (nI (n + 1)) k = σ k := fun k h0 hk => by rw [u2_ne h0, f1' k hk]
  have d : ∀ k, k ≠ 0 → k ≠ 2 → u2 (u2 τ1 0 4 1) 0 5 (nI (n + 1)) k = τ k := fun k h0 h2 => by rw [u2_ne h0, u2_ne h0, u1 k h2]
  have d1 : u2 (u2 τ1 0 4 1) 0 5 (nI (n + 1)) 1 = τ 1 := d 1 (by decide) (by decide)
  have dr : ∀ j, j < 257 → u2 (u2 τ1 0 4 1) 0 5 (nI (n + 1)) 2 j = τ 1 j := fun j hj => by rw [u2_ne (by decide), u2_ne (by decide), u2' j hj]
  have cc : ∀ k, 20 ≤ k → k ≤ 38 → u2 σ1 0 10 (nI (n + 1)) k = σ1 k := fun k h1 h2 => u2_ne (by omega)
  refine ok_some _ ⟨h, T, dn, n0.fr (fun k hk => c k (by omega) (by omega)) (fun j _ _ _ _ => by rw [d1]) (d 6 (by decide) (by decide)), ?_, rt.fr (c _ (by decide) (by decide)) (c _ (by decide) (by decide)) (fun j _ => by rw [d1]), rw'.fr (c _ (by decide) (by decide)) (c _ (by decide) (by decide)) (fun j _ => by rw [d1]), ⟨n + 1, by omega, u2_same _ _ _ _, u2_same _ _ _ _, ?_, fun _ => ?_⟩, rd.fr (c _ (by decide) (by decide)) (d 5 (by decide) (by decide)), rs.fr (fun k hk => c k (by omega) (by omega)) (d 7 (by decide) (by decide)) (d 8 (by decide) (by decide)) (d 9 (by decide) (by decide)), rv.fr (c _ (by decide) (by decide)) (c _ (by decide) (by decide)) (by rw [u2_slot (by decide), u2_slot (by decide), u1 0 (by decide)]) (d 13 (by decide) (by decide))⟩
  · rw [c 1 (by decide) (by decide), d1]; exact z
  · rw [u2_slot (by decide), u2_same, if_neg (by omega)]
  · refine ⟨h, T, dn, C1.fr (fun k hk => u2_ne (by omega)), a2.of (fun j hj => dr j (by omega)), a3, a4, ?_, ?_, ?_, ?_, ?_, ⟨?_, fun i hi => ?_⟩, ?_⟩
    · rw [cc 35 (by decide) (by decide), cc 36 (by decide) (by decide), cc 37 (by decide) (by decide), cc 38 (by decide) (by decide)]
      refine CLg.of a5.1 (by rw [show σ1 35 1 = nI N3 from g3, x3]) (fun i hi => ?_) (by rw [show σ1 37 1 = nI N4 from g4, x4]) (fun i hi => ?_)
      · rw [x3, nI_clamp (by omega)] at hi; exact g3' i hi
      · rw [x4, nI_clamp (by omega)] at hi; exact g4' i hi
    · exact MLg.of a6.1 (fun j hj => dr j (by omega))
    · rw [cc 35 (by decide) (by decide), show σ1 35 1 = nI N3 from g3]; exact bt_nI (by omega) (by omega)
    · rw [cc 37 (by decide) (by decide), show σ1 37 1 = nI N4 from g4]; exact bt_nI (by omega) (by omega)
    · rw [cc 20 (by decide) (by decide), dr 1 (by decide), g5]; exact z
    · refine ⟨N1, l1, by rw [cc 31 (by decide) (by decide)]; exact g1, by rw [dr 5 (by decide)]; exact t2, fun i hi => ?_⟩
      show u2 σ1 0 10 (nI (n + 1)) 32 i = u2 (u2 τ1 0 4 1) 0 5 (nI (n + 1)) 2 (87 + i)
      rw [cc 32 (by decide) (by decide), dr (87 + i) (by omega), show σ1 32 i = _ from g1' i hi]; exact t3 i hi
    · rw [dr 5 (by decide)] at hi
      have hi2 := hi
      rw [t2, nI_clamp (by omega)] at hi2
      rw [dr (87 + i) (by omega)]; exact t4 i hi
    · refine ⟨N2, l2, by rw [cc 33 (by decide) (by decide)]; exact g2, by rw [dr 6 (by decide)]; exact w2, fun i hi => ?_⟩
      show u2 σ1 0 10 (nI (n + 1)) 34 i = u2 (u2 τ1 0 4 1) 0 5 (nI (n + 1)) 2 (137 + i)
      rw [cc 34 (by decide) (by decide), dr (137 + i) (by omega), show σ1 34 i = _ from g2' i hi]; exact w3 i hi
/-! forgetting -/
theorem bfill_loop {k N : Nat} (hN : N ≤ 2000) (v : Int32) : ∀ (n i f : Nat) (s : St), i + n = N → n < f → ∃ t, fJ7_fill_031fb_5 k N v (nI N) f (nI i) s = some t ∧ (∀ q, q ≠ k → t q = s q) ∧ (∀ j, j < i → t k j = s k j) ∧ ∀ j, i ≤ j → j < N → t k j = i8 v
  | n, i, 0, _, _, hf => absurd hf (Nat.not_lt_zero _)
  | 0, i, f + 1, s, hi, _ => by
    have : i = N := by omega
    subst this
    rw [fJ7_fill_031fb_5, if_pos (nI_le (Nat.le_refl _) (by omega))]
    exact ⟨s, rfl, fun _ _ => rfl, fun _ _ => rfl, fun j h1 h2 => by omega⟩
  | n + 1, i, f + 1, s, hi, hf => by
    rw [fJ7_fill_031fb_5, if_neg (nI_ge (by omega) (by omega))]
    unfold bast
    rw [if_pos (ixb_nI (show i < N by omega) (by omega)), bd1_s, nI_1, nI_clamp (by omega)]
    obtain ⟨t, e, h1, h2, h3⟩ := bfill_loop hN v n (i + 1) f (u2 s k i (i8 v)) (by omega) (by omega)
    refine ⟨t, e, fun q hq => by rw [h1 q hq, u2_ne hq], fun j hj => by rw [h2 j (by omega), u2_slot (by omega)], fun j h4 h5 => ?_⟩
    by_cases q : j = i
    · subst q; rw [h2 j (by omega), u2_same]
    · exact h3 j (by omega) h5
theorem forget_c (s : St) : ∃ t, fX2_forget s = some t ∧ (∀ q, q ≠ 51 → t q = s q) ∧ ∀ j, j < 1800 → t 51 j = -1 := by
  obtain ⟨t, e, h1, h2, h3⟩ := bfill_loop (k := 51) (N := 1800) (by decide) (-1) 1800 0 FU s (by omega) (FU_lt (by omega))
  refine ⟨t, ?_, h1, fun j hj => by rw [h3 j (by omega) hj]; decide⟩
  unfold fX2_forget fJ7_fill_031fb
  rw [show fJ7_fill_031fb_5 51 1800 (-1) (Int32.ofNat 1800) FU 0 s = some t from e, bd1_s, bd1_s]
theorem forget_ml : ∀ (n i f : Nat) (s : St), i + n = 2000 → n < f → ∃ t, fX9_forgets_2 f (nI i) s = some t ∧ (∀ q, q ≠ 6 → t q = s q) ∧ (∀ j, j < i → t 6 j = s 6 j) ∧ ∀ j, i ≤ j → j < 2000 → t 6 j = -1
  | n, i, 0, _, _, hf => absurd hf (Nat.not_lt_zero _)
  | 0, i, f + 1, s, hi, _ => by
    have : i = 2000 := by omega
    subst this
    rw [fX9_forgets_2, if_pos (show (2000 : Int32) ≤ nI 2000 by decide)]
    exact ⟨s, rfl, fun _ _ => rfl, fun _ _ => rfl, fun j h1 h2 => by omega⟩
  | n + 1, i, f + 1, s, hi, hf => by
    rw [fX9_forgets_2, if_neg (show ¬ (2000 : Int32) ≤ nI i from nI_ge (b := 2000) (by omega) (by decide)), ast_i (by omega) (by decide), bd1_s, nI_1]
    obtain ⟨t, e, h1, h2, h3⟩ := forget_ml n (i + 1) f (u2 s 6 i (-1)) (by omega) (by omega)
    refine ⟨t, e, fun q hq => by rw [h1 q hq, u2_ne hq], fun j hj => by rw [h2 j (by omega), u2_slot (by omega)], fun j h4 h5 => ?_⟩
    by_cases q : j = i
    · subst q; rw [h2 j (by omega), u2_same]
    · exact h3 j (by omega) h5
theorem forget_m (s : St) : ∃ t, fX9_forgets s = some t ∧ (∀ q, q ≠ 6 → t q = s q) ∧ ∀ j, j < 2000 → t 6 j = -1 := by
  obtain ⟨t, e, h1, h2, h3⟩ := forget_ml 2000 0 FU s (by omega) (FU_lt (by omega))
  refine ⟨t, ?_, h1, fun j hj => h3 j (by omega) hj⟩
  unfold fX9_forgets
  rw [show fX9_forgets_2 FU 0 s = some t from e, bd1_s]
theorem CC.new {σ : St} {T : Tx} (h : ∀ j, j < 1800 → σ 51 j = -1) : CC σ T := by
  intro u a s g hu ha hs hg
  left
  have h1 := bt_cl (hi := 9) hs
  have h2 := bt_cl (hi := 9) hg
  have h3 := ha.1
  have h4 := ha.2
  have e : cix u a s g < 1800 := by unfold cix; omega
  rw [h _ e]; decide
theorem MC.new {τ : St} {T : Tx} (h : ∀ j, j < 2000 → τ 6 j = -1) : MC τ T := by
  intro u a s g hu ha hs hg
  left
  have h0 := bt_cl (hi := 9) ha
  have h1 := bt_cl (hi := 9) hs
  have h2 := bt_cl (hi := 9) hg
  have e : mix u a s g < 2000 := by unfold mix; omega
  rw [h _ e]; decide
theorem op_restore {σ τ : St} {m : Nat} (hm : m < 2 ^ 31) (r : Rel σ τ m) : OK2 (fX8_restore σ) (fX9_restore τ) m := by
  have r0 := r
  obtain ⟨h0, T0, dn0, n0, z0, rt0, rw0, rk, rd, rs, rv⟩ := r
  obtain ⟨n, k1, k2, k3, k4, k5⟩ := id rk
  unfold fX8_restore fX9_restore
  rw [k2, k4]
  simp only [bd2_eta]
  by_cases hn : n = 0
  · subst hn
    rw [if_pos (show nI 0 = (0 : Int32) from rfl), if_pos rfl, if_pos rfl]
    exact ok_e2 r0
  rw [if_neg (show ¬ nI n = (0 : Int32) from fun q => hn ((nI_eq (b := 0) (by omega) (by decide)).mp q)), if_neg hn, if_neg (by decide)]
  obtain ⟨h, T, dn, a1, a2, a3, a4, a5, a6, a7, a8, z, ⟨⟨N1, l1, t1, t2, t3⟩, t4⟩, ⟨N2, l2, w1, w2, w3⟩⟩ := k5 hn
  obtain ⟨N3, l3, -, x3⟩ := bt_ex (hi := 50) a7
  obtain ⟨N4, l4, -, x4⟩ := bt_ex (hi := 50) a8
  obtain ⟨σ1, e1, C1, ⟨g1, g1'⟩, ⟨g2, g2'⟩, ⟨g3, g3'⟩, ⟨g4, g4'⟩, g5, f1⟩ := wholecp (a := 1) (b := 20) (Or.inr ⟨rfl, rfl⟩) a1 t1 l1 w1 l2 x3 l3 x4 l4
  obtain ⟨σ2, e2, f2, c2⟩ := forget_c σ1
  obtain ⟨τ1, m1, u1, u2'⟩ := moveAll_eq (p := 2) (q := 1) (by decide) τ
  obtain ⟨τ2, m2, v2, d2⟩ := forget_m τ1
  have f1' : ∀ k, k = 0 ∨ 19 < k → k ≠ 51 → σ2 k = σ k := fun k hk h51 => by rw [f2 k h51, f1 k (by omega)]
  have d : ∀ k, k ≠ 1 → k ≠ 6 → τ2 k = τ k := fun k h1 h6 => by rw [v2 k h6, u1 k h1]
  have dr : ∀ j, j < 257 → τ2 1 j = τ 2 j := fun j hj => by rw [v2 1 (by decide), u2' j hj]
  have C2 : CH σ2 2 h := C1.fr (fun k hk => f2 _ (by omega))
  rw [e1, bd1_s, e2, bd1_s, m1, bd1_s, m2, bd1_s, ald1 (x := 0) (i := 0) rfl (by decide), bd1_s, dr 0 (by decide), a2.1.1, show σ2 2 11 = h 8 2 from C2.2.2.2.1]
  refine ok_some _ ⟨h, T, dn, ⟨C2, a2.of (fun j hj => dr j (by omega)), a3, a4, ⟨?_, CC.new c2⟩, ⟨MLg.of a6 (fun j hj => dr j (by omega)), MC.new d2⟩, ?_, ?_⟩, ?_, ⟨?_, fun i hi => ?_⟩, ?_, rk.fr (Nat.le_refl _) (by rw [f1' 0 (by decide) (by decide)]) (fun k hk => f1' k (by omega) (by omega)) (by rw [d 0 (by decide) (by decide)]) (by rw [d 0 (by decide) (by decide)]) (d 2 (by decide) (by decide)), rd.fr (f1' _ (by decide) (by decide)) (d 5 (by decide) (by decide)), rs.fr (fun k hk => f1' k (by omega) (by omega)) (d 7 (by decide) (by decide)) (d 8 (by decide) (by decide)) (d 9 (by decide) (by decide)), rv.fr (f1' _ (by decide) (by decide)) (f1' _ (by decide) (by decide)) (by rw [d 0 (by decide) (by decide)]) (d 13 (by decide) (by decide))⟩
  · show CLg (σ2 16) (σ2 17) (σ2 18) (σ2 19) T
    rw [f2 16 (by decide), f2 17 (by decide), f2 18 (by decide), f2 19 (by decide)]
    refine CLg.of a5 (by rw [show σ1 16 1 = nI N3 from g3]; exact x3.symm) (fun i hi => ?_) (by rw [show σ1 18 1 = nI N4 from g4]; exact x4.symm) (fun i hi => ?_)
    · rw [show σ 35 1 = nI N3 from x3, nI_clamp (by omega)] at hi; exact g3' i hi
    · rw [show σ 37 1 = nI N4 from x4, nI_clamp (by omega)] at hi; exact g4' i hi
  · rw [f2 16 (by decide), show σ1 16 1 = nI N3 from g3]; exact bt_nI (by omega) (by omega)
  · rw [f2 18 (by decide), show σ1 18 1 = nI N4 from g4]; exact bt_nI (by omega) (by omega)
  · rw [f2 1 (by decide), dr 1 (by decide), g5]; exact z
  · refine ⟨N1, l1, by rw [f2 12 (by decide)]; exact g1, by rw [dr 5 (by decide)]; exact t2, fun i hi => ?_⟩
    show σ2 13 i = τ2 1 (87 + i)
    rw [f2 13 (by decide), dr (87 + i) (by omega), show σ1 13 i = _ from g1' i hi]; exact t3 i hi
  · rw [dr 5 (by decide)] at hi
    have hi2 := hi
    rw [t2, nI_clamp (by omega)] at hi2
    rw [dr (87 + i) (by omega)]; exact t4 i hi
  · refine ⟨N2, l2, by rw [f2 14 (by decide)]; exact g2, by rw [dr 6 (by decide)]; exact w2, fun i hi => ?_⟩
    show σ2 15 i = τ2 1 (137 + i)
    rw [f2 15 (by decide), dr (137 + i) (by omega), show σ1 15 i = _ from g2' i hi]; exact w3 i hi
