/-! each part of the relation, and what it looks at -/
theorem RN.fr {σ τ σ' τ' : St} {h : Hs} {T : Tx} {dn : Nat} (r : RN σ τ h T dn) (c : ∀ k, (2 ≤ k ∧ k ≤ 11) ∨ (16 ≤ k ∧ k ≤ 19) ∨ k = 51 → σ' k = σ k) (d : ∀ j, j < 87 ∨ 157 ≤ j ∧ j < 257 → j ≠ 1 → j ≠ 5 → j ≠ 6 → τ' 1 j = τ 1 j) (e : τ' 6 = τ 6) : RN σ' τ' h T dn := by
  obtain ⟨a1, a2, a3, a4, a5, a6, a7, a8⟩ := r
  refine ⟨a1.fr (fun k hk => c _ (by omega)), ?_, a3, a4, a5.fr (c _ (by decide)) (c _ (by decide)) (c _ (by decide)) (c _ (by decide)) (c _ (by decide)), ⟨a6.1.fr (fun j hj => d j (by omega) (by omega) (by omega) (by omega)), a6.2.fr e⟩, by rw [c 16 (by decide)]; exact a7, by rw [c 18 (by decide)]; exact a8⟩
  obtain ⟨⟨b0, b1, b2, b3⟩, b4, b5, b6⟩ := a2
  refine ⟨⟨by rw [d _ (by decide) (by decide) (by decide) (by decide)]; exact b0, by rw [d _ (by decide) (by decide) (by decide) (by decide)]; exact b1, by rw [d _ (by decide) (by decide) (by decide) (by decide)]; exact b2, by rw [d _ (by decide) (by decide) (by decide) (by decide)]; exact b3⟩, fun i hi => ?_, fun i hi => ?_, fun i hi => ?_⟩
  · rw [d _ (by omega) (by omega) (by omega) (by omega), d _ (by omega) (by omega) (by omega) (by omega)]; exact b4 i hi
  · rw [d _ (by omega) (by omega) (by omega) (by omega)]; exact b5 i hi
  · rw [d _ (by omega) (by omega) (by omega) (by omega), d _ (by omega) (by omega) (by omega) (by omega), d _ (by omega) (by omega) (by omega) (by omega), d _ (by omega) (by omega) (by omega) (by omega), d _ (by omega) (by omega) (by omega) (by omega)]; exact b6 i hi
theorem RT.fr {σ τ σ' τ' : St} (r : RT σ τ) (c1 : σ' 12 = σ 12) (c2 : σ' 13 = σ 13) (d : ∀ j, j = 5 ∨ (87 ≤ j ∧ j < 137) → τ' 1 j = τ 1 j) : RT σ' τ' := by
  obtain ⟨⟨n, h1, h2, h3, h4⟩, h5⟩ := r
  refine ⟨⟨n, h1, by rw [c1]; exact h2, by rw [d 5 (by omega)]; exact h3, fun i hi => ?_⟩, fun i hi => ?_⟩
  · show σ' 13 i = τ' 1 (87 + i)
    rw [c2, d (87 + i) (by omega)]; exact h4 i hi
  · rw [d 5 (by omega)] at hi
    have hi2 := hi
    rw [h3, nI_clamp (by omega)] at hi2
    rw [d (87 + i) (by omega)]; exact h5 i hi
theorem RW.fr {σ τ σ' τ' : St} (r : RW σ τ) (c1 : σ' 14 = σ 14) (c2 : σ' 15 = σ 15) (d : ∀ j, j = 6 ∨ (137 ≤ j ∧ j < 157) → τ' 1 j = τ 1 j) : RW σ' τ' := by
  obtain ⟨n, h1, h2, h3, h4⟩ := r
  refine ⟨n, h1, by rw [c1]; exact h2, by rw [d 6 (by omega)]; exact h3, fun i hi => ?_⟩
  show σ' 15 i = τ' 1 (137 + i)
  rw [c2, d (137 + i) (by omega)]; exact h4 i hi
theorem RKK.fr {σ τ σ' τ' : St} (k : RKK σ τ) (c : ∀ k, 20 ≤ k ∧ k ≤ 38 → σ' k = σ k) (d : τ' 2 = τ 2) : RKK σ' τ' := by
  unfold RKK CH at k ⊢
  rw [d]
  simp only [c (21 + 1) (by decide), c (21 + 2) (by decide), c (21 + 3) (by decide), c (21 + 4) (by decide), c (21 + 5) (by decide), c (21 + 6) (by decide), c (21 + 7) (by decide), c (21 + 8) (by decide), c 21 (by decide), c 35 (by decide), c 36 (by decide), c 37 (by decide), c 38 (by decide), c 20 (by decide), c 31 (by decide), c 32 (by decide), c 33 (by decide), c 34 (by decide)]
  exact k
theorem RK.fr {σ τ σ' τ' : St} {m m' : Nat} (r : RK σ τ m) (hm : m ≤ m') (c0 : σ' 0 10 = σ 0 10) (c : ∀ k, 20 ≤ k ∧ k ≤ 38 → σ' k = σ k) (d5 : τ' 0 5 = τ 0 5) (d4 : τ' 0 4 = τ 0 4) (d : τ' 2 = τ 2) : RK σ' τ' m' := by
  obtain ⟨n, h1, h2, h3, h4, h5⟩ := r
  exact ⟨n, by omega, by rw [c0]; exact h2, by rw [d5]; exact h3, by rw [d4]; exact h4, fun hn => (h5 hn).fr c d⟩
theorem RD.fr {σ τ σ' τ' : St} (r : RD σ τ) (c : σ' 67 = σ 67) (d : τ' 5 = τ 5) : RD σ' τ' := fun k hk => by rw [c, d]; exact r k hk
theorem RS.fr {σ τ σ' τ' : St} (r : RS σ τ) (c : ∀ k, 59 ≤ k ∧ k ≤ 66 → σ' k = σ k) (d7 : τ' 7 = τ 7) (d8 : τ' 8 = τ 8) (d9 : τ' 9 = τ 9) : RS σ' τ' := by
  intro i hi
  obtain ⟨n, q⟩ := r i hi
  rw [c (59 + 2 * i) (by omega), c (60 + 2 * i) (by omega), d7, d8, d9]
  exact ⟨n, q⟩
theorem RV.fr {σ τ σ' τ' : St} (r : RV σ τ) (c1 : σ' 56 = σ 56) (c2 : σ' 57 = σ 57) (d0 : τ' 0 24 = τ 0 24) (d : τ' 13 = τ 13) : RV σ' τ' := by
  unfold RV
  rw [c1, c2, d0, d]; exact r
theorem Rel.mono {σ τ : St} {m m' : Nat} (r : Rel σ τ m) (h : m ≤ m') : Rel σ τ m' := by
  obtain ⟨h', T, dn, n0, z, rt, rw', rk, rest⟩ := r
  exact ⟨h', T, dn, n0, z, rt, rw', rk.fr h rfl (fun _ _ => rfl) rfl rfl rfl, rest⟩
/-- what is only scribbled on -/
theorem Rel.scr {σ τ σ' τ' : St} {m : Nat} (r : Rel σ τ m) (c : ∀ k, k < 68 → k ≠ 50 → k ≠ 53 → k ≠ 54 → k ≠ 52 → σ' k = σ k) (d : ∀ k, k ≠ 0 → k ≠ 3 → k ≠ 4 → k ≠ 10 → k ≠ 11 → k ≠ 12 → τ' k = τ k) (d0 : ∀ j, j < 7 ∨ (14 < j ∧ j ≠ 16) → τ' 0 j = τ 0 j) : Rel σ' τ' m := by
  obtain ⟨h', T, dn, n0, z, rt, rw', rk, rd, rs, rv⟩ := r
  have d1 : τ' 1 = τ 1 := d 1 (by decide) (by decide) (by decide) (by decide) (by decide) (by decide)
  refine ⟨h', T, dn, n0.fr (fun k hk => c k (by omega) (by omega) (by omega) (by omega) (by omega)) (fun j _ _ _ _ => by rw [d1]) (d 6 (by decide) (by decide) (by decide) (by decide) (by decide) (by decide)), ?_, rt.fr (c _ (by decide) (by decide) (by decide) (by decide) (by decide)) (c _ (by decide) (by decide) (by decide) (by decide) (by decide)) (fun j _ => by rw [d1]), rw'.fr (c _ (by decide) (by decide) (by decide) (by decide) (by decide)) (c _ (by decide) (by decide) (by decide) (by decide) (by decide)) (fun j _ => by rw [d1]), rk.fr (Nat.le_refl _) (by rw [c 0 (by decide) (by decide) (by decide) (by decide) (by decide)]) (fun k hk => c k (by omega) (by omega) (by omega) (by omega) (by omega)) (d0 5 (by omega)) (d0 4 (by omega)) (d 2 (by decide) (by decide) (by decide) (by decide) (by decide) (by decide)), rd.fr (c _ (by decide) (by decide) (by decide) (by decide) (by decide)) (d 5 (by decide) (by decide) (by decide) (by decide) (by decide) (by decide)), rs.fr (fun k hk => c k (by omega) (by omega) (by omega) (by omega) (by omega)) (d 7 (by decide) (by decide) (by decide) (by decide) (by decide) (by decide)) (d 8 (by decide) (by decide) (by decide) (by decide) (by decide) (by decide)) (d 9 (by decide) (by decide) (by decide) (by decide) (by decide) (by decide)), rv.fr (c _ (by decide) (by decide) (by decide) (by decide) (by decide)) (c _ (by decide) (by decide) (by decide) (by decide) (by decide)) (d0 24 (by omega)) (d 13 (by decide) (by decide) (by decide) (by decide) (by decide) (by decide))⟩
  rw [c 1 (by decide) (by decide) (by decide) (by decide) (by decide), d1]; exact z
/-! check -/
theorem op_check {σ τ : St} {m : Nat} (r : Rel σ τ m) : OK2 (fX8_check σ) (fX9_check τ) m := by
  obtain ⟨h, T, dn, n0, z, rt, rw', rk, rd, rs, rv⟩ := r
  obtain ⟨N, hN, w1, w2, w3⟩ := rw'
  have n1 : RN (u2 σ 14 1 0) (u2 τ 1 6 0) h T dn := n0.fr (fun k hk => u2_ne (by omega)) (fun j _ _ _ h6 => u2_slot h6) (u2_ne (by decide))
  have rest : (u2 σ 14 1 0) 1 5 = (u2 τ 1 6 0) 1 1 ∧ RT (u2 σ 14 1 0) (u2 τ 1 6 0) ∧ RW (u2 σ 14 1 0) (u2 τ 1 6 0) ∧ RK (u2 σ 14 1 0) (u2 τ 1 6 0) m ∧ RD (u2 σ 14 1 0) (u2 τ 1 6 0) ∧ RS (u2 σ 14 1 0) (u2 τ 1 6 0) ∧ RV (u2 σ 14 1 0) (u2 τ 1 6 0) := by
    refine ⟨by rw [u2_ne (by decide), u2_slot (by decide)]; exact z, rt.fr (u2_ne (by decide)) (u2_ne (by decide)) (fun j hj => u2_slot (by omega)), ⟨0, by decide, u2_same _ _ _ _, u2_same _ _ _ _, fun i hi => absurd hi (Nat.not_lt_zero _)⟩, rk.fr (Nat.le_refl _) (by rw [u2_ne (by decide)]) (fun k hk => u2_ne (by omega)) (by rw [u2_ne (by decide)]) (by rw [u2_ne (by decide)]) (u2_ne (by decide)), rd.fr (u2_ne (by decide)) (u2_ne (by decide)), rs.fr (fun k hk => u2_ne (by omega)) (u2_ne (by decide)) (u2_ne (by decide)) (u2_ne (by decide)), rv.fr (u2_ne (by decide)) (u2_ne (by decide)) (by rw [u2_ne (by decide)]) (u2_ne (by decide))⟩
  obtain ⟨a1, a2, a3, a4, a5, a6, a7, a8⟩ := id n1
  unfold fX8_check fX9_check
  rw [ptf, bd1_s, ald1 (x := 6) (i := 6) rfl (by decide), bd1_s, ast1 (x := 6) (i := 6) rfl (by decide), bd1_s, w1, w2]
  obtain ⟨σ1, e1, C1, q1, c1⟩ := think_eq a1 a5
  obtain ⟨τ1, g1, t1, u1, m1⟩ := thinkM_eq a6
  rw [e1, bd1_s, g1, bd1_s]
  obtain ⟨σ2, τ2, q2, c2, t2, m2, hor⟩ := check_loop (σ0 := u2 σ 14 1 0) (τ0 := u2 τ 1 6 0) a4 hN (fun i hi => by rw [u2_ne (by decide), u2_slot (by omega)]; exact w3 i hi) N 0 FU FU 9999 σ1 τ1 h (by omega) (FU_lt (by omega)) (FU_lt (by omega)) (by omega) C1 (by rw [u1]; exact a2) a3 q1 c1 t1 m1 (fun j _ => by rw [u1])
  obtain ⟨τ3, g3, t3, u3, m3⟩ := backM_eq a6.1 t2 m2.2
  have R := Rel.q n1 rest q2 c2 t3 u3 m3
  rcases hor with ⟨j, f1, f2⟩ | ⟨f1, j, f2⟩
  · rw [show fX8_check_28 (nI N) FU 0 σ1 = _ from f1, bS1_l, show fX9_check_32 (nI N) FU 0 1 τ1 = _ from f2, bd3_s, g3, bd1_s, if_pos rfl]
    exact ok_some _ R
  · rw [show fX8_check_28 (nI N) FU 0 σ1 = _ from f1, bS1_r, show fX9_check_32 (nI N) FU 0 1 τ1 = _ from f2, bd3_s, g3, bd1_s, if_neg (by decide)]
    exact ok_some _ R
