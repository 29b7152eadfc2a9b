def nT (T : Tx) (u : Nat) (ev : Int32 → Int32 → Int32 → Int32) : Tx := fun u' a b c => if u' = u then hdl (lim u) (ev a b c) else T u' a b c
theorem nT_same {T : Tx} {u : Nat} {ev : Int32 → Int32 → Int32 → Int32} (a b c : Int32) : nT T u ev u a b c = hdl (lim u) (ev a b c) := if_pos rfl
theorem nT_ne {T : Tx} {u u' : Nat} {ev : Int32 → Int32 → Int32 → Int32} (h : u' ≠ u) (a b c : Int32) : nT T u ev u' a b c = T u' a b c := if_neg h
theorem tA' {C : Prop} [Decidable C] (hC : ¬ C) {X Y : St → Option (Int32 × St)} (s : St) : (bd2 (some ((if C then (1 : Int32) else 0), s)) fun u3 s1 => if u3 = 0 then X s1 else Y s1) = X s := by
  rw [bd2_s, gi0, if_neg hC]
theorem op_text {σ τ : St} {m : Nat} (r : Rel σ τ m) (a : Int32) : OK2 (fX8_text a σ) (fX9_text a τ) m := by
  have r0 := r
  obtain ⟨h, T, dn, n0, z, rt, rw', rk, rd, rs, rv⟩ := r
  obtain ⟨a1, a2, a3, a4, a5, a6, a7, a8⟩ := id n0
  obtain ⟨⟨N, hN, w1, w2, w3⟩, w4⟩ := id rt
  by_cases h1 : 0 ≤ a ∧ a ≤ 1
  · obtain ⟨u, hu, -, rfl⟩ := rg 1 h1 (by decide)
    obtain ⟨ok, p', cs, ev, σ2, e2, c2, k53, k54, hcl, L2, r2, m2⟩ := read_c (σ := σ) (B := fun i => τ 1 (87 + i)) hu hN w1 w3 (fun i hi => w4 i (by rw [w2, nI_clamp (by omega)]; exact hi))
    obtain ⟨τ6, g6, tt, t0, y6, t5, t41, tacc, tnot⟩ := read_m hu hN w2 L2 m2
    rw [g6]
    unfold fX8_text
    simp only [c_within, bd2_s, gi0]
    rw [if_pos h1, e2, bd2_s, ptf, bd1_s]
    by_cases acc : ok = true ∧ p' = N
    · obtain ⟨rfl, rfl⟩ := acc
      have hR := r2 rfl
      rw [if_pos (⟨rfl, rfl⟩ : true = true ∧ p' = p'), if_pos (show (-1 : Int32) < 0 by decide), if_pos (⟨rfl, rfl⟩ : true = true ∧ p' = p')]
      obtain ⟨σ4, e4, j4, k4, f4'⟩ := rowcp (a := 16 + 2 * u) (b := 53) (σ := u2 σ2 12 1 0) (n := cs.length) (by rw [u2_ne (by decide)]; exact k53) (by rcases (show u = 0 ∨ u = 1 by omega) with rfl | rfl <;> exact hcl) (by rcases (show u = 0 ∨ u = 1 by omega) with rfl | rfl <;> rfl) (by omega) (by omega) (by omega) (by rcases (show u = 0 ∨ u = 1 by omega) with rfl | rfl <;> decide)
      obtain ⟨σ5, e5, f5, y5⟩ := forget_c σ4
      have te : fX7_textOf 1 (nI u) (u2 σ2 12 1 0) = some (16 + 2 * u, u2 σ2 12 1 0) := by
        unfold fX7_textOf
        rcases (show u = 0 ∨ u = 1 by omega) with rfl | rfl
        · rw [if_pos (show nI 0 = (0 : Int32) from rfl)]
        · rw [if_neg (show ¬ nI 1 = (0 : Int32) by decide)]
      rw [te, bd2_s, e4, bd1_s, e5, bd1_s]
      have cs5 : ∀ k, k ≠ 12 → k ≠ 16 + 2 * u → k ≠ 17 + 2 * u → k ≠ 51 → k ≠ 52 → k ≠ 53 → k ≠ 54 → σ5 k = σ k := fun k h12 ha hb h51 h52 h53 h54 => by rw [f5 k h51, f4' k ha (by omega), u2_ne h12, c2 k h52 h53 h54]
      have su1 : σ5 (16 + 2 * u) 1 = nI cs.length := by rw [f5 _ (by omega)]; exact j4
      have su2 : ∀ i, i < cs.length → cs[i]? = some (σ5 (17 + 2 * u) i) := fun i hi => by
        rw [f5 _ (by omega), show 17 + 2 * u = 16 + 2 * u + 1 by omega, k4 i hi, u2_ne (by decide)]; exact k54 i hi
      refine ok_some _ ⟨h, nT T u ev, dn, ⟨a1.fr (fun k hk => cs5 _ (by omega) (by omega) (by omega) (by omega) (by omega) (by omega) (by omega)), a2.of2 (fun j hj _ h5 _ h7 h8 => t41 j (by omega) h5 (by omega) (by omega)), a3, ?_, ⟨?_, CC.new y5⟩, ⟨?_, MC.new y6⟩, ?_, ?_⟩, ?_, ⟨⟨0, by decide, ?_, ?_, fun i hi => absurd hi (Nat.not_lt_zero _)⟩, fun i hi => ?_⟩, rw'.fr (cs5 _ (by omega) (by omega) (by omega) (by omega) (by omega) (by omega) (by omega)) (cs5 _ (by omega) (by omega) (by omega) (by omega) (by omega) (by omega) (by omega)) (fun j hj => t41 j (by omega) (by omega) (by omega) (by omega)), rk.fr (Nat.le_refl _) (by rw [cs5 0 (by omega) (by omega) (by omega) (by omega) (by omega) (by omega) (by omega)]) (fun k hk => cs5 k (by omega) (by omega) (by omega) (by omega) (by omega) (by omega) (by omega)) (t0 5 (by omega)) (t0 4 (by omega)) (tt 2 (by decide) (by decide) (by decide) (by decide)), rd.fr (cs5 _ (by omega) (by omega) (by omega) (by omega) (by omega) (by omega) (by omega)) (tt 5 (by decide) (by decide) (by decide) (by decide)), rs.fr (fun k hk => cs5 k (by omega) (by omega) (by omega) (by omega) (by omega) (by omega) (by omega)) (tt 7 (by decide) (by decide) (by decide) (by decide)) (tt 8 (by decide) (by decide) (by decide) (by decide)) (tt 9 (by decide) (by decide) (by decide) (by decide)), rv.fr (cs5 _ (by omega) (by omega) (by omega) (by omega) (by omega) (by omega) (by omega)) (cs5 _ (by omega) (by omega) (by omega) (by omega) (by omega) (by omega) (by omega)) (t0 24 (by omega)) (tt 13 (by decide) (by decide) (by decide) (by decide))⟩
      · intro x y w
        rcases (show u = 0 ∨ u = 1 by omega) with rfl | rfl
        · exact ⟨by rw [nT_same]; exact hdl_b (by decide) (by decide), by rw [nT_ne (by decide)]; exact (a4 x y w).2⟩
        · exact ⟨by rw [nT_ne (by decide)]; exact (a4 x y w).1, by rw [nT_same]; exact hdl_b (by decide) (by decide)⟩
      · intro u' s hu' hs x y w
        by_cases q : u' = u
        · subst q
          obtain ⟨t, e, k⟩ := cl_new hu hcl hR (s := s) (by
            rcases (show u' = 0 ∨ u' = 1 by omega) with rfl | rfl
            · rw [← su1]; exact (hs.1 rfl).1
            · rw [← su1]; exact (hs.2 rfl).1) (fun i hi => by
            rw [su2 i hi]
            rcases (show u' = 0 ∨ u' = 1 by omega) with rfl | rfl
            · exact congrArg some ((hs.1 rfl).2 i (by rw [show σ5 16 1 = _ from su1, nI_clamp (by omega)]; exact hi)).symm
            · exact congrArg some ((hs.2 rfl).2 i (by rw [show σ5 18 1 = _ from su1, nI_clamp (by omega)]; exact hi)).symm) x y w
          exact ⟨t, by rw [e, nT_same], k⟩
        · obtain ⟨t, e, k⟩ := a5.1 u' s hu' ⟨fun h0 => by
            subst h0
            have : u = 1 := by omega
            subst this
            have := hs.1 rfl
            rw [cs5 16 (by decide) (by decide) (by decide) (by decide) (by decide) (by decide) (by decide), cs5 17 (by decide) (by decide) (by decide) (by decide) (by decide) (by decide) (by decide)] at this
            exact this, fun h0 => by
            subst h0
            have : u = 0 := by omega
            subst this
            have := hs.2 rfl
            rw [cs5 18 (by decide) (by decide) (by decide) (by decide) (by decide) (by decide) (by decide), cs5 19 (by decide) (by decide) (by decide) (by decide) (by decide) (by decide) (by decide)] at this
            exact this⟩ x y w
          exact ⟨t, by rw [e, nT_ne q], k⟩
      · intro s u' hu' hs x y w
        by_cases q : u' = u
        · subst q
          obtain ⟨t, e, k⟩ := ml_new hu hN m2 (s := s) (by rw [hs _ (Or.inl rfl)]; exact (tacc ⟨rfl, rfl⟩).1) (fun i hi => by rw [hs _ (Or.inr ⟨by omega, by omega⟩)]; exact (tacc ⟨rfl, rfl⟩).2 i (by omega)) x y w
          exact ⟨t, by rw [e, nT_same], k⟩
        · obtain ⟨t, e, k⟩ := a6.1 s u' hu' (fun j hj => by rw [hs j hj, t41 j (by omega) (by omega) (by omega) (by omega)]) x y w
          exact ⟨t, by rw [e, nT_ne q], k⟩
      · rcases (show u = 0 ∨ u = 1 by omega) with rfl | rfl
        · rw [show σ5 16 1 = _ from su1]; exact bt_nI (by omega) (by omega)
        · rw [cs5 16 (by decide) (by decide) (by decide) (by decide) (by decide) (by decide) (by decide)]; exact a7
      · rcases (show u = 0 ∨ u = 1 by omega) with rfl | rfl
        · rw [cs5 18 (by decide) (by decide) (by decide) (by decide) (by decide) (by decide) (by decide)]; exact a8
        · rw [show σ5 18 1 = _ from su1]; exact bt_nI (by omega) (by omega)
      · rw [cs5 1 (by omega) (by omega) (by omega) (by omega) (by omega) (by omega) (by omega), t41 1 (by omega) (by omega) (by omega) (by omega)]; exact z
      · rw [f5 12 (by decide), f4' 12 (by omega) (by omega), u2_same]; rfl
      · rw [t5]; rfl
      · rw [t5] at hi; exact absurd hi (Nat.not_lt_zero _)
    · rw [if_neg acc, if_neg (nI_pos (by omega)), if_neg acc]
      have cs5 : ∀ k, k ≠ 12 → k ≠ 52 → k ≠ 53 → k ≠ 54 → u2 σ2 12 1 0 k = σ k := fun k h12 h52 h53 h54 => by rw [u2_ne h12, c2 k h52 h53 h54]
      have tr := tnot acc
      refine ok_some _ ⟨h, T, dn, ⟨a1.fr (fun k hk => cs5 _ (by omega) (by omega) (by omega) (by omega)), a2.of2 (fun j hj _ h5 _ _ _ => tr j (by omega) h5), a3, a4, a5.fr (cs5 _ (by decide) (by decide) (by decide) (by decide)) (cs5 _ (by decide) (by decide) (by decide) (by decide)) (cs5 _ (by decide) (by decide) (by decide) (by decide)) (cs5 _ (by decide) (by decide) (by decide) (by decide)) (cs5 _ (by decide) (by decide) (by decide) (by decide)), ⟨a6.1.fr (fun j hj => tr j (by omega) (by omega)), MC.new y6⟩, by rw [cs5 16 (by decide) (by decide) (by decide) (by decide)]; exact a7, by rw [cs5 18 (by decide) (by decide) (by decide) (by decide)]; exact a8⟩, ?_, ⟨⟨0, by decide, ?_, ?_, fun i hi => absurd hi (Nat.not_lt_zero _)⟩, fun i hi => ?_⟩, rw'.fr (cs5 _ (by decide) (by decide) (by decide) (by decide)) (cs5 _ (by decide) (by decide) (by decide) (by decide)) (fun j hj => tr j (by omega) (by omega)), rk.fr (Nat.le_refl _) (by rw [cs5 0 (by decide) (by decide) (by decide) (by decide)]) (fun k hk => cs5 k (by omega) (by omega) (by omega) (by omega)) (t0 5 (by omega)) (t0 4 (by omega)) (tt 2 (by decide) (by decide) (by decide) (by decide)), rd.fr (cs5 _ (by decide) (by decide) (by decide) (by decide)) (tt 5 (by decide) (by decide) (by decide) (by decide)), rs.fr (fun k hk => cs5 k (by omega) (by omega) (by omega) (by omega)) (tt 7 (by decide) (by decide) (by decide) (by decide)) (tt 8 (by decide) (by decide) (by decide) (by decide)) (tt 9 (by decide) (by decide) (by decide) (by decide)), rv.fr (cs5 _ (by decide) (by decide) (by decide) (by decide)) (cs5 _ (by decide) (by decide) (by decide) (by decide)) (t0 24 (by omega)) (tt 13 (by decide) (by decide) (by decide) (by decide))⟩
      · rw [cs5 1 (by decide) (by decide) (by decide) (by decide), tr 1 (by decide) (by decide)]; exact z
      · rw [u2_same]; rfl
      · rw [t5]; rfl
      · rw [t5] at hi; exact absurd hi (Nat.not_lt_zero _)
  · have gm : fX9_text a τ = fX9_errs (-1000000001) τ := by
      rw [fX9_text, m_in]
      exact (tA' h1 τ).trans (bd2_eta _)
    have gc : fX8_text a σ = fX8_error 1 σ := by
      rw [fX8_text, c_within]
      exact (tA' h1 σ).trans (bd2_eta _)
    rw [gm, gc]
    exact ok_e1 r0
