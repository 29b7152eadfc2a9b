/-! reading a text: brackets, and the levels -/
section
variable {σ0 : St} {N u : Nat} {B : Nat → Int32}
theorem n5 {d : Nat} (h : d < 5) : nI d < (5 : Int32) := (nI_ltI (b := 5) (by omega) (by decide)).mpr h
theorem single_br {d p n : Nat} {σ : St} {cs : List Int32} (hC : CS σ0 N u B σ p true cs) (hp : p ≤ N) (h : sg N B p = 33 ∨ sg N B p = 40) {X : St} (hX : fX3_readOpened (grp_X3_readLevel n) (nI d) σ = some X) : grp_X3_readLevel (n + 2) 2 [nI d] σ = some ((0 : Int32), X) := by
  have e : grp_X3_readLevel (n + 1) 1 [nI d] σ = some ((0 : Int32), X) := by
    show bd1 (fX3_readOpened (grp_X3_readLevel n) (nI d) σ) (fun t => some (0, t)) = _
    rw [hX, bd1_s]
  show bd1 (fX3_readSingle (grp_X3_readLevel (n + 1)) (nI d) σ) (fun t => some (0, t)) = _
  unfold fX3_readSingle
  simp only [jn]
  rw [stands_eq hC hp, bd2_s]
  by_cases q : sg N B p = 33
  · rw [if_pos q, if_neg (by decide), e, bd2_s, bd1_s]
  · rw [if_neg q, if_pos rfl, stands_eq hC hp, bd2_s, if_pos (h.resolve_left q), if_neg (by decide), e, bd2_s, bd1_s]
theorem factor_br {d p n' : Nat} {τ : St} (hM : MS N u B τ p d true) (hN : N ≤ 50) (hp : p ≤ N) (h : sg N B p = 33 ∨ sg N B p = 40) (hd : d ≤ 5) {X : Int32 × St} (hX : (if d = 5 then some (0, u2 τ 0 14 0) else if sg N B p = 33 then bd2 (grp_X9_both n' 2 [] (u2 (u2 τ 0 10 (nI (d + 1))) 0 8 (nI (p + 1)))) (fun w9 s10 => if w9 = 0 then some (1, u2 s10 0 10 (s10 0 10 - 1)) else some (0, u2 s10 0 10 (s10 0 10 - 1))) else bd2 (grp_X9_both n' 5 [] (u2 (u2 τ 0 10 (nI (d + 1))) 0 8 (nI (p + 1)))) (fun w9 s10 => if u2 s10 0 10 (s10 0 10 - 1) 0 14 = 0 then some (0, u2 (u2 s10 0 10 (s10 0 10 - 1)) 0 14 0) else bd2 (fX9_byteAt (u2 s10 0 10 (s10 0 10 - 1) 0 8) (u2 s10 0 10 (s10 0 10 - 1))) fun u18 s16 => if u18 = 41 then some (w9, u2 s16 0 8 (s16 0 8 + 1)) else some (0, u2 s16 0 14 0))) = some X) : grp_X9_both (n' + 1) 2 [] τ = some X := by
  rw [← hX]
  show fX9_factor (grp_X9_both n') τ = _
  unfold fX9_factor fX9_fails
  simp only [jn, ptf, bd1_s]
  have q : ¬ (48 ≤ sg N B p ∧ sg N B p ≤ 57) := by
    rcases h with h | h <;> rw [h] <;> decide
  rw [byte_eq hM hN hp, bd2_s, digM, bd2_s, if_neg q, if_pos rfl, hM.2.2.2.2.1]
  by_cases h5 : d = 5
  · subst h5
    rcases h with h | h
    · rw [h, if_pos rfl, if_pos (show nI 5 = (5 : Int32) from rfl), bd2_s, if_pos rfl]
    · rw [h, if_neg (by decide), if_pos rfl, if_pos (show nI 5 = (5 : Int32) from rfl), bd2_s, if_pos rfl]
  · have n5 : ¬ nI d = (5 : Int32) := fun w => h5 ((nI_eq (b := 5) (by omega) (by decide)).mp w)
    rw [if_neg h5, u2_slot (show (8 : Nat) ≠ 10 by decide), hM.2.2.1, nI_1, nI_1]
    rcases h with h | h
    · simp only [h, if_neg n5, if_true]
    · simp only [h, if_neg n5, if_neg (show ¬ (40 : Int32) = 33 by decide), if_true, bd2_s]
theorem js_br {d p n : Nat} (hd : d ≤ 5) (g1 : d < 5 → JS σ0 N u B (d + 1)) (g2 : d < 5 → JL σ0 N u B 0 (d + 1)) {σ : St} {cs : List Int32} (hC : CS σ0 N u B σ p true cs) (hp : p ≤ N) (hl : cs.length ≤ p) (hn : 8 * (5 - d) ≤ n) (h : sg N B p = 33 ∨ sg N B p = 40) : ∃ (ok : Bool) (p' : Nat) (cs' : List Int32) (ev : Int32 → Int32 → Int32 → Int32) (σ' : St), grp_X3_readLevel (n + 2) 2 [nI d] σ = some (0, σ') ∧ CS σ0 N u B σ' p' ok (cs ++ cs') ∧ cs'.length + p ≤ p' ∧ p' ≤ N ∧ (ok = true → Rn cs' ev) ∧ MR N u B 2 (6 * (5 - d) + 1) p d ok p' ev := by
  have hN : N ≤ 50 := hC.2.2.2.1
  have hpN : p < N := by rcases h with h | h <;> exact dg_lt h (by decide)
  by_cases h5 : d = 5
  · subst h5
    refine ⟨false, p, [], fun _ _ _ => 0, u2 σ 52 4 1, single_br hC hp h ?_, by rw [List.append_nil]; exact hC.fail, by simp, hp, fun w => absurd w (by decide), fun n' τ hn' hM => ?_⟩
    · unfold fX3_readOpened
      rw [if_neg (show ¬ nI 5 < (5 : Int32) by decide), ptf, bd1_s]
    · obtain ⟨n', rfl⟩ : ∃ x, n' = x + 1 := ⟨n' - 1, by omega⟩
      exact ⟨0, u2 τ 0 14 0, factor_br hM hN hp h (by decide) (by rw [if_pos rfl]), MF.u (by decide) _, hM.fail, fun w => absurd w (by decide)⟩
  have hd5 : d < 5 := by omega
  by_cases q : sg N B p = 33
  · obtain ⟨ok, p1, cs1, ev, σ1, e1, C1, l1, L1, r1, m1⟩ := g1 hd5 (p + 1) n (u2 σ 52 3 (nI (p + 1))) cs hC.pl (by omega) (by omega) (by omega)
    obtain ⟨σ2, a1, a2⟩ := C1.add (by rw [List.length_append]; omega) (-33)
    refine ⟨ok, p1, cs1 ++ [-33], fun a b c => if ev a b c = 0 then 1 else 0, σ2, single_br hC hp h ?_, by rw [← List.append_assoc]; exact a2, by rw [List.length_append]; simp; omega, L1, fun w => (r1 w).nt, fun n' τ hn' hM => ?_⟩
    · unfold fX3_readOpened
      rw [if_pos (n5 hd5), sign_eq hC hp, bd2_s, ptf, bd1_s, if_pos q, hC.2.2.2.2.2.2.1, nI_1, nI_1, show grp_X3_readLevel n 2 [nI (d + 1)] _ = _ from e1, bd2_s, a1, bd1_s]
    · obtain ⟨n', rfl⟩ : ∃ x, n' = x + 1 := ⟨n' - 1, by omega⟩
      obtain ⟨v, τ1, t1, t2, t3, t4⟩ := m1 n' (u2 (u2 τ 0 10 (nI (d + 1))) 0 8 (nI (p + 1))) (by omega) (hM.dp.at_)
      have nm : ∀ j, j ≠ 8 → j ≠ 10 → (u2 (u2 τ 0 10 (nI (d + 1))) 0 8 (nI (p + 1))) 0 j = τ 0 j := fun j h8 h10 => by rw [u2_slot h8, u2_slot h10]
      rw [nm 11 (by decide) (by decide), nm 12 (by decide) (by decide), nm 13 (by decide) (by decide)] at t4
      have ed : τ1 0 10 - 1 = nI d := by rw [t3.2.2.2.2.1, ← nI_1, Int32.add_sub_cancel]
      refine ⟨if v = 0 then 1 else 0, u2 τ1 0 10 (nI d), factor_br hM hN hp h hd ?_, (((MF.u (by decide) _).tr (MF.u (by decide) _)).tr t2).tr (MF.u (by decide) _), t3.dp, fun w => by rw [t4 w]⟩
      rw [if_neg h5, if_pos q, t1, bd2_s, ed]
      by_cases z : v = 0
      · rw [if_pos z, if_pos z]
      · rw [if_neg z, if_neg z]
  · obtain ⟨ok, p1, cs1, ev, σ1, e1, C1, l1, L1, r1, m1⟩ := g2 hd5 (p + 1) n (u2 σ 52 3 (nI (p + 1))) cs hC.pl (by omega) (by omega) (by omega)
    have cl : ∀ X, (bd2 (fX3_stands 41 σ1) fun u10 s8 => if u10 = 0 then bd1 (ptf s8 52 4 1) fun s11 => some s11 else bd1 (ptf s8 52 3 (s8 52 3 + 1)) fun s12 => some s12) = some X → fX3_readOpened (grp_X3_readLevel n) (nI d) σ = some X := by
      intro X hX
      unfold fX3_readOpened
      rw [if_pos (n5 hd5), sign_eq hC hp, bd2_s, ptf, bd1_s, if_neg q, hC.2.2.2.2.2.2.1, nI_1, nI_1, show grp_X3_readLevel n 0 [0, nI (d + 1)] _ = _ from e1, bd2_s, hX]
    have ml : ∀ (n' : Nat) (τ : St), 6 * (5 - d) + 1 ≤ n' + 1 → MS N u B τ p d true → ∃ v τ1, MF τ τ1 ∧ MS N u B τ1 p1 d ok ∧ (ok = true → v = ev (τ 0 11) (τ 0 12) (τ 0 13)) ∧ ∀ X, (if τ1 0 14 = 0 then some (0, u2 τ1 0 14 0) else bd2 (fX9_byteAt (τ1 0 8) τ1) fun u18 s16 => if u18 = 41 then some (v, u2 s16 0 8 (s16 0 8 + 1)) else some (0, u2 s16 0 14 0)) = some X → grp_X9_both (n' + 1) 2 [] τ = some X := by
      intro n' τ hn' hM
      obtain ⟨v, τ1, t1, t2, t3, t4⟩ := m1 n' (u2 (u2 τ 0 10 (nI (d + 1))) 0 8 (nI (p + 1))) (by omega) (hM.dp.at_)
      have nm : ∀ j, j ≠ 8 → j ≠ 10 → (u2 (u2 τ 0 10 (nI (d + 1))) 0 8 (nI (p + 1))) 0 j = τ 0 j := fun j h8 h10 => by rw [u2_slot h8, u2_slot h10]
      rw [nm 11 (by decide) (by decide), nm 12 (by decide) (by decide), nm 13 (by decide) (by decide)] at t4
      have ed : τ1 0 10 - 1 = nI d := by rw [t3.2.2.2.2.1, ← nI_1, Int32.add_sub_cancel]
      refine ⟨v, u2 τ1 0 10 (nI d), (((MF.u (by decide) _).tr (MF.u (by decide) _)).tr t2).tr (MF.u (by decide) _), t3.dp, t4, fun X hX => factor_br hM hN hp h hd ?_⟩
      rw [if_neg h5, if_neg q, show grp_X9_both n' 5 [] _ = _ from t1, bd2_s, ed, hX]
    cases ok with
    | false =>
      refine ⟨false, p1, cs1, ev, u2 σ1 52 4 1, single_br hC hp h (cl _ ?_), C1.fail, by omega, L1, fun w => absurd w (by decide), fun n' τ hn' hM => ?_⟩
      · rw [stands_no C1, bd2_s, if_pos rfl, ptf, bd1_s]
      · obtain ⟨n', rfl⟩ : ∃ x, n' = x + 1 := ⟨n' - 1, by omega⟩
        obtain ⟨v, τ1, t1, t2, t3, t4⟩ := ml n' τ hn' hM
        refine ⟨0, u2 τ1 0 14 0, t4 _ ?_, t1.tr (MF.u (by decide) _), t2.fail, fun w => absurd w (by decide)⟩
        rw [if_pos (show τ1 0 14 = 0 from t2.2.2.2.2.2.1)]
    | true =>
      by_cases z : sg N B p1 = 41
      · have hp1 : p1 < N := dg_lt z (by decide)
        refine ⟨true, p1 + 1, cs1, ev, u2 σ1 52 3 (nI (p1 + 1)), single_br hC hp h (cl _ ?_), C1.pl, by omega, by omega, r1, fun n' τ hn' hM => ?_⟩
        · rw [stands_eq C1 L1, bd2_s, if_pos z, if_neg (by decide), ptf, bd1_s, C1.2.2.2.2.2.2.1, nI_1]
        · obtain ⟨n', rfl⟩ : ∃ x, n' = x + 1 := ⟨n' - 1, by omega⟩
          obtain ⟨v, τ1, t1, t2, t3, t4⟩ := ml n' τ hn' hM
          refine ⟨v, u2 τ1 0 8 (nI (p1 + 1)), t4 _ ?_, t1.tr (MF.u (by decide) _), t2.at_, t3⟩
          rw [if_neg (show ¬ τ1 0 14 = 0 by rw [t2.2.2.2.2.2.1]; decide), byte_eq t2 hN L1, bd2_s, if_pos z, t2.2.2.1, nI_1]
      · refine ⟨false, p1, cs1, ev, u2 σ1 52 4 1, single_br hC hp h (cl _ ?_), C1.fail, by omega, L1, fun w => absurd w (by decide), fun n' τ hn' hM => ?_⟩
        · rw [stands_eq C1 L1, bd2_s, if_neg z, if_pos rfl, ptf, bd1_s]
        · obtain ⟨n', rfl⟩ : ∃ x, n' = x + 1 := ⟨n' - 1, by omega⟩
          obtain ⟨v, τ1, t1, t2, t3, t4⟩ := ml n' τ hn' hM
          refine ⟨0, u2 τ1 0 14 0, t4 _ ?_, t1.tr (MF.u (by decide) _), t2.fail, fun w => absurd w (by decide)⟩
          rw [if_neg (show ¬ τ1 0 14 = 0 by rw [t2.2.2.2.2.2.1]; decide), byte_eq t2 hN L1, bd2_s, if_neg z]
theorem js_all {d : Nat} (hu : u ≤ 1) (hd : d ≤ 5) (g1 : d < 5 → JS σ0 N u B (d + 1)) (g2 : d < 5 → JL σ0 N u B 0 (d + 1)) : JS σ0 N u B d := by
  intro p n σ cs hC hp hl hn
  by_cases q : 48 ≤ sg N B p ∧ sg N B p ≤ 57
  · obtain ⟨n, rfl⟩ : ∃ x, n = x + 1 := ⟨n - 1, by omega⟩
    exact js_num hC hp hl q
  by_cases h : sg N B p = 33 ∨ sg N B p = 40
  · obtain ⟨n, rfl⟩ : ∃ x, n = x + 2 := ⟨n - 2, by omega⟩
    exact js_br hd g1 g2 hC hp hl (by omega) h
  · obtain ⟨n, rfl⟩ : ∃ x, n = x + 1 := ⟨n - 1, by omega⟩
    exact js_name hu hC hp hl q (fun w => h (Or.inl w)) (fun w => h (Or.inr w))
theorem jl5 {d : Nat} (g : JS σ0 N u B d) : JL σ0 N u B 5 d := by
  intro p n σ cs hC hp hl hn
  obtain ⟨n, rfl⟩ : ∃ x, n = x + 1 := ⟨n - 1, by omega⟩
  obtain ⟨ok, p1, cs1, ev, σ1, e1, C1, l1, L1, r1, m1⟩ := g p n σ cs hC hp hl (by omega)
  refine ⟨ok, p1, cs1, ev, σ1, ?_, C1, l1, L1, r1, ?_⟩
  · show bd1 (fX3_readLevel (grp_X3_readLevel n) (nI 5) (nI d) σ) (fun t => some (0, t)) = _
    unfold fX3_readLevel
    rw [if_neg (show ¬ nI 5 ≤ (4 : Int32) by decide), show grp_X3_readLevel n 2 [nI d] σ = _ from e1, bd2_s, bd1_s]
  · intro n' τ hn' hM
    exact m1 n' τ (by omega) hM
end
