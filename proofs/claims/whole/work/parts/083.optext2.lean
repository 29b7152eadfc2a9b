theorem tB {M W3 W4 : St → Option St} {K : St → Option St} {Wk : St → Option (Int32 × St)} {τ τ1 τ2 τ4 : St} {N u : Nat} {v x y : Int32} (g1 : M τ = some τ1) (g2 : K τ1 = some τ2) (b5 : τ2 1 5 = nI N) (hu : u ≤ 1) (g4 : Wk (u2 τ2 1 (7 + u) (nI N)) = some (v, τ4)) (q4 : τ4 0 14 = x) (p4 : τ4 0 8 = y) :
  (bd1 (M τ) fun s4 =>
 bd1 (K s4) fun s11 =>
 bd1 (ald s11 1 257 5) fun v13 =>
 bd1 (ast s11 1 257 (7 + nI u) v13) fun s15 =>
 bd2 (Wk s15) fun u18 s16 =>
 jn (fun (w19 : Int32) =>
 jn (fun (s20 : St) =>
 bd1 (ast s20 1 257 5 0) fun s22 =>
 bd1 (W4 s22) fun s23 =>
 if w19 = 0 then
 some ((-10) - (s16 0 8), s23)
 else
 some (1, s23)) fun j130 =>
 if w19 = 0 then
 bd1 (W3 s16) fun s26 =>
 j130 s26
 else
 j130 s16) fun j107 =>
 jn (fun (_ : Unit) =>
 j107 0) fun j106 =>
 if (s16 0 14) = 0 then
 j106 ()
 else
 if u18 = u18 then
 j107 1
 else
 j106 ()) = if x = 0 then (bd1 (W3 τ4) fun s26 => bd1 (ast s26 1 257 5 0) fun s22 => bd1 (W4 s22) fun s23 => some ((-10) - y, s23)) else (bd1 (ast τ4 1 257 5 0) fun s22 => bd1 (W4 s22) fun s23 => some (1, s23)) := by
  rw [g1, bd1_s, g2, bd1_s, ald1 (x := 5) (i := 5) rfl (by decide), bd1_s, b5, ast1 (x := 7 + nI u) (i := 7 + u) (by rw [show (7 : Int32) = nI 7 from rfl, nI_add]) (by omega), bd1_s, g4, bd2_s]
  simp only [jn, q4, p4]
  by_cases h : x = 0
  · simp only [h, if_true]
  · simp only [if_neg h, if_true, if_neg (show ¬ (1 : Int32) = 0 by decide)]
theorem tA {C : Prop} [Decidable C] (hC : C) {X Y : St → Option (Int32 × St)} (s : St) : (bd2 (some ((if C then (1 : Int32) else 0), s)) fun u3 s1 => if u3 = 0 then X s1 else Y s1) = Y s := by
  rw [bd2_s, gi0, if_pos hC]
theorem u01 {u : Nat} (hu : u ≤ 1) : (0 : Int32) ≤ nI u ∧ nI u ≤ 1 := by
  rcases (show u = 0 ∨ u = 1 by omega) with rfl | rfl <;> decide
theorem read_m0 {τ τ1 τ2 τ4 : St} {N u : Nat} {v x y : Int32} (hu : u ≤ 1) (g1 : fX9_moveAll 1 257 4 257 τ = some τ1) (g2 : fX9_text_30 (nI u) FU 0 τ1 = some τ2) (b5 : τ2 1 5 = nI N) (g4 : fX9_walks (nI u) 1 1 1 (u2 τ2 1 (7 + u) (nI N)) = some (v, τ4)) (q4 : τ4 0 14 = x) (p4 : τ4 0 8 = y) : fX9_text (nI u) τ = if x = 0 then (bd1 (fX9_moveAll 4 257 1 257 τ4) fun s26 => bd1 (ast s26 1 257 5 0) fun s22 => bd1 (fX9_forgets s22) fun s23 => some ((-10) - y, s23)) else (bd1 (ast τ4 1 257 5 0) fun s22 => bd1 (fX9_forgets s22) fun s23 => some (1, s23)) := by
  rw [fX9_text, m_in]
  refine (tA (u01 hu) τ).trans ?_
  exact tB (M := fX9_moveAll 1 257 4 257) (K := fX9_text_30 (nI u) FU 0) (Wk := fX9_walks (nI u) 1 1 1) (W3 := fX9_moveAll 4 257 1 257) (W4 := fX9_forgets) g1 g2 b5 hu g4 q4 p4
/-- what the reference has behind the act -/
theorem read_m {τ : St} {N u : Nat} {ok : Bool} {p' : Nat} {ev : Int32 → Int32 → Int32 → Int32} (hu : u ≤ 1) (hN : N ≤ 50) (w2 : τ 1 5 = nI N) (hp : p' ≤ N) (m : MR N u (fun i => τ 1 (87 + i)) 5 36 0 0 ok p' ev) : ∃ τ6, fX9_text (nI u) τ = some (if ok = true ∧ p' = N then 1 else (-10) - nI p', τ6) ∧ (∀ k, k ≠ 0 → k ≠ 1 → k ≠ 4 → k ≠ 6 → τ6 k = τ k) ∧ (∀ j, j < 7 ∨ 14 < j → τ6 0 j = τ 0 j) ∧ (∀ j, j < 2000 → τ6 6 j = -1) ∧ τ6 1 5 = 0 ∧ (∀ j, j < 257 → j ≠ 5 → j ≠ 7 + u → (j < 157 + 50 * u ∨ 207 + 50 * u ≤ j) → τ6 1 j = τ 1 j) ∧ (ok = true ∧ p' = N → τ6 1 (7 + u) = nI N ∧ ∀ i, i < 50 → τ6 1 (157 + 50 * u + i) = τ 1 (87 + i)) ∧ (¬ (ok = true ∧ p' = N) → ∀ j, j < 257 → j ≠ 5 → τ6 1 j = τ 1 j) := by
  obtain ⟨τ1, g1, u1, v1⟩ := moveAll_eq (p := 1) (q := 4) (by decide) τ
  obtain ⟨τ2, g2, u2', x2, y2⟩ := text_cp hu 50 0 FU τ1 rfl (FU_lt (by omega))
  have b5 : τ2 1 5 = nI N := by rw [x2 5 (by omega), u1 1 (by decide)]; exact w2
  obtain ⟨v, τ4, g4, f4, p4, q4, -⟩ := walks_eq (s := u2 τ2 1 (7 + u) (nI N)) hu hN hp m (u2_same _ _ _ _) (fun i hi => by rw [u2_slot (by omega), y2 i (by omega) (by omega), u1 1 (by decide)]) 1 1 1
  have t4 : ∀ k, k ≠ 0 → k ≠ 1 → k ≠ 4 → τ4 k = τ k := fun k h0 h1 h4 => by rw [f4.1 k h0, u2_ne h1, u2' k h1, u1 k h4]
  have t44 : ∀ j, j < 257 → τ4 4 j = τ 1 j := fun j hj => by rw [f4.1 4 (by decide), u2_ne (by decide), u2' 4 (by decide)]; exact v1 j hj
  have t40 : ∀ j, j < 7 ∨ 14 < j → τ4 0 j = τ 0 j := fun j hj => by rw [f4.2 j hj, u2_ne (by decide), u2' 0 (by decide), u1 0 (by decide)]
  have t41 : ∀ j, j ≠ 7 + u → (j < 157 + 50 * u ∨ 207 + 50 * u ≤ j) → τ4 1 j = τ 1 j := fun j h7 hj => by rw [f4.1 1 (by decide), u2_slot h7, x2 j (by omega), u1 1 (by decide)]
  have t4u : τ4 1 (7 + u) = nI N := by rw [f4.1 1 (by decide), u2_same]
  have t4t : ∀ i, i < 50 → τ4 1 (157 + 50 * u + i) = τ 1 (87 + i) := fun i hi => by rw [f4.1 1 (by decide), u2_slot (by omega), y2 i (by omega) hi, u1 1 (by decide)]
  rw [read_m0 hu g1 (show fX9_text_30 (nI u) FU 0 τ1 = some τ2 from g2) b5 g4 q4 p4]
  by_cases acc : ok = true ∧ p' = N
  · obtain ⟨τ6, g6, x6, y6⟩ := forget_m (u2 τ4 1 5 0)
    have tr : ∀ j, j ≠ 5 → τ6 1 j = τ4 1 j := fun j hj => by rw [x6 1 (by decide), u2_slot hj]
    refine ⟨τ6, ?_, fun k h0 h1 h4 h6 => by rw [x6 k h6, u2_ne h1, t4 k h0 h1 h4], fun j hj => by rw [x6 0 (by decide), u2_ne (by decide)]; exact t40 j hj, y6, by rw [x6 1 (by decide), u2_same], fun j hj h5 h7 h => by rw [tr j h5, t41 j h7 h], fun _ => ⟨by rw [tr _ (by omega)]; exact t4u, fun i hi => by rw [tr _ (by omega)]; exact t4t i hi⟩, fun w => absurd acc w⟩
    rw [if_pos acc, if_neg (show ¬ (1 : Int32) = 0 by decide), if_pos acc, ast1 (x := 5) (i := 5) rfl (by decide), bd1_s, g6, bd1_s]
  · obtain ⟨τ5, g5, x5, y5⟩ := moveAll_eq (p := 4) (q := 1) (by decide) τ4
    obtain ⟨τ6, g6, x6, y6⟩ := forget_m (u2 τ5 1 5 0)
    have tr : ∀ j, j < 257 → j ≠ 5 → τ6 1 j = τ 1 j := fun j hj h5 => by rw [x6 1 (by decide), u2_slot h5, y5 j hj, t44 j hj]
    refine ⟨τ6, ?_, fun k h0 h1 h4 h6 => by rw [x6 k h6, u2_ne h1, x5 k h1, t4 k h0 h1 h4], fun j hj => by rw [x6 0 (by decide), u2_ne (by decide), x5 0 (by decide)]; exact t40 j hj, y6, by rw [x6 1 (by decide), u2_same], fun j hj h5 _ _ => tr j hj h5, fun w => absurd w acc, fun _ => tr⟩
    rw [if_neg acc, if_pos rfl, if_neg acc, g5, bd1_s, ast1 (x := 5) (i := 5) rfl (by decide), bd1_s, g6, bd1_s]
