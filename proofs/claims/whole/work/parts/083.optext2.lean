theorem tB {M W3 W4 : St → Option St} {K : St → Option St} {Wk : St → Option (Int32 × St)} {τ τ1 τ2 τ4 : St} {N u : Nat} {v x y : Int32} (g1 : M τ = some τ1) (g2 : K τ1 = some τ2) (b5 : τ2 1 5 = nI N) (hu : u ≤ 1) (g4 : Wk (u2 τ2 1 (7 + u) (nI N)) = some (v, τ4)) (q4 : τ4 0 14 = x) (p4 : τ4 0 8 = y) :
  (bd1 (M τ) fun s4 =>
 bd1 (K s4) fun s11 =>
 bd1 (ald s11 1 257 5) fun v13 =>
 bd1 (ast s11 1 257 (7 + nI u) v13) fun s15 =>
 bd2 (Wk s15) fun u18 s16 =>
 jn (fun (w19 : Int32) =>
 jn (fun (s20 : St) =>
 bd1 (ast s20 1 257 5 0) fun s22 =>
 bd1 (W4 s22) fun s23 =>
 if w19 = 0 then
 some ((-10) - (s16 0 8), s23)
 else
 some (1, s23)) fun j130 =>
 if w19 = 0 then
 bd1 (W3 s16) fun s26 =>
 j130 s26
 else
 j130 s16) fun j107 =>
 jn (fun (_ : Unit) =>
 j107 0) fun j106 =>
 if (s16 0 14) = 0 then
 j106 ()
 else
 if u18 = u18 then
 j107 1
 else
 j106 ()) = if x = 0 then (bd1 (W3 τ4) fun s26 => bd1 (ast s26 1 257 5 0) fun s22 => bd1 (W4 s22) fun s23 => some ((-10) - y, s23)) else (bd1 (ast τ4 1 257 5 0) fun s22 => bd1 (W4 s22) fun s23 => some (1, s23)) := by
  rw [g1, bd1_s, g2, bd1_s, ald1 (x := 5) (i := 5) rfl (by decide), bd1_s, b5, ast1 (x := 7 + nI u) (i := 7 + u) (by rw [show (7 : Int32) = nI 7 from rfl, nI_add]) (by omega), bd1_s, g4, bd2_s]
  simp only [jn, q4, p4]
  by_cases h : x = 0
  · simp only [h, if_true]
  · simp only [if_neg h, if_true, if_neg (show ¬ (1 : Int32) = 0 by decide)]
theorem tA {C : Prop} [Decidable C] (hC : C) {X Y : St → Option (Int32 × St)} (s : St) : (bd2 (some ((if C then (1 : Int32) else 0), s)) fun u3 s1 => if u3 = 0 then X s1 else Y s1) = Y s := by
  rw [bd2_s, gi0, if_pos hC]
theorem u01 {u : Nat} (hu : u ≤ 1) : (0 : Int32) ≤ nI u ∧ nI u ≤ 1 := by
  rcases (show u = 0 ∨ u = 1 by omega) with rfl | rfl <;> decide
theorem read_m0 {τ τ1 τ2 τ4 : St} {N u : Nat} {v x y : Int32} (hu : u ≤ 1) (g1 : fX9_moveAll 1 257 4 257 τ = some τ1) (g2 : fX9_text_30 (nI u) FU 0 τ1 = some τ2) (b5 : τ2 1 5 = nI N) (g4 : fX9_walks (nI u) 1 1 1 (u2 τ2 1 (7 + u) (nI N)) = some (v, τ4)) (q4 : τ4 0 14 = x) (p4 : τ4 0 8 = y) : fX9_text (nI u) τ = if x = 0 then (bd1 (fX9_moveAll 4 257 1 257 τ4) fun s26 => bd1 (ast s26 1 257 5 0) fun s22 => bd1 (fX9_forgets s22) fun s23 => some ((-10) - y, s23)) else (bd1 (ast τ4 1 257 5 0) fun s22 => bd1 (fX9_forgets s22) fun s23 => some (1, s23)) := by
  rw [fX9_text, m_in]
  refine (tA (u01 hu) τ).trans ?_
  exact tB (M := fX9_moveAll 1 257 4 257) (K := fX9_text_30 (nI u) FU 0) (Wk := fX9_walks (nI u) 1 1 1) (W3 := fX9_moveAll 4 257 1 257) (W4 := fX9_forgets) g1 g2 b5 hu g4 q4 p4
