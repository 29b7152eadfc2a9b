/-! reading a text: what is joined -/
def lvl (c : Int32) : Int32 :=
  if c = 37 then 4 else if c = 38 then 1 else if c = 42 then 4 else if c = 43 then 3 else if c = 45 then 3 else if c = 47 then 4 else if c = 60 then 2 else if c = 61 then 2 else if c = 62 then 2 else if c = 124 then 0 else -1
theorem levelOf_eq (c : Int32) (s : St) : fX3_levelOf c s = some (lvl c, s) := by
  unfold fX3_levelOf lvl
  repeat (first | (split; · rfl) | rfl)
theorem lvl_ops {c : Int32} (h : lvl c ≠ -1) : c = 37 ∨ c = 38 ∨ c = 42 ∨ c = 43 ∨ c = 45 ∨ c = 47 ∨ c = 60 ∨ c = 61 ∨ c = 62 ∨ c = 124 := by
  by_cases a1 : c = 37
  · exact Or.inl a1
  by_cases a2 : c = 38
  · exact Or.inr (Or.inl a2)
  by_cases a3 : c = 42
  · exact Or.inr (Or.inr (Or.inl a3))
  by_cases a4 : c = 43
  · exact Or.inr (Or.inr (Or.inr (Or.inl a4)))
  by_cases a5 : c = 45
  · exact Or.inr (Or.inr (Or.inr (Or.inr (Or.inl a5))))
  by_cases a6 : c = 47
  · exact Or.inr (Or.inr (Or.inr (Or.inr (Or.inr (Or.inl a6)))))
  by_cases a7 : c = 60
  · exact Or.inr (Or.inr (Or.inr (Or.inr (Or.inr (Or.inr (Or.inl a7))))))
  by_cases a8 : c = 61
  · exact Or.inr (Or.inr (Or.inr (Or.inr (Or.inr (Or.inr (Or.inr (Or.inl a8)))))))
  by_cases a9 : c = 62
  · exact Or.inr (Or.inr (Or.inr (Or.inr (Or.inr (Or.inr (Or.inr (Or.inr (Or.inl a9))))))))
  by_cases a10 : c = 124
  · exact Or.inr (Or.inr (Or.inr (Or.inr (Or.inr (Or.inr (Or.inr (Or.inr (Or.inr a10))))))))
  exact absurd (by unfold lvl; rw [if_neg a1, if_neg a2, if_neg a3, if_neg a4, if_neg a5, if_neg a6, if_neg a7, if_neg a8, if_neg a9, if_neg a10]) h
theorem op_code {c : Int32} (h : lvl c ≠ -1) : -c < -3 ∧ -c ≠ -33 ∧ - -c = c ∧ c ≠ -1 := by
  rcases lvl_ops h with rfl | rfl | rfl | rfl | rfl | rfl | rfl | rfl | rfl | rfl <;> decide
theorem lev_ne {lev : Nat} (h : lev ≤ 4) : nI lev ≠ -1 := by
  rcases (show lev = 0 ∨ lev = 1 ∨ lev = 2 ∨ lev = 3 ∨ lev = 4 by omega) with rfl | rfl | rfl | rfl | rfl <;> decide
section
variable {σ0 : St} {N u : Nat} {B : Nat → Int32}
/-- one joining in the class' reader -/
theorem rl_step {lev d p n i f A : Nat} (hl4 : lev ≤ 4) (hA : A ≤ 50) {σ : St} {cs : List Int32} (hC : CS σ0 N u B σ p true cs) (hp : p ≤ N) (hl : cs.length ≤ p) (hi : i < A) (g : JL σ0 N u B (lev + 1) d) (hn : 8 * (5 - d) + 8 - (lev + 1) ≤ n) (h : lvl (sg N B p) = nI lev) :
    ∃ (ok : Bool) (p' : Nat) (cs' : List Int32) (ev : Int32 → Int32 → Int32 → Int32) (σ' : St), fX3_readLevel_34 (grp_X3_readLevel n) (nI lev) (nI d) (nI A) (f + 1) (nI i) σ = fX3_readLevel_34 (grp_X3_readLevel n) (nI lev) (nI d) (nI A) f (nI (i + 1)) σ' ∧ CS σ0 N u B σ' p' ok (cs ++ (cs' ++ [-(sg N B p)])) ∧ cs'.length + (p + 1) ≤ p' ∧ p' ≤ N ∧ (ok = true → Rn cs' ev) ∧ MR N u B (im (lev + 1)) (6 * (5 - d) + 6 - (lev + 1)) (p + 1) d ok p' ev := by
  have hN : N ≤ 50 := hC.2.2.2.1
  obtain ⟨o1, o2, o3, o4⟩ := op_code (c := sg N B p) (by rw [h]; exact lev_ne hl4)
  have hpN : p < N := dg_lt rfl o4
  obtain ⟨ok, p1, cs1, ev, σ1, e1, C1, l1, L1, r1, m1⟩ := g (p + 1) n (u2 σ 52 3 (nI (p + 1))) cs hC.pl (by omega) (by omega) hn
  obtain ⟨σ2, a1, a2⟩ := C1.add (by rw [List.length_append]; omega) (-(sg N B p))
  refine ⟨ok, p1, cs1, ev, σ2, ?_, by rw [← List.append_assoc]; exact a2, l1, L1, r1, m1⟩
  rw [fX3_readLevel_34, if_neg (nI_ge hi (by omega)), show σ 52 4 = 0 from hC.2.2.2.2.2.2.2.1, if_pos rfl, sign_eq hC hp, bd2_s, levelOf_eq, bd2_s, if_pos h, sign_eq hC hp, bd2_s, ptf, bd1_s, hC.2.2.2.2.2.2.1, nI_1, nI_1, show grp_X3_readLevel n 0 [nI (lev + 1), nI d] _ = _ from e1, bd2_s, a1, bd1_s, nI_1]
theorem rl_end {lev d p n i f A : Nat} {σ : St} {cs : List Int32} {ok : Bool} (hC : CS σ0 N u B σ p ok cs) (hp : p ≤ N) (h : ok = true → A ≤ i ∨ lvl (sg N B p) ≠ nI lev) (hi : i < 2 ^ 31) : fX3_readLevel_34 (grp_X3_readLevel n) (nI lev) (nI d) (nI A) (f + 1) (nI i) σ = some σ := by
  rw [fX3_readLevel_34]
  by_cases q : A ≤ i
  · rw [if_pos (nI_le q hi)]
  by_cases q2 : nI A ≤ nI i
  · rw [if_pos q2]
  rw [if_neg q2]
  cases ok with
  | false => rw [if_neg (show ¬ σ 52 4 = 0 by rw [hC.2.2.2.2.2.2.2.1]; decide)]
  | true => rw [if_pos (show σ 52 4 = 0 from hC.2.2.2.2.2.2.2.1), sign_eq hC hp, bd2_s, levelOf_eq, bd2_s, if_neg ((h rfl).resolve_left q)]
/-- a row of joinings, in both readers -/
theorem jl_loop {lev d n : Nat} (hl4 : lev ≤ 4) {ml : (Nat → List Int32 → St → Option (Int32 × St)) → Nat → Int32 → St → Option (Int32 × St)}
    (H1 : ∀ rec f v (τ : St), τ 0 14 = 0 → ml rec (f + 1) v τ = some (v, τ))
    (H2 : ∀ rec f v (τ : St) p d, N ≤ 50 → MS N u B τ p d true → p ≤ N → lvl (sg N B p) ≠ nI lev → ml rec (f + 1) v τ = some (v, τ))
    (H3 : ∀ rec f v (τ : St) p d, N ≤ 50 → MS N u B τ p d true → p ≤ N → lvl (sg N B p) = nI lev → ml rec (f + 1) v τ = bd2 (rec (im (lev + 1)) [] (u2 τ 0 8 (nI (p + 1)))) fun w s => ml rec f (jnd (sg N B p) v w) s)
    (g : JL σ0 N u B (lev + 1) d) (hn : 8 * (5 - d) + 8 - (lev + 1) ≤ n) (cs0 : List Int32) (p0 : Nat) (hl0 : cs0.length ≤ p0) : ∀ (k p i f : Nat) (σ : St) (csL : List Int32) (ok : Bool) (ev : Int32 → Int32 → Int32 → Int32), N - p ≤ k → k < f → CS σ0 N u B σ p ok (cs0 ++ csL) → p ≤ N → i ≤ p → csL.length + p0 ≤ p → (ok = true → Rn csL ev) →
    ∃ (ok' : Bool) (p' : Nat) (cs' : List Int32) (ev' : Int32 → Int32 → Int32 → Int32) (σ' : St), fX3_readLevel_34 (grp_X3_readLevel n) (nI lev) (nI d) (nI 50) f (nI i) σ = some σ' ∧ CS σ0 N u B σ' p' ok' (cs0 ++ cs') ∧ cs'.length + p0 ≤ p' ∧ p' ≤ N ∧ (ok' = true → Rn cs' ev') ∧ ∀ (n' h : Nat) (τ : St) (v : Int32), 6 * (5 - d) + 6 - (lev + 1) ≤ n' → k < h → MS N u B τ p d ok → (ok = true → v = ev (τ 0 11) (τ 0 12) (τ 0 13)) → ∃ v' τ', ml (grp_X9_both n') h v τ = some (v', τ') ∧ MF τ τ' ∧ MS N u B τ' p' d ok' ∧ (ok' = true → v' = ev' (τ 0 11) (τ 0 12) (τ 0 13))
  | k, p, i, 0, _, _, _, _, _, hf, _, _, _, _, _ => absurd hf (Nat.not_lt_zero _)
  | k, p, i, f + 1, σ, csL, ok, ev, hk, hf, hC, hp, hi, hL, hR => by
    have hN : N ≤ 50 := hC.2.2.2.1
    by_cases q : ok = true ∧ lvl (sg N B p) = nI lev
    · obtain ⟨rfl, q⟩ := q
      obtain ⟨o1, o2, o3, o4⟩ := op_code (c := sg N B p) (by rw [q]; exact lev_ne hl4)
      have hpN : p < N := dg_lt rfl o4
      obtain ⟨k, rfl⟩ : ∃ x, k = x + 1 := ⟨k - 1, by omega⟩
      obtain ⟨ok1, p1, cs1, ev1, σ1, e1, C1, l1, L1, r1, m1⟩ := rl_step (A := 50) (f := f) (i := i) hl4 (by decide) hC hp (by rw [List.length_append]; omega) (by omega) g hn q
      obtain ⟨ok2, p2, cs2, ev2, σ2, e2, C2, l2, L2, r2, m2⟩ := jl_loop hl4 H1 H2 H3 g hn cs0 p0 hl0 k p1 (i + 1) f σ1 (csL ++ (cs1 ++ [-(sg N B p)])) ok1 (fun a b c => jnd (sg N B p) (ev a b c) (ev1 a b c)) (by omega) (by omega) (by rw [← List.append_assoc]; exact C1) L1 (by omega) (by rw [List.length_append, List.length_append]; simp; omega) (fun w => by
        have := (hR rfl).op (r1 w) o1 o2
        rw [o3, List.append_assoc] at this
        exact this)
      refine ⟨ok2, p2, cs2, ev2, σ2, by rw [e1]; exact e2, C2, l2, L2, r2, fun n' h τ v hn' hh hM hv => ?_⟩
      obtain ⟨h, rfl⟩ : ∃ x, h = x + 1 := ⟨h - 1, by omega⟩
      obtain ⟨w, τ1, t1, t2, t3, t4⟩ := m1 n' (u2 τ 0 8 (nI (p + 1))) hn' hM.at_
      have nm : ∀ j, j ≠ 8 → (u2 τ 0 8 (nI (p + 1))) 0 j = τ 0 j := fun j h8 => u2_slot h8
      rw [nm 11 (by decide), nm 12 (by decide), nm 13 (by decide)] at t4
      have F := (MF.u (τ := τ) (j := 8) (by decide) (nI (p + 1))).tr t2
      obtain ⟨v2, τ2, s1, s2, s3, s4⟩ := m2 n' h τ1 (jnd (sg N B p) v w) hn' (by omega) t3 (fun z => by
        show _ = jnd (sg N B p) (ev (τ1 0 11) (τ1 0 12) (τ1 0 13)) (ev1 (τ1 0 11) (τ1 0 12) (τ1 0 13))
        rw [F.2 11 (by decide) (by decide) (by decide), F.2 12 (by decide) (by decide) (by decide), F.2 13 (by decide) (by decide) (by decide), ← hv rfl, ← t4 z])
      rw [F.2 11 (by decide) (by decide) (by decide), F.2 12 (by decide) (by decide) (by decide), F.2 13 (by decide) (by decide) (by decide)] at s4
      exact ⟨v2, τ2, by rw [H3 _ h v τ p d hN hM hp q, t1, bd2_s]; exact s1, F.tr s2, s3, s4⟩
    · refine ⟨ok, p, csL, ev, σ, rl_end hC hp (fun w => Or.inr (fun z => q ⟨w, z⟩)) (by omega), hC, hL, hp, hR, fun n' h τ v hn' hh hM hv => ?_⟩
      obtain ⟨h, rfl⟩ : ∃ x, h = x + 1 := ⟨h - 1, by omega⟩
      refine ⟨v, τ, ?_, MF.rf τ, hM, hv⟩
      cases ok with
      | false => exact H1 _ h v τ hM.2.2.2.2.2.1
      | true => exact H2 _ h v τ p d hN hM hp (fun z => q ⟨rfl, z⟩)
end
