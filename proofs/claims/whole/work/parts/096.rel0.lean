/-! the start: nothing told, nothing fed; both sides agree -/
def h0s : Hs := fun i => ([hSw, hFt, hSv, z0, z0, z0, z0, z0, fun j => if j = 0 then 12 else 0] : List (Nat → Int32)).getD i z0
theorem rr0 {most : Nat} {p q f : Nat → Int32} {x : Int32} (h1 : p 1 = 0) (h2 : x = 0) : RR most p q x f := ⟨0, Nat.zero_le _, h1, h2, fun i h => absurd h (Nat.not_lt_zero i)⟩
theorem r0_CH : CH s0C 2 h0s := ⟨⟨fun _ _ => rfl, fun _ _ => rfl, fun _ _ => rfl, fun _ _ => rfl, fun _ _ => rfl, fun _ _ => rfl, fun _ _ => rfl, fun _ _ => rfl⟩, rfl, rfl, rfl, rfl⟩
theorem r0_MH : MH mRow h0s := by
  unfold MH
  decide +kernel
theorem r0_HB : HB 9999 0 h0s := by
  unfold HB bt
  decide +kernel
theorem r0_CLC : CLC s0C T0 := by
  refine ⟨cl_zero rfl rfl, fun u a s g hu ha hs hg => Or.inl ?_⟩
  show m1 (cix u a s g) < 0
  unfold m1 ff
  rw [if_pos (cix_lt hu ha hs hg)]
  decide
theorem r0_MLC : MLC s0M T0 := by
  refine ⟨ml_zero (show mRow 7 = -1 by decide +kernel) (show mRow 8 = -1 by decide +kernel), fun u a s g hu ha hs hg => Or.inl ?_⟩
  show m2 (mix u a s g) < 0
  unfold m2 ff
  rw [if_pos (mix_lt hu ha hs hg)]
  decide
theorem r0_RS : RS s0C s0M := by
  intro i hi
  have hs : SR 0 0 0 := by unfold SR; rw [if_neg (by decide), if_neg (by decide)]
  rcases (show i = 0 ∨ i = 1 ∨ i = 2 ∨ i = 3 by omega) with rfl | rfl | rfl | rfl
  all_goals exact ⟨0, by decide, rfl, rfl, rfl, Or.inl rfl, fun j _ => hs⟩
theorem r0_5 : s0M 1 5 = 0 := show mRow 5 = 0 by decide +kernel
theorem r0_6 : s0M 1 6 = 0 := show mRow 6 = 0 by decide +kernel
theorem rel0 : Rel s0C s0M 0 := by
  refine ⟨h0s, T0, 0, ⟨r0_CH, r0_MH, r0_HB, T0_b, r0_CLC, r0_MLC, ?_, ?_⟩, show (1 : Int32) = mRow 1 by decide +kernel, ⟨rr0 rfl r0_5, ?_⟩, rr0 rfl r0_6, ⟨0, Nat.le_refl 0, rfl, rfl, rfl, fun h => absurd rfl h⟩, fun _ _ => rfl, r0_RS, rr0 rfl rfl⟩
  · show bt 0 50 0
    unfold bt; decide
  · show bt 0 50 0
    unfold bt; decide
  · intro i h
    rw [r0_5] at h
    exact absurd h (Nat.not_lt_zero i)
