/-! guards -/
theorem gi0 {α : Type} (p : Prop) [Decidable p] (A B : α) : (if (if p then (1 : Int32) else 0) = 0 then A else B) = if p then B else A := by
  by_cases h : p
  · rw [if_pos h, if_pos h, if_neg (by decide)]
  · rw [if_neg h, if_neg h, if_pos rfl]
theorem gb01 {β : Type} (p : Prop) [Decidable p] (o : Option β) : gb (if p then (1 : Int32) else 0) o = o := by
  unfold gb
  by_cases h : p
  · rw [if_pos h, if_pos (Or.inr rfl)]
  · rw [if_neg h, if_pos (Or.inl rfl)]
theorem bd2_eta {α β : Type} (o : Option (α × β)) : (bd2 o fun a b => some (a, b)) = o := by
  cases o with
  | none => rfl
  | some x => rfl
theorem bd1_eta {α : Type} (o : Option α) : (bd1 o fun a => some a) = o := by
  cases o <;> rfl
theorem c_within (v lo hi : Int32) (s : St) : fX8_within v lo hi s = some (if lo ≤ v ∧ v ≤ hi then 1 else 0, s) := by
  unfold fX8_within
  simp only [jn]
  by_cases h1 : v < lo
  · rw [if_pos h1, if_neg (fun q => by rw [i_lt] at h1; have := i_le.mp q.1; omega)]
  · rw [if_neg h1]
    by_cases h2 : hi < v
    · rw [if_pos h2, if_neg (fun q => by rw [i_lt] at h2; have := i_le.mp q.2; omega)]
    · rw [if_neg h2, if_pos ⟨i_le.mpr (by rw [i_lt] at h1; omega), i_le.mpr (by rw [i_lt] at h2; omega)⟩]
theorem c_isDish (v : Int32) (s : St) : fX8_isDish v s = some (if 0 ≤ v ∧ v ≤ 15 then 1 else 0, s) := by unfold fX8_isDish; rw [c_within, bd2_s, gb01]
theorem c_isCourse (v : Int32) (s : St) : fX8_isCourse v s = some (if 0 ≤ v ∧ v ≤ 5 then 1 else 0, s) := by unfold fX8_isCourse; rw [c_within, bd2_s, gb01]
theorem c_isKindAndM (v : Int32) (s : St) : fX8_isKindAndM v s = some (if 0 ≤ v ∧ v ≤ 69 then 1 else 0, s) := by unfold fX8_isKindAndM; rw [c_within, bd2_s, gb01]
theorem c_isKnown (v : Int32) (s : St) : fX8_isKnown v s = some (if 0 ≤ v ∧ v ≤ 99 then 1 else 0, s) := by unfold fX8_isKnown; rw [c_within, bd2_s, gb01]
theorem c_isAhead (v : Int32) (s : St) : fX8_isAhead v s = some (if 0 ≤ v ∧ v ≤ 60 then 1 else 0, s) := by unfold fX8_isAhead; rw [c_within, bd2_s, gb01]
theorem c_isSheet (v : Int32) (s : St) : fX8_isSheet v s = some (if 0 ≤ v ∧ v ≤ 3 then 1 else 0, s) := by unfold fX8_isSheet; rw [c_within, bd2_s, gb01]
theorem c_isDiner {s : St} {dn : Nat} (h : s 2 12 = nI dn) (v : Int32) : fX8_isDiner v s = some (if 0 ≤ v ∧ v ≤ nI dn - 1 then 1 else 0, s) := by unfold fX8_isDiner; rw [h, c_within, bd2_s, gb01]
theorem m_isDish (v : Int32) (s : St) : fX9_isDish v s = some (if 0 ≤ v ∧ v ≤ 15 then 1 else 0, s) := by unfold fX9_isDish; rw [m_in, bd2_s, gb01]
theorem m_isCourse (v : Int32) (s : St) : fX9_isCourse v s = some (if 0 ≤ v ∧ v ≤ 5 then 1 else 0, s) := by unfold fX9_isCourse; rw [m_in, bd2_s, gb01]
theorem m_isSheet (v : Int32) (s : St) : fX9_isSheet v s = some (if 0 ≤ v ∧ v ≤ 3 then 1 else 0, s) := by unfold fX9_isSheet; rw [m_in, bd2_s, gb01]
theorem m_isDiner {s : St} {dn : Nat} (h : s 1 2 = nI dn) (v : Int32) : fX9_isDiner v s = some (if 0 ≤ v ∧ v ≤ nI dn - 1 then 1 else 0, s) := by
  unfold fX9_isDiner; rw [ald1 (x := 2) (i := 2) rfl (by decide), bd1_s, h, m_in, bd2_s, gb01]
theorem rg {v : Int32} (hi : Nat) (h : 0 ≤ v ∧ v ≤ nI hi) (h2 : hi < 2 ^ 31) : ∃ n : Nat, n ≤ hi ∧ n < 2 ^ 31 ∧ v = nI n := by
  refine bt_ex ⟨?_, ?_⟩
  · have := i_le.mp h.1
    rw [show (0 : Int32).toInt = 0 by decide] at this; exact this
  · have := i_le.mp h.2
    rw [nI_toInt h2] at this; exact this
theorem rgd {v : Int32} {dn : Nat} (hd : dn ≤ 8) (h : 0 ≤ v ∧ v ≤ nI dn - 1) : ∃ k : Nat, k < dn ∧ k < 8 ∧ v = nI k := by
  have h1 := i_le.mp h.1
  have h2 := i_le.mp h.2
  rw [show (0 : Int32).toInt = 0 by decide] at h1
  have e : (nI dn - 1).toInt = (dn : Int) - 1 := by
    rcases (show dn = 0 ∨ dn = 1 ∨ dn = 2 ∨ dn = 3 ∨ dn = 4 ∨ dn = 5 ∨ dn = 6 ∨ dn = 7 ∨ dn = 8 by omega) with rfl | rfl | rfl | rfl | rfl | rfl | rfl | rfl | rfl <;> decide
  rw [e] at h2
  have e2 : v.toInt.toNat < 2 ^ 31 := by omega
  exact ⟨v.toInt.toNat, by omega, by omega, i_eq.mpr (by rw [nI_toInt e2]; omega)⟩
theorem bt_of {v : Int32} {hi : Nat} (h : 0 ≤ v ∧ v ≤ nI hi) (h2 : hi < 2 ^ 31) : bt 0 hi v := by
  refine ⟨?_, ?_⟩
  · have := i_le.mp h.1
    rw [show (0 : Int32).toInt = 0 by decide] at this; exact this
  · have := i_le.mp h.2
    rw [nI_toInt h2] at this; exact this
/-- both answer alike, and stay alike -/
def OK2 (o1 o2 : Option (Int32 × St)) (m : Nat) : Prop := ∃ x σ' τ', o1 = some (x, σ') ∧ o2 = some (x, τ') ∧ Rel σ' τ' m
theorem ok_err {σ τ : St} {m : Nat} (r : Rel σ τ m) {k : Nat} (hk : 1 ≤ k ∧ k ≤ 5) {x y : Int32} (hx : x = nI k) (hy : y = (-1000000000) - nI k) : OK2 (fX8_error x σ) (fX9_errs y τ) m := by
  obtain ⟨σ', τ', h⟩ := r.err hk hx hy
  exact ⟨y, σ', τ', h⟩
theorem ok_e1 {σ τ : St} {m : Nat} (r : Rel σ τ m) : OK2 (fX8_error 1 σ) (fX9_errs (-1000000001) τ) m := ok_err r (k := 1) (by decide) rfl (by decide)
theorem ok_e2 {σ τ : St} {m : Nat} (r : Rel σ τ m) : OK2 (fX8_error 2 σ) (fX9_errs (-1000000002) τ) m := ok_err r (k := 2) (by decide) rfl (by decide)
theorem ok_e3 {σ τ : St} {m : Nat} (r : Rel σ τ m) : OK2 (fX8_error 3 σ) (fX9_errs (-1000000003) τ) m := ok_err r (k := 3) (by decide) rfl (by decide)
theorem ok_e4 {σ τ : St} {m : Nat} (r : Rel σ τ m) : OK2 (fX8_error 4 σ) (fX9_errs (-1000000004) τ) m := ok_err r (k := 4) (by decide) rfl (by decide)
theorem ok_e5 {σ τ : St} {m : Nat} (r : Rel σ τ m) : OK2 (fX8_error 5 σ) (fX9_errs (-1000000005) τ) m := ok_err r (k := 5) (by decide) rfl (by decide)
theorem ok_if {σ τ : St} {m : Nat} {p : Prop} [Decidable p] {A B A' B' : Option (Int32 × St)} (h1 : p → OK2 A A' m) (h2 : ¬ p → OK2 B B' m) : OK2 (if p then A else B) (if p then A' else B') m := by
  by_cases h : p
  · rw [if_pos h, if_pos h]; exact h1 h
  · rw [if_neg h, if_neg h]; exact h2 h
theorem ok_some {σ τ : St} {m : Nat} (x : Int32) (r : Rel σ τ m) : OK2 (some (x, σ)) (some (x, τ)) m := ⟨x, σ, τ, rfl, rfl, r⟩
theorem ok_some2 {σ τ : St} {m : Nat} {x y : Int32} (h : x = y) (r : Rel σ τ m) : OK2 (some (x, σ)) (some (y, τ)) m := ⟨x, σ, τ, rfl, by rw [h], r⟩
theorem FM.u1 {s : St} {j : Nat} (hj : j < 87) (hn : j ≠ 1 ∧ j ≠ 5 ∧ j ≠ 6 ∧ j ≠ 7 ∧ j ≠ 8) (v : Int32) : FM s (u2 s 1 j v) := (FrD.u1 hj hn v).M
theorem becomes_eq {s : St} {i : Nat} {x v : Int32} (hx : x = nI i) (hi : i < 257) : fX9_becomes x v s = some (s 1 i, u2 s 1 i v) := by
  unfold fX9_becomes
  rw [ald1 hx hi, bd1_s, ast1 hx hi, bd1_s]
theorem replaced_eq {s : St} {q n i : Nat} {x v : Int32} (hx : x = nI i) (hi : i < n) (hn : n ≤ 2 ^ 31) : fX8_replaced q n x v s = some (s q i, u2 s q i v) := by
  subst hx
  unfold fX8_replaced
  rw [ald_i hi hn, bd1_s, ast_i hi hn, bd1_s]
theorem CLC.u2c {σ : St} {T : Tx} (p : CLC σ T) {k j : Nat} (hk : k ≠ 16 ∧ k ≠ 17 ∧ k ≠ 18 ∧ k ≠ 19 ∧ k ≠ 51) (v : Int32) : CLC (u2 σ k j v) T := p.fr (u2_ne (by omega)) (u2_ne (by omega)) (u2_ne (by omega)) (u2_ne (by omega)) (u2_ne (by omega))
/-! the acts: dishes, the house -/
theorem op_dish {σ τ : St} {m : Nat} (r : Rel σ τ m) (a b c : Int32) : OK2 (fX8_dish a b c σ) (fX9_dish a b c τ) m := by
  unfold fX8_dish fX9_dish
  simp only [jn, c_isDish, c_within, m_isDish, m_in, bd2_s, gi0, bd2_eta]
  refine ok_if (σ := σ) (τ := τ) (fun h1 => ok_if (σ := σ) (τ := τ) (fun h2 => ok_if (σ := σ) (τ := τ) (fun h3 => ?_) (fun _ => ok_e1 r)) (fun _ => ok_e1 r)) (fun _ => ok_e1 r)
  obtain ⟨h, T, dn, n0, rest⟩ := r
  obtain ⟨a1, a2, a3, a4, a5, a6, a7, a8⟩ := id n0
  obtain ⟨i, hi, -, rfl⟩ := rg 15 h1 (by decide)
  have hv := bt_of (hi := 9) h3 (by decide)
  obtain ⟨w, hw, -, rfl⟩ := rg 1 h2 (by decide)
  rcases (show w = 0 ∨ w = 1 by omega) with rfl | rfl
  · rw [if_pos (show nI 0 = (0 : Int32) from rfl), replaced_eq (i := i) rfl (by omega) (by decide), becomes_eq (i := 9 + 2 * i) (by rw [l9, l2, pk_mul, nI_add, nI_add]; rfl) (by omega)]
    exact ⟨_, _, _, rfl, by rw [(a2.2.1 i (by omega)).1, a1.1.1 i (by omega)], Rel.go n0 rest (FC.u (by omega) _) (FM.u1 (by omega) (by omega) _) (a1.set0 (k := i) c) (a2.sw (by omega) c) (a3.set0 hv) (a5.u2c (by decide) _) (a6.u1 (by omega) (by omega) _)⟩
  · rw [if_neg (show ¬ nI 1 = (0 : Int32) by decide), replaced_eq (i := i) rfl (by omega) (by decide), becomes_eq (i := 9 + 2 * i + 1) (by rw [l9, l2, pk_mul, nI_add, nI_add]) (by omega)]
    exact ⟨_, _, _, rfl, by rw [(a2.2.1 i (by omega)).2, a1.1.2.1 i (by omega)], Rel.go n0 rest (FC.u (by omega) _) (FM.u1 (by omega) (by omega) _) (a1.set1 (k := i) c) (a2.ft (by omega) c) (a3.set1 hv) (a5.u2c (by decide) _) (a6.u1 (by omega) (by omega) _)⟩
/-- the courses that a dish is, as a set -/
def crs (h : Hs) (d : Int32) : Nat → Int32
  | 0 => 0
  | n + 1 => if h 2 n = d then crs h d n ||| shl 1 (nI n) else crs h d n
theorem c_courses4 {h : Hs} {σ : St} {b : Nat} (hH : CH σ b h) (d : Int32) : ∀ (n c f : Nat), c + n = 6 → n < f → fX0_coursesOf_4 b d f (crs h d c) (nI c) σ = some (crs h d 6, σ)
  | n, c, 0, _, hf => absurd hf (Nat.not_lt_zero _)
  | 0, c, f + 1, hc, _ => by
    have : c = 6 := by omega
    subst this
    rw [fX0_coursesOf_4, if_pos (show (6 : Int32) ≤ nI 6 by decide)]
  | n + 1, c, f + 1, hc, hf => by
    rw [fX0_coursesOf_4, if_neg (show ¬ (6 : Int32) ≤ nI c from nI_ge (b := 6) (by omega) (by decide)), ald_i (by omega) (by decide), bd1_s, hH.1.2.2.1 c (by omega)]
    simp only [jn]
    have ih := c_courses4 hH d n (c + 1) f (by omega) (by omega)
    rw [nI_1]
    by_cases q : h 2 c = d
    · rw [if_pos q]
      simp only [crs, if_pos q] at ih; exact ih
    · rw [if_neg q]
      simp only [crs, if_neg q] at ih; exact ih
theorem m_courses4 {h : Hs} {s : St} (hH : MH (s 1) h) (d : Int32) : ∀ (n c f : Nat), c + n = 6 → n < f → fX9_coursesOf_4 d f (crs h d c) (nI c) s = some (crs h d 6, s)
  | n, c, 0, _, hf => absurd hf (Nat.not_lt_zero _)
  | 0, c, f + 1, hc, _ => by
    have : c = 6 := by omega
    subst this
    rw [fX9_coursesOf_4, if_pos (show (6 : Int32) ≤ nI 6 by decide)]
  | n + 1, c, f + 1, hc, hf => by
    rw [fX9_coursesOf_4, if_neg (show ¬ (6 : Int32) ≤ nI c from nI_ge (b := 6) (by omega) (by decide)), l41, nI_add, ald_i (by omega) (by decide), bd1_s, hH.2.2.1 c (by omega)]
    simp only [jn]
    have ih := m_courses4 hH d n (c + 1) f (by omega) (by omega)
    rw [nI_1]
    by_cases q : h 2 c = d
    · rw [if_pos q]
      simp only [crs, if_pos q] at ih; exact ih
    · rw [if_neg q, show crs h d c ||| 0 = crs h d c by simp]
      simp only [crs, if_neg q] at ih; exact ih
theorem c_courses {h : Hs} {σ : St} {b : Nat} (hH : CH σ b h) (d : Int32) : fX0_coursesOf b d σ = some (crs h d 6, σ) := by
  have e := c_courses4 hH d 6 0 FU rfl (FU_lt (by omega))
  unfold fX0_coursesOf
  rw [show fX0_coursesOf_4 b d FU 0 0 σ = some (crs h d 6, σ) from e, bd2_s]
theorem m_courses {h : Hs} {s : St} (hH : MH (s 1) h) (d : Int32) : fX9_coursesOf d s = some (crs h d 6, s) := by
  have e := m_courses4 hH d 6 0 FU rfl (FU_lt (by omega))
  unfold fX9_coursesOf
  rw [show fX9_coursesOf_4 d FU 0 0 s = some (crs h d 6, s) from e, bd2_s]
theorem op_ofDish {σ τ : St} {m : Nat} (r : Rel σ τ m) (a b : Int32) : OK2 (fX8_ofDish a b σ) (fX9_ofDish a b τ) m := by
  unfold fX8_ofDish fX9_ofDish
  simp only [jn, c_isDish, c_within, m_isDish, m_in, bd2_s, gi0, bd2_eta]
  refine ok_if (σ := σ) (τ := τ) (fun h1 => ok_if (σ := σ) (τ := τ) (fun h2 => ?_) (fun _ => ok_e1 r)) (fun _ => ok_e1 r)
  have r0 := r
  obtain ⟨h, T, dn, n0, rest⟩ := r
  obtain ⟨a1, a2, a3, a4, a5, a6, a7, a8⟩ := id n0
  obtain ⟨i, hi, -, rfl⟩ := rg 15 h1 (by decide)
  obtain ⟨w, hw, -, rfl⟩ := rg 2 h2 (by decide)
  rcases (show w = 0 ∨ w = 1 ∨ w = 2 by omega) with rfl | rfl | rfl
  · rw [if_pos (show nI 0 = (0 : Int32) from rfl), if_neg (show ¬ (2 : Int32) ≤ nI 0 by decide), ald_i (by omega) (by decide), bd1_s, ald1 (i := 9 + 2 * i) (by rw [l9, l2, pk_mul, nI_add, nI_add]; rfl) (by omega), bd1_s, (a2.2.1 i (by omega)).1, a1.1.1 i (by omega)]
    exact ok_some _ r0
  · rw [if_neg (show ¬ nI 1 = (0 : Int32) by decide), if_pos (show nI 1 = (1 : Int32) from rfl), if_neg (show ¬ (2 : Int32) ≤ nI 1 by decide), ald_i (by omega) (by decide), bd1_s, ald1 (i := 9 + 2 * i + 1) (by rw [l9, l2, pk_mul, nI_add, nI_add]) (by omega), bd1_s, (a2.2.1 i (by omega)).2, a1.1.2.1 i (by omega)]
    exact ok_some _ r0
  · rw [if_neg (show ¬ nI 2 = (0 : Int32) by decide), if_neg (show ¬ nI 2 = (1 : Int32) by decide), if_pos (show (2 : Int32) ≤ nI 2 by decide), c_courses a1, m_courses a2]
    exact ok_some _ r0
theorem op_menu {σ τ : St} {m : Nat} (r : Rel σ τ m) (a b : Int32) : OK2 (fX8_menu a b σ) (fX9_menu a b τ) m := by
  unfold fX8_menu fX9_menu
  simp only [jn, c_isCourse, c_isDish, m_isCourse, m_isDish, bd2_s, gi0, bd2_eta]
  refine ok_if (σ := σ) (τ := τ) (fun h1 => ?_) (fun _ => ok_e1 r)
  have r0 := r
  obtain ⟨h, T, dn, n0, rest⟩ := r
  obtain ⟨a1, a2, a3, a4, a5, a6, a7, a8⟩ := id n0
  obtain ⟨i, hi, -, rfl⟩ := rg 5 h1 (by decide)
  by_cases h2 : b = -1
  · subst h2
    rw [if_pos rfl, if_pos rfl, if_pos rfl, if_neg (by decide), ald_i (by omega) (by decide), bd1_s, l41, nI_add, ald_i (by omega) (by decide), bd1_s, becomes_eq (i := 41 + i) rfl (by omega)]
    refine ⟨_, _, _, rfl, by rw [a2.2.2.1 i (by omega), a1.1.2.2.1 i (by omega)], Rel.go n0 rest (FC.rf σ) (FM.u1 (by omega) (by omega) _) a1 ?_ a3 a5 (a6.u1 (by omega) (by omega) _)⟩
    refine a2.of (fun j _ => ?_)
    by_cases q : j = 41 + i
    · subst q; rw [u2_same, a2.2.2.1 i (by omega)]
    · rw [u2_slot q]
  · rw [if_neg h2, if_neg h2, if_neg h2]
    refine ok_if (σ := σ) (τ := τ) (fun h3 => ?_) (fun _ => ok_e1 r0)
    rw [if_pos h3.1, replaced_eq (i := i) rfl (by omega) (by decide), l41, nI_add, becomes_eq (i := 41 + i) rfl (by omega)]
    exact ⟨_, _, _, rfl, by rw [a2.2.2.1 i (by omega), a1.1.2.2.1 i (by omega)], Rel.go n0 rest (FC.u (by omega) _) (FM.u1 (by omega) (by omega) _) (a1.set2 (k := i) b) (a2.sv (by omega) b) (a3.set2 (bt_of (hi := 15) h3 (by decide))) (a5.u2c (by decide) _) (a6.u1 (by omega) (by omega) _)⟩
theorem op_house {σ τ : St} {m : Nat} (r : Rel σ τ m) (a b : Int32) : OK2 (fX8_house a b σ) (fX9_house a b τ) m := by
  unfold fX8_house fX9_house
  simp only [jn, c_within, m_in, bd2_s, gi0, bd2_eta, ptf, bd1_s]
  have r0 := r
  obtain ⟨h, T, dn, n0, rest⟩ := r
  obtain ⟨a1, a2, a3, a4, a5, a6, a7, a8⟩ := id n0
  by_cases h1 : a = 0
  · subst h1
    rw [if_pos (by decide), if_pos rfl, if_pos rfl]
    refine ok_if (σ := σ) (τ := τ) (fun h2 => ?_) (fun _ => ok_e1 r0)
    rw [becomes_eq (x := 3 + 0) (i := 3) (by decide) (by decide)]
    exact ⟨_, _, _, rfl, by rw [a2.1.2.2.1, a1.2.1], Rel.go n0 rest (FC.u (by omega) _) (FM.u1 (by omega) (by omega) _) (a1.set8 (k := 0) (by decide) b) (a2.rm b) (a3.set80 (bt_of (hi := 40) h2 (by decide))) (a5.u2c (by decide) _) (a6.u1 (by omega) (by omega) _)⟩
  · rw [if_neg h1, if_neg h1]
    by_cases h2 : a = 1
    · subst h2
      rw [if_pos (by decide), if_pos rfl]
      simp only [if_pos (show (0 : Int32) = 0 from rfl), if_neg (show ¬ (1 : Int32) = 0 by decide)]
      refine ok_if (σ := σ) (τ := τ) (fun h3 => ?_) (fun _ => ok_e1 r0)
      rw [becomes_eq (x := 3 + 1) (i := 4) (by decide) (by decide)]
      exact ⟨_, _, _, rfl, by rw [a2.1.2.2.2, a1.2.2.1], Rel.go n0 rest (FC.u (by omega) _) (FM.u1 (by omega) (by omega) _) (a1.set8 (k := 1) (by decide) b) (a2.set4 b) (a3.set81 (bt_of (hi := 99999) h3 (by decide))) (a5.u2c (by decide) _) (a6.u1 (by omega) (by omega) _)⟩
    · rw [if_neg h2, if_neg (fun q => by
        obtain ⟨w, hw, -, e⟩ := rg 1 q (by decide)
        rcases (show w = 0 ∨ w = 1 by omega) with rfl | rfl
        · exact h1 e
        · exact h2 e), if_neg h1, if_pos trivial]
      exact ok_e1 r0
