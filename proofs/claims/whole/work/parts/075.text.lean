/-! texts: what the codes mean -/
def jnd (o x y : Int32) : Int32 :=
  if o = 38 then (if x = 0 then 0 else if y = 0 then 0 else 1)
  else if o = 42 then x * y
  else if o = 43 then x + y
  else if o = 45 then x - y
  else if o = 47 then (if y = 0 then 0 else x / y)
  else if o = 60 then (if y ≤ x then 0 else 1)
  else if o = 61 then (if x = y then 1 else 0)
  else if o = 62 then (if x ≤ y then 0 else 1)
  else if o = 124 then (if x = 0 then (if y = 0 then 0 else 1) else 1)
  else (if y = 0 then 0 else irm x y)
theorem joined_eq (o x y : Int32) (s : St) : fX2_joined o x y s = some (jnd o x y, s) := by
  unfold fX2_joined jnd
  simp only [jn]
  by_cases h1 : o = 38
  · rw [if_pos h1, if_pos h1]
    by_cases a : x = 0
    · rw [if_pos a, if_pos a]
    · rw [if_neg a, if_neg a]
      by_cases b : y = 0
      · rw [if_pos b, if_pos b]
      · rw [if_neg b, if_neg b]
  rw [if_neg h1, if_neg h1]
  by_cases h2 : o = 42
  · rw [if_pos h2, if_pos h2]
  rw [if_neg h2, if_neg h2]
  by_cases h3 : o = 43
  · rw [if_pos h3, if_pos h3]
  rw [if_neg h3, if_neg h3]
  by_cases h4 : o = 45
  · rw [if_pos h4, if_pos h4]
  rw [if_neg h4, if_neg h4]
  by_cases h5 : o = 47
  · rw [if_pos h5, if_pos h5]
    by_cases b : y = 0
    · rw [if_pos b, if_pos b]
    · rw [if_neg b, if_neg b]; unfold gz; rw [if_neg b]
  rw [if_neg h5, if_neg h5]
  by_cases h6 : o = 60
  · rw [if_pos h6, if_pos h6]
    by_cases b : y ≤ x
    · rw [if_pos b, if_pos b]
    · rw [if_neg b, if_neg b]
  rw [if_neg h6, if_neg h6]
  by_cases h7 : o = 61
  · rw [if_pos h7, if_pos h7]
    by_cases b : x = y
    · rw [if_pos b, if_pos b]
    · rw [if_neg b, if_neg b]
  rw [if_neg h7, if_neg h7]
  by_cases h8 : o = 62
  · rw [if_pos h8, if_pos h8]
    by_cases b : x ≤ y
    · rw [if_pos b, if_pos b]
    · rw [if_neg b, if_neg b]
  rw [if_neg h8, if_neg h8]
  by_cases h9 : o = 124
  · rw [if_pos h9, if_pos h9]
    by_cases a : x = 0
    · rw [if_pos a, if_pos a]
      by_cases b : y = 0
      · rw [if_pos b, if_pos b]
      · rw [if_neg b, if_neg b]
    · rw [if_neg a, if_neg a]
  rw [if_neg h9, if_neg h9]
  by_cases b : y = 0
  · rw [if_pos b, if_pos b]
  · rw [if_neg b, if_neg b]; unfold gz; rw [if_neg b]
def opd (v a b c : Int32) : Int32 := if v = -3 then c else if v = -2 then b else if v = -1 then a else v
theorem operand_eq (v a b c : Int32) (s : St) : fX2_operand v a b c s = some (opd v a b c, s) := by
  unfold fX2_operand opd
  by_cases h1 : v = -3
  · rw [if_pos h1, if_pos h1]
  rw [if_neg h1, if_neg h1]
  by_cases h2 : v = -2
  · rw [if_pos h2, if_pos h2]
  rw [if_neg h2, if_neg h2]
  by_cases h3 : v = -1
  · rw [if_pos h3, if_pos h3]
  rw [if_neg h3, if_neg h3]
/-- codes on a stack, its top first -/
def ex1 (v a b c : Int32) (st : List Int32) : List Int32 :=
  if v < -3 then
    (if v = -33 then (match st with | x :: r => (if x = 0 then 1 else 0) :: r | [] => [])
     else match st with | y :: x :: r => jnd (-v) x y :: r | r => r)
  else opd v a b c :: st
def exs (a b c : Int32) : List Int32 → List Int32 → List Int32
  | [], st => st
  | v :: cs, st => exs a b c cs (ex1 v a b c st)
theorem exs_app (a b c : Int32) : ∀ (x y : List Int32) (st : List Int32), exs a b c (x ++ y) st = exs a b c y (exs a b c x st)
  | [], y, st => rfl
  | v :: x, y, st => by rw [List.cons_append, exs, exs_app a b c x y, exs]
/-- codes that work out a value -/
def Rn (cs : List Int32) (ev : Int32 → Int32 → Int32 → Int32) : Prop := ∀ a b c st, exs a b c cs st = ev a b c :: st
theorem Rn.op {x y : List Int32} {e f : Int32 → Int32 → Int32 → Int32} (h1 : Rn x e) (h2 : Rn y f) {v : Int32} (hv : v < -3) (hn : v ≠ -33) : Rn (x ++ y ++ [v]) (fun a b c => jnd (-v) (e a b c) (f a b c)) := by
  intro a b c st
  rw [exs_app, exs_app, h1, h2, exs, ex1, if_pos hv, if_neg hn, exs]
theorem Rn.nt {x : List Int32} {e : Int32 → Int32 → Int32 → Int32} (h1 : Rn x e) : Rn (x ++ [-33]) (fun a b c => if e a b c = 0 then 1 else 0) := by
  intro a b c st
  rw [exs_app, h1, exs, ex1, if_pos (by decide), if_pos rfl, exs]
theorem Rn.one {v : Int32} (hv : ¬ v < -3) : Rn [v] (fun a b c => opd v a b c) := by
  intro a b c st
  rw [exs]; unfold ex1; rw [if_neg hv, exs]
/-- no code makes the stack longer than by one -/
theorem ex1_len (v a b c : Int32) (st : List Int32) : (ex1 v a b c st).length ≤ st.length + 1 := by
  unfold ex1
  split
  · split
    · cases st with
      | nil => simp
      | cons x r => simp
    · match st with
      | [] => simp
      | [_] => simp
      | y :: x :: r => simp
  · simp
/-- the stack as it lies in the row: its bottom first -/
def SK (s : St) (st : List Int32) : Prop := ∀ i (h : i < st.length), s 50 (st.length - 1 - i) = st[i]
theorem i_m3 : ¬ ((-3 : Int32) < -3) := by decide
theorem wo_loop {b N : Nat} (hN : N ≤ 50) (hrl : rl b = 50) (hb : b ≠ 50) (hb1 : b + 1 ≠ 50) (u a b' c : Int32) (cs0 : List Int32) (hc : cs0.length = N) : ∀ (cs : List Int32) (i f : Nat) (s : St) (st : List Int32), i + cs.length = N → (∀ j (h : j < cs.length), cs0[i + j]? = some cs[j]) → s b 1 = nI N → (∀ j, j < N → cs0[j]? = some (s (b + 1) j)) → cs.length < f → st.length ≤ i → SK s st → ∃ t, fX2_workedOut_23 u a b' c b f (nI st.length) (nI i) s = some (nI (exs a b' c cs st).length, t) ∧ SK t (exs a b' c cs st) ∧ ∀ k, k ≠ 50 → t k = s k
  | cs, i, 0, _, _, _, _, _, _, hf, _, _ => absurd hf (Nat.not_lt_zero _)
  | [], i, f + 1, s, st, hi, _, hs, _, _, _, hk => by
    have : i = N := by simpa using hi
    subst this
    rw [fX2_workedOut_23, hs, if_pos (nI_le (Nat.le_refl _) (by omega)), exs]
    exact ⟨s, rfl, hk, fun _ _ => rfl⟩
  | v :: cs, i, f + 1, s, st, hi, hcs, hs, hr, hf, hst, hk => by
    have hl : (v :: cs).length = cs.length + 1 := rfl
    have hiN : i < N := by omega
    have e0 : s (b + 1) i = v := by
      have h1 := hcs 0 (by omega)
      have h2 := hr i hiN
      rw [Nat.add_zero] at h1
      rw [h1] at h2
      injection h2 with h2
      exact h2.symm
    have nx : ∀ j (h : j < cs.length), cs0[i + 1 + j]? = some cs[j] := fun j h => by
      have := hcs (j + 1) (by omega)
      rw [show i + 1 + j = i + (j + 1) by omega, this]; rfl
    have go : ∀ (s1 : St) (st1 : List Int32), st1.length ≤ st.length + 1 → SK s1 st1 → (∀ k, k ≠ 50 → s1 k = s k) → st1 = ex1 v a b' c st → ∃ t, fX2_workedOut_23 u a b' c b f (nI st1.length) (nI i + 1) s1 = some (nI (exs a b' c (v :: cs) st).length, t) ∧ SK t (exs a b' c (v :: cs) st) ∧ ∀ k, k ≠ 50 → t k = s k := by
      intro s1 st1 hl1 hk1 hf1 he
      rw [nI_1]
      obtain ⟨t, e, h1, h2⟩ := wo_loop hN hrl hb hb1 u a b' c cs0 hc cs (i + 1) f s1 st1 (by omega) nx (by rw [hf1 b hb]; exact hs) (fun j hj => by rw [hf1 (b + 1) hb1]; exact hr j hj) (by omega) (by omega) hk1
      refine ⟨t, ?_, ?_, fun k hk => (h2 k hk).trans (hf1 k hk)⟩
      · rw [e, exs, he]
      · rw [exs, ← he]; exact h1
    rw [fX2_workedOut_23, hs, if_neg (nI_ge hiN (by omega)), hrl, ald_i (show i < 50 by omega) (by decide), bd1_s, e0]
    simp only [jn]
    by_cases hv : v < -3
    · rw [if_pos hv]
      by_cases h33 : v = -33
      · rw [if_pos h33]
        match st, hst, hk, go with
        | [], hst, hk, go =>
          rw [if_pos (show nI ([] : List Int32).length < 1 by decide), if_pos (show nI ([] : List Int32).length < 2 by decide)]
          exact go s [] (by omega) hk (fun _ _ => rfl) (by unfold ex1; rw [if_pos hv, if_pos h33])
        | x :: r, hst, hk, go =>
          have hlen : (x :: r).length = r.length + 1 := rfl
          have ex : s 50 r.length = x := by
            have := hk 0 (by omega)
            rw [show (x :: r).length - 1 - 0 = r.length by omega] at this
            exact this
          rw [if_neg (show ¬ nI (x :: r).length < (1 : Int32) from fun z => by have := (nI_ltI (b := 1) (by omega) (by decide)).mp z; omega), show nI (x :: r).length - 1 = nI r.length by rw [hlen, ← nI_1, Int32.add_sub_cancel], ald_i (show r.length < 50 by omega) (by decide), bd1_s, ex]
          have fin : ∀ w : Int32, (if x = 0 then (1 : Int32) else 0) = w → ∃ t, (bd1 (ast s 50 50 (nI r.length) w) fun s19 => fX2_workedOut_23 u a b' c b f (nI (x :: r).length) (nI i + 1) s19) = some (nI (exs a b' c (v :: cs) (x :: r)).length, t) ∧ SK t (exs a b' c (v :: cs) (x :: r)) ∧ ∀ k, k ≠ 50 → t k = s k := by
            intro w hw
            rw [ast_i (show r.length < 50 by omega) (by decide), bd1_s]
            refine go (u2 s 50 r.length w) (w :: r) (by simp) (fun j hj => ?_) (fun k hk => u2_ne hk) (by unfold ex1; rw [if_pos hv, if_pos h33]; show w :: r = (if x = 0 then 1 else 0) :: r; rw [hw])
            cases j with
            | zero =>
              show u2 s 50 r.length w 50 (r.length + 1 - 1 - 0) = w
              rw [show r.length + 1 - 1 - 0 = r.length by omega, u2_same]
            | succ j =>
              have hj2 : j < r.length := by simpa using hj
              show u2 s 50 r.length w 50 (r.length + 1 - 1 - (j + 1)) = r[j]
              rw [u2_slot (by omega)]
              exact hk (j + 1) (by omega)
          by_cases x0 : x = 0
          · rw [if_pos x0]; exact fin 1 (by rw [if_pos x0])
          · rw [if_neg x0]; exact fin 0 (by rw [if_neg x0])
      · rw [if_neg h33]
        match st, hst, hk, go with
        | [], hst, hk, go =>
          rw [if_pos (show nI ([] : List Int32).length < 2 by decide)]
          exact go s [] (by omega) hk (fun _ _ => rfl) (by unfold ex1; rw [if_pos hv, if_neg h33])
        | [x], hst, hk, go =>
          rw [if_pos (show nI [x].length < 2 by show nI 1 < 2; decide)]
          exact go s [x] (by omega) hk (fun _ _ => rfl) (by unfold ex1; rw [if_pos hv, if_neg h33])
        | y :: x :: r, hst, hk, go =>
          have hlen : (y :: x :: r).length = r.length + 2 := rfl
          have ey : s 50 (r.length + 1) = y := by
            have := hk 0 (by omega)
            rw [show (y :: x :: r).length - 1 - 0 = r.length + 1 by omega] at this
            exact this
          have ex : s 50 r.length = x := by
            have := hk 1 (by omega)
            rw [show (y :: x :: r).length - 1 - 1 = r.length by omega] at this
            exact this
          rw [if_neg (show ¬ nI (y :: x :: r).length < (2 : Int32) from fun z => by have := (nI_ltI (b := 2) (by omega) (by decide)).mp z; omega), show nI (y :: x :: r).length + (-1) = nI (r.length + 1) from nI_m1 _, show nI (r.length + 1) - 1 = nI r.length by rw [← nI_1, Int32.add_sub_cancel], ald_i (show r.length < 50 by omega) (by decide), bd1_s, ald_i (show r.length + 1 < 50 by omega) (by decide), bd1_s, ex, ey, joined_eq, bd2_s, ast_i (show r.length < 50 by omega) (by decide), bd1_s]
          refine go (u2 s 50 r.length (jnd (-v) x y)) (jnd (-v) x y :: r) (by simp) (fun j hj => ?_) (fun k hk => u2_ne hk) (by unfold ex1; rw [if_pos hv, if_neg h33])
          cases j with
          | zero =>
            show u2 s 50 r.length (jnd (-v) x y) 50 (r.length + 1 - 1 - 0) = jnd (-v) x y
            rw [show r.length + 1 - 1 - 0 = r.length by omega, u2_same]
          | succ j =>
            have hj2 : j < r.length := by simpa using hj
            show u2 s 50 r.length (jnd (-v) x y) 50 (r.length + 1 - 1 - (j + 1)) = r[j]
            rw [u2_slot (by omega)]
            have := hk (j + 2) (by omega)
            rw [show (y :: x :: r).length - 1 - (j + 2) = r.length + 1 - 1 - (j + 1) by omega] at this
            exact this
    · rw [if_neg hv, if_neg (show ¬ (50 : Int32) ≤ nI st.length from nI_ge (b := 50) (by omega) (by decide)), operand_eq, bd2_s, ast_i (show st.length < 50 by omega) (by decide), bd1_s, nI_1]
      refine go (u2 s 50 st.length (opd v a b' c)) (opd v a b' c :: st) (by simp) (fun j hj => ?_) (fun k hk => u2_ne hk) (by unfold ex1; rw [if_neg hv])
      cases j with
      | zero =>
        show u2 s 50 st.length (opd v a b' c) 50 (st.length + 1 - 1 - 0) = opd v a b' c
        rw [show st.length + 1 - 1 - 0 = st.length by omega, u2_same]
      | succ j =>
        have hj2 : j < st.length := by simpa using hj
        show u2 s 50 st.length (opd v a b' c) 50 (st.length + 1 - 1 - (j + 1)) = st[j]
        rw [u2_slot (by omega), show st.length + 1 - 1 - (j + 1) = st.length - 1 - j by omega]
        exact hk j hj2
