/-! from the kit: families that are there to paste -/
theorem fb_rng (x : Int32) : -2147483648 ≤ x.toInt ∧ x.toInt < 2147483648 := by
  have h1 := Int32.le_toInt x
  have h2 := Int32.toInt_lt x
  omega
theorem fb_bmod {z : Int} (h1 : -2147483648 ≤ z) (h2 : z < 2147483648) : z.bmod (2 ^ 32) = z := by
  rw [Int.bmod_eq_of_le (by omega) (by omega)]
theorem fb_addI {x y : Int32} (h1 : -2147483648 ≤ x.toInt + y.toInt) (h2 : x.toInt + y.toInt < 2147483648) : (x + y).toInt = x.toInt + y.toInt := by
  rw [Int32.toInt_add, fb_bmod h1 h2]
theorem fb_subI {x y : Int32} (h1 : -2147483648 ≤ x.toInt - y.toInt) (h2 : x.toInt - y.toInt < 2147483648) : (x - y).toInt = x.toInt - y.toInt := by
  rw [Int32.toInt_sub, fb_bmod h1 h2]
theorem fb_mulI {x y : Int32} (h1 : -2147483648 ≤ x.toInt * y.toInt) (h2 : x.toInt * y.toInt < 2147483648) : (x * y).toInt = x.toInt * y.toInt := by
  rw [Int32.toInt_mul, fb_bmod h1 h2]

/-! numbers within bounds -/
def bt (lo hi : Int) (x : Int32) : Prop := lo ≤ x.toInt ∧ x.toInt ≤ hi
theorem bt.mono {a b a' b' : Int} {x : Int32} (h : bt a b x) (h1 : a' ≤ a) (h2 : b ≤ b') : bt a' b' x := ⟨Int.le_trans h1 h.1, Int.le_trans h.2 h2⟩
theorem bt_nI {n : Nat} {hi : Int} (h : (n : Int) ≤ hi) (h2 : n < 2 ^ 31) : bt 0 hi (nI n) := by
  unfold bt; rw [nI_toInt h2]; omega
theorem i_lt {x y : Int32} : x < y ↔ x.toInt < y.toInt := Int32.lt_iff_toInt_lt
theorem i_le {x y : Int32} : x ≤ y ↔ x.toInt ≤ y.toInt := Int32.le_iff_toInt_le
theorem i_eq {x y : Int32} : x = y ↔ x.toInt = y.toInt := Int32.toInt_inj.symm
theorem bt_ex {hi : Nat} {x : Int32} (h : bt 0 hi x) : ∃ n : Nat, n ≤ hi ∧ n < 2 ^ 31 ∧ x = nI n := by
  have hr := fb_rng x
  have h1 := h.1
  have h2 := h.2
  have e2 : x.toInt.toNat < 2 ^ 31 := by omega
  refine ⟨x.toInt.toNat, by omega, e2, i_eq.mpr ?_⟩
  rw [nI_toInt e2]; omega
theorem bt_cl {hi : Nat} {x : Int32} (h : bt 0 hi x) : x.toNatClampNeg ≤ hi ∧ x = nI x.toNatClampNeg := by
  obtain ⟨n, h1, h2, rfl⟩ := bt_ex h
  rw [nI_clamp h2]
  exact ⟨h1, rfl⟩
theorem ixb_nI {i n : Nat} (h : i < n) (h2 : n ≤ 2 ^ 31) : ixb (nI i) n = true := by
  have hi : i < 2 ^ 31 := by omega
  unfold ixb
  rw [nI_clamp hi]
  refine decide_eq_true ?_
  intro q
  rcases q with q | q
  · exact nI_pos hi q
  · omega
theorem ixb_bt {x : Int32} {n : Nat} (h : bt 0 ((n : Int) - 1) x) : ixb x n = true := by
  have hr := fb_rng x
  have h1 := h.1
  have h2 := h.2
  have e2 : x.toInt.toNat < 2 ^ 31 := by omega
  have e : x = nI x.toInt.toNat := i_eq.mpr (by rw [nI_toInt e2]; omega)
  rw [e]
  unfold ixb
  rw [nI_clamp e2]
  refine decide_eq_true ?_
  intro q
  rcases q with q | q
  · exact nI_pos e2 q
  · omega
theorem ald_i {s : St} {q n i : Nat} (h : i < n) (h2 : n ≤ 2 ^ 31) : ald s q n (nI i) = some (s q i) := by
  unfold ald; rw [if_pos (ixb_nI h h2), nI_clamp (by omega)]
theorem ald_b {s : St} {q n : Nat} {x : Int32} (h : bt 0 ((n : Int) - 1) x) : ald s q n x = some (s q x.toNatClampNeg) := by
  unfold ald; rw [if_pos (ixb_bt h)]
theorem ast_i {s : St} {q n i : Nat} {v : Int32} (h : i < n) (h2 : n ≤ 2 ^ 31) : ast s q n (nI i) v = some (u2 s q i v) := by
  unfold ast; rw [if_pos (ixb_nI h h2), nI_clamp (by omega)]
theorem ast_b {s : St} {q n : Nat} {x v : Int32} (h : bt 0 ((n : Int) - 1) x) : ast s q n x v = some (u2 s q x.toNatClampNeg v) := by
  unfold ast; rw [if_pos (ixb_bt h)]
theorem bast_i {s : St} {q n i : Nat} {v : Int32} (h : i < n) (h2 : n ≤ 2 ^ 31) : bast s q n (nI i) v = some (u2 s q i (i8 v)) := by
  unfold bast; rw [if_pos (ixb_nI h h2), nI_clamp (by omega)]
/-! reading a state that was written -/
theorem uA_same (s : St) (q : Nat) (f : Nat → Int32) : uA s q f q = f := by simp [uA]
theorem uA_ne {s : St} {q r : Nat} (f : Nat → Int32) (h : r ≠ q) : uA s q f r = s r := by simp [uA, h]
theorem u2_ne {s : St} {q r j : Nat} {v : Int32} (h : r ≠ q) : u2 s q j v r = s r := by simp [u2, uA, h]
theorem u2_same (s : St) (q j : Nat) (v : Int32) : u2 s q j v q j = v := by simp [u2, uA, upd]
theorem u2_slot {s : St} {q i j : Nat} {v : Int32} (h : i ≠ j) : u2 s q j v q i = s q i := by simp [u2, uA, upd, h]
theorem u2_at (s : St) (q j : Nat) (v : Int32) (r i : Nat) : u2 s q j v r i = if r = q then (if i = j then v else s r i) else s r i := by
  by_cases h : r = q
  · subst h; simp [u2, uA, upd]
  · simp [u2, uA, h]
/-! least and most -/
theorem imn_I (x y : Int32) : (imn x y).toInt = if y.toInt < x.toInt then y.toInt else x.toInt := by
  unfold imn
  by_cases h : y < x
  · rw [if_pos h, if_pos (i_lt.mp h)]
  · rw [if_neg h, if_neg (fun q => h (i_lt.mpr q))]
theorem imx_I (x y : Int32) : (imx x y).toInt = if x.toInt < y.toInt then y.toInt else x.toInt := by
  unfold imx
  by_cases h : x < y
  · rw [if_pos h, if_pos (i_lt.mp h)]
  · rw [if_neg h, if_neg (fun q => h (i_lt.mpr q))]
theorem add_I {x y : Int32} {a b c d : Int} (hx : bt a b x) (hy : bt c d y) (h1 : -2147483648 ≤ a + c := by omega) (h2 : b + d < 2147483648 := by omega) : (x + y).toInt = x.toInt + y.toInt := fb_addI (by have := hx.1; have := hy.1; omega) (by have := hx.2; have := hy.2; omega)
theorem sub_I {x y : Int32} {a b c d : Int} (hx : bt a b x) (hy : bt c d y) (h1 : -2147483648 ≤ a - d := by omega) (h2 : b - c < 2147483648 := by omega) : (x - y).toInt = x.toInt - y.toInt := fb_subI (by have := hx.1; have := hy.2; omega) (by have := hx.2; have := hy.1; omega)
theorem lit_I {n : Nat} (h : n < 2 ^ 31) : ((OfNat.ofNat n : Int32)).toInt = (n : Int) := nI_toInt h
theorem FU_lt {n : Nat} (h : n ≤ 2050) : n < FU := by unfold FU; omega
