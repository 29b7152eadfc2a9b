/-! the class: a house's cells, the laws and what they remember -/
def CH (σ : St) (b : Nat) (h : Hs) : Prop :=
  ((∀ j, j < 16 → σ (b + 1) j = h 0 j) ∧ (∀ j, j < 16 → σ (b + 2) j = h 1 j) ∧ (∀ j, j < 6 → σ (b + 3) j = h 2 j) ∧ (∀ j, j < 8 → σ (b + 4) j = h 3 j) ∧ (∀ j, j < 8 → σ (b + 5) j = h 4 j) ∧ (∀ j, j < 8 → σ (b + 6) j = h 5 j) ∧ (∀ j, j < 8 → σ (b + 7) j = h 6 j) ∧ (∀ j, j < 8 → σ (b + 8) j = h 7 j)) ∧
  (σ b 9 = h 8 0 ∧ σ b 10 = h 8 1 ∧ σ b 11 = h 8 2 ∧ σ b 12 = h 8 3)
/-- the laws work out T, whatever stands elsewhere -/
def TxU (p q r w : Nat → Int32) (u : Nat) (s : St) : Prop := (u = 0 → s 16 1 = p 1 ∧ ∀ i, i < (p 1).toNatClampNeg → s 17 i = q i) ∧ (u = 1 → s 18 1 = r 1 ∧ ∀ i, i < (r 1).toNatClampNeg → s 19 i = w i)
def CLg (p q r w : Nat → Int32) (T : Tx) : Prop := ∀ (u : Nat) (s : St), u ≤ 1 → TxU p q r w u s → ∀ (a b c : Int32), ∃ t, fX2_workedOut (nI u) a b c s = some (T u a b c, t) ∧ ∀ k, k ≠ 50 → t k = s k
def CL (σ : St) (T : Tx) : Prop := CLg (σ 16) (σ 17) (σ 18) (σ 19) T
theorem TxU.rf (u : Nat) (σ : St) : TxU (σ 16) (σ 17) (σ 18) (σ 19) u σ := ⟨fun _ => ⟨rfl, fun _ _ => rfl⟩, fun _ => ⟨rfl, fun _ _ => rfl⟩⟩
theorem CL.at {σ : St} {T : Tx} (h : CL σ T) (u : Nat) (a b c : Int32) (hu : u ≤ 1) : ∃ t, fX2_workedOut (nI u) a b c σ = some (T u a b c, t) ∧ ∀ k, k ≠ 50 → t k = σ k := h u σ hu (TxU.rf u σ) a b c
def cix (u : Nat) (a s g : Int32) : Nat := ((u * 9 + (a.toInt + 1).toNat) * 10 + s.toNatClampNeg) * 10 + g.toNatClampNeg
def CC (σ : St) (T : Tx) : Prop := ∀ (u : Nat) (a s g : Int32), u ≤ 1 → bt (-1) 7 a → bt 0 9 s → bt 0 9 g → σ 51 (cix u a s g) < 0 ∨ σ 51 (cix u a s g) = T u a s g
def CLC (σ : St) (T : Tx) : Prop := CL σ T ∧ CC σ T
/-- nothing but the laws' own rows has changed -/
def Fr (σ τ : St) : Prop := ∀ k, k ≠ 50 → k ≠ 51 → τ k = σ k
theorem Fr.rf (σ : St) : Fr σ σ := fun _ _ _ => rfl
theorem Fr.tr {a b c : St} (p : Fr a b) (q : Fr b c) : Fr a c := fun k h1 h2 => (q k h1 h2).trans (p k h1 h2)
theorem CL.fr {σ τ : St} {T : Tx} (h : CL σ T) (e1 : τ 16 = σ 16) (e2 : τ 17 = σ 17) (e3 : τ 18 = σ 18) (e4 : τ 19 = σ 19) : CL τ T := by
  unfold CL at h ⊢; rw [e1, e2, e3, e4]; exact h
theorem CC.fr {σ τ : St} {T : Tx} (h : CC σ T) (e : τ 51 = σ 51) : CC τ T := by intro u a s g; rw [e]; exact h u a s g
theorem CLC.fr {σ τ : St} {T : Tx} (h : CLC σ T) (e1 : τ 16 = σ 16) (e2 : τ 17 = σ 17) (e3 : τ 18 = σ 18) (e4 : τ 19 = σ 19) (e : τ 51 = σ 51) : CLC τ T := ⟨h.1.fr e1 e2 e3 e4, h.2.fr e⟩
theorem CH.fr {σ τ : St} {b : Nat} {h : Hs} (p : CH σ b h) (q : ∀ k, k ≤ 9 → τ (b + k) = σ (b + k)) : CH τ b h := by
  unfold CH at p ⊢
  rw [q 1 (by omega), q 2 (by omega), q 3 (by omega), q 4 (by omega), q 5 (by omega), q 6 (by omega), q 7 (by omega), q 8 (by omega), show τ b = σ b from q 0 (by omega)]
  exact p
theorem gix0 {u : Nat} {a : Int32} (hu : u ≤ 1) (ha : bt (-1) 7 a) : (nI u * 9 + a) - (-1) = nI (u * 9 + (a.toInt + 1).toNat) := by
  have h1 := ha.1
  have h2 := ha.2
  have key : ∀ z : Int32, a.toInt = z.toInt → a = z := fun z h => i_eq.mpr h
  rcases (show a.toInt = -1 ∨ a.toInt = 0 ∨ a.toInt = 1 ∨ a.toInt = 2 ∨ a.toInt = 3 ∨ a.toInt = 4 ∨ a.toInt = 5 ∨ a.toInt = 6 ∨ a.toInt = 7 by omega) with h | h | h | h | h | h | h | h | h
  · rw [key (-1) h]; rcases (show u = 0 ∨ u = 1 by omega) with rfl | rfl <;> decide
  · rw [key 0 h]; rcases (show u = 0 ∨ u = 1 by omega) with rfl | rfl <;> decide
  · rw [key 1 h]; rcases (show u = 0 ∨ u = 1 by omega) with rfl | rfl <;> decide
  · rw [key 2 h]; rcases (show u = 0 ∨ u = 1 by omega) with rfl | rfl <;> decide
  · rw [key 3 h]; rcases (show u = 0 ∨ u = 1 by omega) with rfl | rfl <;> decide
  · rw [key 4 h]; rcases (show u = 0 ∨ u = 1 by omega) with rfl | rfl <;> decide
  · rw [key 5 h]; rcases (show u = 0 ∨ u = 1 by omega) with rfl | rfl <;> decide
  · rw [key 6 h]; rcases (show u = 0 ∨ u = 1 by omega) with rfl | rfl <;> decide
  · rw [key 7 h]; rcases (show u = 0 ∨ u = 1 by omega) with rfl | rfl <;> decide
theorem l10 : (10 : Int32) = nI 10 := rfl
theorem gix {u : Nat} {a s g : Int32} (hu : u ≤ 1) (ha : bt (-1) 7 a) (hs : bt 0 9 s) (hg : bt 0 9 g) : (((((nI u * 9) + a) - (-1)) * 10) + s) * 10 + g = nI (cix u a s g) := by
  obtain ⟨-, es⟩ := bt_cl (hi := 9) hs
  obtain ⟨-, eg⟩ := bt_cl (hi := 9) hg
  rw [gix0 hu ha]
  unfold cix
  rw [es, eg, l10, pk_mul, nI_add, pk_mul, nI_add, ← es, ← eg]
theorem cix_lt {u : Nat} {a s g : Int32} (hu : u ≤ 1) (ha : bt (-1) 7 a) (hs : bt 0 9 s) (hg : bt 0 9 g) : cix u a s g < 1800 := by
  have h1 := (bt_cl (hi := 9) hs).1
  have h2 := (bt_cl (hi := 9) hg).1
  have := ha.1
  have := ha.2
  unfold cix
  omega
theorem cl_eq {x y : Int32} (hx : bt 0 9 x) (hy : bt 0 9 y) (h : x.toNatClampNeg = y.toNatClampNeg) : x = y := by
  rw [(bt_cl (hi := 9) hx).2, (bt_cl (hi := 9) hy).2, h]
theorem cix_inj {u u' : Nat} {a a' s s' g g' : Int32} (ha : bt (-1) 7 a) (ha' : bt (-1) 7 a') (hs : bt 0 9 s) (hs' : bt 0 9 s') (hg : bt 0 9 g) (hg' : bt 0 9 g') (h : cix u a s g = cix u' a' s' g') : u = u' ∧ a = a' ∧ s = s' ∧ g = g' := by
  have h1 := (bt_cl (hi := 9) hs).1
  have h2 := (bt_cl (hi := 9) hg).1
  have h1' := (bt_cl (hi := 9) hs').1
  have h2' := (bt_cl (hi := 9) hg').1
  have := ha.1
  have := ha.2
  have := ha'.1
  have := ha'.2
  unfold cix at h
  refine ⟨by omega, i_eq.mpr (by omega), cl_eq hs hs' (by omega), cl_eq hg hg' (by omega)⟩
theorem T_b {T : Tx} (hT : TB T) {u : Nat} (hu : u ≤ 1) (a b c : Int32) : bt 0 9 (T u a b c) := by
  rcases (show u = 0 ∨ u = 1 by omega) with rfl | rfl
  · exact (hT a b c).1.mono (by decide) (by decide)
  · exact (hT a b c).2
theorem i8_b {x : Int32} (h : bt 0 9 x) : i8 x = x := by
  obtain ⟨n, h1, h2, rfl⟩ := bt_ex (hi := 9) h
  rcases (show n = 0 ∨ n = 1 ∨ n = 2 ∨ n = 3 ∨ n = 4 ∨ n = 5 ∨ n = 6 ∨ n = 7 ∨ n = 8 ∨ n = 9 by omega) with rfl | rfl | rfl | rfl | rfl | rfl | rfl | rfl | rfl | rfl <;> decide
theorem given_eq {σ : St} {T : Tx} (hT : TB T) (hc : CLC σ T) {u : Nat} (hu : u ≤ 1) {x : Int32} (hx : x = nI u) (a : Int32) {s g : Int32} (hs : bt 0 9 s) (hg : bt 0 9 g) : ∃ τ, fX2_given x a s g σ = some (T u a s g, τ) ∧ CLC τ T ∧ Fr σ τ := by
  subst hx
  have plain : ∃ τ, (bd2 (fX2_workedOut (nI u) a s g σ) fun u3 s1 => some (u3, s1)) = some (T u a s g, τ) ∧ CLC τ T ∧ Fr σ τ := by
    obtain ⟨t, e, f⟩ := hc.1.at u a s g hu
    rw [e, bd2_s]
    exact ⟨t, rfl, hc.fr (f _ (by decide)) (f _ (by decide)) (f _ (by decide)) (f _ (by decide)) (f _ (by decide)), fun k h1 h2 => f k h1⟩
  unfold fX2_given
  simp only [jn]
  by_cases c1 : a < -1
  · rw [if_pos c1]; exact plain
  rw [if_neg c1]
  by_cases c2 : 7 < a
  · rw [if_pos c2]; exact plain
  rw [if_neg c2]
  have ha : bt (-1) 7 a := by
    rw [i_lt] at c1 c2
    have e1 : (-1 : Int32).toInt = -1 := by decide
    have e7 : (7 : Int32).toInt = 7 := by decide
    unfold bt; omega
  rw [gix hu ha hs hg]
  have hi := cix_lt hu ha hs hg
  have hi31 : cix u a s g < 2 ^ 31 := by omega
  rw [if_neg (nI_pos hi31), if_pos (show nI (cix u a s g) < 1800 from nI_lt hi (by decide)), ald_i hi (by decide), bd1_s]
  by_cases c3 : 0 ≤ σ 51 (cix u a s g)
  · rw [if_pos c3, bd1_s]
    rcases hc.2 u a s g hu ha hs hg with h | h
    · rw [i_lt] at h; rw [i_le] at c3; omega
    · rw [h]; exact ⟨σ, rfl, hc, Fr.rf σ⟩
  · rw [if_neg c3]
    obtain ⟨t, e, f⟩ := hc.1.at u a s g hu
    have hTb := T_b hT hu a s g
    rw [e, bd2_s, bast_i hi (by decide), bd1_s, i8_b hTb, i8_b hTb, ald_i hi (by decide), bd1_s, u2_same]
    refine ⟨_, rfl, ⟨hc.1.fr (by rw [u2_ne (by decide)]; exact f _ (by decide)) (by rw [u2_ne (by decide)]; exact f _ (by decide)) (by rw [u2_ne (by decide)]; exact f _ (by decide)) (by rw [u2_ne (by decide)]; exact f _ (by decide)), ?_⟩, fun k h1 h2 => by rw [u2_ne h2]; exact f k h1⟩
    intro u' a' s' g' hu' ha' hs' hg'
    by_cases hq : cix u' a' s' g' = cix u a s g
    · obtain ⟨q1, q2, q3, q4⟩ := cix_inj ha' ha hs' hs hg' hg hq
      subst q1; subst q2; subst q3; subst q4
      rw [u2_same]; exact Or.inr rfl
    · rw [u2_slot hq, f 51 (by decide)]
      exact hc.2 u' a' s' g' hu' ha' hs' hg'
theorem leaves_eq (kd m s f g dy : Int32) (σ : St) : fX1_leaves kd m s f g dy σ = some (LV kd m s f g dy, σ) := by
  unfold fX1_leaves LV fX1_asLady fX1_asSubaltern
  simp only [jn]
  by_cases hf : f ≤ 5 <;> by_cases hs : s ≤ 5 <;> by_cases hg : s + g ≤ 9 <;> by_cases hd : irm dy 2 = 0 <;> by_cases hm : m ≤ g <;> simp only [hf, hs, hg, hd, hm, if_true, if_false, bd2_s] <;> (repeat' split) <;> rfl
theorem mends_eq (kd m dy : Int32) (σ : St) : fX1_mends kd m dy σ = some (MD kd m dy, σ) := by
  unfold fX1_mends MD
  simp only [jn]
  repeat' split
  all_goals rfl
theorem leftOf_eq {σ : St} {b : Nat} {h : Hs} {T : Tx} {D : Int} {dn : Nat} (hT : TB T) (hH : CH σ b h) (hB : HB D dn h) (hc : CLC σ T) {c k : Nat} (hcn : c < 6) (hk : k < 8) : ∃ τ, fX0_leftOf b (nI c) (nI k) σ = some (lft T h c k, τ) ∧ CLC τ T ∧ Fr σ τ := by
  obtain ⟨⟨h0, h1, h2, h3, h4, h5, h6, h7⟩, g0, g1, g2, g3⟩ := hH
  have hsv := hB.svn hcn
  unfold fX0_leftOf
  rw [ald_i hcn (by decide), bd1_s, h2 c hcn, ald_b (n := 16) (hB.sv hcn), bd1_s, ald_i hk (by decide), bd1_s, ald_i hk (by decide), bd1_s, ald_i hk (by decide), bd1_s, bd1_s, ald_b (n := 16) (hB.sv hcn), bd1_s, leaves_eq, bd2_s, h0 _ hsv, h1 _ hsv, h3 k hk, h4 k hk, h5 k hk, g2]
  obtain ⟨τ, e, q⟩ := given_eq hT hc (u := 0) (by decide) (x := 0) rfl (LV (h 3 k) (h 4 k) (hS h c) (hF h c) (h 5 k) (h 8 2)) (hB.hS hcn) (hB.gr hk)
  exact ⟨τ, by show bd2 (fX2_given 0 (LV (h 3 k) (h 4 k) (hS h c) (hF h c) (h 5 k) (h 8 2)) (hS h c) (h 5 k) σ) _ = _; rw [e, bd2_s]; rfl, q⟩
theorem tasteOf_eq {σ : St} {b : Nat} {h : Hs} {T : Tx} {D : Int} {dn : Nat} (hT : TB T) (hH : CH σ b h) (hB : HB D dn h) (hc : CLC σ T) {c k : Nat} (hcn : c < 6) (hk : k < 8) (e : Int32) : ∃ τ, fX0_tasteOf b (nI c) (nI k) e σ = some (tst T h c k e, τ) ∧ CLC τ T ∧ Fr σ τ := by
  obtain ⟨⟨h0, h1, h2, h3, h4, h5, h6, h7⟩, g0, g1, g2, g3⟩ := hH
  have hsv := hB.svn hcn
  unfold fX0_tasteOf
  rw [ald_i hcn (by decide), bd1_s, h2 c hcn, ald_b (n := 16) (hB.sv hcn), bd1_s, ald_i hk (by decide), bd1_s, h0 _ hsv, h5 k hk]
  obtain ⟨τ, e1, q⟩ := given_eq hT hc (u := 1) (by decide) (x := 1) rfl e (hB.hS hcn) (hB.gr hk)
  exact ⟨τ, by show bd2 (fX2_given 1 e (hS h c) (h 5 k) σ) _ = _; rw [e1, bd2_s]; rfl, q⟩
theorem mendsOf_eq {σ : St} {b : Nat} {h : Hs} (hH : CH σ b h) {k : Nat} (hk : k < 8) : fX0_mendsOf b (nI k) σ = some (mnd h k, σ) := by
  obtain ⟨⟨h0, h1, h2, h3, h4, h5, h6, h7⟩, g0, g1, g2, g3⟩ := hH
  unfold fX0_mendsOf
  rw [ald_i hk (by decide), bd1_s, ald_i hk (by decide), bd1_s, mends_eq, bd2_s, h3 k hk, h4 k hk, g2]; rfl
/-- nothing but the laws' own rows, and of a house what a day changes -/
def FrB (b : Nat) (σ τ : St) : Prop := ∀ k, k ≠ 50 → k ≠ 51 → k ≠ b → k ≠ b + 6 → k ≠ b + 8 → k ≠ b + 9 → τ k = σ k
theorem FrB.rf (b : Nat) (σ : St) : FrB b σ σ := fun _ _ _ _ _ _ _ => rfl
theorem FrB.tr {b : Nat} {x y z : St} (p : FrB b x y) (q : FrB b y z) : FrB b x z := fun k h1 h2 h3 h4 h5 h6 => (q k h1 h2 h3 h4 h5 h6).trans (p k h1 h2 h3 h4 h5 h6)
theorem Fr.toB {b : Nat} {x y : St} (p : Fr x y) : FrB b x y := fun k h1 h2 _ _ _ _ => p k h1 h2
/-- the houses lie apart from the laws' rows -/
theorem isH_sep {b : Nat} (hb : isH b) : b = 2 ∨ b = 21 ∨ b = 39 := hb
theorem CH.frL {σ τ : St} {b : Nat} {h : Hs} (hb : isH b) (p : CH σ b h) (q : Fr σ τ) : CH τ b h := p.fr (fun k hk => q _ (by rcases hb with rfl | rfl | rfl <;> omega) (by rcases hb with rfl | rfl | rfl <;> omega))
theorem CLC.frH {σ τ : St} {b : Nat} {T : Tx} (hb : isH b) (p : CLC σ T) (q : ∀ k, k < b ∨ b + 9 < k → τ k = σ k) : CLC τ T :=
  p.fr (q _ (by rcases hb with rfl | rfl | rfl <;> omega)) (q _ (by rcases hb with rfl | rfl | rfl <;> omega)) (q _ (by rcases hb with rfl | rfl | rfl <;> omega)) (q _ (by rcases hb with rfl | rfl | rfl <;> omega)) (q _ (by rcases hb with rfl | rfl | rfl <;> omega))
theorem CLC.u {σ : St} {b : Nat} {T : Tx} (hb : isH b) (p : CLC σ T) {i j : Nat} (hi : i ≤ 9) (v : Int32) : CLC (u2 σ (b + i) j v) T := p.frH hb (fun k hk => u2_ne (by omega))
