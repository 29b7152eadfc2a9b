/-! the reference: its row, its laws and what it remembers -/
def MH (r : Nat → Int32) (h : Hs) : Prop :=
  (r 0 = h 8 2 ∧ r 2 = h 8 3 ∧ r 3 = h 8 0 ∧ r 4 = h 8 1) ∧ (∀ d, d < 16 → r (9 + 2 * d) = h 0 d ∧ r (9 + 2 * d + 1) = h 1 d) ∧ (∀ c, c < 6 → r (41 + c) = h 2 c) ∧
  (∀ k, k < 8 → r (47 + 5 * k) = h 3 k ∧ r (47 + 5 * k + 1) = h 4 k ∧ r (47 + 5 * k + 2) = h 5 k ∧ r (47 + 5 * k + 3) = h 6 k ∧ r (47 + 5 * k + 4) = h 7 k)
def FrM (s t : St) : Prop := (∀ k, k ≠ 0 → t k = s k) ∧ ∀ j, j < 7 ∨ 14 < j → t 0 j = s 0 j
def MLg (r : Nat → Int32) (T : Tx) : Prop := ∀ (s : St) (u : Nat), u ≤ 1 → (∀ j, j = 7 + u ∨ (157 + 50 * u ≤ j ∧ j < 207 + 50 * u) → s 1 j = r j) → ∀ (a b c : Int32), ∃ t, fX9_worked (nI u) a b c s = some (T u a b c, t) ∧ FrM s t
def ML (τ : St) (T : Tx) : Prop := MLg (τ 1) T
def mix (u : Nat) (a s g : Int32) : Nat := 1000 * u + 100 * a.toNatClampNeg + 10 * s.toNatClampNeg + g.toNatClampNeg
def MC (τ : St) (T : Tx) : Prop := ∀ (u : Nat) (a s g : Int32), u ≤ 1 → bt 0 9 a → bt 0 9 s → bt 0 9 g → τ 6 (mix u a s g) < 0 ∨ τ 6 (mix u a s g) = T u a s g
def MLC (τ : St) (T : Tx) : Prop := ML τ T ∧ MC τ T
/-- nothing has changed but what is remembered, and what a text is read with -/
def FrG (s t : St) : Prop := (∀ k, k ≠ 0 → k ≠ 6 → t k = s k) ∧ ∀ j, j < 7 ∨ 14 < j → t 0 j = s 0 j
theorem FrG.rf (s : St) : FrG s s := ⟨fun _ _ _ => rfl, fun _ _ => rfl⟩
theorem FrG.tr {a b c : St} (p : FrG a b) (q : FrG b c) : FrG a c := ⟨fun k h1 h2 => (q.1 k h1 h2).trans (p.1 k h1 h2), fun j h => (q.2 j h).trans (p.2 j h)⟩
theorem FrM.G {s t : St} (p : FrM s t) : FrG s t := ⟨fun k h _ => p.1 k h, p.2⟩
theorem ML.fr {σ τ : St} {T : Tx} (h : ML σ T) (e : ∀ j, j = 7 ∨ j = 8 ∨ (157 ≤ j ∧ j < 257) → τ 1 j = σ 1 j) : ML τ T := fun s u hu q => h s u hu (fun j hj => (q j hj).trans (e j (by omega)))
theorem MC.fr {σ τ : St} {T : Tx} (h : MC σ T) (e : τ 6 = σ 6) : MC τ T := by intro u a s g; rw [e]; exact h u a s g
theorem m_in (v lo hi : Int32) (s : St) : fX9_in v lo hi s = some (if lo ≤ v ∧ v ≤ hi then 1 else 0, s) := by
  unfold fX9_in
  simp only [jn]
  by_cases h1 : v < lo
  · rw [if_pos h1, if_neg (fun q => by rw [i_lt] at h1; have := i_le.mp q.1; omega)]
  · rw [if_neg h1]
    by_cases h2 : hi < v
    · rw [if_pos h2, if_neg (fun q => by rw [i_lt] at h2; have := i_le.mp q.2; omega)]
    · rw [if_neg h2, if_pos ⟨i_le.mpr (by rw [i_lt] at h1; omega), i_le.mpr (by rw [i_lt] at h2; omega)⟩]
def hld (v lo hi : Int32) : Int32 := if lo ≤ v then (if v ≤ hi then v else hi) else lo
theorem m_held (v lo hi : Int32) (s : St) : fX9_held v lo hi s = some (hld v lo hi, s) := by
  unfold fX9_held hld
  repeat' split
  all_goals rfl
theorem hld_mn {v hi : Int32} (h : 0 ≤ v.toInt) : hld v 0 hi = imn hi v := by
  unfold hld imn
  rw [if_pos (show (0 : Int32) ≤ v from i_le.mpr (by rw [show (0 : Int32).toInt = 0 by decide]; exact h))]
  by_cases q : v ≤ hi
  · rw [if_pos q]
    by_cases p : hi > v
    · rw [if_pos p]
    · rw [if_neg p]
      refine i_eq.mpr ?_
      have := i_le.mp q
      have : ¬ v.toInt < hi.toInt := fun z => p (i_lt.mpr z)
      omega
  · rw [if_neg q, if_neg (fun p => q (by rw [i_le]; have := i_lt.mp p; omega))]
theorem hld_mx {v hi : Int32} (h : v.toInt ≤ hi.toInt) : hld v 0 hi = imx 0 v := by
  unfold hld imx
  by_cases q : 0 ≤ v
  · rw [if_pos q, if_pos (i_le.mpr h)]
    by_cases p : 0 < v
    · rw [if_pos p]
    · rw [if_neg p]
      refine i_eq.mpr ?_
      have := i_le.mp q
      have : ¬ (0 : Int32).toInt < v.toInt := fun z => p (i_lt.mpr z)
      omega
  · rw [if_neg q, if_neg (fun p => q (i_le.mpr (by have := i_lt.mp p; omega)))]
theorem l47 : (47 : Int32) = nI 47 := rfl
theorem l5 : (5 : Int32) = nI 5 := rfl
theorem l9 : (9 : Int32) = nI 9 := rfl
theorem l2 : (2 : Int32) = nI 2 := rfl
theorem l1 : (1 : Int32) = nI 1 := rfl
theorem l41 : (41 : Int32) = nI 41 := rfl
theorem its_eq {s : St} {k w : Nat} {x : Int32} (hx : x = nI w) (hk : k < 8) (hw : w < 5) : fX9_its (nI k) x s = some (s 1 (47 + 5 * k + w), s) := by
  subst hx
  unfold fX9_its
  rw [l47, l5, pk_mul, nI_add, nI_add, ald_i (by omega) (by decide), bd1_s]
theorem puts_eq {s : St} {k w : Nat} {x v : Int32} (hx : x = nI w) (hk : k < 8) (hw : w < 5) : fX9_puts (nI k) x v s = some (u2 s 1 (47 + 5 * k + w) v) := by
  subst hx
  unfold fX9_puts
  rw [l47, l5, pk_mul, nI_add, nI_add, ast_i (by omega) (by decide), bd1_s]
theorem m_sweet {s : St} {h : Hs} {D : Int} {dn : Nat} (hH : MH (s 1) h) (hB : HB D dn h) {c : Nat} {x : Int32} (hx : x = nI c) (hc : c < 6) : fX9_sweet x s = some (hS h c, s) := by
  subst hx
  have hv := bt_cl (hi := 15) (hB.sv hc)
  unfold fX9_sweet
  rw [l41, nI_add, ald_i (by omega) (by decide), bd1_s, hH.2.2.1 c hc, hv.2, l9, l2, pk_mul, nI_add, ald_i (by omega) (by decide), bd1_s, (hH.2.1 _ (by omega)).1]; rfl
theorem m_fat {s : St} {h : Hs} {D : Int} {dn : Nat} (hH : MH (s 1) h) (hB : HB D dn h) {c : Nat} {x : Int32} (hx : x = nI c) (hc : c < 6) : fX9_fat x s = some (hF h c, s) := by
  subst hx
  have hv := bt_cl (hi := 15) (hB.sv hc)
  unfold fX9_fat
  rw [l41, nI_add, ald_i (by omega) (by decide), bd1_s, hH.2.2.1 c hc, hv.2, l9, l2, l1, pk_mul, nI_add, nI_add, ald_i (by omega) (by decide), bd1_s, (hH.2.1 _ (by omega)).2]; rfl
theorem irm2 {x : Int32} {D : Int} (h : bt 0 D x) : irm x 2 = 0 ∨ irm x 2 = 1 := by
  have hr := fb_rng x
  have h1 := h.1
  have e2 : x.toInt.toNat < 2 ^ 31 := by omega
  have e : x = nI x.toInt.toNat := i_eq.mpr (by rw [nI_toInt e2]; omega)
  have e3 : irm x 2 = nI (x.toInt.toNat % 2) := by
    rw [e]
    unfold irm
    rw [l2, pk_rem e2 (by decide) (by decide), nI_toInt e2]
    rfl
  rw [e3]
  rcases (show x.toInt.toNat % 2 = 0 ∨ x.toInt.toNat % 2 = 1 by omega) with q | q <;> rw [q]
  · exact Or.inl rfl
  · exact Or.inr rfl
theorem m_leaving {s : St} {h : Hs} {D : Int} {dn : Nat} (hH : MH (s 1) h) (hB : HB D dn h) {c k : Nat} {x : Int32} (hx : x = nI c) (hc : c < 6) (hk : k < 8) : fX9_leaving (nI k) x s = some (LV (h 3 k) (h 4 k) (hS h c) (hF h c) (h 5 k) (h 8 2), s) := by
  subst hx
  obtain ⟨i0, i1, i2, i3, i4⟩ := hH.2.2.2 k hk
  unfold fX9_leaving LV
  rw [its_eq (x := 2) (w := 2) rfl hk (by decide), bd2_s, its_eq (x := 1) (w := 1) rfl hk (by decide), bd2_s, m_fat hH hB rfl hc, bd2_s]
  simp only [jn, m_sweet hH hB rfl hc, bd2_s, its_eq (w := 0) (x := 0) rfl hk (by decide), i1, i2, show s 1 (47 + 5 * k + 0) = h 3 k from i0, show ald s 1 257 0 = some (s 1 0) from ald_i (i := 0) (by decide) (by decide), bd1_s, hH.1.1]
  have hp := irm2 hB.dy
  have hp2 : irm (h 8 2) 2 = 1 ↔ ¬ irm (h 8 2) 2 = 0 := by
    rcases hp with q | q <;> rw [q] <;> decide
  by_cases hf : hF h c ≤ 5 <;> by_cases hs : hS h c ≤ 5 <;> by_cases hg : hS h c + h 5 k ≤ 9 <;> by_cases hd : irm (h 8 2) 2 = 0 <;> by_cases hm : h 4 k ≤ h 5 k <;> simp only [hf, hs, hg, hd, hm, hp2, if_true, if_false, not_true, not_false_iff] <;> (repeat' split) <;> first | rfl | (rename_i q; exact absurd q (by decide))
theorem m_mending {s : St} {h : Hs} (hH : MH (s 1) h) {k : Nat} (hk : k < 8) : fX9_mending (nI k) s = some (mnd h k, s) := by
  obtain ⟨i0, i1, i2, i3, i4⟩ := hH.2.2.2 k hk
  unfold fX9_mending mnd MD
  simp only [jn, show ald s 1 257 0 = some (s 1 0) from ald_i (i := 0) (by decide) (by decide), bd1_s, hH.1.1, its_eq (w := 0) (x := 0) rfl hk (by decide), its_eq (w := 1) (x := 1) rfl hk (by decide), bd2_s, i1, show s 1 (47 + 5 * k + 0) = h 3 k from i0]
  by_cases hd : irm (h 8 2) 2 = 0 <;> simp only [hd, if_true, if_false] <;> (repeat' split) <;> rfl
theorem mix_lt {u : Nat} {a s g : Int32} (hu : u ≤ 1) (ha : bt 0 9 a) (hs : bt 0 9 s) (hg : bt 0 9 g) : mix u a s g < 2000 := by
  have := (bt_cl (hi := 9) ha).1
  have := (bt_cl (hi := 9) hs).1
  have := (bt_cl (hi := 9) hg).1
  unfold mix; omega
theorem mix_inj {u u' : Nat} {a a' s s' g g' : Int32} (ha : bt 0 9 a) (ha' : bt 0 9 a') (hs : bt 0 9 s) (hs' : bt 0 9 s') (hg : bt 0 9 g) (hg' : bt 0 9 g') (h : mix u a s g = mix u' a' s' g') : u = u' ∧ a = a' ∧ s = s' ∧ g = g' := by
  have := (bt_cl (hi := 9) ha).1
  have := (bt_cl (hi := 9) hs).1
  have := (bt_cl (hi := 9) hg).1
  have := (bt_cl (hi := 9) ha').1
  have := (bt_cl (hi := 9) hs').1
  have := (bt_cl (hi := 9) hg').1
  unfold mix at h
  exact ⟨by omega, cl_eq ha ha' (by omega), cl_eq hs hs' (by omega), cl_eq hg hg' (by omega)⟩
theorem mixI {u : Nat} {a s g : Int32} (ha : bt 0 9 a) (hs : bt 0 9 s) (hg : bt 0 9 g) : 1000 * nI u + 100 * a + 10 * s + g = nI (mix u a s g) := by
  obtain ⟨-, ea⟩ := bt_cl (hi := 9) ha
  obtain ⟨-, es⟩ := bt_cl (hi := 9) hs
  obtain ⟨-, eg⟩ := bt_cl (hi := 9) hg
  unfold mix
  rw [ea, es, eg, l10, show (1000 : Int32) = nI 1000 from rfl, show (100 : Int32) = nI 100 from rfl, pk_mul, pk_mul, pk_mul, nI_add, nI_add, nI_add, ← ea, ← es, ← eg]
theorem in9 {x : Int32} : (0 ≤ x ∧ x ≤ 9) ↔ bt 0 9 x := by
  rw [i_le, i_le]
  have e0 : (0 : Int32).toInt = 0 := by decide
  have e9 : (9 : Int32).toInt = 9 := by decide
  rw [e0, e9]
  exact Iff.rfl
theorem lawOf_eq {s : St} {T : Tx} (hm : MLC s T) {u : Nat} (hu : u ≤ 1) {x : Int32} (hx : x = nI u) (a b c : Int32) : ∃ t, fX9_lawOf x a b c s = some (T u a b c, t) ∧ MLC t T ∧ FrG s t := by
  subst hx
  have plain : ∃ t, (bd2 (fX9_worked (nI u) a b c s) fun u7 s5 => some (u7, s5)) = some (T u a b c, t) ∧ MLC t T ∧ FrG s t := by
    obtain ⟨t, e, f⟩ := hm.1 s u hu (fun _ _ => rfl) a b c
    rw [e, bd2_s]
    exact ⟨t, rfl, ⟨hm.1.fr (fun j _ => by rw [f.1 1 (by decide)]), hm.2.fr (f.1 6 (by decide))⟩, f.G⟩
  unfold fX9_lawOf
  simp only [jn, m_in, bd2_s]
  by_cases ha : 0 ≤ a ∧ a ≤ 9
  · rw [if_pos ha, if_neg (by decide)]
    by_cases hb : 0 ≤ b ∧ b ≤ 9
    · rw [if_pos hb, if_neg (by decide)]
      by_cases hc : 0 ≤ c ∧ c ≤ 9
      · rw [if_pos hc, if_neg (by decide)]
        rw [in9] at ha hb hc
        rw [mixI ha hb hc]
        have hi := mix_lt hu ha hb hc
        rw [ald_i hi (by decide), bd1_s]
        by_cases c3 : 0 ≤ s 6 (mix u a b c)
        · rw [if_pos c3, bd1_s]
          rcases hm.2 u a b c hu ha hb hc with q | q
          · rw [i_lt] at q; rw [i_le] at c3; omega
          · rw [q]; exact ⟨s, rfl, hm, FrG.rf s⟩
        · rw [if_neg c3]
          obtain ⟨t, e, f⟩ := hm.1 s u hu (fun _ _ => rfl) a b c
          rw [e, bd2_s, ast_i hi (by decide), bd1_s, ald_i hi (by decide), bd1_s, u2_same]
          refine ⟨_, rfl, ⟨hm.1.fr (fun j _ => by rw [u2_ne (by decide), f.1 1 (by decide)]), ?_⟩, ⟨fun k h1 h2 => by rw [u2_ne h2]; exact f.1 k h1, fun j hj => by rw [u2_ne (by decide)]; exact f.2 j hj⟩⟩
          intro u' a' s' g' hu' ha' hs' hg'
          by_cases hq : mix u' a' s' g' = mix u a b c
          · obtain ⟨q1, q2, q3, q4⟩ := mix_inj ha' ha hs' hb hg' hc hq
            subst q1; subst q2; subst q3; subst q4
            rw [u2_same]; exact Or.inr rfl
          · rw [u2_slot hq, f.1 6 (by decide)]
            exact hm.2 u' a' s' g' hu' ha' hs' hg'
      · rw [if_neg hc, if_pos rfl]; exact plain
    · rw [if_neg hb, if_pos rfl]; exact plain
  · rw [if_neg ha, if_pos rfl]; exact plain
theorem m_left {s : St} {h : Hs} {T : Tx} {D : Int} {dn : Nat} (hH : MH (s 1) h) (hB : HB D dn h) (hm : MLC s T) {c k : Nat} {x : Int32} (hx : x = nI c) (hc : c < 6) (hk : k < 8) : ∃ t, fX9_left (nI k) x s = some (lft T h c k, t) ∧ MLC t T ∧ FrG s t := by
  unfold fX9_left
  rw [m_leaving hH hB hx hc hk, bd2_s, m_sweet hH hB hx hc, bd2_s, its_eq (x := 2) (w := 2) rfl hk (by decide), bd2_s, (hH.2.2.2 k hk).2.2.1]
  obtain ⟨t, e, q⟩ := lawOf_eq hm (u := 0) (by decide) (x := 0) rfl (LV (h 3 k) (h 4 k) (hS h c) (hF h c) (h 5 k) (h 8 2)) (hS h c) (h 5 k)
  rw [e, bd2_s]
  exact ⟨t, rfl, q⟩
theorem m_taste {s : St} {h : Hs} {T : Tx} {D : Int} {dn : Nat} (hH : MH (s 1) h) (hB : HB D dn h) (hm : MLC s T) {c k : Nat} {x : Int32} (hx : x = nI c) (hc : c < 6) (hk : k < 8) (e : Int32) : ∃ t, fX9_taste (nI k) x e s = some (tst T h c k e, t) ∧ MLC t T ∧ FrG s t := by
  unfold fX9_taste
  rw [m_sweet hH hB hx hc, bd2_s, its_eq (x := 2) (w := 2) rfl hk (by decide), bd2_s, (hH.2.2.2 k hk).2.2.1]
  obtain ⟨t, e1, q⟩ := lawOf_eq hm (u := 1) (by decide) (x := 1) rfl e (hS h c) (h 5 k)
  rw [e1, bd2_s]
  exact ⟨t, rfl, q⟩
