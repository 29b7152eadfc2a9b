/-! the reference: a dinner, and a day -/
theorem MH.of {r r' : Nat → Int32} {h : Hs} (p : MH r h) (e : ∀ j, j < 87 → r' j = r j) : MH r' h := by
  obtain ⟨⟨a0, a1, a2, a3⟩, b, c, d⟩ := p
  refine ⟨⟨?_, ?_, ?_, ?_⟩, fun j hj => ?_, fun j hj => ?_, fun j hj => ?_⟩
  · rw [e _ (by omega)]; exact a0
  · rw [e _ (by omega)]; exact a1
  · rw [e _ (by omega)]; exact a2
  · rw [e _ (by omega)]; exact a3
  · rw [e _ (by omega), e _ (by omega)]; exact b j hj
  · rw [e _ (by omega)]; exact c j hj
  · rw [e _ (by omega), e _ (by omega), e _ (by omega), e _ (by omega), e _ (by omega)]; exact d j hj
theorem MH.set7 {s : St} {h : Hs} (p : MH (s 1) h) {k : Nat} (hk : k < 8) (v : Int32) : MH (u2 s 1 (47 + 5 * k + 4) v 1) (hset h 7 k v) := by
  obtain ⟨⟨a0, a1, a2, a3⟩, b, c, d⟩ := p
  refine ⟨⟨?_, ?_, ?_, ?_⟩, fun j hj => ?_, fun j hj => ?_, fun j hj => ?_⟩
  · rw [u2_slot (by omega), hset_ne (by decide)]; exact a0
  · rw [u2_slot (by omega), hset_ne (by decide)]; exact a1
  · rw [u2_slot (by omega), hset_ne (by decide)]; exact a2
  · rw [u2_slot (by omega), hset_ne (by decide)]; exact a3
  · rw [u2_slot (by omega), u2_slot (by omega), hset_ne (by decide), hset_ne (by decide)]; exact b j hj
  · rw [u2_slot (by omega), hset_ne (by decide)]; exact c j hj
  · obtain ⟨d0, d1, d2, d3, d4⟩ := d j hj
    rw [u2_slot (by omega), u2_slot (by omega), u2_slot (by omega), u2_slot (by omega), hset_ne (by decide), hset_ne (by decide), hset_ne (by decide), hset_ne (by decide)]
    refine ⟨d0, d1, d2, d3, ?_⟩
    by_cases q : j = k
    · subst q; rw [u2_same, hset_same]
    · rw [u2_slot (by omega), hset_slot q]; exact d4
theorem MH.set5 {s : St} {h : Hs} (p : MH (s 1) h) {k : Nat} (hk : k < 8) (v : Int32) : MH (u2 s 1 (47 + 5 * k + 2) v 1) (hset h 5 k v) := by
  obtain ⟨⟨a0, a1, a2, a3⟩, b, c, d⟩ := p
  refine ⟨⟨?_, ?_, ?_, ?_⟩, fun j hj => ?_, fun j hj => ?_, fun j hj => ?_⟩
  · rw [u2_slot (by omega), hset_ne (by decide)]; exact a0
  · rw [u2_slot (by omega), hset_ne (by decide)]; exact a1
  · rw [u2_slot (by omega), hset_ne (by decide)]; exact a2
  · rw [u2_slot (by omega), hset_ne (by decide)]; exact a3
  · rw [u2_slot (by omega), u2_slot (by omega), hset_ne (by decide), hset_ne (by decide)]; exact b j hj
  · rw [u2_slot (by omega), hset_ne (by decide)]; exact c j hj
  · obtain ⟨d0, d1, d2, d3, d4⟩ := d j hj
    rw [u2_slot (by omega), u2_slot (by omega), hset_ne (by decide), hset_ne (by decide), u2_slot (i := 47 + 5 * j + 3) (by omega), u2_slot (i := 47 + 5 * j + 4) (by omega), hset_ne (a := 6) (by decide), hset_ne (a := 7) (by decide)]
    refine ⟨d0, d1, ?_, d3, d4⟩
    by_cases q : j = k
    · subst q; rw [u2_same, hset_same]
    · rw [u2_slot (by omega), hset_slot q]; exact d2
theorem MH.set4 {s : St} {h : Hs} (p : MH (s 1) h) (v : Int32) : MH (u2 s 1 4 v 1) (hset h 8 1 v) := by
  obtain ⟨⟨a0, a1, a2, a3⟩, b, c, d⟩ := p
  refine ⟨⟨?_, ?_, ?_, ?_⟩, fun j hj => ?_, fun j hj => ?_, fun j hj => ?_⟩
  · rw [u2_slot (by omega), hset_slot (by decide)]; exact a0
  · rw [u2_slot (by omega), hset_slot (by decide)]; exact a1
  · rw [u2_slot (by omega), hset_slot (by decide)]; exact a2
  · rw [u2_same, hset_same]
  · rw [u2_slot (by omega), u2_slot (by omega), hset_ne (by decide), hset_ne (by decide)]; exact b j hj
  · rw [u2_slot (by omega), hset_ne (by decide)]; exact c j hj
  · rw [u2_slot (by omega), u2_slot (by omega), u2_slot (by omega), u2_slot (by omega), u2_slot (by omega), hset_ne (by decide), hset_ne (by decide), hset_ne (by decide), hset_ne (by decide), hset_ne (by decide)]; exact d j hj
theorem MH.set0 {s : St} {h : Hs} (p : MH (s 1) h) (v : Int32) : MH (u2 s 1 0 v 1) (hset h 8 2 v) := by
  obtain ⟨⟨a0, a1, a2, a3⟩, b, c, d⟩ := p
  refine ⟨⟨?_, ?_, ?_, ?_⟩, fun j hj => ?_, fun j hj => ?_, fun j hj => ?_⟩
  · rw [u2_same, hset_same]
  · rw [u2_slot (by omega), hset_slot (by decide)]; exact a1
  · rw [u2_slot (by omega), hset_slot (by decide)]; exact a2
  · rw [u2_slot (by omega), hset_slot (by decide)]; exact a3
  · rw [u2_slot (by omega), u2_slot (by omega), hset_ne (by decide), hset_ne (by decide)]; exact b j hj
  · rw [u2_slot (by omega), hset_ne (by decide)]; exact c j hj
  · rw [u2_slot (by omega), u2_slot (by omega), u2_slot (by omega), u2_slot (by omega), u2_slot (by omega), hset_ne (by decide), hset_ne (by decide), hset_ne (by decide), hset_ne (by decide), hset_ne (by decide)]; exact d j hj
/-- what a day changes: the row's own part of the house, what is remembered, what a text is read with, the heartless -/
def FrD (s t : St) : Prop := (∀ k, k ≠ 0 → k ≠ 1 → k ≠ 6 → t k = s k) ∧ (∀ j, j = 1 ∨ j = 5 ∨ j = 6 ∨ j = 7 ∨ j = 8 ∨ 87 ≤ j → t 1 j = s 1 j) ∧ ∀ j, j < 7 ∨ (14 < j ∧ j ≠ 16) → t 0 j = s 0 j
theorem FrD.rf (s : St) : FrD s s := ⟨fun _ _ _ _ => rfl, fun _ _ => rfl, fun _ _ => rfl⟩
theorem FrD.tr {a b c : St} (p : FrD a b) (q : FrD b c) : FrD a c := ⟨fun k h1 h2 h3 => (q.1 k h1 h2 h3).trans (p.1 k h1 h2 h3), fun j h => (q.2.1 j h).trans (p.2.1 j h), fun j h => (q.2.2 j h).trans (p.2.2 j h)⟩
theorem FrG.D {s t : St} (p : FrG s t) : FrD s t := ⟨fun k h1 _ h3 => p.1 k h1 h3, fun j _ => by rw [p.1 1 (by decide) (by decide)], fun j h => p.2 j (by omega)⟩
theorem FrD.u1 {s : St} {j : Nat} (hj : j < 87) (hn : j ≠ 1 ∧ j ≠ 5 ∧ j ≠ 6 ∧ j ≠ 7 ∧ j ≠ 8) (v : Int32) : FrD s (u2 s 1 j v) := ⟨fun k _ h2 _ => u2_ne h2, fun i hi => u2_slot (by omega), fun i _ => by rw [u2_ne (by decide)]⟩
theorem FrD.h {s : St} (v : Int32) : FrD s (u2 s 0 16 v) := ⟨fun k h1 _ _ => u2_ne h1, fun i _ => by rw [u2_ne (by decide)], fun i hi => u2_slot (by omega)⟩
theorem MLC.u1 {s : St} {T : Tx} (p : MLC s T) {j : Nat} (hj : j < 157) (hn : j ≠ 7 ∧ j ≠ 8) (v : Int32) : MLC (u2 s 1 j v) T := ⟨p.1.fr (fun i hi => u2_slot (by omega)), p.2.fr (u2_ne (by decide))⟩
theorem MLC.u0 {s : St} {T : Tx} (p : MLC s T) {j : Nat} (v : Int32) : MLC (u2 s 0 j v) T := ⟨p.1.fr (fun i _ => by rw [u2_ne (by decide)]), p.2.fr (u2_ne (by decide))⟩
theorem ald1 {s : St} {i : Nat} {x : Int32} (hx : x = nI i) (hi : i < 257) : ald s 1 257 x = some (s 1 i) := by subst hx; exact ald_i hi (by decide)
theorem ast1 {s : St} {i : Nat} {x v : Int32} (hx : x = nI i) (hi : i < 257) : ast s 1 257 x v = some (u2 s 1 i v) := by subst hx; exact ast_i hi (by decide)
theorem MH.frG {s t : St} {h : Hs} (p : MH (s 1) h) (q : FrG s t) : MH (t 1) h := by rw [q.1 1 (by decide) (by decide)]; exact p
theorem mn_eq {l r : Int32} : (if r ≤ l then r else l) = imn l r := by
  unfold imn
  by_cases h : l > r
  · rw [if_pos h, if_pos (i_le.mpr (by have := i_lt.mp h; omega))]
  · rw [if_neg h]
    by_cases q : r ≤ l
    · rw [if_pos q]
      refine i_eq.mpr ?_
      have := i_le.mp q
      have : ¬ r.toInt < l.toInt := fun z => h (i_lt.mpr z)
      omega
    · rw [if_neg q]
theorem eats17_eq {T : Tx} (hT : TB T) {D : Int} {dn c : Nat} (hcn : c < 6) : ∀ (n k : Nat) (f : Nat) (s : St) (h : Hs) (r : Int32), k + n = dn → n < f → MH (s 1) h → HB D dn h → MLC s T → bt 0 40 r →
    ∃ t, fX9_eats_17 (nI c) f r (nI k) s = some ((eatK T c n k (h, r)).2, t) ∧ MH (t 1) (eatK T c n k (h, r)).1 ∧ MLC t T ∧ FrD s t
  | n, k, 0, _, _, _, _, hf, _, _, _, _ => absurd hf (Nat.not_lt_zero _)
  | 0, k, f + 1, s, h, r, hk, _, hH, hB, hc, hr => by
    rw [fX9_eats_17, ald1 (x := 2) (i := 2) rfl (by decide), bd1_s, hH.1.2.1, hB.d3, if_pos (show nI dn ≤ nI k by rw [← hk]; exact nI_le (Nat.le_refl _) (by have := hB.dn; omega))]
    exact ⟨s, rfl, hH, hc, FrD.rf s⟩
  | n + 1, k, f + 1, s, h, r, hk, hf, hH, hB, hc, hr => by
    have hd8 := hB.dn
    have hk8 : k < 8 := by omega
    rw [fX9_eats_17, ald1 (x := 2) (i := 2) rfl (by decide), bd1_s, hH.1.2.1, hB.d3, if_neg (show ¬ nI dn ≤ nI k from nI_ge (by omega) (by omega))]
    obtain ⟨s1, e1, c1, f1⟩ := m_left hH hB hc (x := nI c) rfl hcn hk8
    rw [e1, bd2_s]
    have H1 := hH.frG f1
    have hl := lft_b hT h c k
    obtain ⟨b1, b2, b3⟩ := eat_e hl hr
    simp only [jn]
    -- what she eats
    have eat : ∀ w, w = imn (lft T h c k) r → ∃ t, (if w ≤ 0 then bd1 (ald s1 1 257 4) fun v11 => bd2 (fX9_held (v11 + lft T h c k - w) 0 99999 s1) fun u14 s12 => bd1 (ast s12 1 257 4 u14) fun s16 => fX9_eats_17 (nI c) f (r - w) (nI k + 1) s16
        else bd2 (fX9_its (nI k) 4 s1) fun u19 s17 => bd2 (fX9_taste (nI k) (nI c) w s17) fun u22 s20 => bd2 (fX9_held (u19 + u22) 0 99 s20) fun u25 s23 => bd1 (fX9_puts (nI k) 4 u25 s23) fun s26 => bd1 (ald s26 1 257 4) fun v11 => bd2 (fX9_held (v11 + lft T h c k - w) 0 99999 s26) fun u14 s12 => bd1 (ast s12 1 257 4 u14) fun s16 => fX9_eats_17 (nI c) f (r - w) (nI k + 1) s16) = some ((eatK T c (n + 1) k (h, r)).2, t) ∧ MH (t 1) (eatK T c (n + 1) k (h, r)).1 ∧ MLC t T ∧ FrD s t := by
      intro w hw
      subst hw
      have fin : ∀ (s2 : St) (h2 : Hs), MH (s2 1) h2 → MLC s2 T → FrD s s2 → h2 8 1 = h 8 1 → (eatP T c k (h, r)).1 = hset h2 8 1 (imn 99999 (h 8 1 + lft T h c k - imn (lft T h c k) r)) →
          ∃ t, (bd1 (ald s2 1 257 4) fun v11 => bd2 (fX9_held (v11 + lft T h c k - imn (lft T h c k) r) 0 99999 s2) fun u14 s12 => bd1 (ast s12 1 257 4 u14) fun s16 => fX9_eats_17 (nI c) f (r - imn (lft T h c k) r) (nI k + 1) s16) = some ((eatK T c (n + 1) k (h, r)).2, t) ∧ MH (t 1) (eatK T c (n + 1) k (h, r)).1 ∧ MLC t T ∧ FrD s t := by
        intro s2 h2 H2 c2 f2 q81 qe
        have hp : 0 ≤ (h 8 1 + lft T h c k - imn (lft T h c k) r).toInt := by
          have a1 := hB.pg
          have a3 := add_I a1 hl
          have a6 : bt 0 100003 (h 8 1 + lft T h c k) := by have := a1.1; have := a1.2; have := hl.1; have := hl.2; unfold bt; rw [a3]; omega
          have a7 := sub_I a6 b1
          rw [a7, a3]
          have := a1.1; have := hl.1
          omega
        rw [ald1 (x := 4) (i := 4) rfl (by decide), bd1_s, H2.1.2.2.2, q81, m_held, bd2_s, hld_mn hp, ast1 (x := 4) (i := 4) rfl (by decide), bd1_s, nI_1]
        have H3 := H2.set4 (imn 99999 (h 8 1 + lft T h c k - imn (lft T h c k) r))
        rw [← qe] at H3
        obtain ⟨hb1, hb2⟩ := eatP_b hT (c := c) (x := (h, r)) hB hr hk8
        obtain ⟨t, e4, H4, c4, f4⟩ := eats17_eq hT hcn n (k + 1) f _ _ _ (by omega) (by omega) H3 hb1 (c2.u1 (by decide) (by decide) _) hb2
        exact ⟨t, e4, H4, c4, (f2.tr (FrD.u1 (by decide) (by decide) _)).tr f4⟩
      by_cases he : imn (lft T h c k) r ≤ 0
      · rw [if_pos he]
        refine fin s1 h H1 c1 f1.D rfl ?_
        simp only [eatP]
        rw [if_pos he]
      · rw [if_neg he, its_eq (x := 4) (w := 4) rfl hk8 (by decide), bd2_s, (H1.2.2.2 k hk8).2.2.2.2]
        obtain ⟨s3, e3, c3, f3⟩ := m_taste H1 hB c1 (x := nI c) rfl hcn hk8 (imn (lft T h c k) r)
        have hq : 0 ≤ (h 7 k + tst T h c k (imn (lft T h c k) r)).toInt := by
          have a1 := hB.kn hk8
          have a2 := tst_b hT h c k (imn (lft T h c k) r)
          rw [add_I a1 a2]
          have := a1.1; have := a2.1
          omega
        rw [e3, bd2_s, m_held, bd2_s, hld_mn hq, puts_eq (x := 4) (w := 4) rfl hk8 (by decide), bd1_s]
        have H3 := (H1.frG f3).set7 hk8 (imn 99 (h 7 k + tst T h c k (imn (lft T h c k) r)))
        refine fin _ _ H3 (c3.u1 (by omega) (by omega) _) ((f1.tr f3).D.tr (FrD.u1 (by omega) (by omega) _)) ?_ ?_
        · rw [hset_ne (by decide)]
        · simp only [eatP]
          rw [if_neg he]
    have hw := mn_eq (l := lft T h c k) (r := r)
    by_cases q : r ≤ lft T h c k
    · rw [if_pos q] at hw ⊢
      exact eat r hw
    · rw [if_neg q] at hw ⊢
      exact eat (lft T h c k) hw
theorem eats9_eq {T : Tx} (hT : TB T) {D : Int} {dn : Nat} : ∀ (n c : Nat) (f : Nat) (s : St) (h : Hs) (r : Int32), c + n = 6 → n < f → MH (s 1) h → HB D dn h → MLC s T → bt 0 40 r →
    ∃ t, fX9_eats_9 f r (nI c) s = some t ∧ MH (t 1) (eatA T dn n c (h, r)).1 ∧ MLC t T ∧ FrD s t
  | n, c, 0, _, _, _, _, hf, _, _, _, _ => absurd hf (Nat.not_lt_zero _)
  | 0, c, f + 1, s, h, r, hk, _, hH, hB, hc, hr => by
    have : c = 6 := by omega
    subst this
    rw [fX9_eats_9, if_pos (show (6 : Int32) ≤ nI 6 by decide)]
    exact ⟨s, rfl, hH, hc, FrD.rf s⟩
  | n + 1, c, f + 1, s, h, r, hk, hf, hH, hB, hc, hr => by
    rw [fX9_eats_9, if_neg (show ¬ (6 : Int32) ≤ nI c from nI_ge (b := 6) (by omega) (by decide))]
    obtain ⟨s1, e1, H1, c1, f1⟩ := eats17_eq hT (D := D) (dn := dn) (c := c) (by omega) dn 0 FU s h r (by omega) (FU_lt (by have := hB.dn; omega)) hH hB hc hr
    rw [show (0 : Int32) = nI 0 from rfl, e1, bd2_s, nI_1]
    obtain ⟨hb1, hb2⟩ := eatK_b hT (c := c) dn 0 (h, r) (by have := hB.dn; omega) hB hr
    obtain ⟨t, e2, H2, c2, f2⟩ := eats9_eq hT n (c + 1) f s1 _ _ (by omega) (by omega) H1 hb1 c1 hb2
    exact ⟨t, e2, H2, c2, f1.tr f2⟩
theorem eats_eq {T : Tx} (hT : TB T) {D : Int} {dn : Nat} {s : St} {h : Hs} (hH : MH (s 1) h) (hB : HB D dn h) (hc : MLC s T) : ∃ t, fX9_eats s = some t ∧ MH (t 1) (eatA T dn 6 0 (h, h 8 0)).1 ∧ MLC t T ∧ FrD s t := by
  obtain ⟨t, e, q⟩ := eats9_eq hT 6 0 FU s h (h 8 0) rfl (FU_lt (by omega)) hH hB hc hB.rm
  unfold fX9_eats
  rw [ald1 (x := 3) (i := 3) rfl (by decide), bd1_s, hH.1.2.2.1, show (0 : Int32) = nI 0 from rfl, e, bd1_s]
  exact ⟨t, rfl, q⟩
