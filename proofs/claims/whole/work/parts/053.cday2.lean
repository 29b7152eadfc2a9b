/-! the class: a dinner, and a day -/
theorem CH.set7 {σ : St} {b : Nat} {h : Hs} (p : CH σ b h) {k : Nat} (v : Int32) : CH (u2 σ (b + 8) k v) b (hset h 7 k v) := by
  obtain ⟨⟨h0, h1, h2, h3, h4, h5, h6, h7⟩, g0, g1, g2, g3⟩ := p
  refine ⟨⟨?_, ?_, ?_, ?_, ?_, ?_, ?_, ?_⟩, ?_, ?_, ?_, ?_⟩
  · intro j hj; rw [u2_ne (by omega), hset_ne (by decide)]; exact h0 j hj
  · intro j hj; rw [u2_ne (by omega), hset_ne (by decide)]; exact h1 j hj
  · intro j hj; rw [u2_ne (by omega), hset_ne (by decide)]; exact h2 j hj
  · intro j hj; rw [u2_ne (by omega), hset_ne (by decide)]; exact h3 j hj
  · intro j hj; rw [u2_ne (by omega), hset_ne (by decide)]; exact h4 j hj
  · intro j hj; rw [u2_ne (by omega), hset_ne (by decide)]; exact h5 j hj
  · intro j hj; rw [u2_ne (by omega), hset_ne (by decide)]; exact h6 j hj
  · intro j hj
    by_cases q : j = k
    · subst q; rw [u2_same, hset_same]
    · rw [u2_slot q, hset_slot q]; exact h7 j hj
  · rw [u2_ne (by omega), hset_ne (by decide)]; exact g0
  · rw [u2_ne (by omega), hset_ne (by decide)]; exact g1
  · rw [u2_ne (by omega), hset_ne (by decide)]; exact g2
  · rw [u2_ne (by omega), hset_ne (by decide)]; exact g3
theorem CH.set5 {σ : St} {b : Nat} {h : Hs} (p : CH σ b h) {k : Nat} (v : Int32) : CH (u2 σ (b + 6) k v) b (hset h 5 k v) := by
  obtain ⟨⟨h0, h1, h2, h3, h4, h5, h6, h7⟩, g0, g1, g2, g3⟩ := p
  refine ⟨⟨?_, ?_, ?_, ?_, ?_, ?_, ?_, ?_⟩, ?_, ?_, ?_, ?_⟩
  · intro j hj; rw [u2_ne (by omega), hset_ne (by decide)]; exact h0 j hj
  · intro j hj; rw [u2_ne (by omega), hset_ne (by decide)]; exact h1 j hj
  · intro j hj; rw [u2_ne (by omega), hset_ne (by decide)]; exact h2 j hj
  · intro j hj; rw [u2_ne (by omega), hset_ne (by decide)]; exact h3 j hj
  · intro j hj; rw [u2_ne (by omega), hset_ne (by decide)]; exact h4 j hj
  · intro j hj
    by_cases q : j = k
    · subst q; rw [u2_same, hset_same]
    · rw [u2_slot q, hset_slot q]; exact h5 j hj
  · intro j hj; rw [u2_ne (by omega), hset_ne (by decide)]; exact h6 j hj
  · intro j hj; rw [u2_ne (by omega), hset_ne (by decide)]; exact h7 j hj
  · rw [u2_ne (by omega), hset_ne (by decide)]; exact g0
  · rw [u2_ne (by omega), hset_ne (by decide)]; exact g1
  · rw [u2_ne (by omega), hset_ne (by decide)]; exact g2
  · rw [u2_ne (by omega), hset_ne (by decide)]; exact g3
theorem CH.set8 {σ : St} {b : Nat} {h : Hs} (p : CH σ b h) {k : Nat} (hk : k < 4) (v : Int32) : CH (u2 σ b (9 + k) v) b (hset h 8 k v) := by
  obtain ⟨⟨h0, h1, h2, h3, h4, h5, h6, h7⟩, g0, g1, g2, g3⟩ := p
  refine ⟨⟨?_, ?_, ?_, ?_, ?_, ?_, ?_, ?_⟩, ?_, ?_, ?_, ?_⟩
  · intro j hj; rw [u2_ne (by omega), hset_ne (by decide)]; exact h0 j hj
  · intro j hj; rw [u2_ne (by omega), hset_ne (by decide)]; exact h1 j hj
  · intro j hj; rw [u2_ne (by omega), hset_ne (by decide)]; exact h2 j hj
  · intro j hj; rw [u2_ne (by omega), hset_ne (by decide)]; exact h3 j hj
  · intro j hj; rw [u2_ne (by omega), hset_ne (by decide)]; exact h4 j hj
  · intro j hj; rw [u2_ne (by omega), hset_ne (by decide)]; exact h5 j hj
  · intro j hj; rw [u2_ne (by omega), hset_ne (by decide)]; exact h6 j hj
  · intro j hj; rw [u2_ne (by omega), hset_ne (by decide)]; exact h7 j hj
  all_goals
    rw [u2_at, hset, if_pos rfl, if_pos rfl]
    rcases (show k = 0 ∨ k = 1 ∨ k = 2 ∨ k = 3 by omega) with rfl | rfl | rfl | rfl <;> simp [*]
theorem CH.set9 {σ : St} {b : Nat} {h : Hs} (p : CH σ b h) {k : Nat} (v : Int32) : CH (u2 σ (b + 9) k v) b h := by
  unfold CH at p ⊢
  rw [u2_ne (by omega), u2_ne (by omega), u2_ne (by omega), u2_ne (by omega), u2_ne (by omega), u2_ne (by omega), u2_ne (by omega), u2_ne (by omega), u2_ne (by omega)]
  exact p
theorem FrB.u {b : Nat} {σ : St} {i j : Nat} (hi : i = 0 ∨ i = 6 ∨ i = 8 ∨ i = 9) (v : Int32) : FrB b σ (u2 σ (b + i) j v) := fun k h1 h2 h3 h4 h5 h6 => u2_ne (by omega)
theorem dine16_eq {b : Nat} (hb : isH b) {T : Tx} (hT : TB T) {D : Int} {dn c : Nat} (hcn : c < 6) : ∀ (n k : Nat) (f : Nat) (σ : St) (h : Hs) (r : Int32), k + n = dn → n < f → CH σ b h → HB D dn h → CLC σ T → bt 0 40 r →
    ∃ τ, fX0_dine_16 b (nI c) f r (nI k) σ = some ((eatK T c n k (h, r)).2, τ) ∧ CH τ b (eatK T c n k (h, r)).1 ∧ CLC τ T ∧ FrB b σ τ ∧ (∀ j, j < k → τ (b + 9) j = σ (b + 9) j) ∧ (∀ j, k ≤ j → j < dn → τ (b + 9) j = lft T h c j)
  | n, k, 0, _, _, _, _, hf, _, _, _, _ => absurd hf (Nat.not_lt_zero _)
  | 0, k, f + 1, σ, h, r, hk, _, hH, hB, hc, hr => by
    rw [fX0_dine_16, hH.2.2.2.2, hB.d3, if_pos (show nI dn ≤ nI k by rw [← hk]; exact nI_le (Nat.le_refl _) (by have := hB.dn; omega))]
    exact ⟨σ, rfl, hH, hc, FrB.rf b σ, fun _ _ => rfl, fun j h1 h2 => absurd h2 (by omega)⟩
  | n + 1, k, f + 1, σ, h, r, hk, hf, hH, hB, hc, hr => by
    have hd8 := hB.dn
    have hk8 : k < 8 := by omega
    rw [fX0_dine_16, hH.2.2.2.2, hB.d3, if_neg (show ¬ nI dn ≤ nI k from nI_ge (by omega) (by omega))]
    obtain ⟨σ1, e1, c1, f1⟩ := leftOf_eq hT hH hB hc hcn hk8
    rw [e1, bd2_s]
    have H1 := hH.frL hb f1
    have hl := lft_b hT h c k
    obtain ⟨b1, b2, b3⟩ := eat_e hl hr
    simp only [jn]
    -- the end of a plate, from the state behind the tasting
    have fin : ∀ (σ2 : St) (h2 : Hs), CH σ2 b h2 → CLC σ2 T → FrB b σ σ2 → σ2 (b + 9) = σ (b + 9) → h2 8 1 = h 8 1 → (eatP T c k (h, r)).1 = hset h2 8 1 (imn 99999 (h 8 1 + lft T h c k - imn (lft T h c k) r)) →
        ∃ τ, (bd1 (ptf σ2 b 10 (imn 99999 (σ2 b 10 + lft T h c k - imn (lft T h c k) r))) fun s5 => bd1 (ast s5 (b + 9) 8 (nI k) (lft T h c k)) fun s7 => fX0_dine_16 b (nI c) f (r - imn (lft T h c k) r) (nI k + 1) s7) = some ((eatK T c (n + 1) k (h, r)).2, τ) ∧ CH τ b (eatK T c (n + 1) k (h, r)).1 ∧ CLC τ T ∧ FrB b σ τ ∧ (∀ j, j < k → τ (b + 9) j = σ (b + 9) j) ∧ (∀ j, k ≤ j → j < dn → τ (b + 9) j = lft T h c j) := by
      intro σ2 h2 H2 c2 f2 q9 q81 qe
      rw [ptf, bd1_s, ast_i hk8 (by decide), bd1_s, nI_1, H2.2.2.1, q81]
      have H3 := (H2.set8 (k := 1) (by decide) (imn 99999 (h 8 1 + lft T h c k - imn (lft T h c k) r))).set9 (k := k) (lft T h c k)
      rw [← qe] at H3
      have c3 : CLC (u2 (u2 σ2 b 10 (imn 99999 (h 8 1 + lft T h c k - imn (lft T h c k) r))) (b + 9) k (lft T h c k)) T := (c2.u hb (i := 0) (by omega) _).u hb (i := 9) (by omega) _
      obtain ⟨hb1, hb2⟩ := eatP_b hT (c := c) (x := (h, r)) hB hr hk8
      obtain ⟨τ, e4, H4, c4, f4, l4, g4⟩ := dine16_eq hb hT hcn n (k + 1) f _ _ _ (by omega) (by omega) H3 hb1 c3 hb2
      refine ⟨τ, e4, H4, c4, (f2.tr ((FrB.u (i := 0) (by decide) _).tr (FrB.u (i := 9) (by decide) _))).tr f4, fun j hj => ?_, fun j h1 h2 => ?_⟩
      · rw [l4 j (by omega), u2_slot (by omega), u2_ne (by omega), q9]
      · by_cases hjk : j = k
        · subst hjk
          rw [l4 j (by omega), u2_same]
        · rw [g4 j (by omega) h2]
          exact (eatP_eq7 T c k (h, r)).lft c j
    by_cases he : imn (lft T h c k) r ≤ 0
    · rw [if_pos he]
      refine fin σ1 h H1 c1 f1.toB (f1 _ (by rcases hb with rfl | rfl | rfl <;> omega) (by rcases hb with rfl | rfl | rfl <;> omega)) rfl ?_
      simp only [eatP]
      rw [if_pos he]
    · rw [if_neg he, ald_i hk8 (by decide), bd1_s]
      obtain ⟨σ3, e3, c3, f3⟩ := tasteOf_eq hT H1 hB c1 hcn hk8 (imn (lft T h c k) r)
      rw [e3, bd2_s, ast_i hk8 (by decide), bd1_s, H1.1.2.2.2.2.2.2.2 k hk8]
      have H3 := (H1.frL hb f3).set7 (k := k) (imn 99 (h 7 k + tst T h c k (imn (lft T h c k) r)))
      refine fin _ _ H3 (c3.u hb (i := 8) (by omega) _) ((f1.tr f3).toB.tr (FrB.u (i := 8) (by decide) _)) ?_ ?_ ?_
      · rw [u2_ne (by omega), f3 _ (by rcases hb with rfl | rfl | rfl <;> omega) (by rcases hb with rfl | rfl | rfl <;> omega), f1 _ (by rcases hb with rfl | rfl | rfl <;> omega) (by rcases hb with rfl | rfl | rfl <;> omega)]
      · rw [hset_ne (by decide)]
      · simp only [eatP]
        rw [if_neg he]
theorem dine7_eq {b : Nat} (hb : isH b) {T : Tx} (hT : TB T) {D : Int} {dn : Nat} : ∀ (n c : Nat) (f : Nat) (σ : St) (h : Hs) (r : Int32), c + n = 6 → n < f → CH σ b h → HB D dn h → CLC σ T → bt 0 40 r → (c = 6 → ∀ j, j < dn → σ (b + 9) j = lft T h 5 j) →
    ∃ τ, fX0_dine_7 b f r (nI c) σ = some τ ∧ CH τ b (eatA T dn n c (h, r)).1 ∧ CLC τ T ∧ FrB b σ τ ∧ (∀ j, j < dn → τ (b + 9) j = lft T h 5 j)
  | n, c, 0, _, _, _, _, hf, _, _, _, _, _ => absurd hf (Nat.not_lt_zero _)
  | 0, c, f + 1, σ, h, r, hk, _, hH, hB, hc, hr, h9 => by
    have : c = 6 := by omega
    subst this
    rw [fX0_dine_7, if_pos (show (6 : Int32) ≤ nI 6 by decide)]
    exact ⟨σ, rfl, hH, hc, FrB.rf b σ, h9 rfl⟩
  | n + 1, c, f + 1, σ, h, r, hk, hf, hH, hB, hc, hr, h9 => by
    rw [fX0_dine_7, if_neg (show ¬ (6 : Int32) ≤ nI c from nI_ge (b := 6) (by omega) (by decide))]
    obtain ⟨σ1, e1, H1, c1, f1, -, g1⟩ := dine16_eq hb hT (D := D) (dn := dn) (c := c) (by omega) dn 0 FU σ h r (by omega) (FU_lt (by have := hB.dn; omega)) hH hB hc hr
    rw [show (0 : Int32) = nI 0 from rfl, e1, bd2_s, nI_1]
    obtain ⟨hb1, hb2⟩ := eatK_b hT (c := c) dn 0 (h, r) (by have := hB.dn; omega) hB hr
    obtain ⟨τ, e2, H2, c2, f2, g2⟩ := dine7_eq hb hT n (c + 1) f σ1 _ _ (by omega) (by omega) H1 hb1 c1 hb2 (fun h6 j hj => by
      have : c = 5 := by omega
      subst this
      rw [g1 j (by omega) hj]
      exact ((eatK_eq7 T 5 dn 0 (h, r)).lft 5 j).symm)
    refine ⟨τ, e2, H2, c2, f1.tr f2, fun j hj => ?_⟩
    rw [g2 j hj]
    exact (eatK_eq7 T c dn 0 (h, r)).lft 5 j
theorem dine_eq {b : Nat} (hb : isH b) {T : Tx} (hT : TB T) {D : Int} {dn : Nat} {σ : St} {h : Hs} (hH : CH σ b h) (hB : HB D dn h) (hc : CLC σ T) :
    ∃ τ, fX0_dine b σ = some τ ∧ CH τ b (eatA T dn 6 0 (h, h 8 0)).1 ∧ CLC τ T ∧ FrB b σ τ ∧ (∀ j, j < dn → τ (b + 9) j = lft T (eatA T dn 6 0 (h, h 8 0)).1 5 j) := by
  obtain ⟨τ, e, H1, c1, f1, g1⟩ := dine7_eq hb hT 6 0 FU σ h (h 8 0) rfl (FU_lt (by omega)) hH hB hc hB.rm (fun h => absurd h (by decide))
  unfold fX0_dine
  rw [hH.2.1, show (0 : Int32) = nI 0 from rfl, e, bd1_s]
  exact ⟨τ, rfl, H1, c1, f1, fun j hj => by rw [g1 j hj]; exact ((eatA_eq7 T dn 6 0 (h, h 8 0)).lft 5 j).symm⟩
/-- grief, up to one -/
def grvN (T : Tx) (dn m : Nat) (h : Hs) : Hs := fun i j => if i = 5 ∧ j < m then grf T dn h j else h i j
theorem grvN_5 {T : Tx} {dn m k : Nat} {h : Hs} (q : m ≤ k) : grvN T dn m h 5 k = h 5 k := by unfold grvN; rw [if_neg (by omega)]
theorem grvN_ne {T : Tx} {dn m i j : Nat} {h : Hs} (q : i ≠ 5) : grvN T dn m h i j = h i j := by unfold grvN; rw [if_neg (by omega)]
theorem grvN_s {T : Tx} {dn k : Nat} {h : Hs} : hset (grvN T dn k h) 5 k (grf T dn h k) = grvN T dn (k + 1) h := by
  funext i j
  unfold hset grvN
  by_cases hi : i = 5
  · subst hi
    by_cases hj : j = k
    · subst hj; simp
    · by_cases hl : j < k
      · simp [hj, hl, show j < k + 1 by omega]
      · simp [hj, hl, show ¬ j < k + 1 by omega]
  · simp [hi]
theorem grieve2_eq {b : Nat} (hb : isH b) {T : Tx} {D : Int} {dn : Nat} {h : Hs} (hB : HB D dn h) : ∀ (n k : Nat) (f : Nat) (σ : St), k + n = dn → n < f → CH σ b (grvN T dn k h) → CLC σ T → (∀ j, j < dn → σ (b + 9) j = lft T h 5 j) →
    ∃ τ, fX0_grieve_2 b f (nI k) σ = some τ ∧ CH τ b (grvN T dn dn h) ∧ CLC τ T ∧ FrB b σ τ
  | n, k, 0, _, _, hf, _, _, _ => absurd hf (Nat.not_lt_zero _)
  | 0, k, f + 1, σ, hk, _, hH, hc, h9 => by
    have : k = dn := by omega
    subst this
    rw [fX0_grieve_2, hH.2.2.2.2, grvN_ne (by decide), hB.d3, if_pos (show nI k ≤ nI k from nI_le (Nat.le_refl _) (by have := hB.dn; omega))]
    exact ⟨σ, rfl, hH, hc, FrB.rf b σ⟩
  | n + 1, k, f + 1, σ, hk, hf, hH, hc, h9 => by
    have hd8 := hB.dn
    have hk8 : k < 8 := by omega
    have hlo := hB.lon hk8
    rw [fX0_grieve_2, hH.2.2.2.2, grvN_ne (by decide), hB.d3, if_neg (show ¬ nI dn ≤ nI k from nI_ge (by omega) (by omega)), ald_i hk8 (by decide), bd1_s]
    simp only [jn]
    have e6 : σ (b + 7) k = h 6 k := by rw [hH.1.2.2.2.2.2.2.1 k hk8, grvN_ne (by decide)]
    have e5 : σ (b + 6) k = h 5 k := by rw [hH.1.2.2.2.2.2.1 k hk8, grvN_5 (Nat.le_refl _)]
    have ev : h 6 k = nI (h 6 k).toNatClampNeg := (bt_cl (hi := 7) (hB.lo hk8)).2
    have fin : ∀ v, v = grf T dn h k → ∃ τ, (bd1 (ast σ (b + 6) 8 (nI k) v) fun s10 => fX0_grieve_2 b f (nI k + 1) s10) = some τ ∧ CH τ b (grvN T dn dn h) ∧ CLC τ T ∧ FrB b σ τ := by
      intro v hv
      subst hv
      rw [ast_i hk8 (by decide), bd1_s, nI_1]
      have H1 := hH.set5 (k := k) (grf T dn h k)
      rw [grvN_s] at H1
      obtain ⟨τ, e1, H2, c2, f2⟩ := grieve2_eq hb hB n (k + 1) f _ (by omega) (by omega) H1 (hc.u hb (i := 6) (by omega) _) (fun j hj => by rw [u2_ne (by omega)]; exact h9 j hj)
      exact ⟨τ, e1, H2, c2, (FrB.u (i := 6) (by decide) _).tr f2⟩
    have plain : ¬ (¬ (h 6 k).toNatClampNeg = k ∧ (h 6 k).toNatClampNeg < dn ∧ lft T h 5 (h 6 k).toNatClampNeg = 4) → ∃ τ, (bd1 (ald σ (b + 6) 8 (nI k)) fun v5 => bd2 (fX0_mendsOf b (nI k) σ) fun u8 s6 => bd1 (ast s6 (b + 6) 8 (nI k) (imx 0 (v5 - u8))) fun s10 => fX0_grieve_2 b f (nI k + 1) s10) = some τ ∧ CH τ b (grvN T dn dn h) ∧ CLC τ T ∧ FrB b σ τ := by
      intro hn
      rw [ald_i hk8 (by decide), bd1_s, mendsOf_eq hH hk8, bd2_s]
      refine fin _ ?_
      unfold grf
      rw [if_neg hn, e5]
      unfold mnd
      rw [grvN_ne (by decide), grvN_ne (by decide), grvN_ne (by decide)]
    rw [e6]
    by_cases q1 : h 6 k = nI k
    · rw [if_pos q1]
      exact plain (fun q => q.1 (by rw [q1, nI_clamp (by omega)]))
    rw [if_neg q1]
    by_cases q2 : nI dn ≤ h 6 k
    · rw [if_pos q2]
      refine plain (fun q => ?_)
      rw [ev] at q2
      exact nI_ge q.2.1 (by omega) q2
    rw [if_neg q2, ald_b (n := 8) (hB.lo hk8), bd1_s]
    have hlt : (h 6 k).toNatClampNeg < dn := by
      rcases Nat.lt_or_ge (h 6 k).toNatClampNeg dn with q | q
      · exact q
      · exact absurd (by rw [ev]; exact nI_le q (by omega)) q2
    rw [h9 _ hlt]
    by_cases q3 : lft T h 5 (h 6 k).toNatClampNeg = 4
    · rw [if_pos q3, ald_i hk8 (by decide), bd1_s]
      refine fin _ ?_
      unfold grf
      rw [if_pos ⟨fun q => q1 (by rw [ev, q]), hlt, q3⟩, e5]
    · rw [if_neg q3]
      exact plain (fun q => q3 q.2.2)
theorem grieve_eq {b : Nat} (hb : isH b) {T : Tx} {D : Int} {dn : Nat} {h : Hs} {σ : St} (hB : HB D dn h) (hH : CH σ b h) (hc : CLC σ T) (h9 : ∀ j, j < dn → σ (b + 9) j = lft T h 5 j) : ∃ τ, fX0_grieve b σ = some τ ∧ CH τ b (grv T dn h) ∧ CLC τ T ∧ FrB b σ τ := by
  have e0 : grvN T dn 0 h = h := by funext i j; unfold grvN; rw [if_neg (by omega)]
  obtain ⟨τ, e, H1, c1, f1⟩ := grieve2_eq hb hB dn 0 FU σ (by omega) (FU_lt (by have := hB.dn; omega)) (by rw [e0]; exact hH) hc h9
  unfold fX0_grieve
  rw [show (0 : Int32) = nI 0 from rfl, e, bd1_s]
  exact ⟨τ, rfl, H1, c1, f1⟩
theorem HB.eat {D : Int} {dn : Nat} {T : Tx} (hT : TB T) {h : Hs} (hB : HB D dn h) : HB D dn (eatA T dn 6 0 (h, h 8 0)).1 := (eatA_b hT 6 0 (h, h 8 0) hB hB.rm).1
theorem spend2_eq {b : Nat} (hb : isH b) {T : Tx} (hT : TB T) {dn N : Nat} (hN : N ≤ 60) : ∀ (n i : Nat) (f : Nat) (D : Int) (σ : St) (h : Hs), i + n = N → n < f → D + n < 2000000000 → CH σ b h → HB D dn h → CLC σ T →
    ∃ τ, fX0_spend_2 b (nI N) f (nI i) σ = some τ ∧ CH τ b (daysS T dn n h) ∧ HB (D + n) dn (daysS T dn n h) ∧ CLC τ T ∧ FrB b σ τ
  | n, i, 0, _, _, _, _, hf, _, _, _, _ => absurd hf (Nat.not_lt_zero _)
  | 0, i, f + 1, D, σ, h, hi, _, hD, hH, hB, hc => by
    rw [fX0_spend_2, if_pos (show nI N ≤ nI i by rw [← hi]; exact nI_le (Nat.le_refl _) (by omega))]
    exact ⟨σ, rfl, hH, by show HB (D + ((0 : Nat) : Int)) dn h; simpa using hB, hc, FrB.rf b σ⟩
  | n + 1, i, f + 1, D, σ, h, hi, hf, hD, hH, hB, hc => by
    rw [fX0_spend_2, if_neg (show ¬ nI N ≤ nI i from nI_ge (by omega) (by omega))]
    obtain ⟨σ1, e1, H1, c1, f1, g1⟩ := dine_eq hb hT hH hB hc
    rw [e1, bd1_s]
    obtain ⟨σ2, e2, H2, c2, f2⟩ := grieve_eq hb (hB.eat hT) H1 c1 g1
    rw [e2, bd1_s, ptf, bd1_s, nI_1]
    have H3 := H2.set8 (k := 2) (by decide) (h 8 2 + 1)
    have e8 : σ2 b 11 = h 8 2 := by
      rw [H2.2.2.2.1]
      unfold grv
      rw [if_neg (by omega)]
      exact (eatA_eq7 T dn 6 0 (h, h 8 0)).2 2 (by decide)
    rw [e8]
    obtain ⟨τ, e4, H4, b4, c4, f4⟩ := spend2_eq hb hT hN n (i + 1) f (D + 1) _ (dayS T dn h) (by omega) (by omega) (by omega) H3 (dayS_b hT (by omega) hB) (c2.u hb (i := 0) (by omega) _)
    exact ⟨τ, e4, H4, by rw [show D + ((n + 1 : Nat) : Int) = D + 1 + (n : Int) by omega]; exact b4, c4, ((f1.tr f2).tr (FrB.u (i := 0) (by decide) _)).tr f4⟩
theorem spend_eq {b : Nat} (hb : isH b) {T : Tx} (hT : TB T) {dn n : Nat} (hn : n ≤ 60) {D : Int} {σ : St} {h : Hs} (hD : D < 1000000000) (hH : CH σ b h) (hB : HB D dn h) (hc : CLC σ T) :
    ∃ τ, fX0_spend b (nI n) σ = some τ ∧ CH τ b (daysS T dn n h) ∧ HB (D + n) dn (daysS T dn n h) ∧ CLC τ T ∧ FrB b σ τ := by
  obtain ⟨τ, e, q⟩ := spend2_eq hb hT hn n 0 FU D σ h (by omega) (FU_lt (by omega)) (by omega) hH hB hc
  unfold fX0_spend
  rw [show (0 : Int32) = nI 0 from rfl, e, bd1_s]
  exact ⟨τ, rfl, q⟩
