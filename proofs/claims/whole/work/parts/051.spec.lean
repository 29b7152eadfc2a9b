/-! what both sides work out: quarters left by kind, grief that mends -/
abbrev Hs : Type := Nat → Nat → Int32
abbrev Tx : Type := Nat → Int32 → Int32 → Int32 → Int32
def hset (h : Hs) (i j : Nat) (v : Int32) : Hs := fun a b => if a = i then (if b = j then v else h a b) else h a b
theorem hset_same (h : Hs) (i j : Nat) (v : Int32) : hset h i j v i j = v := by simp [hset]
theorem hset_ne {h : Hs} {i j a b : Nat} {v : Int32} (q : a ≠ i) : hset h i j v a b = h a b := by simp [hset, q]
theorem hset_row {h : Hs} {i j a : Nat} {v : Int32} (q : a ≠ i) : hset h i j v a = h a := by funext b; simp [hset, q]
theorem hset_slot {h : Hs} {i j b : Nat} {v : Int32} (q : b ≠ j) : hset h i j v i b = h i b := by simp [hset, q]
def LV (kd m s f g dy : Int32) : Int32 :=
  if kd = 1 then g / 2
  else if kd = 2 then (if s ≤ 5 then (g / 3 + (if f ≤ 5 then 0 else 1)) + 0 else (g / 3 + (if f ≤ 5 then 0 else 1)) + 1)
  else if kd = 3 then (if s + g ≤ 9 then g / 3 + (if f ≤ 5 then 0 else 1) else 4)
  else if kd = 4 then g / 2 - 1
  else if kd = 5 then (if irm dy 2 = 0 then (if s ≤ 5 then (g / 3 + (if f ≤ 5 then 0 else 1)) + 0 else (g / 3 + (if f ≤ 5 then 0 else 1)) + 1) else if m ≤ g then (if s ≤ 5 then (g / 3 + (if f ≤ 5 then 0 else 1)) + 0 else (g / 3 + (if f ≤ 5 then 0 else 1)) + 1) else 4)
  else if kd = 6 then (if s + g ≤ 9 then g / 3 + (if f ≤ 5 then 0 else 1) else 4) + m / 3
  else g / 3 + (if f ≤ 5 then 0 else 1)
def MD (kd m dy : Int32) : Int32 :=
  if kd = 1 then (if irm dy 2 = 0 then 0 else 1)
  else if kd = 2 then 1
  else if kd = 3 then 0
  else if kd = 4 then (if irm dy 2 = 0 then 0 else 1)
  else if kd = 5 then 2
  else if kd = 6 then (if irm m 2 = 0 then 1 else 0)
  else 1
def hS (h : Hs) (c : Nat) : Int32 := h 0 (h 2 c).toNatClampNeg
def hF (h : Hs) (c : Nat) : Int32 := h 1 (h 2 c).toNatClampNeg
def lft (T : Tx) (h : Hs) (c k : Nat) : Int32 := T 0 (LV (h 3 k) (h 4 k) (hS h c) (hF h c) (h 5 k) (h 8 2)) (hS h c) (h 5 k)
def tst (T : Tx) (h : Hs) (c k : Nat) (e : Int32) : Int32 := T 1 e (hS h c) (h 5 k)
def mnd (h : Hs) (k : Nat) : Int32 := MD (h 3 k) (h 4 k) (h 8 2)
def eatP (T : Tx) (c k : Nat) (x : Hs × Int32) : Hs × Int32 :=
  (hset (if imn (lft T x.1 c k) x.2 ≤ 0 then x.1 else hset x.1 7 k (imn 99 (x.1 7 k + tst T x.1 c k (imn (lft T x.1 c k) x.2)))) 8 1 (imn 99999 (x.1 8 1 + lft T x.1 c k - imn (lft T x.1 c k) x.2)), x.2 - imn (lft T x.1 c k) x.2)
def eatK (T : Tx) (c : Nat) : Nat → Nat → Hs × Int32 → Hs × Int32
  | 0, _, x => x
  | n + 1, k, x => eatK T c n (k + 1) (eatP T c k x)
def eatA (T : Tx) (dn : Nat) : Nat → Nat → Hs × Int32 → Hs × Int32
  | 0, _, x => x
  | n + 1, c, x => eatA T dn n (c + 1) (eatK T c dn 0 x)
/-- the grief of one behind the day; h: the house behind the dinner -/
def grf (T : Tx) (dn : Nat) (h : Hs) (k : Nat) : Int32 :=
  if ¬ (h 6 k).toNatClampNeg = k ∧ (h 6 k).toNatClampNeg < dn ∧ lft T h 5 (h 6 k).toNatClampNeg = 4 then imn 9 (h 5 k + 1) else imx 0 (h 5 k - mnd h k)
def grv (T : Tx) (dn : Nat) (h : Hs) : Hs := fun i j => if i = 5 ∧ j < dn then grf T dn h j else h i j
def dayS (T : Tx) (dn : Nat) (h : Hs) : Hs := hset (grv T dn (eatA T dn 6 0 (h, h 8 0)).1) 8 2 (h 8 2 + 1)
def daysS (T : Tx) (dn : Nat) : Nat → Hs → Hs
  | 0, h => h
  | n + 1, h => daysS T dn n (dayS T dn h)
/-! bounds -/
def HB (D : Int) (dn : Nat) (h : Hs) : Prop :=
  dn ≤ 8 ∧ h 8 3 = nI dn ∧ (∀ j, j < 16 → bt 0 9 (h 0 j)) ∧ (∀ j, j < 16 → bt 0 9 (h 1 j)) ∧ (∀ j, j < 6 → bt 0 15 (h 2 j)) ∧ (∀ j, j < 8 → bt 0 6 (h 3 j)) ∧ (∀ j, j < 8 → bt 0 9 (h 4 j)) ∧ (∀ j, j < 8 → bt 0 9 (h 5 j)) ∧ (∀ j, j < 8 → bt 0 7 (h 6 j)) ∧ (∀ j, j < 8 → bt 0 99 (h 7 j)) ∧ bt 0 40 (h 8 0) ∧ bt 0 99999 (h 8 1) ∧ bt 0 D (h 8 2)
def TB (T : Tx) : Prop := ∀ a b c, bt 0 4 (T 0 a b c) ∧ bt 0 9 (T 1 a b c)
theorem HB.dn {D : Int} {dn : Nat} {h : Hs} (q : HB D dn h) : dn ≤ 8 := q.1
theorem HB.d3 {D : Int} {dn : Nat} {h : Hs} (q : HB D dn h) : h 8 3 = nI dn := q.2.1
theorem HB.sw {D : Int} {dn : Nat} {h : Hs} (q : HB D dn h) {j : Nat} (hj : j < 16) : bt 0 9 (h 0 j) := q.2.2.1 j hj
theorem HB.ft {D : Int} {dn : Nat} {h : Hs} (q : HB D dn h) {j : Nat} (hj : j < 16) : bt 0 9 (h 1 j) := q.2.2.2.1 j hj
theorem HB.sv {D : Int} {dn : Nat} {h : Hs} (q : HB D dn h) {j : Nat} (hj : j < 6) : bt 0 15 (h 2 j) := q.2.2.2.2.1 j hj
theorem HB.kd {D : Int} {dn : Nat} {h : Hs} (q : HB D dn h) {j : Nat} (hj : j < 8) : bt 0 6 (h 3 j) := q.2.2.2.2.2.1 j hj
theorem HB.mm {D : Int} {dn : Nat} {h : Hs} (q : HB D dn h) {j : Nat} (hj : j < 8) : bt 0 9 (h 4 j) := q.2.2.2.2.2.2.1 j hj
theorem HB.gr {D : Int} {dn : Nat} {h : Hs} (q : HB D dn h) {j : Nat} (hj : j < 8) : bt 0 9 (h 5 j) := q.2.2.2.2.2.2.2.1 j hj
theorem HB.lo {D : Int} {dn : Nat} {h : Hs} (q : HB D dn h) {j : Nat} (hj : j < 8) : bt 0 7 (h 6 j) := q.2.2.2.2.2.2.2.2.1 j hj
theorem HB.kn {D : Int} {dn : Nat} {h : Hs} (q : HB D dn h) {j : Nat} (hj : j < 8) : bt 0 99 (h 7 j) := q.2.2.2.2.2.2.2.2.2.1 j hj
theorem HB.rm {D : Int} {dn : Nat} {h : Hs} (q : HB D dn h) : bt 0 40 (h 8 0) := q.2.2.2.2.2.2.2.2.2.2.1
theorem HB.pg {D : Int} {dn : Nat} {h : Hs} (q : HB D dn h) : bt 0 99999 (h 8 1) := q.2.2.2.2.2.2.2.2.2.2.2.1
theorem HB.dy {D : Int} {dn : Nat} {h : Hs} (q : HB D dn h) : bt 0 D (h 8 2) := q.2.2.2.2.2.2.2.2.2.2.2.2
theorem HB.svn {D : Int} {dn : Nat} {h : Hs} (q : HB D dn h) {c : Nat} (hc : c < 6) : (h 2 c).toNatClampNeg < 16 := by
  have := (bt_cl (hi := 15) (q.sv hc)).1; omega
theorem HB.hS {D : Int} {dn : Nat} {h : Hs} (q : HB D dn h) {c : Nat} (hc : c < 6) : bt 0 9 (hS h c) := q.sw (q.svn hc)
theorem HB.lon {D : Int} {dn : Nat} {h : Hs} (q : HB D dn h) {k : Nat} (hk : k < 8) : (h 6 k).toNatClampNeg < 8 := by
  have := (bt_cl (hi := 7) (q.lo hk)).1; omega
theorem lft_b {T : Tx} (hT : TB T) (h : Hs) (c k : Nat) : bt 0 4 (lft T h c k) := (hT _ _ _).1
theorem tst_b {T : Tx} (hT : TB T) (h : Hs) (c k : Nat) (e : Int32) : bt 0 9 (tst T h c k e) := (hT _ _ _).2
/-- what is left, tasted and mended doesn't hang on how well one is known, nor on the pigs -/
theorem lft_congr {T : Tx} {h h' : Hs} (q0 : h' 0 = h 0) (q1 : h' 1 = h 1) (q2 : h' 2 = h 2) (q3 : h' 3 = h 3) (q4 : h' 4 = h 4) (q5 : h' 5 = h 5) (q8 : h' 8 2 = h 8 2) (c k : Nat) : lft T h' c k = lft T h c k := by
  unfold lft hS hF; rw [q0, q1, q2, q3, q4, q5, q8]
theorem tst_congr {T : Tx} {h h' : Hs} (q0 : h' 0 = h 0) (q2 : h' 2 = h 2) (q5 : h' 5 = h 5) (c k : Nat) (e : Int32) : tst T h' c k e = tst T h c k e := by
  unfold tst hS; rw [q0, q2, q5]
/-- all but known and pigs stays -/
def Eq7 (h h' : Hs) : Prop := (∀ i, i ≠ 7 → i ≠ 8 → h' i = h i) ∧ ∀ j, j ≠ 1 → h' 8 j = h 8 j
theorem Eq7.rf (h : Hs) : Eq7 h h := ⟨fun _ _ _ => rfl, fun _ _ => rfl⟩
theorem Eq7.tr {a b c : Hs} (p : Eq7 a b) (q : Eq7 b c) : Eq7 a c := ⟨fun i h1 h2 => (q.1 i h1 h2).trans (p.1 i h1 h2), fun j h => (q.2 j h).trans (p.2 j h)⟩
theorem Eq7.lft {T : Tx} {h h' : Hs} (p : Eq7 h h') (c k : Nat) : lft T h' c k = lft T h c k := lft_congr (p.1 0 (by decide) (by decide)) (p.1 1 (by decide) (by decide)) (p.1 2 (by decide) (by decide)) (p.1 3 (by decide) (by decide)) (p.1 4 (by decide) (by decide)) (p.1 5 (by decide) (by decide)) (p.2 2 (by decide)) c k
theorem eatP_eq7 (T : Tx) (c k : Nat) (x : Hs × Int32) : Eq7 x.1 (eatP T c k x).1 := by
  constructor
  · intro i h7 h8
    simp only [eatP]
    rw [hset_row h8]
    split
    · rfl
    · rw [hset_row h7]
  · intro j hj
    simp only [eatP]
    rw [hset_slot hj]
    split
    · rfl
    · rw [hset_ne (by decide)]
theorem eatK_eq7 (T : Tx) (c : Nat) : ∀ (n k : Nat) (x : Hs × Int32), Eq7 x.1 (eatK T c n k x).1
  | 0, _, x => Eq7.rf _
  | n + 1, k, x => (eatP_eq7 T c k x).tr (eatK_eq7 T c n (k + 1) _)
theorem eatA_eq7 (T : Tx) (dn : Nat) : ∀ (n c : Nat) (x : Hs × Int32), Eq7 x.1 (eatA T dn n c x).1
  | 0, _, x => Eq7.rf _
  | n + 1, c, x => (eatK_eq7 T c dn 0 x).tr (eatA_eq7 T dn n (c + 1) _)
/-- the bounds of a dinner: what she eats of a plate -/
theorem eat_e {l r : Int32} (hl : bt 0 4 l) (hr : bt 0 40 r) : bt 0 4 (imn l r) ∧ bt 0 40 (r - imn l r) ∧ (imn l r).toInt ≤ l.toInt := by
  have h1 := hl.1
  have h2 := hl.2
  have h3 := hr.1
  have h4 := hr.2
  have he := imn_I l r
  have hb : bt 0 4 (imn l r) := by
    unfold bt; rw [he]; split <;> omega
  have hs := sub_I hr hb
  refine ⟨hb, ?_, ?_⟩
  · unfold bt; rw [hs, he]; split <;> omega
  · rw [he]; split <;> omega
theorem eatP_b {D : Int} {dn : Nat} {T : Tx} (hT : TB T) {c k : Nat} {x : Hs × Int32} (hb : HB D dn x.1) (hr : bt 0 40 x.2) (hk : k < 8) : HB D dn (eatP T c k x).1 ∧ bt 0 40 (eatP T c k x).2 := by
  have hl := lft_b hT x.1 c k
  obtain ⟨e1, e2, e3⟩ := eat_e hl hr
  have q := eatP_eq7 T c k x
  refine ⟨⟨hb.1, ?_, ?_, ?_, ?_, ?_, ?_, ?_, ?_, ?_, ?_, ?_, ?_⟩, e2⟩
  · rw [q.2 3 (by decide)]; exact hb.d3
  · intro j hj; rw [q.1 0 (by decide) (by decide)]; exact hb.sw hj
  · intro j hj; rw [q.1 1 (by decide) (by decide)]; exact hb.ft hj
  · intro j hj; rw [q.1 2 (by decide) (by decide)]; exact hb.sv hj
  · intro j hj; rw [q.1 3 (by decide) (by decide)]; exact hb.kd hj
  · intro j hj; rw [q.1 4 (by decide) (by decide)]; exact hb.mm hj
  · intro j hj; rw [q.1 5 (by decide) (by decide)]; exact hb.gr hj
  · intro j hj; rw [q.1 6 (by decide) (by decide)]; exact hb.lo hj
  · intro j hj
    simp only [eatP]
    rw [hset_ne (by decide)]
    split
    · exact hb.kn hj
    · by_cases hjk : j = k
      · subst hjk
        rw [hset_same]
        have a1 := hb.kn hj
        have a2 := tst_b hT x.1 c j (imn (lft T x.1 c j) x.2)
        have a3 := add_I a1 a2
        have a4 := imn_I 99 (x.1 7 j + tst T x.1 c j (imn (lft T x.1 c j) x.2))
        have a5 : (99 : Int32).toInt = 99 := by decide
        have := a1.1; have := a1.2; have := a2.1; have := a2.2
        unfold bt; rw [a4, a3, a5]; split <;> omega
      · rw [hset_slot hjk]; exact hb.kn hj
  · rw [q.2 0 (by decide)]; exact hb.rm
  · simp only [eatP]
    rw [hset_same]
    have a1 := hb.pg
    have a3 := add_I a1 hl
    have a6 : bt 0 100003 (x.1 8 1 + lft T x.1 c k) := by have := a1.1; have := a1.2; have := hl.1; have := hl.2; unfold bt; rw [a3]; omega
    have a7 := sub_I a6 e1
    have a4 := imn_I 99999 (x.1 8 1 + lft T x.1 c k - imn (lft T x.1 c k) x.2)
    have a5 : (99999 : Int32).toInt = 99999 := by decide
    have := a1.1; have := a1.2; have := hl.1; have := hl.2; have := e1.1; have := e1.2
    unfold bt; rw [a4, a7, a3, a5]; split <;> omega
  · rw [q.2 2 (by decide)]; exact hb.dy
theorem eatK_b {D : Int} {dn : Nat} {T : Tx} (hT : TB T) {c : Nat} : ∀ (n k : Nat) (x : Hs × Int32), k + n ≤ 8 → HB D dn x.1 → bt 0 40 x.2 → HB D dn (eatK T c n k x).1 ∧ bt 0 40 (eatK T c n k x).2
  | 0, _, x, _, hb, hr => ⟨hb, hr⟩
  | n + 1, k, x, hk, hb, hr => by
    obtain ⟨h1, h2⟩ := eatP_b hT (c := c) hb hr (show k < 8 by omega)
    exact eatK_b hT n (k + 1) _ (by omega) h1 h2
theorem eatA_b {D : Int} {dn : Nat} {T : Tx} (hT : TB T) : ∀ (n c : Nat) (x : Hs × Int32), HB D dn x.1 → bt 0 40 x.2 → HB D dn (eatA T dn n c x).1 ∧ bt 0 40 (eatA T dn n c x).2
  | 0, _, x, hb, hr => ⟨hb, hr⟩
  | n + 1, c, x, hb, hr => by
    obtain ⟨h1, h2⟩ := eatK_b hT (c := c) dn 0 x (by have := hb.dn; omega) hb hr
    exact eatA_b hT n (c + 1) _ h1 h2
theorem MD_b (kd m dy : Int32) : bt 0 2 (MD kd m dy) := by
  unfold MD
  repeat' split
  all_goals exact ⟨by decide, by decide⟩
theorem grf_b {D : Int} {dn : Nat} {T : Tx} {h : Hs} (hb : HB D dn h) {k : Nat} (hk : k < 8) : bt 0 9 (grf T dn h k) := by
  have g := hb.gr hk
  have g1 := g.1
  have g2 := g.2
  unfold grf
  split
  · have a := add_I g (show bt 1 1 (1 : Int32) from ⟨by decide, by decide⟩)
    have b := imn_I 9 (h 5 k + 1)
    have e9 : (9 : Int32).toInt = 9 := by decide
    have e1 : (1 : Int32).toInt = 1 := by decide
    unfold bt; rw [b, a, e9, e1]; split <;> omega
  · have m := MD_b (h 3 k) (h 4 k) (h 8 2)
    have m1 := m.1
    have m2 := m.2
    have a := sub_I g m
    have b := imx_I 0 (h 5 k - mnd h k)
    have e0 : (0 : Int32).toInt = 0 := by decide
    unfold bt; rw [b, e0]; unfold mnd; rw [a]; split <;> omega
theorem dayS_b {D : Int} {dn : Nat} {T : Tx} (hT : TB T) {h : Hs} (hD : D < 2000000000) (hb : HB D dn h) : HB (D + 1) dn (dayS T dn h) := by
  obtain ⟨b1, -⟩ := eatA_b hT 6 0 (h, h 8 0) hb hb.rm
  have q := eatA_eq7 T dn 6 0 (h, h 8 0)
  have gr : ∀ i j, ¬ (i = 5 ∧ j < dn) → grv T dn (eatA T dn 6 0 (h, h 8 0)).1 i j = (eatA T dn 6 0 (h, h 8 0)).1 i j := fun i j hn => by unfold grv; rw [if_neg hn]
  unfold dayS
  refine ⟨hb.1, ?_, ?_, ?_, ?_, ?_, ?_, ?_, ?_, ?_, ?_, ?_, ?_⟩
  · rw [hset_slot (by decide), gr _ _ (by omega)]; exact b1.d3
  · intro j hj; rw [hset_ne (by decide), gr _ _ (by omega)]; exact b1.sw hj
  · intro j hj; rw [hset_ne (by decide), gr _ _ (by omega)]; exact b1.ft hj
  · intro j hj; rw [hset_ne (by decide), gr _ _ (by omega)]; exact b1.sv hj
  · intro j hj; rw [hset_ne (by decide), gr _ _ (by omega)]; exact b1.kd hj
  · intro j hj; rw [hset_ne (by decide), gr _ _ (by omega)]; exact b1.mm hj
  · intro j hj
    rw [hset_ne (by decide)]
    unfold grv
    split
    · exact grf_b b1 hj
    · exact b1.gr hj
  · intro j hj; rw [hset_ne (by decide), gr _ _ (by omega)]; exact b1.lo hj
  · intro j hj; rw [hset_ne (by decide), gr _ _ (by omega)]; exact b1.kn hj
  · rw [hset_slot (by decide), gr _ _ (by omega)]; exact b1.rm
  · rw [hset_slot (by decide), gr _ _ (by omega)]; exact b1.pg
  · rw [hset_same]
    have d := hb.dy
    have a := fb_addI (x := h 8 2) (y := 1) (by have := d.1; have : (1 : Int32).toInt = 1 := by decide
                                                omega) (by have := d.2; have : (1 : Int32).toInt = 1 := by decide
                                                           omega)
    have e1 : (1 : Int32).toInt = 1 := by decide
    have := d.1
    have := d.2
    unfold bt; rw [a, e1]; omega
