/-! the act of text -/
def hdl (lim v : Int32) : Int32 := if 0 ≤ v then (if v ≤ lim then v else lim) else 0
theorem hdl_eq (v lim : Int32) (s : St) : fX9_held v 0 lim s = some (hdl lim v, s) := by
  unfold fX9_held hdl
  by_cases a : 0 ≤ v
  · rw [if_pos a, if_pos a]
    by_cases b : v ≤ lim
    · rw [if_pos b, if_pos b]
    · rw [if_neg b, if_neg b]
  · rw [if_neg a, if_neg a]
theorem imx_hdl {lim : Int32} (hl : 0 ≤ lim.toInt) (v : Int32) : imx 0 (imn lim v) = hdl lim v := by
  have z : (0 : Int32).toInt = 0 := by decide
  unfold imx imn hdl
  by_cases b : lim > v
  · have b' := i_lt.mp b
    rw [if_pos b]
    by_cases a : (0 : Int32) < v
    · have a' := i_lt.mp a
      rw [if_pos a, if_pos (i_le.mpr (by omega)), if_pos (i_le.mpr (by omega))]
    · have a' : ¬ (0 : Int32).toInt < v.toInt := fun w => a (i_lt.mpr w)
      rw [if_neg a]
      by_cases c : (0 : Int32) ≤ v
      · have c' := i_le.mp c
        rw [if_pos c, if_pos (i_le.mpr (by omega))]
        exact i_eq.mpr (by omega)
      · rw [if_neg c]
  · have b' : ¬ v.toInt < lim.toInt := fun w => b (i_lt.mpr w)
    rw [if_neg b, if_pos (show (0 : Int32) ≤ v from i_le.mpr (by omega))]
    by_cases c : v ≤ lim
    · have c' := i_le.mp c
      rw [if_pos c]
      by_cases a : (0 : Int32) < lim
      · rw [if_pos a]; exact i_eq.mpr (by omega)
      · have a' : ¬ (0 : Int32).toInt < lim.toInt := fun w => a (i_lt.mpr w)
        rw [if_neg a]; exact i_eq.mpr (by omega)
    · rw [if_neg c]
      by_cases a : (0 : Int32) < lim
      · rw [if_pos a]
      · have a' : ¬ (0 : Int32).toInt < lim.toInt := fun w => a (i_lt.mpr w)
        rw [if_neg a]; exact i_eq.mpr (by omega)
theorem hdl_b {lim v : Int32} {L : Int} (hl : lim.toInt = L) (h0 : 0 ≤ L) : bt 0 L (hdl lim v) := by
  have z : (0 : Int32).toInt = 0 := by decide
  unfold hdl bt
  by_cases a : 0 ≤ v
  · have a' := i_le.mp a
    rw [if_pos a]
    by_cases b : v ≤ lim
    · have b' := i_le.mp b
      rw [if_pos b]; omega
    · rw [if_neg b]; omega
  · rw [if_neg a]; omega
def lim (u : Nat) : Int32 := if u = 0 then 4 else 9
theorem cl_new {u : Nat} (hu : u ≤ 1) {cs : List Int32} {ev : Int32 → Int32 → Int32 → Int32} (hl : cs.length ≤ 50) (hr : Rn cs ev) {s : St} (h1 : s (16 + 2 * u) 1 = nI cs.length) (h2 : ∀ i, i < cs.length → cs[i]? = some (s (17 + 2 * u) i)) (a b c : Int32) : ∃ t, fX2_workedOut (nI u) a b c s = some (hdl (lim u) (ev a b c), t) ∧ ∀ k, k ≠ 50 → t k = s k := by
  obtain ⟨t, e, k1, k2⟩ := wo_loop (b := 16 + 2 * u) (N := cs.length) hl (by rcases (show u = 0 ∨ u = 1 by omega) with rfl | rfl <;> rfl) (by omega) (by omega) (nI u) a b c cs rfl cs 0 FU s [] (by omega) (fun j h => by rw [Nat.zero_add]; exact List.getElem?_eq_getElem h) h1 (fun j hj => by rw [show 16 + 2 * u + 1 = 17 + 2 * u by omega]; exact h2 j hj) (FU_lt (by omega)) (by simp) (fun i h => absurd h (Nat.not_lt_zero _))
  rw [hr a b c []] at e k1
  have et : t 50 0 = ev a b c := k1 0 (by simp)
  refine ⟨t, ?_, k2⟩
  unfold fX2_workedOut
  simp only [jn]
  have e' : fX2_workedOut_23 (nI u) a b c (16 + 2 * u) FU 0 0 s = some (nI 1, t) := e
  rcases (show u = 0 ∨ u = 1 by omega) with rfl | rfl
  · rw [if_pos (show nI 0 = (0 : Int32) from rfl), show fX2_workedOut_23 (nI 0) a b c 16 FU 0 0 s = some (nI 1, t) from e', bd2_s, if_neg (show ¬ nI 1 ≤ (0 : Int32) by decide), show nI 1 - 1 = nI 0 by decide, ald_i (by decide) (by decide), bd1_s, if_pos (show nI 0 = (0 : Int32) from rfl), et, imx_hdl (by decide)]
    rfl
  · rw [if_neg (show ¬ nI 1 = (0 : Int32) by decide), show fX2_workedOut_23 (nI 1) a b c 18 FU 0 0 s = some (nI 1, t) from e', bd2_s, if_neg (show ¬ nI 1 ≤ (0 : Int32) by decide), show nI 1 - 1 = nI 0 by decide, ald_i (by decide) (by decide), bd1_s, if_neg (show ¬ nI 1 = (0 : Int32) by decide), et, imx_hdl (by decide)]
    rfl
theorem walks_eq {N u : Nat} {B : Nat → Int32} (hu : u ≤ 1) (hN : N ≤ 50) {ok : Bool} {p' : Nat} {ev : Int32 → Int32 → Int32 → Int32} (hp : p' ≤ N) (m : MR N u B 5 36 0 0 ok p' ev) {s : St} (h1 : s 1 (7 + u) = nI N) (h2 : ∀ i, i < N → s 1 (157 + 50 * u + i) = B i) (a b c : Int32) : ∃ v t, fX9_walks (nI u) a b c s = some (v, t) ∧ FrM s t ∧ t 0 8 = nI p' ∧ t 0 14 = (if ok = true ∧ p' = N then 1 else 0) ∧ (ok = true → v = ev a b c) := by
  unfold fX9_walks
  simp only [ptf, bd1_s, jn]
  rw [show (7 : Int32) + nI u = nI (7 + u) by rw [show (7 : Int32) = nI 7 from rfl, nI_add], ald_i (show 7 + u < 257 by omega) (by decide), bd1_s, u2_ne (show (1 : Nat) ≠ 0 by decide), u2_ne (show (1 : Nat) ≠ 0 by decide), h1]
  have hM : MS N u B (u2 (u2 (u2 (u2 (u2 (u2 (u2 (u2 s 0 7 (nI u)) 0 8 0) 0 9 (nI N)) 0 10 0) 0 14 1) 0 11 a) 0 12 b) 0 13 c) 0 0 true := by
    refine ⟨hu, ?_, ?_, ?_, ?_, ?_, fun i hi => ?_⟩
    · rw [u2_slot (by decide), u2_slot (by decide), u2_slot (by decide), u2_slot (by decide), u2_slot (by decide), u2_slot (by decide), u2_slot (by decide), u2_same]
    · rw [u2_slot (by decide), u2_slot (by decide), u2_slot (by decide), u2_slot (by decide), u2_slot (by decide), u2_slot (by decide), u2_same]; rfl
    · rw [u2_slot (by decide), u2_slot (by decide), u2_slot (by decide), u2_slot (by decide), u2_slot (by decide), u2_same]
    · rw [u2_slot (by decide), u2_slot (by decide), u2_slot (by decide), u2_slot (by decide), u2_same]; rfl
    · rw [u2_slot (by decide), u2_slot (by decide), u2_slot (by decide), u2_same]; rfl
    · rw [u2_ne (by decide), u2_ne (by decide), u2_ne (by decide), u2_ne (by decide), u2_ne (by decide), u2_ne (by decide), u2_ne (by decide), u2_ne (by decide)]; exact h2 i hi
  obtain ⟨v, t, e, f, M, ve⟩ := m RF _ (by decide) hM
  rw [e, bd2_s, M.2.2.2.2.2.1, M.2.2.1, M.2.2.2.1]
  have F : FrM s t := ⟨fun k hk => by rw [f.1 k hk, u2_ne hk, u2_ne hk, u2_ne hk, u2_ne hk, u2_ne hk, u2_ne hk, u2_ne hk, u2_ne hk], fun j hj => by rw [f.2 j (by omega) (by omega) (by omega), u2_slot (by omega), u2_slot (by omega), u2_slot (by omega), u2_slot (by omega), u2_slot (by omega), u2_slot (by omega), u2_slot (by omega), u2_slot (by omega)]⟩
  have F' : ∀ x : Int32, FrM s (u2 t 0 14 x) := fun x => ⟨fun k hk => by rw [u2_ne hk]; exact F.1 k hk, fun j hj => by rw [u2_slot (by omega)]; exact F.2 j hj⟩
  have ve' : ok = true → v = ev a b c := fun w => by
    have := ve w
    rw [u2_slot (by decide), u2_slot (by decide), u2_same, u2_slot (by decide), u2_same, u2_same] at this
    exact this
  have q8 : ∀ x : Int32, u2 t 0 14 x 0 8 = nI p' := fun x => by rw [u2_slot (by decide)]; exact M.2.2.1
  cases ok with
  | false =>
    rw [if_pos (show gd false = 0 from rfl)]
    exact ⟨v, _, rfl, F' 0, q8 0, by rw [u2_same, if_neg (by simp)], ve'⟩
  | true =>
    rw [if_neg (show ¬ gd true = 0 by decide)]
    by_cases q : p' = N
    · rw [q, if_pos rfl]
      exact ⟨v, _, rfl, F' 1, by rw [← q]; exact q8 1, by rw [u2_same, if_pos ⟨rfl, rfl⟩], ve'⟩
    · rw [if_neg (fun w => q ((nI_eq (by omega) (by omega)).mp w))]
      exact ⟨v, _, rfl, F' 0, q8 0, by rw [u2_same, if_neg (fun w => q w.2)], ve'⟩
theorem ml_new {N u : Nat} {B : Nat → Int32} (hu : u ≤ 1) (hN : N ≤ 50) {ev : Int32 → Int32 → Int32 → Int32} (m : MR N u B 5 36 0 0 true N ev) {s : St} (h1 : s 1 (7 + u) = nI N) (h2 : ∀ i, i < N → s 1 (157 + 50 * u + i) = B i) (a b c : Int32) : ∃ t, fX9_worked (nI u) a b c s = some (hdl (lim u) (ev a b c), t) ∧ FrM s t := by
  obtain ⟨v, t, e, f, -, -, ve⟩ := walks_eq hu hN (Nat.le_refl _) m h1 h2 a b c
  refine ⟨t, ?_, f⟩
  unfold fX9_worked
  simp only [jn]
  rw [show (7 : Int32) + nI u = nI (7 + u) by rw [show (7 : Int32) = nI 7 from rfl, nI_add], ald_i (show 7 + u < 257 by omega) (by decide), bd1_s, h1, if_neg (nI_pos (by omega)), e, bd2_s, ve rfl]
  rcases (show u = 0 ∨ u = 1 by omega) with rfl | rfl
  · rw [if_pos (show nI 0 = (0 : Int32) from rfl), hdl_eq, bd2_s]; rfl
  · rw [if_neg (show ¬ nI 1 = (0 : Int32) by decide), hdl_eq, bd2_s]; rfl
theorem text_cp {u : Nat} (hu : u ≤ 1) : ∀ (n i f : Nat) (s : St), i + n = 50 → n < f → ∃ t, fX9_text_30 (nI u) f (nI i) s = some t ∧ (∀ k, k ≠ 1 → t k = s k) ∧ (∀ j, j < 157 + 50 * u + i ∨ 207 + 50 * u ≤ j → t 1 j = s 1 j) ∧ ∀ j, i ≤ j → j < 50 → t 1 (157 + 50 * u + j) = s 1 (87 + j)
  | n, i, 0, _, _, hf => absurd hf (Nat.not_lt_zero _)
  | 0, i, f + 1, s, hi, _ => by
    have : i = 50 := by omega
    subst this
    rw [fX9_text_30, if_pos (show (50 : Int32) ≤ nI 50 by decide)]
    exact ⟨s, rfl, fun _ _ => rfl, fun _ _ => rfl, fun j h1 h2 => by omega⟩
  | n + 1, i, f + 1, s, hi, hf => by
    rw [fX9_text_30, if_neg (show ¬ (50 : Int32) ≤ nI i from nI_ge (b := 50) (by omega) (by decide)), ald1 (x := 87 + nI i) (i := 87 + i) (by rw [show (87 : Int32) = nI 87 from rfl, nI_add]) (by omega), bd1_s, ast1 (x := 157 + 50 * nI u + nI i) (i := 157 + 50 * u + i) (by rw [show (50 : Int32) = nI 50 from rfl, pk_mul, show (157 : Int32) = nI 157 from rfl, nI_add, nI_add]) (by omega), bd1_s, nI_1]
    obtain ⟨t, e, h1, h2, h3⟩ := text_cp hu n (i + 1) f (u2 s 1 (157 + 50 * u + i) (s 1 (87 + i))) (by omega) (by omega)
    refine ⟨t, e, fun k hk => by rw [h1 k hk, u2_ne hk], fun j hj => by rw [h2 j (by omega), u2_slot (by omega)], fun j h4 h5 => ?_⟩
    by_cases q : j = i
    · subst q; rw [h2 _ (by omega), u2_same]
    · rw [h3 j (by omega) h5, u2_slot (by omega)]
theorem MH.of2 {r r' : Nat → Int32} {h : Hs} (a2 : MH r h) (d : ∀ j, j < 87 → j ≠ 1 → j ≠ 5 → j ≠ 6 → j ≠ 7 → j ≠ 8 → r' j = r j) : MH r' h := by
  obtain ⟨⟨b0, b1, b2, b3⟩, b4, b5, b6⟩ := a2
  refine ⟨⟨by rw [d _ (by decide) (by decide) (by decide) (by decide) (by decide) (by decide)]; exact b0, by rw [d _ (by decide) (by decide) (by decide) (by decide) (by decide) (by decide)]; exact b1, by rw [d _ (by decide) (by decide) (by decide) (by decide) (by decide) (by decide)]; exact b2, by rw [d _ (by decide) (by decide) (by decide) (by decide) (by decide) (by decide)]; exact b3⟩, fun i hi => ?_, fun i hi => ?_, fun i hi => ?_⟩
  · rw [d _ (by omega) (by omega) (by omega) (by omega) (by omega) (by omega), d _ (by omega) (by omega) (by omega) (by omega) (by omega) (by omega)]; exact b4 i hi
  · rw [d _ (by omega) (by omega) (by omega) (by omega) (by omega) (by omega)]; exact b5 i hi
  · rw [d _ (by omega) (by omega) (by omega) (by omega) (by omega) (by omega), d _ (by omega) (by omega) (by omega) (by omega) (by omega) (by omega), d _ (by omega) (by omega) (by omega) (by omega) (by omega) (by omega), d _ (by omega) (by omega) (by omega) (by omega) (by omega) (by omega), d _ (by omega) (by omega) (by omega) (by omega) (by omega) (by omega)]; exact b6 i hi
theorem read_c {σ : St} {N u : Nat} {B : Nat → Int32} (hu : u ≤ 1) (hN : N ≤ 50) (w1 : σ 12 1 = nI N) (w3 : ∀ i, i < N → σ 13 i = B i) (hb : ∀ i, i < N → bt 0 255 (B i)) : ∃ (ok : Bool) (p' : Nat) (cs : List Int32) (ev : Int32 → Int32 → Int32 → Int32) (σ2 : St), fX3_faultFor (nI u) σ = some (if ok = true ∧ p' = N then -1 else nI p', σ2) ∧ (∀ k, k ≠ 52 → k ≠ 53 → k ≠ 54 → σ2 k = σ k) ∧ σ2 53 1 = nI cs.length ∧ (∀ i, i < cs.length → cs[i]? = some (σ2 54 i)) ∧ cs.length ≤ 50 ∧ p' ≤ N ∧ (ok = true → Rn cs ev) ∧ MR N u B 5 36 0 0 ok p' ev := by
  have hC : CS σ N u B (u2 (u2 (u2 (u2 σ 52 2 (nI u)) 52 3 0) 52 4 0) 53 1 0) 0 true [] := by
    refine ⟨fun k k1 k2 k3 => by rw [u2_ne k2, u2_ne k1, u2_ne k1, u2_ne k1], w1, w3, hN, hb, ?_, ?_, ?_, ?_, fun i hi => absurd hi (Nat.not_lt_zero _)⟩
    · rw [u2_ne (by decide), u2_slot (by decide), u2_slot (by decide), u2_same]
    · rw [u2_ne (by decide), u2_slot (by decide), u2_same]; rfl
    · rw [u2_ne (by decide), u2_same]; rfl
    · rw [u2_same]; rfl
  have hJ := (jall (σ0 := σ) (N := N) (B := B) hu 5 0 rfl).2
  unfold JL JR at hJ
  obtain ⟨ok, p', cs, ev, σ2, e2, C2, l2, L2, r2, m2⟩ := hJ 0 RF _ [] hC (by omega) (by simp) (by unfold RF; omega)
  rw [List.nil_append] at C2
  refine ⟨ok, p', cs, ev, σ2, ?_, C2.1, C2.2.2.2.2.2.2.2.2.1, C2.2.2.2.2.2.2.2.2.2, by omega, L2, r2, m2⟩
  have cfl : σ2 52 4 = fl ok := C2.2.2.2.2.2.2.2.1
  have cpl : σ2 52 3 = nI p' := C2.2.2.2.2.2.2.1
  have c12 : σ2 12 1 = nI N := by rw [C2.1 12 (by decide) (by decide) (by decide)]; exact w1
  unfold fX3_faultFor
  simp only [ptf, bd1_s, jn]
  rw [show grp_X3_readLevel RF 0 [0, 0] (u2 (u2 (u2 (u2 σ 52 2 (nI u)) 52 3 0) 52 4 0) 53 1 0) = some (0, σ2) from e2, bd2_s, cfl, cpl, c12]
  cases ok with
  | false => rw [if_neg (by decide), if_neg (by simp)]
  | true =>
    rw [if_pos (show fl true = 0 from rfl)]
    by_cases q : p' = N
    · rw [if_pos (nI_le (by omega) (by omega)), if_pos ⟨rfl, q⟩]
    · rw [if_neg (nI_ge (by omega) (by omega)), if_neg (fun w => q w.2)]
