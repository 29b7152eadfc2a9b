/-! reading a text: each level -/
theorem jnd37 (x y : Int32) : jnd 37 x y = if y = 0 then 0 else irm x y := rfl
theorem jnd38 (x y : Int32) : jnd 38 x y = if x = 0 then 0 else if y = 0 then 0 else 1 := rfl
theorem jnd42 (x y : Int32) : jnd 42 x y = x * y := rfl
theorem jnd43 (x y : Int32) : jnd 43 x y = x + y := rfl
theorem jnd45 (x y : Int32) : jnd 45 x y = x - y := rfl
theorem jnd47 (x y : Int32) : jnd 47 x y = if y = 0 then 0 else x / y := rfl
theorem jnd60 (x y : Int32) : jnd 60 x y = if y ≤ x then 0 else 1 := rfl
theorem jnd61 (x y : Int32) : jnd 61 x y = if x = y then 1 else 0 := rfl
theorem jnd62 (x y : Int32) : jnd 62 x y = if x ≤ y then 0 else 1 := rfl
theorem jnd124 (x y : Int32) : jnd 124 x y = if x = 0 then (if y = 0 then 0 else 1) else 1 := rfl
theorem lv0 {c : Int32} : lvl c = nI 0 ↔ c = 124 := by
  constructor
  · intro h
    rcases lvl_ops (by rw [h]; decide) with rfl | rfl | rfl | rfl | rfl | rfl | rfl | rfl | rfl | rfl <;> first | rfl | exact absurd h (by decide)
  · intro h; subst h; decide
theorem lv1 {c : Int32} : lvl c = nI 1 ↔ c = 38 := by
  constructor
  · intro h
    rcases lvl_ops (by rw [h]; decide) with rfl | rfl | rfl | rfl | rfl | rfl | rfl | rfl | rfl | rfl <;> first | rfl | exact absurd h (by decide)
  · intro h; subst h; decide
theorem lv2 {c : Int32} : lvl c = nI 2 ↔ (c = 60 ∨ c = 61 ∨ c = 62) := by
  constructor
  · intro h
    rcases lvl_ops (by rw [h]; decide) with rfl | rfl | rfl | rfl | rfl | rfl | rfl | rfl | rfl | rfl <;> first | exact Or.inl rfl | exact Or.inr (Or.inl rfl) | exact Or.inr (Or.inr rfl) | exact absurd h (by decide)
  · intro h; rcases h with h | h | h <;> subst h <;> decide
theorem lv3 {c : Int32} : lvl c = nI 3 ↔ (c = 43 ∨ c = 45) := by
  constructor
  · intro h
    rcases lvl_ops (by rw [h]; decide) with rfl | rfl | rfl | rfl | rfl | rfl | rfl | rfl | rfl | rfl <;> first | exact Or.inl rfl | exact Or.inr rfl | exact absurd h (by decide)
  · intro h; rcases h with h | h <;> subst h <;> decide
theorem lv4 {c : Int32} : lvl c = nI 4 ↔ (c = 42 ∨ c = 47 ∨ c = 37) := by
  constructor
  · intro h
    rcases lvl_ops (by rw [h]; decide) with rfl | rfl | rfl | rfl | rfl | rfl | rfl | rfl | rfl | rfl <;> first | exact Or.inl rfl | exact Or.inr (Or.inl rfl) | exact Or.inr (Or.inr rfl) | exact absurd h (by decide)
  · intro h; rcases h with h | h | h <;> subst h <;> decide
theorem bd2_fn {α β γ : Type} (o : Option (α × β)) {f g : α → β → Option γ} (h : ∀ a b, f a b = g a b) : bd2 o f = bd2 o g := by
  rw [show f = g from funext fun a => funext fun b => h a b]
section
variable {σ0 : St} {N u : Nat} {B : Nat → Int32}
theorem gd_ne {τ : St} {p d : Nat} (h : MS N u B τ p d true) : ¬ τ 0 14 = 0 := by rw [h.2.2.2.2.2.1]; decide
theorem jl_of {lev d : Nat} (hl4 : lev ≤ 4) (h2 : lev ≠ 2) {ml : (Nat → List Int32 → St → Option (Int32 × St)) → Nat → Int32 → St → Option (Int32 × St)}
    (H1 : ∀ rec f v (τ : St), τ 0 14 = 0 → ml rec (f + 1) v τ = some (v, τ))
    (H2 : ∀ rec f v (τ : St) p d, N ≤ 50 → MS N u B τ p d true → p ≤ N → lvl (sg N B p) ≠ nI lev → ml rec (f + 1) v τ = some (v, τ))
    (H3 : ∀ rec f v (τ : St) p d, N ≤ 50 → MS N u B τ p d true → p ≤ N → lvl (sg N B p) = nI lev → ml rec (f + 1) v τ = bd2 (rec (im (lev + 1)) [] (u2 τ 0 8 (nI (p + 1)))) fun w s => ml rec f (jnd (sg N B p) v w) s)
    (H4 : ∀ n' τ, grp_X9_both (n' + 1) (im lev) [] τ = bd2 (grp_X9_both n' (im (lev + 1)) [] τ) fun u3 s1 => bd2 (ml (grp_X9_both n') FU u3 s1) fun v s => some (v, s))
    (g : JL σ0 N u B (lev + 1) d) : JL σ0 N u B lev d := by
  intro p n σ cs hC hp hl hn
  have hN : N ≤ 50 := hC.2.2.2.1
  obtain ⟨n, rfl⟩ : ∃ x, n = x + 1 := ⟨n - 1, by omega⟩
  obtain ⟨ok1, p1, cs1, ev1, σ1, e1, C1, l1, L1, r1, m1⟩ := g p n σ cs hC hp hl (by omega)
  obtain ⟨ok2, p2, cs2, ev2, σ2, e2, C2, l2, L2, r2, m2⟩ := jl_loop (n := n) hl4 H1 H2 H3 g (by omega) cs p hl 50 p1 0 FU σ1 cs1 ok1 ev1 (by omega) (FU_lt (by omega)) C1 L1 (by omega) l1 r1
  refine ⟨ok2, p2, cs2, ev2, σ2, ?_, C2, l2, L2, r2, fun n' τ hn' hM => ?_⟩
  · show bd1 (fX3_readLevel (grp_X3_readLevel n) (nI lev) (nI d) σ) (fun t => some (0, t)) = _
    unfold fX3_readLevel
    simp only [jn]
    rw [if_pos (show nI lev ≤ (4 : Int32) from nI_le hl4 (by decide)), nI_1, show grp_X3_readLevel n 0 [nI (lev + 1), nI d] σ = _ from e1, bd2_s, if_neg (show ¬ nI lev = (2 : Int32) from fun w => h2 ((nI_eq (b := 2) (by omega) (by decide)).mp w)), show fX3_readLevel_34 (grp_X3_readLevel n) (nI lev) (nI d) 50 FU 0 σ1 = _ from e2, bd1_s, bd1_s]
  · obtain ⟨n', rfl⟩ : ∃ x, n' = x + 1 := ⟨n' - 1, by omega⟩
    obtain ⟨v, τ1, t1, t2, t3, t4⟩ := m1 n' τ (by omega) hM
    obtain ⟨v2, τ2, s1, s2, s3, s4⟩ := m2 n' FU τ1 v (by omega) (FU_lt (by omega)) t3 (fun w => by
      rw [t2.2 11 (by decide) (by decide) (by decide), t2.2 12 (by decide) (by decide) (by decide), t2.2 13 (by decide) (by decide) (by decide)]; exact t4 w)
    rw [t2.2 11 (by decide) (by decide) (by decide), t2.2 12 (by decide) (by decide) (by decide), t2.2 13 (by decide) (by decide) (by decide)] at s4
    exact ⟨v2, τ2, by rw [H4, t1, bd2_s, s1, bd2_s], t2.tr s2, s3, s4⟩
theorem jl0 {d : Nat} (g : JL σ0 N u B 1 d) : JL σ0 N u B 0 d := by
  refine jl_of (ml := fX9_whole_5) (by decide) (by decide) (fun rec f v τ h => by rw [fX9_whole_5, if_pos h]) (fun rec f v τ p d hN hM hp h => ?_) (fun rec f v τ p d hN hM hp h => ?_) (fun n' τ => rfl) g
  · rw [fX9_whole_5, if_neg (gd_ne hM), byte_eq hM hN hp, bd2_s, if_neg (fun w => h (lv0.mpr w))]
  · have c := lv0.mp h
    rw [fX9_whole_5, if_neg (gd_ne hM), byte_eq hM hN hp, bd2_s, if_pos c, ptf, bd1_s, hM.2.2.1, nI_1, c]
    refine bd2_fn _ (fun w s => ?_)
    simp only [jn, jnd124]
    by_cases a : v = 0
    · rw [if_pos a, if_pos a]
      by_cases b : w = 0
      · rw [if_pos b, if_pos b]
      · rw [if_neg b, if_neg b]
    · rw [if_neg a, if_neg a]
theorem jl1 {d : Nat} (g : JL σ0 N u B 2 d) : JL σ0 N u B 1 d := by
  refine jl_of (ml := fX9_both_5) (by decide) (by decide) (fun rec f v τ h => by rw [fX9_both_5, if_pos h]) (fun rec f v τ p d hN hM hp h => ?_) (fun rec f v τ p d hN hM hp h => ?_) (fun n' τ => rfl) g
  · rw [fX9_both_5, if_neg (gd_ne hM), byte_eq hM hN hp, bd2_s, if_neg (fun w => h (lv1.mpr w))]
  · have c := lv1.mp h
    rw [fX9_both_5, if_neg (gd_ne hM), byte_eq hM hN hp, bd2_s, if_pos c, ptf, bd1_s, hM.2.2.1, nI_1, c]
    refine bd2_fn _ (fun w s => ?_)
    simp only [jn, jnd38]
    by_cases a : v = 0
    · rw [if_pos a, if_pos a]
    · rw [if_neg a, if_neg a]
      by_cases b : w = 0
      · rw [if_pos b, if_pos b]
      · rw [if_neg b, if_neg b]
theorem jl3 {d : Nat} (g : JL σ0 N u B 4 d) : JL σ0 N u B 3 d := by
  refine jl_of (ml := fX9_sum_5) (by decide) (by decide) (fun rec f v τ h => by rw [fX9_sum_5, if_pos h]) (fun rec f v τ p d hN hM hp h => ?_) (fun rec f v τ p d hN hM hp h => ?_) (fun n' τ => rfl) g
  · rw [fX9_sum_5, if_neg (gd_ne hM), byte_eq hM hN hp, bd2_s]
    simp only [jn]
    rw [if_neg (fun w => h (lv3.mpr (Or.inl w))), byte_eq hM hN hp, bd2_s, if_neg (fun w => h (lv3.mpr (Or.inr w)))]
  · rw [fX9_sum_5, if_neg (gd_ne hM), byte_eq hM hN hp, bd2_s]
    simp only [jn]
    rcases lv3.mp h with c | c
    · rw [if_pos c, byte_eq hM hN hp, bd2_s, ptf, bd1_s, hM.2.2.1, nI_1, c]
      exact bd2_fn _ (fun w s => by rw [if_pos rfl, jnd43])
    · rw [if_neg (by rw [c]; decide), byte_eq hM hN hp, bd2_s, if_pos c, byte_eq hM hN hp, bd2_s, ptf, bd1_s, hM.2.2.1, nI_1, c]
      exact bd2_fn _ (fun w s => by rw [if_neg (by decide), jnd45])
theorem jl4 {d : Nat} (g : JL σ0 N u B 5 d) : JL σ0 N u B 4 d := by
  refine jl_of (ml := fX9_product_5) (by decide) (by decide) (fun rec f v τ h => by rw [fX9_product_5, if_pos h]) (fun rec f v τ p d hN hM hp h => ?_) (fun rec f v τ p d hN hM hp h => ?_) (fun n' τ => rfl) g
  · rw [fX9_product_5, if_neg (gd_ne hM), byte_eq hM hN hp, bd2_s]
    simp only [jn]
    rw [if_neg (fun w => h (lv4.mpr (Or.inl w))), byte_eq hM hN hp, bd2_s, if_neg (fun w => h (lv4.mpr (Or.inr (Or.inl w)))), byte_eq hM hN hp, bd2_s, if_neg (fun w => h (lv4.mpr (Or.inr (Or.inr w))))]
  · rw [fX9_product_5, if_neg (gd_ne hM), byte_eq hM hN hp, bd2_s]
    simp only [jn]
    rcases lv4.mp h with c | c | c
    · rw [if_pos c, byte_eq hM hN hp, bd2_s, ptf, bd1_s, hM.2.2.1, nI_1, c]
      exact bd2_fn _ (fun w s => by rw [if_pos rfl, jnd42])
    · rw [if_neg (by rw [c]; decide), byte_eq hM hN hp, bd2_s, if_pos c, byte_eq hM hN hp, bd2_s, ptf, bd1_s, hM.2.2.1, nI_1, c]
      refine bd2_fn _ (fun w s => ?_)
      rw [if_neg (by decide), jnd47]
      by_cases b : w = 0
      · rw [if_pos b, if_pos b]
      · rw [if_neg b, if_neg b, if_pos rfl]; unfold gz; rw [if_neg b]
    · rw [if_neg (by rw [c]; decide), byte_eq hM hN hp, bd2_s, if_neg (by rw [c]; decide), byte_eq hM hN hp, bd2_s, if_pos c, byte_eq hM hN hp, bd2_s, ptf, bd1_s, hM.2.2.1, nI_1, c]
      refine bd2_fn _ (fun w s => ?_)
      rw [if_neg (by decide), jnd37]
      by_cases b : w = 0
      · rw [if_pos b, if_pos b]
      · rw [if_neg b, if_neg b, if_neg (by decide)]; unfold gz; rw [if_neg b]
theorem jl2 {d : Nat} (g : JL σ0 N u B 3 d) : JL σ0 N u B 2 d := by
  intro p n σ cs hC hp hl hn
  have hN : N ≤ 50 := hC.2.2.2.1
  obtain ⟨n, rfl⟩ : ∃ x, n = x + 1 := ⟨n - 1, by omega⟩
  obtain ⟨ok1, p1, cs1, ev1, σ1, e1, C1, l1, L1, r1, m1⟩ := g p n σ cs hC hp hl (by omega)
  have cl : ∀ X, fX3_readLevel_34 (grp_X3_readLevel n) (nI 2) (nI d) (nI 1) (2099 + 1) (nI 0) σ1 = some X → grp_X3_readLevel (n + 1) 0 [nI 2, nI d] σ = some ((0 : Int32), X) := by
    intro X hX
    show bd1 (fX3_readLevel (grp_X3_readLevel n) (nI 2) (nI d) σ) (fun t => some (0, t)) = _
    unfold fX3_readLevel
    simp only [jn]
    rw [if_pos (show nI 2 ≤ (4 : Int32) by decide), nI_1, show grp_X3_readLevel n 0 [nI (2 + 1), nI d] σ = _ from e1, bd2_s, if_pos (show nI 2 = (2 : Int32) from rfl), show fX3_readLevel_34 (grp_X3_readLevel n) (nI 2) (nI d) 1 FU 0 σ1 = _ from hX, bd1_s, bd1_s]
  by_cases q : ok1 = true ∧ lvl (sg N B p1) = nI 2
  · obtain ⟨rfl, q⟩ := q
    obtain ⟨o1, o2, o3, o4⟩ := op_code (c := sg N B p1) (by rw [q]; decide)
    obtain ⟨ok2, p2, cs2, ev2, σ2, e2, C2, l2, L2, r2, m2⟩ := rl_step (n := n) (A := 1) (f := 2099) (i := 0) (lev := 2) (by decide) (by decide) C1 L1 (by rw [List.length_append]; omega) (by decide) g (by omega) q
    refine ⟨ok2, p2, cs1 ++ (cs2 ++ [-(sg N B p1)]), fun a b c => jnd (sg N B p1) (ev1 a b c) (ev2 a b c), σ2, cl _ ?_, by rw [← List.append_assoc]; exact C2, by rw [List.length_append, List.length_append]; simp; omega, L2, fun w => ?_, fun n' τ hn' hM => ?_⟩
    · rw [e2]
      exact rl_end (f := 2098) C2 L2 (fun _ => Or.inl (by decide)) (by decide)
    · have := (r1 rfl).op (r2 w) o1 o2
      rw [o3, List.append_assoc] at this
      exact this
    · obtain ⟨n', rfl⟩ : ∃ x, n' = x + 1 := ⟨n' - 1, by omega⟩
      obtain ⟨v, τ1, t1, t2, t3, t4⟩ := m1 n' τ (by omega) hM
      obtain ⟨w, τ2, s1, s2, s3, s4⟩ := m2 n' (u2 τ1 0 8 (nI (p1 + 1))) (by omega) t3.at_
      have F := t2.tr (MF.u (τ := τ1) (j := 8) (by decide) (nI (p1 + 1)))
      rw [F.2 11 (by decide) (by decide) (by decide), F.2 12 (by decide) (by decide) (by decide), F.2 13 (by decide) (by decide) (by decide)] at s4
      refine ⟨jnd (sg N B p1) v w, τ2, ?_, F.tr s2, s3, fun z => by rw [t4 rfl, s4 z]⟩
      show fX9_compared (grp_X9_both n') τ = _
      unfold fX9_compared
      simp only [jn]
      rw [show grp_X9_both n' 4 [] τ = _ from t1, bd2_s, if_neg (gd_ne t3), byte_eq t3 hN L1, bd2_s, ptf, bd1_s, t3.2.2.1, nI_1, show grp_X9_both n' 4 [] _ = _ from s1, bd2_s]
      rcases lv2.mp q with c | c | c
      · rw [c, if_pos rfl, if_pos rfl, jnd60]
        by_cases b : w ≤ v
        · rw [if_pos b, if_pos b, if_pos trivial]
        · rw [if_neg b, if_neg b, if_neg (by decide)]
      · rw [c, if_neg (by decide), if_pos rfl, if_neg (by decide), if_pos rfl, jnd61]
        by_cases b : v = w
        · rw [if_pos b, if_pos b, if_neg (by decide)]
        · rw [if_neg b, if_neg b, if_pos trivial]
      · rw [c, if_neg (by decide), if_neg (by decide), if_pos rfl, if_neg (by decide), if_neg (by decide), jnd62]
        by_cases b : v ≤ w
        · rw [if_pos b, if_pos b, if_pos trivial]
        · rw [if_neg b, if_neg b, if_neg (by decide)]
  · refine ⟨ok1, p1, cs1, ev1, σ1, cl _ (rl_end (f := 2099) C1 L1 (fun w => Or.inr (fun z => q ⟨w, z⟩)) (by decide)), C1, l1, L1, r1, fun n' τ hn' hM => ?_⟩
    obtain ⟨n', rfl⟩ : ∃ x, n' = x + 1 := ⟨n' - 1, by omega⟩
    obtain ⟨v, τ1, t1, t2, t3, t4⟩ := m1 n' τ (by omega) hM
    refine ⟨v, τ1, ?_, t2, t3, t4⟩
    show fX9_compared (grp_X9_both n') τ = _
    unfold fX9_compared
    simp only [jn]
    rw [show grp_X9_both n' 4 [] τ = _ from t1, bd2_s]
    cases ok1 with
    | false => rw [if_pos (show τ1 0 14 = 0 from t3.2.2.2.2.2.1), if_neg (by decide), if_neg (by decide), if_neg (by decide)]
    | true =>
      have nq : ∀ c, c = 60 ∨ c = 61 ∨ c = 62 → ¬ sg N B p1 = c := fun c hc w => q ⟨rfl, lv2.mpr (by rw [w]; exact hc)⟩
      rw [if_neg (gd_ne t3), byte_eq t3 hN L1, bd2_s, if_neg (nq 60 (Or.inl rfl)), if_neg (nq 61 (Or.inr (Or.inl rfl))), if_neg (nq 62 (Or.inr (Or.inr rfl)))]
theorem jall (hu : u ≤ 1) : ∀ (e d : Nat), d + e = 5 → JS σ0 N u B d ∧ JL σ0 N u B 0 d
  | 0, d, h => by
    have s := js_all (σ0 := σ0) (N := N) (B := B) (d := d) hu (by omega) (fun q => by omega) (fun q => by omega)
    exact ⟨s, jl0 (jl1 (jl2 (jl3 (jl4 (jl5 s)))))⟩
  | e + 1, d, h => by
    have ih := jall hu e (d + 1) (by omega)
    have s := js_all (σ0 := σ0) (N := N) (B := B) (d := d) hu (by omega) (fun _ => ih.1) (fun _ => ih.2)
    exact ⟨s, jl0 (jl1 (jl2 (jl3 (jl4 (jl5 s)))))⟩
end
