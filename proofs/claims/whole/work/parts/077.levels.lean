/-! reading a text: the levels -/
section
variable {σ0 : St} {N u : Nat} {B : Nat → Int32}
def MR (N u : Nat) (B : Nat → Int32) (idx need p d : Nat) (ok : Bool) (p' : Nat) (ev : Int32 → Int32 → Int32 → Int32) : Prop := ∀ (n' : Nat) (τ : St), need ≤ n' → MS N u B τ p d true → ∃ v τ', grp_X9_both n' idx [] τ = some (v, τ') ∧ MF τ τ' ∧ MS N u B τ' p' d ok ∧ (ok = true → v = ev (τ 0 11) (τ 0 12) (τ 0 13))
def JR (σ0 : St) (N u : Nat) (B : Nat → Int32) (call : Nat → St → Option (Int32 × St)) (cn idx mn d : Nat) : Prop := ∀ (p n : Nat) (σ : St) (cs : List Int32), CS σ0 N u B σ p true cs → p ≤ N → cs.length ≤ p → cn ≤ n → ∃ (ok : Bool) (p' : Nat) (cs' : List Int32) (ev : Int32 → Int32 → Int32 → Int32) (σ' : St), call n σ = some (0, σ') ∧ CS σ0 N u B σ' p' ok (cs ++ cs') ∧ cs'.length + p ≤ p' ∧ p' ≤ N ∧ (ok = true → Rn cs' ev) ∧ MR N u B idx mn p d ok p' ev
def JS (σ0 : St) (N u : Nat) (B : Nat → Int32) (d : Nat) : Prop := JR σ0 N u B (fun n σ => grp_X3_readLevel n 2 [nI d] σ) (8 * (5 - d) + 2) 2 (6 * (5 - d) + 1) d
def im (lev : Nat) : Nat := if lev = 0 then 5 else if lev = 1 then 0 else if lev = 2 then 1 else if lev = 3 then 4 else if lev = 4 then 3 else 2
def JL (σ0 : St) (N u : Nat) (B : Nat → Int32) (lev d : Nat) : Prop := JR σ0 N u B (fun n σ => grp_X3_readLevel n 0 [nI lev, nI d] σ) (8 * (5 - d) + 8 - lev) (im lev) (6 * (5 - d) + 6 - lev) d
theorem opd_n {k : Nat} (hk : k < 2 ^ 31) (a b c : Int32) : opd (nI k) a b c = nI k := by
  have h : ∀ v : Int32, v < 0 → nI k ≠ v := fun v hv q => by rw [← q] at hv; exact nI_pos hk hv
  unfold opd
  rw [if_neg (h _ (by decide)), if_neg (h _ (by decide)), if_neg (h _ (by decide))]
theorem nI_m3 {k : Nat} (hk : k < 2 ^ 31) : ¬ nI k < -3 := fun q => by
  have := i_lt.mp q
  rw [nI_toInt hk, show (-3 : Int32).toInt = -3 by decide] at this
  omega
/-- a number -/
theorem js_num {d p n : Nat} {σ : St} {cs : List Int32} (hC : CS σ0 N u B σ p true cs) (hp : p ≤ N) (hl : cs.length ≤ p) (q : 48 ≤ sg N B p ∧ sg N B p ≤ 57) : ∃ (ok : Bool) (p' : Nat) (cs' : List Int32) (ev : Int32 → Int32 → Int32 → Int32) (σ' : St), grp_X3_readLevel (n + 1) 2 [nI d] σ = some (0, σ') ∧ CS σ0 N u B σ' p' ok (cs ++ cs') ∧ cs'.length + p ≤ p' ∧ p' ≤ N ∧ (ok = true → Rn cs' ev) ∧ MR N u B 2 (6 * (5 - d) + 1) p d ok p' ev := by
  have hN : N ≤ 50 := hC.2.2.2.1
  have hpN : p < N := dg_lt rfl (fun w => by rw [w] at q; exact absurd q (by decide))
  obtain ⟨p', k, σ1, c1, c2, c3, c4, c5, c6, c7⟩ := num_loop 4 0 FU p 0 σ cs rfl (FU_lt (by omega)) hC hp (by decide)
  obtain ⟨σ2, a1, a2⟩ := c2.add (by omega) (nI k)
  have hlt := c6 q (by decide)
  have n33 : ¬ sg N B p = 33 := fun w => by rw [w] at q; exact absurd q (by decide)
  have n40 : ¬ sg N B p = 40 := fun w => by rw [w] at q; exact absurd q (by decide)
  refine ⟨true, p', [nI k], fun a b c => opd (nI k) a b c, σ2, ?_, a2, by simp; omega, c4, fun _ => Rn.one (nI_m3 (by omega)), fun n' τ hn' hM => ?_⟩
  · show bd1 (fX3_readSingle (grp_X3_readLevel n) (nI d) σ) (fun t => some (0, t)) = _
    unfold fX3_readSingle
    simp only [jn]
    rw [stands_eq hC hp, bd2_s, if_neg n33, if_pos rfl, stands_eq hC hp, bd2_s, if_neg n40, if_pos rfl, digC hC hp, bd2_s, if_pos q, if_neg (by decide)]
    unfold fX3_readNumber
    rw [show fX3_readNumber_4 FU 0 0 σ = _ from c1, bd2_s, a1, bd1_s, bd1_s, bd1_s]
  · obtain ⟨n', rfl⟩ : ∃ x, n' = x + 1 := ⟨n' - 1, by omega⟩
    obtain ⟨τ', t1, t2, t3⟩ := c7 τ d FU hM (FU_lt (by omega))
    refine ⟨nI k, τ', ?_, t2, t3, fun _ => (opd_n (by omega) _ _ _).symm⟩
    show fX9_factor (grp_X9_both n') τ = _
    unfold fX9_factor
    rw [byte_eq hM hN hp, bd2_s, digM, bd2_s, if_pos q, if_neg (by decide)]
    unfold fX9_number
    rw [show fX9_number_4 FU 0 0 τ = _ from t1, bd2_s, bd2_s]
/-- a name -/
theorem js_name {d p n : Nat} (hu : u ≤ 1) {σ : St} {cs : List Int32} (hC : CS σ0 N u B σ p true cs) (hp : p ≤ N) (hl : cs.length ≤ p) (q : ¬ (48 ≤ sg N B p ∧ sg N B p ≤ 57)) (n33 : ¬ sg N B p = 33) (n40 : ¬ sg N B p = 40) : ∃ (ok : Bool) (p' : Nat) (cs' : List Int32) (ev : Int32 → Int32 → Int32 → Int32) (σ' : St), grp_X3_readLevel (n + 1) 2 [nI d] σ = some (0, σ') ∧ CS σ0 N u B σ' p' ok (cs ++ cs') ∧ cs'.length + p ≤ p' ∧ p' ≤ N ∧ (ok = true → Rn cs' ev) ∧ MR N u B 2 (6 * (5 - d) + 1) p d ok p' ev := by
  have hN : N ≤ 50 := hC.2.2.2.1
  have hcl : ∀ w1 : Int32, (if nI u = 0 then (108 : Int32) else 101) = w1 → ∀ X, bd1 (fX3_readName σ) (fun t => some t) = some X → grp_X3_readLevel (n + 1) 2 [nI d] σ = some ((0 : Int32), X) := by
    intro w1 _ X hX
    show bd1 (fX3_readSingle (grp_X3_readLevel n) (nI d) σ) (fun t => some (0, t)) = _
    unfold fX3_readSingle
    simp only [jn]
    rw [stands_eq hC hp, bd2_s, if_neg n33, if_pos rfl, stands_eq hC hp, bd2_s, if_neg n40, if_pos rfl, digC hC hp, bd2_s, if_neg q, if_pos rfl, hX, bd1_s]
  have hml : ∀ (n' : Nat) (τ : St) (X : Int32 × St), MS N u B τ p d true → fX9_named (sg N B p) τ = some X → grp_X9_both (n' + 1) 2 [] τ = some X := by
    intro n' τ X hM hX
    show fX9_factor (grp_X9_both n') τ = _
    unfold fX9_factor
    simp only [jn]
    rw [byte_eq hM hN hp, bd2_s, digM, bd2_s, if_neg q, if_pos rfl, if_neg n33, if_neg n40, bd2_eta, hX]
  have hw : ∃ w1 : Int32, (if nI u = 0 then (108 : Int32) else 101) = w1 ∧ w1 ≠ -1 ∧ w1 ≠ 115 ∧ w1 ≠ 103 := by
    rcases (show u = 0 ∨ u = 1 by omega) with rfl | rfl
    · exact ⟨108, by rw [if_pos (show nI 0 = (0 : Int32) from rfl)], by decide, by decide, by decide⟩
    · exact ⟨101, by rw [if_neg (show ¬ nI 1 = (0 : Int32) by decide)], by decide, by decide, by decide⟩
  obtain ⟨w1, ew, nw1, -, -⟩ := hw
  have cl : fX3_readName σ = (bd2 (fX3_stands w1 σ) fun u4 s2 => if u4 = 0 then bd2 (fX3_stands 115 s2) fun u9 s7 => if u9 = 0 then bd2 (fX3_stands 103 s7) fun u12 s10 => if u12 = 0 then bd1 (ptf s10 52 4 1) fun s13 => some s13 else bd1 (fX4_add 53 (-3) s10) fun s14 => bd1 (ptf s14 52 3 (s14 52 3 + 1)) fun s6 => some s6 else bd1 (fX4_add 53 (-2) s7) fun s17 => bd1 (ptf s17 52 3 (s17 52 3 + 1)) fun s6 => some s6 else bd1 (fX4_add 53 (-1) s2) fun s20 => bd1 (ptf s20 52 3 (s20 52 3 + 1)) fun s6 => some s6) := by
    unfold fX3_readName
    simp only [jn]
    rw [hC.2.2.2.2.2.1, ← ew]
    by_cases z : nI u = 0
    · rw [if_pos z, if_pos z]
    · rw [if_neg z, if_neg z]
  have mlN : ∀ τ : St, MS N u B τ p d true → fX9_named (sg N B p) τ = if sg N B p = w1 then some (τ 0 11, u2 τ 0 8 (nI (p + 1))) else if sg N B p = 115 then some (τ 0 12, u2 τ 0 8 (nI (p + 1))) else if sg N B p = 103 then some (τ 0 13, u2 τ 0 8 (nI (p + 1))) else some (0, u2 τ 0 14 0) := by
    intro τ hM
    unfold fX9_named fX9_fails
    simp only [jn, ptf, bd1_s, bd2_s]
    rw [hM.2.1, hM.2.2.1, nI_1, u2_slot (show (11 : Nat) ≠ 8 by decide), u2_slot (show (12 : Nat) ≠ 8 by decide), u2_slot (show (13 : Nat) ≠ 8 by decide)]
    have key : ∀ w : Int32, (if nI u = 0 then (108 : Int32) else 101) = w → True := fun _ _ => trivial
    rcases (show u = 0 ∨ u = 1 by omega) with rfl | rfl
    · rw [if_pos (show nI 0 = (0 : Int32) from rfl)] at ew
      subst ew
      rw [if_pos (show nI 0 = (0 : Int32) from rfl)]
      by_cases z1 : sg N B p = 108
      · simp [z1]
      · by_cases z2 : sg N B p = 115
        · simp [z2]
        · by_cases z3 : sg N B p = 103
          · simp [z3]
          · simp [z1, z2, z3]
    · rw [if_neg (show ¬ nI 1 = (0 : Int32) by decide)] at ew
      subst ew
      rw [if_neg (show ¬ nI 1 = (0 : Int32) by decide)]
      by_cases z1 : sg N B p = 101
      · simp [z1]
      · by_cases z2 : sg N B p = 115
        · simp [z2]
        · by_cases z3 : sg N B p = 103
          · simp [z3]
          · simp [z1, z2, z3]
  have good : ∀ (v : Int32) (ev : Int32 → Int32 → Int32 → Int32), p < N → ¬ v < -3 → (∀ a b c, opd v a b c = ev a b c) → (∀ σ1, fX4_add 53 v σ = some σ1 → fX3_readName σ = (bd1 (ptf σ1 52 3 (σ1 52 3 + 1)) fun s6 => some s6)) → (∀ τ : St, MS N u B τ p d true → fX9_named (sg N B p) τ = some (ev (τ 0 11) (τ 0 12) (τ 0 13), u2 τ 0 8 (nI (p + 1)))) → ∃ (ok : Bool) (p' : Nat) (cs' : List Int32) (ev : Int32 → Int32 → Int32 → Int32) (σ' : St), grp_X3_readLevel (n + 1) 2 [nI d] σ = some (0, σ') ∧ CS σ0 N u B σ' p' ok (cs ++ cs') ∧ cs'.length + p ≤ p' ∧ p' ≤ N ∧ (ok = true → Rn cs' ev) ∧ MR N u B 2 (6 * (5 - d) + 1) p d ok p' ev := by
    intro v ev hpN hv he hc hm
    obtain ⟨σ1, a1, a2⟩ := hC.add (by omega) v
    refine ⟨true, p + 1, [v], ev, u2 σ1 52 3 (nI (p + 1)), ?_, a2.pl, by simp; omega, by omega, fun _ => ?_, fun n' τ hn' hM => ?_⟩
    · refine hcl w1 ew _ ?_
      rw [hc σ1 a1, ptf, bd1_s, a2.2.2.2.2.2.2.1, nI_1, bd1_s]
    · intro a b c st
      rw [Rn.one hv a b c st]
      show opd v a b c :: st = _
      rw [he]
    · obtain ⟨n', rfl⟩ : ∃ x, n' = x + 1 := ⟨n' - 1, by omega⟩
      exact ⟨_, _, hml n' τ _ hM (hm τ hM), MF.u (by decide) _, hM.at_, fun _ => rfl⟩
  by_cases z1 : sg N B p = w1
  · refine good (-1) (fun a b c => a) (dg_lt z1 nw1) (by decide) (fun a b c => by unfold opd; rw [if_neg (by decide), if_neg (by decide), if_pos rfl]) (fun σ1 a1 => ?_) (fun τ hM => ?_)
    · rw [cl, stands_eq hC hp, bd2_s, if_pos z1, if_neg (by decide), a1, bd1_s]
    · rw [mlN τ hM, if_pos z1]
  by_cases z2 : sg N B p = 115
  · refine good (-2) (fun a b c => b) (dg_lt z2 (by decide)) (by decide) (fun a b c => by unfold opd; rw [if_neg (by decide), if_pos rfl]) (fun σ1 a1 => ?_) (fun τ hM => ?_)
    · rw [cl, stands_eq hC hp, bd2_s, if_neg z1, if_pos rfl, stands_eq hC hp, bd2_s, if_pos z2, if_neg (by decide), a1, bd1_s]
    · rw [mlN τ hM, if_neg z1, if_pos z2]
  by_cases z3 : sg N B p = 103
  · refine good (-3) (fun a b c => c) (dg_lt z3 (by decide)) (by decide) (fun a b c => by unfold opd; rw [if_pos rfl]) (fun σ1 a1 => ?_) (fun τ hM => ?_)
    · rw [cl, stands_eq hC hp, bd2_s, if_neg z1, if_pos rfl, stands_eq hC hp, bd2_s, if_neg z2, if_pos rfl, stands_eq hC hp, bd2_s, if_pos z3, if_neg (by decide), a1, bd1_s]
    · rw [mlN τ hM, if_neg z1, if_neg z2, if_pos z3]
  refine ⟨false, p, [], fun _ _ _ => 0, u2 σ 52 4 1, ?_, by rw [List.append_nil]; exact hC.fail, by simp, hp, fun w => absurd w (by decide), fun n' τ hn' hM => ?_⟩
  · refine hcl w1 ew _ ?_
    rw [cl, stands_eq hC hp, bd2_s, if_neg z1, if_pos rfl, stands_eq hC hp, bd2_s, if_neg z2, if_pos rfl, stands_eq hC hp, bd2_s, if_neg z3, if_pos rfl, ptf, bd1_s, bd1_s]
  · obtain ⟨n', rfl⟩ : ∃ x, n' = x + 1 := ⟨n' - 1, by omega⟩
    refine ⟨0, u2 τ 0 14 0, hml n' τ _ hM ?_, MF.u (by decide) _, hM.fail, fun w => absurd w (by decide)⟩
    rw [mlN τ hM, if_neg z1, if_neg z2, if_neg z3]
end
