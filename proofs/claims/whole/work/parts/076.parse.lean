/-! reading a text: both readers, side by side -/
def sg (N : Nat) (B : Nat → Int32) (p : Nat) : Int32 := if p < N then B p else -1
def fl (ok : Bool) : Int32 := if ok = true then 0 else 1
def gd (ok : Bool) : Int32 := if ok = true then 1 else 0
def CS (σ0 : St) (N u : Nat) (B : Nat → Int32) (σ : St) (p : Nat) (ok : Bool) (cs : List Int32) : Prop :=
  (∀ k, k ≠ 52 → k ≠ 53 → k ≠ 54 → σ k = σ0 k) ∧ σ0 12 1 = nI N ∧ (∀ i, i < N → σ0 13 i = B i) ∧ N ≤ 50 ∧ (∀ i, i < N → bt 0 255 (B i)) ∧ σ 52 2 = nI u ∧ σ 52 3 = nI p ∧ σ 52 4 = fl ok ∧ σ 53 1 = nI cs.length ∧ ∀ i, i < cs.length → cs[i]? = some (σ 54 i)
def MS (N u : Nat) (B : Nat → Int32) (τ : St) (p d : Nat) (ok : Bool) : Prop := u ≤ 1 ∧ τ 0 7 = nI u ∧ τ 0 8 = nI p ∧ τ 0 9 = nI N ∧ τ 0 10 = nI d ∧ τ 0 14 = gd ok ∧ ∀ i, i < N → τ 1 (157 + 50 * u + i) = B i
def MF (τ τ' : St) : Prop := (∀ k, k ≠ 0 → τ' k = τ k) ∧ ∀ j, j ≠ 8 → j ≠ 10 → j ≠ 14 → τ' 0 j = τ 0 j
theorem MF.rf (τ : St) : MF τ τ := ⟨fun _ _ => rfl, fun _ _ _ _ => rfl⟩
theorem MF.tr {a b c : St} (p : MF a b) (q : MF b c) : MF a c := ⟨fun k h => (q.1 k h).trans (p.1 k h), fun j h1 h2 h3 => (q.2 j h1 h2 h3).trans (p.2 j h1 h2 h3)⟩
theorem MF.u {τ : St} {j : Nat} (hj : j = 8 ∨ j = 10 ∨ j = 14) (v : Int32) : MF τ (u2 τ 0 j v) := ⟨fun k h => u2_ne h, fun i h1 h2 h3 => u2_slot (by omega)⟩
section
variable {σ0 : St} {N u : Nat} {B : Nat → Int32}
theorem CS.pl {σ : St} {p p' : Nat} {ok : Bool} {cs : List Int32} (h : CS σ0 N u B σ p ok cs) : CS σ0 N u B (u2 σ 52 3 (nI p')) p' ok cs := by
  obtain ⟨h1, h2, h3, h4, h5, h6, h7, h8, h9, h10⟩ := h
  exact ⟨fun k k1 k2 k3 => by rw [u2_ne k1]; exact h1 k k1 k2 k3, h2, h3, h4, h5, by rw [u2_slot (by decide)]; exact h6, u2_same _ _ _ _, by rw [u2_slot (by decide)]; exact h8, by rw [u2_ne (by decide)]; exact h9, fun i hi => by rw [u2_ne (by decide)]; exact h10 i hi⟩
theorem CS.fail {σ : St} {p : Nat} {ok : Bool} {cs : List Int32} (h : CS σ0 N u B σ p ok cs) : CS σ0 N u B (u2 σ 52 4 1) p false cs := by
  obtain ⟨h1, h2, h3, h4, h5, h6, h7, h8, h9, h10⟩ := h
  exact ⟨fun k k1 k2 k3 => by rw [u2_ne k1]; exact h1 k k1 k2 k3, h2, h3, h4, h5, by rw [u2_slot (by decide)]; exact h6, by rw [u2_slot (by decide)]; exact h7, u2_same _ _ _ _, by rw [u2_ne (by decide)]; exact h9, fun i hi => by rw [u2_ne (by decide)]; exact h10 i hi⟩
theorem CS.add {σ : St} {p : Nat} {ok : Bool} {cs : List Int32} (h : CS σ0 N u B σ p ok cs) (hl : cs.length < 50) (v : Int32) : ∃ σ', fX4_add 53 v σ = some σ' ∧ CS σ0 N u B σ' p ok (cs ++ [v]) := by
  obtain ⟨h1, h2, h3, h4, h5, h6, h7, h8, h9, h10⟩ := h
  refine ⟨u2 (u2 σ (53 + 1) cs.length v) 53 1 (nI (cs.length + 1)), ?_, fun k k1 k2 k3 => by rw [u2_ne k2, u2_ne k3]; exact h1 k k1 k2 k3, h2, h3, h4, h5, by rw [u2_ne (by decide), u2_ne (by decide)]; exact h6, by rw [u2_ne (by decide), u2_ne (by decide)]; exact h7, by rw [u2_ne (by decide), u2_ne (by decide)]; exact h8, by rw [u2_same, List.length_append]; rfl, fun i hi => ?_⟩
  · unfold fX4_add
    rw [show rl 53 = 50 from rfl, h9, if_neg (show ¬ Int32.ofNat 50 ≤ nI cs.length from nI_ge (b := 50) hl (by decide)), ast_i hl (by decide), bd1_s, ptf, bd1_s, u2_ne (show (53 : Nat) ≠ 53 + 1 by decide), h9, nI_1]
  · rw [u2_ne (by decide)]
    by_cases q : i = cs.length
    · subst q
      rw [show (54 : Nat) = 53 + 1 from rfl, u2_same, List.getElem?_append_right (Nat.le_refl _), Nat.sub_self]; rfl
    · have : i < cs.length := by rw [List.length_append] at hi; simp at hi; omega
      rw [show (54 : Nat) = 53 + 1 from rfl, u2_slot q, List.getElem?_append_left this]; exact h10 i this
theorem MS.at_ {τ : St} {p p' d : Nat} {ok : Bool} (h : MS N u B τ p d ok) : MS N u B (u2 τ 0 8 (nI p')) p' d ok := by
  obtain ⟨h0, h1, h2, h3, h4, h5, h6⟩ := h
  exact ⟨h0, by rw [u2_slot (by decide)]; exact h1, u2_same _ _ _ _, by rw [u2_slot (by decide)]; exact h3, by rw [u2_slot (by decide)]; exact h4, by rw [u2_slot (by decide)]; exact h5, fun i hi => by rw [u2_ne (by decide)]; exact h6 i hi⟩
theorem MS.dp {τ : St} {p d d' : Nat} {ok : Bool} (h : MS N u B τ p d ok) : MS N u B (u2 τ 0 10 (nI d')) p d' ok := by
  obtain ⟨h0, h1, h2, h3, h4, h5, h6⟩ := h
  exact ⟨h0, by rw [u2_slot (by decide)]; exact h1, by rw [u2_slot (by decide)]; exact h2, by rw [u2_slot (by decide)]; exact h3, u2_same _ _ _ _, by rw [u2_slot (by decide)]; exact h5, fun i hi => by rw [u2_ne (by decide)]; exact h6 i hi⟩
theorem MS.fail {τ : St} {p d : Nat} {ok : Bool} (h : MS N u B τ p d ok) : MS N u B (u2 τ 0 14 0) p d false := by
  obtain ⟨h0, h1, h2, h3, h4, h5, h6⟩ := h
  exact ⟨h0, by rw [u2_slot (by decide)]; exact h1, by rw [u2_slot (by decide)]; exact h2, by rw [u2_slot (by decide)]; exact h3, by rw [u2_slot (by decide)]; exact h4, u2_same _ _ _ _, fun i hi => by rw [u2_ne (by decide)]; exact h6 i hi⟩
theorem sign_eq {σ : St} {p : Nat} {ok : Bool} {cs : List Int32} (h : CS σ0 N u B σ p ok cs) (hp : p ≤ N) : fX3_sign σ = some (sg N B p, σ) := by
  obtain ⟨h1, h2, h3, h4, h5, h6, h7, h8, h9, h10⟩ := h
  unfold fX3_sign sg
  rw [h7, h1 12 (by decide) (by decide) (by decide), h2]
  by_cases q : p < N
  · rw [if_neg (nI_ge q (by omega)), if_pos q, ald_i (show p < 50 by omega) (by decide), bd1_s, h1 13 (by decide) (by decide) (by decide), h3 p q]
  · rw [if_pos (nI_le (by omega) (by omega)), if_neg q]
theorem byte_eq {τ : St} {p d : Nat} {ok : Bool} (h : MS N u B τ p d ok) (hN : N ≤ 50) (hp : p ≤ N) : fX9_byteAt (τ 0 8) τ = some (sg N B p, τ) := by
  obtain ⟨h0, h1, h2, h3, h4, h5, h6⟩ := h
  unfold fX9_byteAt sg
  rw [h2, h3, h1]
  by_cases q : p < N
  · rw [if_neg (nI_ge q (by omega)), if_pos q, show (157 : Int32) + 50 * nI u + nI p = nI (157 + 50 * u + p) by rw [show (50 : Int32) = nI 50 from rfl, pk_mul, show (157 : Int32) = nI 157 from rfl, nI_add, nI_add], ald_i (show 157 + 50 * u + p < 257 by omega) (by decide), bd1_s, h6 p q]
  · rw [if_pos (nI_le (by omega) (by omega)), if_neg q]
theorem stands_eq {σ : St} {p : Nat} {cs : List Int32} (h : CS σ0 N u B σ p true cs) (hp : p ≤ N) (v : Int32) : fX3_stands v σ = some (if sg N B p = v then 1 else 0, σ) := by
  have e := sign_eq h hp
  obtain ⟨h1, h2, h3, h4, h5, h6, h7, h8, h9, h10⟩ := h
  unfold fX3_stands
  simp only [jn]
  rw [h8, show fl true = 0 from rfl, if_pos rfl, e, bd2_s]
  by_cases q : sg N B p = v
  · rw [if_pos q, if_pos q]
  · rw [if_neg q, if_neg q]
theorem stands_no {σ : St} {p : Nat} {cs : List Int32} (h : CS σ0 N u B σ p false cs) (v : Int32) : fX3_stands v σ = some (0, σ) := by
  obtain ⟨h1, h2, h3, h4, h5, h6, h7, h8, h9, h10⟩ := h
  unfold fX3_stands
  simp only [jn]
  rw [h8, if_neg (by decide)]
theorem digC {σ : St} {p : Nat} {ok : Bool} {cs : List Int32} (h : CS σ0 N u B σ p ok cs) (hp : p ≤ N) : fX3_isDigit σ = some (if (48 ≤ sg N B p ∧ sg N B p ≤ 57) then 1 else 0, σ) := by
  unfold fX3_isDigit
  simp only [jn]
  rw [sign_eq h hp, bd2_s]
  by_cases q : sg N B p < 48
  · rw [if_pos q, if_neg (fun w => by have := i_lt.mp q; have := i_le.mp w.1; omega)]
  · rw [if_neg q, sign_eq h hp, bd2_s]
    by_cases q2 : 57 < sg N B p
    · rw [if_pos q2, if_neg (fun w => by have := i_lt.mp q2; have := i_le.mp w.2; omega)]
    · rw [if_neg q2, if_pos ⟨i_le.mpr (by have : ¬ (sg N B p).toInt < (48 : Int32).toInt := fun w => q (i_lt.mpr w)
                                          omega), i_le.mpr (by have : ¬ (57 : Int32).toInt < (sg N B p).toInt := fun w => q2 (i_lt.mpr w)
                                                               omega)⟩]
theorem digM (c : Int32) (s : St) : fX9_isDigit c s = some (if (48 ≤ c ∧ c ≤ 57) then 1 else 0, s) := by
  unfold fX9_isDigit
  rw [m_in, bd2_s, gb01]
theorem dg_lt {p : Nat} {v : Int32} (h : sg N B p = v) (hv : v ≠ -1) : p < N := by
  unfold sg at h
  by_cases q : p < N
  · exact q
  · rw [if_neg q] at h; exact absurd h.symm hv
theorem dg_ex {c : Int32} (h : (48 ≤ c ∧ c ≤ 57)) : ∃ k : Nat, k ≤ 9 ∧ c = nI (48 + k) := by
  have h1 := i_le.mp h.1
  have h2 := i_le.mp h.2
  rw [show (48 : Int32).toInt = 48 by decide] at h1
  rw [show (57 : Int32).toInt = 57 by decide] at h2
  exact ⟨c.toInt.toNat - 48, by omega, i_eq.mpr (by rw [nI_toInt (by omega)]; omega)⟩
theorem num_loop : ∀ (n i f p k : Nat) (σ : St) (cs : List Int32), i + n = 4 → n < f → CS σ0 N u B σ p true cs → p ≤ N → k < 10 ^ i →
    ∃ p' k' σ', fX3_readNumber_4 f (nI k) (nI i) σ = some (nI k', σ') ∧ CS σ0 N u B σ' p' true cs ∧ p ≤ p' ∧ p' ≤ N ∧ k' < 10000 ∧ ((48 ≤ sg N B p ∧ sg N B p ≤ 57) → 0 < n → p < p') ∧ ∀ (τ : St) (d g : Nat), MS N u B τ p d true → n < g → ∃ τ', fX9_number_4 g (nI k) (nI i) τ = some (nI k', τ') ∧ MF τ τ' ∧ MS N u B τ' p' d true
  | n, i, 0, _, _, _, _, _, hf, _, _, _ => absurd hf (Nat.not_lt_zero _)
  | 0, i, f + 1, p, k, σ, cs, hi, _, hC, hp, hk => by
    have : i = 4 := by omega
    subst this
    refine ⟨p, k, σ, ?_, hC, Nat.le_refl _, hp, hk, fun _ h => absurd h (Nat.lt_irrefl _), fun τ d g hM hg => ?_⟩
    · rw [fX3_readNumber_4, if_pos (by decide)]
    · obtain ⟨g, rfl⟩ : ∃ x, g = x + 1 := ⟨g - 1, by omega⟩
      exact ⟨τ, by rw [fX9_number_4, if_pos (by decide)], MF.rf τ, hM⟩
  | n + 1, i, f + 1, p, k, σ, cs, hi, hf, hC, hp, hk => by
    have hN : N ≤ 50 := hC.2.2.2.1
    have hi4 : ¬ (4 : Int32) ≤ nI i := nI_ge (b := 4) (by omega) (by decide)
    have hk4 : k < 10000 := Nat.lt_of_lt_of_le hk (Nat.pow_le_pow_right (by decide) (show i ≤ 4 by omega))
    by_cases q : (48 ≤ sg N B p ∧ sg N B p ≤ 57)
    · have hpN : p < N := dg_lt rfl (fun w => by rw [w] at q; exact absurd q (by decide))
      obtain ⟨v, hv, ev⟩ := dg_ex q
      have e1 : nI k * 10 + nI (48 + v) - 48 = nI (10 * k + v) := by
        rw [show (10 : Int32) = nI 10 from rfl, pk_mul, nI_add, show (48 : Int32) = nI 48 from rfl, nI_subn (by omega)]
        congr 1; omega
      have e2 : 10 * nI k + nI (48 + v) - 48 = nI (10 * k + v) := by
        rw [show (10 : Int32) = nI 10 from rfl, pk_mul, nI_add, show (48 : Int32) = nI 48 from rfl, nI_subn (by omega)]
        congr 1; omega
      have hb : 10 * k + v < 10 ^ (i + 1) := by rw [Nat.pow_succ]; omega
      obtain ⟨p', k', σ', c1, c2, c3, c4, c5, c6, c7⟩ := num_loop n (i + 1) f (p + 1) (10 * k + v) _ cs (by omega) (by omega) (hC.pl (p' := p + 1)) (by omega) hb
      refine ⟨p', k', σ', ?_, c2, by omega, c4, c5, fun _ _ => by omega, fun τ d g hM hg => ?_⟩
      · rw [fX3_readNumber_4, if_neg hi4, digC hC hp, bd2_s, if_pos q, if_neg (by decide), sign_eq hC hp, bd2_s, ptf, bd1_s, hC.2.2.2.2.2.2.1, ev, e1, nI_1, nI_1]; exact c1
      · obtain ⟨g, rfl⟩ : ∃ x, g = x + 1 := ⟨g - 1, by omega⟩
        obtain ⟨τ', t1, t2, t3⟩ := c7 _ d g (hM.at_ (p' := p + 1)) (by omega)
        refine ⟨τ', ?_, (MF.u (by decide) _).tr t2, t3⟩
        rw [fX9_number_4, if_neg hi4, byte_eq hM hN hp, bd2_s, digM, bd2_s, if_pos q, if_neg (by decide), byte_eq hM hN hp, bd2_s, ptf, bd1_s, hM.2.2.1, ev, e2, nI_1, nI_1]; exact t1
    · refine ⟨p, k, σ, ?_, hC, Nat.le_refl _, hp, hk4, fun w => absurd w q, fun τ d g hM hg => ?_⟩
      · rw [fX3_readNumber_4, if_neg hi4, digC hC hp, bd2_s, if_neg q, if_pos rfl]
      · obtain ⟨g, rfl⟩ : ∃ x, g = x + 1 := ⟨g - 1, by omega⟩
        exact ⟨τ, by rw [fX9_number_4, if_neg hi4, byte_eq hM hN hp, bd2_s, digM, bd2_s, if_neg q, if_pos rfl], MF.rf τ, hM⟩
end
