/-! many steps, in one order or the other -/
def cf {X : Type} (op : Nat → X → X) : Nat → Nat → X → X
  | _, 0, x => x
  | k, n + 1, x => cf op (k + 1) n (op k x)
theorem cf_snoc {X : Type} (op : Nat → X → X) : ∀ (n k : Nat) (x : X), cf op k (n + 1) x = op (k + n) (cf op k n x)
  | 0, k, x => rfl
  | n + 1, k, x => by
    rw [cf, cf_snoc op n (k + 1), cf, show k + 1 + n = k + (n + 1) by omega]
theorem cf_comm {X : Type} (A : Nat → X → X) (B : X → X) (h : ∀ j x, A j (B x) = B (A j x)) : ∀ (n k : Nat) (x : X), cf A k n (B x) = B (cf A k n x)
  | 0, k, x => rfl
  | n + 1, k, x => by rw [cf, cf, h, cf_comm A B h n]
theorem cf_both {X : Type} (A B : Nat → X → X) (h : ∀ i j x, A i (B j x) = B j (A i x)) : ∀ (n : Nat) (x : X), cf (fun j y => A j (B j y)) 0 n x = cf A 0 n (cf B 0 n x)
  | 0, x => rfl
  | n + 1, x => by
    rw [cf_snoc, cf_both A B h n, cf_snoc, cf_snoc B, cf_comm A (B (0 + n)) (fun j y => h j _ y) n 0]
theorem cf_id {X : Type} : ∀ (n k : Nat) (x : X), cf (fun _ y => y) k n x = x
  | 0, _, _ => rfl
  | n + 1, k, x => by rw [cf, cf_id n]
theorem cf_swap {X : Type} (op : Nat → Nat → X → X) (h : ∀ i j i' j' x, op i j (op i' j' x) = op i' j' (op i j x)) (b : Nat) : ∀ (a : Nat) (x : X), cf (fun i => cf (op i) 0 b) 0 a x = cf (fun j => cf (fun i => op i j) 0 a) 0 b x
  | 0, x => by
    rw [cf]
    exact (cf_id b 0 x).symm
  | a + 1, x => by
    rw [cf_snoc, cf_swap op h b a]
    have e : (fun j => cf (fun i => op i j) 0 (a + 1)) = fun j y => op a j (cf (fun i => op i j) 0 a y) := by
      funext j y
      rw [cf_snoc, Nat.zero_add]
    rw [e, cf_both (fun j => op a j) (fun j => cf (fun i => op i j) 0 a) (fun i j y => (cf_comm _ _ (fun l z => h l j a i z) a 0 y).symm), Nat.zero_add]
def wN (T : Tx) (h : Hs) (c k : Nat) : Nat := (lft T h c k).toNatClampNeg
def tN (T : Tx) (h : Hs) (c k : Nat) : Nat := (tst T h c k (lft T h c k)).toNatClampNeg
theorem wN_eq {T : Tx} (hT : TB T) (h : Hs) (c k : Nat) : wN T h c k ≤ 4 ∧ lft T h c k = nI (wN T h c k) := bt_cl (hi := 4) (hT _ _ _).1
theorem tN_eq {T : Tx} (hT : TB T) (h : Hs) (c k : Nat) : tN T h c k ≤ 9 ∧ tst T h c k (lft T h c k) = nI (tN T h c k) := bt_cl (hi := 9) (hT _ _ _).2
theorem nI_le0 {n : Nat} (hn : n < 2 ^ 31) : nI n ≤ 0 ↔ n = 0 := by
  constructor
  · intro h
    have := i_le.mp h
    rw [nI_toInt hn, show (0 : Int32).toInt = 0 by decide] at this
    omega
  · intro h; subst h; decide
/-- arrays of small numbers -/
def AF (s : St) (c n : Nat) (F : Nat → Nat) : Prop := ∀ a, a < n → s c a = nI (F a)
def CP (c : Nat) (σ σ' : St) : Prop := ∀ k, k ≠ 50 → k ≠ 51 → k ≠ c → σ' k = σ k
def MP (c : Nat) (τ τ' : St) : Prop := (∀ k, k ≠ 0 → k ≠ 6 → k ≠ c → τ' k = τ k) ∧ ∀ j, j < 7 ∨ 14 < j → τ' 0 j = τ 0 j
theorem CP.tr {c : Nat} {x y z : St} (p : CP c x y) (q : CP c y z) : CP c x z := fun k h1 h2 h3 => (q k h1 h2 h3).trans (p k h1 h2 h3)
theorem MP.tr {c : Nat} {x y z : St} (p : MP c x y) (q : MP c y z) : MP c x z := ⟨fun k h1 h2 h3 => (q.1 k h1 h2 h3).trans (p.1 k h1 h2 h3), fun j h => (q.2 j h).trans (p.2 j h)⟩
theorem Fr.CP {c : Nat} {x y : St} (p : Fr x y) : CP c x y := fun k h1 h2 _ => p k h1 h2
theorem FrG.MP {c : Nat} {x y : St} (p : FrG x y) : MP c x y := ⟨fun k h1 h2 _ => p.1 k h1 h2, p.2⟩
theorem CP.H {c : Nat} {x y : St} {h : Hs} (hc : 12 ≤ c) (p : CP c x y) (H : CH x 2 h) : CH y 2 h := H.fr (fun k hk => p _ (by omega) (by omega) (by omega))
theorem MP.H {c : Nat} {x y : St} {h : Hs} (hc : c ≠ 1) (p : MP c x y) (H : MH (x 1) h) : MH (y 1) h := by rw [p.1 1 (by decide) (by decide) (fun q => hc q.symm)]; exact H
/-- both sides have counted in an array of their own -/
theorem Rel.cp {σ τ σ' τ' : St} {m : Nat} {c d : Nat} (hc : c = 68 ∨ c = 69) (hd : d = 11 ∨ d = 12) {h : Hs} {T : Tx} {dn : Nat} (n0 : RN σ τ h T dn) (rest : σ 1 5 = τ 1 1 ∧ RT σ τ ∧ RW σ τ ∧ RK σ τ m ∧ RD σ τ ∧ RS σ τ ∧ RV σ τ) (p : CP c σ σ') (q : MP d τ τ') (cc : CLC σ' T) (mc : MLC τ' T) : Rel σ' τ' m := by
  have R : Rel (uA σ' c (σ c)) (uA τ' d (τ d)) m := by
    have fc : FC σ (uA σ' c (σ c)) := fun k _ _ h3 h4 => by
      by_cases e : k = c
      · subst e; rw [uA_same]
      · rw [uA_ne _ e]; exact p k h3 h4 e
    have fm : FM τ (uA τ' d (τ d)) := ⟨fun k h1 _ _ h4 => by
      by_cases e : k = d
      · subst e; rw [uA_same]
      · rw [uA_ne _ e]; exact q.1 k h1 h4 e, fun j _ => by rw [uA_ne _ (by omega), q.1 1 (by decide) (by decide) (by omega)], fun j hj => by rw [uA_ne _ (by omega)]; exact q.2 j (by omega)⟩
    exact Rel.go n0 rest fc fm (n0.1.fr (fun k hk => by rw [uA_ne _ (by omega)]; exact p _ (by omega) (by omega) (by omega))) (by rw [uA_ne _ (by omega), q.1 1 (by decide) (by decide) (by omega)]; exact n0.2.1) n0.2.2.1 (cc.fr (uA_ne _ (by omega)) (uA_ne _ (by omega)) (uA_ne _ (by omega)) (uA_ne _ (by omega)) (uA_ne _ (by omega))) ⟨mc.1.fr (fun j _ => by rw [uA_ne _ (by omega)]), mc.2.fr (uA_ne _ (by omega))⟩
  exact R.scr (fun k hk _ _ _ _ => (uA_ne _ (by omega)).symm) (fun k _ _ _ _ h11 h12 => (uA_ne _ (by omega)).symm) (fun j _ => by rw [uA_ne _ (by omega)])
/-! few -/
def tk (T : Tx) (h : Hs) (c k : Nat) (F : Nat → Nat) : Nat → Nat := fun v => if wN T h c k = 0 then F v else if v = tN T h c k then F v + 1 else F v
theorem tk_comm (T : Tx) (h : Hs) (c k c' k' : Nat) (F : Nat → Nat) : tk T h c k (tk T h c' k' F) = tk T h c' k' (tk T h c k F) := by
  funext v
  unfold tk
  by_cases a : wN T h c k = 0 <;> by_cases b : wN T h c' k' = 0 <;> by_cases e : v = tN T h c k <;> by_cases g : v = tN T h c' k' <;> simp only [a, b, e, g, if_true, if_false] <;> simp_all
theorem ald_F {s : St} {c n i : Nat} {F : Nat → Nat} (h : AF s c n F) (hi : i < n) (hn : n ≤ 2 ^ 31) : ald s c n (nI i) = some (nI (F i)) := by rw [ald_i hi hn, h i hi]
theorem ct_in {T : Tx} {dn c : Nat} (hT : TB T) (hc : c < 6) {h : Hs} {D : Int} (hB : HB D dn h) : ∀ (n k f : Nat) (σ : St) (F : Nat → Nat), k + n = dn → n < f → AF σ 69 10 F → CH σ 2 h → CLC σ T → ∃ σ', fX8_countTastes_18 (nI c) f (nI k) σ = some σ' ∧ AF σ' 69 10 (cf (tk T h c) k n F) ∧ CLC σ' T ∧ CP 69 σ σ'
  | n, k, 0, _, _, _, hf, _, _, _ => absurd hf (Nat.not_lt_zero _)
  | 0, k, f + 1, σ, F, hk, _, hA, hC, hc' => by
    have : k = dn := by omega
    subst this
    rw [fX8_countTastes_18, hC.2.2.2.2, hB.d3, if_pos (nI_le (Nat.le_refl _) (by have := hB.dn; omega))]
    exact ⟨σ, rfl, hA, hc', fun _ _ _ _ => rfl⟩
  | n + 1, k, f + 1, σ, F, hk, hf, hA, hC, hc' => by
    have hd := hB.dn
    have hk8 : k < 8 := by omega
    obtain ⟨w4, we⟩ := wN_eq hT h c k
    obtain ⟨t9, te⟩ := tN_eq hT h c k
    obtain ⟨σ1, e1, c1, f1⟩ := leftOf_eq hT hC hB hc' hc hk8
    rw [fX8_countTastes_18, hC.2.2.2.2, hB.d3, if_neg (nI_ge (by omega) (by omega)), e1, bd2_s, cf]
    simp only [jn]
    have C1 := hC.frL hH_2 f1
    have A1 : AF σ1 69 10 F := fun a ha => by rw [f1 69 (by decide) (by decide)]; exact hA a ha
    by_cases w0 : wN T h c k = 0
    · rw [if_pos (by rw [we, w0]; decide), nI_1]
      have e : tk T h c k F = F := by funext v; unfold tk; rw [if_pos w0]
      obtain ⟨σ2, e2, A2, c2, f2⟩ := ct_in hT hc hB n (k + 1) f σ1 F (by omega) (by omega) A1 C1 c1
      exact ⟨σ2, e2, by rw [e]; exact A2, c2, f1.CP.tr f2⟩
    · obtain ⟨σ2, e2, c2, f2⟩ := tasteOf_eq hT C1 hB c1 hc hk8 (lft T h c k)
      have A2 : AF σ2 69 10 F := fun a ha => by rw [f2 69 (by decide) (by decide)]; exact A1 a ha
      rw [if_neg (fun q => w0 ((nI_le0 (by omega)).mp (by rw [← we]; exact q))), e2, bd2_s, te, ald_F A2 (by omega) (by decide), bd1_s, ast_i (by omega) (by decide), bd1_s, nI_1, nI_1]
      have C2 : CH (u2 σ2 69 (tN T h c k) (nI (F (tN T h c k) + 1))) 2 h := (C1.frL hH_2 f2).fr (fun i hi => u2_ne (by omega))
      have A3 : AF (u2 σ2 69 (tN T h c k) (nI (F (tN T h c k) + 1))) 69 10 (tk T h c k F) := by
        intro a ha
        unfold tk
        rw [if_neg w0]
        by_cases q : a = tN T h c k
        · rw [if_pos q, q, u2_same]
        · rw [if_neg q, u2_slot q]; exact A2 a ha
      obtain ⟨σ3, e3, A4, c3, f3⟩ := ct_in hT hc hB n (k + 1) f _ (tk T h c k F) (by omega) (by omega) A3 C2 (c2.u2c (by decide) _)
      refine ⟨σ3, e3, A4, c3, ((f1.CP.tr f2.CP).tr (fun i _ _ h3 => u2_ne h3)).tr f3⟩
theorem ct_out {T : Tx} {dn : Nat} (hT : TB T) {h : Hs} {D : Int} (hB : HB D dn h) : ∀ (n c f : Nat) (σ : St) (F : Nat → Nat), c + n = 6 → n < f → AF σ 69 10 F → CH σ 2 h → CLC σ T → ∃ σ', fX8_countTastes_10 f (nI c) σ = some σ' ∧ AF σ' 69 10 (cf (fun c => cf (tk T h c) 0 dn) c n F) ∧ CLC σ' T ∧ CP 69 σ σ'
  | n, k, 0, _, _, _, hf, _, _, _ => absurd hf (Nat.not_lt_zero _)
  | 0, c, f + 1, σ, F, hc, _, hA, hC, hc' => by
    have : c = 6 := by omega
    subst this
    rw [fX8_countTastes_10, if_pos (show (6 : Int32) ≤ nI 6 by decide)]
    exact ⟨σ, rfl, hA, hc', fun _ _ _ _ => rfl⟩
  | n + 1, c, f + 1, σ, F, hc, hf, hA, hC, hc' => by
    have hd := hB.dn
    obtain ⟨σ1, e1, A1, c1, f1⟩ := ct_in hT (show c < 6 by omega) hB dn 0 FU σ F (by omega) (FU_lt (by omega)) hA hC hc'
    rw [fX8_countTastes_10, if_neg (show ¬ (6 : Int32) ≤ nI c from nI_ge (b := 6) (by omega) (by decide)), show fX8_countTastes_18 (nI c) FU 0 σ = _ from e1, bd1_s, nI_1, cf]
    obtain ⟨σ2, e2, A2, c2, f2⟩ := ct_out hT hB n (c + 1) f σ1 _ (by omega) (by omega) A1 (f1.H (by decide) hC) c1
    exact ⟨σ2, e2, A2, c2, f1.tr f2⟩
theorem MLC.u2m {s : St} {T : Tx} (p : MLC s T) {k j : Nat} (hk : k ≠ 1 ∧ k ≠ 6) (v : Int32) : MLC (u2 s k j v) T := ⟨p.1.fr (fun i _ => by rw [u2_ne (by omega)]), p.2.fr (u2_ne (by omega))⟩
theorem mt_in {T : Tx} {dn k : Nat} (hT : TB T) (hk : k < 8) {h : Hs} {D : Int} (hB : HB D dn h) (a : Int32) : ∀ (n c f : Nat) (τ : St) (F : Nat → Nat), c + n = 6 → n < f → AF τ 12 10 F → MH (τ 1) h → MLC τ T → ∃ τ', fX9_few_53 a (nI k) f (nI c) τ = some τ' ∧ AF τ' 12 10 (cf (fun c => tk T h c k) c n F) ∧ MLC τ' T ∧ MP 12 τ τ'
  | n, c, 0, _, _, _, hf, _, _, _ => absurd hf (Nat.not_lt_zero _)
  | 0, c, f + 1, τ, F, hc, _, hA, hM, hm => by
    have : c = 6 := by omega
    subst this
    rw [fX9_few_53, if_pos (show (6 : Int32) ≤ nI 6 by decide)]
    exact ⟨τ, rfl, hA, hm, fun _ _ _ _ => rfl, fun _ _ => rfl⟩
  | n + 1, c, f + 1, τ, F, hc, hf, hA, hM, hm => by
    obtain ⟨w4, we⟩ := wN_eq hT h c k
    obtain ⟨t9, te⟩ := tN_eq hT h c k
    obtain ⟨τ1, e1, m1, f1⟩ := m_left hM hB hm (c := c) (x := nI c) rfl (by omega) hk
    obtain ⟨τ2, e2, m2, f2⟩ := m_taste (hM.frG f1) hB m1 (c := c) (x := nI c) rfl (by omega) hk (lft T h c k)
    obtain ⟨τ3, e3, m3, f3⟩ := m_left ((hM.frG f1).frG f2) hB m2 (c := c) (x := nI c) rfl (by omega) hk
    have A2 : AF τ2 12 10 F := fun i hi => by rw [f2.1 12 (by decide) (by decide), f1.1 12 (by decide) (by decide)]; exact hA i hi
    have A3 : AF τ3 12 10 F := fun i hi => by rw [f3.1 12 (by decide) (by decide)]; exact A2 i hi
    rw [fX9_few_53, if_neg (show ¬ (6 : Int32) ≤ nI c from nI_ge (b := 6) (by omega) (by decide)), e1, bd2_s, e2, bd2_s, te, ald_F A2 (by omega) (by decide), bd1_s, e3, bd2_s, cf]
    simp only [jn]
    have fin : ∀ x : Nat, (∀ v, tk T h c k F v = if v = tN T h c k then x else F v) → ∃ τ', (bd1 (ast τ3 12 10 (nI (tN T h c k)) (nI x)) fun s23 => fX9_few_53 a (nI k) f (nI c + 1) s23) = some τ' ∧ AF τ' 12 10 (cf (fun c => tk T h c k) (c + 1) n (tk T h c k F)) ∧ MLC τ' T ∧ MP 12 τ τ' := by
      intro x hx
      rw [ast_i (by omega) (by decide), bd1_s, nI_1]
      have A4 : AF (u2 τ3 12 (tN T h c k) (nI x)) 12 10 (tk T h c k F) := by
        intro i hi
        rw [hx i]
        by_cases q : i = tN T h c k
        · rw [if_pos q, q, u2_same]
        · rw [if_neg q, u2_slot q]; exact A3 i hi
      have F3 : MP 12 τ (u2 τ3 12 (tN T h c k) (nI x)) := ((f1.MP.tr f2.MP).tr f3.MP).tr ⟨fun i _ _ h3 => u2_ne h3, fun i _ => by rw [u2_ne (by decide)]⟩
      obtain ⟨τ4, e4, A5, m4, f4⟩ := mt_in hT hk hB a n (c + 1) f _ (tk T h c k F) (by omega) (by omega) A4 (F3.H (by decide) hM) (m3.u2m (by decide) _)
      exact ⟨τ4, e4, A5, m4, F3.tr f4⟩
    by_cases w0 : wN T h c k = 0
    · rw [if_pos (by rw [we, w0]; decide), Int32.add_zero]
      exact fin _ (fun v => by
        unfold tk
        rw [if_pos w0]
        by_cases q : v = tN T h c k
        · rw [if_pos q, q]
        · rw [if_neg q])
    · rw [if_neg (fun q => w0 ((nI_le0 (by omega)).mp (by rw [← we]; exact q))), nI_1]
      exact fin _ (fun v => by
        unfold tk
        rw [if_neg w0]
        by_cases q : v = tN T h c k
        · rw [if_pos q, if_pos q, q]
        · rw [if_neg q, if_neg q])
theorem mt_out {T : Tx} {dn : Nat} (hT : TB T) {h : Hs} {D : Int} (hB : HB D dn h) (a : Int32) : ∀ (n k f : Nat) (τ : St) (F : Nat → Nat), k + n = dn → n < f → AF τ 12 10 F → MH (τ 1) h → MLC τ T → ∃ τ', fX9_few_41 a f (nI k) τ = some τ' ∧ AF τ' 12 10 (cf (fun k => cf (fun c => tk T h c k) 0 6) k n F) ∧ MLC τ' T ∧ MP 12 τ τ'
  | n, k, 0, _, _, _, hf, _, _, _ => absurd hf (Nat.not_lt_zero _)
  | 0, k, f + 1, τ, F, hk, _, hA, hM, hm => by
    have hd := hB.dn
    have : k = dn := by omega
    subst this
    rw [fX9_few_41, ald1 (x := 2) (i := 2) rfl (by decide), bd1_s, hM.1.2.1, hB.d3, if_pos (nI_le (Nat.le_refl _) (by omega))]
    exact ⟨τ, rfl, hA, hm, fun _ _ _ _ => rfl, fun _ _ => rfl⟩
  | n + 1, k, f + 1, τ, F, hk, hf, hA, hM, hm => by
    have hd := hB.dn
    obtain ⟨τ1, e1, A1, m1, f1⟩ := mt_in hT (show k < 8 by omega) hB a 6 0 FU τ F (by omega) (FU_lt (by omega)) hA hM hm
    rw [fX9_few_41, ald1 (x := 2) (i := 2) rfl (by decide), bd1_s, hM.1.2.1, hB.d3, if_neg (nI_ge (by omega) (by omega)), show fX9_few_53 a (nI k) FU 0 τ = _ from e1, bd1_s, nI_1, cf]
    obtain ⟨τ2, e2, A2, m2, f2⟩ := mt_out hT hB a n (k + 1) f τ1 _ (by omega) (by omega) A1 (f1.H (by decide) hM) m1
    exact ⟨τ2, e2, A2, m2, f1.tr f2⟩
theorem few_z (a : Int32) : ∀ (n i f : Nat) (s : St), i + n = 10 → n < f → ∃ t, fX9_few_20 a f (nI i) s = some t ∧ (∀ q, q ≠ 12 → t q = s q) ∧ (∀ j, j < i → t 12 j = s 12 j) ∧ ∀ j, i ≤ j → j < 10 → t 12 j = 0
  | n, i, 0, _, _, hf => absurd hf (Nat.not_lt_zero _)
  | 0, i, f + 1, s, hi, _ => by
    have : i = 10 := by omega
    subst this
    rw [fX9_few_20, if_pos (show (10 : Int32) ≤ nI 10 by decide)]
    exact ⟨s, rfl, fun _ _ => rfl, fun _ _ => rfl, fun j h1 h2 => by omega⟩
  | n + 1, i, f + 1, s, hi, hf => by
    rw [fX9_few_20, if_neg (show ¬ (10 : Int32) ≤ nI i from nI_ge (b := 10) (by omega) (by decide)), ast_i (by omega) (by decide), bd1_s, nI_1]
    obtain ⟨t, e, h1, h2, h3⟩ := few_z a n (i + 1) f (u2 s 12 i 0) (by omega) (by omega)
    refine ⟨t, e, fun q hq => by rw [h1 q hq, u2_ne hq], fun j hj => by rw [h2 j (by omega), u2_slot (by omega)], fun j h4 h5 => ?_⟩
    by_cases q : j = i
    · subst q; rw [h2 j (by omega), u2_same]
    · exact h3 j (by omega) h5
/-- the two walks through equal arrays -/
theorem few_in {σ τ : St} {F : Nat → Nat} (h1 : AF σ 69 10 F) (h2 : AF τ 12 10 F) (a : Int32) {v : Nat} (hv : v < 10) : ∀ (n i f : Nat) (x y : Int32), i + n = F v → F v < 2 ^ 31 → n < f → ∃ x' y', fX8_few_37 a (nI v) f x y (nI i) σ = some (x', y', σ) ∧ fX9_few_121 a (nI v) f x y (nI i) τ = some (x', y', τ)
  | n, i, 0, _, _, _, _, hf => absurd hf (Nat.not_lt_zero _)
  | 0, i, f + 1, x, y, hi, hF, _ => by
    rw [fX8_few_37, fX9_few_121, ald_F h1 hv (by decide), ald_F h2 hv (by decide), bd1_s, bd1_s, if_pos (nI_le (by omega) (by omega)), if_pos (nI_le (by omega) (by omega))]
    exact ⟨x, y, rfl, rfl⟩
  | n + 1, i, f + 1, x, y, hi, hF, hf => by
    rw [fX8_few_37, fX9_few_121, ald_F h1 hv (by decide), ald_F h2 hv (by decide), bd1_s, bd1_s, if_neg (nI_ge (by omega) (by omega)), if_neg (nI_ge (by omega) (by omega))]
    by_cases q : a ≤ y
    · rw [if_pos q, if_pos q]; exact ⟨x, y, rfl, rfl⟩
    · rw [if_neg q, if_neg q, nI_1]
      exact few_in h1 h2 a hv n (i + 1) f (x + 1) (y + nI v) (by omega) hF (by omega)
theorem few_all {σ τ : St} {F : Nat → Nat} (h1 : AF σ 69 10 F) (h2 : AF τ 12 10 F) (a : Int32) (hF : ∀ v, F v ≤ 1000) : ∀ (v f : Nat) (x y : Int32), v < 10 → v < f → ∃ x' y', fX8_few_29 a f x y (nI v) σ = some (x', y', σ) ∧ fX9_few_113 a f x y (nI v) τ = some (x', y', τ)
  | v, 0, _, _, _, hf => absurd hf (Nat.not_lt_zero _)
  | 0, f + 1, x, y, _, _ => by
    rw [fX8_few_29, fX9_few_113, if_pos (by decide), if_pos (by decide)]
    exact ⟨x, y, rfl, rfl⟩
  | v + 1, f + 1, x, y, hv, hf => by
    obtain ⟨x1, y1, e1, e2⟩ := few_in h1 h2 a hv (F (v + 1)) 0 FU x y (by omega) (by have := hF (v + 1); omega) (FU_lt (by have := hF (v + 1); omega))
    rw [fX8_few_29, fX9_few_113, if_neg (fun q => by have := (nI_le0 (by omega)).mp q; omega), if_neg (fun q => by have := (nI_le0 (by omega)).mp q; omega), show fX8_few_37 a (nI (v + 1)) FU x y 0 σ = _ from e1, show fX9_few_121 a (nI (v + 1)) FU x y 0 τ = _ from e2, bd3_s, bd3_s, show nI (v + 1) + (-1) = nI v by rw [← nI_1, show (-1 : Int32) = -(1 : Int32) by decide, ← Int32.sub_eq_add_neg, Int32.add_sub_cancel]]
    exact few_all h1 h2 a hF v f x1 y1 (by omega) (by omega)
theorem tk_b {T : Tx} {h : Hs} {c k : Nat} {F : Nat → Nat} {M : Nat} (hF : ∀ v, F v ≤ M) : ∀ v, tk T h c k F v ≤ M + 1 := by
  intro v
  have := hF v
  unfold tk
  split
  · omega
  · split <;> omega
theorem cf_b {op : Nat → (Nat → Nat) → Nat → Nat} {s : Nat} (h : ∀ i F M, (∀ v, F v ≤ M) → ∀ v, op i F v ≤ M + s) : ∀ (n k : Nat) (F : Nat → Nat) (M : Nat), (∀ v, F v ≤ M) → ∀ v, cf op k n F v ≤ M + s * n
  | 0, k, F, M, hF => fun v => by rw [cf, Nat.mul_zero]; exact hF v
  | n + 1, k, F, M, hF => fun v => by
    rw [cf]
    have := cf_b h n (k + 1) (op k F) (M + s) (h k F M hF) v
    rw [Nat.mul_succ]; omega
theorem op_few {σ τ : St} {m : Nat} (r : Rel σ τ m) (a : Int32) : OK2 (fX8_few a σ) (fX9_few a τ) m := by
  have r0 := r
  obtain ⟨h, T, dn, n0, rest⟩ := r
  obtain ⟨a1, a2, a3, a4, a5, a6, a7, a8⟩ := id n0
  have hd := a3.dn
  unfold fX8_few fX9_few
  simp only [c_within, m_in, bd2_s, gi0, bd2_eta]
  refine ok_if (σ := σ) (τ := τ) (fun h1 => ?_) (fun _ => ok_e1 r0)
  obtain ⟨σ1, e1, f1, g1⟩ := fill_eq (k := 69) (N := 10) (by decide) 0 σ
  obtain ⟨σ2, e2, A2, c2, f2⟩ := ct_out (dn := dn) a4 a3 6 0 FU σ1 (fun _ => 0) rfl (FU_lt (by omega)) (fun i hi => g1 i hi) (a1.fr (fun k hk => f1 _ (by omega))) (a5.fr (f1 _ (by decide)) (f1 _ (by decide)) (f1 _ (by decide)) (f1 _ (by decide)) (f1 _ (by decide)))
  obtain ⟨τ1, k1, u1, -, v1⟩ := few_z a 10 0 FU τ rfl (FU_lt (by omega))
  obtain ⟨τ2, k2, B2, m2, t2⟩ := mt_out (dn := dn) a4 a3 a dn 0 FU τ1 (fun _ => 0) (by omega) (FU_lt (by omega)) (fun i hi => v1 i (by omega) hi) (by rw [u1 1 (by decide)]; exact a2) ⟨a6.1.fr (fun j _ => by rw [u1 1 (by decide)]), a6.2.fr (u1 6 (by decide))⟩
  rw [← cf_swap (fun c k => tk T h c k) (fun i j i' j' x => tk_comm T h i j i' j' x)] at B2
  have bnd : ∀ v, cf (fun c => cf (tk T h c) 0 dn) 0 6 (fun _ => 0) v ≤ 1000 := by
    intro v
    have := cf_b (op := fun c => cf (tk T h c) 0 dn) (s := 1 * dn) (fun i F M hF => cf_b (s := 1) (fun j G M hG => tk_b hG) dn 0 F M hF) 6 0 (fun _ => 0) 0 (fun _ => Nat.le_refl _) v
    omega
  obtain ⟨x, y, p1, p2⟩ := few_all A2 B2 a bnd 9 FU 0 0 (by decide) (FU_lt (by omega))
  have P : CP 69 σ σ2 := (show CP 69 σ σ1 from fun k _ _ h3 => f1 k h3).tr f2
  have Q : MP 12 τ τ2 := (show MP 12 τ τ1 from ⟨fun k _ _ h3 => u1 k h3, fun j _ => by rw [u1 0 (by decide)]⟩).tr t2
  have R := Rel.cp (c := 69) (d := 12) (Or.inr rfl) (Or.inr rfl) n0 rest P Q c2 m2
  unfold fX8_countTastes
  rw [e1, bd1_s, show fX8_countTastes_10 FU 0 σ1 = _ from e2, bd1_s, bd1_s, show fX9_few_20 a FU 0 τ = _ from k1, bd1_s, show fX9_few_41 a FU 0 τ1 = _ from k2, bd1_s, show fX8_few_29 a FU 0 0 9 σ2 = _ from p1, show fX9_few_113 a FU 0 0 9 τ2 = _ from p2, bd3_s, bd3_s]
  by_cases q : y < a
  · rw [if_pos q, if_neg (fun w => by have := i_lt.mp q; have := i_le.mp w; omega)]
    exact ok_e2 R
  · rw [if_neg q, if_pos (i_le.mpr (by have : ¬ y.toInt < a.toInt := fun w => q (i_lt.mpr w)
                                       omega))]
    exact ok_some _ R
