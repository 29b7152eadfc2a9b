/-! pack -/
def pkU (cap w v : Nat) (F : Nat → Nat) : Nat → Nat := fun a => if a ≤ cap ∧ w ≤ a then max (F a) (F (a - w) + v) else F a
theorem pkU_comm (cap w v w' v' : Nat) (F : Nat → Nat) : pkU cap w v (pkU cap w' v' F) = pkU cap w' v' (pkU cap w v F) := by
  funext a
  unfold pkU
  by_cases hc : a ≤ cap
  · have h1 : a - w ≤ cap := by omega
    have h2 : a - w' ≤ cap := by omega
    by_cases p : w ≤ a <;> by_cases q : w' ≤ a
    · by_cases s : w + w' ≤ a
      · rw [if_pos ⟨hc, p⟩, if_pos ⟨hc, q⟩, if_pos ⟨h1, by omega⟩, if_pos ⟨hc, q⟩, if_pos ⟨hc, p⟩, if_pos ⟨h2, by omega⟩, show a - w - w' = a - w' - w by omega]
        omega
      · rw [if_pos ⟨hc, p⟩, if_pos ⟨hc, q⟩, if_neg (by omega), if_pos ⟨hc, q⟩, if_pos ⟨hc, p⟩, if_neg (by omega)]
        omega
    · rw [if_pos ⟨hc, p⟩, if_neg (by omega), if_neg (by omega), if_neg (by omega), if_pos ⟨hc, p⟩]
    · rw [if_neg (by omega), if_pos ⟨hc, q⟩, if_pos ⟨hc, q⟩, if_neg (by omega), if_neg (by omega)]
    · rw [if_neg (by omega), if_neg (by omega), if_neg (by omega), if_neg (by omega)]
  · rw [if_neg (by omega), if_neg (by omega), if_neg (by omega), if_neg (by omega)]
def pk1 (T : Tx) (h : Hs) (cap c k : Nat) (F : Nat → Nat) : Nat → Nat := if wN T h c k = 0 then F else pkU cap (wN T h c k) (tN T h c k) F
theorem pk1_comm (T : Tx) (h : Hs) (cap c k c' k' : Nat) (F : Nat → Nat) : pk1 T h cap c k (pk1 T h cap c' k' F) = pk1 T h cap c' k' (pk1 T h cap c k F) := by
  unfold pk1
  by_cases a : wN T h c k = 0 <;> by_cases b : wN T h c' k' = 0
  · rw [if_pos a, if_pos b, if_pos a, if_pos b]
  · rw [if_pos a, if_neg b, if_pos a, if_neg b]
  · rw [if_neg a, if_pos b, if_pos b, if_neg a]
  · rw [if_neg a, if_neg b, if_neg b, if_neg a, pkU_comm]
theorem pkU_b {cap w v M : Nat} {F : Nat → Nat} (hv : v ≤ 9) (hF : ∀ a, F a ≤ M) : ∀ a, pkU cap w v F a ≤ M + 9 := by
  intro a
  have h1 := hF a
  have h2 := hF (a - w)
  unfold pkU
  split <;> omega
theorem pk1_b {T : Tx} (hT : TB T) {h : Hs} {cap c k M : Nat} {F : Nat → Nat} (hF : ∀ a, F a ≤ M) : ∀ a, pk1 T h cap c k F a ≤ M + 9 := by
  intro a
  unfold pk1
  split
  · have := hF a; omega
  · exact pkU_b (tN_eq hT h c k).1 hF a
theorem nI_m1 (n : Nat) : nI (n + 1) + (-1) = nI n := by rw [← nI_1, show (-1 : Int32) = -(1 : Int32) by decide, ← Int32.sub_eq_add_neg, Int32.add_sub_cancel]
theorem nI_subn {a b : Nat} (h : b ≤ a) : nI a - nI b = nI (a - b) := by
  have : nI (a - b) + nI b = nI a := by rw [nI_add, Nat.sub_add_cancel h]
  rw [← this, Int32.add_sub_cancel]
theorem imx_nI {a b : Nat} (ha : a < 2 ^ 31) (hb : b < 2 ^ 31) : imx (nI a) (nI b) = nI (max a b) := by
  unfold imx
  by_cases h : a < b
  · rw [if_pos ((nI_ltI ha hb).mpr h), Nat.max_eq_right (by omega)]
  · rw [if_neg (fun z => h ((nI_ltI ha hb).mp z)), Nat.max_eq_left (by omega)]
theorem add_c {w v cap : Nat} (hw : 1 ≤ w) (hw4 : w ≤ 4) (hv : v ≤ 9) {F : Nat → Nat} (hF : ∀ a, F a ≤ 1000) (hcap : cap ≤ 40) : ∀ (a f : Nat) (s : St), a ≤ cap → a + 1 < f → (∀ b, b ≤ a → s 68 b = nI (F b)) → ∃ t, fX8_addToPack_3 (nI w) (nI v) f (nI a) s = some t ∧ (∀ q, q ≠ 68 → t q = s q) ∧ (∀ b, a < b → t 68 b = s 68 b) ∧ ∀ b, b ≤ a → t 68 b = nI (pkU cap w v F b)
  | a, 0, _, _, hf, _ => absurd hf (Nat.not_lt_zero _)
  | a, f + 1, s, ha, hf, hs => by
    by_cases q : a < w
    · rw [fX8_addToPack_3, if_pos ((nI_ltI (by omega) (by omega)).mpr q)]
      refine ⟨s, rfl, fun _ _ => rfl, fun _ _ => rfl, fun b hb => ?_⟩
      unfold pkU
      rw [if_neg (by omega)]; exact hs b hb
    · rw [fX8_addToPack_3, if_neg (fun z => q ((nI_ltI (by omega) (by omega)).mp z)), ald_i (show a < 41 by omega) (by decide), bd1_s, nI_subn (show w ≤ a by omega), ald_i (show a - w < 41 by omega) (by decide), bd1_s, hs a (Nat.le_refl _), hs (a - w) (by omega), nI_add, imx_nI (by have := hF a; omega) (by have := hF (a - w); omega), ast_i (show a < 41 by omega) (by decide), bd1_s]
      cases a with
      | zero => omega
      | succ a =>
        rw [nI_m1]
        obtain ⟨t, e, h1, h2, h3⟩ := add_c hw hw4 hv hF hcap a f (u2 s 68 (a + 1) (nI (max (F (a + 1)) (F (a + 1 - w) + v)))) (by omega) (by omega) (fun b hb => by rw [u2_slot (by omega)]; exact hs b (by omega))
        refine ⟨t, e, fun q hq => by rw [h1 q hq, u2_ne hq], fun b hb => by rw [h2 b (by omega), u2_slot (by omega)], fun b hb => ?_⟩
        by_cases e2 : b = a + 1
        · subst e2
          rw [h2 _ (by omega), u2_same]
          unfold pkU
          rw [if_pos ⟨ha, by omega⟩]
        · exact h3 b (by omega)
theorem add_m {w v cap : Nat} (hw : 1 ≤ w) (hw4 : w ≤ 4) (hv : v ≤ 9) {F : Nat → Nat} (hF : ∀ a, F a ≤ 1000) (hcap : cap ≤ 40) (x y z : Int32) : ∀ (a f : Nat) (s : St), a ≤ cap → a + 1 < f → (∀ b, b ≤ a → s 11 b = nI (F b)) → ∃ t, fX9_pack_79 x y z (nI w) (nI v) f (nI a) s = some t ∧ (∀ q, q ≠ 11 → t q = s q) ∧ (∀ b, a < b → t 11 b = s 11 b) ∧ ∀ b, b ≤ a → t 11 b = nI (pkU cap w v F b)
  | a, 0, _, _, hf, _ => absurd hf (Nat.not_lt_zero _)
  | a, f + 1, s, ha, hf, hs => by
    by_cases q : a < w
    · rw [fX9_pack_79, if_pos ((nI_ltI (by omega) (by omega)).mpr q)]
      refine ⟨s, rfl, fun _ _ => rfl, fun _ _ => rfl, fun b hb => ?_⟩
      unfold pkU
      rw [if_neg (by omega)]; exact hs b hb
    · have b1 := hF a
      have b2 := hF (a - w)
      have fin : ∃ t, (bd1 (ast s 11 41 (nI a) (nI (max (F a) (F (a - w) + v)))) fun s22 => fX9_pack_79 x y z (nI w) (nI v) f (nI a + (-1)) s22) = some t ∧ (∀ q, q ≠ 11 → t q = s q) ∧ (∀ b, a < b → t 11 b = s 11 b) ∧ ∀ b, b ≤ a → t 11 b = nI (pkU cap w v F b) := by
        rw [ast_i (show a < 41 by omega) (by decide), bd1_s]
        cases a with
        | zero => omega
        | succ a =>
          rw [nI_m1]
          obtain ⟨t, e, h1, h2, h3⟩ := add_m hw hw4 hv hF hcap x y z a f (u2 s 11 (a + 1) (nI (max (F (a + 1)) (F (a + 1 - w) + v)))) (by omega) (by omega) (fun b hb => by rw [u2_slot (by omega)]; exact hs b (by omega))
          refine ⟨t, e, fun q hq => by rw [h1 q hq, u2_ne hq], fun b hb => by rw [h2 b (by omega), u2_slot (by omega)], fun b hb => ?_⟩
          by_cases e2 : b = a + 1
          · subst e2
            rw [h2 _ (by omega), u2_same]
            unfold pkU
            rw [if_pos ⟨ha, by omega⟩]
          · exact h3 b (by omega)
      rw [fX9_pack_79, if_neg (fun z => q ((nI_ltI (by omega) (by omega)).mp z)), if_neg (fun z => by have := (nI_le0 (by omega)).mp z; omega), nI_subn (show w ≤ a by omega), ald_i (show a - w < 41 by omega) (by decide), ald_i (show a < 41 by omega) (by decide), hs a (Nat.le_refl _), hs (a - w) (by omega)]
      simp only [jn, bd1_s, nI_add]
      by_cases g : F (a - w) + v ≤ F a
      · rw [if_pos (nI_le g (by omega))]
        rw [Nat.max_eq_left g] at fin
        exact fin
      · rw [if_neg (nI_ge (by omega) (by omega))]
        rw [Nat.max_eq_right (by omega)] at fin
        exact fin
theorem pc_in {T : Tx} {dn c cap : Nat} (hT : TB T) (hc : c < 6) (hcap : cap ≤ 40) {h : Hs} {D : Int} (hB : HB D dn h) : ∀ (n k f : Nat) (σ : St) (F : Nat → Nat) (M : Nat), k + n = dn → n < f → (∀ a, F a ≤ M) → M + 9 * n ≤ 1000 → AF σ 68 41 F → CH σ 2 h → CLC σ T → ∃ σ', fX8_pack_34 (nI cap) (nI c) f (nI k) σ = some σ' ∧ AF σ' 68 41 (cf (pk1 T h cap c) k n F) ∧ CLC σ' T ∧ CP 68 σ σ'
  | n, k, 0, _, _, _, _, hf, _, _, _, _, _ => absurd hf (Nat.not_lt_zero _)
  | 0, k, f + 1, σ, F, M, hk, _, _, _, hA, hC, hc' => by
    have : k = dn := by omega
    subst this
    rw [fX8_pack_34, hC.2.2.2.2, hB.d3, if_pos (nI_le (Nat.le_refl _) (by have := hB.dn; omega))]
    exact ⟨σ, rfl, hA, hc', fun _ _ _ _ => rfl⟩
  | n + 1, k, f + 1, σ, F, M, hk, hf, hF, hM, hA, hC, hc' => by
    have hd := hB.dn
    have hk8 : k < 8 := by omega
    obtain ⟨w4, we⟩ := wN_eq hT h c k
    obtain ⟨t9, te⟩ := tN_eq hT h c k
    obtain ⟨σ1, e1, c1, f1⟩ := leftOf_eq hT hC hB hc' hc hk8
    rw [fX8_pack_34, hC.2.2.2.2, hB.d3, if_neg (nI_ge (by omega) (by omega)), e1, bd2_s, cf]
    simp only [jn]
    have C1 := hC.frL hH_2 f1
    have A1 : AF σ1 68 41 F := fun a ha => by rw [f1 68 (by decide) (by decide)]; exact hA a ha
    by_cases w0 : wN T h c k = 0
    · rw [if_pos (by rw [we, w0]; decide), nI_1]
      have e : pk1 T h cap c k F = F := by unfold pk1; rw [if_pos w0]
      obtain ⟨σ2, e2, A2, c2, f2⟩ := pc_in hT hc hcap hB n (k + 1) f σ1 F M (by omega) (by omega) hF (by omega) A1 C1 c1
      exact ⟨σ2, e2, by rw [e]; exact A2, c2, f1.CP.tr f2⟩
    · obtain ⟨σ2, e2, c2, f2⟩ := tasteOf_eq hT C1 hB c1 hc hk8 (lft T h c k)
      have A2 : AF σ2 68 41 F := fun a ha => by rw [f2 68 (by decide) (by decide)]; exact A1 a ha
      obtain ⟨σ3, e3, g1, g2, g3⟩ := add_c (w := wN T h c k) (v := tN T h c k) (by omega) w4 t9 (F := F) (fun a => by have := hF a; omega) hcap cap FU σ2 (Nat.le_refl _) (FU_lt (by omega)) (fun b hb => A2 b (by omega))
      rw [if_neg (fun q => w0 ((nI_le0 (by omega)).mp (by rw [← we]; exact q))), e2, bd2_s, te, we]
      unfold fX8_addToPack
      rw [e3, bd1_s, bd1_s, nI_1]
      have A3 : AF σ3 68 41 (pk1 T h cap c k F) := by
        intro a ha
        unfold pk1
        rw [if_neg w0]
        by_cases q : a ≤ cap
        · exact g3 a q
        · rw [g2 a (by omega), A2 a ha]
          unfold pkU
          rw [if_neg (by omega)]
      have F3 : CP 68 σ σ3 := (f1.CP.tr f2.CP).tr (fun i _ _ h3 => g1 i h3)
      obtain ⟨σ4, e4, A4, c4, f4⟩ := pc_in hT hc hcap hB n (k + 1) f σ3 (pk1 T h cap c k F) (M + 9) (by omega) (by omega) (pk1_b hT hF) (by omega) A3 (F3.H (by decide) hC) (c2.fr (g1 _ (by decide)) (g1 _ (by decide)) (g1 _ (by decide)) (g1 _ (by decide)) (g1 _ (by decide)))
      exact ⟨σ4, e4, A4, c4, F3.tr f4⟩
theorem pc_out {T : Tx} {dn cap : Nat} (hT : TB T) (hcap : cap ≤ 40) {h : Hs} {D : Int} (hB : HB D dn h) : ∀ (n c f : Nat) (σ : St) (F : Nat → Nat) (M : Nat), c + n = 6 → n < f → (∀ a, F a ≤ M) → M + 72 * n ≤ 1000 → AF σ 68 41 F → CH σ 2 h → CLC σ T → ∃ σ', fX8_pack_26 (nI cap) f (nI c) σ = some σ' ∧ AF σ' 68 41 (cf (fun c => cf (pk1 T h cap c) 0 dn) c n F) ∧ CLC σ' T ∧ CP 68 σ σ'
  | n, k, 0, _, _, _, _, hf, _, _, _, _, _ => absurd hf (Nat.not_lt_zero _)
  | 0, c, f + 1, σ, F, M, hc, _, _, _, hA, hC, hc' => by
    have : c = 6 := by omega
    subst this
    rw [fX8_pack_26, if_pos (show (6 : Int32) ≤ nI 6 by decide)]
    exact ⟨σ, rfl, hA, hc', fun _ _ _ _ => rfl⟩
  | n + 1, c, f + 1, σ, F, M, hc, hf, hF, hM, hA, hC, hc' => by
    have hd := hB.dn
    obtain ⟨σ1, e1, A1, c1, f1⟩ := pc_in hT (show c < 6 by omega) hcap hB dn 0 FU σ F M (by omega) (FU_lt (by omega)) hF (by omega) hA hC hc'
    rw [fX8_pack_26, if_neg (show ¬ (6 : Int32) ≤ nI c from nI_ge (b := 6) (by omega) (by decide)), show fX8_pack_34 (nI cap) (nI c) FU 0 σ = _ from e1, bd1_s, nI_1, cf]
    obtain ⟨σ2, e2, A2, c2, f2⟩ := pc_out hT hcap hB n (c + 1) f σ1 _ (M + 72) (by omega) (by omega) (fun a => by
      have := cf_b (op := pk1 T h cap c) (s := 9) (fun i G M hG => pk1_b hT hG) dn 0 F M hF a
      omega) (by omega) A1 (f1.H (by decide) hC) c1
    exact ⟨σ2, e2, A2, c2, f1.tr f2⟩
theorem pm_in {T : Tx} {dn k cap : Nat} (hT : TB T) (hk : k < 8) (hcap : cap ≤ 40) {h : Hs} {D : Int} (hB : HB D dn h) : ∀ (n c f : Nat) (τ : St) (F : Nat → Nat) (M : Nat), c + n = 6 → n < f → (∀ a, F a ≤ M) → M + 9 * n ≤ 1000 → AF τ 11 41 F → MH (τ 1) h → MLC τ T → ∃ τ', fX9_pack_52 (nI cap) (nI k) f (nI c) τ = some τ' ∧ AF τ' 11 41 (cf (fun c => pk1 T h cap c k) c n F) ∧ MLC τ' T ∧ MP 11 τ τ'
  | n, c, 0, _, _, _, _, hf, _, _, _, _, _ => absurd hf (Nat.not_lt_zero _)
  | 0, c, f + 1, τ, F, M, hc, _, _, _, hA, hMH, hm => by
    have : c = 6 := by omega
    subst this
    rw [fX9_pack_52, if_pos (show (6 : Int32) ≤ nI 6 by decide)]
    exact ⟨τ, rfl, hA, hm, fun _ _ _ _ => rfl, fun _ _ => rfl⟩
  | n + 1, c, f + 1, τ, F, M, hc, hf, hF, hM, hA, hMH, hm => by
    obtain ⟨w4, we⟩ := wN_eq hT h c k
    obtain ⟨t9, te⟩ := tN_eq hT h c k
    obtain ⟨τ1, e1, m1, f1⟩ := m_left hMH hB hm (c := c) (x := nI c) rfl (by omega) hk
    obtain ⟨τ2, e2, m2, f2⟩ := m_taste (hMH.frG f1) hB m1 (c := c) (x := nI c) rfl (by omega) hk (lft T h c k)
    have A2 : AF τ2 11 41 F := fun i hi => by rw [f2.1 11 (by decide) (by decide), f1.1 11 (by decide) (by decide)]; exact hA i hi
    rw [fX9_pack_52, if_neg (show ¬ (6 : Int32) ≤ nI c from nI_ge (b := 6) (by omega) (by decide)), e1, bd2_s, e2, bd2_s, te, we, cf]
    have fin : ∀ τ3, fX9_pack_79 (nI cap) (nI k) (nI c) (nI (wN T h c k)) (nI (tN T h c k)) FU (nI cap) τ2 = some τ3 → (∀ q, q ≠ 11 → τ3 q = τ2 q) → AF τ3 11 41 (pk1 T h cap c k F) → ∃ τ', (bd1 (fX9_pack_79 (nI cap) (nI k) (nI c) (nI (wN T h c k)) (nI (tN T h c k)) FU (nI cap) τ2) fun s30 => fX9_pack_52 (nI cap) (nI k) f (nI c + 1) s30) = some τ' ∧ AF τ' 11 41 (cf (fun c => pk1 T h cap c k) (c + 1) n (pk1 T h cap c k F)) ∧ MLC τ' T ∧ MP 11 τ τ' := by
      intro τ3 e3 g1 A3
      rw [e3, bd1_s, nI_1]
      have F3 : MP 11 τ τ3 := (f1.MP.tr f2.MP).tr ⟨fun i _ _ h3 => g1 i h3, fun i _ => by rw [g1 0 (by decide)]⟩
      obtain ⟨τ4, e4, A5, m4, f4⟩ := pm_in hT hk hcap hB n (c + 1) f τ3 (pk1 T h cap c k F) (M + 9) (by omega) (by omega) (pk1_b hT hF) (by omega) A3 (F3.H (by decide) hMH) ⟨m2.1.fr (fun j _ => by rw [g1 1 (by decide)]), m2.2.fr (g1 6 (by decide))⟩
      exact ⟨τ4, e4, A5, m4, F3.tr f4⟩
    by_cases w0 : wN T h c k = 0
    · refine fin τ2 ?_ (fun _ _ => rfl) (by unfold pk1; rw [if_pos w0]; exact A2)
      show fX9_pack_79 (nI cap) (nI k) (nI c) (nI (wN T h c k)) (nI (tN T h c k)) (2099 + 1) (nI cap) τ2 = some τ2
      rw [w0, fX9_pack_79, if_neg (show ¬ nI cap < nI 0 from fun z => by have := (nI_ltI (by omega) (by decide)).mp z; omega), if_pos (show nI 0 ≤ (0 : Int32) by decide)]
    · obtain ⟨τ3, e3, g1, g2, g3⟩ := add_m (w := wN T h c k) (v := tN T h c k) (by omega) w4 t9 (F := F) (fun a => by have := hF a; omega) hcap (nI cap) (nI k) (nI c) cap FU τ2 (Nat.le_refl _) (FU_lt (by omega)) (fun b hb => A2 b (by omega))
      refine fin τ3 e3 g1 (fun a ha => ?_)
      unfold pk1
      rw [if_neg w0]
      by_cases q : a ≤ cap
      · exact g3 a q
      · rw [g2 a (by omega), A2 a ha]
        unfold pkU
        rw [if_neg (by omega)]
theorem pm_out {T : Tx} {dn cap : Nat} (hT : TB T) (hcap : cap ≤ 40) {h : Hs} {D : Int} (hB : HB D dn h) : ∀ (n k f : Nat) (τ : St) (F : Nat → Nat) (M : Nat), k + n = dn → n < f → (∀ a, F a ≤ M) → M + 54 * n ≤ 1000 → AF τ 11 41 F → MH (τ 1) h → MLC τ T → ∃ τ', fX9_pack_40 (nI cap) f (nI k) τ = some τ' ∧ AF τ' 11 41 (cf (fun k => cf (fun c => pk1 T h cap c k) 0 6) k n F) ∧ MLC τ' T ∧ MP 11 τ τ'
  | n, k, 0, _, _, _, _, hf, _, _, _, _, _ => absurd hf (Nat.not_lt_zero _)
  | 0, k, f + 1, τ, F, M, hk, _, _, _, hA, hMH, hm => by
    have hd := hB.dn
    have : k = dn := by omega
    subst this
    rw [fX9_pack_40, ald1 (x := 2) (i := 2) rfl (by decide), bd1_s, hMH.1.2.1, hB.d3, if_pos (nI_le (Nat.le_refl _) (by omega))]
    exact ⟨τ, rfl, hA, hm, fun _ _ _ _ => rfl, fun _ _ => rfl⟩
  | n + 1, k, f + 1, τ, F, M, hk, hf, hF, hM, hA, hMH, hm => by
    have hd := hB.dn
    obtain ⟨τ1, e1, A1, m1, f1⟩ := pm_in hT (show k < 8 by omega) hcap hB 6 0 FU τ F M (by omega) (FU_lt (by omega)) hF (by omega) hA hMH hm
    rw [fX9_pack_40, ald1 (x := 2) (i := 2) rfl (by decide), bd1_s, hMH.1.2.1, hB.d3, if_neg (nI_ge (by omega) (by omega)), show fX9_pack_52 (nI cap) (nI k) FU 0 τ = _ from e1, bd1_s, nI_1, cf]
    obtain ⟨τ2, e2, A2, m2, f2⟩ := pm_out hT hcap hB n (k + 1) f τ1 _ (M + 54) (by omega) (by omega) (fun a => by
      have := cf_b (op := fun c => pk1 T h cap c k) (s := 9) (fun i G M hG => pk1_b hT hG) 6 0 F M hF a
      omega) (by omega) A1 (f1.H (by decide) hMH) m1
    exact ⟨τ2, e2, A2, m2, f1.tr f2⟩
theorem pack_z (a : Int32) : ∀ (n i f : Nat) (s : St), i + n = 41 → n < f → ∃ t, fX9_pack_19 a f (nI i) s = some t ∧ (∀ q, q ≠ 11 → t q = s q) ∧ (∀ j, j < i → t 11 j = s 11 j) ∧ ∀ j, i ≤ j → j < 41 → t 11 j = 0
  | n, i, 0, _, _, hf => absurd hf (Nat.not_lt_zero _)
  | 0, i, f + 1, s, hi, _ => by
    have : i = 41 := by omega
    subst this
    rw [fX9_pack_19, if_pos (show (40 : Int32) < nI 41 by decide)]
    exact ⟨s, rfl, fun _ _ => rfl, fun _ _ => rfl, fun j h1 h2 => by omega⟩
  | n + 1, i, f + 1, s, hi, hf => by
    rw [fX9_pack_19, if_neg (fun z => by have := (i40 (by omega)).mp z; omega), ast_i (by omega) (by decide), bd1_s, nI_1]
    obtain ⟨t, e, h1, h2, h3⟩ := pack_z a n (i + 1) f (u2 s 11 i 0) (by omega) (by omega)
    refine ⟨t, e, fun q hq => by rw [h1 q hq, u2_ne hq], fun j hj => by rw [h2 j (by omega), u2_slot (by omega)], fun j h4 h5 => ?_⟩
    by_cases q : j = i
    · subst q; rw [h2 j (by omega), u2_same]
    · exact h3 j (by omega) h5
theorem op_pack {σ τ : St} {m : Nat} (r : Rel σ τ m) (a : Int32) : OK2 (fX8_pack a σ) (fX9_pack a τ) m := by
  have r0 := r
  obtain ⟨h, T, dn, n0, rest⟩ := r
  obtain ⟨a1, a2, a3, a4, a5, a6, a7, a8⟩ := id n0
  have hd := a3.dn
  unfold fX8_pack fX9_pack
  simp only [c_within, m_in, bd2_s, gi0, bd2_eta]
  refine ok_if (σ := σ) (τ := τ) (fun h1 => ?_) (fun _ => ok_e1 r0)
  obtain ⟨cap, hcap, -, rfl⟩ := rg 40 h1 (by decide)
  obtain ⟨σ1, e1, f1, g1⟩ := fill_eq (k := 68) (N := 41) (by decide) 0 σ
  obtain ⟨σ2, e2, A2, c2, f2⟩ := pc_out (dn := dn) a4 hcap a3 6 0 FU σ1 (fun _ => 0) 0 rfl (FU_lt (by omega)) (fun _ => Nat.le_refl _) (by decide) (fun i hi => g1 i hi) (a1.fr (fun k hk => f1 _ (by omega))) (a5.fr (f1 _ (by decide)) (f1 _ (by decide)) (f1 _ (by decide)) (f1 _ (by decide)) (f1 _ (by decide)))
  obtain ⟨τ1, k1, u1, -, v1⟩ := pack_z (nI cap) 41 0 FU τ rfl (FU_lt (by omega))
  obtain ⟨τ2, k2, B2, m2, t2⟩ := pm_out (dn := dn) a4 hcap a3 dn 0 FU τ1 (fun _ => 0) 0 (by omega) (FU_lt (by omega)) (fun _ => Nat.le_refl _) (by omega) (fun i hi => v1 i (by omega) hi) (by rw [u1 1 (by decide)]; exact a2) ⟨a6.1.fr (fun j _ => by rw [u1 1 (by decide)]), a6.2.fr (u1 6 (by decide))⟩
  rw [← cf_swap (fun c k => pk1 T h cap c k) (fun i j i' j' x => pk1_comm T h cap i j i' j' x)] at B2
  have P : CP 68 σ σ2 := (show CP 68 σ σ1 from fun k _ _ h3 => f1 k h3).tr f2
  have Q : MP 11 τ τ2 := (show MP 11 τ τ1 from ⟨fun k _ _ h3 => u1 k h3, fun j _ => by rw [u1 0 (by decide)]⟩).tr t2
  have R := Rel.cp (c := 68) (d := 11) (Or.inl rfl) (Or.inl rfl) n0 rest P Q c2 m2
  rw [e1, bd1_s, show fX8_pack_26 (nI cap) FU 0 σ1 = _ from e2, bd1_s, show fX9_pack_19 (nI cap) FU 0 τ = _ from k1, bd1_s, show fX9_pack_40 (nI cap) FU 0 τ1 = _ from k2, bd1_s, ald_F A2 (show cap < 41 by omega) (by decide), bd1_s, ald_F B2 (show cap < 41 by omega) (by decide), bd1_s]
  exact ok_some _ R
