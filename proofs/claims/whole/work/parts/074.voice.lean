/-! voices -/
def Vo (σ0 τ0 σ τ : St) : Prop := (∀ k, k ≠ 56 → k ≠ 57 → σ k = σ0 k) ∧ (∀ k, k ≠ 0 → k ≠ 13 → τ k = τ0 k) ∧ (∀ j, j ≠ 24 → τ 0 j = τ0 0 j) ∧ RV σ τ
theorem rl56 : rl 56 = 40 := rfl
theorem ran_eq {σ0 τ0 σ τ : St} (h : Vo σ0 τ0 σ τ) (v : Int32) : ∃ σ' τ', fX4_add 56 v σ = some σ' ∧ fX9_ran v τ = some τ' ∧ Vo σ0 τ0 σ' τ' := by
  obtain ⟨h1, h2, h3, n, l, p1, p2, p3⟩ := id h
  unfold fX4_add fX9_ran
  rw [rl56, p1, p2]
  by_cases q : n = 40
  · subst q
    rw [if_pos (show Int32.ofNat 40 ≤ nI 40 by decide), if_pos (show (40 : Int32) ≤ nI 40 by decide)]
    exact ⟨σ, τ, rfl, rfl, h⟩
  · rw [if_neg (show ¬ Int32.ofNat 40 ≤ nI n from nI_ge (b := 40) (by omega) (by decide)), if_neg (show ¬ (40 : Int32) ≤ nI n from nI_ge (b := 40) (by omega) (by decide)), ast_i (show n < 40 by omega) (by decide), bd1_s, ptf, bd1_s, ast_i (show n < 40 by omega) (by decide), bd1_s, ptf, bd1_s, u2_ne (show (56 : Nat) ≠ 56 + 1 by decide), p1, u2_ne (show (0 : Nat) ≠ 13 by decide), p2, nI_1]
    refine ⟨_, _, rfl, rfl, fun k k1 k2 => by rw [u2_ne k1, u2_ne k2]; exact h1 k k1 k2, fun k k1 k2 => by rw [u2_ne k1, u2_ne k2]; exact h2 k k1 k2, fun j hj => by rw [u2_slot hj, u2_ne (by decide)]; exact h3 j hj, n + 1, by omega, by rw [u2_same], by rw [u2_same], fun i hi => ?_⟩
    rw [u2_ne (by decide), u2_ne (show (13 : Nat) ≠ 0 by decide)]
    by_cases e : i = n
    · subst e; rw [show (57 : Nat) = 56 + 1 from rfl, u2_same, u2_same]
    · rw [show (57 : Nat) = 56 + 1 from rfl, u2_slot e, u2_slot e]; exact p3 i (by omega)
def mW : Nat → Nat → Nat → List Int32 → St → Option (Int32 × St)
  | 0 => grp_X9_leavesIn
  | 1 => grp_X9_mendsIn
  | 2 => grp_X9_grievesIn
  | _ => grp_X9_tellsIn
/-- both speak alike from a kind on -/
def VL (σ0 τ0 : St) (B w k e : Nat) : Prop := ∀ (x : Int32) (d n n' f i : Nat) (σ τ : St), Vo σ0 τ0 σ τ → d + B ≤ 30 → 3 * B ≤ n → 10 * B ≤ n' + i → i + e ≤ 6 → 10 ≤ f + i → ∃ y σ' τ', fX6_sayFrom_6 (grp_X6_say n) (nI w) x (nI d) f (nI k) (nI i) σ = some (.inl (y, σ')) ∧ mW w n' 0 [nI k, x] τ = some (y, τ') ∧ Vo σ0 τ0 σ' τ'
theorem VL.mono {σ0 τ0 : St} {B B' w k e e' : Nat} (h : VL σ0 τ0 B w k e) (hB : B ≤ B') (he : e ≤ e') : VL σ0 τ0 B' w k e' := fun x d n n' f i σ τ v h1 h2 h3 h4 h5 => h x d n n' f i σ τ v (by omega) (by omega) (by omega) (by omega) h5
theorem i30 {d : Nat} (h : d < 30) : ¬ (30 : Int32) ≤ nI d := nI_ge (b := 30) h (by decide)
theorem i6 {i : Nat} (h : i ≤ 6) : ¬ (6 : Int32) < nI i := fun z => by have := (nI_ltI (a := 6) (by decide) (by omega)).mp z; omega
theorem vc_step {rec : Nat → List Int32 → St → Option (Int32 × St)} {w k A d f i : Nat} {x : Int32} {s : St} (ht : tld kBO 28 (nI k * 4 + nI w) = some 0) (ha : fX1_above (nI k) s = some (nI A, s)) (hk : k ≤ 6) (hi : i ≤ 6) (hd : d < 30) : fX6_sayFrom_6 rec (nI w) x (nI d) (f + 1) (nI k) (nI i) s = fX6_sayFrom_6 rec (nI w) x (nI d) f (nI A) (nI (i + 1)) s := by
  rw [fX6_sayFrom_6, if_neg (i6 hi), if_neg (nI_pos (by omega)), if_neg (i30 hd), ht, bd1_s, if_pos rfl, ha, bd2_s, nI_1]
theorem vc_body {rec : Nat → List Int32 → St → Option (Int32 × St)} {w k d f i : Nat} {x v : Int32} {s : St} (ht : tld kBO 28 (nI k * 4 + nI w) = some v) (hv : v ≠ 0) (hk : k ≤ 6) (hi : i ≤ 6) (hd : d < 30) : fX6_sayFrom_6 rec (nI w) x (nI d) (f + 1) (nI k) (nI i) s = bd1 (fX4_add 56 v s) fun s6 => bd2 (rec 3 [v, x, nI (d + 1)] s6) fun u10 s8 => some (.inl (u10, s8)) := by
  rw [fX6_sayFrom_6, if_neg (i6 hi), if_neg (nI_pos (by omega)), if_neg (i30 hd), ht, bd1_s, if_neg hv, nI_1]
theorem say_of {w k d n : Nat} {x y : Int32} {s t : St} (hk : s 55 3 = nI k) (h : fX6_sayFrom_6 (grp_X6_say n) (nI w) x (nI d) FU (nI k) (nI 0) s = some (.inl (y, t))) : grp_X6_say (n + 2) 0 [nI w, x, nI d] s = some (y, t) := by
  show bd2 (grp_X6_say (n + 1) 2 [s 55 3, nI w, x, nI d] s) (fun u3 s1 => some (u3, s1)) = _
  rw [bd2_eta, hk]
  show bS1 (fX6_sayFrom_6 (grp_X6_say n) (nI w) x (nI d) FU (nI k) (nI 0) s) (fun u16 => some u16) (fun s15 => some (0, s15)) = _
  rw [h, bS1_l]
theorem sayA_of {c w k d n : Nat} {x y : Int32} {s t : St} (ha : fX1_above (nI c) s = some (nI k, s)) (h : fX6_sayFrom_6 (grp_X6_say n) (nI w) x (nI d) FU (nI k) (nI 0) s = some (.inl (y, t))) : grp_X6_say (n + 2) 1 [nI c, nI w, x, nI d] s = some (y, t) := by
  show bd2 (fX1_above (nI c) s) (fun u3 s1 => bd2 (grp_X6_say (n + 1) 2 [u3, nI w, x, nI d] s1) (fun u6 s4 => some (u6, s4))) = _
  rw [ha, bd2_s, bd2_eta]
  show bS1 (fX6_sayFrom_6 (grp_X6_say n) (nI w) x (nI d) FU (nI k) (nI 0) s) (fun u16 => some u16) (fun s15 => some (0, s15)) = _
  rw [h, bS1_l]
theorem ab1 (s : St) : fX1_above (nI 1) s = some (nI 0, s) := rfl
theorem ab2 (s : St) : fX1_above (nI 2) s = some (nI 0, s) := rfl
theorem ab3 (s : St) : fX1_above (nI 3) s = some (nI 0, s) := rfl
theorem ab4 (s : St) : fX1_above (nI 4) s = some (nI 1, s) := rfl
theorem ab5 (s : St) : fX1_above (nI 5) s = some (nI 2, s) := rfl
theorem ab6 (s : St) : fX1_above (nI 6) s = some (nI 3, s) := rfl
theorem bo0_0 : tld kBO 28 (nI 0 * 4 + nI 0) = some 10 := rfl
theorem bo0_1 : tld kBO 28 (nI 1 * 4 + nI 0) = some 20 := rfl
theorem bo0_2 : tld kBO 28 (nI 2 * 4 + nI 0) = some 0 := rfl
theorem ms0_2 (n : Nat) (x : Int32) (s : St) : mW 0 (n + 1) 0 [nI 2, x] s = mW 0 n 0 [nI 0, x] s := bd2_eta (mW 0 n 0 [nI 0, x] s)
theorem vs0_2 {σ0 τ0 : St} {B e : Nat} (h : VL σ0 τ0 B 0 0 e) (hB : 1 ≤ B) : VL σ0 τ0 B 0 2 (e + 1) := by
  intro x d n n' f i σ τ v h1 h2 h3 h4 h5
  obtain ⟨f, rfl⟩ : ∃ g, f = g + 1 := ⟨f - 1, by omega⟩
  obtain ⟨n', rfl⟩ : ∃ g, n' = g + 1 := ⟨n' - 1, by omega⟩
  rw [vc_step bo0_2 (ab2 σ) (by decide) (by omega) (by omega), ms0_2]
  exact h x d n n' f (i + 1) σ τ v h1 h2 (by omega) (by omega) (by omega)
theorem bo0_3 : tld kBO 28 (nI 3 * 4 + nI 0) = some 0 := rfl
theorem ms0_3 (n : Nat) (x : Int32) (s : St) : mW 0 (n + 1) 0 [nI 3, x] s = mW 0 n 0 [nI 0, x] s := bd2_eta (mW 0 n 0 [nI 0, x] s)
theorem vs0_3 {σ0 τ0 : St} {B e : Nat} (h : VL σ0 τ0 B 0 0 e) (hB : 1 ≤ B) : VL σ0 τ0 B 0 3 (e + 1) := by
  intro x d n n' f i σ τ v h1 h2 h3 h4 h5
  obtain ⟨f, rfl⟩ : ∃ g, f = g + 1 := ⟨f - 1, by omega⟩
  obtain ⟨n', rfl⟩ : ∃ g, n' = g + 1 := ⟨n' - 1, by omega⟩
  rw [vc_step bo0_3 (ab3 σ) (by decide) (by omega) (by omega), ms0_3]
  exact h x d n n' f (i + 1) σ τ v h1 h2 (by omega) (by omega) (by omega)
theorem bo0_4 : tld kBO 28 (nI 4 * 4 + nI 0) = some 0 := rfl
theorem ms0_4 (n : Nat) (x : Int32) (s : St) : mW 0 (n + 1) 0 [nI 4, x] s = mW 0 n 0 [nI 1, x] s := bd2_eta (mW 0 n 0 [nI 1, x] s)
theorem vs0_4 {σ0 τ0 : St} {B e : Nat} (h : VL σ0 τ0 B 0 1 e) (hB : 1 ≤ B) : VL σ0 τ0 B 0 4 (e + 1) := by
  intro x d n n' f i σ τ v h1 h2 h3 h4 h5
  obtain ⟨f, rfl⟩ : ∃ g, f = g + 1 := ⟨f - 1, by omega⟩
  obtain ⟨n', rfl⟩ : ∃ g, n' = g + 1 := ⟨n' - 1, by omega⟩
  rw [vc_step bo0_4 (ab4 σ) (by decide) (by omega) (by omega), ms0_4]
  exact h x d n n' f (i + 1) σ τ v h1 h2 (by omega) (by omega) (by omega)
theorem bo0_5 : tld kBO 28 (nI 5 * 4 + nI 0) = some 0 := rfl
theorem ms0_5 (n : Nat) (x : Int32) (s : St) : mW 0 (n + 1) 0 [nI 5, x] s = mW 0 n 0 [nI 2, x] s := bd2_eta (mW 0 n 0 [nI 2, x] s)
theorem vs0_5 {σ0 τ0 : St} {B e : Nat} (h : VL σ0 τ0 B 0 2 e) (hB : 1 ≤ B) : VL σ0 τ0 B 0 5 (e + 1) := by
  intro x d n n' f i σ τ v h1 h2 h3 h4 h5
  obtain ⟨f, rfl⟩ : ∃ g, f = g + 1 := ⟨f - 1, by omega⟩
  obtain ⟨n', rfl⟩ : ∃ g, n' = g + 1 := ⟨n' - 1, by omega⟩
  rw [vc_step bo0_5 (ab5 σ) (by decide) (by omega) (by omega), ms0_5]
  exact h x d n n' f (i + 1) σ τ v h1 h2 (by omega) (by omega) (by omega)
theorem bo0_6 : tld kBO 28 (nI 6 * 4 + nI 0) = some 0 := rfl
theorem ms0_6 (n : Nat) (x : Int32) (s : St) : mW 0 (n + 1) 0 [nI 6, x] s = mW 0 n 0 [nI 3, x] s := bd2_eta (mW 0 n 0 [nI 3, x] s)
theorem vs0_6 {σ0 τ0 : St} {B e : Nat} (h : VL σ0 τ0 B 0 3 e) (hB : 1 ≤ B) : VL σ0 τ0 B 0 6 (e + 1) := by
  intro x d n n' f i σ τ v h1 h2 h3 h4 h5
  obtain ⟨f, rfl⟩ : ∃ g, f = g + 1 := ⟨f - 1, by omega⟩
  obtain ⟨n', rfl⟩ : ∃ g, n' = g + 1 := ⟨n' - 1, by omega⟩
  rw [vc_step bo0_6 (ab6 σ) (by decide) (by omega) (by omega), ms0_6]
  exact h x d n n' f (i + 1) σ τ v h1 h2 (by omega) (by omega) (by omega)
theorem bo1_0 : tld kBO 28 (nI 0 * 4 + nI 1) = some 11 := rfl
theorem bo1_1 : tld kBO 28 (nI 1 * 4 + nI 1) = some 0 := rfl
theorem ms1_1 (n : Nat) (x : Int32) (s : St) : mW 1 (n + 1) 0 [nI 1, x] s = mW 1 n 0 [nI 0, x] s := bd2_eta (mW 1 n 0 [nI 0, x] s)
theorem vs1_1 {σ0 τ0 : St} {B e : Nat} (h : VL σ0 τ0 B 1 0 e) (hB : 1 ≤ B) : VL σ0 τ0 B 1 1 (e + 1) := by
  intro x d n n' f i σ τ v h1 h2 h3 h4 h5
  obtain ⟨f, rfl⟩ : ∃ g, f = g + 1 := ⟨f - 1, by omega⟩
  obtain ⟨n', rfl⟩ : ∃ g, n' = g + 1 := ⟨n' - 1, by omega⟩
  rw [vc_step bo1_1 (ab1 σ) (by decide) (by omega) (by omega), ms1_1]
  exact h x d n n' f (i + 1) σ τ v h1 h2 (by omega) (by omega) (by omega)
theorem bo1_2 : tld kBO 28 (nI 2 * 4 + nI 1) = some 30 := rfl
theorem bo1_3 : tld kBO 28 (nI 3 * 4 + nI 1) = some 0 := rfl
theorem ms1_3 (n : Nat) (x : Int32) (s : St) : mW 1 (n + 1) 0 [nI 3, x] s = mW 1 n 0 [nI 0, x] s := bd2_eta (mW 1 n 0 [nI 0, x] s)
theorem vs1_3 {σ0 τ0 : St} {B e : Nat} (h : VL σ0 τ0 B 1 0 e) (hB : 1 ≤ B) : VL σ0 τ0 B 1 3 (e + 1) := by
  intro x d n n' f i σ τ v h1 h2 h3 h4 h5
  obtain ⟨f, rfl⟩ : ∃ g, f = g + 1 := ⟨f - 1, by omega⟩
  obtain ⟨n', rfl⟩ : ∃ g, n' = g + 1 := ⟨n' - 1, by omega⟩
  rw [vc_step bo1_3 (ab3 σ) (by decide) (by omega) (by omega), ms1_3]
  exact h x d n n' f (i + 1) σ τ v h1 h2 (by omega) (by omega) (by omega)
theorem bo1_4 : tld kBO 28 (nI 4 * 4 + nI 1) = some 0 := rfl
theorem ms1_4 (n : Nat) (x : Int32) (s : St) : mW 1 (n + 1) 0 [nI 4, x] s = mW 1 n 0 [nI 1, x] s := bd2_eta (mW 1 n 0 [nI 1, x] s)
theorem vs1_4 {σ0 τ0 : St} {B e : Nat} (h : VL σ0 τ0 B 1 1 e) (hB : 1 ≤ B) : VL σ0 τ0 B 1 4 (e + 1) := by
  intro x d n n' f i σ τ v h1 h2 h3 h4 h5
  obtain ⟨f, rfl⟩ : ∃ g, f = g + 1 := ⟨f - 1, by omega⟩
  obtain ⟨n', rfl⟩ : ∃ g, n' = g + 1 := ⟨n' - 1, by omega⟩
  rw [vc_step bo1_4 (ab4 σ) (by decide) (by omega) (by omega), ms1_4]
  exact h x d n n' f (i + 1) σ τ v h1 h2 (by omega) (by omega) (by omega)
theorem bo1_5 : tld kBO 28 (nI 5 * 4 + nI 1) = some 60 := rfl
theorem bo1_6 : tld kBO 28 (nI 6 * 4 + nI 1) = some 0 := rfl
theorem ms1_6 (n : Nat) (x : Int32) (s : St) : mW 1 (n + 1) 0 [nI 6, x] s = mW 1 n 0 [nI 3, x] s := bd2_eta (mW 1 n 0 [nI 3, x] s)
theorem vs1_6 {σ0 τ0 : St} {B e : Nat} (h : VL σ0 τ0 B 1 3 e) (hB : 1 ≤ B) : VL σ0 τ0 B 1 6 (e + 1) := by
  intro x d n n' f i σ τ v h1 h2 h3 h4 h5
  obtain ⟨f, rfl⟩ : ∃ g, f = g + 1 := ⟨f - 1, by omega⟩
  obtain ⟨n', rfl⟩ : ∃ g, n' = g + 1 := ⟨n' - 1, by omega⟩
  rw [vc_step bo1_6 (ab6 σ) (by decide) (by omega) (by omega), ms1_6]
  exact h x d n n' f (i + 1) σ τ v h1 h2 (by omega) (by omega) (by omega)
theorem bo2_0 : tld kBO 28 (nI 0 * 4 + nI 2) = some 12 := rfl
theorem bo2_1 : tld kBO 28 (nI 1 * 4 + nI 2) = some 0 := rfl
theorem ms2_1 (n : Nat) (x : Int32) (s : St) : mW 2 (n + 1) 0 [nI 1, x] s = mW 2 n 0 [nI 0, x] s := bd2_eta (mW 2 n 0 [nI 0, x] s)
theorem vs2_1 {σ0 τ0 : St} {B e : Nat} (h : VL σ0 τ0 B 2 0 e) (hB : 1 ≤ B) : VL σ0 τ0 B 2 1 (e + 1) := by
  intro x d n n' f i σ τ v h1 h2 h3 h4 h5
  obtain ⟨f, rfl⟩ : ∃ g, f = g + 1 := ⟨f - 1, by omega⟩
  obtain ⟨n', rfl⟩ : ∃ g, n' = g + 1 := ⟨n' - 1, by omega⟩
  rw [vc_step bo2_1 (ab1 σ) (by decide) (by omega) (by omega), ms2_1]
  exact h x d n n' f (i + 1) σ τ v h1 h2 (by omega) (by omega) (by omega)
theorem bo2_2 : tld kBO 28 (nI 2 * 4 + nI 2) = some 0 := rfl
theorem ms2_2 (n : Nat) (x : Int32) (s : St) : mW 2 (n + 1) 0 [nI 2, x] s = mW 2 n 0 [nI 0, x] s := bd2_eta (mW 2 n 0 [nI 0, x] s)
theorem vs2_2 {σ0 τ0 : St} {B e : Nat} (h : VL σ0 τ0 B 2 0 e) (hB : 1 ≤ B) : VL σ0 τ0 B 2 2 (e + 1) := by
  intro x d n n' f i σ τ v h1 h2 h3 h4 h5
  obtain ⟨f, rfl⟩ : ∃ g, f = g + 1 := ⟨f - 1, by omega⟩
  obtain ⟨n', rfl⟩ : ∃ g, n' = g + 1 := ⟨n' - 1, by omega⟩
  rw [vc_step bo2_2 (ab2 σ) (by decide) (by omega) (by omega), ms2_2]
  exact h x d n n' f (i + 1) σ τ v h1 h2 (by omega) (by omega) (by omega)
theorem bo2_3 : tld kBO 28 (nI 3 * 4 + nI 2) = some 40 := rfl
theorem bo2_4 : tld kBO 28 (nI 4 * 4 + nI 2) = some 0 := rfl
theorem ms2_4 (n : Nat) (x : Int32) (s : St) : mW 2 (n + 1) 0 [nI 4, x] s = mW 2 n 0 [nI 1, x] s := bd2_eta (mW 2 n 0 [nI 1, x] s)
theorem vs2_4 {σ0 τ0 : St} {B e : Nat} (h : VL σ0 τ0 B 2 1 e) (hB : 1 ≤ B) : VL σ0 τ0 B 2 4 (e + 1) := by
  intro x d n n' f i σ τ v h1 h2 h3 h4 h5
  obtain ⟨f, rfl⟩ : ∃ g, f = g + 1 := ⟨f - 1, by omega⟩
  obtain ⟨n', rfl⟩ : ∃ g, n' = g + 1 := ⟨n' - 1, by omega⟩
  rw [vc_step bo2_4 (ab4 σ) (by decide) (by omega) (by omega), ms2_4]
  exact h x d n n' f (i + 1) σ τ v h1 h2 (by omega) (by omega) (by omega)
theorem bo2_5 : tld kBO 28 (nI 5 * 4 + nI 2) = some 0 := rfl
theorem ms2_5 (n : Nat) (x : Int32) (s : St) : mW 2 (n + 1) 0 [nI 5, x] s = mW 2 n 0 [nI 2, x] s := bd2_eta (mW 2 n 0 [nI 2, x] s)
theorem vs2_5 {σ0 τ0 : St} {B e : Nat} (h : VL σ0 τ0 B 2 2 e) (hB : 1 ≤ B) : VL σ0 τ0 B 2 5 (e + 1) := by
  intro x d n n' f i σ τ v h1 h2 h3 h4 h5
  obtain ⟨f, rfl⟩ : ∃ g, f = g + 1 := ⟨f - 1, by omega⟩
  obtain ⟨n', rfl⟩ : ∃ g, n' = g + 1 := ⟨n' - 1, by omega⟩
  rw [vc_step bo2_5 (ab5 σ) (by decide) (by omega) (by omega), ms2_5]
  exact h x d n n' f (i + 1) σ τ v h1 h2 (by omega) (by omega) (by omega)
theorem bo2_6 : tld kBO 28 (nI 6 * 4 + nI 2) = some 70 := rfl
theorem bo3_0 : tld kBO 28 (nI 0 * 4 + nI 3) = some 13 := rfl
theorem bo3_1 : tld kBO 28 (nI 1 * 4 + nI 3) = some 0 := rfl
theorem ms3_1 (n : Nat) (x : Int32) (s : St) : mW 3 (n + 1) 0 [nI 1, x] s = mW 3 n 0 [nI 0, x] s := bd2_eta (mW 3 n 0 [nI 0, x] s)
theorem vs3_1 {σ0 τ0 : St} {B e : Nat} (h : VL σ0 τ0 B 3 0 e) (hB : 1 ≤ B) : VL σ0 τ0 B 3 1 (e + 1) := by
  intro x d n n' f i σ τ v h1 h2 h3 h4 h5
  obtain ⟨f, rfl⟩ : ∃ g, f = g + 1 := ⟨f - 1, by omega⟩
  obtain ⟨n', rfl⟩ : ∃ g, n' = g + 1 := ⟨n' - 1, by omega⟩
  rw [vc_step bo3_1 (ab1 σ) (by decide) (by omega) (by omega), ms3_1]
  exact h x d n n' f (i + 1) σ τ v h1 h2 (by omega) (by omega) (by omega)
theorem bo3_2 : tld kBO 28 (nI 2 * 4 + nI 3) = some 0 := rfl
theorem ms3_2 (n : Nat) (x : Int32) (s : St) : mW 3 (n + 1) 0 [nI 2, x] s = mW 3 n 0 [nI 0, x] s := bd2_eta (mW 3 n 0 [nI 0, x] s)
theorem vs3_2 {σ0 τ0 : St} {B e : Nat} (h : VL σ0 τ0 B 3 0 e) (hB : 1 ≤ B) : VL σ0 τ0 B 3 2 (e + 1) := by
  intro x d n n' f i σ τ v h1 h2 h3 h4 h5
  obtain ⟨f, rfl⟩ : ∃ g, f = g + 1 := ⟨f - 1, by omega⟩
  obtain ⟨n', rfl⟩ : ∃ g, n' = g + 1 := ⟨n' - 1, by omega⟩
  rw [vc_step bo3_2 (ab2 σ) (by decide) (by omega) (by omega), ms3_2]
  exact h x d n n' f (i + 1) σ τ v h1 h2 (by omega) (by omega) (by omega)
theorem bo3_3 : tld kBO 28 (nI 3 * 4 + nI 3) = some 0 := rfl
theorem ms3_3 (n : Nat) (x : Int32) (s : St) : mW 3 (n + 1) 0 [nI 3, x] s = mW 3 n 0 [nI 0, x] s := bd2_eta (mW 3 n 0 [nI 0, x] s)
theorem vs3_3 {σ0 τ0 : St} {B e : Nat} (h : VL σ0 τ0 B 3 0 e) (hB : 1 ≤ B) : VL σ0 τ0 B 3 3 (e + 1) := by
  intro x d n n' f i σ τ v h1 h2 h3 h4 h5
  obtain ⟨f, rfl⟩ : ∃ g, f = g + 1 := ⟨f - 1, by omega⟩
  obtain ⟨n', rfl⟩ : ∃ g, n' = g + 1 := ⟨n' - 1, by omega⟩
  rw [vc_step bo3_3 (ab3 σ) (by decide) (by omega) (by omega), ms3_3]
  exact h x d n n' f (i + 1) σ τ v h1 h2 (by omega) (by omega) (by omega)
theorem bo3_4 : tld kBO 28 (nI 4 * 4 + nI 3) = some 50 := rfl
theorem bo3_5 : tld kBO 28 (nI 5 * 4 + nI 3) = some 0 := rfl
theorem ms3_5 (n : Nat) (x : Int32) (s : St) : mW 3 (n + 1) 0 [nI 5, x] s = mW 3 n 0 [nI 2, x] s := bd2_eta (mW 3 n 0 [nI 2, x] s)
theorem vs3_5 {σ0 τ0 : St} {B e : Nat} (h : VL σ0 τ0 B 3 2 e) (hB : 1 ≤ B) : VL σ0 τ0 B 3 5 (e + 1) := by
  intro x d n n' f i σ τ v h1 h2 h3 h4 h5
  obtain ⟨f, rfl⟩ : ∃ g, f = g + 1 := ⟨f - 1, by omega⟩
  obtain ⟨n', rfl⟩ : ∃ g, n' = g + 1 := ⟨n' - 1, by omega⟩
  rw [vc_step bo3_5 (ab5 σ) (by decide) (by omega) (by omega), ms3_5]
  exact h x d n n' f (i + 1) σ τ v h1 h2 (by omega) (by omega) (by omega)
theorem bo3_6 : tld kBO 28 (nI 6 * 4 + nI 3) = some 71 := rfl
theorem vb0_0 {σ0 τ0 : St} {K : Nat} (hK : σ0 55 3 = nI K) (hK2 : τ0 0 25 = nI K) (hn : σ0 55 1 = τ0 0 26) (hm : σ0 55 2 = τ0 0 27) : VL σ0 τ0 1 0 0 2 := by
  intro x d n n' f i σ τ v h1 h2 h3 h4 h5
  obtain ⟨f, rfl⟩ : ∃ g, f = g + 1 := ⟨f - 1, by omega⟩
  obtain ⟨n, rfl⟩ : ∃ g, n = g + 3 := ⟨n - 3, by omega⟩
  obtain ⟨n', rfl⟩ : ∃ g, n' = g + 1 := ⟨n' - 1, by omega⟩
  obtain ⟨σ1, τ1, r1, r2, v1⟩ := ran_eq v 10
  refine ⟨x + σ1 55 1, σ1, τ1, ?_, ?_, v1⟩
  · rw [vc_body bo0_0 (by decide) (by decide) (by omega) (by omega), r1, bd1_s]
    show bd2 (some (x + σ1 55 1, σ1)) (fun u10 s8 => some (Sum.inl (u10, s8) : (Int32 × St) ⊕ St)) = _
    rw [bd2_s]
  · show bd1 (fX9_ran 10 τ) (fun s7 => some (x + s7 0 26, s7)) = _
    rw [r2, bd1_s, show τ1 0 26 = σ1 55 1 from ((v1.2.2.1 26 (by decide)).trans hn.symm).trans (by rw [v1.1 55 (by decide) (by decide)])]
theorem vb2_0 {σ0 τ0 : St} {K : Nat} (hK : σ0 55 3 = nI K) (hK2 : τ0 0 25 = nI K) (hn : σ0 55 1 = τ0 0 26) (hm : σ0 55 2 = τ0 0 27) : VL σ0 τ0 1 2 0 2 := by
  intro x d n n' f i σ τ v h1 h2 h3 h4 h5
  obtain ⟨f, rfl⟩ : ∃ g, f = g + 1 := ⟨f - 1, by omega⟩
  obtain ⟨n, rfl⟩ : ∃ g, n = g + 3 := ⟨n - 3, by omega⟩
  obtain ⟨n', rfl⟩ : ∃ g, n' = g + 1 := ⟨n' - 1, by omega⟩
  obtain ⟨σ1, τ1, r1, r2, v1⟩ := ran_eq v 12
  refine ⟨x - σ1 55 2, σ1, τ1, ?_, ?_, v1⟩
  · rw [vc_body bo2_0 (by decide) (by decide) (by omega) (by omega), r1, bd1_s]
    show bd2 (some (x - σ1 55 2, σ1)) (fun u10 s8 => some (Sum.inl (u10, s8) : (Int32 × St) ⊕ St)) = _
    rw [bd2_s]
  · show bd1 (fX9_ran 12 τ) (fun s7 => some (x - s7 0 27, s7)) = _
    rw [r2, bd1_s, show τ1 0 27 = σ1 55 2 from ((v1.2.2.1 27 (by decide)).trans hm.symm).trans (by rw [v1.1 55 (by decide) (by decide)])]
theorem vb0_1 {σ0 τ0 : St} {K : Nat} (hK : σ0 55 3 = nI K) (hK2 : τ0 0 25 = nI K) (hn : σ0 55 1 = τ0 0 26) (hm : σ0 55 2 = τ0 0 27) (g0 : VL σ0 τ0 1 0 0 5) : VL σ0 τ0 2 0 1 2 := by
  intro x d n n' f i σ τ v h1 h2 h3 h4 h5
  obtain ⟨f, rfl⟩ : ∃ g, f = g + 1 := ⟨f - 1, by omega⟩
  obtain ⟨n, rfl⟩ : ∃ g, n = g + 3 := ⟨n - 3, by omega⟩
  obtain ⟨n', rfl⟩ : ∃ g, n' = g + 1 := ⟨n' - 1, by omega⟩
  obtain ⟨σ1, τ1, r1, r2, v1⟩ := ran_eq v 20
  obtain ⟨y0, σ2, τ2, p0, q0, v2⟩ := g0 x (d + 1) n n' FU 0 σ1 τ1 v1 (by omega) (by omega) (by omega) (by omega) (by unfold FU; omega)
  refine ⟨y0 * 3, σ2, τ2, ?_, ?_, v2⟩
  · rw [vc_body bo0_1 (by decide) (by decide) (by omega) (by omega), r1, bd1_s]
    show bd2 (bd2 (grp_X6_say (n + 2) 1 [nI 1, nI 0, x, nI (d + 1)] σ1) (fun u0 s0 => some (u0 * 3, s0))) (fun u10 s8 => some (Sum.inl (u10, s8) : (Int32 × St) ⊕ St)) = _
    rw [sayA_of (ab1 σ1) p0, bd2_s, bd2_s]
  · show bd1 (fX9_ran 20 τ) (fun s7 => bd2 (mW 0 n' 0 [nI 0, x] s7) (fun u0 s0 => some (u0 * 3, s0))) = _
    rw [r2, bd1_s, q0, bd2_s]
theorem vb2_3 {σ0 τ0 : St} {K : Nat} (hK : σ0 55 3 = nI K) (hK2 : τ0 0 25 = nI K) (hn : σ0 55 1 = τ0 0 26) (hm : σ0 55 2 = τ0 0 27) (g0 : VL σ0 τ0 1 2 0 5) : VL σ0 τ0 2 2 3 2 := by
  intro x d n n' f i σ τ v h1 h2 h3 h4 h5
  obtain ⟨f, rfl⟩ : ∃ g, f = g + 1 := ⟨f - 1, by omega⟩
  obtain ⟨n, rfl⟩ : ∃ g, n = g + 3 := ⟨n - 3, by omega⟩
  obtain ⟨n', rfl⟩ : ∃ g, n' = g + 1 := ⟨n' - 1, by omega⟩
  obtain ⟨σ1, τ1, r1, r2, v1⟩ := ran_eq v 40
  obtain ⟨y0, σ2, τ2, p0, q0, v2⟩ := g0 x (d + 1) n n' FU 0 σ1 τ1 v1 (by omega) (by omega) (by omega) (by omega) (by unfold FU; omega)
  refine ⟨-y0, σ2, τ2, ?_, ?_, v2⟩
  · rw [vc_body bo2_3 (by decide) (by decide) (by omega) (by omega), r1, bd1_s]
    show bd2 (bd2 (grp_X6_say (n + 2) 1 [nI 3, nI 2, x, nI (d + 1)] σ1) (fun u0 s0 => some (-u0, s0))) (fun u10 s8 => some (Sum.inl (u10, s8) : (Int32 × St) ⊕ St)) = _
    rw [sayA_of (ab3 σ1) p0, bd2_s, bd2_s]
  · show bd1 (fX9_ran 40 τ) (fun s7 => bd2 (mW 2 n' 0 [nI 0, x] s7) (fun u0 s0 => some (-u0, s0))) = _
    rw [r2, bd1_s, q0, bd2_s]
theorem vb2_6 {σ0 τ0 : St} {K : Nat} (hK : σ0 55 3 = nI K) (hK2 : τ0 0 25 = nI K) (hn : σ0 55 1 = τ0 0 26) (hm : σ0 55 2 = τ0 0 27) (g0 : VL σ0 τ0 2 2 3 5) : VL σ0 τ0 3 2 6 2 := by
  intro x d n n' f i σ τ v h1 h2 h3 h4 h5
  obtain ⟨f, rfl⟩ : ∃ g, f = g + 1 := ⟨f - 1, by omega⟩
  obtain ⟨n, rfl⟩ : ∃ g, n = g + 3 := ⟨n - 3, by omega⟩
  obtain ⟨n', rfl⟩ : ∃ g, n' = g + 1 := ⟨n' - 1, by omega⟩
  obtain ⟨σ1, τ1, r1, r2, v1⟩ := ran_eq v 70
  obtain ⟨y0, σ2, τ2, p0, q0, v2⟩ := g0 x (d + 1) n n' FU 0 σ1 τ1 v1 (by omega) (by omega) (by omega) (by omega) (by unfold FU; omega)
  refine ⟨y0 ^^^ σ2 55 1, σ2, τ2, ?_, ?_, v2⟩
  · rw [vc_body bo2_6 (by decide) (by decide) (by omega) (by omega), r1, bd1_s]
    show bd2 (bd2 (grp_X6_say (n + 2) 1 [nI 6, nI 2, x, nI (d + 1)] σ1) (fun u0 s0 => some (u0 ^^^ s0 55 1, s0))) (fun u10 s8 => some (Sum.inl (u10, s8) : (Int32 × St) ⊕ St)) = _
    rw [sayA_of (ab6 σ1) p0, bd2_s, bd2_s]
  · show bd1 (fX9_ran 70 τ) (fun s7 => bd2 (mW 2 n' 0 [nI 3, x] s7) (fun u0 s0 => some (u0 ^^^ s0 0 26, s0))) = _
    rw [r2, bd1_s, q0, bd2_s, show τ2 0 26 = σ2 55 1 from ((v2.2.2.1 26 (by decide)).trans hn.symm).trans (by rw [v2.1 55 (by decide) (by decide)])]
theorem vb1_0 {σ0 τ0 : St} {K : Nat} (hK : σ0 55 3 = nI K) (hK2 : τ0 0 25 = nI K) (hn : σ0 55 1 = τ0 0 26) (hm : σ0 55 2 = τ0 0 27) (g0 : VL σ0 τ0 2 0 K 5) : VL σ0 τ0 3 1 0 2 := by
  intro x d n n' f i σ τ v h1 h2 h3 h4 h5
  obtain ⟨f, rfl⟩ : ∃ g, f = g + 1 := ⟨f - 1, by omega⟩
  obtain ⟨n, rfl⟩ : ∃ g, n = g + 3 := ⟨n - 3, by omega⟩
  obtain ⟨n', rfl⟩ : ∃ g, n' = g + 1 := ⟨n' - 1, by omega⟩
  obtain ⟨σ1, τ1, r1, r2, v1⟩ := ran_eq v 11
  obtain ⟨y0, σ2, τ2, p0, q0, v2⟩ := g0 x (d + 1) n RF FU 0 σ1 τ1 v1 (by omega) (by omega) (by unfold RF; omega) (by omega) (by unfold FU; omega)
  refine ⟨y0 * 2, σ2, τ2, ?_, ?_, v2⟩
  · rw [vc_body bo1_0 (by decide) (by decide) (by omega) (by omega), r1, bd1_s]
    show bd2 (bd2 (grp_X6_say (n + 2) 0 [nI 0, x, nI (d + 1)] σ1) (fun u0 s0 => some (u0 * 2, s0))) (fun u10 s8 => some (Sum.inl (u10, s8) : (Int32 × St) ⊕ St)) = _
    rw [say_of ((v1.1 55 (by decide) (by decide) ▸ hK : σ1 55 3 = nI K)) p0, bd2_s, bd2_s]
  · show bd1 (fX9_ran 11 τ) (fun s7 => bd2 (mW 0 RF 0 [s7 0 25, x] s7) (fun u0 s0 => some (u0 * 2, s0))) = _
    rw [r2, bd1_s, show τ1 0 25 = nI K from (v1.2.2.1 25 (by decide)).trans hK2, q0, bd2_s]
theorem vb1_2 {σ0 τ0 : St} {K : Nat} (hK : σ0 55 3 = nI K) (hK2 : τ0 0 25 = nI K) (hn : σ0 55 1 = τ0 0 26) (hm : σ0 55 2 = τ0 0 27) (g0 : VL σ0 τ0 3 1 0 5) (g1 : VL σ0 τ0 3 2 K 5) : VL σ0 τ0 4 1 2 2 := by
  intro x d n n' f i σ τ v h1 h2 h3 h4 h5
  obtain ⟨f, rfl⟩ : ∃ g, f = g + 1 := ⟨f - 1, by omega⟩
  obtain ⟨n, rfl⟩ : ∃ g, n = g + 3 := ⟨n - 3, by omega⟩
  obtain ⟨n', rfl⟩ : ∃ g, n' = g + 1 := ⟨n' - 1, by omega⟩
  obtain ⟨σ1, τ1, r1, r2, v1⟩ := ran_eq v 30
  obtain ⟨y0, σ2, τ2, p0, q0, v2⟩ := g0 x (d + 1) n n' FU 0 σ1 τ1 v1 (by omega) (by omega) (by omega) (by omega) (by unfold FU; omega)
  obtain ⟨y1, σ3, τ3, p1, q1, v3⟩ := g1 1 (d + 1) n RF FU 0 σ2 τ2 v2 (by omega) (by omega) (by unfold RF; omega) (by omega) (by unfold FU; omega)
  refine ⟨y0 - y1, σ3, τ3, ?_, ?_, v3⟩
  · rw [vc_body bo1_2 (by decide) (by decide) (by omega) (by omega), r1, bd1_s]
    show bd2 (bd2 (grp_X6_say (n + 2) 1 [nI 2, nI 1, x, nI (d + 1)] σ1) (fun u0 s0 => bd2 (grp_X6_say (n + 2) 0 [nI 2, 1, nI (d + 1)] s0) (fun u1 s1 => some (u0 - u1, s1)))) (fun u10 s8 => some (Sum.inl (u10, s8) : (Int32 × St) ⊕ St)) = _
    rw [sayA_of (ab2 σ1) p0, bd2_s, say_of ((v2.1 55 (by decide) (by decide) ▸ hK : σ2 55 3 = nI K)) p1, bd2_s, bd2_s]
  · show bd1 (fX9_ran 30 τ) (fun s7 => bd2 (mW 1 n' 0 [nI 0, x] s7) (fun u0 s0 => bd2 (mW 2 RF 0 [s0 0 25, 1] s0) (fun u1 s1 => some (u0 - u1, s1)))) = _
    rw [r2, bd1_s, q0, bd2_s, show τ2 0 25 = nI K from (v2.2.2.1 25 (by decide)).trans hK2, q1, bd2_s]
theorem vb1_5 {σ0 τ0 : St} {K : Nat} (hK : σ0 55 3 = nI K) (hK2 : τ0 0 25 = nI K) (hn : σ0 55 1 = τ0 0 26) (hm : σ0 55 2 = τ0 0 27) (g0 : VL σ0 τ0 4 1 2 5) : VL σ0 τ0 5 1 5 2 := by
  intro x d n n' f i σ τ v h1 h2 h3 h4 h5
  obtain ⟨f, rfl⟩ : ∃ g, f = g + 1 := ⟨f - 1, by omega⟩
  obtain ⟨n, rfl⟩ : ∃ g, n = g + 3 := ⟨n - 3, by omega⟩
  obtain ⟨n', rfl⟩ : ∃ g, n' = g + 1 := ⟨n' - 1, by omega⟩
  obtain ⟨σ1, τ1, r1, r2, v1⟩ := ran_eq v 60
  obtain ⟨y0, σ2, τ2, p0, q0, v2⟩ := g0 (x + 1) (d + 1) n n' FU 0 σ1 τ1 v1 (by omega) (by omega) (by omega) (by omega) (by unfold FU; omega)
  refine ⟨y0, σ2, τ2, ?_, ?_, v2⟩
  · rw [vc_body bo1_5 (by decide) (by decide) (by omega) (by omega), r1, bd1_s]
    show bd2 (bd2 (grp_X6_say (n + 2) 1 [nI 5, nI 1, (x + 1), nI (d + 1)] σ1) (fun u0 s0 => some (u0, s0))) (fun u10 s8 => some (Sum.inl (u10, s8) : (Int32 × St) ⊕ St)) = _
    rw [sayA_of (ab5 σ1) p0, bd2_s, bd2_s]
  · show bd1 (fX9_ran 60 τ) (fun s7 => bd2 (mW 1 n' 0 [nI 2, (x + 1)] s7) (fun u0 s0 => some (u0, s0))) = _
    rw [r2, bd1_s, q0, bd2_s]
theorem vb3_0 {σ0 τ0 : St} {K : Nat} (hK : σ0 55 3 = nI K) (hK2 : τ0 0 25 = nI K) (hn : σ0 55 1 = τ0 0 26) (hm : σ0 55 2 = τ0 0 27) (g0 : VL σ0 τ0 5 1 K 5) (g1 : VL σ0 τ0 5 2 K 5) : VL σ0 τ0 6 3 0 2 := by
  intro x d n n' f i σ τ v h1 h2 h3 h4 h5
  obtain ⟨f, rfl⟩ : ∃ g, f = g + 1 := ⟨f - 1, by omega⟩
  obtain ⟨n, rfl⟩ : ∃ g, n = g + 3 := ⟨n - 3, by omega⟩
  obtain ⟨n', rfl⟩ : ∃ g, n' = g + 1 := ⟨n' - 1, by omega⟩
  obtain ⟨σ1, τ1, r1, r2, v1⟩ := ran_eq v 13
  obtain ⟨y0, σ2, τ2, p0, q0, v2⟩ := g0 x (d + 1) n RF FU 0 σ1 τ1 v1 (by omega) (by omega) (by unfold RF; omega) (by omega) (by unfold FU; omega)
  obtain ⟨y1, σ3, τ3, p1, q1, v3⟩ := g1 x (d + 1) n RF FU 0 σ2 τ2 v2 (by omega) (by omega) (by unfold RF; omega) (by omega) (by unfold FU; omega)
  refine ⟨y0 ^^^ y1, σ3, τ3, ?_, ?_, v3⟩
  · rw [vc_body bo3_0 (by decide) (by decide) (by omega) (by omega), r1, bd1_s]
    show bd2 (bd2 (grp_X6_say (n + 2) 0 [nI 1, x, nI (d + 1)] σ1) (fun u0 s0 => bd2 (grp_X6_say (n + 2) 0 [nI 2, x, nI (d + 1)] s0) (fun u1 s1 => some (u0 ^^^ u1, s1)))) (fun u10 s8 => some (Sum.inl (u10, s8) : (Int32 × St) ⊕ St)) = _
    rw [say_of ((v1.1 55 (by decide) (by decide) ▸ hK : σ1 55 3 = nI K)) p0, bd2_s, say_of ((v2.1 55 (by decide) (by decide) ▸ hK : σ2 55 3 = nI K)) p1, bd2_s, bd2_s]
  · show bd1 (fX9_ran 13 τ) (fun s7 => bd2 (mW 1 RF 0 [s7 0 25, x] s7) (fun u0 s0 => bd2 (mW 2 RF 0 [s0 0 25, x] s0) (fun u1 s1 => some (u0 ^^^ u1, s1)))) = _
    rw [r2, bd1_s, show τ1 0 25 = nI K from (v1.2.2.1 25 (by decide)).trans hK2, q0, bd2_s, show τ2 0 25 = nI K from (v2.2.2.1 25 (by decide)).trans hK2, q1, bd2_s]
theorem vb3_4 {σ0 τ0 : St} {K : Nat} (hK : σ0 55 3 = nI K) (hK2 : τ0 0 25 = nI K) (hn : σ0 55 1 = τ0 0 26) (hm : σ0 55 2 = τ0 0 27) (g0 : VL σ0 τ0 6 3 1 5) (g1 : VL σ0 τ0 6 0 K 5) : VL σ0 τ0 7 3 4 2 := by
  intro x d n n' f i σ τ v h1 h2 h3 h4 h5
  obtain ⟨f, rfl⟩ : ∃ g, f = g + 1 := ⟨f - 1, by omega⟩
  obtain ⟨n, rfl⟩ : ∃ g, n = g + 3 := ⟨n - 3, by omega⟩
  obtain ⟨n', rfl⟩ : ∃ g, n' = g + 1 := ⟨n' - 1, by omega⟩
  obtain ⟨σ1, τ1, r1, r2, v1⟩ := ran_eq v 50
  obtain ⟨y0, σ2, τ2, p0, q0, v2⟩ := g0 x (d + 1) n n' FU 0 σ1 τ1 v1 (by omega) (by omega) (by omega) (by omega) (by unfold FU; omega)
  obtain ⟨y1, σ3, τ3, p1, q1, v3⟩ := g1 2 (d + 1) n RF FU 0 σ2 τ2 v2 (by omega) (by omega) (by unfold RF; omega) (by omega) (by unfold FU; omega)
  refine ⟨y0 - y1, σ3, τ3, ?_, ?_, v3⟩
  · rw [vc_body bo3_4 (by decide) (by decide) (by omega) (by omega), r1, bd1_s]
    show bd2 (bd2 (grp_X6_say (n + 2) 1 [nI 4, nI 3, x, nI (d + 1)] σ1) (fun u0 s0 => bd2 (grp_X6_say (n + 2) 0 [nI 0, 2, nI (d + 1)] s0) (fun u1 s1 => some (u0 - u1, s1)))) (fun u10 s8 => some (Sum.inl (u10, s8) : (Int32 × St) ⊕ St)) = _
    rw [sayA_of (ab4 σ1) p0, bd2_s, say_of ((v2.1 55 (by decide) (by decide) ▸ hK : σ2 55 3 = nI K)) p1, bd2_s, bd2_s]
  · show bd1 (fX9_ran 50 τ) (fun s7 => bd2 (mW 3 n' 0 [nI 1, x] s7) (fun u0 s0 => bd2 (mW 0 RF 0 [s0 0 25, 2] s0) (fun u1 s1 => some (u0 - u1, s1)))) = _
    rw [r2, bd1_s, q0, bd2_s, show τ2 0 25 = nI K from (v2.2.2.1 25 (by decide)).trans hK2, q1, bd2_s]
theorem vb3_6 {σ0 τ0 : St} {K : Nat} (hK : σ0 55 3 = nI K) (hK2 : τ0 0 25 = nI K) (hn : σ0 55 1 = τ0 0 26) (hm : σ0 55 2 = τ0 0 27) (g0 : VL σ0 τ0 6 1 K 5) (g1 : VL σ0 τ0 6 3 3 5) : VL σ0 τ0 7 3 6 2 := by
  intro x d n n' f i σ τ v h1 h2 h3 h4 h5
  obtain ⟨f, rfl⟩ : ∃ g, f = g + 1 := ⟨f - 1, by omega⟩
  obtain ⟨n, rfl⟩ : ∃ g, n = g + 3 := ⟨n - 3, by omega⟩
  obtain ⟨n', rfl⟩ : ∃ g, n' = g + 1 := ⟨n' - 1, by omega⟩
  obtain ⟨σ1, τ1, r1, r2, v1⟩ := ran_eq v 71
  obtain ⟨y0, σ2, τ2, p0, q0, v2⟩ := g0 x (d + 1) n RF FU 0 σ1 τ1 v1 (by omega) (by omega) (by unfold RF; omega) (by omega) (by unfold FU; omega)
  obtain ⟨y1, σ3, τ3, p1, q1, v3⟩ := g1 x (d + 1) n n' FU 0 σ2 τ2 v2 (by omega) (by omega) (by omega) (by omega) (by unfold FU; omega)
  refine ⟨y0 - y1, σ3, τ3, ?_, ?_, v3⟩
  · rw [vc_body bo3_6 (by decide) (by decide) (by omega) (by omega), r1, bd1_s]
    show bd2 (bd2 (grp_X6_say (n + 2) 0 [nI 1, x, nI (d + 1)] σ1) (fun u0 s0 => bd2 (grp_X6_say (n + 2) 1 [nI 6, nI 3, x, nI (d + 1)] s0) (fun u1 s1 => some (u0 - u1, s1)))) (fun u10 s8 => some (Sum.inl (u10, s8) : (Int32 × St) ⊕ St)) = _
    rw [say_of ((v1.1 55 (by decide) (by decide) ▸ hK : σ1 55 3 = nI K)) p0, bd2_s, sayA_of (ab6 σ2) p1, bd2_s, bd2_s]
  · show bd1 (fX9_ran 71 τ) (fun s7 => bd2 (mW 1 RF 0 [s7 0 25, x] s7) (fun u0 s0 => bd2 (mW 3 n' 0 [nI 3, x] s0) (fun u1 s1 => some (u0 - u1, s1)))) = _
    rw [r2, bd1_s, show τ1 0 25 = nI K from (v1.2.2.1 25 (by decide)).trans hK2, q0, bd2_s, q1, bd2_s]
theorem vAll {σ0 τ0 : St} {K : Nat} (h6 : K ≤ 6) (hK : σ0 55 3 = nI K) (hK2 : τ0 0 25 = nI K) (hn : σ0 55 1 = τ0 0 26) (hm : σ0 55 2 = τ0 0 27) {w : Nat} (hw : w ≤ 3) : VL σ0 τ0 7 w K 5 := by
  have L0 := vb0_0 (K := K) hK hK2 hn hm
  have L1 := vb0_1 (K := K) hK hK2 hn hm (L0.mono (by decide) (by decide))
  have L2 := vs0_2 L0 (by decide)
  have L3 := vs0_3 L0 (by decide)
  have L4 := vs0_4 L1 (by decide)
  have L5 := vs0_5 L2 (by decide)
  have L6 := vs0_6 L3 (by decide)
  have LK : ∀ {B e : Nat}, 2 ≤ B → 5 ≤ e → VL σ0 τ0 B 0 K e := by
    intro B e hB he
    rcases (show K = 0 ∨ K = 1 ∨ K = 2 ∨ K = 3 ∨ K = 4 ∨ K = 5 ∨ K = 6 by omega) with q | q | q | q | q | q | q
    · rw [q]; exact L0.mono (by omega) (by omega)
    · rw [q]; exact L1.mono (by omega) (by omega)
    · rw [q]; exact L2.mono (by omega) (by omega)
    · rw [q]; exact L3.mono (by omega) (by omega)
    · rw [q]; exact L4.mono (by omega) (by omega)
    · rw [q]; exact L5.mono (by omega) (by omega)
    · rw [q]; exact L6.mono (by omega) (by omega)
  have G0 := vb2_0 (K := K) hK hK2 hn hm
  have G1 := vs2_1 G0 (by decide)
  have G2 := vs2_2 G0 (by decide)
  have G3 := vb2_3 (K := K) hK hK2 hn hm (G0.mono (by decide) (by decide))
  have G4 := vs2_4 G1 (by decide)
  have G5 := vs2_5 G2 (by decide)
  have G6 := vb2_6 (K := K) hK hK2 hn hm (G3.mono (by decide) (by decide))
  have GK : ∀ {B e : Nat}, 3 ≤ B → 5 ≤ e → VL σ0 τ0 B 2 K e := by
    intro B e hB he
    rcases (show K = 0 ∨ K = 1 ∨ K = 2 ∨ K = 3 ∨ K = 4 ∨ K = 5 ∨ K = 6 by omega) with q | q | q | q | q | q | q
    · rw [q]; exact G0.mono (by omega) (by omega)
    · rw [q]; exact G1.mono (by omega) (by omega)
    · rw [q]; exact G2.mono (by omega) (by omega)
    · rw [q]; exact G3.mono (by omega) (by omega)
    · rw [q]; exact G4.mono (by omega) (by omega)
    · rw [q]; exact G5.mono (by omega) (by omega)
    · rw [q]; exact G6.mono (by omega) (by omega)
  have M0 := vb1_0 (K := K) hK hK2 hn hm (LK (by decide) (by decide))
  have M1 := vs1_1 M0 (by decide)
  have M2 := vb1_2 (K := K) hK hK2 hn hm (M0.mono (by decide) (by decide)) (GK (by decide) (by decide))
  have M3 := vs1_3 M0 (by decide)
  have M4 := vs1_4 M1 (by decide)
  have M5 := vb1_5 (K := K) hK hK2 hn hm (M2.mono (by decide) (by decide))
  have M6 := vs1_6 M3 (by decide)
  have MK : ∀ {B e : Nat}, 5 ≤ B → 5 ≤ e → VL σ0 τ0 B 1 K e := by
    intro B e hB he
    rcases (show K = 0 ∨ K = 1 ∨ K = 2 ∨ K = 3 ∨ K = 4 ∨ K = 5 ∨ K = 6 by omega) with q | q | q | q | q | q | q
    · rw [q]; exact M0.mono (by omega) (by omega)
    · rw [q]; exact M1.mono (by omega) (by omega)
    · rw [q]; exact M2.mono (by omega) (by omega)
    · rw [q]; exact M3.mono (by omega) (by omega)
    · rw [q]; exact M4.mono (by omega) (by omega)
    · rw [q]; exact M5.mono (by omega) (by omega)
    · rw [q]; exact M6.mono (by omega) (by omega)
  have T0 := vb3_0 (K := K) hK hK2 hn hm (MK (by decide) (by decide)) (GK (by decide) (by decide))
  have T1 := vs3_1 T0 (by decide)
  have T2 := vs3_2 T0 (by decide)
  have T3 := vs3_3 T0 (by decide)
  have T4 := vb3_4 (K := K) hK hK2 hn hm (T1.mono (by decide) (by decide)) (LK (by decide) (by decide))
  have T5 := vs3_5 T2 (by decide)
  have T6 := vb3_6 (K := K) hK hK2 hn hm (MK (by decide) (by decide)) (T3.mono (by decide) (by decide))
  rcases (show w = 0 ∨ w = 1 ∨ w = 2 ∨ w = 3 by omega) with rfl | rfl | rfl | rfl
  · exact LK (by decide) (by decide)
  · exact MK (by decide) (by decide)
  · exact GK (by decide) (by decide)
  · rcases (show K = 0 ∨ K = 1 ∨ K = 2 ∨ K = 3 ∨ K = 4 ∨ K = 5 ∨ K = 6 by omega) with q | q | q | q | q | q | q
    · rw [q]; exact T0.mono (by omega) (by omega)
    · rw [q]; exact T1.mono (by omega) (by omega)
    · rw [q]; exact T2.mono (by omega) (by omega)
    · rw [q]; exact T3.mono (by omega) (by omega)
    · rw [q]; exact T4.mono (by omega) (by omega)
    · rw [q]; exact T5.mono (by omega) (by omega)
    · rw [q]; exact T6.mono (by omega) (by omega)
theorem op_voice {σ τ : St} {m : Nat} (r : Rel σ τ m) (a b c : Int32) : OK2 (fX8_voice a b c σ) (fX9_voice a b c τ) m := by
  have r0 := r
  obtain ⟨h, T, dn, n0, rest⟩ := r
  obtain ⟨a1, a2, a3, a4, a5, a6, a7, a8⟩ := id n0
  obtain ⟨z, rt, rw', rk, rd, rs, rv⟩ := id rest
  have e12 : σ 2 12 = nI dn := by rw [a1.2.2.2.2, a3.d3]
  have e2 : τ 1 2 = nI dn := by rw [a2.1.2.1, a3.d3]
  unfold fX8_voice fX9_voice
  simp only [jn, c_isDiner e12, c_within, m_isDiner e2, m_in, bd2_s, gi0, bd2_eta]
  refine ok_if (σ := σ) (τ := τ) (fun h1 => ok_if (σ := σ) (τ := τ) (fun h2 => ?_) (fun _ => ok_e1 r0)) (fun _ => ok_e1 r0)
  obtain ⟨k, hk, hk8, rfl⟩ := rgd a3.dn h1
  obtain ⟨w, hw, -, rfl⟩ := rg 3 h2 (by decide)
  obtain ⟨K, hK6, -, eK⟩ := bt_ex (hi := 6) (a3.2.2.2.2.2.1 k hk8)
  rw [ald_i hk8 (by decide), bd1_s, ald_i hk8 (by decide), bd1_s, show σ 7 k = h 4 k from a1.1.2.2.2.2.1 k hk8, show σ 6 k = h 3 k from a1.1.2.2.2.1 k hk8, eK]
  unfold fX6_raised
  simp only [ptf, bd1_s]
  rw [its_eq (x := 0) (w := 0) rfl hk8 (by decide), bd2_s, its_eq (x := 1) (w := 1) rfl hk8 (by decide), bd2_s]
  rw [show u2 τ 0 24 0 1 (47 + 5 * k + 0) = nI K by rw [u2_ne (by decide), Nat.add_zero, (a2.2.2.2 k hk8).1, eK], show u2 (u2 (u2 τ 0 24 0) 0 25 (nI K)) 0 26 (nI k) 1 (47 + 5 * k + 1) = h 4 k by rw [u2_ne (by decide), u2_ne (by decide), u2_ne (by decide), (a2.2.2.2 k hk8).2.1]]
  have v0 : Vo (u2 (u2 (u2 (u2 σ 55 1 (nI k)) 55 2 (h 4 k)) 55 3 (nI K)) 56 1 0) (u2 (u2 (u2 (u2 τ 0 24 0) 0 25 (nI K)) 0 26 (nI k)) 0 27 (h 4 k)) (u2 (u2 (u2 (u2 σ 55 1 (nI k)) 55 2 (h 4 k)) 55 3 (nI K)) 56 1 0) (u2 (u2 (u2 (u2 τ 0 24 0) 0 25 (nI K)) 0 26 (nI k)) 0 27 (h 4 k)) := ⟨fun _ _ _ => rfl, fun _ _ _ => rfl, fun _ _ => rfl, 0, by decide, by rw [u2_same]; rfl, by rw [u2_slot (by decide), u2_slot (by decide), u2_slot (by decide), u2_same]; rfl, fun i hi => absurd hi (Nat.not_lt_zero _)⟩
  obtain ⟨y, σ1, τ1, p, q, v1⟩ := vAll (K := K) hK6 (by rw [u2_ne (by decide), u2_same]) (by rw [u2_slot (by decide), u2_slot (by decide), u2_same]) (by rw [u2_ne (by decide), u2_slot (by decide), u2_slot (by decide), u2_same, u2_slot (by decide), u2_same]) (by rw [u2_ne (by decide), u2_slot (by decide), u2_same, u2_same]) hw c 0 98 RF FU 0 _ _ v0 (by decide) (by decide) (by decide) (by decide) (by decide)
  have g := say_of (s := u2 (u2 (u2 (u2 σ 55 1 (nI k)) 55 2 (h 4 k)) 55 3 (nI K)) 56 1 0) (by rw [u2_ne (by decide), u2_same]) p
  rw [show grp_X6_say RF 0 [nI w, c, 0] _ = _ from g, show u2 (u2 (u2 (u2 τ 0 24 0) 0 25 (nI K)) 0 26 (nI k)) 0 27 (h 4 k) 0 25 = nI K by rw [u2_slot (by decide), u2_slot (by decide), u2_same]]
  have cs : ∀ j, j < 55 ∨ 57 < j → σ1 j = σ j := fun j hj => by rw [v1.1 j (by omega) (by omega), u2_ne (by omega), u2_ne (by omega), u2_ne (by omega), u2_ne (by omega)]
  have ds : ∀ j, j ≠ 0 → j ≠ 13 → τ1 j = τ j := fun j h0 h13 => by rw [v1.2.1 j h0 h13, u2_ne h0, u2_ne h0, u2_ne h0, u2_ne h0]
  have d0 : ∀ j, j < 24 → τ1 0 j = τ 0 j := fun j hj => by rw [v1.2.2.1 j (by omega), u2_slot (by omega), u2_slot (by omega), u2_slot (by omega), u2_slot (by omega)]
  have d1 : τ1 1 = τ 1 := ds 1 (by decide) (by decide)
  have R : Rel σ1 τ1 m := ⟨h, T, dn, n0.fr (fun k hk => cs k (by omega)) (fun j _ _ _ _ => by rw [d1]) (ds 6 (by decide) (by decide)), by rw [cs 1 (by decide), d1]; exact z, rt.fr (cs _ (by decide)) (cs _ (by decide)) (fun j _ => by rw [d1]), rw'.fr (cs _ (by decide)) (cs _ (by decide)) (fun j _ => by rw [d1]), rk.fr (Nat.le_refl _) (by rw [cs 0 (by decide)]) (fun k hk => cs k (by omega)) (d0 5 (by decide)) (d0 4 (by decide)) (ds 2 (by decide) (by decide)), rd.fr (cs _ (by decide)) (ds 5 (by decide) (by decide)), rs.fr (fun k hk => cs k (by omega)) (ds 7 (by decide) (by decide)) (ds 8 (by decide) (by decide)) (ds 9 (by decide) (by decide)), v1.2.2.2⟩
  rcases (show w = 0 ∨ w = 1 ∨ w = 2 ∨ w = 3 by omega) with rfl | rfl | rfl | rfl
  · rw [if_pos (show nI 0 = (0 : Int32) from rfl), show grp_X9_leavesIn RF 0 [nI K, c] _ = _ from q]
    exact ok_some _ R
  · rw [if_neg (show ¬ nI 1 = (0 : Int32) by decide), if_pos (show nI 1 = (1 : Int32) from rfl), show grp_X9_mendsIn RF 0 [nI K, c] _ = _ from q]
    exact ok_some _ R
  · rw [if_neg (show ¬ nI 2 = (0 : Int32) by decide), if_neg (show ¬ nI 2 = (1 : Int32) by decide), if_pos (show nI 2 = (2 : Int32) from rfl), show grp_X9_grievesIn RF 0 [nI K, c] _ = _ from q]
    exact ok_some _ R
  · rw [if_neg (show ¬ nI 3 = (0 : Int32) by decide), if_neg (show ¬ nI 3 = (1 : Int32) by decide), if_neg (show ¬ nI 3 = (2 : Int32) by decide), show grp_X9_tellsIn RF 0 [nI K, c] _ = _ from q]
    exact ok_some _ R
