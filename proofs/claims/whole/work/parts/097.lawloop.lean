theorem and63 (x : Int32) : ∃ z : Nat, z < 64 ∧ x &&& 63 = nI z := by
  have e : (x &&& 63).toBitVec.toNat ≤ 63 := by
    rw [Int32.toBitVec_and, BitVec.toNat_and]
    exact Nat.and_le_right
  refine ⟨(x &&& 63).toBitVec.toNat, by omega, ?_⟩
  rw [← Int32.toBitVec_inj]
  apply BitVec.eq_of_toNat_eq
  rw [pk_tn (by omega)]
theorem len6 {L i : Nat} (hL : L ≤ 3072) (hi : i ≤ 3072) (h : ¬ nI L - 6 < nI i) : i + 6 ≤ L := by
  rcases Nat.lt_or_ge L 6 with q | q
  · exfalso
    apply h
    rw [i_lt, nI_toInt (show i < 2 ^ 31 by omega)]
    have h6 : (nI L - 6).toInt < 0 := by
      rcases (show L = 0 ∨ L = 1 ∨ L = 2 ∨ L = 3 ∨ L = 4 ∨ L = 5 by omega) with rfl | rfl | rfl | rfl | rfl | rfl <;> decide
    omega
  · have e : nI L - 6 = nI (L - 6) := by
      rw [show nI L = nI (L - 6) + 6 by rw [show (6 : Int32) = nI 6 from rfl, nI_add, show L - 6 + 6 = L by omega]]
      rw [Int32.sub_eq_add_neg, Int32.add_assoc, show (6 : Int32) + -6 = 0 by decide, Int32.add_zero]
    rw [e, i_lt, nI_toInt (by omega), nI_toInt (by omega)] at h
    omega
section LawLoop
variable {E1 E2 : EE} {p : Program} {l : Launch} {e : Env} {s : State} {m : MethodId} {below : List Frame} {meth : Method} {c : Code} {b L : Nat} {xs : Nat → Int32} {cells slots : Nat} {Q : State → Prop}
set_option maxRecDepth 100000 in
theorem law_loop (X : LCx E1 E2 p s m c b L xs) (hL : L ≤ 3072) (hC : cells ≤ 600000 ∧ slots ≤ 7302250) (hE : ∀ σ τ Lc, LWx E1 E2 p l e s m b below meth c cells slots Q 1578 Lc [] σ τ) : ∀ (N i n : Nat) (σ τ : St), i ≤ L → L < i + N → n ≤ i → Rel σ τ n → LWx E1 E2 p l e s m b below meth c cells slots Q 18 [(0, .ref b), (1, .ref (ea E1 0)), (2, .ref (ea E2 0)), (3, .int (nI i))] [] σ τ := by
  intro N
  induction N with
  | zero => intro i n σ τ h1 h2; exact absurd h2 (by omega)
  | succ N ih =>
    intro i n σ τ h1 h2 hn r
    refine zt_iload_n X dL_law_18 3 rfl rfl ?_
    refine zt_aload_n X dL_law_19 0 rfl rfl ?_
    refine zt_slen X dL_law_20 ?_
    refine zt_bipush X dL_law_21 (v := 6) (by decide) ?_
    refine zt_isub X dL_law_23 rfl ?_
    refine zt_icmp_gt X 1578 dL_law_24 (by decide) (fun _ => hE σ τ _) (fun c0 => ?_)
    have hi : i + 6 ≤ L := len6 hL (by omega) c0
    have K : ∀ σ' τ', Rel σ' τ' (n + 1) → LWx E1 E2 p l e s m b below meth c cells slots Q 1572 [(0, .ref b), (1, .ref (ea E1 0)), (2, .ref (ea E2 0)), (3, .int (nI i))] [] σ' τ' := by
      intro σ' τ' r'
      refine zt_iinc (Lc' := [(0, .ref b), (1, .ref (ea E1 0)), (2, .ref (ea E2 0)), (3, .int (nI (i + 6)))]) (v := nI (i + 6)) X dL_law_1572 3 rfl (by rw [show Int32.ofInt 6 = nI 6 from rfl, nI_add]) [1, 2, 3, 0] rfl (by decide) ?_
      refine zt_goto X 18 dL_law_1575 (by decide) ?_
      exact ih (i + 6) (n + 1) σ' τ' (by omega) (by omega) (by omega) r'
    refine zt_aload_n X dL_law_27 0 rfl rfl ?_
    refine zt_iload_n X dL_law_28 3 rfl rfl ?_
    refine zt_sld X (show i < L by omega) hL dL_law_29 ?_
    refine zt_bipush X dL_law_30 (v := 63) (by decide) ?_
    obtain ⟨z, hz, ez⟩ := and63 (xs i)
    refine zt_iand X dL_law_32 ez ?_
    rcases (show z = 0 ∨ z = 1 ∨ z = 2 ∨ z = 3 ∨ z = 4 ∨ z = 5 ∨ z = 6 ∨ z = 7 ∨ z = 8 ∨ z = 9 ∨ z = 10 ∨ z = 11 ∨ z = 12 ∨ z = 13 ∨ z = 14 ∨ z = 15 ∨ z = 16 ∨ z = 17 ∨ z = 18 ∨ z = 19 ∨ z = 20 ∨ z = 21 ∨ z = 22 ∨ z = 23 ∨ z = 24 ∨ z = 25 ∨ z = 26 ∨ z = 27 ∨ z = 28 ∨ z = 29 ∨ z = 30 ∨ z = 31 ∨ z = 32 ∨ z = 33 ∨ z = 34 ∨ z = 35 ∨ z = 36 ∨ z = 37 ∨ z = 38 ∨ z = 39 ∨ z = 40 ∨ z = 41 ∨ 42 ≤ z by omega) with rfl | rfl | rfl | rfl | rfl | rfl | rfl | rfl | rfl | rfl | rfl | rfl | rfl | rfl | rfl | rfl | rfl | rfl | rfl | rfl | rfl | rfl | rfl | rfl | rfl | rfl | rfl | rfl | rfl | rfl | rfl | rfl | rfl | rfl | rfl | rfl | rfl | rfl | rfl | rfl | rfl | rfl | h42
    · exact zt_tabIn X 216 0 (by decide) dL_law_33 (by decide) (by decide) rfl (by decide) (lc_0 X hL hi hC hn r K)
    · exact zt_tabIn X 259 1 (by decide) dL_law_33 (by decide) (by decide) rfl (by decide) (lc_1 X hL hi hC hn r K)
    · exact zt_tabIn X 292 2 (by decide) dL_law_33 (by decide) (by decide) rfl (by decide) (lc_2 X hL hi hC hn r K)
    · exact zt_tabIn X 325 3 (by decide) dL_law_33 (by decide) (by decide) rfl (by decide) (lc_3 X hL hi hC hn r K)
    · exact zt_tabIn X 358 4 (by decide) dL_law_33 (by decide) (by decide) rfl (by decide) (lc_4 X hL hi hC hn r K)
    · exact zt_tabIn X 391 5 (by decide) dL_law_33 (by decide) (by decide) rfl (by decide) (lc_5 X hL hi hC hn r K)
    · exact zt_tabIn X 424 6 (by decide) dL_law_33 (by decide) (by decide) rfl (by decide) (lc_6 X hL hi hC hn r K)
    · exact zt_tabIn X 467 7 (by decide) dL_law_33 (by decide) (by decide) rfl (by decide) (lc_7 X hL hi hC hn r K)
    · exact zt_tabIn X 500 8 (by decide) dL_law_33 (by decide) (by decide) rfl (by decide) (lc_8 X hL hi hC hn r K)
    · exact zt_tabIn X 533 9 (by decide) dL_law_33 (by decide) (by decide) rfl (by decide) (lc_9 X hL hi hC hn r K)
    · exact zt_tabIn X 596 10 (by decide) dL_law_33 (by decide) (by decide) rfl (by decide) (lc_10 X hL hi hC hn r K)
    · exact zt_tabIn X 619 11 (by decide) dL_law_33 (by decide) (by decide) rfl (by decide) (lc_11 X hL hi hC hn r K)
    · exact zt_tabIn X 672 12 (by decide) dL_law_33 (by decide) (by decide) rfl (by decide) (lc_12 X hL hi hC hn r K)
    · exact zt_tabIn X 695 13 (by decide) dL_law_33 (by decide) (by decide) rfl (by decide) (lc_13 X hL hi hC hn r K)
    · exact zt_tabIn X 718 14 (by decide) dL_law_33 (by decide) (by decide) rfl (by decide) (lc_14 X hL hi hC hn r K)
    · exact zt_tabIn X 761 15 (by decide) dL_law_33 (by decide) (by decide) rfl (by decide) (lc_15 X hL hi hC hn r K)
    · exact zt_tabIn X 794 16 (by decide) dL_law_33 (by decide) (by decide) rfl (by decide) (lc_16 X hL hi hC hn r K)
    · exact zt_tabIn X 817 17 (by decide) dL_law_33 (by decide) (by decide) rfl (by decide) (lc_17 X hL hi hC hn r K)
    · exact zt_tabIn X 860 18 (by decide) dL_law_33 (by decide) (by decide) rfl (by decide) (lc_18 X hL hi hC hn r K)
    · exact zt_tabIn X 903 19 (by decide) dL_law_33 (by decide) (by decide) rfl (by decide) (lc_19 X hL hi hC hn r K)
    · exact zt_tabIn X 926 20 (by decide) dL_law_33 (by decide) (by decide) rfl (by decide) (lc_20 X hL hi hC hn r K)
    · exact zt_tabIn X 969 21 (by decide) dL_law_33 (by decide) (by decide) rfl (by decide) (lc_21 X hL hi hC hn r K)
    · exact zt_tabIn X 1002 22 (by decide) dL_law_33 (by decide) (by decide) rfl (by decide) (lc_22 X hL hi hC hn r K)
    · exact zt_tabIn X 1025 23 (by decide) dL_law_33 (by decide) (by decide) rfl (by decide) (lc_23 X hL hi hC hn r K)
    · exact zt_tabIn X 1048 24 (by decide) dL_law_33 (by decide) (by decide) rfl (by decide) (lc_24 X hL hi hC hn r K)
    · exact zt_tabIn X 1071 25 (by decide) dL_law_33 (by decide) (by decide) rfl (by decide) (lc_25 X hL hi hC hn r K)
    · exact zt_tabIn X 1094 26 (by decide) dL_law_33 (by decide) (by decide) rfl (by decide) (lc_26 X hL hi hC hn r K)
    · exact zt_tabIn X 1127 27 (by decide) dL_law_33 (by decide) (by decide) rfl (by decide) (lc_27 X hL hi hC hn r K)
    · exact zt_tabIn X 1180 28 (by decide) dL_law_33 (by decide) (by decide) rfl (by decide) (lc_28 X hL hi hC hn r K)
    · exact zt_tabIn X 1203 29 (by decide) dL_law_33 (by decide) (by decide) rfl (by decide) (lc_29 X hL hi hC hn r K)
    · exact zt_tabIn X 1246 30 (by decide) dL_law_33 (by decide) (by decide) rfl (by decide) (lc_30 X hL hi hC hn r K)
    · exact zt_tabIn X 1269 31 (by decide) dL_law_33 (by decide) (by decide) rfl (by decide) (lc_31 X hL hi hC hn r K)
    · exact zt_tabIn X 1312 32 (by decide) dL_law_33 (by decide) (by decide) rfl (by decide) (lc_32 X hL hi hC hn r K)
    · exact zt_tabIn X 1355 33 (by decide) dL_law_33 (by decide) (by decide) rfl (by decide) (lc_33 X hL hi hC hn r K)
    · exact zt_tabIn X 1418 34 (by decide) dL_law_33 (by decide) (by decide) rfl (by decide) (lc_34 X hL hi hC hn r K)
    · exact zt_tabIn X 1441 35 (by decide) dL_law_33 (by decide) (by decide) rfl (by decide) (lc_35 X hL hi hC hn r K)
    · exact zt_tabIn X 1464 36 (by decide) dL_law_33 (by decide) (by decide) rfl (by decide) (lc_36 X hL hi hC hn r K)
    · exact zt_tabIn X 1477 37 (by decide) dL_law_33 (by decide) (by decide) rfl (by decide) (lc_37 X hL hi hC hn r K)
    · exact zt_tabIn X 1490 38 (by decide) dL_law_33 (by decide) (by decide) rfl (by decide) (lc_38 X hL hi hC hn r K)
    · exact zt_tabIn X 1513 39 (by decide) dL_law_33 (by decide) (by decide) rfl (by decide) (lc_39 X hL hi hC hn r K)
    · exact zt_tabIn X 1526 40 (by decide) dL_law_33 (by decide) (by decide) rfl (by decide) (lc_40 X hL hi hC hn r K)
    · exact zt_tabIn X 1549 41 (by decide) dL_law_33 (by decide) (by decide) rfl (by decide) (lc_41 X hL hi hC hn r K)
    · exact zt_tabOut X 1572 dL_law_33 (Or.inr (by rw [nI_toInt (by omega)]; omega)) (by decide) (K σ τ (r.mono (by omega)))
end LawLoop
