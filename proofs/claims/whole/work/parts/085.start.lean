/-! the laws where no text is set: the first name, held -/
def T0 : Tx := fun u a _ _ => hdl (lim u) a
theorem T0_b : TB T0 := fun a b c => ⟨hdl_b (by decide) (by decide), hdl_b (by decide) (by decide)⟩
theorem wo_zero {b : Nat} (u a b' c : Int32) {s : St} (h : s b 1 = 0) : fX2_workedOut_23 u a b' c b FU 0 0 s = some (0, s) := by
  show fX2_workedOut_23 u a b' c b (2099 + 1) 0 0 s = some (0, s)
  rw [fX2_workedOut_23, h, if_pos (by decide)]
theorem cl_zero {p q r w : Nat → Int32} (h1 : p 1 = 0) (h2 : r 1 = 0) : CLg p q r w T0 := by
  intro u s hu hs a b c
  refine ⟨s, ?_, fun _ _ => rfl⟩
  unfold fX2_workedOut
  simp only [jn]
  rcases (show u = 0 ∨ u = 1 by omega) with rfl | rfl
  · rw [if_pos (show nI 0 = (0 : Int32) from rfl), wo_zero (nI 0) a b c ((hs.1 rfl).1.trans h1), bd2_s, if_pos (show (0 : Int32) ≤ 0 by decide), if_pos (show nI 0 = (0 : Int32) from rfl), imx_hdl (by decide)]
    rfl
  · rw [if_neg (show ¬ nI 1 = (0 : Int32) by decide), wo_zero (nI 1) a b c ((hs.2 rfl).1.trans h2), bd2_s, if_pos (show (0 : Int32) ≤ 0 by decide), if_neg (show ¬ nI 1 = (0 : Int32) by decide), imx_hdl (by decide)]
    rfl
theorem ml_zero {r : Nat → Int32} (h1 : r 7 = -1) (h2 : r 8 = -1) : MLg r T0 := by
  intro s u hu hs a b c
  refine ⟨s, ?_, ⟨fun _ _ => rfl, fun _ _ => rfl⟩⟩
  have e : s 1 (7 + u) = -1 := by
    rw [hs _ (Or.inl rfl)]
    rcases (show u = 0 ∨ u = 1 by omega) with rfl | rfl
    · exact h1
    · exact h2
  unfold fX9_worked
  simp only [jn]
  rw [show (7 : Int32) + nI u = nI (7 + u) by rw [show (7 : Int32) = nI 7 from rfl, nI_add], ald_i (show 7 + u < 257 by omega) (by decide), bd1_s, e, if_pos (show (-1 : Int32) < 0 by decide)]
  rcases (show u = 0 ∨ u = 1 by omega) with rfl | rfl
  · rw [if_pos (show nI 0 = (0 : Int32) from rfl), hdl_eq, bd2_s]; rfl
  · rw [if_neg (show ¬ nI 1 = (0 : Int32) by decide), hdl_eq, bd2_s]; rfl
