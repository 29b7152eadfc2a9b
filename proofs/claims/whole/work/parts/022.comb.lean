/-! numbers as the machine works them out -/
def irm (x y : Int32) : Int32 := x - x / y * y
def shl (x y : Int32) : Int32 := x <<< (y &&& 31)
def shr (x y : Int32) : Int32 := x >>> (y &&& 31)
def ush (x y : Int32) : Int32 := (x.toUInt32 >>> (y.toUInt32 &&& Int32.toUInt32 31)).toInt32
def lus (x : Int64) (y : Int32) : Int64 := (x.toUInt64 >>> (y.toInt64.toUInt64 &&& Int64.toUInt64 63)).toInt64
def lsr (x : Int64) (y : Int32) : Int64 := x >>> (y.toInt64 &&& 63)
def imx (x y : Int32) : Int32 := if x < y then y else x
def imn (x y : Int32) : Int32 := if x > y then y else x
def i8 (x : Int32) : Int32 := x.toInt8.toInt32
def i16 (x : Int32) : Int32 := x.toInt16.toInt32
def FU : Nat := 2100
def RF : Nat := 100
/-! what may fail, and how it goes on -/
def ixb (i : Int32) (n : Nat) : Bool := decide (¬ (i < 0 ∨ n ≤ i.toNatClampNeg))
def ald (s : St) (q n : Nat) (i : Int32) : Option Int32 := if ixb i n = true then some (s q i.toNatClampNeg) else none
def ast (s : St) (q n : Nat) (i v : Int32) : Option St := if ixb i n = true then some (u2 s q i.toNatClampNeg v) else none
def bast (s : St) (q n : Nat) (i v : Int32) : Option St := if ixb i n = true then some (u2 s q i.toNatClampNeg (i8 v)) else none
def ptf (s : St) (q j : Nat) (v : Int32) : Option St := some (u2 s q j v)
def tld (f : Nat → Int32) (n : Nat) (i : Int32) : Option Int32 := if ixb i n = true then some (f i.toNatClampNeg) else none
def rld (b n : Nat) (i : Int32) : Option Nat := if ixb i n = true then some (b + 2 * i.toNatClampNeg) else none
def acp (s : St) (q0 n0 : Nat) (sp : Int32) (q1 n1 : Nat) (dp n : Int32) : Option St := if ¬ sp < 0 ∧ ¬ dp < 0 ∧ ¬ n < 0 ∧ sp.toNatClampNeg + n.toNatClampNeg ≤ n0 ∧ dp.toNatClampNeg + n.toNatClampNeg ≤ n1 then some (uA s q1 (va_cpy (s q0) (s q1) sp.toNatClampNeg dp.toNatClampNeg n.toNatClampNeg)) else none
def gz {β : Type} (y : Int32) (x : Option β) : Option β := if y = 0 then none else x
def gb {β : Type} (y : Int32) (x : Option β) : Option β := if y = 0 ∨ y = 1 then x else none
def jn {κ β : Type} (k : κ) (f : κ → Option β) : Option β := f k
theorem jn_ok {κ β : Type} {k : κ} {f : κ → Option β} {x : β} (h : jn k f = some x) : ∃ j, j = k ∧ f j = some x := ⟨k, rfl, h⟩
theorem jn1_ok {α1 γ β : Type} {k : α1 → γ} {f : (α1 → γ) → Option β} {x : β} (h : jn k f = some x) : ∃ j : α1 → γ, (∀ (a1 : α1), j a1 = k a1) ∧ f j = some x := ⟨k, fun _ => rfl, h⟩
theorem jn2_ok {α1 α2 γ β : Type} {k : α1 → α2 → γ} {f : (α1 → α2 → γ) → Option β} {x : β} (h : jn k f = some x) : ∃ j : α1 → α2 → γ, (∀ (a1 : α1) (a2 : α2), j a1 a2 = k a1 a2) ∧ f j = some x := ⟨k, fun _ _ => rfl, h⟩
theorem jn3_ok {α1 α2 α3 γ β : Type} {k : α1 → α2 → α3 → γ} {f : (α1 → α2 → α3 → γ) → Option β} {x : β} (h : jn k f = some x) : ∃ j : α1 → α2 → α3 → γ, (∀ (a1 : α1) (a2 : α2) (a3 : α3), j a1 a2 a3 = k a1 a2 a3) ∧ f j = some x := ⟨k, fun _ _ _ => rfl, h⟩
theorem jn4_ok {α1 α2 α3 α4 γ β : Type} {k : α1 → α2 → α3 → α4 → γ} {f : (α1 → α2 → α3 → α4 → γ) → Option β} {x : β} (h : jn k f = some x) : ∃ j : α1 → α2 → α3 → α4 → γ, (∀ (a1 : α1) (a2 : α2) (a3 : α3) (a4 : α4), j a1 a2 a3 a4 = k a1 a2 a3 a4) ∧ f j = some x := ⟨k, fun _ _ _ _ => rfl, h⟩
theorem jn5_ok {α1 α2 α3 α4 α5 γ β : Type} {k : α1 → α2 → α3 → α4 → α5 → γ} {f : (α1 → α2 → α3 → α4 → α5 → γ) → Option β} {x : β} (h : jn k f = some x) : ∃ j : α1 → α2 → α3 → α4 → α5 → γ, (∀ (a1 : α1) (a2 : α2) (a3 : α3) (a4 : α4) (a5 : α5), j a1 a2 a3 a4 a5 = k a1 a2 a3 a4 a5) ∧ f j = some x := ⟨k, fun _ _ _ _ _ => rfl, h⟩
theorem jn6_ok {α1 α2 α3 α4 α5 α6 γ β : Type} {k : α1 → α2 → α3 → α4 → α5 → α6 → γ} {f : (α1 → α2 → α3 → α4 → α5 → α6 → γ) → Option β} {x : β} (h : jn k f = some x) : ∃ j : α1 → α2 → α3 → α4 → α5 → α6 → γ, (∀ (a1 : α1) (a2 : α2) (a3 : α3) (a4 : α4) (a5 : α5) (a6 : α6), j a1 a2 a3 a4 a5 a6 = k a1 a2 a3 a4 a5 a6) ∧ f j = some x := ⟨k, fun _ _ _ _ _ _ => rfl, h⟩
theorem jn7_ok {α1 α2 α3 α4 α5 α6 α7 γ β : Type} {k : α1 → α2 → α3 → α4 → α5 → α6 → α7 → γ} {f : (α1 → α2 → α3 → α4 → α5 → α6 → α7 → γ) → Option β} {x : β} (h : jn k f = some x) : ∃ j : α1 → α2 → α3 → α4 → α5 → α6 → α7 → γ, (∀ (a1 : α1) (a2 : α2) (a3 : α3) (a4 : α4) (a5 : α5) (a6 : α6) (a7 : α7), j a1 a2 a3 a4 a5 a6 a7 = k a1 a2 a3 a4 a5 a6 a7) ∧ f j = some x := ⟨k, fun _ _ _ _ _ _ _ => rfl, h⟩
theorem jn8_ok {α1 α2 α3 α4 α5 α6 α7 α8 γ β : Type} {k : α1 → α2 → α3 → α4 → α5 → α6 → α7 → α8 → γ} {f : (α1 → α2 → α3 → α4 → α5 → α6 → α7 → α8 → γ) → Option β} {x : β} (h : jn k f = some x) : ∃ j : α1 → α2 → α3 → α4 → α5 → α6 → α7 → α8 → γ, (∀ (a1 : α1) (a2 : α2) (a3 : α3) (a4 : α4) (a5 : α5) (a6 : α6) (a7 : α7) (a8 : α8), j a1 a2 a3 a4 a5 a6 a7 a8 = k a1 a2 a3 a4 a5 a6 a7 a8) ∧ f j = some x := ⟨k, fun _ _ _ _ _ _ _ _ => rfl, h⟩
theorem gz_ok {β : Type} {y : Int32} {o : Option β} {x : β} (h : gz y o = some x) : ¬ y = 0 ∧ o = some x := by
  unfold gz at h
  by_cases hy : y = 0
  · rw [if_pos hy] at h; cases h
  · rw [if_neg hy] at h; exact ⟨hy, h⟩
theorem gb_ok {β : Type} {y : Int32} {o : Option β} {x : β} (h : gb y o = some x) : (narrow .boolean (.int y) = .int y ∧ fits .boolean (.int y) = true) ∧ o = some x := by
  unfold gb at h
  by_cases hy : y = 0 ∨ y = 1
  · rw [if_pos hy] at h
    refine ⟨?_, h⟩
    rcases hy with rfl | rfl <;> exact ⟨by decide, by decide⟩
  · rw [if_neg hy] at h; cases h
theorem ixb_ok {i : Int32} {n : Nat} (h : ixb i n = true) : vp_in i n := of_decide_eq_true (p := ¬ (i < 0 ∨ n ≤ i.toNatClampNeg)) h
def bd1 {α β : Type} (o : Option α) (f : α → Option β) : Option β := o.bind f
theorem bd1_ok {α β : Type} {o : Option α} {f : α → Option β} {x : β} (h : bd1 o f = some x) : ∃ a, o = some a ∧ f a = some x := by
  cases o with
  | none => cases h
  | some a => exact ⟨a, rfl, h⟩
theorem bd1_s {α β : Type} (a : α) (f : α → Option β) : bd1 (some a) f = f a := rfl
theorem ld_ok {β : Type} {s : St} {q n : Nat} {i : Int32} {f : Int32 → Option β} {x : β} (h : bd1 (ald s q n i) f = some x) : vp_in i n ∧ ∃ v, v = s q i.toNatClampNeg ∧ f v = some x := by
  unfold ald at h
  by_cases hy : ixb i n = true
  · rw [if_pos hy] at h; exact ⟨ixb_ok hy, _, rfl, h⟩
  · rw [if_neg hy] at h; cases h
theorem tl_ok {β : Type} {g : Nat → Int32} {n : Nat} {i : Int32} {f : Int32 → Option β} {x : β} (h : bd1 (tld g n i) f = some x) : vp_in i n ∧ ∃ v, v = g i.toNatClampNeg ∧ f v = some x := by
  unfold tld at h
  by_cases hy : ixb i n = true
  · rw [if_pos hy] at h; exact ⟨ixb_ok hy, _, rfl, h⟩
  · rw [if_neg hy] at h; cases h
theorem rl_ok {β : Type} {b n : Nat} {i : Int32} {f : Nat → Option β} {x : β} (h : bd1 (rld b n i) f = some x) : vp_in i n ∧ ∃ v, v = b + 2 * i.toNatClampNeg ∧ f v = some x := by
  unfold rld at h
  by_cases hy : ixb i n = true
  · rw [if_pos hy] at h; exact ⟨ixb_ok hy, _, rfl, h⟩
  · rw [if_neg hy] at h; cases h
theorem as_ok {β : Type} {s : St} {q n : Nat} {i v : Int32} {f : St → Option β} {x : β} (h : bd1 (ast s q n i v) f = some x) : vp_in i n ∧ ∃ t, t = u2 s q i.toNatClampNeg v ∧ f t = some x := by
  unfold ast at h
  by_cases hy : ixb i n = true
  · rw [if_pos hy] at h; exact ⟨ixb_ok hy, _, rfl, h⟩
  · rw [if_neg hy] at h; cases h
theorem bs_ok {β : Type} {s : St} {q n : Nat} {i v : Int32} {f : St → Option β} {x : β} (h : bd1 (bast s q n i v) f = some x) : vp_in i n ∧ ∃ t, t = u2 s q i.toNatClampNeg (i8 v) ∧ f t = some x := by
  unfold bast at h
  by_cases hy : ixb i n = true
  · rw [if_pos hy] at h; exact ⟨ixb_ok hy, _, rfl, h⟩
  · rw [if_neg hy] at h; cases h
theorem pt_ok {β : Type} {s : St} {q j : Nat} {v : Int32} {f : St → Option β} {x : β} (h : bd1 (ptf s q j v) f = some x) : ∃ t, t = u2 s q j v ∧ f t = some x := ⟨_, rfl, h⟩
theorem cp_ok {β : Type} {s : St} {q0 n0 q1 n1 : Nat} {sp dp n : Int32} {f : St → Option β} {x : β} (h : bd1 (acp s q0 n0 sp q1 n1 dp n) f = some x) : (¬ sp < 0 ∧ ¬ dp < 0 ∧ ¬ n < 0 ∧ sp.toNatClampNeg + n.toNatClampNeg ≤ n0 ∧ dp.toNatClampNeg + n.toNatClampNeg ≤ n1) ∧ ∃ t, t = uA s q1 (va_cpy (s q0) (s q1) sp.toNatClampNeg dp.toNatClampNeg n.toNatClampNeg) ∧ f t = some x := by
  unfold acp at h
  split at h
  · next hy => exact ⟨hy, _, rfl, h⟩
  · cases h
def bd2 {α1 α2 β : Type} (o : Option (α1 × α2)) (f : α1 → α2 → Option β) : Option β := o.bind (fun x => f x.1 x.2)
theorem bd2_ok {α1 α2 β : Type} {o : Option (α1 × α2)} {f : α1 → α2 → Option β} {x : β} (h : bd2 o f = some x) : ∃ a1 a2, o = some (a1, a2) ∧ f a1 a2 = some x := by
  cases o with
  | none => cases h
  | some a => exact ⟨a.1, a.2, rfl, h⟩
theorem bd2_s {α1 α2 β : Type} (a1 : α1) (a2 : α2) (f : α1 → α2 → Option β) : bd2 (some (a1, a2)) f = f a1 a2 := rfl
def bd3 {α1 α2 α3 β : Type} (o : Option (α1 × α2 × α3)) (f : α1 → α2 → α3 → Option β) : Option β := o.bind (fun x => f x.1 x.2.1 x.2.2)
theorem bd3_ok {α1 α2 α3 β : Type} {o : Option (α1 × α2 × α3)} {f : α1 → α2 → α3 → Option β} {x : β} (h : bd3 o f = some x) : ∃ a1 a2 a3, o = some (a1, a2, a3) ∧ f a1 a2 a3 = some x := by
  cases o with
  | none => cases h
  | some a => exact ⟨a.1, a.2.1, a.2.2, rfl, h⟩
theorem bd3_s {α1 α2 α3 β : Type} (a1 : α1) (a2 : α2) (a3 : α3) (f : α1 → α2 → α3 → Option β) : bd3 (some (a1, a2, a3)) f = f a1 a2 a3 := rfl
def bd4 {α1 α2 α3 α4 β : Type} (o : Option (α1 × α2 × α3 × α4)) (f : α1 → α2 → α3 → α4 → Option β) : Option β := o.bind (fun x => f x.1 x.2.1 x.2.2.1 x.2.2.2)
theorem bd4_ok {α1 α2 α3 α4 β : Type} {o : Option (α1 × α2 × α3 × α4)} {f : α1 → α2 → α3 → α4 → Option β} {x : β} (h : bd4 o f = some x) : ∃ a1 a2 a3 a4, o = some (a1, a2, a3, a4) ∧ f a1 a2 a3 a4 = some x := by
  cases o with
  | none => cases h
  | some a => exact ⟨a.1, a.2.1, a.2.2.1, a.2.2.2, rfl, h⟩
theorem bd4_s {α1 α2 α3 α4 β : Type} (a1 : α1) (a2 : α2) (a3 : α3) (a4 : α4) (f : α1 → α2 → α3 → α4 → Option β) : bd4 (some (a1, a2, a3, a4)) f = f a1 a2 a3 a4 := rfl
def bd5 {α1 α2 α3 α4 α5 β : Type} (o : Option (α1 × α2 × α3 × α4 × α5)) (f : α1 → α2 → α3 → α4 → α5 → Option β) : Option β := o.bind (fun x => f x.1 x.2.1 x.2.2.1 x.2.2.2.1 x.2.2.2.2)
theorem bd5_ok {α1 α2 α3 α4 α5 β : Type} {o : Option (α1 × α2 × α3 × α4 × α5)} {f : α1 → α2 → α3 → α4 → α5 → Option β} {x : β} (h : bd5 o f = some x) : ∃ a1 a2 a3 a4 a5, o = some (a1, a2, a3, a4, a5) ∧ f a1 a2 a3 a4 a5 = some x := by
  cases o with
  | none => cases h
  | some a => exact ⟨a.1, a.2.1, a.2.2.1, a.2.2.2.1, a.2.2.2.2, rfl, h⟩
theorem bd5_s {α1 α2 α3 α4 α5 β : Type} (a1 : α1) (a2 : α2) (a3 : α3) (a4 : α4) (a5 : α5) (f : α1 → α2 → α3 → α4 → α5 → Option β) : bd5 (some (a1, a2, a3, a4, a5)) f = f a1 a2 a3 a4 a5 := rfl
def bd6 {α1 α2 α3 α4 α5 α6 β : Type} (o : Option (α1 × α2 × α3 × α4 × α5 × α6)) (f : α1 → α2 → α3 → α4 → α5 → α6 → Option β) : Option β := o.bind (fun x => f x.1 x.2.1 x.2.2.1 x.2.2.2.1 x.2.2.2.2.1 x.2.2.2.2.2)
theorem bd6_ok {α1 α2 α3 α4 α5 α6 β : Type} {o : Option (α1 × α2 × α3 × α4 × α5 × α6)} {f : α1 → α2 → α3 → α4 → α5 → α6 → Option β} {x : β} (h : bd6 o f = some x) : ∃ a1 a2 a3 a4 a5 a6, o = some (a1, a2, a3, a4, a5, a6) ∧ f a1 a2 a3 a4 a5 a6 = some x := by
  cases o with
  | none => cases h
  | some a => exact ⟨a.1, a.2.1, a.2.2.1, a.2.2.2.1, a.2.2.2.2.1, a.2.2.2.2.2, rfl, h⟩
theorem bd6_s {α1 α2 α3 α4 α5 α6 β : Type} (a1 : α1) (a2 : α2) (a3 : α3) (a4 : α4) (a5 : α5) (a6 : α6) (f : α1 → α2 → α3 → α4 → α5 → α6 → Option β) : bd6 (some (a1, a2, a3, a4, a5, a6)) f = f a1 a2 a3 a4 a5 a6 := rfl
def bd7 {α1 α2 α3 α4 α5 α6 α7 β : Type} (o : Option (α1 × α2 × α3 × α4 × α5 × α6 × α7)) (f : α1 → α2 → α3 → α4 → α5 → α6 → α7 → Option β) : Option β := o.bind (fun x => f x.1 x.2.1 x.2.2.1 x.2.2.2.1 x.2.2.2.2.1 x.2.2.2.2.2.1 x.2.2.2.2.2.2)
theorem bd7_ok {α1 α2 α3 α4 α5 α6 α7 β : Type} {o : Option (α1 × α2 × α3 × α4 × α5 × α6 × α7)} {f : α1 → α2 → α3 → α4 → α5 → α6 → α7 → Option β} {x : β} (h : bd7 o f = some x) : ∃ a1 a2 a3 a4 a5 a6 a7, o = some (a1, a2, a3, a4, a5, a6, a7) ∧ f a1 a2 a3 a4 a5 a6 a7 = some x := by
  cases o with
  | none => cases h
  | some a => exact ⟨a.1, a.2.1, a.2.2.1, a.2.2.2.1, a.2.2.2.2.1, a.2.2.2.2.2.1, a.2.2.2.2.2.2, rfl, h⟩
theorem bd7_s {α1 α2 α3 α4 α5 α6 α7 β : Type} (a1 : α1) (a2 : α2) (a3 : α3) (a4 : α4) (a5 : α5) (a6 : α6) (a7 : α7) (f : α1 → α2 → α3 → α4 → α5 → α6 → α7 → Option β) : bd7 (some (a1, a2, a3, a4, a5, a6, a7)) f = f a1 a2 a3 a4 a5 a6 a7 := rfl
def bd8 {α1 α2 α3 α4 α5 α6 α7 α8 β : Type} (o : Option (α1 × α2 × α3 × α4 × α5 × α6 × α7 × α8)) (f : α1 → α2 → α3 → α4 → α5 → α6 → α7 → α8 → Option β) : Option β := o.bind (fun x => f x.1 x.2.1 x.2.2.1 x.2.2.2.1 x.2.2.2.2.1 x.2.2.2.2.2.1 x.2.2.2.2.2.2.1 x.2.2.2.2.2.2.2)
theorem bd8_ok {α1 α2 α3 α4 α5 α6 α7 α8 β : Type} {o : Option (α1 × α2 × α3 × α4 × α5 × α6 × α7 × α8)} {f : α1 → α2 → α3 → α4 → α5 → α6 → α7 → α8 → Option β} {x : β} (h : bd8 o f = some x) : ∃ a1 a2 a3 a4 a5 a6 a7 a8, o = some (a1, a2, a3, a4, a5, a6, a7, a8) ∧ f a1 a2 a3 a4 a5 a6 a7 a8 = some x := by
  cases o with
  | none => cases h
  | some a => exact ⟨a.1, a.2.1, a.2.2.1, a.2.2.2.1, a.2.2.2.2.1, a.2.2.2.2.2.1, a.2.2.2.2.2.2.1, a.2.2.2.2.2.2.2, rfl, h⟩
theorem bd8_s {α1 α2 α3 α4 α5 α6 α7 α8 β : Type} (a1 : α1) (a2 : α2) (a3 : α3) (a4 : α4) (a5 : α5) (a6 : α6) (a7 : α7) (a8 : α8) (f : α1 → α2 → α3 → α4 → α5 → α6 → α7 → α8 → Option β) : bd8 (some (a1, a2, a3, a4, a5, a6, a7, a8)) f = f a1 a2 a3 a4 a5 a6 a7 a8 := rfl
def bS1 {ρ α1 β : Type} (o : Option (ρ ⊕ (α1))) (g : ρ → Option β) (f : α1 → Option β) : Option β := o.bind (fun y => match y with | .inl r => g r | .inr x => f x)
theorem bS1_ok {ρ α1 β : Type} {o : Option (ρ ⊕ (α1))} {g : ρ → Option β} {f : α1 → Option β} {x : β} (h : bS1 o g f = some x) : ∃ y, o = some y ∧ ((∃ r, y = .inl r ∧ g r = some x) ∨ ∃ a1, y = .inr a1 ∧ f a1 = some x) := by
  cases o with
  | none => cases h
  | some y =>
    cases y with
    | inl r => exact ⟨_, rfl, Or.inl ⟨r, rfl, h⟩⟩
    | inr a => exact ⟨_, rfl, Or.inr ⟨a, rfl, h⟩⟩
theorem bS1_l {ρ α1 β : Type} (r : ρ) (g : ρ → Option β) (f : α1 → Option β) : bS1 (some (.inl r)) g f = g r := rfl
theorem bS1_r {ρ α1 β : Type} (a1 : α1) (g : ρ → Option β) (f : α1 → Option β) : bS1 (some (.inr a1)) g f = f a1 := rfl
def bS2 {ρ α1 α2 β : Type} (o : Option (ρ ⊕ (α1 × α2))) (g : ρ → Option β) (f : α1 → α2 → Option β) : Option β := o.bind (fun y => match y with | .inl r => g r | .inr x => f x.1 x.2)
theorem bS2_ok {ρ α1 α2 β : Type} {o : Option (ρ ⊕ (α1 × α2))} {g : ρ → Option β} {f : α1 → α2 → Option β} {x : β} (h : bS2 o g f = some x) : ∃ y, o = some y ∧ ((∃ r, y = .inl r ∧ g r = some x) ∨ ∃ a1 a2, y = .inr (a1, a2) ∧ f a1 a2 = some x) := by
  cases o with
  | none => cases h
  | some y =>
    cases y with
    | inl r => exact ⟨_, rfl, Or.inl ⟨r, rfl, h⟩⟩
    | inr a => exact ⟨_, rfl, Or.inr ⟨a.1, a.2, rfl, h⟩⟩
theorem bS2_l {ρ α1 α2 β : Type} (r : ρ) (g : ρ → Option β) (f : α1 → α2 → Option β) : bS2 (some (.inl r)) g f = g r := rfl
theorem bS2_r {ρ α1 α2 β : Type} (a1 : α1) (a2 : α2) (g : ρ → Option β) (f : α1 → α2 → Option β) : bS2 (some (.inr (a1, a2))) g f = f a1 a2 := rfl
def bS3 {ρ α1 α2 α3 β : Type} (o : Option (ρ ⊕ (α1 × α2 × α3))) (g : ρ → Option β) (f : α1 → α2 → α3 → Option β) : Option β := o.bind (fun y => match y with | .inl r => g r | .inr x => f x.1 x.2.1 x.2.2)
theorem bS3_ok {ρ α1 α2 α3 β : Type} {o : Option (ρ ⊕ (α1 × α2 × α3))} {g : ρ → Option β} {f : α1 → α2 → α3 → Option β} {x : β} (h : bS3 o g f = some x) : ∃ y, o = some y ∧ ((∃ r, y = .inl r ∧ g r = some x) ∨ ∃ a1 a2 a3, y = .inr (a1, a2, a3) ∧ f a1 a2 a3 = some x) := by
  cases o with
  | none => cases h
  | some y =>
    cases y with
    | inl r => exact ⟨_, rfl, Or.inl ⟨r, rfl, h⟩⟩
    | inr a => exact ⟨_, rfl, Or.inr ⟨a.1, a.2.1, a.2.2, rfl, h⟩⟩
theorem bS3_l {ρ α1 α2 α3 β : Type} (r : ρ) (g : ρ → Option β) (f : α1 → α2 → α3 → Option β) : bS3 (some (.inl r)) g f = g r := rfl
theorem bS3_r {ρ α1 α2 α3 β : Type} (a1 : α1) (a2 : α2) (a3 : α3) (g : ρ → Option β) (f : α1 → α2 → α3 → Option β) : bS3 (some (.inr (a1, a2, a3))) g f = f a1 a2 a3 := rfl
def bS4 {ρ α1 α2 α3 α4 β : Type} (o : Option (ρ ⊕ (α1 × α2 × α3 × α4))) (g : ρ → Option β) (f : α1 → α2 → α3 → α4 → Option β) : Option β := o.bind (fun y => match y with | .inl r => g r | .inr x => f x.1 x.2.1 x.2.2.1 x.2.2.2)
theorem bS4_ok {ρ α1 α2 α3 α4 β : Type} {o : Option (ρ ⊕ (α1 × α2 × α3 × α4))} {g : ρ → Option β} {f : α1 → α2 → α3 → α4 → Option β} {x : β} (h : bS4 o g f = some x) : ∃ y, o = some y ∧ ((∃ r, y = .inl r ∧ g r = some x) ∨ ∃ a1 a2 a3 a4, y = .inr (a1, a2, a3, a4) ∧ f a1 a2 a3 a4 = some x) := by
  cases o with
  | none => cases h
  | some y =>
    cases y with
    | inl r => exact ⟨_, rfl, Or.inl ⟨r, rfl, h⟩⟩
    | inr a => exact ⟨_, rfl, Or.inr ⟨a.1, a.2.1, a.2.2.1, a.2.2.2, rfl, h⟩⟩
theorem bS4_l {ρ α1 α2 α3 α4 β : Type} (r : ρ) (g : ρ → Option β) (f : α1 → α2 → α3 → α4 → Option β) : bS4 (some (.inl r)) g f = g r := rfl
theorem bS4_r {ρ α1 α2 α3 α4 β : Type} (a1 : α1) (a2 : α2) (a3 : α3) (a4 : α4) (g : ρ → Option β) (f : α1 → α2 → α3 → α4 → Option β) : bS4 (some (.inr (a1, a2, a3, a4))) g f = f a1 a2 a3 a4 := rfl
def bS5 {ρ α1 α2 α3 α4 α5 β : Type} (o : Option (ρ ⊕ (α1 × α2 × α3 × α4 × α5))) (g : ρ → Option β) (f : α1 → α2 → α3 → α4 → α5 → Option β) : Option β := o.bind (fun y => match y with | .inl r => g r | .inr x => f x.1 x.2.1 x.2.2.1 x.2.2.2.1 x.2.2.2.2)
theorem bS5_ok {ρ α1 α2 α3 α4 α5 β : Type} {o : Option (ρ ⊕ (α1 × α2 × α3 × α4 × α5))} {g : ρ → Option β} {f : α1 → α2 → α3 → α4 → α5 → Option β} {x : β} (h : bS5 o g f = some x) : ∃ y, o = some y ∧ ((∃ r, y = .inl r ∧ g r = some x) ∨ ∃ a1 a2 a3 a4 a5, y = .inr (a1, a2, a3, a4, a5) ∧ f a1 a2 a3 a4 a5 = some x) := by
  cases o with
  | none => cases h
  | some y =>
    cases y with
    | inl r => exact ⟨_, rfl, Or.inl ⟨r, rfl, h⟩⟩
    | inr a => exact ⟨_, rfl, Or.inr ⟨a.1, a.2.1, a.2.2.1, a.2.2.2.1, a.2.2.2.2, rfl, h⟩⟩
theorem bS5_l {ρ α1 α2 α3 α4 α5 β : Type} (r : ρ) (g : ρ → Option β) (f : α1 → α2 → α3 → α4 → α5 → Option β) : bS5 (some (.inl r)) g f = g r := rfl
theorem bS5_r {ρ α1 α2 α3 α4 α5 β : Type} (a1 : α1) (a2 : α2) (a3 : α3) (a4 : α4) (a5 : α5) (g : ρ → Option β) (f : α1 → α2 → α3 → α4 → α5 → Option β) : bS5 (some (.inr (a1, a2, a3, a4, a5))) g f = f a1 a2 a3 a4 a5 := rfl
def bS6 {ρ α1 α2 α3 α4 α5 α6 β : Type} (o : Option (ρ ⊕ (α1 × α2 × α3 × α4 × α5 × α6))) (g : ρ → Option β) (f : α1 → α2 → α3 → α4 → α5 → α6 → Option β) : Option β := o.bind (fun y => match y with | .inl r => g r | .inr x => f x.1 x.2.1 x.2.2.1 x.2.2.2.1 x.2.2.2.2.1 x.2.2.2.2.2)
theorem bS6_ok {ρ α1 α2 α3 α4 α5 α6 β : Type} {o : Option (ρ ⊕ (α1 × α2 × α3 × α4 × α5 × α6))} {g : ρ → Option β} {f : α1 → α2 → α3 → α4 → α5 → α6 → Option β} {x : β} (h : bS6 o g f = some x) : ∃ y, o = some y ∧ ((∃ r, y = .inl r ∧ g r = some x) ∨ ∃ a1 a2 a3 a4 a5 a6, y = .inr (a1, a2, a3, a4, a5, a6) ∧ f a1 a2 a3 a4 a5 a6 = some x) := by
  cases o with
  | none => cases h
  | some y =>
    cases y with
    | inl r => exact ⟨_, rfl, Or.inl ⟨r, rfl, h⟩⟩
    | inr a => exact ⟨_, rfl, Or.inr ⟨a.1, a.2.1, a.2.2.1, a.2.2.2.1, a.2.2.2.2.1, a.2.2.2.2.2, rfl, h⟩⟩
theorem bS6_l {ρ α1 α2 α3 α4 α5 α6 β : Type} (r : ρ) (g : ρ → Option β) (f : α1 → α2 → α3 → α4 → α5 → α6 → Option β) : bS6 (some (.inl r)) g f = g r := rfl
theorem bS6_r {ρ α1 α2 α3 α4 α5 α6 β : Type} (a1 : α1) (a2 : α2) (a3 : α3) (a4 : α4) (a5 : α5) (a6 : α6) (g : ρ → Option β) (f : α1 → α2 → α3 → α4 → α5 → α6 → Option β) : bS6 (some (.inr (a1, a2, a3, a4, a5, a6))) g f = f a1 a2 a3 a4 a5 a6 := rfl
def bS7 {ρ α1 α2 α3 α4 α5 α6 α7 β : Type} (o : Option (ρ ⊕ (α1 × α2 × α3 × α4 × α5 × α6 × α7))) (g : ρ → Option β) (f : α1 → α2 → α3 → α4 → α5 → α6 → α7 → Option β) : Option β := o.bind (fun y => match y with | .inl r => g r | .inr x => f x.1 x.2.1 x.2.2.1 x.2.2.2.1 x.2.2.2.2.1 x.2.2.2.2.2.1 x.2.2.2.2.2.2)
theorem bS7_ok {ρ α1 α2 α3 α4 α5 α6 α7 β : Type} {o : Option (ρ ⊕ (α1 × α2 × α3 × α4 × α5 × α6 × α7))} {g : ρ → Option β} {f : α1 → α2 → α3 → α4 → α5 → α6 → α7 → Option β} {x : β} (h : bS7 o g f = some x) : ∃ y, o = some y ∧ ((∃ r, y = .inl r ∧ g r = some x) ∨ ∃ a1 a2 a3 a4 a5 a6 a7, y = .inr (a1, a2, a3, a4, a5, a6, a7) ∧ f a1 a2 a3 a4 a5 a6 a7 = some x) := by
  cases o with
  | none => cases h
  | some y =>
    cases y with
    | inl r => exact ⟨_, rfl, Or.inl ⟨r, rfl, h⟩⟩
    | inr a => exact ⟨_, rfl, Or.inr ⟨a.1, a.2.1, a.2.2.1, a.2.2.2.1, a.2.2.2.2.1, a.2.2.2.2.2.1, a.2.2.2.2.2.2, rfl, h⟩⟩
theorem bS7_l {ρ α1 α2 α3 α4 α5 α6 α7 β : Type} (r : ρ) (g : ρ → Option β) (f : α1 → α2 → α3 → α4 → α5 → α6 → α7 → Option β) : bS7 (some (.inl r)) g f = g r := rfl
theorem bS7_r {ρ α1 α2 α3 α4 α5 α6 α7 β : Type} (a1 : α1) (a2 : α2) (a3 : α3) (a4 : α4) (a5 : α5) (a6 : α6) (a7 : α7) (g : ρ → Option β) (f : α1 → α2 → α3 → α4 → α5 → α6 → α7 → Option β) : bS7 (some (.inr (a1, a2, a3, a4, a5, a6, a7))) g f = f a1 a2 a3 a4 a5 a6 a7 := rfl
theorem inl_ok {ρ ε : Type} {a b : ρ} {o : ρ ⊕ ε} (h : some (Sum.inl a) = some o) (hR : ∀ r, o = .inl r → r = b) : some a = some b := by
  cases h; exact congrArg some (hR a rfl)
theorem inl_c {ρ ε : Type} {a b : ρ} {ε' : Type} {o : ρ ⊕ ε} (h : some (Sum.inl a) = some o) (hR : ∀ r, o = .inl r → r = b) : ∀ r, (Sum.inl a : ρ ⊕ ε') = .inl r → r = b := by
  cases h; intro r hr; cases hr; exact hR a rfl
/-! rows in these words -/
section Rows2
variable {E : EE} {lay : List Shp} {p : Program} {l : Launch} {e : Env} {R : Room} {s : State} {m : MethodId} {args : Array Value} {below : List Frame} {meth : Method} {c : Code} {cc : ByteArray} {own : String} {nL cells slots : Nat} {Q : State → Prop} {pc : Nat} {L L' : List (Nat × Value)} {st : List Value} {σ τ : St}
theorem s_puti (X : Cx E lay p s m args c cc own nL) {C : String} {T : u_T} {N ci idx q : Nat} {fl : List (Option Nat)} {ty : FieldType} {v : Int32} (hd : decode cc pc = .ok (.putfield idx, 3)) (hin : ∀ w ∈ u_ws C T N, w ∈ gw) {ty0 : Nat → FieldType} (hty : ∀ k, k < N → parseFieldDescriptor (T k).2.2.1 = some (ty0 k)) (hnm : ∀ a, a < N → ∀ b, b < N → a ≠ b → (T a).2.1 ≠ (T b).2.1) (hc : vwCl[ci]? = some (C, T, N)) (hlay : lay[q]? = some (.inl (ci, fl))) (j : Nat) (hf : fl[j]? = some none) (hj : j < N) (hw : Cond.fieldLink own idx (T j).1 (T j).2.1 (T j).2.2.1 ∈ gw) (hfin : (T j).2.2.2 = false) (hdesc : ty0 j = ty) (hn : narrow ty (.int v) = .int v ∧ fits ty (.int v) = true) (ht : τ = u2 σ q j v) (k : AW E lay p l e R s m args below meth c nL cells slots Q (pc + 3) L st τ) : AW E lay p l e R s m args below meth c nL cells slots Q pc L (.int v :: .ref (ea E q) :: st) σ := by
  subst ht; exact r_puti X hd hin ty0 hty hnm hc hlay j hf hj hw hfin hdesc hn.1 hn.2 k
theorem s_iast (X : Cx E lay p s m args c cc own nL) {q n : Nat} {i v : Int32} (hd : decode cc pc = .ok (.iastore, 1)) (hlay : lay[q]? = some (.inr (0, n))) (hi : vp_in i n) (ht : τ = u2 σ q i.toNatClampNeg v) (k : AW E lay p l e R s m args below meth c nL cells slots Q (pc + 1) L st τ) : AW E lay p l e R s m args below meth c nL cells slots Q pc L (.int v :: .int i :: .ref (ea E q) :: st) σ := by
  subst ht; exact r_iast X hd hlay hi k
theorem s_bast (X : Cx E lay p s m args c cc own nL) {q n : Nat} {i v : Int32} (hd : decode cc pc = .ok (.bastore, 1)) (hlay : lay[q]? = some (.inr (1, n))) (hi : vp_in i n) (ht : τ = u2 σ q i.toNatClampNeg (i8 v)) (k : AW E lay p l e R s m args below meth c nL cells slots Q (pc + 1) L st τ) : AW E lay p l e R s m args below meth c nL cells slots Q pc L (.int v :: .int i :: .ref (ea E q) :: st) σ := by
  subst ht; exact r_bast X hd hlay hi k
theorem s_copy (X : Cx E lay p s m args c cc own nL) {idx q0 q1 n0 n1 : Nat} {sp dp n : Int32} (hd : decode cc pc = .ok (.invokestatic idx, 3)) (w1 : Cond.methodLink own idx arraycopyName ∈ gw) (w2 : Cond.native arraycopyName ∈ gw) (w3 : Cond.static arraycopyName ∈ gw) (w4 : Cond.initialized "java/lang/System" ∈ gw) (h0 : lay[q0]? = some (.inr (0, n0))) (h1 : lay[q1]? = some (.inr (0, n1))) (g : ¬ sp < 0 ∧ ¬ dp < 0 ∧ ¬ n < 0 ∧ sp.toNatClampNeg + n.toNatClampNeg ≤ n0 ∧ dp.toNatClampNeg + n.toNatClampNeg ≤ n1) (hR : 1 ≤ R.frames) (hR2 : (st.map fun v => v.category).sum + 40 ≤ R.locals) (ht : τ = uA σ q1 (va_cpy (σ q0) (σ q1) sp.toNatClampNeg dp.toNatClampNeg n.toNatClampNeg)) (k : AW E lay p l e R s m args below meth c nL cells slots Q (pc + 3) L st τ) : AW E lay p l e R s m args below meth c nL cells slots Q pc L (.int n :: .int dp :: .ref (ea E q1) :: .int sp :: .ref (ea E q0) :: st) σ := by
  subst ht; exact r_copy X hd w1 w2 w3 w4 h0 h1 g.1 g.2.1 g.2.2.1 g.2.2.2.1 g.2.2.2.2 hR hR2 k
theorem s_alen (X : Cx E lay p s m args c cc own nL) {q n b : Nat} {v : Int32} (hd : decode cc pc = .ok (.arraylength, 1)) (hlay : lay[q]? = some (.inr (b, n))) (hv : Int32.ofNat n = v) (k : AW E lay p l e R s m args below meth c nL cells slots Q (pc + 1) L (.int v :: st) σ) : AW E lay p l e R s m args below meth c nL cells slots Q pc L (.ref (ea E q) :: st) σ := by
  subst hv; exact r_alen X hd hlay k
theorem s_irem (X : Cx E lay p s m args c cc own nL) {x y : Int32} (hd : decode cc pc = .ok (.irem, 1)) (hne : ¬ y = 0) (k : AW E lay p l e R s m args below meth c nL cells slots Q (pc + 1) L (.int (irm x y) :: st) σ) : AW E lay p l e R s m args below meth c nL cells slots Q pc L (.int y :: .int x :: st) σ := r_irem X hd hne k
theorem s_ishl (X : Cx E lay p s m args c cc own nL) {x y : Int32} (hd : decode cc pc = .ok (.ishl, 1)) (k : AW E lay p l e R s m args below meth c nL cells slots Q (pc + 1) L (.int (shl x y) :: st) σ) : AW E lay p l e R s m args below meth c nL cells slots Q pc L (.int y :: .int x :: st) σ := r_ishl X hd k
theorem s_ishr (X : Cx E lay p s m args c cc own nL) {x y : Int32} (hd : decode cc pc = .ok (.ishr, 1)) (k : AW E lay p l e R s m args below meth c nL cells slots Q (pc + 1) L (.int (shr x y) :: st) σ) : AW E lay p l e R s m args below meth c nL cells slots Q pc L (.int y :: .int x :: st) σ := r_ishr X hd k
theorem s_iushr (X : Cx E lay p s m args c cc own nL) {x y : Int32} (hd : decode cc pc = .ok (.iushr, 1)) (k : AW E lay p l e R s m args below meth c nL cells slots Q (pc + 1) L (.int (ush x y) :: st) σ) : AW E lay p l e R s m args below meth c nL cells slots Q pc L (.int y :: .int x :: st) σ := r_iushr X hd k
theorem s_lushr (X : Cx E lay p s m args c cc own nL) {x : Int64} {y : Int32} (hd : decode cc pc = .ok (.lushr, 1)) (k : AW E lay p l e R s m args below meth c nL cells slots Q (pc + 1) L (.long (lus x y) :: st) σ) : AW E lay p l e R s m args below meth c nL cells slots Q pc L (.int y :: .long x :: st) σ := r_lushr X hd k
theorem s_lshr (X : Cx E lay p s m args c cc own nL) {x : Int64} {y : Int32} (hd : decode cc pc = .ok (.lshr, 1)) (k : AW E lay p l e R s m args below meth c nL cells slots Q (pc + 1) L (.long (lsr x y) :: st) σ) : AW E lay p l e R s m args below meth c nL cells slots Q pc L (.int y :: .long x :: st) σ := r_lshr X hd k
theorem s_i2b (X : Cx E lay p s m args c cc own nL) {x : Int32} (hd : decode cc pc = .ok (.i2b, 1)) (k : AW E lay p l e R s m args below meth c nL cells slots Q (pc + 1) L (.int (i8 x) :: st) σ) : AW E lay p l e R s m args below meth c nL cells slots Q pc L (.int x :: st) σ := r_i2b X hd k
theorem s_i2s (X : Cx E lay p s m args c cc own nL) {x : Int32} (hd : decode cc pc = .ok (.i2s, 1)) (k : AW E lay p l e R s m args below meth c nL cells slots Q (pc + 1) L (.int (i16 x) :: st) σ) : AW E lay p l e R s m args below meth c nL cells slots Q pc L (.int x :: st) σ := r_i2s X hd k
theorem s_mmax (X : Cx E lay p s m args c cc own nL) {d idx : Nat} {x y : Int32} (hd : decode cc pc = .ok (.invokestatic idx, 3)) (w1 : Cond.methodLink own idx Lib.Math.max.name ∈ gw) (w2 : Cond.static Lib.Math.max.name ∈ gw) (w3 : Cond.initialized "java/lang/Math" ∈ gw) (w4 : Cond.code Lib.Math.max.name Lib.Math.max.code 2 (some .int) ∈ gw) (hR : 1 ≤ d) (hrs : (st.map fun v => v.category).sum ≤ 8) (k : AW E lay p l e (rmD d) s m args below meth c nL 0 0 Q (pc + 3) L (.int (imx x y) :: st) σ) : AW E lay p l e (rmD d) s m args below meth c nL 0 0 Q pc L (.int y :: .int x :: st) σ := r_mmax X hd w1 w2 w3 w4 hR (by simp only [rmD]; omega) ⟨Nat.le_refl 0, Nat.le_refl 0⟩ k
theorem s_mmin (X : Cx E lay p s m args c cc own nL) {d idx : Nat} {x y : Int32} (hd : decode cc pc = .ok (.invokestatic idx, 3)) (w1 : Cond.methodLink own idx Lib.Math.min.name ∈ gw) (w2 : Cond.static Lib.Math.min.name ∈ gw) (w3 : Cond.initialized "java/lang/Math" ∈ gw) (w4 : Cond.code Lib.Math.min.name Lib.Math.min.code 2 (some .int) ∈ gw) (hR : 1 ≤ d) (hrs : (st.map fun v => v.category).sum ≤ 8) (k : AW E lay p l e (rmD d) s m args below meth c nL 0 0 Q (pc + 3) L (.int (imn x y) :: st) σ) : AW E lay p l e (rmD d) s m args below meth c nL 0 0 Q pc L (.int y :: .int x :: st) σ := r_mmin X hd w1 w2 w3 w4 hR (by simp only [rmD]; omega) ⟨Nat.le_refl 0, Nat.le_refl 0⟩ k
theorem s_callS (X : Cx E lay p s m args c cc own nL) {y : MethodName} {bytes : ByteArray} {mL idx n d D : Nat} {ret : Option FieldType} (As rest : List Value) {ro : Option Value} (hM : Ct l E lay y bytes mL ret d As σ ro τ) (hd : decode cc pc = .ok (.invokestatic idx, 3)) (w1 : Cond.methodLink own idx y ∈ gw) (w2 : Cond.static y ∈ gw) (w3 : Cond.initialized y.cls ∈ gw) (w4 : Cond.code y bytes mL ret ∈ gw) (hy : y.cls ≠ "java/lang/invoke/MethodHandle" ∧ y.cls ≠ "java/lang/invoke/VarHandle" ∧ (parseMethodDescriptor y.desc).map (fun d => d.parameters.length) = some n) (hn : As.length = n) (hst : st = As.reverse ++ rest) (hrs : (rest.map fun v => v.category).sum ≤ 8) (hm : mL ≤ 21) (hR : d + 1 ≤ D) (k : AW E lay p l e (rmD D) s m args below meth c nL 0 0 Q (pc + 3) L (ro.toList ++ rest) τ) : AW E lay p l e (rmD D) s m args below meth c nL 0 0 Q pc L st σ :=
  r_callS X As rest hM hd w1 w2 w3 w4 hy hn hst hrs ⟨hR, by simp only [rmD]; omega⟩ ⟨Nat.le_refl 0, Nat.le_refl 0⟩ k
theorem s_callV (X : Cx E lay p s m args c cc own nL) {y : MethodName} {bytes : ByteArray} {mL idx n d q ci N D : Nat} {T : u_T} {fl : List (Option Nat)} {ret : Option FieldType} (As rest : List Value) {ro : Option Value} (hM : Ct l E lay y bytes mL ret d (.ref (ea E q) :: As) σ ro τ) (hd : decode cc pc = .ok (.invokevirtual idx, 3)) (hc : vwCl[ci]? = some (y.cls, T, N)) (hlay : lay[q]? = some (.inl (ci, fl))) (w1 : Cond.methodLink own idx y ∈ gw) (w2 : Cond.instanceMethod y ∈ gw) (w3 : Cond.selects y.cls y y ∈ gw) (w4 : Cond.initialized y.cls ∈ gw) (w5 : Cond.code y bytes mL ret ∈ gw) (hy : y.cls ≠ "java/lang/invoke/MethodHandle" ∧ y.cls ≠ "java/lang/invoke/VarHandle" ∧ (parseMethodDescriptor y.desc).map (fun d => d.parameters.length) = some n) (hn : As.length = n) (hst : st = As.reverse ++ .ref (ea E q) :: rest) (hrs : (rest.map fun v => v.category).sum ≤ 8) (hm : mL ≤ 21) (hR : d + 1 ≤ D) (k : AW E lay p l e (rmD D) s m args below meth c nL 0 0 Q (pc + 3) L (ro.toList ++ rest) τ) : AW E lay p l e (rmD D) s m args below meth c nL 0 0 Q pc L st σ :=
  r_callV X As rest hM hd hc hlay w1 w2 w3 w4 w5 hy hn hst hrs ⟨hR, by simp only [rmD]; omega⟩ ⟨Nat.le_refl 0, Nat.le_refl 0⟩ k
theorem s_iret (X : Cx E lay p s m args c cc own nL) (hlocks : meth.locks = false) (hr : meth.sig.returnType = some .int) {v r : Int32} (hd : decode cc pc = .ok (.ireturn, 1)) (h : some (v, σ) = some (r, τ)) : AW E lay p l e R s m args below meth c nL 0 0 (MQc E lay below args s (some (.int r)) τ) pc L [.int v] σ := by
  cases h; exact r_iret X hlocks hr hd
theorem s_zret (X : Cx E lay p s m args c cc own nL) (hlocks : meth.locks = false) (hr : meth.sig.returnType = some .boolean) {v r : Int32} (hn : narrow .boolean (.int v) = .int v) (hd : decode cc pc = .ok (.ireturn, 1)) (h : some (v, σ) = some (r, τ)) : AW E lay p l e R s m args below meth c nL 0 0 (MQc E lay below args s (some (.int r)) τ) pc L [.int v] σ := by
  cases h; exact r_zret X hlocks hr hn hd
theorem s_vret (X : Cx E lay p s m args c cc own nL) (hlocks : meth.locks = false) (hr : meth.sig.returnType = none) (hd : decode cc pc = .ok (.return_, 1)) (h : some σ = some τ) : AW E lay p l e R s m args below meth c nL 0 0 (MQc E lay below args s none τ) pc L [] σ := by
  cases h; exact r_vret X hlocks hr hd
theorem s_iald (X : Cx E lay p s m args c cc own nL) {q n : Nat} {i v : Int32} (hd : decode cc pc = .ok (.iaload, 1)) (hlay : lay[q]? = some (.inr (0, n))) (hi : vp_in i n) (hv : v = σ q i.toNatClampNeg) (k : AW E lay p l e R s m args below meth c nL cells slots Q (pc + 1) L (.int v :: st) σ) : AW E lay p l e R s m args below meth c nL cells slots Q pc L (.int i :: .ref (ea E q) :: st) σ := by
  subst hv; exact r_iald X hd hlay hi k
theorem s_bald (X : Cx E lay p s m args c cc own nL) {q n : Nat} {i v : Int32} (hd : decode cc pc = .ok (.baload, 1)) (hlay : lay[q]? = some (.inr (1, n))) (hi : vp_in i n) (hv : v = σ q i.toNatClampNeg) (k : AW E lay p l e R s m args below meth c nL cells slots Q (pc + 1) L (.int v :: st) σ) : AW E lay p l e R s m args below meth c nL cells slots Q pc L (.int i :: .ref (ea E q) :: st) σ := by
  subst hv; exact r_bald X hd hlay hi k
theorem s_aald (X : Cx E lay p s m args c cc own nL) {q n b v : Nat} {i : Int32} (hd : decode cc pc = .ok (.aaload, 1)) (hlay : lay[q]? = some (.inr (b + 2, n))) (hi : vp_in i n) (hv : v = b + 2 * i.toNatClampNeg) (k : AW E lay p l e R s m args below meth c nL cells slots Q (pc + 1) L (.ref (ea E v) :: st) σ) : AW E lay p l e R s m args below meth c nL cells slots Q pc L (.int i :: .ref (ea E q) :: st) σ := by
  subst hv; exact r_aald X hd hlay hi k
theorem s_ldA (X : Cx E lay p s m args c cc own nL) {i v : Int32} (hd : decode cc pc = .ok (.iaload, 1)) (hi : vp_in i 7) (hv : v = kAB i.toNatClampNeg) (k : AW E lay p l e R s m args below meth c nL cells slots Q (pc + 1) L (.int v :: st) σ) : AW E lay p l e R s m args below meth c nL cells slots Q pc L (.int i :: .ref E.2.2.2.1 :: st) σ := by
  subst hv; exact r_ldA X hd hi k
theorem s_ldB (X : Cx E lay p s m args c cc own nL) {i v : Int32} (hd : decode cc pc = .ok (.iaload, 1)) (hi : vp_in i 28) (hv : v = kBO i.toNatClampNeg) (k : AW E lay p l e R s m args below meth c nL cells slots Q (pc + 1) L (.int v :: st) σ) : AW E lay p l e R s m args below meth c nL cells slots Q pc L (.int i :: .ref E.2.2.2.2 :: st) σ := by
  subst hv; exact r_ldB X hd hi k
theorem s_aret (X : Cx E lay p s m args c cc own nL) (hlocks : meth.locks = false) {cn : String} (hr : meth.sig.returnType = some (.object cn)) {q r : Nat} (hd : decode cc pc = .ok (.areturn, 1)) (h : some (q, σ) = some (r, τ)) : AW E lay p l e R s m args below meth c nL 0 0 (MQc E lay below args s (some (.ref (ea E r))) τ) pc L [.ref (ea E q)] σ := by
  cases h
  exact fun H locs ls hP hS hl => W.aret X.1 X.2.1 hr (Or.inl ⟨_, rfl⟩) (Or.inr ⟨_, rfl⟩) (fun t ht hW => ⟨rfl, ⟨by rw [ht]; exact hP, X.2.2.2.2.2.at hS ht hW.alike⟩, hS.F ht⟩) hS.2.2 hd hlocks
end Rows2
