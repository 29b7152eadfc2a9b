/-! the state: cell, place, number -/
abbrev St : Type := Nat → Nat → Int32
def uA (σ : St) (k : Nat) (f : Nat → Int32) : St := fun a => if a = k then f else σ a
def u2 (σ : St) (k j : Nat) (v : Int32) : St := uA σ k (upd (σ k) j v)
/-- a cell's shape: an object (its class' place in vwCl; its fields: a number, or the cell that it names), or a row (0 ints, 1 bytes, b + 2: the cells b, b + 2, b + 4 ..) and its length -/
abbrev Shp : Type := (Nat × List (Option Nat)) ⊕ (Nat × Nat)
abbrev EE : Type := va_G × (Nat → Nat) × (ClassId × ClassId × ClassId) × (Nat × Nat)
def eD (E : EE) : va_G := E.1
def ea (E : EE) (k : Nat) : Nat := E.2.1 k
def wfs (E : EE) (f : Nat → Int32) : Nat → List (Option Nat) → List Value
  | _, [] => []
  | j, none :: r => .int (f j) :: wfs E f (j + 1) r
  | j, some k :: r => .ref (ea E k) :: wfs E f (j + 1) r
theorem wfs_len (E : EE) (f : Nat → Int32) : ∀ (fl : List (Option Nat)) (i : Nat), (wfs E f i fl).length = fl.length
  | [], _ => rfl
  | none :: r, i => by rw [wfs, List.length_cons, List.length_cons, wfs_len E f r (i + 1)]
  | some k :: r, i => by rw [wfs, List.length_cons, List.length_cons, wfs_len E f r (i + 1)]
theorem wfs_int (E : EE) (f : Nat → Int32) : ∀ (fl : List (Option Nat)) (i j : Nat), fl[j]? = some none → (wfs E f i fl)[j]? = some (.int (f (i + j)))
  | [], _, _, h => by simp at h
  | none :: r, i, 0, _ => rfl
  | some k :: r, i, 0, h => by simp at h
  | none :: r, i, j + 1, h => by
    rw [wfs, List.getElem?_cons_succ, wfs_int E f r (i + 1) j (by simpa using h), show i + 1 + j = i + (j + 1) by omega]
  | some k :: r, i, j + 1, h => by
    rw [wfs, List.getElem?_cons_succ, wfs_int E f r (i + 1) j (by simpa using h), show i + 1 + j = i + (j + 1) by omega]
theorem wfs_ref (E : EE) (f : Nat → Int32) : ∀ (fl : List (Option Nat)) (i j k : Nat), fl[j]? = some (some k) → (wfs E f i fl)[j]? = some (.ref (ea E k))
  | [], _, _, _, h => by simp at h
  | none :: r, i, 0, _, h => by simp at h
  | some k' :: r, i, 0, k, h => by
    have e : k' = k := by simpa using h
    rw [e]; rfl
  | none :: r, i, j + 1, k, h => by rw [wfs, List.getElem?_cons_succ]; exact wfs_ref E f r (i + 1) j k (by simpa using h)
  | some k' :: r, i, j + 1, k, h => by rw [wfs, List.getElem?_cons_succ]; exact wfs_ref E f r (i + 1) j k (by simpa using h)
theorem wfs_congr (E : EE) {f g : Nat → Int32} : ∀ (fl : List (Option Nat)) (i : Nat), (∀ j, i ≤ j → f j = g j) → wfs E f i fl = wfs E g i fl
  | [], _, _ => rfl
  | none :: r, i, h => by rw [wfs, wfs, h i (Nat.le_refl i), wfs_congr E r (i + 1) (fun j hj => h j (by omega))]
  | some k :: r, i, h => by rw [wfs, wfs, wfs_congr E r (i + 1) (fun j hj => h j (by omega))]
theorem wfs_set (E : EE) (v : Int32) : ∀ (fl : List (Option Nat)) (f : Nat → Int32) (i j : Nat), fl[j]? = some none → (wfs E f i fl).set j (.int v) = wfs E (upd f (i + j) v) i fl
  | [], _, _, _, h => by simp at h
  | none :: r, f, i, 0, _ => by
    rw [wfs, wfs, List.set_cons_zero]
    congr 1
    · simp [upd]
    · exact wfs_congr E r (i + 1) (fun j hj => by simp [upd]; omega)
  | some k :: r, f, i, 0, h => by simp at h
  | none :: r, f, i, j + 1, h => by
    rw [wfs, wfs, List.set_cons_succ, wfs_set E v r f (i + 1) j (by simpa using h), show i + 1 + j = i + (j + 1) by omega]
    congr 1
    simp [upd]
  | some k :: r, f, i, j + 1, h => by
    rw [wfs, wfs, List.set_cons_succ, wfs_set E v r f (i + 1) j (by simpa using h), show i + 1 + j = i + (j + 1) by omega]
def wcell (E : EE) (σ : St) (k : Nat) : Shp → va_E
  | .inl (ci, fl) => .inr (ci, wfs E (σ k) 0 fl)
  | .inr (0, n) => .inl (E.2.2.1.1, n, .inl (σ k))
  | .inr (1, n) => .inl (E.2.2.1.2.1, n, .inl (σ k))
  | .inr (b + 2, n) => .inl (E.2.2.1.2.2, n, .inr (.inr (.inr (.inr (fun i => some (ea E (b + 2 * i)))))))
theorem wcell_congr {E : EE} {σ τ : St} {k : Nat} (h : σ k = τ k) (s : Shp) : wcell E σ k s = wcell E τ k s := by
  rcases s with ⟨ci, fl⟩ | ⟨_ | _ | b, n⟩ <;> simp [wcell, h]
def wws (E : EE) (lay : List Shp) (σ : St) : va_W := lay.mapIdx (fun k s => (ea E k, wcell E σ k s))
theorem wws_get {E : EE} {lay : List Shp} {k : Nat} {s : Shp} (σ : St) (h : lay[k]? = some s) : (wws E lay σ)[k]? = some (ea E k, wcell E σ k s) := by
  rw [wws, List.getElem?_mapIdx, h]; rfl
theorem wws_inv {E : EE} {lay : List Shp} {σ : St} {k : Nat} {q : Nat × va_E} (h : (wws E lay σ)[k]? = some q) : k < lay.length ∧ q.1 = ea E k := by
  rw [wws, List.getElem?_mapIdx] at h
  cases hk : lay[k]? with
  | none => rw [hk] at h; cases h
  | some s =>
    rw [hk] at h
    cases h
    exact ⟨(List.getElem?_eq_some_iff.mp hk).1, rfl⟩
theorem wws_set {E : EE} {lay : List Shp} {k : Nat} {s : Shp} {σ τ : St} {e : va_E} (hk : lay[k]? = some s) (he : wcell E τ k s = e) (ho : ∀ a, a ≠ k → τ a = σ a) : (wws E lay σ).set k (ea E k, e) = wws E lay τ := by
  apply List.ext_getElem?
  intro i
  have hlen : k < lay.length := (List.getElem?_eq_some_iff.mp hk).1
  by_cases hi : i = k
  · subst hi
    rw [wws_get τ hk, List.getElem?_set_self (by rw [wws, List.length_mapIdx]; exact hlen), he]
  · rw [List.getElem?_set_ne (fun q => hi q.symm), wws, wws, List.getElem?_mapIdx, List.getElem?_mapIdx]
    cases lay[i]? with
    | none => rfl
    | some s => simp only [Option.map_some]; rw [wcell_congr (ho i hi)]
def WA (E : EE) (lay : List Shp) : Nat → Prop := fun q => ∃ k, k < lay.length ∧ q = ea E k
def WI (E : EE) (lay : List Shp) : Prop := ∀ i j, i < lay.length → j < lay.length → ea E i = ea E j → i = j
theorem wD {E : EE} {lay : List Shp} (h : WI E lay) (σ : St) : va_D (WA E lay) (wws E lay σ) := by
  refine ⟨fun i j p q hp hq he => ?_, fun k q hq => ?_⟩
  · obtain ⟨h1, e1⟩ := wws_inv hp
    obtain ⟨h2, e2⟩ := wws_inv hq
    exact h i j h1 h2 (by rw [← e1, ← e2]; exact he)
  · obtain ⟨h1, e1⟩ := wws_inv hq
    exact ⟨k, h1, e1⟩
def wty (E : EE) : List (ClassId × FieldType) := [(E.2.2.1.1, .int), (E.2.2.1.2.1, .byte), (E.2.2.1.2.2, .object "ScullerySweets$Sheet")]
def kAB (j : Nat) : Int32 := ([-1, 0, 0, 0, 1, 2, 3] : List Int32).getD j 0
def kBO (j : Nat) : Int32 := ([10, 11, 12, 13, 20, 0, 0, 0, 0, 30, 0, 0, 0, 0, 40, 0, 0, 0, 0, 50, 0, 60, 0, 0, 0, 0, 70, 71] : List Int32).getD j 0
def WZ (E : EE) (A : Nat → Prop) (U : State) (H : Heap) : Prop :=
  (va_Z "ScullerySweets$Kinds" "ABOVE" "[I" (.ref E.2.2.2.1) A U H ∧ va_T .int E.2.2.2.1 7 (fun j => .int (kAB j)) A U H) ∧
  (va_Z "ScullerySweets$Voices" "BODIES" "[I" (.ref E.2.2.2.2) A U H ∧ va_T .int E.2.2.2.2 28 (fun j => .int (kBO j)) A U H)
theorem WZ.moved {E : EE} {A : Nat → Prop} {u U : State} {H : Heap} (hvm : u.vm.Alike U.vm) (h : WZ E A u H) : WZ E A U H := ⟨⟨h.1.1.moved hvm, h.1.2.moved hvm⟩, ⟨h.2.1.moved hvm, h.2.2.moved hvm⟩⟩
theorem WZ.kept {E : EE} {A : Nat → Prop} {U : State} {H H1 : Heap} (h : WZ E A U H) (hq : ∀ a : Nat, a < H.size → ¬ A a → H1[a]? = H[a]?) : WZ E A U H1 := ⟨⟨h.1.1.kept hq, h.1.2.kept hq⟩, ⟨h.2.1.kept hq, h.2.2.kept hq⟩⟩
theorem WZ.narrow {E : EE} {A B : Nat → Prop} {U : State} {H : Heap} (h : WZ E A U H) (hq : ∀ q, B q → A q) : WZ E B U H := ⟨⟨h.1.1.narrow hq, h.1.2.narrow hq⟩, ⟨h.2.1.narrow hq, h.2.2.narrow hq⟩⟩
def WK (E : EE) (lay : List Shp) (U : State) : Prop := va_K (eD E) vwCl (wty E) U ∧ WI E lay ∧ WZ E (WA E lay) U U.heap
def Wd (E : EE) (lay : List Shp) (σ : St) (U : State) : Prop := va_P (eD E) vwCl (wws E lay σ) U.heap ∧ WK E lay U
theorem Wd.blind {E : EE} {lay : List Shp} {σ : St} {av : List Value} : FrameBlind (va_Pc av (Wd E lay σ)) := by
  intro a U g mk q
  obtain ⟨q0, qP, qK, qI, qZ⟩ := q
  exact ⟨q0, qP, va_K.moved (u := U) (U := U.calling g mk a) (Vm.Alike.refl U.vm) qK, qI, WZ.moved (u := U) (U := U.calling g mk a) (Vm.Alike.refl U.vm) qZ⟩
theorem WK.at {E : EE} {lay : List Shp} {s U : State} {H : Heap} {locs : List Loc} (h : WK E lay s) (hS : va_S (WA E lay) s.heap H locs) (hU : U.heap = H) (hvm : s.vm.Alike U.vm) : WK E lay U :=
  ⟨va_K.moved hvm h.1, h.2.1, by rw [hU]; exact (h.2.2.moved hvm).kept (fun a h1 h2 => hS.2.1 a h1 h2)⟩
def rmD (d : Nat) : Room := { frames := d, cells := 0, slots := 0, locals := 40 * d }
/-- what a method does: with these values, from the numbers σ, it answers ro and leaves the numbers τ -/
def Ct (l : Launch) (E : EE) (lay : List Shp) (y : MethodName) (cc : ByteArray) (nL : Nat) (ret : Option FieldType) (d : Nat) (av : List Value) (σ : St) (ro : Option Value) (τ : St) : Prop :=
  Met l y (Cond.code y cc nL ret :: gw) (rmD d) (va_Pc av (Wd E lay σ)) (fun _ st oc t => oc = .returned ro ∧ Wd E lay τ t ∧ va_F (WA E lay) st t) 0 0 (WA E lay)
def Cx (E : EE) (lay : List Shp) (p : Program) (s : State) (m : MethodId) (args : Array Value) (c : Code) (cc : ByteArray) (own : String) (nL : Nat) : Prop :=
  p.tables.exec = Jvm.exec ∧ c.code = cc ∧ c.maxLocals = nL ∧ s.vm.findClass own = some m.cls ∧ (∀ w ∈ gw, w.before args s = true) ∧ WK E lay s
/-- the machine in a method's body, over the whole world -/
def AW (E : EE) (lay : List Shp) (p : Program) (l : Launch) (e : Env) (R : Room) (s : State) (m : MethodId) (args : Array Value) (below : List Frame) (meth : Method) (c : Code) (nL cells slots : Nat) (Q : State → Prop) (pc : Nat) (L : List (Nat × Value)) (st : List Value) (σ : St) : Prop :=
  ∀ (H : Heap) (locs : List Loc) (ls : Array Slot), va_P (eD E) vwCl (wws E lay σ) H → va_S (WA E lay) s.heap H locs → lv_has ls nL L → W p l e R s m args below meth c H locs cells slots Q (F0 m pc ls st)
theorem gd_S {own : String} {idx : Nat} {y : MethodName} {cc : ByteArray} {n : Nat} {ret : Option FieldType} (h1 : Cond.methodLink own idx y ∈ gw) (h2 : Cond.static y ∈ gw) (h3 : Cond.initialized y.cls ∈ gw) (h4 : Cond.code y cc n ret ∈ gw) : GoodIn gw (va_wsS own idx y (Cond.code y cc n ret :: gw)) := by
  intro w hw
  have hm : w ∈ gw := by
    simp only [va_wsS, List.mem_append, List.mem_cons, List.not_mem_nil, or_false] at hw
    rcases hw with (rfl | rfl | rfl) | rfl | hw
    · exact h1
    · exact h2
    · exact h3
    · exact h4
    · exact hw
  exact ⟨hm, gw_good hm⟩
theorem gd_V {own : String} {idx : Nat} {y : MethodName} {cc : ByteArray} {n : Nat} {ret : Option FieldType} (h1 : Cond.methodLink own idx y ∈ gw) (h2 : Cond.instanceMethod y ∈ gw) (h3 : Cond.selects y.cls y y ∈ gw) (h4 : Cond.initialized y.cls ∈ gw) (h5 : Cond.code y cc n ret ∈ gw) : GoodIn gw (wsV own idx y.cls y (Cond.code y cc n ret :: gw)) := by
  intro w hw
  have hm : w ∈ gw := by
    simp only [wsV, List.mem_append, List.mem_cons, List.not_mem_nil, or_false] at hw
    rcases hw with (rfl | rfl | rfl | rfl) | rfl | hw
    · exact h1
    · exact h2
    · exact h3
    · exact h4
    · exact h5
    · exact hw
  exact ⟨hm, gw_good hm⟩
theorem gd_C {y : MethodName} {cc : ByteArray} {n : Nat} {ret : Option FieldType} (h5 : Cond.code y cc n ret ∈ gw) : GoodIn gw (Cond.code y cc n ret :: gw) := by
  intro w hw
  have hm : w ∈ gw := by
    rcases List.mem_cons.mp hw with rfl | hw
    · exact h5
    · exact hw
  exact ⟨hm, gw_good hm⟩
