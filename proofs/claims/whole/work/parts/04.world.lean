/-! the ints of all cells, by the cell's number and the place; the cells are numbered in the order in which they are made, from the law's first new on -/
abbrev Sg : Type := Nat → Nat → Int32
def wr (σ : Sg) (k j : Nat) (v : Int32) : Sg := fun a b => if a = k then (if b = j then v else σ a b) else σ a b
def cpy (σ : Sg) (a sp b dp n : Nat) : Sg := fun k j => if k = b then (if dp ≤ j ∧ j < dp + n then σ a (sp + (j - dp)) else σ k j) else σ k j
abbrev Mu : Type := Nat × (Nat → Nat → Bool) × Sg
abbrev Gx : Type := Launch × va_G × Nat × (Nat → ClassId)
abbrev gl (G : Gx) : Launch := G.1
abbrev gD (G : Gx) : va_G := G.2.1
abbrev gb (G : Gx) : Nat := G.2.2.1
abbrev gA (G : Gx) : Nat → ClassId := G.2.2.2
/-- own class, code, locals, room, answer, name, does it make cells -/
abbrev Mx : Type := String × ByteArray × Nat × Room × Option FieldType × String × Bool
abbrev mO (M : Mx) : String := M.1
abbrev mC (M : Mx) : ByteArray := M.2.1
abbrev mL (M : Mx) : Nat := M.2.2.1
abbrev mR (M : Mx) : Room := M.2.2.2.1
abbrev mT (M : Mx) : Option FieldType := M.2.2.2.2.1
abbrev mN (M : Mx) : String := M.2.2.2.2.2.1
abbrev mI (M : Mx) : Bool := M.2.2.2.2.2.2
abbrev rmk (f c s l : Nat) : Room := { frames := f, cells := c, slots := s, locals := l }
/-- how many fields a class has -/
def nf (c : Nat) : Nat := if c = 0 then 3 else if c = 4 then 12 else if c = 6 then 3 else if c = 7 then 5 else if c = 8 then 2 else if c = 10 then 12 else if c = 11 then 22 else 0
/-- what a cell is: a class's number, or 20 ints, 21 booleans, 22 rows, 23 houses, 24 persons with a length -/
def shp (k : Nat) : Nat × Nat :=
  if k = 0 then (10, 0) else if k = 1 then (22, 8) else if k = 2 then (7, 0) else if k = 3 then (20, 120)
  else if k < 16 then (if (k - 4) % 6 = 0 then (4, 0) else (20, 6))
  else if k = 16 then (23, 2) else if k = 17 then (21, 2) else if k = 18 then (0, 0) else if k = 19 then (23, 24)
  else if k < 164 then (if (k - 20) % 6 = 0 then (4, 0) else (20, 6))
  else if k = 164 then (24, 5) else if k = 165 then (2, 0) else if k = 166 then (9, 0) else if k = 167 then (5, 0) else if k = 168 then (1, 0) else if k = 169 then (3, 0)
  else if k = 170 then (8, 0) else if k = 171 then (20, 16)
  else if k < 188 then (if (k - 172) % 2 = 0 then (6, 0) else (20, 40))
  else if k < 200 then (if (k - 188) % 6 = 0 then (4, 0) else (20, 6))
  else if k = 200 then (11, 0) else if k = 201 then (20, 8) else if k = 202 then (20, 8) else if k = 203 then (20, 320) else if k = 204 then (20, 40) else if k = 205 then (20, 120)
  else if k = 206 then (20, 41) else if k = 207 then (20, 41) else if k = 208 then (20, 41) else if k = 209 then (20, 984) else if k = 210 then (20, 82) else if k = 211 then (21, 2) else (20, 16)
/-- the cell that a field, or a place of an array of cells, names -/
def rfs (k j : Nat) : Option Nat :=
  if k = 0 then (if j = 0 then some 1 else if j = 1 then some 2 else if j = 2 then some 4 else if j = 3 then some 10 else if j = 4 then some 16 else if j = 5 then some 17 else if j = 6 then some 18 else if j = 7 then some 164 else if j = 8 then some 170 else none)
  else if k = 1 then some (172 + 2 * j)
  else if k = 2 then (if j = 0 then some 3 else none)
  else if k = 16 then some (188 + 6 * j)
  else if k = 18 then (if j = 0 then some 19 else none)
  else if k = 19 then some (20 + 6 * j)
  else if k = 164 then some (165 + j)
  else if k = 170 then (if j = 0 then some 171 else none)
  else if k = 200 then (if j = 0 then some 201 else if j = 1 then some 202 else if j = 2 then some 203 else if j = 3 then some 204 else if j = 5 then some 205 else if j = 13 then some 206 else if j = 14 then some 207 else if j = 15 then some 208 else if j = 16 then some 209 else if j = 18 then some 210 else if j = 19 then some 211 else if j = 20 then some 212 else none)
  else if (shp k).1 = 4 then (if j < 5 then some (k + 1 + j) else none)
  else if (shp k).1 = 6 then (if j = 0 then some (k + 1) else none)
  else none
def fv (b : Nat) (μ : Mu) (k j : Nat) : Value := match rfs k j with
  | some t => if μ.2.1 k j = true then .ref (b + t) else .null
  | none => .int (μ.2.2 k j)
def ent (G : Gx) (μ : Mu) (k : Nat) : va_E :=
  if (shp k).1 < 20 then .inr ((shp k).1, (List.range (nf (shp k).1)).map (fv (gb G) μ k))
  else if (shp k).1 < 22 then .inl (gA G ((shp k).1 - 20), (shp k).2, .inl (μ.2.2 k))
  else .inl (gA G ((shp k).1 - 20), (shp k).2, .inr (.inr (.inr (.inr (fun i => if μ.2.1 k i = true then (rfs k i).map (fun t => gb G + t) else none)))))
def wd (G : Gx) (μ : Mu) : va_W := (List.range μ.1).map (fun k => (gb G + k, ent G μ k))
abbrev tys (G : Gx) : List (ClassId × FieldType) := [(gA G 0, .int), (gA G 1, .boolean), (gA G 2, .object RX7), (gA G 3, .object RX4), (gA G 4, .object RX6)]
abbrev full (σ : Sg) : Mu := (213, fun _ _ => true, σ)
theorem wd_at {G : Gx} {μ : Mu} {k : Nat} (h : k < μ.1) : (wd G μ)[k]? = some (gb G + k, ent G μ k) := by
  unfold wd
  rw [List.getElem?_map, List.getElem?_range h]
  rfl
theorem wd_len (G : Gx) (μ : Mu) : (wd G μ).length = μ.1 := by simp [wd]
theorem wd_D (G : Gx) (μ : Mu) : va_D (fun q => gb G ≤ q) (wd G μ) := by
  have key : ∀ (i : Nat) (p : Nat × va_E), (wd G μ)[i]? = some p → p.1 = gb G + i := by
    intro i p h
    have hi : i < μ.1 := by rw [← wd_len G μ]; exact (List.getElem?_eq_some_iff.mp h).1
    rw [wd_at hi] at h
    cases h
    rfl
  refine ⟨fun i j p q hp hq e => ?_, fun k q h => ?_⟩
  · have h1 := key i p hp
    have h2 := key j q hq
    omega
  · have h1 := key k q h
    show gb G ≤ q.1
    omega
/-- one cell of the list is put anew -/
theorem wd_set {G : Gx} {μ μ' : Mu} {k : Nat} {e : va_E} (hn : μ'.1 = μ.1) (he : ent G μ' k = e) (ho : ∀ a, a ≠ k → ent G μ' a = ent G μ a) : (wd G μ).set k (gb G + k, e) = wd G μ' := by
  apply List.ext_getElem?
  intro i
  rw [List.getElem?_set]
  by_cases hk : k = i
  · subst hk
    by_cases hi : k < μ.1
    · rw [if_pos rfl, if_pos (by rw [wd_len]; exact hi), wd_at (by rw [hn]; exact hi), he]
    · rw [if_pos rfl, if_neg (by rw [wd_len]; exact hi)]
      exact (List.getElem?_eq_none (by rw [wd_len, hn]; omega)).symm
  · rw [if_neg hk]
    by_cases hi : i < μ.1
    · rw [wd_at hi, wd_at (by rw [hn]; exact hi), ho i (fun q => hk q.symm)]
    · rw [List.getElem?_eq_none (by rw [wd_len]; omega), List.getElem?_eq_none (by rw [wd_len, hn]; omega)]
/-! what is given of the tables beside the good words -/
def nestL : List (String × Nat × MethodName) := [(RX11, 17, yX8_init), (RX11, 24, yX4_init), (RX0, 15, yX4_init), (RX11, 51, yX2_init), (RX2, 1, yX6_init), (RX11, 54, yX10_init), (RX10, 1, yX2_init), (RX11, 57, yX5_init), (RX5, 1, yX2_init), (RX11, 60, yX1_init), (RX1, 1, yX6_init), (RX11, 63, yX3_init), (RX3, 1, yX1_init), (RX11, 70, yX9_init), (RX11, 75, yX7_init)]
def aoL : List String := [RX7, RX4, RX6]
def cyL : List (String × String) := [(RX5, RX2), (RX10, RX2), (RX3, RX1), (RX2, RX6), (RX10, RX6), (RX5, RX6), (RX1, RX6), (RX3, RX6)]
def ncL : List (String × String) := [(RX2, RX10), (RX2, RX5), (RX2, RX1), (RX2, RX3), (RX10, RX5), (RX10, RX1), (RX10, RX3), (RX5, RX10), (RX5, RX1), (RX5, RX3), (RX1, RX2), (RX1, RX10), (RX1, RX5), (RX1, RX3), (RX3, RX2), (RX3, RX10), (RX3, RX5)]
def Ex (U : State) : Prop := (∀ q ∈ nestL, va_Nw (.methodLinkNest q.1 q.2.1 q.2.2 "LiftEnvy") U) ∧ (∀ C ∈ aoL, va_AO C U) ∧ (∀ q ∈ cyL, va_Nw (.castable q.1 q.2) U) ∧ ∀ q ∈ ncL, va_Nc q.1 q.2 U
theorem Ex.warm {s U : State} (hW : s.WarmedH U.vm) (h : Ex s) : Ex U := ⟨fun q hq => va_Nw.warmM hW (h.1 q hq), fun C hC => va_AO.moved hW.alike (h.2.1 C hC), fun q hq => va_Nw.warmC hW (h.2.2.1 q hq), fun q hq => va_Nc.moved hW.alike (h.2.2.2 q hq)⟩
theorem Ex.calling {U : State} {g : JFrame} {mk : MethodId} {a : Array Value} (h : Ex U) : Ex (U.calling g mk a) := ⟨fun q hq => va_Nw.same rfl rfl (h.1 q hq), fun C hC => va_AO.moved (Vm.Alike.refl U.vm) (h.2.1 C hC), fun q hq => va_Nw.same rfl rfl (h.2.2.1 q hq), fun q hq => va_Nc.moved (Vm.Alike.refl U.vm) (h.2.2.2 q hq)⟩
def Kx (G : Gx) (U : State) : Prop := va_K (gD G) vwCl (tys G) U ∧ Ex U
theorem Kx.warm {G : Gx} {s U : State} (hW : s.WarmedH U.vm) (h : Kx G s) : Kx G U := ⟨va_K.moved hW.alike h.1, h.2.warm hW⟩
def Pcm (G : Gx) (f : Bool) (av : List Value) (μ : Mu) : Array Value → State → Prop := fun v U => v = av.toArray ∧ gb G ≤ U.heap.size ∧ (f = true → U.heap.size = gb G + μ.1) ∧ va_P (gD G) vwCl (wd G μ) U.heap ∧ Kx G U
def Qcm (G : Gx) (f : Bool) (o : Option Value) (μ' : Mu) : Array Value → State → Outcome → State → Prop := fun _ st oc t => oc = .returned o ∧ (f = true → t.heap.size = gb G + μ'.1) ∧ va_P (gD G) vwCl (wd G μ') t.heap ∧ va_F (fun q => gb G ≤ q) st t
theorem Pcm.blind (G : Gx) (f : Bool) (av : List Value) (μ : Mu) : FrameBlind (Pcm G f av μ) := fun a U g mk q => ⟨q.1, q.2.1, q.2.2.1, q.2.2.2.1, va_K.moved (u := U) (U := U.calling g mk a) (Vm.Alike.refl U.vm) q.2.2.2.2.1, q.2.2.2.2.2.calling⟩
/-- a method's contract over the cells: called with av where the cells hold μ, it returns o, and they hold μ' -/
def Ev (G : Gx) (y : MethodName) (M : Mx) (av : List Value) (μ : Mu) (o : Option Value) (μ' : Mu) (mc ms : Nat) : Prop :=
  Met (gl G) y (.code y (mC M) (mL M) (mT M) :: tG) (mR M) (Pcm G (mI M) av μ) (Qcm G (mI M) o μ') mc ms (fun q => gb G ≤ q)
abbrev Cx (G : Gx) (M : Mx) (p : Program) (s : State) (m : MethodId) (args : Array Value) (meth : Method) (c : Code) : Prop :=
  p.tables.exec = Jvm.exec ∧ c.code = mC M ∧ c.maxLocals = mL M ∧ meth.sig.returnType = mT M ∧ meth.locks = false ∧ s.vm.findClass (mO M) = some m.cls ∧ (∀ w ∈ tG, w.before args s = true) ∧ Kx G s ∧ gb G ≤ s.heap.size ∧ meth.name = mN M
/-- the machine stands in method M at pc with locals L and stack S, the cells hold μ: it comes to the method's end with o and μ' -/
def V (G : Gx) (M : Mx) (o : Option Value) (μ' : Mu) (mc ms : Nat) (pc : Nat) (L : List (Nat × Value)) (S : List Value) (μ : Mu) (c1 s1 : Nat) : Prop :=
  ∀ (p : Program) (e : Env) (s : State) (m : MethodId) (args : Array Value) (below : List Frame) (meth : Method) (c : Code) (H : Heap) (locs : List Loc) (ls : Array Slot),
    Cx G M p s m args meth c → va_P (gD G) vwCl (wd G μ) H → (mI M = true → H.size = gb G + μ.1) → va_S (fun q => gb G ≤ q) s.heap H locs → lv_has ls (mL M) L →
    W p (gl G) e (mR M) s m args below meth c H locs c1 s1 (MQ below (Qcm G (mI M) o μ') args s mc ms (fun q => gb G ≤ q)) (F0 m pc ls S)
theorem Ev.of {G : Gx} {y : MethodName} {M : Mx} {av : List Value} {μ : Mu} {o : Option Value} {μ' : Mu} {mc ms : Nat} (hy : plainName y.cls = true) (ho : y.cls = mO M) (hn : y.name = mN M) (hl : (lg_sl av).length ≤ mL M)
    (h : V G M o μ' mc ms 0 (lv_args 0 av) [] μ 0 0) : Ev G y M av μ o μ' mc ms := by
  refine Met.ofW (cc := mC M) (maxL := mL M) (ret := mT M) hy rfl ?_
  intro p e s m args below meth c s₁ B hml hv
  obtain ⟨rfl, hb0, hz, hP, hK⟩ := hv
  have hts := atoms_spec (ws := .code y (mC M) (mL M) (mT M) :: tG) B.pre
  have hls := lv_entry av (n := mL M) hl
  rw [lg_entry_eq]
  exact h p e s m _ below meth c s.heap [] _ ⟨B.exec, B.bytes, hml, B.returns, B.notSynchronized, by rw [← ho]; exact findClass_of_methodNamed B.named, fun w hw => hts w (List.mem_cons_of_mem _ hw), hK, hb0, by rw [← hn]; exact (name_of_methodNamed B.named B.method).1⟩ hP hz va_S.rf hls
/-- what is known of a class -/
def ClsOk (ci : Nat) (C : String) (T : u_T) (ty : Nat → FieldType) : Prop := vwCl[ci]? = some (C, T, nf ci) ∧ (∀ w ∈ u_ws C T (nf ci), w ∈ tG) ∧ (∀ k, k < nf ci → parseFieldDescriptor (T k).2.2.1 = some (ty k)) ∧ ∀ a, a < nf ci → ∀ b, b < nf ci → a ≠ b → (T a).2.1 ≠ (T b).2.1
/-- a field named by a class's constant -/
def Fs (own : String) (idx ci j : Nat) (ty1 : FieldType) (fin : Bool) : Prop := ∃ (C : String) (T : u_T) (ty : Nat → FieldType), ClsOk ci C T ty ∧ j < nf ci ∧ Cond.fieldLink own idx (T j).1 (T j).2.1 (T j).2.2.1 ∈ tG ∧ ty j = ty1 ∧ (T j).2.2.2 = fin ∧ (T j).1 = C
/-- what a call of y asks of the tables -/
def Yk (y : MethodName) (M : Mx) (n : Nat) : Prop := Cond.code y (mC M) (mL M) (mT M) ∈ tG ∧ Cond.initialized y.cls ∈ tG ∧ (y.cls ≠ "java/lang/invoke/MethodHandle" ∧ y.cls ≠ "java/lang/invoke/VarHandle") ∧ (parseMethodDescriptor y.desc).map (fun d => d.parameters.length) = some n
def inb (i : Int32) (n : Nat) : Bool := !(decide (i < 0) || decide (n ≤ i.toNatClampNeg))
theorem inb_in {i : Int32} {n : Nat} (h : inb i n = true) : vp_in i n := by
  unfold inb at h
  unfold vp_in
  simp only [Bool.not_eq_true', Bool.or_eq_false_iff, decide_eq_false_iff_not] at h
  exact fun q => q.elim h.1 h.2
abbrev ix (i : Int32) : Nat := i.toNatClampNeg
theorem guard_some {α : Type} {c : Bool} {x : Option α} {r : α} (h : (if c = true then x else none) = some r) : c = true ∧ x = some r := by
  cases c with
  | true => exact ⟨rfl, h⟩
  | false => cases h
theorem bind_some {α β : Type} {x : Option α} {f : α → Option β} {r : β} (h : x.bind f = some r) : ∃ a, x = some a ∧ f a = some r := by
  cases x with
  | none => cases h
  | some a => exact ⟨a, rfl, h⟩
