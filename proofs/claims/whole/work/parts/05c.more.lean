section VD
variable {G : Gx} {M M2 : Mx} {o o2 : Option Value} {μ μ2 μ' : Mu} {mc ms c1 s1 mc2 ms2 pc n idx : Nat} {L L2 : List (Nat × Value)} {S S0 As : List Value} {x y : MethodName}
theorem v_sub (ks : List Nat) (hk : lv_pick L ks = L2) (k : V G M o μ' mc ms pc L2 S μ c1 s1) : V G M o μ' mc ms pc L S μ c1 s1 :=
  fun p e s m args below meth c H locs ls C hP hz hS hl => k p e s m args below meth c H locs ls C hP hz hS (lv_sub hl ks hk)
theorem v_callU {k ci m0 : Nat} {b0 : ByteArray} {r0 : Option FieldType} {Cn : String} {T : u_T} {ty : Nat → FieldType} (hd : decode (mC M) pc = .ok (.invokevirtual idx, 3)) (hlk : Cond.methodLink (mO M) idx x ∈ tG) (hsm : Cond.sameMethod x.cls x.cls x.name x.desc ∈ tG) (hix : Cond.instanceMethod x ∈ tG) (hcx : Cond.code x b0 m0 r0 ∈ tG) (hse : Cond.selects Cn x y ∈ tG) (hiy : Cond.instanceMethod y ∈ tG) (hy : Yk y M2 n) (hxy : x.desc = y.desc) (hxn : x.cls ≠ "java/lang/invoke/MethodHandle" ∧ x.cls ≠ "java/lang/invoke/VarHandle") (hkk : k < μ.1) (hs : (shp k).1 = ci) (hci : ci < 20) (hcl : ClsOk ci Cn T ty) (hn : As.length = n) (hR : Rok M M2 mc2 ms2) (hf : mI M = mI M2) (hS0 : S0 = As.reverse ++ .ref (gb G + k) :: S) (hW : (S.map fun v => v.category).sum ≤ 8) (hcs : c1 + mc2 ≤ (mR M).cells ∧ s1 + ms2 ≤ (mR M).slots) (E : Ev G y M2 (.ref (gb G + k) :: As) μ o2 μ2 mc2 ms2)
    (kk : V G M o μ' mc ms (pc + 3) L (o2.toList ++ S) μ2 (c1 + mc2) (s1 + ms2)) : V G M o μ' mc ms pc L S0 μ c1 s1 := by
  intro p e s m args below meth c H locs ls C hP hz hS hl
  have hts := C.2.2.2.2.2.2.1
  refine v_back (M2 := M2) C (fun h => hf ▸ h) hS hl (va_runU (x := x) (owner := x.cls) (bytes := mC M2) (maxL := mL M2) (ret := mT M2) (n := n) (As := As) (rest := S) (Ts := tG) (C := Cn) ⟨C.1, C.2.1, C.2.2.1, C.2.2.2.2.2.1, hts⟩ E ?_ ⟨Pcm.blind G _ _ μ, va_recv C.2.2.2.2.2.2.2.1.1 hP hcl.1 (q0 := k) (by rw [wd_at hkk, ent_obj hs hci]), v_pre C (fun h => hf ▸ h) hP hz hS _⟩ rfl hn hl.1 hS0 (lv_room hW) hd hcs) kk
  refine ⟨⟨hR.1, hR.2.1, hR.2.2.1, hR.2.2.2, pay_in hts (tG_good hy.1), List.mem_cons_self⟩, hts _ hy.1, hts _ hy.2.1, hxn, fun sig h => ?_, hts _ hlk, hts _ hsm, va_Decl.of (hts _ hix) (hts _ hcx), hts _ hse, hts _ hiy⟩
  have h2 := hy.2.2.2
  rw [← hxy, h] at h2
  exact (Option.some.inj h2).symm
theorem v_callSU {k ci : Nat} {Cn : String} {T : u_T} {ty : Nat → FieldType} (hd : decode (mC M) pc = .ok (.invokespecial idx, 3)) (hlk : Cond.methodLink (mO M) idx y ∈ tG) (hsm : Cond.sameMethod y.cls y.cls y.name y.desc ∈ tG) (hsu : Cond.superclass (mO M) y.cls ∈ tG) (hiy : Cond.instanceMethod y ∈ tG) (hno : y.name ≠ "<init>") (hy : Yk y M2 n) (hkk : k < μ.1) (hs : (shp k).1 = ci) (hci : ci < 20) (hcl : ClsOk ci Cn T ty) (hn : As.length = n) (hR : Rok M M2 mc2 ms2) (hf : mI M = mI M2) (hS0 : S0 = As.reverse ++ .ref (gb G + k) :: S) (hW : (S.map fun v => v.category).sum ≤ 8) (hcs : c1 + mc2 ≤ (mR M).cells ∧ s1 + ms2 ≤ (mR M).slots) (E : Ev G y M2 (.ref (gb G + k) :: As) μ o2 μ2 mc2 ms2)
    (kk : V G M o μ' mc ms (pc + 3) L (o2.toList ++ S) μ2 (c1 + mc2) (s1 + ms2)) : V G M o μ' mc ms pc L S0 μ c1 s1 := by
  intro p e s m args below meth c H locs ls C hP hz hS hl
  have hts := C.2.2.2.2.2.2.1
  refine v_back (M2 := M2) C (fun h => hf ▸ h) hS hl (va_runSU (bytes := mC M2) (maxL := mL M2) (ret := mT M2) (n := n) (As := As) (rest := S) (Ts := tG) (C := Cn) (C.2.2.2.2.2.2.2.1.1.1 ci _ hcl.1).2 ⟨C.1, C.2.1, C.2.2.1, C.2.2.2.2.2.1, hts⟩ E ?_ ⟨Pcm.blind G _ _ μ, va_recv C.2.2.2.2.2.2.2.1.1 hP hcl.1 (q0 := k) (by rw [wd_at hkk, ent_obj hs hci]), v_pre C (fun h => hf ▸ h) hP hz hS _⟩ rfl hn hl.1 hS0 (lv_room hW) hd hcs) kk
  refine ⟨⟨hR.1, hR.2.1, hR.2.2.1, hR.2.2.2, pay_in hts (tG_good hy.1), List.mem_cons_self⟩, hts _ hlk, hts _ hsm, hts _ hsu, hts _ hiy, hts _ hy.2.1, hts _ hy.1, hno, fun sig h => ?_⟩
  have h2 := hy.2.2.2
  rw [h] at h2
  exact (Option.some.inj h2).symm
theorem v_instY {k ci : Nat} {Cn nm : String} {T : u_T} {ty : Nat → FieldType} (hd : decode (mC M) pc = .ok (.instanceof idx, 3)) (hlk : Cond.classLink (mO M) idx nm ∈ tG) (hc : (Cn, nm) ∈ cyL) (hkk : k < μ.1) (hs : (shp k).1 = ci) (hci : ci < 20) (hcl : ClsOk ci Cn T ty) (kk : V G M o μ' mc ms (pc + 3) L (.int 1 :: S) μ c1 s1) : V G M o μ' mc ms pc L (.ref (gb G + k) :: S) μ c1 s1 := by
  intro p e s m args below meth c H locs ls C hP hz hS hl
  exact va_instY C.1 C.2.1 C.2.2.2.2.2.1 (C.2.2.2.2.2.2.1 _ hlk) (C.2.2.2.2.2.2.2.1.2.2.2.1 _ hc) (va_recv C.2.2.2.2.2.2.2.1.1 hP hcl.1 (q0 := k) (by rw [wd_at hkk, ent_obj hs hci])) hd (kk p e s m args below meth c H locs ls C hP hz hS hl)
theorem v_instS {k ci : Nat} {nm : String} {T : u_T} {ty : Nat → FieldType} (hd : decode (mC M) pc = .ok (.instanceof idx, 3)) (hlk : Cond.classLink (mO M) idx nm ∈ tG) (hkk : k < μ.1) (hs : (shp k).1 = ci) (hci : ci < 20) (hcl : ClsOk ci nm T ty) (kk : V G M o μ' mc ms (pc + 3) L (.int 1 :: S) μ c1 s1) : V G M o μ' mc ms pc L (.ref (gb G + k) :: S) μ c1 s1 := by
  intro p e s m args below meth c H locs ls C hP hz hS hl
  exact va_instS C.1 C.2.1 C.2.2.2.2.2.1 (C.2.2.2.2.2.2.1 _ hlk) (C.2.2.2.2.2.2.2.1.1.1 ci _ hcl.1).2 (va_recv C.2.2.2.2.2.2.2.1.1 hP hcl.1 (q0 := k) (by rw [wd_at hkk, ent_obj hs hci])) hd (kk p e s m args below meth c H locs ls C hP hz hS hl)
theorem v_instN {k ci : Nat} {Cn nm : String} {T : u_T} {ty : Nat → FieldType} (hd : decode (mC M) pc = .ok (.instanceof idx, 3)) (hlk : Cond.classLink (mO M) idx nm ∈ tG) (hc : (Cn, nm) ∈ ncL) (hkk : k < μ.1) (hs : (shp k).1 = ci) (hci : ci < 20) (hcl : ClsOk ci Cn T ty) (kk : V G M o μ' mc ms (pc + 3) L (.int 0 :: S) μ c1 s1) : V G M o μ' mc ms pc L (.ref (gb G + k) :: S) μ c1 s1 := by
  intro p e s m args below meth c H locs ls C hP hz hS hl
  exact va_instNo C.1 C.2.1 C.2.2.2.2.2.1 (C.2.2.2.2.2.2.1 _ hlk) (C.2.2.2.2.2.2.2.1.2.2.2.2 _ hc) (va_recv C.2.2.2.2.2.2.2.1.1 hP hcl.1 (q0 := k) (by rw [wd_at hkk, ent_obj hs hci])) hd (kk p e s m args below meth c H locs ls C hP hz hS hl)
theorem v_tableAt {dflt lo hi : Int} {offs : Array Int} {len : Nat} {x v : Int32} {off : Int} {tgt : Nat} (hd : decode (mC M) pc = .ok (.tableswitch dflt lo hi offs, len)) (hx : x = v) (h1 : ¬ v.toInt < lo) (h2 : ¬ hi < v.toInt) (ho : offs[(v.toInt - lo).toNat]? = some off) (ht : (pc : Int) + off = (tgt : Int)) (k : V G M o μ' mc ms tgt L S μ c1 s1) : V G M o μ' mc ms pc L (.int x :: S) μ c1 s1 := by
  subst hx
  exact v_tableIn hd h1 h2 ho ht k
theorem v_lookAt {dflt : Int} {ps : Array (Int × Int)} {len : Nat} {x v : Int32} {off : Int} {tgt : Nat} (hd : decode (mC M) pc = .ok (.lookupswitch dflt ps, len)) (hx : x = v) (hp : (ps.toList.zip (ps.toList.drop 1)).all (fun (a, next) => a.1 < next.1) = true) (ho : Op.lookupswitch.offset ps.toList dflt v.toInt = off) (ht : (pc : Int) + off = (tgt : Int)) (k : V G M o μ' mc ms tgt L S μ c1 s1) : V G M o μ' mc ms pc L (.int x :: S) μ c1 s1 := by
  subst hx
  exact v_lookup hd hp ho ht k
end VD
theorem ite_t {α : Type} {c : Prop} {i : Decidable c} {a b r : α} (hc : c) (h : (@ite α c i a b) = r) : a = r := by rw [if_pos hc] at h; exact h
theorem ite_f {α : Type} {c : Prop} {i : Decidable c} {a b r : α} (hc : ¬ c) (h : (@ite α c i a b) = r) : b = r := by rw [if_neg hc] at h; exact h
theorem i_ne {x : Int32} {v : Int32} {z : Int} (hz : v.toInt = z) (h : ¬ x = v) : ¬ x.toInt = z := fun q => h (Int32.toInt_inj.mp (q.trans hz.symm))
def isb (x : Int32) : Bool := x == 0 || x == 1
theorem isb_or {x : Int32} (h : isb x = true) : x = 0 ∨ x = 1 := by
  unfold isb at h
  rcases Bool.or_eq_true_iff.mp h with q | q
  · exact Or.inl (eq_of_beq q)
  · exact Or.inr (eq_of_beq q)
def nz (x : Int32) : Bool := !(x == 0)
theorem nz_ne {x : Int32} (h : nz x = true) : ¬ x = 0 := by
  intro q
  subst q
  exact absurd h (by decide)
def nzl (x : Int64) : Bool := !(x == 0)
theorem nzl_ne {x : Int64} (h : nzl x = true) : ¬ x = 0 := by
  intro q
  subst q
  exact absurd h (by decide)
/-- an arraycopy is within both arrays -/
def cin (sp dp n : Int32) (na nb : Nat) : Bool := decide (¬ sp < 0) && decide (¬ dp < 0) && decide (¬ n < 0) && decide (ix sp + ix n ≤ na) && decide (ix dp + ix n ≤ nb)
theorem cin_of {sp dp n : Int32} {na nb : Nat} (h : cin sp dp n na nb = true) : ¬ sp < 0 ∧ ¬ dp < 0 ∧ ¬ n < 0 ∧ ix sp + ix n ≤ na ∧ ix dp + ix n ≤ nb := by
  unfold cin at h
  simp only [Bool.and_eq_true, decide_eq_true_eq] at h
  exact ⟨h.1.1.1.1, h.1.1.1.2, h.1.1.2, h.1.2, h.2⟩
/-! which cells are houses, rows, persons -/
def hsL : List Nat := [4, 10, 188, 194] ++ (List.range 24).map (fun i => 20 + 6 * i)
def isH (h : Nat) : Prop := h ∈ hsL
def rwL : List Nat := (List.range 8).map (fun i => 172 + 2 * i)
def isR (r : Nat) : Prop := r ∈ rwL
def isP (p : Nat) : Prop := p ∈ [165, 166, 167, 168, 169]
theorem isH_s {h : Nat} (hh : isH h) : ((shp h).1 = 4 ∧ shp (h + 1) = (20, 6) ∧ shp (h + 2) = (20, 6) ∧ shp (h + 3) = (20, 6) ∧ shp (h + 4) = (20, 6) ∧ shp (h + 5) = (20, 6)) ∧ h < 213 ∧ h + 1 < 213 ∧ h + 2 < 213 ∧ h + 3 < 213 ∧ h + 4 < 213 ∧ h + 5 < 213 := by
  have k : ∀ h ∈ hsL, ((shp h).1 = 4 ∧ shp (h + 1) = (20, 6) ∧ shp (h + 2) = (20, 6) ∧ shp (h + 3) = (20, 6) ∧ shp (h + 4) = (20, 6) ∧ shp (h + 5) = (20, 6)) ∧ h < 213 ∧ h + 1 < 213 ∧ h + 2 < 213 ∧ h + 3 < 213 ∧ h + 4 < 213 ∧ h + 5 < 213 := by decide +kernel
  exact k h hh
theorem isH_r {h : Nat} (hh : isH h) : (rfs h 0 = some (h + 1) ∧ rfs h 1 = some (h + 2) ∧ rfs h 2 = some (h + 3) ∧ rfs h 3 = some (h + 4) ∧ rfs h 4 = some (h + 5)) ∧ rfs h 5 = none ∧ rfs h 6 = none ∧ rfs h 7 = none ∧ rfs h 8 = none ∧ rfs h 9 = none ∧ rfs h 10 = none ∧ rfs h 11 = none := by
  have k : ∀ h ∈ hsL, (rfs h 0 = some (h + 1) ∧ rfs h 1 = some (h + 2) ∧ rfs h 2 = some (h + 3) ∧ rfs h 3 = some (h + 4) ∧ rfs h 4 = some (h + 5)) ∧ rfs h 5 = none ∧ rfs h 6 = none ∧ rfs h 7 = none ∧ rfs h 8 = none ∧ rfs h 9 = none ∧ rfs h 10 = none ∧ rfs h 11 = none := by decide +kernel
  exact k h hh
theorem isR_s {r : Nat} (hr : isR r) : ((shp r).1 = 6 ∧ shp (r + 1) = (20, 40)) ∧ r < 213 ∧ r + 1 < 213 ∧ rfs r 0 = some (r + 1) ∧ rfs r 1 = none ∧ rfs r 2 = none := by
  have k : ∀ r ∈ rwL, ((shp r).1 = 6 ∧ shp (r + 1) = (20, 40)) ∧ r < 213 ∧ r + 1 < 213 ∧ rfs r 0 = some (r + 1) ∧ rfs r 1 = none ∧ rfs r 2 = none := by decide +kernel
  exact k r hr
theorem inb_lt {i : Int32} {n : Nat} (h : inb i n = true) : ix i < n := Nat.not_le.mp fun q => inb_in h (Or.inr q)
theorem isR_of {i : Int32} (h : inb i 8 = true) : isR (172 + 2 * ix i) := by
  have k : ∀ j, j < 8 → isR (172 + 2 * j) := by unfold isR; decide +kernel
  exact k _ (inb_lt h)
theorem isH_im {i : Int32} (h : inb i 2 = true) : isH (188 + 6 * ix i) := by
  have k : ∀ j, j < 2 → isH (188 + 6 * j) := by unfold isH; decide +kernel
  exact k _ (inb_lt h)
theorem isH_bf {i : Int32} (h : inb i 24 = true) : isH (20 + 6 * ix i) := by
  have k : ∀ j, j < 24 → isH (20 + 6 * j) := by unfold isH; decide +kernel
  exact k _ (inb_lt h)
theorem isP_of {i : Int32} (h : inb i 5 = true) : isP (165 + ix i) := by
  have k : ∀ j, j < 5 → isP (165 + j) := by unfold isP; decide +kernel
  exact k _ (inb_lt h)
theorem isH_4 : isH 4 := by unfold isH; decide +kernel
theorem isH_10 : isH 10 := by unfold isH; decide +kernel
abbrev Vm (G : Gx) (M : Mx) (o : Option Value) (σ' : Sg) (pc : Nat) (L : List (Nat × Value)) (S : List Value) (σ : Sg) : Prop := V G M o (full σ') 0 0 pc L S (full σ) 0 0
section VM
variable {G : Gx} {M M2 : Mx} {o : Option Value} {σ σ' : Sg} {pc idx : Nat} {L : List (Nat × Value)} {S : List Value}
theorem vm_getI {k ci j : Nat} {ty : FieldType} {fin : Bool} (hd : decode (mC M) pc = .ok (.getfield idx, 3)) (fs : Fs (mO M) idx ci j ty fin) (hk : k < 213) (hs : (shp k).1 = ci) (hc : ci < 20) (hr : rfs k j = none) (kk : Vm G M o σ' (pc + 3) L (.int (σ k j) :: S) σ) : Vm G M o σ' pc L (.ref (gb G + k) :: S) σ := v_get hd fs hk hs hc (fv_int hr) kk
theorem vm_getR {k ci j t : Nat} {ty : FieldType} {fin : Bool} (hd : decode (mC M) pc = .ok (.getfield idx, 3)) (fs : Fs (mO M) idx ci j ty fin) (hk : k < 213) (hs : (shp k).1 = ci) (hc : ci < 20) (hr : rfs k j = some t) (kk : Vm G M o σ' (pc + 3) L (.ref (gb G + t) :: S) σ) : Vm G M o σ' pc L (.ref (gb G + k) :: S) σ := v_get hd fs hk hs hc (fv_ref hr rfl) kk
theorem vm_put {k ci j : Nat} {x : Int32} (hd : decode (mC M) pc = .ok (.putfield idx, 3)) (fs : Fs (mO M) idx ci j .int false) (hk : k < 213) (hs : (shp k).1 = ci) (hc : ci < 20) (hr : rfs k j = none) (kk : Vm G M o σ' (pc + 3) L S (wr σ k j x)) : Vm G M o σ' pc L (.int x :: .ref (gb G + k) :: S) σ := v_put hd fs hk hs hc hr (vp_nar_int x) rfl kk
theorem vm_putZ {k ci j : Nat} {x : Int32} (hd : decode (mC M) pc = .ok (.putfield idx, 3)) (fs : Fs (mO M) idx ci j .boolean false) (hk : k < 213) (hs : (shp k).1 = ci) (hc : ci < 20) (hr : rfs k j = none) (hx : x = 0 ∨ x = 1) (kk : Vm G M o σ' (pc + 3) L S (wr σ k j x)) : Vm G M o σ' pc L (.int x :: .ref (gb G + k) :: S) σ := v_put hd fs hk hs hc hr (by rcases hx with rfl | rfl <;> rfl) (by rcases hx with rfl | rfl <;> rfl) kk
theorem vm_iald {k n : Nat} {i : Int32} (hd : decode (mC M) pc = .ok (.iaload, 1)) (hk : k < 213) (hs : shp k = (20, n)) (hi : inb i n = true) (kk : Vm G M o σ' (pc + 1) L (.int (σ k (ix i)) :: S) σ) : Vm G M o σ' pc L (.int i :: .ref (gb G + k) :: S) σ := v_iald hd hk hs (inb_in hi) kk
theorem vm_zald {k n : Nat} {i : Int32} (hd : decode (mC M) pc = .ok (.baload, 1)) (hk : k < 213) (hs : shp k = (21, n)) (hi : inb i n = true) (kk : Vm G M o σ' (pc + 1) L (.int (σ k (ix i)) :: S) σ) : Vm G M o σ' pc L (.int i :: .ref (gb G + k) :: S) σ := v_zald hd hk hs (inb_in hi) kk
theorem vm_iast {k n : Nat} {i x : Int32} (hd : decode (mC M) pc = .ok (.iastore, 1)) (hk : k < 213) (hs : shp k = (20, n)) (hi : inb i n = true) (kk : Vm G M o σ' (pc + 1) L S (wr σ k (ix i) x)) : Vm G M o σ' pc L (.int x :: .int i :: .ref (gb G + k) :: S) σ := v_iast hd hk hs (inb_in hi) kk
theorem vm_zast {k n : Nat} {i x : Int32} (hd : decode (mC M) pc = .ok (.bastore, 1)) (hk : k < 213) (hs : shp k = (21, n)) (hi : inb i n = true) (hx : x = 0 ∨ x = 1) (kk : Vm G M o σ' (pc + 1) L S (wr σ k (ix i) x)) : Vm G M o σ' pc L (.int x :: .int i :: .ref (gb G + k) :: S) σ := v_zast hd hk hs (inb_in hi) (by rcases hx with rfl | rfl <;> rfl) kk
theorem vm_aald {k n t r : Nat} {i : Int32} (ht : t = 22 ∨ t = 23 ∨ t = 24) (hd : decode (mC M) pc = .ok (.aaload, 1)) (hk : k < 213) (hs : shp k = (t, n)) (hi : inb i n = true) (hr : rfs k (ix i) = some r) (kk : Vm G M o σ' (pc + 1) L (.ref (gb G + r) :: S) σ) : Vm G M o σ' pc L (.int i :: .ref (gb G + k) :: S) σ := v_aald ht hd hk hs (inb_in hi) rfl hr kk
theorem vm_alen {k n : Nat} {v : Int32} (hd : decode (mC M) pc = .ok (.arraylength, 1)) (hk : k < 213) (hs : shp k = (20, n)) (hv : Int32.ofNat n = v) (kk : Vm G M o σ' (pc + 1) L (.int v :: S) σ) : Vm G M o σ' pc L (.ref (gb G + k) :: S) σ := v_alen hd hk hs hv kk
theorem vm_copy {a b na nb : Nat} {sp dp n : Int32} (hm : mI M = false) (hd : decode (mC M) pc = .ok (.invokestatic idx, 3)) (hlk : Cond.methodLink (mO M) idx arraycopyName ∈ tG) (hka : a < 213) (hkb : b < 213) (hsa : shp a = (20, na)) (hsb : shp b = (20, nb)) (hi : cin sp dp n na nb = true) (hfr : 1 ≤ (mR M).frames) (hlo : (S.map fun v => v.category).sum + (nativeFrameWords "java/lang/System" "arraycopy" 5 + 11) ≤ (mR M).locals)
    (kk : Vm G M o σ' (pc + 3) L S (cpy σ a (ix sp) b (ix dp) (ix n))) : Vm G M o σ' pc L (.int n :: .int dp :: .ref (gb G + b) :: .int sp :: .ref (gb G + a) :: S) σ :=
  v_copy hm hd hlk hka hkb hsa hsb (cin_of hi).1 (cin_of hi).2.1 (cin_of hi).2.2.1 (cin_of hi).2.2.2.1 (cin_of hi).2.2.2.2 hfr hlo kk
end VM
abbrev Evm (G : Gx) (y : MethodName) (M : Mx) (av : List Value) (σ : Sg) (o : Option Value) (σ' : Sg) : Prop := Ev G y M av (full σ) o (full σ') 0 0
