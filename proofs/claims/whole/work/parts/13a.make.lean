/-! cells that are made: a new cell is the next one, its ints are 0, its references are not yet set -/
def sf (fl : Nat → Nat → Bool) (k j : Nat) : Nat → Nat → Bool := fun a b => if a = k then (if b = j then true else fl a b) else fl a b
abbrev mnew (μ : Mu) : Mu := (μ.1 + 1, μ.2.1, μ.2.2)
abbrev mset (μ : Mu) (k j : Nat) : Mu := (μ.1, sf μ.2.1 k j, μ.2.2)
def Zr (μ : Mu) : Prop := ∀ k, μ.1 ≤ k → ∀ j, μ.2.1 k j = false ∧ μ.2.2 k j = 0
theorem Zr.new {μ : Mu} (h : Zr μ) : Zr (mnew μ) := fun k hk j => h k (Nat.le_of_succ_le hk) j
theorem sf_ne {fl : Nat → Nat → Bool} {k j a : Nat} (h : a ≠ k) : sf fl k j a = fl a := by
  funext b
  unfold sf
  rw [if_neg h]
theorem Zr.set {μ : Mu} (h : Zr μ) {k j : Nat} (hk : k < μ.1) : Zr (mset μ k j) := fun a ha b => by
  have hne : a ≠ k := fun q => Nat.lt_irrefl k (Nat.lt_of_lt_of_le hk (q ▸ ha))
  refine ⟨?_, (h a ha b).2⟩
  show sf μ.2.1 k j a b = false
  rw [sf_ne hne]
  exact (h a ha b).1
theorem Zr.put {μ : Mu} (h : Zr μ) {k j : Nat} {v : Int32} (hk : k < μ.1) : Zr (mput μ k j v) := fun a ha b => by
  have hne : a ≠ k := fun q => Nat.lt_irrefl k (Nat.lt_of_lt_of_le hk (q ▸ ha))
  refine ⟨(h a ha b).1, ?_⟩
  show wr μ.2.2 k j v a b = 0
  rw [wr_ne hne]
  exact (h a ha b).2
theorem wd_push {G : Gx} {μ : Mu} {e : va_E} {k : Nat} (hn : μ.1 = k) (he : ent G (mnew μ) k = e) : wd G μ ++ [(gb G + k, e)] = wd G (mnew μ) := by
  subst hn
  subst he
  show _ = (List.range (μ.1 + 1)).map (fun k => (gb G + k, ent G (mnew μ) k))
  rw [List.range_succ, List.map_append]
  rfl
section VM1
variable {G : Gx} {M M2 : Mx} {o : Option Value} {μ μ2 μ' : Mu} {mc ms c1 s1 mc2 ms2 pc n idx : Nat} {L : List (Nat × Value)} {S S0 As : List Value} {y : MethodName}
theorem v_new {k ci c2 s2 : Nat} {Cn : String} {T : u_T} {ty : Nat → FieldType} (hd : decode (mC M) pc = .ok (.new idx, 3)) (hlk : Cond.classLink (mO M) idx Cn ∈ tG) (hin : Cond.instantiable Cn (nf ci) ∈ tG) (hii : Cond.initialized Cn ∈ tG) (hcl : ClsOk ci Cn T ty) (hz0 : Zr μ) (hn : μ.1 = k) (hs : (shp k).1 = ci) (hci : ci < 20) (hdf : ∀ j, j < nf ci → defaultValue (ty j) = (if (rfs k j).isSome = true then Value.null else .int 0)) (hc : c1 + 1 = c2) (hs2 : s1 + nf ci = s2) (hcc : c2 ≤ (mR M).cells) (hss : s2 ≤ (mR M).slots)
    (kk : V G M o μ' mc ms (pc + 3) L (.ref (gb G + k) :: S) (mnew μ) c2 s2) (hmI : mI M = true) : V G M o μ' mc ms pc L S μ c1 s1 := by
  intro p e s m args below meth c H locs ls C hP hz hS hl
  subst hc
  subst hs2
  have hKn := C.2.2.2.2.2.2.2.1.1.1 ci _ hcl.1
  have hts := C.2.2.2.2.2.2.1
  have hsz : H.size = gb G + k := by rw [← hn]; exact hz hmI
  refine W.newcK C.1 C.2.1 C.2.2.2.2.2.1 (hts _ hlk) (hts _ hin) (hts _ hii) rfl hd hcc hss hKn.2.1 hsz fun H1 kC hkC e1 z1 o1 => ?_
  have hk : ∀ (q : Nat) (x : Nat × va_E), (wd G μ)[q]? = some x → H1[x.1]? = H[x.1]? := fun q x hx => o1 x.1 (hsz ▸ (hP q x hx).lt)
  have hP1 : va_P (gD G) vwCl (wd G (mnew μ)) H1 := by
    rw [← wd_push hn (ent_obj hs hci)]
    refine (hP.kept hk).app (fun q x hx => ?_)
    have hq : q < 1 := (List.getElem?_eq_some_iff.mp hx).1
    rw [show q = 0 by omega] at hx
    cases hx
    refine ⟨_, hcl.1, (u_born ty hts hcl.2.1 hKn hkC e1 hcl.2.2.1).to (fun j hj => ?_)⟩
    show defaultValue (ty j) = vp_V _ j
    rw [hdf j hj]
    unfold vp_V
    rw [List.getD_eq_getElem?_getD, List.getElem?_map, List.getElem?_range hj]
    show _ = fv (gb G) (mnew μ) k j
    have hzz := hz0 k (Nat.le_of_eq hn) j
    unfold fv
    cases hr : rfs k j with
    | none => exact congrArg Value.int hzz.2.symm
    | some t =>
      show Value.null = if μ.2.1 k j = true then _ else _
      rw [hzz.1]
      rfl
  exact kk p e s m args below meth c H1 locs ls C hP1 (fun _ => by rw [z1]; show gb G + k + 1 = gb G + (μ.1 + 1); omega) ⟨by rw [z1, ← hsz]; exact Nat.le_succ_of_le hS.1, fun q h1 h2 => (o1 q (by rw [← hsz]; exact Nat.lt_of_lt_of_le h1 hS.1)).trans (hS.2.1 q h1 h2), hS.2.2⟩ hl
theorem v_newI {k N c2 s2 t : Nat} {at0 : ArrayType} {x : Int32} {ty : FieldType} (hd : decode (mC M) pc = .ok (.newarray at0, 2)) (hty : newarray.typeOf at0 = ty) (hw : Cond.arrayClass ty ∈ tG) (ht : (tys G)[t]? = some (gA G t, ty)) (hdv : defaultValue ty = .int 0) (hra : ∀ (U : State) (cA : ClassId), va_RA U cA ty → U.vm.findClass ("[" ++ ty.toString) = some cA) (hz0 : Zr μ) (hn : μ.1 = k) (hs : shp k = (20 + t, N)) (ht2 : t < 2) (hx0 : ¬ x < 0) (hxN : ix x = N) (hby : N * componentBytes ty ≤ 536870912) (hc : c1 + 1 = c2) (hs2 : s1 + N = s2) (hcc : c2 ≤ (mR M).cells) (hss : s2 ≤ (mR M).slots)
    (kk : V G M o μ' mc ms (pc + 2) L (.ref (gb G + k) :: S) (mnew μ) c2 s2) (hmI : mI M = true) : V G M o μ' mc ms pc L (.int x :: S) μ c1 s1 := by
  intro p e s m args below meth c H locs ls C hP hz hS hl
  subst hc
  subst hs2
  subst hty
  have hts := C.2.2.2.2.2.2.1
  have hsz : H.size = gb G + k := by rw [← hn]; exact hz hmI
  refine va_newaK C.1 C.2.1 (hts _ hw) rfl hd rfl hx0 hxN hby hcc hss hsz fun H1 cA e1 z1 o1 hAr hNm => ?_
  have hk : ∀ (q : Nat) (x : Nat × va_E), (wd G μ)[q]? = some x → H1[x.1]? = H[x.1]? := fun q x hx => o1 x.1 (hsz ▸ (hP q x hx).lt)
  have hcA : cA = gA G t := Option.some.inj (hNm.symm.trans (hra s _ (C.2.2.2.2.2.2.2.1.1.2 t _ ht).2))
  have hP1 : va_P (gD G) vwCl (wd G (mnew μ)) H1 := by
    rw [← wd_push hn (ent_arr hs (by omega) (by omega))]
    refine (hP.kept hk).app (fun q x hx => ?_)
    have hq : q < 1 := (List.getElem?_eq_some_iff.mp hx).1
    rw [show q = 0 by omega] at hx
    cases hx
    show H1[gb G + k]? = some (vp_cell (gA G (20 + t - 20)) _)
    rw [vp_cell_i, e1, hcA, hdv, show 20 + t - 20 = t by omega]
    congr 2
    funext j
    exact congrArg Value.int (hz0 k (Nat.le_of_eq hn) j).2.symm
  exact kk p e s m args below meth c H1 locs ls C hP1 (fun _ => by rw [z1]; show gb G + k + 1 = gb G + (μ.1 + 1); omega) ⟨by rw [z1, ← hsz]; exact Nat.le_succ_of_le hS.1, fun q h1 h2 => (o1 q (by rw [← hsz]; exact Nat.lt_of_lt_of_le h1 hS.1)).trans (hS.2.1 q h1 h2), hS.2.2⟩ hl
theorem v_newQ {k N c2 s2 t : Nat} {x : Int32} {Cn : String} (hd : decode (mC M) pc = .ok (.anewarray idx, 3)) (hlk : Cond.classLink (mO M) idx Cn ∈ tG) (hao : Cn ∈ aoL) (ht : (tys G)[t]? = some (gA G t, .object Cn)) (hz0 : Zr μ) (hn : μ.1 = k) (hs : shp k = (20 + t, N)) (ht2 : 2 ≤ t) (hx0 : ¬ x < 0) (hxN : ix x = N) (hby : N * 4 ≤ 536870912) (hc : c1 + 1 = c2) (hs2 : s1 + N = s2) (hcc : c2 ≤ (mR M).cells) (hss : s2 ≤ (mR M).slots)
    (kk : V G M o μ' mc ms (pc + 3) L (.ref (gb G + k) :: S) (mnew μ) c2 s2) (hmI : mI M = true) : V G M o μ' mc ms pc L (.int x :: S) μ c1 s1 := by
  intro p e s m args below meth c H locs ls C hP hz hS hl
  subst hc
  subst hs2
  have hts := C.2.2.2.2.2.2.1
  have hsz : H.size = gb G + k := by rw [← hn]; exact hz hmI
  subst hxN
  refine W.anew C.1 C.2.1 C.2.2.2.2.2.1 (hts _ hlk) (va_AO.use (C.2.2.2.2.2.2.2.1.2.2.1 _ hao)) rfl hd rfl hx0 hby hcc hss fun cA kA comp f1 f2 f3 f4 => ?_
  generalize hH1 : H.push ({ cls := cA, slots := Array.replicate x.toNatClampNeg .null, vm := .none } : Cell) = H1
  have z1 : H1.size = H.size + 1 := by rw [← hH1, Array.size_push]
  have e1 : H1[H.size]? = some (arrV cA x.toNatClampNeg (fun _ => .null)) := by rw [← hH1, Array.getElem?_push_size, ← arrV_new]
  have o1 : ∀ q : Nat, q < H.size → H1[q]? = H[q]? := fun q hq => by rw [← hH1, Array.getElem?_push, if_neg (Nat.ne_of_lt hq)]
  have hk : ∀ (q : Nat) (x : Nat × va_E), (wd G μ)[q]? = some x → H1[x.1]? = H[x.1]? := fun q x hx => o1 x.1 ((hP q x hx).lt)
  obtain ⟨kA', comp', g1, g2, g3, g4⟩ := (C.2.2.2.2.2.2.2.1.1.2 t _ ht).2
  have hcA : cA = gA G t := Option.some.inj (f1.symm.trans g4)
  have hP1 : va_P (gD G) vwCl (wd G (mnew μ)) H1 := by
    rw [← wd_push hn (ent_ref hs (by omega) (by omega))]
    refine (hP.kept hk).app (fun q x hx => ?_)
    have hq : q < 1 := (List.getElem?_eq_some_iff.mp hx).1
    rw [show q = 0 by omega] at hx
    cases hx
    show H1[gb G + k]? = some (vp_cell (gA G (20 + t - 20)) _)
    rw [vp_cell_q, ← hsz, e1, hcA, show 20 + t - 20 = t by omega]
    congr 2
    funext j
    show Value.null = va_rf (if μ.2.1 k j = true then _ else _)
    rw [(hz0 k (Nat.le_of_eq hn) j).1]
    rfl
  have K := kk p e s m args below meth c H1 locs ls C hP1 (fun _ => by rw [z1, hsz]; show gb G + k + 1 = gb G + (μ.1 + 1); omega) ⟨by rw [z1]; exact Nat.le_succ_of_le hS.1, fun q h1 h2 => (o1 q (Nat.lt_of_lt_of_le h1 hS.1)).trans (hS.2.1 q h1 h2), hS.2.2⟩ hl
  rw [← hsz] at K
  exact K
theorem set_fr {b : Nat} {μ : Mu} {k j N t : Nat} (hr : rfs k j = some t) : ((List.range N).map (fv b μ k)).set j (.ref (b + t)) = (List.range N).map (fv b (mset μ k j) k) := by
  apply List.ext_getElem?
  intro i
  rw [List.getElem?_set]
  by_cases hi : i < N
  · rw [List.getElem?_map, List.getElem?_map, List.getElem?_range hi]
    by_cases hj : j = i
    · subst hj
      rw [if_pos rfl, if_pos (by simp; exact hi)]
      show _ = some (fv b (mset μ k j) k j)
      rw [fv_ref hr (by show sf μ.2.1 k j k j = true; unfold sf; rw [if_pos rfl, if_pos rfl])]
    · rw [if_neg hj]
      show some (fv b μ k i) = some (fv b (mset μ k j) k i)
      unfold fv
      cases rfs k i with
      | none => rfl
      | some t =>
        show some (if μ.2.1 k i = true then Value.ref (b + t) else .null) = some (if sf μ.2.1 k j k i = true then Value.ref (b + t) else .null)
        unfold sf
        rw [if_pos rfl, if_neg (fun q : i = j => hj q.symm)]
  · rw [List.getElem?_eq_none (by simp; omega), List.getElem?_eq_none (by simp; omega)]
    by_cases hj : j = i
    · rw [if_pos hj, if_neg (by simp; omega)]
    · rw [if_neg hj]
end VM1
section VM2
variable {p : Program} {l : Launch} {e : Env} {R : Room} {s : State} {m : MethodId} {args : Array Value} {below : List Frame} {meth : Method} {c : Code} {H : Heap} {locs : List Loc} {cells slots : Nat} {Q : State → Prop}
variable {cc : ByteArray} {pc : Nat} {ls : Array Slot} {rest : List Value} {D : va_G} {cl : List vw_C} {A : Nat → Prop} {a : Nat} {tyl : List (ClassId × FieldType)} {ws : va_W} {H0 : Heap}
theorem vx_putF (hexec : p.tables.exec = Jvm.exec) (hb : c.code = cc) {own C : String} {T : u_T} {N ci index : Nat} {Ts : List Cond} (hts : ∀ w ∈ Ts, w.before args s = true) (hin : ∀ w ∈ u_ws C T N, w ∈ Ts) (ty0 : Nat → FieldType) (hty : ∀ k, k < N → parseFieldDescriptor (T k).2.2.1 = some (ty0 k)) (hnm : ∀ a, a < N → ∀ b, b < N → a ≠ b → (T a).2.1 ≠ (T b).2.1) (hown : s.vm.findClass own = some m.cls) (hK : va_K D cl tyl s) (hP : va_P D cl ws H) (hD : va_D A ws) (hS0 : va_S A H0 H locs) (q0 : Nat) {fs : List Value} (he : ws[q0]? = some (a, .inr (ci, fs))) (hc : cl[ci]? = some (C, T, N)) (k : Nat) (hk : k < N) (hlink : (Cond.fieldLink own index (T k).1 (T k).2.1 (T k).2.2.1).before args s = true) (hfin : (T k).2.2.2 = true) (hin2 : meth.name = "<init>") (hdecl : (T k).1 = own) {v : Value} (hn : narrow (ty0 k) v = v) (hfit : fits (ty0 k) v = true) (hl : k < fs.length)
    (hdg : decode cc pc = .ok (.putfield index, 3)) (kk : ∀ (H1 : Heap) (locs1 : List Loc), va_P D cl (ws.set q0 (a, .inr (ci, fs.set k v))) H1 → va_S A H0 H1 locs1 → H1.size = H.size → W p l e R s m args below meth c H1 locs1 cells slots Q (F0 m (pc + 3) ls rest)) : W p l e R s m args below meth c H locs cells slots Q (F0 m pc ls (v :: .ref a :: rest)) := by
  have hap := va_apart (own := own) hts hin ty0 hty hnm hK hc
  obtain ⟨r, h1, cell, q1, q2, q3, q4⟩ := hP q0 _ he
  have hr : r = (C, T, N) := Option.some.inj (h1.symm.trans hc)
  subst hr
  obtain ⟨hS, hfc, kC, hkC, hkind⟩ := hK.1 ci _ hc
  obtain ⟨cf, kf, fi, f, hi, hsl⟩ := hS k hk
  have hlay := hts _ (hin _ (u_in_lay hk))
  unfold u_lay at hlay
  rw [if_pos hfin] at hlay
  have hst := (u_facts hfc hkC (u_lays hts hin hk) hi).1
  have hcf : m.cls = cf := by
    obtain ⟨_, _, c', _, _, _, -, -, hf', -, -, -, hown2, -⟩ := Cond.laysFinal_spec hlay
    have e1 : c' = cf := by have := hi.symm.trans hf'; simp at this; exact this.1.symm
    rw [hdecl] at hown2
    rw [← e1]
    exact Option.some.inj (hown.symm.trans hown2)
  have h6 := u_fits hfc hkC hkind (Or.inr hlay) hi (hty k hk) hn hfit
  refine W.putFinK hexec hb hown hlink hi hst hcf hin2 (by rw [q2]; exact h6) q1 q3 (by rw [hsl]; exact k2_hasslot (q4 k hk)) rfl rfl hdg fun H' e1 e2 e3 => ?_
  rw [hsl] at e1 ⊢
  exact kk H' _ (hP.set hD he ⟨_, hc, t_OB.to (V := updV (vp_V fs) k v) ⟨_, e1, q2, q3, t_set q4 hap hk v⟩ (fun j _ => vp_updV_set hl v j)⟩ e3) (hS0.put e2 e3 (hD.2 q0 _ he)) e2
theorem vx_astq (hexec : p.tables.exec = Jvm.exec) (hb : c.code = cc) (hK : va_K D cl tyl s) (hP : va_P D cl ws H) (hD : va_D A ws) (hS : va_S A H0 H locs) (q0 t0 qk ci : Nat) {E : String} {cA : ClassId} {r : vw_C} {n v : Nat} {vs : List Value} {f : Nat → Option Nat} (ha : ws[q0]? = some (a, .inl (cA, n, .inr (.inr (.inr (.inr f)))))) (ht : tyl[t0]? = some (cA, .object E)) (hca : r.1 = E ∨ va_Nw (.castable r.1 E) s) (hv : ws[qk]? = some (v, .inr (ci, vs))) (hc : cl[ci]? = some r) {i : Int32} (hin : vp_in i n) (hdg : decode cc pc = .ok (.aastore, 1))
    (kk : ∀ (H1 : Heap) (locs1 : List Loc), va_P D cl (ws.set q0 (a, .inl (cA, n, .inr (.inr (.inr (.inr (va_up f i.toNatClampNeg (some v)))))))) H1 → va_S A H0 H1 locs1 → H1.size = H.size → W p l e R s m args below meth c H1 locs1 cells slots Q (F0 m (pc + 1) ls rest)) : W p l e R s m args below meth c H locs cells slots Q (F0 m pc ls (.ref v :: .int i :: .ref a :: rest)) := by
  have hlt : i.toNatClampNeg < n := Nat.not_le.mp fun q => hin (Or.inr q)
  have h0 : ¬ i < 0 := fun q => hin (Or.inl q)
  obtain ⟨r', hr', cellV, g1, g2, g3, -⟩ := hP qk _ hv
  have hcls := (hK.1 ci r hc).2
  obtain ⟨kA, comp, k1, k2, k3, -⟩ := (hK.2 t0 _ ht).2
  obtain ⟨kE, hkE, -⟩ := Vm.findClass_spec k3
  obtain ⟨kC, hkC, -⟩ := hcls.2
  have hasg : s.vm.assignable (D.1 ci) comp = true := by
    rcases hca with hq | hca
    · rw [← hq] at k3
      cases hcls.1.symm.trans k3
      exact va_assign hcls
    · obtain ⟨c0, t1, f1, f2, f3⟩ := Cond.castable_spec (va_Nw.use (A := args) rfl hca)
      cases hcls.1.symm.trans f1
      cases k3.symm.trans f2
      exact f3
  refine W.aast hexec hb (hP q0 _ ha) (fun q h => by cases h) (fun h => by cases h) k1 k2 rfl hkE ⟨h0, by show _ < (arrV _ _ _).slots.size; rw [arrV_size]; exact hlt⟩ g1 (fun q h => by rw [g3] at h; cases h) (by rw [g2]; exact hkC) (by rw [g2]; exact hasg) rfl rfl hdg fun H1 e z oq => ?_
  refine kk H1 _ (hP.set hD ha ?_ oq) (hS.put z oq (hD.2 q0 _ ha)) z
  show H1[a]? = some (vp_cell _ _)
  rw [e]
  rw [vp_cell_q, vp_cell_q, arrV_store]
  congr 2
  funext q
  by_cases hq : q = i.toNatClampNeg
  · subst hq
    simp [updV, va_up, va_rf]
  · simp [updV, va_up, hq]
end VM2
section VM3
variable {G : Gx} {M M2 : Mx} {o o2 : Option Value} {μ μ2 μ' : Mu} {mc ms c1 s1 mc2 ms2 pc n idx : Nat} {L : List (Nat × Value)} {S S0 As : List Value} {y : MethodName}
theorem v_putR {k ci j t : Nat} {ty : FieldType} (hd : decode (mC M) pc = .ok (.putfield idx, 3)) (fs : Fs (mO M) idx ci j ty true) (hk : k < μ.1) (hs : (shp k).1 = ci) (hc : ci < 20) (hr : rfs k j = some t) (hcn : ∀ (C : String) (T : u_T), vwCl[ci]? = some (C, T, nf ci) → C = mO M) (hnm0 : mN M = "<init>") (hn : ∀ x, narrow ty (.ref x) = .ref x) (hf : ∀ x, fits ty (.ref x) = true) (kk : V G M o μ' mc ms (pc + 3) L S (mset μ k j) c1 s1) : V G M o μ' mc ms pc L (.ref (gb G + t) :: .ref (gb G + k) :: S) μ c1 s1 := by
  intro p e s m args below meth c H locs ls C hP hz hS hl
  obtain ⟨Cn, T, tyf, ⟨hcl, hin, hty, hnm⟩, hj, hw, ht, hfin, hCn⟩ := fs
  refine vx_putF C.1 C.2.1 (Ts := tG) C.2.2.2.2.2.2.1 hin tyf hty hnm C.2.2.2.2.2.1 C.2.2.2.2.2.2.2.1.1 hP (wd_D G μ) hS k (by rw [wd_at hk, ent_obj hs hc]) hcl j hj (C.2.2.2.2.2.2.1 _ hw) hfin (C.2.2.2.2.2.2.2.2.2.trans hnm0) (hCn.trans (hcn _ _ hcl)) (by rw [ht]; exact hn _) (by rw [ht]; exact hf _) (by simp; exact hj) hd (fun H1 locs1 hP1 hS1 hz1 => ?_)
  rw [set_fr hr, wd_set (G := G) (μ := μ) (μ' := mset μ k j) (k := k) rfl (ent_obj hs hc) (fun a ha => ent_cong (sf_ne ha) rfl)] at hP1
  exact kk p e s m args below meth c H1 locs1 ls C hP1 (fun h => by rw [hz1]; exact hz h) hS1 hl
theorem v_astR {k n t tt ci : Nat} {i : Int32} {Cn E : String} {T : u_T} {ty : Nat → FieldType} (ht : t = 22 ∨ t = 23 ∨ t = 24) (hE : (tys G)[t - 20]? = some (gA G (t - 20), .object E)) (hd : decode (mC M) pc = .ok (.aastore, 1)) (hk : k < μ.1) (hs : shp k = (t, n)) (hi : vp_in i n) (hr : rfs k (ix i) = some tt) (hkt : tt < μ.1) (hst : (shp tt).1 = ci) (hci : ci < 20) (hcl : ClsOk ci Cn T ty) (hca : Cn = E ∨ (Cn, E) ∈ cyL) (kk : V G M o μ' mc ms (pc + 1) L S (mset μ k (ix i)) c1 s1) : V G M o μ' mc ms pc L (.ref (gb G + tt) :: .int i :: .ref (gb G + k) :: S) μ c1 s1 := by
  intro p e s m args below meth c H locs ls C hP hz hS hl
  have h20 : ¬ t < 20 := by omega
  have h22 : ¬ t < 22 := by omega
  refine vx_astq C.1 C.2.1 C.2.2.2.2.2.2.2.1.1 hP (wd_D G μ) hS k (t - 20) tt ci (r := (Cn, T, nf ci)) (by rw [wd_at hk, ent_ref hs h20 h22]) hE (hca.imp id (fun h => C.2.2.2.2.2.2.2.1.2.2.2.1 _ h)) (by rw [wd_at hkt, ent_obj hst hci]) hcl.1 hi hd (fun H1 locs1 hP1 hS1 hz1 => ?_)
  rw [wd_set (G := G) (μ := μ) (μ' := mset μ k (ix i)) (k := k) rfl ?_ (fun a ha => ent_cong (sf_ne ha) rfl)] at hP1
  · exact kk p e s m args below meth c H1 locs1 ls C hP1 (fun h => by rw [hz1]; exact hz h) hS1 hl
  · rw [ent_ref hs h20 h22]
    congr 7
    funext q
    show (if sf μ.2.1 k (ix i) k q = true then (rfs k q).map (fun t => gb G + t) else none) = va_up _ i.toNatClampNeg (some (gb G + tt)) q
    unfold sf va_up
    by_cases hq : q = ix i
    · subst hq
      rw [if_pos rfl, if_pos rfl, if_pos rfl, if_pos rfl, hr]
      rfl
    · rw [if_pos rfl, if_neg hq, if_neg hq]
theorem v_objI {k : Nat} (hd : decode (mC M) pc = .ok (.invokespecial idx, 3)) (hlk : Cond.methodLink (mO M) idx objectInit ∈ tG) (hi : Cond.instanceMethod objectInit ∈ tG) (hco : Cond.code objectInit ⟨#[0xb1]⟩ 1 none ∈ tG) (hfr : 1 ≤ (mR M).frames) (hlo : (S.map fun v => v.category).sum + 12 ≤ (mR M).locals) (kk : V G M o μ' mc ms (pc + 3) L S μ c1 s1) : V G M o μ' mc ms pc L (.ref k :: S) μ c1 s1 := by
  intro p e s m args below meth c H locs ls C hP hz hS hl
  have hts := C.2.2.2.2.2.2.1
  exact W.objInit C.1 C.2.1 C.2.2.2.2.2.1 (hts _ hlk) (hts _ hi) (hts _ hco) rfl (by rw [C.2.2.1]; exact hl.1) rfl hd hfr (by show 2 * 0 + _ + 12 ≤ _; rw [Nat.mul_zero, Nat.zero_add]; exact hlo) (kk p e s m args below meth c H locs ls C hP hz hS hl)
theorem v_callI {k : Nat} (hd : decode (mC M) pc = .ok (.invokespecial idx, 3)) (hlk : Cond.methodLink (mO M) idx y ∈ tG) (hin : Cond.instanceMethod y ∈ tG) (hyn : y.name = "<init>") (hr : mT M2 = none) (hy : Yk y M2 0) (hR : Rok M M2 mc2 ms2) (hf : mI M = mI M2) (hW : (S.map fun v => v.category).sum ≤ 8) (hcs : c1 + mc2 ≤ (mR M).cells ∧ s1 + ms2 ≤ (mR M).slots) (E : Ev G y M2 [.ref k] μ none μ2 mc2 ms2)
    (kk : V G M o μ' mc ms (pc + 3) L S μ2 (c1 + mc2) (s1 + ms2)) : V G M o μ' mc ms pc L (.ref k :: S) μ c1 s1 := by
  intro p e s m args below meth c H locs ls C hP hz hS hl
  have cb := v_callB C hR hy hlk
  rw [hr] at cb
  exact v_back (M2 := M2) (o2 := none) C (fun h => hf ▸ h) hS hl (va_runI (As := []) (rest := S) (Ts := tG) ⟨C.1, C.2.1, C.2.2.1, C.2.2.2.2.2.1, C.2.2.2.2.2.2.1⟩ (by unfold Ev at E; rw [hr] at E; exact E) ⟨cb, hyn, C.2.2.2.2.2.2.1 _ hin⟩ ⟨Pcm.blind G _ _ μ, v_pre C (fun h => hf ▸ h) hP hz hS _⟩ rfl rfl hl.1 rfl (lv_room hW) hd hcs) kk
theorem v_callIN {k : Nat} (hd : decode (mC M) pc = .ok (.invokespecial idx, 3)) (hlk : (mO M, idx, y) ∈ nestL) (hin : Cond.instanceMethod y ∈ tG) (hyn : y.name = "<init>") (hr : mT M2 = none) (hy : Yk y M2 0) (hR : Rok M M2 mc2 ms2) (hf : mI M = mI M2) (hW : (S.map fun v => v.category).sum ≤ 8) (hcs : c1 + mc2 ≤ (mR M).cells ∧ s1 + ms2 ≤ (mR M).slots) (E : Ev G y M2 [.ref k] μ none μ2 mc2 ms2)
    (kk : V G M o μ' mc ms (pc + 3) L S μ2 (c1 + mc2) (s1 + ms2)) : V G M o μ' mc ms pc L (.ref k :: S) μ c1 s1 := by
  intro p e s m args below meth c H locs ls C hP hz hS hl
  have hts := C.2.2.2.2.2.2.1
  have cb := va_cnB (args := args) (R := mR M) (own := mO M) (host := "LiftEnvy") (index := idx) (maxL := mL M2) (mc := mc2) (ms := ms2) (y := y) (bytes := mC M2) (ret := mT M2) 0 hts (tG_good hy.1) rfl hR.1 hR.2.1 (C.2.2.2.2.2.2.2.1.2.1 _ hlk) (hts _ hy.2.1) ⟨hy.2.2.1.1, hy.2.2.1.2, hy.2.2.2⟩ ⟨hR.2.2.1, hR.2.2.2⟩
  rw [hr] at cb
  exact v_back (M2 := M2) (o2 := none) C (fun h => hf ▸ h) hS hl (va_runIN (As := []) (rest := S) (Ts := tG) ⟨C.1, C.2.1, C.2.2.1, C.2.2.2.2.2.1, C.2.2.2.2.2.2.1⟩ (by unfold Ev at E; rw [hr] at E; exact E) ⟨cb, hyn, C.2.2.2.2.2.2.1 _ hin⟩ ⟨Pcm.blind G _ _ μ, v_pre C (fun h => hf ▸ h) hP hz hS _⟩ rfl rfl hl.1 rfl (lv_room hW) hd hcs) kk
end VM3
