theorem ent_obj {G : Gx} {μ : Mu} {k ci : Nat} (h : (shp k).1 = ci) (hlt : ci < 20) : ent G μ k = .inr (ci, (List.range (nf ci)).map (fv (gb G) μ k)) := by
  unfold ent
  rw [h, if_pos hlt]
theorem ent_arr {G : Gx} {μ : Mu} {k t n : Nat} (h : shp k = (t, n)) (h1 : ¬ t < 20) (h2 : t < 22) : ent G μ k = .inl (gA G (t - 20), n, .inl (μ.2.2 k)) := by
  unfold ent
  rw [h, if_neg h1, if_pos h2]
theorem ent_ref {G : Gx} {μ : Mu} {k t n : Nat} (h : shp k = (t, n)) (h1 : ¬ t < 20) (h2 : ¬ t < 22) : ent G μ k = .inl (gA G (t - 20), n, .inr (.inr (.inr (.inr (fun i => if μ.2.1 k i = true then (rfs k i).map (fun t => gb G + t) else none))))) := by
  unfold ent
  rw [h, if_neg h1, if_neg h2]
theorem fv_cong {b : Nat} {μ μ2 : Mu} {a : Nat} (h1 : μ2.2.1 a = μ.2.1 a) (h2 : μ2.2.2 a = μ.2.2 a) : fv b μ2 a = fv b μ a := by
  funext j
  unfold fv
  rw [h1, h2]
theorem ent_cong {G : Gx} {μ μ2 : Mu} {a : Nat} (h1 : μ2.2.1 a = μ.2.1 a) (h2 : μ2.2.2 a = μ.2.2 a) : ent G μ2 a = ent G μ a := by
  unfold ent
  rw [h1, h2, fv_cong h1 h2]
theorem wr_ne {σ : Sg} {k j a : Nat} {v : Int32} (h : a ≠ k) : wr σ k j v a = σ a := by
  funext b
  unfold wr
  rw [if_neg h]
theorem wr_eq (σ : Sg) (k j : Nat) (v : Int32) : wr σ k j v k = upd (σ k) j v := by
  funext b
  unfold wr upd
  rw [if_pos rfl]
theorem fv_int {b : Nat} {μ : Mu} {k j : Nat} (h : rfs k j = none) : fv b μ k j = .int (μ.2.2 k j) := by
  unfold fv
  rw [h]
theorem fv_ref {b : Nat} {μ : Mu} {k j t : Nat} (h : rfs k j = some t) (hn : μ.2.1 k j = true) : fv b μ k j = .ref (b + t) := by
  unfold fv
  rw [h]
  exact if_pos hn
abbrev mput (μ : Mu) (k j : Nat) (v : Int32) : Mu := (μ.1, μ.2.1, wr μ.2.2 k j v)
section HP
variable {p : Program} {l : Launch} {e : Env} {R : Room} {s : State} {m : MethodId} {args : Array Value} {below : List Frame} {meth : Method} {c : Code} {H : Heap} {locs : List Loc} {cells slots : Nat} {Q : State → Prop}
variable {cc : ByteArray} {pc : Nat} {ls : Array Slot} {rest : List Value} {D : va_G} {cl : List vw_C} {A : Nat → Prop} {a : Nat} {tyl : List (ClassId × FieldType)} {ws : va_W} {H0 : Heap}
theorem vx_put (hexec : p.tables.exec = Jvm.exec) (hb : c.code = cc) {own ref C : String} {T : u_T} {N ci index : Nat} {Ts : List Cond} (hts : ∀ w ∈ Ts, w.before args s = true) (hin : ∀ w ∈ u_ws C T N, w ∈ Ts) (ty0 : Nat → FieldType) (hty : ∀ k, k < N → parseFieldDescriptor (T k).2.2.1 = some (ty0 k)) (hnm : ∀ a, a < N → ∀ b, b < N → a ≠ b → (T a).2.1 ≠ (T b).2.1) (hown : s.vm.findClass own = some m.cls) (hK : va_K D cl tyl s) (hP : va_P D cl ws H) (hD : va_D A ws) (hS0 : va_S A H0 H locs) (q0 : Nat) {fs : List Value} (he : ws[q0]? = some (a, .inr (ci, fs))) (hc : cl[ci]? = some (C, T, N)) (k : Nat) (hk : k < N) (hlink : (Cond.fieldLink own index ref (T k).2.1 (T k).2.2.1).before args s = true) (hsame : ∀ x, s.fieldFound? (T k).1 (T k).2.1 (T k).2.2.1 = some x → s.fieldFound? ref (T k).2.1 (T k).2.2.1 = some x) (hfin : (T k).2.2.2 = false) {ty : FieldType} {v : Value} (hd : parseFieldDescriptor (T k).2.2.1 = some ty) (hn : narrow ty v = v) (hfit : fits ty v = true) (hl : k < fs.length)
    (hdg : decode cc pc = .ok (.putfield index, 3)) (kk : ∀ (H1 : Heap) (locs1 : List Loc), va_P D cl (ws.set q0 (a, .inr (ci, fs.set k v))) H1 → va_S A H0 H1 locs1 → H1.size = H.size → W p l e R s m args below meth c H1 locs1 cells slots Q (F0 m (pc + 3) ls rest)) : W p l e R s m args below meth c H locs cells slots Q (F0 m pc ls (v :: .ref a :: rest)) := by
  have hap := va_apart (own := own) hts hin ty0 hty hnm hK hc
  obtain ⟨r, h1, cell, q1, q2, q3, q4⟩ := hP q0 _ he
  have hr : r = (C, T, N) := Option.some.inj (h1.symm.trans hc)
  subst hr
  obtain ⟨hS, hfc, kC, hkC, hkind⟩ := hK.1 ci _ hc
  obtain ⟨cf, kf, fi, f, hi, hsl⟩ := hS k hk
  have hlay := hts _ (hin _ (u_in_lay hk))
  unfold u_lay at hlay
  rw [if_neg (by rw [hfin]; decide)] at hlay
  have hst := (u_facts hfc hkC (u_lays hts hin hk) hi).1
  have h6 := u_store hfc hkC hkind hlay hi hd hn hfit
  refine W.putK hexec hb (f := f) ⟨hown, hlink, ⟨_, _, _, hsame _ hi⟩, hst⟩ (by rw [q2]; exact h6) q1 q3 (by rw [hsl]; exact k2_hasslot (q4 k hk)) rfl rfl hdg fun H' e1 e2 e3 => ?_
  rw [hsl] at e1 ⊢
  exact kk H' _ (hP.set hD he ⟨_, hc, t_OB.to (V := updV (vp_V fs) k v) ⟨_, e1, q2, q3, t_set q4 hap hk v⟩ (fun j _ => vp_updV_set hl v j)⟩ e3) (hS0.put e2 e3 (hD.2 q0 _ he)) e2
theorem vx_iast (hexec : p.tables.exec = Jvm.exec) (hb : c.code = cc) (hK : va_K D cl tyl s) (hP : va_P D cl ws H) (hD : va_D A ws) (hS : va_S A H0 H locs) (q0 t0 : Nat) {cA : ClassId} {n : Nat} {f : Nat → Int32} (ha : ws[q0]? = some (a, .inl (cA, n, .inl f))) (ht : tyl[t0]? = some (cA, .int)) {i : Int32} {x : Int32} (hin : vp_in i n) (hdg : decode cc pc = .ok (.iastore, 1))
    (kk : ∀ (H1 : Heap) (locs1 : List Loc), va_P D cl (ws.set q0 (a, .inl (cA, n, .inl (upd f i.toNatClampNeg x)))) H1 → va_S A H0 H1 locs1 → H1.size = H.size → W p l e R s m args below meth c H1 locs1 cells slots Q (F0 m (pc + 1) ls rest)) : W p l e R s m args below meth c H locs cells slots Q (F0 m pc ls (.int x :: .int i :: .ref a :: rest)) := by
  refine W.iast hexec hb (hP q0 _ ha) ((hK.2 t0 _ ht).1 n (fun j => .int (f j))) (fun q => by cases q) (by show ¬ (i < 0 ∨ (arrV _ _ _).slots.size ≤ _); rw [arrV_size]; exact hin) rfl rfl hdg fun H1 e z oq => ?_
  refine kk H1 _ (hP.set hD ha ?_ oq) (hS.put z oq (hD.2 q0 _ ha)) z
  show H1[a]? = some (vp_cell _ _)
  rw [e]
  rw [vp_cell_i, vp_cell_i, arrV_store]
  congr 2
  funext q
  by_cases hq : q = i.toNatClampNeg
  · subst hq
    simp [updV, upd]
  · simp [updV, upd, hq]
theorem vx_zast (hexec : p.tables.exec = Jvm.exec) (hb : c.code = cc) (hK : va_K D cl tyl s) (hP : va_P D cl ws H) (hD : va_D A ws) (hS : va_S A H0 H locs) (q0 t0 : Nat) {cA : ClassId} {n : Nat} {f : Nat → Int32} (ha : ws[q0]? = some (a, .inl (cA, n, .inl f))) (ht : tyl[t0]? = some (cA, .boolean)) {i : Int32} {x : Int32} (hin : vp_in i n) (hdg : decode cc pc = .ok (.bastore, 1))
    (kk : ∀ (H1 : Heap) (locs1 : List Loc), va_P D cl (ws.set q0 (a, .inl (cA, n, .inl (upd f i.toNatClampNeg (vp_nar .boolean x))))) H1 → va_S A H0 H1 locs1 → H1.size = H.size → W p l e R s m args below meth c H1 locs1 cells slots Q (F0 m (pc + 1) ls rest)) : W p l e R s m args below meth c H locs cells slots Q (F0 m pc ls (.int x :: .int i :: .ref a :: rest)) := by
  refine W.zast hexec hb (hP q0 _ ha) ((hK.2 t0 _ ht).1 n (fun j => .int (f j))) (fun q => by cases q) (by show ¬ (i < 0 ∨ (arrV _ _ _).slots.size ≤ _); rw [arrV_size]; exact hin) rfl rfl hdg fun H1 e z oq => ?_
  refine kk H1 _ (hP.set hD ha ?_ oq) (hS.put z oq (hD.2 q0 _ ha)) z
  show H1[a]? = some (vp_cell _ _)
  rw [e]
  rw [vp_cell_i, vp_cell_i, arrV_store]
  congr 2
  funext q
  by_cases hq : q = i.toNatClampNeg
  · subst hq
    simp [updV, upd, vp_nar]
    try rfl
  · simp [updV, upd, hq]
end HP
section VH
variable {G : Gx} {M : Mx} {o : Option Value} {μ μ' : Mu} {mc ms c1 s1 pc : Nat} {L : List (Nat × Value)} {S : List Value}
theorem v_get {k idx ci j : Nat} {ty : FieldType} {fin : Bool} {v : Value} (hd : decode (mC M) pc = .ok (.getfield idx, 3)) (fs : Fs (mO M) idx ci j ty fin) (hk : k < μ.1) (hs : (shp k).1 = ci) (hc : ci < 20) (hv : fv (gb G) μ k j = v) (kk : V G M o μ' mc ms (pc + 3) L (v :: S) μ c1 s1) : V G M o μ' mc ms pc L (.ref (gb G + k) :: S) μ c1 s1 := by
  intro p e s m args below meth c H locs ls C hP hz hS hl
  obtain ⟨Cn, T, tyf, ⟨hcl, hin, -, -⟩, hj, hw, -, -, -⟩ := fs
  exact va_get C.1 C.2.1 (Ts := tG) C.2.2.2.2.2.2.1 hin C.2.2.2.2.2.1 C.2.2.2.2.2.2.2.1.1 hP k (by rw [wd_at hk, ent_obj hs hc]) hcl j hj (C.2.2.2.2.2.2.1 _ hw) (fun x h => h) (by rw [List.getElem?_map, List.getElem?_range hj]; exact congrArg some hv) hd (kk p e s m args below meth c H locs ls C hP hz hS hl)
theorem set_fv {b : Nat} {μ : Mu} {k j N : Nat} {x : Int32} (hr : rfs k j = none) : ((List.range N).map (fv b μ k)).set j (.int x) = (List.range N).map (fv b (mput μ k j x) k) := by
  apply List.ext_getElem?
  intro i
  rw [List.getElem?_set]
  by_cases hi : i < N
  · rw [List.getElem?_map, List.getElem?_map, List.getElem?_range hi]
    by_cases hj : j = i
    · subst hj
      rw [if_pos rfl, if_pos (by simp; exact hi)]
      show _ = some (fv b (mput μ k j x) k j)
      rw [fv_int hr]
      show _ = some (Value.int (wr μ.2.2 k j x k j))
      rw [wr_eq]
      simp [upd]
    · rw [if_neg hj]
      show some (fv b μ k i) = some (fv b (mput μ k j x) k i)
      unfold fv
      cases rfs k i with
      | none =>
        show some (Value.int (μ.2.2 k i)) = some (Value.int (wr μ.2.2 k j x k i))
        rw [wr_eq]
        unfold upd
        rw [if_neg (fun q : i = j => hj q.symm)]
      | some t => rfl
  · rw [List.getElem?_eq_none (by simp; omega), List.getElem?_eq_none (by simp; omega)]
    by_cases hj : j = i
    · rw [if_pos hj, if_neg (by simp; omega)]
    · rw [if_neg hj]
theorem v_put {k idx ci j : Nat} {ty : FieldType} {x : Int32} (hd : decode (mC M) pc = .ok (.putfield idx, 3)) (fs : Fs (mO M) idx ci j ty false) (hk : k < μ.1) (hs : (shp k).1 = ci) (hc : ci < 20) (hr : rfs k j = none) (hn : narrow ty (.int x) = .int x) (hf : fits ty (.int x) = true) (kk : V G M o μ' mc ms (pc + 3) L S (mput μ k j x) c1 s1) : V G M o μ' mc ms pc L (.int x :: .ref (gb G + k) :: S) μ c1 s1 := by
  intro p e s m args below meth c H locs ls C hP hz hS hl
  obtain ⟨Cn, T, tyf, ⟨hcl, hin, hty, hnm⟩, hj, hw, ht, hfin, -⟩ := fs
  refine vx_put C.1 C.2.1 (Ts := tG) C.2.2.2.2.2.2.1 hin tyf hty hnm C.2.2.2.2.2.1 C.2.2.2.2.2.2.2.1.1 hP (wd_D G μ) hS k (by rw [wd_at hk, ent_obj hs hc]) hcl j hj (C.2.2.2.2.2.2.1 _ hw) (fun x h => h) hfin (hty j hj) (by rw [ht]; exact hn) (by rw [ht]; exact hf) (by simp; exact hj) hd (fun H1 locs1 hP1 hS1 hz1 => ?_)
  rw [set_fv hr, wd_set (G := G) (μ := μ) (μ' := mput μ k j x) (k := k) rfl (ent_obj hs hc) (fun a ha => ent_cong rfl (wr_ne ha))] at hP1
  exact kk p e s m args below meth c H1 locs1 ls C hP1 (fun h => by rw [hz1]; exact hz h) hS1 hl
theorem v_iald {k n : Nat} {i : Int32} (hd : decode (mC M) pc = .ok (.iaload, 1)) (hk : k < μ.1) (hs : shp k = (20, n)) (hi : vp_in i n) (kk : V G M o μ' mc ms (pc + 1) L (.int (μ.2.2 k (ix i)) :: S) μ c1 s1) : V G M o μ' mc ms pc L (.int i :: .ref (gb G + k) :: S) μ c1 s1 := by
  intro p e s m args below meth c H locs ls C hP hz hS hl
  exact va_iald C.1 C.2.1 C.2.2.2.2.2.2.2.1.1 hP k 0 (by rw [wd_at hk, ent_arr hs (by decide) (by decide)]) rfl hi hd (kk p e s m args below meth c H locs ls C hP hz hS hl)
theorem v_zald {k n : Nat} {i : Int32} (hd : decode (mC M) pc = .ok (.baload, 1)) (hk : k < μ.1) (hs : shp k = (21, n)) (hi : vp_in i n) (kk : V G M o μ' mc ms (pc + 1) L (.int (μ.2.2 k (ix i)) :: S) μ c1 s1) : V G M o μ' mc ms pc L (.int i :: .ref (gb G + k) :: S) μ c1 s1 := by
  intro p e s m args below meth c H locs ls C hP hz hS hl
  exact va_zald C.1 C.2.1 C.2.2.2.2.2.2.2.1.1 hP k 1 (by rw [wd_at hk, ent_arr hs (by decide) (by decide)]) rfl hi hd (kk p e s m args below meth c H locs ls C hP hz hS hl)
theorem v_iast {k n : Nat} {i x : Int32} (hd : decode (mC M) pc = .ok (.iastore, 1)) (hk : k < μ.1) (hs : shp k = (20, n)) (hi : vp_in i n) (kk : V G M o μ' mc ms (pc + 1) L S (mput μ k (ix i) x) c1 s1) : V G M o μ' mc ms pc L (.int x :: .int i :: .ref (gb G + k) :: S) μ c1 s1 := by
  intro p e s m args below meth c H locs ls C hP hz hS hl
  refine vx_iast C.1 C.2.1 C.2.2.2.2.2.2.2.1.1 hP (wd_D G μ) hS k 0 (by rw [wd_at hk, ent_arr hs (by decide) (by decide)]) rfl hi hd (fun H1 locs1 hP1 hS1 hz1 => ?_)
  rw [wd_set (G := G) (μ := μ) (μ' := mput μ k (ix i) x) (k := k) (e := Sum.inl (gA G 0, n, Sum.inl (upd (μ.2.2 k) (ix i) x))) rfl (by rw [ent_arr hs (by decide) (by decide), ← wr_eq]) (fun a ha => ent_cong rfl (wr_ne ha))] at hP1
  exact kk p e s m args below meth c H1 locs1 ls C hP1 (fun h => by rw [hz1]; exact hz h) hS1 hl
theorem v_zast {k n : Nat} {i x : Int32} (hd : decode (mC M) pc = .ok (.bastore, 1)) (hk : k < μ.1) (hs : shp k = (21, n)) (hi : vp_in i n) (hx : vp_nar .boolean x = x) (kk : V G M o μ' mc ms (pc + 1) L S (mput μ k (ix i) x) c1 s1) : V G M o μ' mc ms pc L (.int x :: .int i :: .ref (gb G + k) :: S) μ c1 s1 := by
  intro p e s m args below meth c H locs ls C hP hz hS hl
  refine vx_zast C.1 C.2.1 C.2.2.2.2.2.2.2.1.1 hP (wd_D G μ) hS k 1 (by rw [wd_at hk, ent_arr hs (by decide) (by decide)]) rfl hi hd (fun H1 locs1 hP1 hS1 hz1 => ?_)
  rw [hx, wd_set (G := G) (μ := μ) (μ' := mput μ k (ix i) x) (k := k) (e := Sum.inl (gA G 1, n, Sum.inl (upd (μ.2.2 k) (ix i) x))) rfl (by rw [ent_arr hs (by decide) (by decide), ← wr_eq]) (fun a ha => ent_cong rfl (wr_ne ha))] at hP1
  exact kk p e s m args below meth c H1 locs1 ls C hP1 (fun h => by rw [hz1]; exact hz h) hS1 hl
theorem v_alen {k n : Nat} {v : Int32} (hd : decode (mC M) pc = .ok (.arraylength, 1)) (hk : k < μ.1) (hs : shp k = (20, n)) (hv : Int32.ofNat n = v) (kk : V G M o μ' mc ms (pc + 1) L (.int v :: S) μ c1 s1) : V G M o μ' mc ms pc L (.ref (gb G + k) :: S) μ c1 s1 := by
  intro p e s m args below meth c H locs ls C hP hz hS hl
  exact va_alen C.1 C.2.1 C.2.2.2.2.2.2.2.1.1 hP k 0 (by rw [wd_at hk, ent_arr hs (by decide) (by decide)]) rfl hv hd (kk p e s m args below meth c H locs ls C hP hz hS hl)
theorem v_aald {k n t r : Nat} {i : Int32} (ht : t = 22 ∨ t = 23 ∨ t = 24) (hd : decode (mC M) pc = .ok (.aaload, 1)) (hk : k < μ.1) (hs : shp k = (t, n)) (hi : vp_in i n) (hn : μ.2.1 k (ix i) = true) (hr : rfs k (ix i) = some r) (kk : V G M o μ' mc ms (pc + 1) L (.ref (gb G + r) :: S) μ c1 s1) : V G M o μ' mc ms pc L (.int i :: .ref (gb G + k) :: S) μ c1 s1 := by
  intro p e s m args below meth c H locs ls C hP hz hS hl
  have hq : va_rf (if μ.2.1 k (ix i) = true then (rfs k (ix i)).map (fun t => gb G + t) else none) = .ref (gb G + r) := by
    rw [if_pos hn, hr]
    rfl
  have kk1 := kk p e s m args below meth c H locs ls C hP hz hS hl
  rw [← hq] at kk1
  rcases ht with rfl | rfl | rfl
  · exact va_aldq (C := RX7) C.1 C.2.1 C.2.2.2.2.2.2.2.1.1 hP k 2 (by rw [wd_at hk, ent_ref hs (by decide) (by decide)]) rfl hi hd kk1
  · exact va_aldq (C := RX4) C.1 C.2.1 C.2.2.2.2.2.2.2.1.1 hP k 3 (by rw [wd_at hk, ent_ref hs (by decide) (by decide)]) rfl hi hd kk1
  · exact va_aldq (C := RX6) C.1 C.2.1 C.2.2.2.2.2.2.2.1.1 hP k 4 (by rw [wd_at hk, ent_ref hs (by decide) (by decide)]) rfl hi hd kk1
theorem cpy_ne {σ : Sg} {a sp b dp n k : Nat} (h : k ≠ b) : cpy σ a sp b dp n k = σ k := by
  funext j
  unfold cpy
  rw [if_neg h]
theorem cpy_eq (σ : Sg) (a sp b dp n : Nat) : cpy σ a sp b dp n b = va_cpy (σ a) (σ b) sp dp n := by
  funext j
  unfold cpy va_cpy
  rw [if_pos rfl]
theorem v_copy {a b na nb idx : Nat} {sp dp n : Int32} (hm : mI M = false) (hd : decode (mC M) pc = .ok (.invokestatic idx, 3)) (hlk : Cond.methodLink (mO M) idx arraycopyName ∈ tG) (hka : a < μ.1) (hkb : b < μ.1) (hsa : shp a = (20, na)) (hsb : shp b = (20, nb)) (h1 : ¬ sp < 0) (h2 : ¬ dp < 0) (h3 : ¬ n < 0) (h4 : ix sp + ix n ≤ na) (h5 : ix dp + ix n ≤ nb) (hfr : 1 ≤ (mR M).frames) (hlo : (S.map fun v => v.category).sum + (nativeFrameWords "java/lang/System" "arraycopy" 5 + 11) ≤ (mR M).locals)
    (kk : V G M o μ' mc ms (pc + 3) L S (μ.1, μ.2.1, cpy μ.2.2 a (ix sp) b (ix dp) (ix n)) c1 s1) : V G M o μ' mc ms pc L (.int n :: .int dp :: .ref (gb G + b) :: .int sp :: .ref (gb G + a) :: S) μ c1 s1 := by
  intro p e s m args below meth c H locs ls C hP hz hS hl
  refine va_copyi C.1 C.2.1 (by rw [C.2.2.1, hl.1]) C.2.2.2.2.2.1 (C.2.2.2.2.2.2.1 _ hlk) (C.2.2.2.2.2.2.1 _ tw333) (C.2.2.2.2.2.2.1 _ tw332) (C.2.2.2.2.2.2.1 _ tw54) C.2.2.2.2.2.2.2.1.1 hP (wd_D G μ) hS a b 0 0 (by rw [wd_at hka, ent_arr hsa (by decide) (by decide)]) (by rw [wd_at hkb, ent_arr hsb (by decide) (by decide)]) rfl rfl rfl h1 h2 h3 h4 h5 (fun _ _ => rfl) hfr hlo hd (fun H1 locs1 hP1 _ hS1 => ?_)
  rw [wd_set (G := G) (μ := μ) (μ' := (μ.1, μ.2.1, cpy μ.2.2 a (ix sp) b (ix dp) (ix n))) (k := b) (e := Sum.inl (gA G 0, nb, Sum.inl (va_cpy (μ.2.2 a) (μ.2.2 b) (ix sp) (ix dp) (ix n)))) rfl (by rw [ent_arr hsb (by decide) (by decide), ← cpy_eq]) (fun a ha => ent_cong rfl (cpy_ne ha))] at hP1
  exact kk p e s m args below meth c H1 locs1 ls C hP1 (fun h => by rw [hm] at h; cases h) hS1 hl
theorem v_iret {x : Int32} (hd : decode (mC M) pc = .ok (.ireturn, 1)) (hr : mT M = some .int) (ho : o = some (.int x)) (hu : μ' = μ) (hc : c1 = mc) (hs : s1 = ms) : V G M o μ' mc ms pc L [.int x] μ c1 s1 := by
  intro p e s m args below meth c H locs ls C hP hz hS hl
  subst ho hu hc hs
  exact W.iret C.1 C.2.1 (C.2.2.2.1.trans hr) (fun t ht hW => ⟨rfl, fun h => by rw [ht]; exact hz h, by rw [ht]; exact hP, hS.F ht⟩) hS.2.2 hd C.2.2.2.2.1
theorem v_zret {x : Int32} (hd : decode (mC M) pc = .ok (.ireturn, 1)) (hr : mT M = some .boolean) (hx : x = 0 ∨ x = 1) (ho : o = some (.int x)) (hu : μ' = μ) (hc : c1 = mc) (hs : s1 = ms) : V G M o μ' mc ms pc L [.int x] μ c1 s1 := by
  intro p e s m args below meth c H locs ls C hP hz hS hl
  subst ho hu hc hs
  exact W.zret C.1 C.2.1 (C.2.2.2.1.trans hr) (by rcases hx with rfl | rfl <;> rfl) (fun t ht hW => ⟨rfl, fun h => by rw [ht]; exact hz h, by rw [ht]; exact hP, hS.F ht⟩) hS.2.2 hd C.2.2.2.2.1
theorem v_vret (hd : decode (mC M) pc = .ok (.return_, 1)) (hr : mT M = none) (ho : o = none) (hu : μ' = μ) (hc : c1 = mc) (hs : s1 = ms) : V G M o μ' mc ms pc L [] μ c1 s1 := by
  intro p e s m args below meth c H locs ls C hP hz hS hl
  subst ho hu hc hs
  exact W.vret C.1 C.2.1 (C.2.2.2.1.trans hr) (fun t ht hW => ⟨rfl, fun h => by rw [ht]; exact hz h, by rw [ht]; exact hP, hS.F ht⟩) hS.2.2 hd C.2.2.2.2.1
theorem v_aret {x : Nat} {cn : String} (hd : decode (mC M) pc = .ok (.areturn, 1)) (hr : mT M = some (.object cn)) (ho : o = some (.ref x)) (hu : μ' = μ) (hc : c1 = mc) (hs : s1 = ms) : V G M o μ' mc ms pc L [.ref x] μ c1 s1 := by
  intro p e s m args below meth c H locs ls C hP hz hS hl
  subst ho hu hc hs
  exact W.aret C.1 C.2.1 (C.2.2.2.1.trans hr) (Or.inl ⟨_, rfl⟩) (Or.inr ⟨_, rfl⟩) (fun t ht hW => ⟨rfl, fun h => by rw [ht]; exact hz h, by rw [ht]; exact hP, hS.F ht⟩) hS.2.2 hd C.2.2.2.2.1
end VH
/-! calls -/
section VC
variable {G : Gx} {M M2 : Mx} {o o2 : Option Value} {μ μ2 μ' : Mu} {mc ms c1 s1 mc2 ms2 pc n idx : Nat} {L : List (Nat × Value)} {S S0 As : List Value} {y : MethodName}
abbrev Rok (M M2 : Mx) (mc2 ms2 : Nat) : Prop := (mR M2).cells = mc2 ∧ (mR M2).slots = ms2 ∧ (mR M2).frames + 1 ≤ (mR M).frames ∧ 8 + (mL M2 + 11) + (mR M2).locals ≤ (mR M).locals
/-- behind a call -/
theorem v_back {p : Program} {e : Env} {s : State} {m : MethodId} {args : Array Value} {below : List Frame} {meth : Method} {c : Code} {H : Heap} {locs : List Loc} {ls : Array Slot} {a : Array Value} (C : Cx G M p s m args meth c) (hf : mI M = true → mI M2 = true) (hS : va_S (fun q => gb G ≤ q) s.heap H locs) (hl : lv_has ls (mL M) L)
    (hr : va_Run p (gl G) e (mR M) s m args below meth c H locs c1 s1 mc2 ms2 (F0 m pc ls S0) S (Qcm G (mI M2) o2 μ2 a) (fun q => gb G ≤ q))
    (k : V G M o μ' mc ms (pc + 3) L (o2.toList ++ S) μ2 (c1 + mc2) (s1 + ms2)) : W p (gl G) e (mR M) s m args below meth c H locs c1 s1 (MQ below (Qcm G (mI M) o μ') args s mc ms (fun q => gb G ≤ q)) (F0 m pc ls S0) := by
  intro T hT X
  obtain ⟨v, st₀, t, T', L2, h0, X', hL, e1, e2, ⟨hv, hz1, hP1, hF1, hF2⟩, st⟩ := hr T hT X
  cases hv
  obtain ⟨t2, a1, b1⟩ := k p e s m args below meth c T'.heap (locs ++ L2) ls C (by rw [e1]; exact hP1) (fun h => by rw [e1]; exact hz1 (hf h))
    ⟨by rw [e1]; exact Nat.le_trans hS.1 (by rw [h0] at hF1; exact hF1), fun q h1 h2 => by
      rw [e1]
      rw [h0] at hF2
      rw [hF2 q (Nat.lt_of_lt_of_le h1 hS.1) h2]
      exact hS.2.1 q h1 h2, fun q hq => by
      rcases List.mem_append.mp hq with h | h
      · exact hS.2.2 q h
      · exact hL q h⟩ hl T' rfl X'
  exact ⟨t2, st t2 a1, b1⟩
theorem v_pre {p : Program} {s : State} {m : MethodId} {args : Array Value} {meth : Method} {c : Code} {H : Heap} {locs : List Loc} (C : Cx G M p s m args meth c) (hf : mI M2 = true → mI M = true) (hP : va_P (gD G) vwCl (wd G μ) H) (hz : mI M = true → H.size = gb G + μ.1) (hS : va_S (fun q => gb G ≤ q) s.heap H locs) (av : List Value) : ∀ U : State, U.heap = H → s.WarmedH U.vm → Pcm G (mI M2) av μ av.toArray U :=
  fun U hU hW => ⟨rfl, by rw [hU]; exact Nat.le_trans C.2.2.2.2.2.2.2.2.1 hS.1, fun h => by rw [hU]; exact hz (hf h), by rw [hU]; exact hP, C.2.2.2.2.2.2.2.1.warm hW⟩
theorem v_callB {p : Program} {s : State} {m : MethodId} {args : Array Value} {meth : Method} {c : Code} (C : Cx G M p s m args meth c) (hR : Rok M M2 mc2 ms2) (hy : Yk y M2 n) (hlk : Cond.methodLink (mO M) idx y ∈ tG) : CallB (mR M) s args (mO M) idx y (mC M2) (mL M2) (mT M2) (.code y (mC M2) (mL M2) (mT M2) :: tG) (mR M2) mc2 ms2 n :=
  callB_of n C.2.2.2.2.2.2.1 (tG_good hy.1) rfl hR.1 hR.2.1 (C.2.2.2.2.2.2.1 _ hy.2.1) (C.2.2.2.2.2.2.1 _ hlk) ⟨hy.2.2.1.1, hy.2.2.1.2, hy.2.2.2⟩ ⟨hR.2.2.1, hR.2.2.2⟩
theorem v_callS (hd : decode (mC M) pc = .ok (.invokestatic idx, 3)) (hlk : Cond.methodLink (mO M) idx y ∈ tG) (hst : Cond.static y ∈ tG) (hy : Yk y M2 n) (hn : As.length = n) (hR : Rok M M2 mc2 ms2) (hf : mI M = mI M2) (hS0 : S0 = As.reverse ++ S) (hW : (S.map fun v => v.category).sum ≤ 8) (hcs : c1 + mc2 ≤ (mR M).cells ∧ s1 + ms2 ≤ (mR M).slots) (E : Ev G y M2 As μ o2 μ2 mc2 ms2)
    (k : V G M o μ' mc ms (pc + 3) L (o2.toList ++ S) μ2 (c1 + mc2) (s1 + ms2)) : V G M o μ' mc ms pc L S0 μ c1 s1 := by
  intro p e s m args below meth c H locs ls C hP hz hS hl
  exact v_back (M2 := M2) C (fun h => hf ▸ h) hS hl (va_runS (As := As) (rest := S) (Ts := tG) ⟨C.1, C.2.1, C.2.2.1, C.2.2.2.2.2.1, C.2.2.2.2.2.2.1⟩ E ⟨v_callB C hR hy hlk, C.2.2.2.2.2.2.1 _ hst⟩ ⟨Pcm.blind G _ As μ, v_pre C (fun h => hf ▸ h) hP hz hS As⟩ rfl hn hl.1 hS0 (lv_room hW) hd hcs) k
theorem v_callV {k ci : Nat} {Cn : String} {T : u_T} {ty : Nat → FieldType} (hd : decode (mC M) pc = .ok (.invokevirtual idx, 3)) (hlk : Cond.methodLink (mO M) idx y ∈ tG) (hin : Cond.instanceMethod y ∈ tG) (hse : Cond.selects Cn y y ∈ tG) (hy : Yk y M2 n) (hkk : k < μ.1) (hs : (shp k).1 = ci) (hci : ci < 20) (hcl : ClsOk ci Cn T ty) (hn : As.length = n) (hR : Rok M M2 mc2 ms2) (hf : mI M = mI M2) (hS0 : S0 = As.reverse ++ .ref (gb G + k) :: S) (hW : (S.map fun v => v.category).sum ≤ 8) (hcs : c1 + mc2 ≤ (mR M).cells ∧ s1 + ms2 ≤ (mR M).slots) (E : Ev G y M2 (.ref (gb G + k) :: As) μ o2 μ2 mc2 ms2)
    (kk : V G M o μ' mc ms (pc + 3) L (o2.toList ++ S) μ2 (c1 + mc2) (s1 + ms2)) : V G M o μ' mc ms pc L S0 μ c1 s1 := by
  intro p e s m args below meth c H locs ls C hP hz hS hl
  exact v_back (M2 := M2) C (fun h => hf ▸ h) hS hl (va_runV (As := As) (rest := S) (Ts := tG) (C := Cn) ⟨C.1, C.2.1, C.2.2.1, C.2.2.2.2.2.1, C.2.2.2.2.2.2.1⟩ E ⟨v_callB C hR hy hlk, C.2.2.2.2.2.2.1 _ hin, C.2.2.2.2.2.2.1 _ hse⟩ ⟨Pcm.blind G _ _ μ, va_recv C.2.2.2.2.2.2.2.1.1 hP hcl.1 (q0 := k) (by rw [wd_at hkk, ent_obj hs hci]), v_pre C (fun h => hf ▸ h) hP hz hS _⟩ rfl hn hl.1 hS0 (lv_room hW) hd hcs) kk
end VC
