theorem tx58 : Cond.instantiable RX11 12 ∈ tG := tG_mk 58 (by decide +kernel) (by decide +kernel)
theorem tx681 : Cond.instantiable RX12 22 ∈ tG := tG_mk 681 (by decide +kernel) (by decide +kernel)
theorem Inv_0 : Inv t13.2.2 := by
  refine ⟨⟨fun _ => 0, 0, 0, 0, ⟨by decide, by decide, by decide, fun _ => rfl, rfl, rfl, rfl, fun p hp => absurd hp (Nat.not_lt_zero p), fun p hp => absurd hp (Nat.not_lt_zero p)⟩, ⟨⟨⟨by decide +kernel, by decide +kernel, by decide +kernel, by decide +kernel, by decide +kernel, by decide +kernel⟩, fun p hp => absurd hp (Nat.not_lt_zero p)⟩, fun _ => Or.inl (by decide +kernel)⟩, ?_, by decide +kernel⟩, ?_, ?_, ⟨by decide +kernel, by decide +kernel⟩, ?_, ?_, ?_⟩
  · have h : ∀ j, j < 41 → t13.2.2 206 (0 + j) = 0 := by decide +kernel
    exact h
  · have h1 : ∀ i, i < 8 → t13.2.2 (172 + 2 * i) 1 = -1 ∧ t13.2.2 201 i = -1000000 ∧ t13.2.2 (172 + 2 * i) 2 = nI 0 ∧ t13.2.2 202 i = nI 0 := by decide +kernel
    have h2 : ∀ i, i < 8 → ∀ j, j < 40 → t13.2.2 (172 + 2 * i + 1) j = t13.2.2 203 (40 * i + j) := by decide +kernel
    intro i hi
    obtain ⟨a, b, c, d⟩ := h1 i hi
    exact ⟨Or.inl ⟨a, b⟩, ⟨0, by decide, c, d⟩, h2 i hi⟩
  · exact ⟨0, by decide, by decide +kernel, by decide +kernel, fun j hj => absurd hj (Nat.not_lt_zero j)⟩
  · exact ⟨0, by decide, by decide +kernel, by decide +kernel, fun j hj => absurd hj (Nat.not_lt_zero j)⟩
  · have h : ∀ k, k < 2 → t13.2.2 17 k = t13.2.2 211 k ∧ t13.2.2 17 k = 0 := by decide +kernel
    exact fun k hk => ⟨(h k hk).1, Or.inl (h k hk).2⟩
  · exact ⟨0, 0, by decide, by decide, by decide +kernel, by decide +kernel, by decide +kernel, fun _ => rfl, fun i hi => absurd hi (Nat.not_lt_zero i)⟩
theorem knowns {s : State} {A : Array Value} (hts : ∀ w ∈ tG, w.before A s = true) : ∃ D : va_G, ∀ (c : Nat) (q : vw_C), vwCl[c]? = some q → u_Kn s q.1 q.2.1 q.2.2 (D.1 c) (D.2 c) := by
  have h : ∀ c : Nat, ∃ d : ClassId × (Nat → Nat), ∀ q : vw_C, vwCl[c]? = some q → u_Kn s q.1 q.2.1 q.2.2 d.1 d.2 := by
    intro c
    match c with
    | 0 =>
      obtain ⟨a, i, h⟩ := u_known (C := RX0) (T := TX0) (N := 3) (n := 3) hts ok_0.2.1 (hts _ tx158)
      exact ⟨(a, i), fun q hq => by cases hq; exact h⟩
    | 1 =>
      obtain ⟨a, i, h⟩ := u_known (C := RX1) (T := TX1) (N := 0) (n := 0) hts ok_1.2.1 (hts _ tx204)
      exact ⟨(a, i), fun q hq => by cases hq; exact h⟩
    | 2 =>
      obtain ⟨a, i, h⟩ := u_known (C := RX2) (T := TX2) (N := 0) (n := 0) hts ok_2.2.1 (hts _ tx180)
      exact ⟨(a, i), fun q hq => by cases hq; exact h⟩
    | 3 =>
      obtain ⟨a, i, h⟩ := u_known (C := RX3) (T := TX3) (N := 0) (n := 0) hts ok_3.2.1 (hts _ tx211)
      exact ⟨(a, i), fun q hq => by cases hq; exact h⟩
    | 4 =>
      obtain ⟨a, i, h⟩ := u_known (C := RX4) (T := TX4) (N := 12) (n := 12) hts ok_4.2.1 (hts _ tx95)
      exact ⟨(a, i), fun q hq => by cases hq; exact h⟩
    | 5 =>
      obtain ⟨a, i, h⟩ := u_known (C := RX5) (T := TX5) (N := 0) (n := 0) hts ok_5.2.1 (hts _ tx197)
      exact ⟨(a, i), fun q hq => by cases hq; exact h⟩
    | 6 =>
      obtain ⟨a, i, h⟩ := u_known (C := RX7) (T := TX7) (N := 3) (n := 3) hts ok_6.2.1 (hts _ tx232)
      exact ⟨(a, i), fun q hq => by cases hq; exact h⟩
    | 7 =>
      obtain ⟨a, i, h⟩ := u_known (C := RX8) (T := TX8) (N := 5) (n := 5) hts ok_7.2.1 (hts _ tx68)
      exact ⟨(a, i), fun q hq => by cases hq; exact h⟩
    | 8 =>
      obtain ⟨a, i, h⟩ := u_known (C := RX9) (T := TX9) (N := 2) (n := 2) hts ok_8.2.1 (hts _ tx218)
      exact ⟨(a, i), fun q hq => by cases hq; exact h⟩
    | 9 =>
      obtain ⟨a, i, h⟩ := u_known (C := RX10) (T := TX10) (N := 0) (n := 0) hts ok_9.2.1 (hts _ tx190)
      exact ⟨(a, i), fun q hq => by cases hq; exact h⟩
    | 10 =>
      obtain ⟨a, i, h⟩ := u_known (C := RX11) (T := TX11) (N := 12) (n := 12) hts ok_10.2.1 (hts _ tx58)
      exact ⟨(a, i), fun q hq => by cases hq; exact h⟩
    | 11 =>
      obtain ⟨a, i, h⟩ := u_known (C := RX12) (T := TX12) (N := 22) (n := 22) hts ok_11.2.1 (hts _ tx681)
      exact ⟨(a, i), fun q hq => by cases hq; exact h⟩
    | c + 12 => exact ⟨(0, fun _ => 0), fun q hq => by simp [vwCl] at hq⟩
  exact ⟨(fun c => (Classical.choose (h c)).1, fun c => (Classical.choose (h c)).2), fun c q hq => Classical.choose_spec (h c) q hq⟩
theorem arrP {s : State} {A : Array Value} {ty : FieldType} (h : (Cond.arrayClass ty).before A s = true) (hra : ∀ cA, s.vm.findClass ("[" ++ ty.toString) = some cA → va_RA s cA ty) : ∃ cA : ClassId, ArrOfT s cA ty ∧ va_RA s cA ty := by
  obtain ⟨cA, k, comp, h1, h2, h3⟩ := Cond.arrayClass_spec h
  exact ⟨cA, fun n z => ⟨fun k h => (by cases h), k, h2, comp, h3⟩, hra cA h1⟩
theorem arrQ {s : State} {C : String} (h : va_AO C s) : ∃ cA : ClassId, ArrOfT s cA (.object C) ∧ va_RA s cA (.object C) := by
  obtain ⟨comp, c, k, h1, h2, h3, h4, h5⟩ := Cond.arrayOver_spec h
  exact ⟨c, fun n z => ⟨fun k h => (by cases h), k, h3, comp, h4⟩, k, comp, h3, h4, h1, h5⟩
theorem Ex_0 {s : State} {A : Array Value} (hts : ∀ w ∈ lw_tbl, w.before A s = true) (hg : (Jvm.Cond.and given_1 narrow_1).before A s = true) : Ex s := by
  have hs := flat_of_before _ hg
  refine ⟨?_, ?_, ?_, ?_⟩
  · have h : ∀ q ∈ nestL, Cond.methodLinkNest q.1 q.2.1 q.2.2 "LiftEnvy" ∈ lw_tbl := by decide +kernel
    exact fun q hq => va_Nw.of rfl (hts _ (h q hq))
  · have h : ∀ C ∈ aoL, Cond.arrayOver (.object C) ∈ lw_tbl := by decide +kernel
    exact fun C hC => va_AO.of (hts _ (h C hC))
  · have h : ∀ q ∈ cyL, Cond.castable q.1 q.2 ∈ lw_tbl := by decide +kernel
    exact fun q hq => va_Nw.of rfl (hts _ (h q hq))
  · have h : ∀ q ∈ ncL, Cond.not (.castable q.1 q.2) ∈ flatC (Jvm.Cond.and given_1 narrow_1) := by decide +kernel
    exact fun q hq => va_Nc.of (hs _ (h q hq))
theorem Kx_0 {p : Program} {s : State} {m : MethodId} {meth : Method} {c : Code} (l : Launch) {b L : Nat} {xs : Nat → Int32} (C0 : lw_At p s m meth c b L xs) : ∃ G : Gx, gl G = l ∧ gb G = s.heap.size ∧ Kx G s := by
  have hts : ∀ w ∈ tG, w.before #[Value.ref b] s = true := fun w hw => C0.2.2.2.2.2.1 w (tG_in hw)
  have hE := Ex_0 C0.2.2.2.2.2.1 C0.2.2.2.2.2.2.2.2.2
  obtain ⟨D, hD⟩ := knowns hts
  obtain ⟨a0, h0⟩ := arrP (hts _ tx93) (fun cA h => h)
  obtain ⟨a1, h1⟩ := arrP (hts _ tx176) (fun cA h => h)
  obtain ⟨a2, h2⟩ := arrQ (hE.2.1 RX7 (by decide +kernel))
  obtain ⟨a3, h3⟩ := arrQ (hE.2.1 RX4 (by decide +kernel))
  obtain ⟨a4, h4⟩ := arrQ (hE.2.1 RX6 (by decide +kernel))
  refine ⟨(l, D, s.heap.size, fun k => match k with | 0 => a0 | 1 => a1 | 2 => a2 | 3 => a3 | _ => a4), rfl, rfl, ⟨hD, fun k q hq => ?_⟩, hE⟩
  match k, hq with
  | 0, hq => cases hq; exact h0
  | 1, hq => cases hq; exact h1
  | 2, hq => cases hq; exact h2
  | 3, hq => cases hq; exact h3
  | 4, hq => cases hq; exact h4
  | k + 5, hq => simp [tys] at hq
section LS
variable {G : Gx} {b L pc idx : Nat} {xs : Nat → Int32} {μ μ2 : Mu} {S : List Value} {p : Program} {e : Env} {s : State} {m : MethodId} {below : List Frame} {meth : Method} {c : Code} {H : Heap} {locs : List Loc} {ls : Array Slot} {cells slots : Nat} {Q : State → Prop}
theorem l_new {k ci : Nat} {Cn : String} {T : u_T} {ty : Nat → FieldType} (C : Lx G b L xs p s m meth c) (hP : va_P (gD G) vwCl (wd G μ) H) (hz : H.size = gb G + μ.1) (hS : va_S (fun q => gb G ≤ q) s.heap H locs) (hd : decode code pc = .ok (.new idx, 3)) (hlk : Cond.classLink RL idx Cn ∈ tG) (hin : Cond.instantiable Cn (nf ci) ∈ tG) (hii : Cond.initialized Cn ∈ tG) (hcl : ClsOk ci Cn T ty) (hz0 : Zr μ) (hn : μ.1 = k) (hs : (shp k).1 = ci) (hci : ci < 20) (hdf : ∀ j, j < nf ci → defaultValue (ty j) = (if (rfs k j).isSome = true then Value.null else .int 0)) (hcc : cells + 1 ≤ 600000) (hss : slots + nf ci ≤ 7302250)
    (kk : ∀ H1 : Heap, va_P (gD G) vwCl (wd G (mnew μ)) H1 → H1.size = gb G + (mnew μ).1 → va_S (fun q => gb G ≤ q) s.heap H1 locs → W p (gl G) e room_1 s m #[Value.ref b] below meth c H1 locs (cells + 1) (slots + nf ci) Q (F0 m (pc + 3) ls (.ref (gb G + k) :: S))) : W p (gl G) e room_1 s m #[Value.ref b] below meth c H locs cells slots Q (F0 m pc ls S) := by
  have hKn := C.2.1.1.1 ci _ hcl.1
  have hts := C.hts
  have hsz : H.size = gb G + k := by rw [← hn]; exact hz
  refine W.newcK C.1.1 C.1.2.1 C.1.2.2.2.2.1 (hts _ hlk) (hts _ hin) (hts _ hii) rfl hd hcc hss hKn.2.1 hsz fun H1 kC hkC e1 z1 o1 => ?_
  have hk : ∀ (q : Nat) (x : Nat × va_E), (wd G μ)[q]? = some x → H1[x.1]? = H[x.1]? := fun q x hx => o1 x.1 (hsz ▸ (hP q x hx).lt)
  have hP1 : va_P (gD G) vwCl (wd G (mnew μ)) H1 := by
    rw [← wd_push hn (ent_obj hs hci)]
    refine (hP.kept hk).app (fun q x hx => ?_)
    have hq : q < 1 := (List.getElem?_eq_some_iff.mp hx).1
    rw [show q = 0 by omega] at hx
    cases hx
    refine ⟨_, hcl.1, (u_born ty hts hcl.2.1 hKn hkC e1 hcl.2.2.1).to (fun j hj => ?_)⟩
    show defaultValue (ty j) = vp_V _ j
    rw [hdf j hj]
    unfold vp_V
    rw [List.getD_eq_getElem?_getD, List.getElem?_map, List.getElem?_range hj]
    show _ = fv (gb G) (mnew μ) k j
    have hzz := hz0 k (Nat.le_of_eq hn) j
    unfold fv
    cases hr : rfs k j with
    | none => exact congrArg Value.int hzz.2.symm
    | some t =>
      show Value.null = if μ.2.1 k j = true then _ else _
      rw [hzz.1]
      rfl
  exact kk H1 hP1 (by rw [z1]; show gb G + k + 1 = gb G + (μ.1 + 1); omega) ⟨by rw [z1, ← hsz]; exact Nat.le_succ_of_le hS.1, fun q h1 h2 => (o1 q (by rw [← hsz]; exact Nat.lt_of_lt_of_le h1 hS.1)).trans (hS.2.1 q h1 h2), hS.2.2⟩
theorem l_init {k mc2 ms2 : Nat} {M2 : Mx} {y : MethodName} (C : Lx G b L xs p s m meth c) (hP : va_P (gD G) vwCl (wd G μ) H) (hz : H.size = gb G + μ.1) (hS : va_S (fun q => gb G ≤ q) s.heap H locs) (hl : ls.size = 4) (hd : decode code pc = .ok (.invokespecial idx, 3)) (hlk : Cond.methodLink RL idx y ∈ tG) (hin : Cond.instanceMethod y ∈ tG) (hyn : y.name = "<init>") (hr : mT M2 = none) (hy : Yk y M2 0) (hR : (mR M2).cells = mc2 ∧ (mR M2).slots = ms2 ∧ (mR M2).frames + 1 ≤ 9 ∧ 8 + (mL M2 + 11) + (mR M2).locals ≤ 342) (hm : mI M2 = true) (hW : (S.map fun v => v.category).sum ≤ 8) (hcs : cells + mc2 ≤ 600000 ∧ slots + ms2 ≤ 7302250) (E : Ev G y M2 [.ref (gb G + k)] μ none μ2 mc2 ms2)
    (kk : ∀ (H1 : Heap) (locs1 : List Loc), va_P (gD G) vwCl (wd G μ2) H1 → H1.size = gb G + μ2.1 → va_S (fun q => gb G ≤ q) s.heap H1 locs1 → W p (gl G) e room_1 s m #[Value.ref b] below meth c H1 locs1 (cells + mc2) (slots + ms2) Q (F0 m (pc + 3) ls S)) : W p (gl G) e room_1 s m #[Value.ref b] below meth c H locs cells slots Q (F0 m pc ls (.ref (gb G + k) :: S)) := by
  have hts := C.hts
  have cb : CallB room_1 s #[Value.ref b] RL idx y (mC M2) (mL M2) (mT M2) (.code y (mC M2) (mL M2) (mT M2) :: tG) (mR M2) mc2 ms2 0 :=
    callB_of 0 hts (tG_good hy.1) rfl hR.1 hR.2.1 (hts _ hy.2.1) (hts _ hlk) ⟨hy.2.2.1.1, hy.2.2.1.2, hy.2.2.2⟩ ⟨hR.2.2.1, hR.2.2.2⟩
  rw [hr] at cb
  have hrun := va_runI (e := e) (below := below) (meth := meth) (locs := locs) (cells := cells) (slots := slots) (R := room_1) (H := H) (g := F0 m pc ls (.ref (gb G + k) :: S)) (As := []) (rest := S) (Ts := tG) (b := gb G + k) ⟨C.1.1, C.1.2.1, C.1.2.2.2.1, C.1.2.2.2.2.1, hts⟩ (by unfold Ev at E; rw [hr] at E; exact E) ⟨cb, hyn, hts _ hin⟩ ⟨Pcm.blind G _ _ μ, fun U hU hW => ⟨rfl, by rw [hU, C.2.2]; exact hS.1, (fun _ => by rw [hU]; exact hz), by rw [hU]; exact hP, C.2.1.warm hW⟩⟩ rfl rfl hl rfl (lv_room hW) hd hcs
  intro T hT X
  obtain ⟨v2, st₀, t, T', L2, h0, X', hL2, e1, e2, ⟨hv, hz1, hP1, hF1, hF2⟩, st⟩ := hrun T hT X
  cases hv
  obtain ⟨t2, a1, b1⟩ := kk T'.heap (locs ++ L2) (by rw [e1]; exact hP1) (by rw [e1]; exact hz1 hm)
    ⟨by rw [e1]; exact Nat.le_trans hS.1 (by rw [h0] at hF1; exact hF1), fun q h1 h2 => by
      rw [e1]
      rw [h0] at hF2
      rw [hF2 q (Nat.lt_of_lt_of_le h1 hS.1) h2]
      exact hS.2.1 q h1 h2, fun q hq => by
      rcases List.mem_append.mp hq with h | h
      · exact hS.2.2 q h
      · exact hL2 q h⟩ T' rfl X'
  exact ⟨t2, st t2 a1, b1⟩
end LS
theorem s0_e : mnew (0, fun _ _ => false, fun _ _ => 0) = s0 := by rw [s0]
theorem t0_e : mnew s13 = t0 := by rw [t0]
theorem whole_start {p : Program} {e : Env} {s : State} {m : MethodId} {below : List Frame} {meth : Method} {c : Code} (l : Launch) {b L : Nat} {xs : Nat → Int32} (hL : L ≤ 384) (C0 : lw_At p s m meth c b L xs) : W p l e room_1 s m #[Value.ref b] below meth c s.heap [] 0 0 (lw_Z below #[Value.ref b] s) (entryFrame m ([Value.ref b] : List Value).toArray 4) := by
  obtain ⟨G, rfl, hgb, hK⟩ := Kx_0 l C0
  have C : Lx G b L xs p s m meth c := ⟨C0, hK, hgb⟩
  have hl := lv_entry ([.ref b]) (n := 4) (Nat.le_of_ble_eq_true rfl)
  rw [lg_entry_eq]
  generalize (lg_sl ([.ref b]) ++ List.replicate (4 - (lg_sl ([.ref b])).length) Slot.unset).toArray = ls at hl ⊢
  have hl : lv_has ls 4 [(0, .ref b)] := hl
  refine l_new (μ := (0, fun _ _ => false, fun _ _ => 0)) (k := 0) (ci := 10) C (fun k q h => by simp [wd] at h) hgb.symm va_S.rf dL_law_0 tw57 tx58 tw41 ok_10 (fun _ _ _ => ⟨rfl, rfl⟩) rfl rfl (by decide) df10 (by decide) (by decide) (fun H hP hz hS => ?_)
  rw [s0_e] at hP hz
  refine lv_dup C.1.1 C.1.2.1 dL_law_3 rfl ?_
  refine l_init (M2 := MIX11) C hP hz hS hl.1 dL_law_4 tw59 tw60 rfl rfl ykiX11 ⟨rfl, rfl, by decide, by decide⟩ rfl (Nat.le_of_ble_eq_true rfl) ⟨by decide, by decide⟩ (eiX11 G) (fun H locs hP hz hS => ?_)
  refine lv_astore_n (lv' := [(1, .ref (gb G + 0)), (0, .ref b)]) C.1.1 C.1.2.1 dL_law_7 rfl hl (by decide) rfl (fun ls hl => ?_)
  refine l_new (μ := s13) (k := 200) (ci := 11) C hP hz hS dL_law_8 tw680 tx681 tw53 ok_11 zs13 cn13 rfl (by decide) df11 (by decide) (by decide) (fun H hP hz hS => ?_)
  rw [t0_e] at hP hz
  refine lv_dup C.1.1 C.1.2.1 dL_law_11 rfl ?_
  refine l_init (M2 := MIX12) C hP hz hS hl.1 dL_law_12 tw682 tw683 rfl rfl ykiX12 ⟨rfl, rfl, by decide, by decide⟩ rfl (Nat.le_of_ble_eq_true rfl) ⟨by decide, by decide⟩ (eiX12 G) (fun H locs hP hz hS => ?_)
  refine W.widen (k := 600000) (n := 7302250) (by decide) (by decide) ?_
  refine lv_astore_n (lv' := [(2, .ref (gb G + 200)), (1, .ref (gb G + 0)), (0, .ref b)]) C.1.1 C.1.2.1 dL_law_15 rfl hl (by decide) rfl (fun ls hl => ?_)
  refine lv_iconst (v := nI 0) C.1.1 C.1.2.1 dL_law_16 (by decide) ?_
  refine lv_istore_n (lv' := [(3, .int (nI 0)), (2, .ref (gb G + 200)), (1, .ref (gb G + 0)), (0, .ref b)]) C.1.1 C.1.2.1 dL_law_17 rfl hl (by decide) rfl (fun ls hl => ?_)
  exact l_loop hL (L + 1) 0 t13.2.2 Inv_0 (by decide) (by omega) p e s m below meth c H locs ls C (wd_full t13_n t13_f hP) hS hl
