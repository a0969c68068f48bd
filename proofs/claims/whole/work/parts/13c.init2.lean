theorem tx158 : Cond.instantiable RX0 3 ∈ tG := tG_mk 158 (by decide +kernel) (by decide +kernel)
theorem tx176 : Cond.arrayClass .boolean ∈ tG := tG_mk 176 (by decide +kernel) (by decide +kernel)
theorem tx180 : Cond.instantiable RX2 0 ∈ tG := tG_mk 180 (by decide +kernel) (by decide +kernel)
theorem tx190 : Cond.instantiable RX10 0 ∈ tG := tG_mk 190 (by decide +kernel) (by decide +kernel)
theorem tx197 : Cond.instantiable RX5 0 ∈ tG := tG_mk 197 (by decide +kernel) (by decide +kernel)
theorem tx204 : Cond.instantiable RX1 0 ∈ tG := tG_mk 204 (by decide +kernel) (by decide +kernel)
theorem tx211 : Cond.instantiable RX3 0 ∈ tG := tG_mk 211 (by decide +kernel) (by decide +kernel)
theorem tx218 : Cond.instantiable RX9 2 ∈ tG := tG_mk 218 (by decide +kernel) (by decide +kernel)
theorem tx232 : Cond.instantiable RX7 3 ∈ tG := tG_mk 232 (by decide +kernel) (by decide +kernel)
theorem tx68 : Cond.instantiable RX8 5 ∈ tG := tG_mk 68 (by decide +kernel) (by decide +kernel)
theorem tx95 : Cond.instantiable RX4 12 ∈ tG := tG_mk 95 (by decide +kernel) (by decide +kernel)
theorem isHb {j : Nat} (h : j < 24) : isH (20 + 6 * j) := by
  have k : ∀ j, j < 24 → isH (20 + 6 * j) := by unfold isH; decide +kernel
  exact k j h
theorem isHi {j : Nat} (h : j < 2) : isH (188 + 6 * j) := by
  have k : ∀ j, j < 2 → isH (188 + 6 * j) := by unfold isH; decide +kernel
  exact k j h
theorem isRb {j : Nat} (h : j < 8) : isR (172 + 2 * j) := by
  have k : ∀ j, j < 8 → isR (172 + 2 * j) := by unfold isR; decide +kernel
  exact k j h
theorem df4 {k : Nat} (hh : isH k) : ∀ j, j < nf 4 → defaultValue (tyX4 j) = (if (rfs k j).isSome = true then Value.null else .int 0) := by
  obtain ⟨⟨r0, r1, r2, r3, r4⟩, r5, r6, r7, r8, r9, r10, r11⟩ := isH_r hh
  intro j hj
  have hj2 : j < 12 := hj
  have hc : j = 0 ∨ j = 1 ∨ j = 2 ∨ j = 3 ∨ j = 4 ∨ j = 5 ∨ j = 6 ∨ j = 7 ∨ j = 8 ∨ j = 9 ∨ j = 10 ∨ j = 11 := by omega
  rcases hc with h | h | h | h | h | h | h | h | h | h | h | h <;> subst h
  · rw [r0]; rfl
  · rw [r1]; rfl
  · rw [r2]; rfl
  · rw [r3]; rfl
  · rw [r4]; rfl
  · rw [r5]; rfl
  · rw [r6]; rfl
  · rw [r7]; rfl
  · rw [r8]; rfl
  · rw [r9]; rfl
  · rw [r10]; rfl
  · rw [r11]; rfl
theorem df6 {k : Nat} (hh : isR k) : ∀ j, j < nf 6 → defaultValue (tyX7 j) = (if (rfs k j).isSome = true then Value.null else .int 0) := by
  obtain ⟨-, -, -, r0, r1, r2⟩ := isR_s hh
  intro j hj
  have hj2 : j < 3 := hj
  have hc : j = 0 ∨ j = 1 ∨ j = 2 := by omega
  rcases hc with h | h | h <;> subst h
  · rw [r0]; rfl
  · rw [r1]; rfl
  · rw [r2]; rfl
theorem df0 : ∀ j, j < nf 0 → defaultValue (tyX0 j) = (if (rfs 18 j).isSome = true then Value.null else .int 0) := by decide +kernel
theorem df7 : ∀ j, j < nf 7 → defaultValue (tyX8 j) = (if (rfs 2 j).isSome = true then Value.null else .int 0) := by decide +kernel
theorem df8 : ∀ j, j < nf 8 → defaultValue (tyX9 j) = (if (rfs 170 j).isSome = true then Value.null else .int 0) := by decide +kernel
theorem df10 : ∀ j, j < nf 10 → defaultValue (tyX11 j) = (if (rfs 0 j).isSome = true then Value.null else .int 0) := by decide +kernel
theorem df11 : ∀ j, j < nf 11 → defaultValue (tyX12 j) = (if (rfs 200 j).isSome = true then Value.null else .int 0) := by decide +kernel
theorem v_astJ {G : Gx} {M : Mx} {o : Option Value} {μ μ' : Mu} {mc ms c1 s1 pc : Nat} {L : List (Nat × Value)} {S : List Value} {k n t tt ci j : Nat} {i : Int32} {Cn E : String} {T : u_T} {ty : Nat → FieldType} (ht : t = 22 ∨ t = 23 ∨ t = 24) (hE : (tys G)[t - 20]? = some (gA G (t - 20), .object E)) (hd : decode (mC M) pc = .ok (.aastore, 1)) (hk : k < μ.1) (hs : shp k = (t, n)) (hi : vp_in i n) (hj : ix i = j) (hr : rfs k j = some tt) (hkt : tt < μ.1) (hst : (shp tt).1 = ci) (hci : ci < 20) (hcl : ClsOk ci Cn T ty) (hca : Cn = E ∨ (Cn, E) ∈ cyL) (kk : V G M o μ' mc ms (pc + 1) L S (mset μ k j) c1 s1) : V G M o μ' mc ms pc L (.ref (gb G + tt) :: .int i :: .ref (gb G + k) :: S) μ c1 s1 := by
  subst hj
  exact v_astR ht hE hd hk hs hi hr hkt hst hci hcl hca kk
theorem mHo_f {k a : Nat} {μ : Mu} (h : a ≠ k) : (mHo k μ).2.1 a = μ.2.1 a := by
  show sf (sf (sf (sf (sf μ.2.1 k 0) k 1) k 2) k 3) k 4 a = _
  rw [sf_ne h, sf_ne h, sf_ne h, sf_ne h, sf_ne h]
theorem mRo_f {k a : Nat} {μ : Mu} (h : a ≠ k) : (mRo k μ).2.1 a = μ.2.1 a := sf_ne h
def mB (ν : Mu) : Nat → Mu
  | 0 => ν
  | i + 1 => mset (mHo (20 + 6 * i) (mnew (mB ν i))) 19 i
def mW (ν : Mu) : Nat → Mu
  | 0 => ν
  | i + 1 => mset (mRo (172 + 2 * i) (mnew (mW ν i))) 1 i
def mI2 (ν : Mu) : Nat → Mu
  | 0 => ν
  | i + 1 => mset (mHo (188 + 6 * i) (mnew (mI2 ν i))) 16 i
def mLn (ν : Mu) : Nat → Mu
  | 0 => ν
  | i + 1 => mput (mLn ν i) 201 i (-1000000)
theorem mB_1 {ν : Mu} (hn : ν.1 = 20) : ∀ i, (mB ν i).1 = 20 + 6 * i
  | 0 => hn
  | i + 1 => by
    show (mB ν i).1 + 1 + 5 = _
    rw [mB_1 hn i]
    omega
theorem mW_1 {ν : Mu} (hn : ν.1 = 172) : ∀ i, (mW ν i).1 = 172 + 2 * i
  | 0 => hn
  | i + 1 => by
    show (mW ν i).1 + 1 + 1 = _
    rw [mW_1 hn i]
    omega
theorem mI2_1 {ν : Mu} (hn : ν.1 = 188) : ∀ i, (mI2 ν i).1 = 188 + 6 * i
  | 0 => hn
  | i + 1 => by
    show (mI2 ν i).1 + 1 + 5 = _
    rw [mI2_1 hn i]
    omega
theorem mLn_1 (ν : Mu) : ∀ i, (mLn ν i).1 = ν.1
  | 0 => rfl
  | i + 1 => mLn_1 ν i
theorem mB_z {ν : Mu} (hn : ν.1 = 20) (hz : Zr ν) : ∀ i, Zr (mB ν i)
  | 0 => hz
  | i + 1 => ((mB_z hn hz i).new.ho (by show _ < (mB ν i).1 + 1; rw [mB_1 hn i]; omega)).set (by show _ < (mB ν i).1 + 1 + 5; rw [mB_1 hn i]; omega)
theorem mW_z {ν : Mu} (hn : ν.1 = 172) (hz : Zr ν) : ∀ i, Zr (mW ν i)
  | 0 => hz
  | i + 1 => ((mW_z hn hz i).new.ro (by show _ < (mW ν i).1 + 1; rw [mW_1 hn i]; omega)).set (by show _ < (mW ν i).1 + 1 + 1; rw [mW_1 hn i]; omega)
theorem mI2_z {ν : Mu} (hn : ν.1 = 188) (hz : Zr ν) : ∀ i, Zr (mI2 ν i)
  | 0 => hz
  | i + 1 => ((mI2_z hn hz i).new.ho (by show _ < (mI2 ν i).1 + 1; rw [mI2_1 hn i]; omega)).set (by show _ < (mI2 ν i).1 + 1 + 5; rw [mI2_1 hn i]; omega)
theorem mB_f (ν : Mu) {a : Nat} (ha : a < 19) : ∀ i, (mB ν i).2.1 a = ν.2.1 a
  | 0 => rfl
  | i + 1 => by
    show sf (mHo (20 + 6 * i) (mnew (mB ν i))).2.1 19 i a = _
    rw [sf_ne (by omega), mHo_f (by omega)]
    exact mB_f ν ha i
theorem mW_f (ν : Mu) {a : Nat} (ha : a < 1) : ∀ i, (mW ν i).2.1 a = ν.2.1 a
  | 0 => rfl
  | i + 1 => by
    show sf (mRo (172 + 2 * i) (mnew (mW ν i))).2.1 1 i a = _
    rw [sf_ne (by omega), mRo_f (by omega)]
    exact mW_f ν ha i
theorem mI2_f (ν : Mu) {a : Nat} (ha : a < 16) : ∀ i, (mI2 ν i).2.1 a = ν.2.1 a
  | 0 => rfl
  | i + 1 => by
    show sf (mHo (188 + 6 * i) (mnew (mI2 ν i))).2.1 16 i a = _
    rw [sf_ne (by omega), mHo_f (by omega)]
    exact mI2_f ν ha i
theorem mLn_f (ν : Mu) : ∀ i, (mLn ν i).2.1 = ν.2.1
  | 0 => rfl
  | i + 1 => mLn_f ν i
theorem mT_f {k a : Nat} {μ : Mu} (h : a ≠ k) : (mTa k μ).2.1 a = μ.2.1 a := sf_ne h
theorem stp (i : Nat) : nI i + Int32.ofInt 1 = nI (i + 1) := nI_1 i
abbrev MIX0 : Mx := (RX0, cX0_init, 2, rmk 2 145 1032 32, none, "<init>", true)
theorem ykiX0 : Yk yX0_init MIX0 0 := ⟨tw161, tw44, ⟨by decide +kernel, by decide +kernel⟩, by decide +kernel⟩
theorem acts_loop {G : Gx} {ν : Mu} (hn : ν.1 = 20) (hz : Zr ν) (hf : ν.2.1 18 0 = true) : ∀ (n i : Nat), i + n = 24 → V G MIX0 none (mB ν 24) 145 1032 15 [(1, .int (nI i)), (0, .ref (gb G + 18))] [] (mB ν i) (1 + 6 * i) (24 + 42 * i)
  | 0, i, hi => by
    have h : i = 24 := hi
    subst h
    refine v_iload_n dX0_init_15 0 rfl rfl ?_
    refine v_bipush dX0_init_16 (v := nI 24) (by decide) ?_
    refine v_icmp_ge dX0_init_18 (tgt := 40) (by decide) (fun _ => ?_) (fun q => absurd (nI_le (Nat.le_refl 24) (by decide)) q)
    exact v_vret dX0_init_40 rfl rfl rfl rfl rfl
  | n + 1, i, hi => by
    have hi2 : i < 24 := by omega
    refine v_iload_n dX0_init_15 0 rfl rfl ?_
    refine v_bipush dX0_init_16 (v := nI 24) (by decide) ?_
    refine v_icmp_ge dX0_init_18 (tgt := 40) (by decide) (fun q => absurd q (nI_ge hi2 (by decide))) (fun _ => ?_)
    have hN := mB_1 hn i
    have hZ := mB_z hn hz i
    refine v_aload_n dX0_init_21 1 rfl rfl ?_
    refine v_get (v := .ref (gb G + 19)) dX0_init_22 fsX0_11 (by rw [hN]; omega) rfl (by decide) (fv_ref rfl (by show (mB ν i).2.1 18 0 = true; rw [mB_f ν (by decide)]; exact hf)) ?_
    refine v_iload_n dX0_init_25 0 rfl rfl ?_
    refine v_new (ci := 4) dX0_init_26 tw163 tx95 tw43 ok_4 hZ hN (isH_s (isHb hi2)).1.1 (by decide) (df4 (isHb hi2)) rfl rfl (by show 1 + 6 * i + 1 ≤ 145; omega) (by show 24 + 42 * i + 12 ≤ 1032; omega) ?_ rfl
    refine v_dup dX0_init_29 rfl ?_
    refine v_callIN (M2 := MIX4) dX0_init_30 (by decide +kernel) tw97 rfl rfl ykiX4 ⟨rfl, rfl, by decide, by decide⟩ rfl (Nat.le_of_ble_eq_true rfl) ⟨by show 1 + 6 * i + 1 + 5 ≤ 145; omega, by show 24 + 42 * i + 12 + 30 ≤ 1032; omega⟩ (eiX4 (isHb hi2) (by show (mB ν i).1 + 1 = _; rw [hN]) hZ.new) ?_
    refine v_astJ (j := i) (t := 23) (tt := 20 + 6 * i) (Or.inr (Or.inl rfl)) rfl dX0_init_33 (by show _ < (mB ν i).1 + 1 + 5; rw [hN]; omega) rfl (nI_in hi2 (by decide)) (zix (by omega)) rfl (by show _ < (mB ν i).1 + 1 + 5; rw [hN]; omega) (isH_s (isHb hi2)).1.1 (by decide) ok_4 (Or.inl rfl) ?_
    refine v_iinc dX0_init_34 0 rfl (stp i) [0, 1] rfl (by decide) ?_
    refine v_goto dX0_init_37 (tgt := 15) (by decide) ?_
    rw [show 1 + 6 * i + 1 + 5 = 1 + 6 * (i + 1) by omega, show 24 + 42 * i + nf 4 + 30 = 24 + 42 * (i + 1) by show 24 + 42 * i + 12 + 30 = _; omega]
    exact acts_loop hn hz hf n (i + 1) (by omega)
theorem eiX0 {G : Gx} {μ : Mu} (hn : μ.1 = 19) (hz : Zr μ) : Ev G yX0_init MIX0 [.ref (gb G + 18)] μ none (mB (mA μ 18 0) 24) 145 1032 := by
  refine Ev.of (by decide +kernel) rfl rfl (Nat.le_of_ble_eq_true rfl) ?_
  show V G MIX0 none _ _ _ 0 [(0, .ref (gb G + 18))] [] _ 0 0
  refine v_aload_n dX0_init_0 0 rfl rfl ?_
  refine v_objI dX0_init_1 tw162 tw63 tw64 (by decide) (Nat.le_of_ble_eq_true rfl) ?_
  refine v_aload_n dX0_init_4 0 rfl rfl ?_
  refine v_bipush dX0_init_5 (v := 24) (by decide) ?_
  refine v_newQ (t := 3) dX0_init_7 tw163 (by decide +kernel) rfl hz hn rfl (by decide) (by decide) (by decide +kernel) (by decide) rfl rfl (by decide) (by decide) ?_ rfl
  refine v_putR dX0_init_10 fsX0_11 (show 18 < μ.1 + 1 by omega) rfl (by decide) rfl (fun _ _ h => by cases h; rfl) rfl (fun _ => rfl) (fun _ => rfl) ?_
  refine v_iconst dX0_init_13 (v := nI 0) (by decide) ?_
  refine v_istore_n dX0_init_14 [0, 1] rfl (by decide) rfl ?_
  exact acts_loop (ν := mA μ 18 0) (by show μ.1 + 1 = 20; omega) (hz.arr (by omega)) (by show sf μ.2.1 18 0 18 0 = true; unfold sf; rw [if_pos rfl, if_pos rfl]) 24 0 rfl
