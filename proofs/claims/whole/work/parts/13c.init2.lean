theorem tx158 : Cond.instantiable RX0 3 ∈ tG := tG_mk 158 (by decide +kernel) (by decide +kernel)
theorem tx176 : Cond.arrayClass .boolean ∈ tG := tG_mk 176 (by decide +kernel) (by decide +kernel)
theorem tx180 : Cond.instantiable RX2 0 ∈ tG := tG_mk 180 (by decide +kernel) (by decide +kernel)
theorem tx190 : Cond.instantiable RX10 0 ∈ tG := tG_mk 190 (by decide +kernel) (by decide +kernel)
theorem tx197 : Cond.instantiable RX5 0 ∈ tG := tG_mk 197 (by decide +kernel) (by decide +kernel)
theorem tx204 : Cond.instantiable RX1 0 ∈ tG := tG_mk 204 (by decide +kernel) (by decide +kernel)
theorem tx211 : Cond.instantiable RX3 0 ∈ tG := tG_mk 211 (by decide +kernel) (by decide +kernel)
theorem tx218 : Cond.instantiable RX9 2 ∈ tG := tG_mk 218 (by decide +kernel) (by decide +kernel)
theorem tx232 : Cond.instantiable RX7 3 ∈ tG := tG_mk 232 (by decide +kernel) (by decide +kernel)
theorem tx68 : Cond.instantiable RX8 5 ∈ tG := tG_mk 68 (by decide +kernel) (by decide +kernel)
theorem tx95 : Cond.instantiable RX4 12 ∈ tG := tG_mk 95 (by decide +kernel) (by decide +kernel)
theorem isHb {j : Nat} (h : j < 24) : isH (20 + 6 * j) := by
  have k : ∀ j, j < 24 → isH (20 + 6 * j) := by unfold isH; decide +kernel
  exact k j h
theorem isHi {j : Nat} (h : j < 2) : isH (188 + 6 * j) := by
  have k : ∀ j, j < 2 → isH (188 + 6 * j) := by unfold isH; decide +kernel
  exact k j h
theorem isRb {j : Nat} (h : j < 8) : isR (172 + 2 * j) := by
  have k : ∀ j, j < 8 → isR (172 + 2 * j) := by unfold isR; decide +kernel
  exact k j h
theorem df4 {k : Nat} (hh : isH k) : ∀ j, j < nf 4 → defaultValue (tyX4 j) = (if (rfs k j).isSome = true then Value.null else .int 0) := by
  obtain ⟨⟨r0, r1, r2, r3, r4⟩, r5, r6, r7, r8, r9, r10, r11⟩ := isH_r hh
  intro j hj
  have hj2 : j < 12 := hj
  have hc : j = 0 ∨ j = 1 ∨ j = 2 ∨ j = 3 ∨ j = 4 ∨ j = 5 ∨ j = 6 ∨ j = 7 ∨ j = 8 ∨ j = 9 ∨ j = 10 ∨ j = 11 := by omega
  rcases hc with h | h | h | h | h | h | h | h | h | h | h | h <;> subst h
  · rw [r0]; rfl
  · rw [r1]; rfl
  · rw [r2]; rfl
  · rw [r3]; rfl
  · rw [r4]; rfl
  · rw [r5]; rfl
  · rw [r6]; rfl
  · rw [r7]; rfl
  · rw [r8]; rfl
  · rw [r9]; rfl
  · rw [r10]; rfl
  · rw [r11]; rfl
theorem df6 {k : Nat} (hh : isR k) : ∀ j, j < nf 6 → defaultValue (tyX7 j) = (if (rfs k j).isSome = true then Value.null else .int 0) := by
  obtain ⟨-, -, -, r0, r1, r2⟩ := isR_s hh
  intro j hj
  have hj2 : j < 3 := hj
  have hc : j = 0 ∨ j = 1 ∨ j = 2 := by omega
  rcases hc with h | h | h <;> subst h
  · rw [r0]; rfl
  · rw [r1]; rfl
  · rw [r2]; rfl
theorem df0 : ∀ j, j < nf 0 → defaultValue (tyX0 j) = (if (rfs 18 j).isSome = true then Value.null else .int 0) := by decide +kernel
theorem df7 : ∀ j, j < nf 7 → defaultValue (tyX8 j) = (if (rfs 2 j).isSome = true then Value.null else .int 0) := by decide +kernel
theorem df8 : ∀ j, j < nf 8 → defaultValue (tyX9 j) = (if (rfs 170 j).isSome = true then Value.null else .int 0) := by decide +kernel
theorem df10 : ∀ j, j < nf 10 → defaultValue (tyX11 j) = (if (rfs 0 j).isSome = true then Value.null else .int 0) := by decide +kernel
theorem df11 : ∀ j, j < nf 11 → defaultValue (tyX12 j) = (if (rfs 200 j).isSome = true then Value.null else .int 0) := by decide +kernel
theorem v_astJ {G : Gx} {M : Mx} {o : Option Value} {μ μ' : Mu} {mc ms c1 s1 pc : Nat} {L : List (Nat × Value)} {S : List Value} {k n t tt ci j : Nat} {i : Int32} {Cn E : String} {T : u_T} {ty : Nat → FieldType} (ht : t = 22 ∨ t = 23 ∨ t = 24) (hE : (tys G)[t - 20]? = some (gA G (t - 20), .object E)) (hd : decode (mC M) pc = .ok (.aastore, 1)) (hk : k < μ.1) (hs : shp k = (t, n)) (hi : vp_in i n) (hj : ix i = j) (hr : rfs k j = some tt) (hkt : tt < μ.1) (hst : (shp tt).1 = ci) (hci : ci < 20) (hcl : ClsOk ci Cn T ty) (hca : Cn = E ∨ (Cn, E) ∈ cyL) (kk : V G M o μ' mc ms (pc + 1) L S (mset μ k j) c1 s1) : V G M o μ' mc ms pc L (.ref (gb G + tt) :: .int i :: .ref (gb G + k) :: S) μ c1 s1 := by
  subst hj
  exact v_astR ht hE hd hk hs hi hr hkt hst hci hcl hca kk
theorem mHo_f {k a : Nat} {μ : Mu} (h : a ≠ k) : (mHo k μ).2.1 a = μ.2.1 a := by
  show sf (sf (sf (sf (sf μ.2.1 k 0) k 1) k 2) k 3) k 4 a = _
  rw [sf_ne h, sf_ne h, sf_ne h, sf_ne h, sf_ne h]
theorem mRo_f {k a : Nat} {μ : Mu} (h : a ≠ k) : (mRo k μ).2.1 a = μ.2.1 a := sf_ne h
def mB (ν : Mu) : Nat → Mu
  | 0 => ν
  | i + 1 => mset (mHo (20 + 6 * i) (mnew (mB ν i))) 19 i
def mW (ν : Mu) : Nat → Mu
  | 0 => ν
  | i + 1 => mset (mRo (172 + 2 * i) (mnew (mW ν i))) 1 i
def mI2 (ν : Mu) : Nat → Mu
  | 0 => ν
  | i + 1 => mset (mHo (188 + 6 * i) (mnew (mI2 ν i))) 16 i
def mLn (ν : Mu) : Nat → Mu
  | 0 => ν
  | i + 1 => mput (mLn ν i) 201 i (-1000000)
theorem mB_1 {ν : Mu} (hn : ν.1 = 20) : ∀ i, (mB ν i).1 = 20 + 6 * i
  | 0 => hn
  | i + 1 => by
    show (mB ν i).1 + 1 + 5 = _
    rw [mB_1 hn i]
    omega
theorem mW_1 {ν : Mu} (hn : ν.1 = 172) : ∀ i, (mW ν i).1 = 172 + 2 * i
  | 0 => hn
  | i + 1 => by
    show (mW ν i).1 + 1 + 1 = _
    rw [mW_1 hn i]
    omega
theorem mI2_1 {ν : Mu} (hn : ν.1 = 188) : ∀ i, (mI2 ν i).1 = 188 + 6 * i
  | 0 => hn
  | i + 1 => by
    show (mI2 ν i).1 + 1 + 5 = _
    rw [mI2_1 hn i]
    omega
theorem mLn_1 (ν : Mu) : ∀ i, (mLn ν i).1 = ν.1
  | 0 => rfl
  | i + 1 => mLn_1 ν i
theorem mB_z {ν : Mu} (hn : ν.1 = 20) (hz : Zr ν) : ∀ i, Zr (mB ν i)
  | 0 => hz
  | i + 1 => ((mB_z hn hz i).new.ho (by show _ < (mB ν i).1 + 1; rw [mB_1 hn i]; omega)).set (by show _ < (mB ν i).1 + 1 + 5; rw [mB_1 hn i]; omega)
theorem mW_z {ν : Mu} (hn : ν.1 = 172) (hz : Zr ν) : ∀ i, Zr (mW ν i)
  | 0 => hz
  | i + 1 => ((mW_z hn hz i).new.ro (by show _ < (mW ν i).1 + 1; rw [mW_1 hn i]; omega)).set (by show _ < (mW ν i).1 + 1 + 1; rw [mW_1 hn i]; omega)
theorem mI2_z {ν : Mu} (hn : ν.1 = 188) (hz : Zr ν) : ∀ i, Zr (mI2 ν i)
  | 0 => hz
  | i + 1 => ((mI2_z hn hz i).new.ho (by show _ < (mI2 ν i).1 + 1; rw [mI2_1 hn i]; omega)).set (by show _ < (mI2 ν i).1 + 1 + 5; rw [mI2_1 hn i]; omega)
theorem mB_f (ν : Mu) {a : Nat} (ha : a < 19) : ∀ i, (mB ν i).2.1 a = ν.2.1 a
  | 0 => rfl
  | i + 1 => by
    show sf (mHo (20 + 6 * i) (mnew (mB ν i))).2.1 19 i a = _
    rw [sf_ne (by omega), mHo_f (by omega)]
    exact mB_f ν ha i
theorem mW_f (ν : Mu) {a : Nat} (ha : a < 1) : ∀ i, (mW ν i).2.1 a = ν.2.1 a
  | 0 => rfl
  | i + 1 => by
    show sf (mRo (172 + 2 * i) (mnew (mW ν i))).2.1 1 i a = _
    rw [sf_ne (by omega), mRo_f (by omega)]
    exact mW_f ν ha i
theorem mI2_f (ν : Mu) {a : Nat} (ha : a < 16) : ∀ i, (mI2 ν i).2.1 a = ν.2.1 a
  | 0 => rfl
  | i + 1 => by
    show sf (mHo (188 + 6 * i) (mnew (mI2 ν i))).2.1 16 i a = _
    rw [sf_ne (by omega), mHo_f (by omega)]
    exact mI2_f ν ha i
theorem mLn_f (ν : Mu) : ∀ i, (mLn ν i).2.1 = ν.2.1
  | 0 => rfl
  | i + 1 => mLn_f ν i
theorem mT_f {k a : Nat} {μ : Mu} (h : a ≠ k) : (mTa k μ).2.1 a = μ.2.1 a := sf_ne h
theorem stp (i : Nat) : nI i + Int32.ofInt 1 = nI (i + 1) := nI_1 i
abbrev MIX0 : Mx := (RX0, cX0_init, 2, rmk 2 145 1032 32, none, "<init>", true)
theorem ykiX0 : Yk yX0_init MIX0 0 := ⟨tw161, tw44, ⟨by decide +kernel, by decide +kernel⟩, by decide +kernel⟩
theorem acts_loop {G : Gx} {ν : Mu} (hn : ν.1 = 20) (hz : Zr ν) (hf : ν.2.1 18 0 = true) : ∀ (n i : Nat), i + n = 24 → V G MIX0 none (mB ν 24) 145 1032 15 [(1, .int (nI i)), (0, .ref (gb G + 18))] [] (mB ν i) (1 + 6 * i) (24 + 42 * i)
  | 0, i, hi => by
    have h : i = 24 := hi
    subst h
    refine v_iload_n dX0_init_15 0 rfl rfl ?_
    refine v_bipush dX0_init_16 (v := nI 24) (by decide) ?_
    refine v_icmp_ge dX0_init_18 (tgt := 40) (by decide) (fun _ => ?_) (fun q => absurd (nI_le (Nat.le_refl 24) (by decide)) q)
    exact v_vret dX0_init_40 rfl rfl rfl rfl rfl
  | n + 1, i, hi => by
    have hi2 : i < 24 := by omega
    refine v_iload_n dX0_init_15 0 rfl rfl ?_
    refine v_bipush dX0_init_16 (v := nI 24) (by decide) ?_
    refine v_icmp_ge dX0_init_18 (tgt := 40) (by decide) (fun q => absurd q (nI_ge hi2 (by decide))) (fun _ => ?_)
    have hN := mB_1 hn i
    have hZ := mB_z hn hz i
    refine v_aload_n dX0_init_21 1 rfl rfl ?_
    refine v_get (v := .ref (gb G + 19)) dX0_init_22 fsX0_11 (by rw [hN]; omega) rfl (by decide) (fv_ref rfl (by show (mB ν i).2.1 18 0 = true; rw [mB_f ν (by decide)]; exact hf)) ?_
    refine v_iload_n dX0_init_25 0 rfl rfl ?_
    refine v_new (ci := 4) dX0_init_26 tw163 tx95 tw43 ok_4 hZ hN (isH_s (isHb hi2)).1.1 (by decide) (df4 (isHb hi2)) rfl rfl (by show 1 + 6 * i + 1 ≤ 145; omega) (by show 24 + 42 * i + 12 ≤ 1032; omega) ?_ rfl
    refine v_dup dX0_init_29 rfl ?_
    refine v_callIN (M2 := MIX4) dX0_init_30 (by decide +kernel) tw97 rfl rfl ykiX4 ⟨rfl, rfl, by decide, by decide⟩ rfl (Nat.le_of_ble_eq_true rfl) ⟨by show 1 + 6 * i + 1 + 5 ≤ 145; omega, by show 24 + 42 * i + 12 + 30 ≤ 1032; omega⟩ (eiX4 (isHb hi2) (by show (mB ν i).1 + 1 = _; rw [hN]) hZ.new) ?_
    refine v_astJ (j := i) (t := 23) (tt := 20 + 6 * i) (Or.inr (Or.inl rfl)) rfl dX0_init_33 (by show _ < (mB ν i).1 + 1 + 5; rw [hN]; omega) rfl (nI_in hi2 (by decide)) (zix (by omega)) rfl (by show _ < (mB ν i).1 + 1 + 5; rw [hN]; omega) (isH_s (isHb hi2)).1.1 (by decide) ok_4 (Or.inl rfl) ?_
    refine v_iinc dX0_init_34 0 rfl (stp i) [0, 1] rfl (by decide) ?_
    refine v_goto dX0_init_37 (tgt := 15) (by decide) ?_
    rw [show 1 + 6 * i + 1 + 5 = 1 + 6 * (i + 1) by omega, show 24 + 42 * i + nf 4 + 30 = 24 + 42 * (i + 1) by show 24 + 42 * i + 12 + 30 = _; omega]
    exact acts_loop hn hz hf n (i + 1) (by omega)
def mAc (μ : Mu) : Mu := mB (mA μ 18 0) 24
theorem eiX0 {G : Gx} {μ : Mu} (hn : μ.1 = 19) (hz : Zr μ) : Ev G yX0_init MIX0 [.ref (gb G + 18)] μ none (mAc μ) 145 1032 := by
  refine Ev.of (by decide +kernel) rfl rfl (Nat.le_of_ble_eq_true rfl) ?_
  show V G MIX0 none _ _ _ 0 [(0, .ref (gb G + 18))] [] _ 0 0
  refine v_aload_n dX0_init_0 0 rfl rfl ?_
  refine v_objI dX0_init_1 tw162 tw63 tw64 (by decide) (Nat.le_of_ble_eq_true rfl) ?_
  refine v_aload_n dX0_init_4 0 rfl rfl ?_
  refine v_bipush dX0_init_5 (v := 24) (by decide) ?_
  refine v_newQ (t := 3) dX0_init_7 tw163 (by decide +kernel) rfl hz hn rfl (by decide) (by decide) (by decide +kernel) (by decide) rfl rfl (by decide) (by decide) ?_ rfl
  refine v_putR dX0_init_10 fsX0_11 (show 18 < μ.1 + 1 by omega) rfl (by decide) rfl (fun _ _ h => by cases h; rfl) rfl (fun _ => rfl) (fun _ => rfl) ?_
  refine v_iconst dX0_init_13 (v := nI 0) (by decide) ?_
  refine v_istore_n dX0_init_14 [0, 1] rfl (by decide) rfl ?_
  exact acts_loop (ν := mA μ 18 0) (by show μ.1 + 1 = 20; omega) (hz.arr (by omega)) (by show sf μ.2.1 18 0 18 0 = true; unfold sf; rw [if_pos rfl, if_pos rfl]) 24 0 rfl
abbrev MIX11 : Mx := (RX11, cX11_init, 2, rmk 4 199 1707 72, none, "<init>", true)
theorem ykiX11 : Yk yX11_init MIX11 0 := ⟨tw61, tw41, ⟨by decide +kernel, by decide +kernel⟩, by decide +kernel⟩
def s0 : Mu := (1, fun _ _ => false, fun _ _ => 0)
def s1 : Mu := mA s0 0 0
def s2 : Mu := mset (mTa 2 (mnew s1)) 0 1
def s3 : Mu := mset (mHo 4 (mnew s2)) 0 2
def s4 : Mu := mset (mHo 10 (mnew s3)) 0 3
def s5 : Mu := mA s4 0 4
def s6 : Mu := mA s5 0 5
def s7 : Mu := mset (mAc (mnew s6)) 0 6
def s8 : Mu := mnew s7
def p0 : Mu := mset (mnew s8) 164 0
def p1 : Mu := mset (mnew p0) 164 1
def p2 : Mu := mset (mnew p1) 164 2
def p3 : Mu := mset (mnew p2) 164 3
def p4 : Mu := mset (mnew p3) 164 4
def s10 : Mu := mset p4 0 7
def s11 : Mu := mset (mTa 170 (mnew s10)) 0 8
def s12 : Mu := mW s11 8
def s13 : Mu := mI2 s12 2
theorem n7 : s7.1 = 164 := by
  show (mB (mA (mnew s6) 18 0) 24).1 = 164
  rw [mB_1 rfl]
theorem n11 : s11.1 = 172 := by
  show s7.1 + 1 + 1 + 1 + 1 + 1 + 1 + 1 + 1 = 172
  rw [n7]
theorem n12 : s12.1 = 188 := mW_1 n11 8
theorem n13 : s13.1 = 200 := mI2_1 n12 2
theorem z0 : Zr s0 := fun _ _ _ => ⟨rfl, rfl⟩
theorem z1 : Zr s1 := z0.arr (by decide)
theorem z2 : Zr s2 := (z1.new.ta (by decide)).set (by decide)
theorem z3 : Zr s3 := (z2.new.ho (by decide)).set (by decide)
theorem z4 : Zr s4 := (z3.new.ho (by decide)).set (by decide)
theorem z5 : Zr s5 := z4.arr (by decide)
theorem z6 : Zr s6 := z5.arr (by decide)
theorem z7 : Zr s7 := Zr.set (k := 0) (j := 6) (mB_z (ν := mA (mnew s6) 18 0) rfl (z6.new.arr (by decide)) 24) (by rw [mB_1 rfl]; decide)
theorem z8 : Zr s8 := z7.new
theorem zp0 : Zr p0 := z8.new.set (by show 164 < s7.1 + 1 + 1; rw [n7]; decide)
theorem zp1 : Zr p1 := zp0.new.set (by show 164 < s7.1 + 1 + 1 + 1; rw [n7]; decide)
theorem zp2 : Zr p2 := zp1.new.set (by show 164 < s7.1 + 1 + 1 + 1 + 1; rw [n7]; decide)
theorem zp3 : Zr p3 := zp2.new.set (by show 164 < s7.1 + 1 + 1 + 1 + 1 + 1; rw [n7]; decide)
theorem zp4 : Zr p4 := zp3.new.set (by show 164 < s7.1 + 1 + 1 + 1 + 1 + 1 + 1; rw [n7]; decide)
theorem z10 : Zr s10 := zp4.set (by show 0 < s7.1 + 1 + 1 + 1 + 1 + 1 + 1; rw [n7]; decide)
theorem z11 : Zr s11 := (z10.new.ta (by show 170 < s7.1 + 1 + 1 + 1 + 1 + 1 + 1 + 1; rw [n7]; decide)).set (by show 0 < s7.1 + 1 + 1 + 1 + 1 + 1 + 1 + 1 + 1; rw [n7]; decide)
theorem z12 : Zr s12 := mW_z n11 z11 8
theorem z13 : Zr s13 := mI2_z n12 z12 2
theorem img_loop {G : Gx} {ν : Mu} (hn : ν.1 = 188) (hz : Zr ν) (hf : ν.2.1 0 4 = true) : ∀ (n i : Nat), i + n = 2 → V G MIX11 none (mI2 ν 2) 199 1707 170 [(1, .int (nI i)), (0, .ref (gb G + 0))] [] (mI2 ν i) (187 + 6 * i) (1623 + 42 * i)
  | 0, i, hi => by
    have h : i = 2 := hi
    subst h
    refine v_iload_n dX11_init_170 0 rfl rfl ?_
    refine v_iconst dX11_init_171 (v := nI 2) (by decide) ?_
    refine v_icmp_ge dX11_init_172 (tgt := 194) (by decide) (fun _ => ?_) (fun q => absurd (nI_le (Nat.le_refl 2) (by decide)) q)
    exact v_vret dX11_init_194 rfl rfl rfl rfl rfl
  | n + 1, i, hi => by
    have hi2 : i < 2 := by omega
    refine v_iload_n dX11_init_170 0 rfl rfl ?_
    refine v_iconst dX11_init_171 (v := nI 2) (by decide) ?_
    refine v_icmp_ge dX11_init_172 (tgt := 194) (by decide) (fun q => absurd q (nI_ge hi2 (by decide))) (fun _ => ?_)
    have hN := mI2_1 hn i
    have hZ := mI2_z hn hz i
    refine v_aload_n dX11_init_175 1 rfl rfl ?_
    refine v_get (v := .ref (gb G + 16)) dX11_init_176 fsX11_32 (by rw [hN]; omega) rfl (by decide) (fv_ref rfl (by show (mI2 ν i).2.1 0 4 = true; rw [mI2_f ν (by decide)]; exact hf)) ?_
    refine v_iload_n dX11_init_179 0 rfl rfl ?_
    refine v_new (ci := 4) dX11_init_180 tw94 tx95 tw43 ok_4 hZ hN (isH_s (isHi hi2)).1.1 (by decide) (df4 (isHi hi2)) rfl rfl (by show 187 + 6 * i + 1 ≤ 199; omega) (by show 1623 + 42 * i + 12 ≤ 1707; omega) ?_ rfl
    refine v_dup dX11_init_183 rfl ?_
    refine v_callIN (M2 := MIX4) dX11_init_184 (by decide +kernel) tw97 rfl rfl ykiX4 ⟨rfl, rfl, by decide, by decide⟩ rfl (Nat.le_of_ble_eq_true rfl) ⟨by show 187 + 6 * i + 1 + 5 ≤ 199; omega, by show 1623 + 42 * i + 12 + 30 ≤ 1707; omega⟩ (eiX4 (isHi hi2) (by show (mI2 ν i).1 + 1 = _; rw [hN]) hZ.new) ?_
    refine v_astJ (j := i) (t := 23) (tt := 188 + 6 * i) (Or.inr (Or.inl rfl)) rfl dX11_init_187 (by show _ < (mI2 ν i).1 + 1 + 5; rw [hN]; omega) rfl (nI_in hi2 (by decide)) (zix (by omega)) rfl (by show _ < (mI2 ν i).1 + 1 + 5; rw [hN]; omega) (isH_s (isHi hi2)).1.1 (by decide) ok_4 (Or.inl rfl) ?_
    refine v_iinc dX11_init_188 0 rfl (stp i) [0, 1] rfl (by decide) ?_
    refine v_goto dX11_init_191 (tgt := 170) (by decide) ?_
    rw [show 187 + 6 * i + 1 + 5 = 187 + 6 * (i + 1) by omega, show 1623 + 42 * i + nf 4 + 30 = 1623 + 42 * (i + 1) by show 1623 + 42 * i + 12 + 30 = _; omega]
    exact img_loop hn hz hf n (i + 1) (by omega)
theorem row_loop {G : Gx} {ν : Mu} (hn : ν.1 = 172) (hz : Zr ν) (hf : ν.2.1 0 0 = true) (hg : ν.2.1 0 4 = true) : ∀ (n i : Nat), i + n = 8 → V G MIX11 none (mI2 (mW ν 8) 2) 199 1707 143 [(1, .int (nI i)), (0, .ref (gb G + 0))] [] (mW ν i) (171 + 2 * i) (1279 + 43 * i)
  | 0, i, hi => by
    have h : i = 8 := hi
    subst h
    refine v_iload_n dX11_init_143 0 rfl rfl ?_
    refine v_bipush dX11_init_144 (v := nI 8) (by decide) ?_
    refine v_icmp_ge dX11_init_146 (tgt := 168) (by decide) (fun _ => ?_) (fun q => absurd (nI_le (Nat.le_refl 8) (by decide)) q)
    refine v_iconst dX11_init_168 (v := nI 0) (by decide) ?_
    refine v_istore_n dX11_init_169 [0, 1] rfl (by decide) rfl ?_
    exact img_loop (mW_1 hn 8) (mW_z hn hz 8) (by rw [mW_f ν (by decide)]; exact hg) 2 0 rfl
  | n + 1, i, hi => by
    have hi2 : i < 8 := by omega
    refine v_iload_n dX11_init_143 0 rfl rfl ?_
    refine v_bipush dX11_init_144 (v := nI 8) (by decide) ?_
    refine v_icmp_ge dX11_init_146 (tgt := 168) (by decide) (fun q => absurd q (nI_ge hi2 (by decide))) (fun _ => ?_)
    have hN := mW_1 hn i
    have hZ := mW_z hn hz i
    refine v_aload_n dX11_init_149 1 rfl rfl ?_
    refine v_get (v := .ref (gb G + 1)) dX11_init_150 fsX11_11 (by rw [hN]; omega) rfl (by decide) (fv_ref rfl (by show (mW ν i).2.1 0 0 = true; rw [mW_f ν (by decide)]; exact hf)) ?_
    refine v_iload_n dX11_init_153 0 rfl rfl ?_
    refine v_new (ci := 6) dX11_init_154 tw65 tx232 tw52 ok_6 hZ hN (isR_s (isRb hi2)).1.1 (by decide) (df6 (isRb hi2)) rfl rfl (by show 171 + 2 * i + 1 ≤ 199; omega) (by show 1279 + 43 * i + 3 ≤ 1707; omega) ?_ rfl
    refine v_dup dX11_init_157 rfl ?_
    refine v_callIN (M2 := MIX7) dX11_init_158 (by decide +kernel) tw234 rfl rfl ykiX7 ⟨rfl, rfl, by decide, by decide⟩ rfl (Nat.le_of_ble_eq_true rfl) ⟨by show 171 + 2 * i + 1 + 1 ≤ 199; omega, by show 1279 + 43 * i + 3 + 40 ≤ 1707; omega⟩ (eiX7 (isRb hi2) (by show (mW ν i).1 + 1 = _; rw [hN]) hZ.new) ?_
    refine v_astJ (j := i) (t := 22) (tt := 172 + 2 * i) (Or.inl rfl) rfl dX11_init_161 (by show _ < (mW ν i).1 + 1 + 1; rw [hN]; omega) rfl (nI_in hi2 (by decide)) (zix (by omega)) rfl (by show _ < (mW ν i).1 + 1 + 1; rw [hN]; omega) (isR_s (isRb hi2)).1.1 (by decide) ok_6 (Or.inl rfl) ?_
    refine v_iinc dX11_init_162 0 rfl (stp i) [0, 1] rfl (by decide) ?_
    refine v_goto dX11_init_165 (tgt := 143) (by decide) ?_
    rw [show 171 + 2 * i + 1 + 1 = 171 + 2 * (i + 1) by omega, show 1279 + 43 * i + nf 6 + 40 = 1279 + 43 * (i + 1) by show 1279 + 43 * i + 3 + 40 = _; omega]
    exact row_loop hn hz hf hg n (i + 1) (by omega)
theorem f7 {a : Nat} (ha : a < 18) (h0 : a ≠ 0) : s7.2.1 a = s6.2.1 a := by
  show sf (mB (mA (mnew s6) 18 0) 24).2.1 0 6 a = _
  rw [sf_ne h0, mB_f _ (by omega)]
  exact sf_ne (by omega)
theorem f7z : s7.2.1 0 = sf s6.2.1 0 6 0 := by
  show sf (mB (mA (mnew s6) 18 0) 24).2.1 0 6 0 = _
  funext b
  unfold sf
  rw [if_pos rfl, if_pos rfl, mB_f _ (by decide)]
  show (if b = 6 then true else sf s6.2.1 18 0 0 b) = _
  rw [sf_ne (by decide)]
theorem f11z : s11.2.1 0 = sf (sf s7.2.1 0 7) 0 8 0 := by
  show sf (mTa 170 (mnew s10)).2.1 0 8 0 = _
  funext b
  unfold sf
  rw [if_pos rfl, if_pos rfl, mT_f (by decide)]
  show (if b = 8 then true else sf (sf (sf (sf (sf (sf s7.2.1 164 0) 164 1) 164 2) 164 3) 164 4) 0 7 0 b) = _
  unfold sf
  rfl
theorem f00 : s11.2.1 0 0 = true := by
  rw [f11z]
  show s7.2.1 0 0 = true
  rw [f7z]
  rfl
theorem f04 : s11.2.1 0 4 = true := by
  rw [f11z]
  show s7.2.1 0 4 = true
  rw [f7z]
  rfl
theorem eiX11 (G : Gx) : Ev G yX11_init MIX11 [.ref (gb G + 0)] s0 none s13 199 1707 := by
  refine Ev.of (by decide +kernel) rfl rfl (Nat.le_of_ble_eq_true rfl) ?_
  show V G MIX11 none _ _ _ 0 [(0, .ref (gb G + 0))] [] _ 0 0
  refine v_aload_n dX11_init_0 0 rfl rfl ?_
  refine v_objI dX11_init_1 tw62 tw63 tw64 (by decide) (Nat.le_of_ble_eq_true rfl) ?_
  refine v_aload_n dX11_init_4 0 rfl rfl ?_
  refine v_bipush dX11_init_5 (v := 8) (by decide) ?_
  refine v_newQ (t := 2) dX11_init_7 tw65 (by decide +kernel) rfl z0 rfl rfl (by decide) (by decide) (by decide +kernel) (by decide) rfl rfl (by decide) (by decide) ?_ rfl
  refine v_putR dX11_init_10 fsX11_11 (Nat.le_of_ble_eq_true rfl) rfl (by decide) rfl (fun _ _ h => by cases h; rfl) rfl (fun _ => rfl) (fun _ => rfl) ?_
  show V G MIX11 none _ _ _ _ _ _ s1 _ _
  refine v_aload_n dX11_init_13 0 rfl rfl ?_
  refine v_new (ci := 7) dX11_init_14 tw67 tx68 tw42 ok_7 z1 rfl rfl (by decide) df7 rfl rfl (by decide) (by decide) ?_ rfl
  refine v_dup dX11_init_17 rfl ?_
  refine v_callIN (M2 := MIX8) dX11_init_18 (by decide +kernel) tw70 rfl rfl ykiX8 ⟨rfl, rfl, by decide, by decide⟩ rfl (Nat.le_of_ble_eq_true rfl) ⟨by decide, by decide⟩ (eiX8 rfl z1.new) ?_
  refine v_putR dX11_init_21 fsX11_18 (Nat.le_of_ble_eq_true rfl) rfl (by decide) rfl (fun _ _ h => by cases h; rfl) rfl (fun _ => rfl) (fun _ => rfl) ?_
  show V G MIX11 none _ _ _ _ _ _ s2 _ _
  refine v_aload_n dX11_init_24 0 rfl rfl ?_
  refine v_new (ci := 4) dX11_init_25 tw94 tx95 tw43 ok_4 z2 rfl rfl (by decide) (df4 (by unfold isH; decide +kernel)) rfl rfl (by decide) (by decide) ?_ rfl
  refine v_dup dX11_init_28 rfl ?_
  refine v_callIN (M2 := MIX4) dX11_init_29 (by decide +kernel) tw97 rfl rfl ykiX4 ⟨rfl, rfl, by decide, by decide⟩ rfl (Nat.le_of_ble_eq_true rfl) ⟨by decide, by decide⟩ (eiX4 (k := 4) (by unfold isH; decide +kernel) rfl z2.new) ?_
  refine v_putR dX11_init_32 fsX11_25 (Nat.le_of_ble_eq_true rfl) rfl (by decide) rfl (fun _ _ h => by cases h; rfl) rfl (fun _ => rfl) (fun _ => rfl) ?_
  show V G MIX11 none _ _ _ _ _ _ s3 _ _
  refine v_aload_n dX11_init_35 0 rfl rfl ?_
  refine v_new (ci := 4) dX11_init_36 tw94 tx95 tw43 ok_4 z3 rfl rfl (by decide) (df4 (by unfold isH; decide +kernel)) rfl rfl (by decide) (by decide) ?_ rfl
  refine v_dup dX11_init_39 rfl ?_
  refine v_callIN (M2 := MIX4) dX11_init_40 (by decide +kernel) tw97 rfl rfl ykiX4 ⟨rfl, rfl, by decide, by decide⟩ rfl (Nat.le_of_ble_eq_true rfl) ⟨by decide, by decide⟩ (eiX4 (k := 10) (by unfold isH; decide +kernel) rfl z3.new) ?_
  refine v_putR dX11_init_43 fsX11_29 (Nat.le_of_ble_eq_true rfl) rfl (by decide) rfl (fun _ _ h => by cases h; rfl) rfl (fun _ => rfl) (fun _ => rfl) ?_
  show V G MIX11 none _ _ _ _ _ _ s4 _ _
  refine v_aload_n dX11_init_46 0 rfl rfl ?_
  refine v_iconst dX11_init_47 (v := 2) (by decide) ?_
  refine v_newQ (t := 3) dX11_init_48 tw94 (by decide +kernel) rfl z4 rfl rfl (by decide) (by decide) (by decide +kernel) (by decide) rfl rfl (by decide) (by decide) ?_ rfl
  refine v_putR dX11_init_51 fsX11_32 (Nat.le_of_ble_eq_true rfl) rfl (by decide) rfl (fun _ _ h => by cases h; rfl) rfl (fun _ => rfl) (fun _ => rfl) ?_
  show V G MIX11 none _ _ _ _ _ _ s5 _ _
  refine v_aload_n dX11_init_54 0 rfl rfl ?_
  refine v_iconst dX11_init_55 (v := 2) (by decide) ?_
  refine v_newI (t := 1) dX11_init_56 rfl tx176 rfl rfl (fun _ _ h => h) z5 rfl rfl (by decide) (by decide) (by decide +kernel) (by decide) rfl rfl (by decide) (by decide) ?_ rfl
  refine v_putR dX11_init_58 fsX11_36 (Nat.le_of_ble_eq_true rfl) rfl (by decide) rfl (fun _ _ h => by cases h; rfl) rfl (fun _ => rfl) (fun _ => rfl) ?_
  show V G MIX11 none _ _ _ _ _ _ s6 _ _
  refine v_aload_n dX11_init_61 0 rfl rfl ?_
  refine v_new (ci := 0) dX11_init_62 tw157 tx158 tw44 ok_0 z6 rfl rfl (by decide) df0 rfl rfl (by decide) (by decide) ?_ rfl
  refine v_dup dX11_init_65 rfl ?_
  refine v_callI (M2 := MIX0) dX11_init_66 tw159 tw160 rfl rfl ykiX0 ⟨rfl, rfl, by decide, by decide⟩ rfl (Nat.le_of_ble_eq_true rfl) ⟨by decide, by decide⟩ (eiX0 rfl z6.new) ?_
  refine v_putR dX11_init_69 fsX11_43 (by show 0 < (mB (mA (mnew s6) 18 0) 24).1; rw [mB_1 rfl]; decide) rfl (by decide) rfl (fun _ _ h => by cases h; rfl) rfl (fun _ => rfl) (fun _ => rfl) ?_
  show V G MIX11 none _ _ _ _ _ _ s7 _ _
  refine v_aload_n dX11_init_72 0 rfl rfl ?_
  refine v_iconst dX11_init_73 (v := 5) (by decide) ?_
  refine v_newQ (t := 4) dX11_init_74 tw177 (by decide +kernel) rfl z7 n7 rfl (by decide) (by decide) (by decide +kernel) (by decide) rfl rfl (by decide) (by decide) ?_ rfl
  show V G MIX11 none _ _ _ _ _ _ s8 _ _
  refine v_dup dX11_init_77 rfl ?_
  refine v_iconst dX11_init_78 (v := nI 0) (by decide) ?_
  refine v_new (k := 165) (ci := 2) dX11_init_79 tw179 tx180 tw46 ok_2 z8 (by show s7.1 + 1 = 165; rw [n7]) rfl (by decide) (fun j hj => absurd hj (Nat.not_lt_zero _)) rfl rfl (by decide) (by decide) ?_ rfl
  refine v_dup dX11_init_82 rfl ?_
  refine v_callIN (M2 := MIX2) dX11_init_83 (by decide +kernel) tw182 rfl rfl ykiX2 ⟨rfl, rfl, by decide, by decide⟩ rfl (Nat.le_of_ble_eq_true rfl) ⟨by decide, by decide⟩ (eiX2 G 165 _) ?_
  refine v_astJ (j := 0) (t := 24) (tt := 165) (E := RX6) (Or.inr (Or.inr rfl)) rfl dX11_init_86 (by show _ < s7.1 + 1 + 1; rw [n7]; decide) rfl (nI_in (by decide) (by decide)) (by decide) rfl (by show _ < s7.1 + 1 + 1; rw [n7]; decide) rfl (by decide) ok_2 (Or.inr (by decide +kernel)) ?_
  show V G MIX11 none _ _ _ _ _ _ p0 _ _
  refine v_dup dX11_init_87 rfl ?_
  refine v_iconst dX11_init_88 (v := nI 1) (by decide) ?_
  refine v_new (k := 166) (ci := 9) dX11_init_89 tw189 tx190 tw47 ok_9 zp0 (by show s7.1 + 1 + 1 = 166; rw [n7]) rfl (by decide) (fun j hj => absurd hj (Nat.not_lt_zero _)) rfl rfl (by decide) (by decide) ?_ rfl
  refine v_dup dX11_init_92 rfl ?_
  refine v_callIN (M2 := MIX10) dX11_init_93 (by decide +kernel) tw192 rfl rfl ykiX10 ⟨rfl, rfl, by decide, by decide⟩ rfl (Nat.le_of_ble_eq_true rfl) ⟨by decide, by decide⟩ (eiX10 G 166 _) ?_
  refine v_astJ (j := 1) (t := 24) (tt := 166) (E := RX6) (Or.inr (Or.inr rfl)) rfl dX11_init_96 (by show _ < s7.1 + 1 + 1 + 1; rw [n7]; decide) rfl (nI_in (by decide) (by decide)) (by decide) rfl (by show _ < s7.1 + 1 + 1 + 1; rw [n7]; decide) rfl (by decide) ok_9 (Or.inr (by decide +kernel)) ?_
  show V G MIX11 none _ _ _ _ _ _ p1 _ _
  refine v_dup dX11_init_97 rfl ?_
  refine v_iconst dX11_init_98 (v := nI 2) (by decide) ?_
  refine v_new (k := 167) (ci := 5) dX11_init_99 tw196 tx197 tw48 ok_5 zp1 (by show s7.1 + 1 + 1 + 1 = 167; rw [n7]) rfl (by decide) (fun j hj => absurd hj (Nat.not_lt_zero _)) rfl rfl (by decide) (by decide) ?_ rfl
  refine v_dup dX11_init_102 rfl ?_
  refine v_callIN (M2 := MIX5) dX11_init_103 (by decide +kernel) tw199 rfl rfl ykiX5 ⟨rfl, rfl, by decide, by decide⟩ rfl (Nat.le_of_ble_eq_true rfl) ⟨by decide, by decide⟩ (eiX5 G 167 _) ?_
  refine v_astJ (j := 2) (t := 24) (tt := 167) (E := RX6) (Or.inr (Or.inr rfl)) rfl dX11_init_106 (by show _ < s7.1 + 1 + 1 + 1 + 1; rw [n7]; decide) rfl (nI_in (by decide) (by decide)) (by decide) rfl (by show _ < s7.1 + 1 + 1 + 1 + 1; rw [n7]; decide) rfl (by decide) ok_5 (Or.inr (by decide +kernel)) ?_
  show V G MIX11 none _ _ _ _ _ _ p2 _ _
  refine v_dup dX11_init_107 rfl ?_
  refine v_iconst dX11_init_108 (v := nI 3) (by decide) ?_
  refine v_new (k := 168) (ci := 1) dX11_init_109 tw203 tx204 tw49 ok_1 zp2 (by show s7.1 + 1 + 1 + 1 + 1 = 168; rw [n7]) rfl (by decide) (fun j hj => absurd hj (Nat.not_lt_zero _)) rfl rfl (by decide) (by decide) ?_ rfl
  refine v_dup dX11_init_112 rfl ?_
  refine v_callIN (M2 := MIX1) dX11_init_113 (by decide +kernel) tw206 rfl rfl ykiX1 ⟨rfl, rfl, by decide, by decide⟩ rfl (Nat.le_of_ble_eq_true rfl) ⟨by decide, by decide⟩ (eiX1 G 168 _) ?_
  refine v_astJ (j := 3) (t := 24) (tt := 168) (E := RX6) (Or.inr (Or.inr rfl)) rfl dX11_init_116 (by show _ < s7.1 + 1 + 1 + 1 + 1 + 1; rw [n7]; decide) rfl (nI_in (by decide) (by decide)) (by decide) rfl (by show _ < s7.1 + 1 + 1 + 1 + 1 + 1; rw [n7]; decide) rfl (by decide) ok_1 (Or.inr (by decide +kernel)) ?_
  show V G MIX11 none _ _ _ _ _ _ p3 _ _
  refine v_dup dX11_init_117 rfl ?_
  refine v_iconst dX11_init_118 (v := nI 4) (by decide) ?_
  refine v_new (k := 169) (ci := 3) dX11_init_119 tw210 tx211 tw50 ok_3 zp3 (by show s7.1 + 1 + 1 + 1 + 1 + 1 = 169; rw [n7]) rfl (by decide) (fun j hj => absurd hj (Nat.not_lt_zero _)) rfl rfl (by decide) (by decide) ?_ rfl
  refine v_dup dX11_init_122 rfl ?_
  refine v_callIN (M2 := MIX3) dX11_init_123 (by decide +kernel) tw213 rfl rfl ykiX3 ⟨rfl, rfl, by decide, by decide⟩ rfl (Nat.le_of_ble_eq_true rfl) ⟨by decide, by decide⟩ (eiX3 G 169 _) ?_
  refine v_astJ (j := 4) (t := 24) (tt := 169) (E := RX6) (Or.inr (Or.inr rfl)) rfl dX11_init_126 (by show _ < s7.1 + 1 + 1 + 1 + 1 + 1 + 1; rw [n7]; decide) rfl (nI_in (by decide) (by decide)) (by decide) rfl (by show _ < s7.1 + 1 + 1 + 1 + 1 + 1 + 1; rw [n7]; decide) rfl (by decide) ok_3 (Or.inr (by decide +kernel)) ?_
  show V G MIX11 none _ _ _ _ _ _ p4 _ _
  refine v_putR dX11_init_127 fsX11_64 (by show 0 < s7.1 + 1 + 1 + 1 + 1 + 1 + 1; rw [n7]; decide) rfl (by decide) rfl (fun _ _ h => by cases h; rfl) rfl (fun _ => rfl) (fun _ => rfl) ?_
  show V G MIX11 none _ _ _ _ _ _ s10 _ _
  refine v_aload_n dX11_init_130 0 rfl rfl ?_
  refine v_new (k := 170) (ci := 8) dX11_init_131 tw217 tx218 tw51 ok_8 z10 (by show s7.1 + 1 + 1 + 1 + 1 + 1 + 1 = 170; rw [n7]) rfl (by decide) df8 rfl rfl (by decide) (by decide) ?_ rfl
  refine v_dup dX11_init_134 rfl ?_
  refine v_callIN (M2 := MIX9) dX11_init_135 (by decide +kernel) tw220 rfl rfl ykiX9 ⟨rfl, rfl, by decide, by decide⟩ rfl (Nat.le_of_ble_eq_true rfl) ⟨by decide, by decide⟩ (eiX9 (by show s7.1 + 1 + 1 + 1 + 1 + 1 + 1 + 1 = 171; rw [n7]) z10.new) ?_
  refine v_putR dX11_init_138 fsX11_71 (by show 0 < s7.1 + 1 + 1 + 1 + 1 + 1 + 1 + 1 + 1; rw [n7]; decide) rfl (by decide) rfl (fun _ _ h => by cases h; rfl) rfl (fun _ => rfl) (fun _ => rfl) ?_
  show V G MIX11 none _ _ _ _ _ _ s11 _ _
  refine v_iconst dX11_init_141 (v := nI 0) (by decide) ?_
  refine v_istore_n dX11_init_142 [0, 1] rfl (by decide) rfl ?_
  exact row_loop n11 z11 f00 f04 8 0 rfl
abbrev MIX12 : Mx := (RX12, cX12_init, 2, rmk 1 12 1703 12, none, "<init>", true)
theorem ykiX12 : Yk yX12_init MIX12 0 := ⟨tw684, tw53, ⟨by decide +kernel, by decide +kernel⟩, by decide +kernel⟩
def t0 : Mu := mnew s13
def t1 : Mu := mA t0 200 0
def t2 : Mu := mA t1 200 1
def t3 : Mu := mA t2 200 2
def t4 : Mu := mA t3 200 3
def t5 : Mu := mA t4 200 5
def t6 : Mu := mA t5 200 13
def t7 : Mu := mA t6 200 14
def t8 : Mu := mA t7 200 15
def t9 : Mu := mA t8 200 16
def t10 : Mu := mA t9 200 18
def t11 : Mu := mA t10 200 19
def t12 : Mu := mA t11 200 20
def t13 : Mu := mLn t12 8
theorem nt0 : t0.1 = 201 := by
  show s13.1 + 1 = 201
  rw [n13]
theorem nt1 : t1.1 = 202 := congrArg (· + 1) nt0
theorem nt2 : t2.1 = 203 := congrArg (· + 1) nt1
theorem nt3 : t3.1 = 204 := congrArg (· + 1) nt2
theorem nt4 : t4.1 = 205 := congrArg (· + 1) nt3
theorem nt5 : t5.1 = 206 := congrArg (· + 1) nt4
theorem nt6 : t6.1 = 207 := congrArg (· + 1) nt5
theorem nt7 : t7.1 = 208 := congrArg (· + 1) nt6
theorem nt8 : t8.1 = 209 := congrArg (· + 1) nt7
theorem nt9 : t9.1 = 210 := congrArg (· + 1) nt8
theorem nt10 : t10.1 = 211 := congrArg (· + 1) nt9
theorem nt11 : t11.1 = 212 := congrArg (· + 1) nt10
theorem nt12 : t12.1 = 213 := congrArg (· + 1) nt11
theorem zt0 : Zr t0 := z13.new
theorem zt1 : Zr t1 := zt0.arr (by rw [nt0]; decide)
theorem zt2 : Zr t2 := zt1.arr (by rw [nt1]; decide)
theorem zt3 : Zr t3 := zt2.arr (by rw [nt2]; decide)
theorem zt4 : Zr t4 := zt3.arr (by rw [nt3]; decide)
theorem zt5 : Zr t5 := zt4.arr (by rw [nt4]; decide)
theorem zt6 : Zr t6 := zt5.arr (by rw [nt5]; decide)
theorem zt7 : Zr t7 := zt6.arr (by rw [nt6]; decide)
theorem zt8 : Zr t8 := zt7.arr (by rw [nt7]; decide)
theorem zt9 : Zr t9 := zt8.arr (by rw [nt8]; decide)
theorem zt10 : Zr t10 := zt9.arr (by rw [nt9]; decide)
theorem zt11 : Zr t11 := zt10.arr (by rw [nt10]; decide)
theorem zt12 : Zr t12 := zt11.arr (by rw [nt11]; decide)
theorem ft12 : t12.2.1 200 0 = true := rfl
theorem lane_loop {G : Gx} : ∀ (n i : Nat), i + n = 8 → V G MIX12 none t13 12 1703 103 [(1, .int (nI i)), (0, .ref (gb G + 200))] [] (mLn t12 i) 12 1703
  | 0, i, hi => by
    have h : i = 8 := hi
    subst h
    refine v_iload_n dX12_init_103 0 rfl rfl ?_
    refine v_bipush dX12_init_104 (v := nI 8) (by decide) ?_
    refine v_icmp_ge dX12_init_106 (tgt := 123) (by decide) (fun _ => ?_) (fun q => absurd (nI_le (Nat.le_refl 8) (by decide)) q)
    exact v_vret dX12_init_123 rfl rfl rfl rfl rfl
  | n + 1, i, hi => by
    have hi2 : i < 8 := by omega
    have hN : (mLn t12 i).1 = 213 := (mLn_1 t12 i).trans nt12
    refine v_iload_n dX12_init_103 0 rfl rfl ?_
    refine v_bipush dX12_init_104 (v := nI 8) (by decide) ?_
    refine v_icmp_ge dX12_init_106 (tgt := 123) (by decide) (fun q => absurd q (nI_ge hi2 (by decide))) (fun _ => ?_)
    refine v_aload_n dX12_init_109 1 rfl rfl ?_
    refine v_get (v := .ref (gb G + 201)) dX12_init_110 fsX12_7 (by rw [hN]; decide) rfl (by decide) (fv_ref rfl (by rw [mLn_f]; exact ft12)) ?_
    refine v_iload_n dX12_init_113 0 rfl rfl ?_
    refine v_ldc dX12_init_114 tw686 ?_
    refine v_iast (k := 201) (n := 8) dX12_init_116 (by rw [hN]; decide) rfl (nI_in hi2 (by decide)) ?_
    rw [zix (show i < 2 ^ 31 by omega)]
    refine v_iinc dX12_init_117 0 rfl (stp i) [0, 1] rfl (by decide) ?_
    refine v_goto dX12_init_120 (tgt := 103) (by decide) ?_
    exact lane_loop n (i + 1) (by omega)
theorem eiX12 (G : Gx) : Ev G yX12_init MIX12 [.ref (gb G + 200)] t0 none t13 12 1703 := by
  refine Ev.of (by decide +kernel) rfl rfl (Nat.le_of_ble_eq_true rfl) ?_
  show V G MIX12 none _ _ _ 0 [(0, .ref (gb G + 200))] [] _ 0 0
  refine v_aload_n dX12_init_0 0 rfl rfl ?_
  refine v_objI dX12_init_1 tw685 tw63 tw64 (by decide) (Nat.le_of_ble_eq_true rfl) ?_
  refine v_aload_n dX12_init_4 0 rfl rfl ?_
  refine v_bipush dX12_init_5 (v := 8) (by decide) ?_
  refine v_newI (t := 0) dX12_init_7 rfl tx93 rfl rfl (fun _ _ h => h) zt0 nt0 rfl (by decide) (by decide) (by decide +kernel) (by decide) rfl rfl (by decide) (by decide) ?_ rfl
  refine v_putR dX12_init_9 fsX12_7 (by show 200 < t0.1 + 1; rw [nt0]; decide) rfl (by decide) rfl (fun _ _ h => by cases h; rfl) rfl (fun _ => rfl) (fun _ => rfl) ?_
  show V G MIX12 none _ _ _ _ _ _ t1 _ _
  refine v_aload_n dX12_init_12 0 rfl rfl ?_
  refine v_bipush dX12_init_13 (v := 8) (by decide) ?_
  refine v_newI (t := 0) dX12_init_15 rfl tx93 rfl rfl (fun _ _ h => h) zt1 nt1 rfl (by decide) (by decide) (by decide +kernel) (by decide) rfl rfl (by decide) (by decide) ?_ rfl
  refine v_putR dX12_init_17 fsX12_13 (by show 200 < t1.1 + 1; rw [nt1]; decide) rfl (by decide) rfl (fun _ _ h => by cases h; rfl) rfl (fun _ => rfl) (fun _ => rfl) ?_
  show V G MIX12 none _ _ _ _ _ _ t2 _ _
  refine v_aload_n dX12_init_20 0 rfl rfl ?_
  refine v_sipush dX12_init_21 (v := 320) (by decide) ?_
  refine v_newI (t := 0) dX12_init_24 rfl tx93 rfl rfl (fun _ _ h => h) zt2 nt2 rfl (by decide) (by decide) (by decide +kernel) (by decide) rfl rfl (by decide) (by decide) ?_ rfl
  refine v_putR dX12_init_26 fsX12_16 (by show 200 < t2.1 + 1; rw [nt2]; decide) rfl (by decide) rfl (fun _ _ h => by cases h; rfl) rfl (fun _ => rfl) (fun _ => rfl) ?_
  show V G MIX12 none _ _ _ _ _ _ t3 _ _
  refine v_aload_n dX12_init_29 0 rfl rfl ?_
  refine v_bipush dX12_init_30 (v := 40) (by decide) ?_
  refine v_newI (t := 0) dX12_init_32 rfl tx93 rfl rfl (fun _ _ h => h) zt3 nt3 rfl (by decide) (by decide) (by decide +kernel) (by decide) rfl rfl (by decide) (by decide) ?_ rfl
  refine v_putR dX12_init_34 fsX12_19 (by show 200 < t3.1 + 1; rw [nt3]; decide) rfl (by decide) rfl (fun _ _ h => by cases h; rfl) rfl (fun _ => rfl) (fun _ => rfl) ?_
  show V G MIX12 none _ _ _ _ _ _ t4 _ _
  refine v_aload_n dX12_init_37 0 rfl rfl ?_
  refine v_bipush dX12_init_38 (v := 120) (by decide) ?_
  refine v_newI (t := 0) dX12_init_40 rfl tx93 rfl rfl (fun _ _ h => h) zt4 nt4 rfl (by decide) (by decide) (by decide +kernel) (by decide) rfl rfl (by decide) (by decide) ?_ rfl
  refine v_putR dX12_init_42 fsX12_22 (by show 200 < t4.1 + 1; rw [nt4]; decide) rfl (by decide) rfl (fun _ _ h => by cases h; rfl) rfl (fun _ => rfl) (fun _ => rfl) ?_
  show V G MIX12 none _ _ _ _ _ _ t5 _ _
  refine v_aload_n dX12_init_45 0 rfl rfl ?_
  refine v_bipush dX12_init_46 (v := 41) (by decide) ?_
  refine v_newI (t := 0) dX12_init_48 rfl tx93 rfl rfl (fun _ _ h => h) zt5 nt5 rfl (by decide) (by decide) (by decide +kernel) (by decide) rfl rfl (by decide) (by decide) ?_ rfl
  refine v_putR dX12_init_50 fsX12_25 (by show 200 < t5.1 + 1; rw [nt5]; decide) rfl (by decide) rfl (fun _ _ h => by cases h; rfl) rfl (fun _ => rfl) (fun _ => rfl) ?_
  show V G MIX12 none _ _ _ _ _ _ t6 _ _
  refine v_aload_n dX12_init_53 0 rfl rfl ?_
  refine v_bipush dX12_init_54 (v := 41) (by decide) ?_
  refine v_newI (t := 0) dX12_init_56 rfl tx93 rfl rfl (fun _ _ h => h) zt6 nt6 rfl (by decide) (by decide) (by decide +kernel) (by decide) rfl rfl (by decide) (by decide) ?_ rfl
  refine v_putR dX12_init_58 fsX12_28 (by show 200 < t6.1 + 1; rw [nt6]; decide) rfl (by decide) rfl (fun _ _ h => by cases h; rfl) rfl (fun _ => rfl) (fun _ => rfl) ?_
  show V G MIX12 none _ _ _ _ _ _ t7 _ _
  refine v_aload_n dX12_init_61 0 rfl rfl ?_
  refine v_bipush dX12_init_62 (v := 41) (by decide) ?_
  refine v_newI (t := 0) dX12_init_64 rfl tx93 rfl rfl (fun _ _ h => h) zt7 nt7 rfl (by decide) (by decide) (by decide +kernel) (by decide) rfl rfl (by decide) (by decide) ?_ rfl
  refine v_putR dX12_init_66 fsX12_31 (by show 200 < t7.1 + 1; rw [nt7]; decide) rfl (by decide) rfl (fun _ _ h => by cases h; rfl) rfl (fun _ => rfl) (fun _ => rfl) ?_
  show V G MIX12 none _ _ _ _ _ _ t8 _ _
  refine v_aload_n dX12_init_69 0 rfl rfl ?_
  refine v_sipush dX12_init_70 (v := 984) (by decide) ?_
  refine v_newI (t := 0) dX12_init_73 rfl tx93 rfl rfl (fun _ _ h => h) zt8 nt8 rfl (by decide) (by decide) (by decide +kernel) (by decide) rfl rfl (by decide) (by decide) ?_ rfl
  refine v_putR dX12_init_75 fsX12_34 (by show 200 < t8.1 + 1; rw [nt8]; decide) rfl (by decide) rfl (fun _ _ h => by cases h; rfl) rfl (fun _ => rfl) (fun _ => rfl) ?_
  show V G MIX12 none _ _ _ _ _ _ t9 _ _
  refine v_aload_n dX12_init_78 0 rfl rfl ?_
  refine v_bipush dX12_init_79 (v := 82) (by decide) ?_
  refine v_newI (t := 0) dX12_init_81 rfl tx93 rfl rfl (fun _ _ h => h) zt9 nt9 rfl (by decide) (by decide) (by decide +kernel) (by decide) rfl rfl (by decide) (by decide) ?_ rfl
  refine v_putR dX12_init_83 fsX12_37 (by show 200 < t9.1 + 1; rw [nt9]; decide) rfl (by decide) rfl (fun _ _ h => by cases h; rfl) rfl (fun _ => rfl) (fun _ => rfl) ?_
  show V G MIX12 none _ _ _ _ _ _ t10 _ _
  refine v_aload_n dX12_init_86 0 rfl rfl ?_
  refine v_iconst dX12_init_87 (v := 2) (by decide) ?_
  refine v_newI (t := 1) dX12_init_88 rfl tx176 rfl rfl (fun _ _ h => h) zt10 nt10 rfl (by decide) (by decide) (by decide +kernel) (by decide) rfl rfl (by decide) (by decide) ?_ rfl
  refine v_putR dX12_init_90 fsX12_40 (by show 200 < t10.1 + 1; rw [nt10]; decide) rfl (by decide) rfl (fun _ _ h => by cases h; rfl) rfl (fun _ => rfl) (fun _ => rfl) ?_
  show V G MIX12 none _ _ _ _ _ _ t11 _ _
  refine v_aload_n dX12_init_93 0 rfl rfl ?_
  refine v_bipush dX12_init_94 (v := 16) (by decide) ?_
  refine v_newI (t := 0) dX12_init_96 rfl tx93 rfl rfl (fun _ _ h => h) zt11 nt11 rfl (by decide) (by decide) (by decide +kernel) (by decide) rfl rfl (by decide) (by decide) ?_ rfl
  refine v_putR dX12_init_98 fsX12_44 (by show 200 < t11.1 + 1; rw [nt11]; decide) rfl (by decide) rfl (fun _ _ h => by cases h; rfl) rfl (fun _ => rfl) (fun _ => rfl) ?_
  show V G MIX12 none _ _ _ _ _ _ t12 _ _
  refine v_iconst dX12_init_101 (v := nI 0) (by decide) ?_
  refine v_istore_n dX12_init_102 [0, 1] rfl (by decide) rfl ?_
  exact lane_loop 8 0 rfl
