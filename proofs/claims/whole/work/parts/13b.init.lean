theorem tx93 : Cond.arrayClass .int ∈ tG := tG_mk 93 (by decide +kernel) (by decide +kernel)
abbrev MIX6 : Mx := (RX6, cX6_init, 1, rmk 1 0 0 12, none, "<init>", true)
theorem ykiX6 : Yk yX6_init MIX6 0 := ⟨tw186, tw45, ⟨by decide +kernel, by decide +kernel⟩, by decide +kernel⟩
theorem eiX6 (G : Gx) (k : Nat) (μ : Mu) : Ev G yX6_init MIX6 [.ref (gb G + k)] μ none μ 0 0 := by
  refine Ev.of (by decide +kernel) rfl rfl (Nat.le_of_ble_eq_true rfl) ?_
  show V G MIX6 none _ _ _ 0 [(0, .ref (gb G + k))] [] _ 0 0
  refine v_aload_n dX6_init_0 0 rfl rfl ?_
  refine v_objI dX6_init_1 tw187 tw63 tw64 (by decide) (Nat.le_of_ble_eq_true rfl) ?_
  exact v_vret dX6_init_4 rfl rfl rfl rfl rfl
abbrev MIX2 : Mx := (RX2, cX2_init, 1, rmk 2 0 0 32, none, "<init>", true)
theorem ykiX2 : Yk yX2_init MIX2 0 := ⟨tw183, tw46, ⟨by decide +kernel, by decide +kernel⟩, by decide +kernel⟩
theorem eiX2 (G : Gx) (k : Nat) (μ : Mu) : Ev G yX2_init MIX2 [.ref (gb G + k)] μ none μ 0 0 := by
  refine Ev.of (by decide +kernel) rfl rfl (Nat.le_of_ble_eq_true rfl) ?_
  show V G MIX2 none _ _ _ 0 [(0, .ref (gb G + k))] [] _ 0 0
  refine v_aload_n dX2_init_0 0 rfl rfl ?_
  refine v_callIN (M2 := MIX6) dX2_init_1 (by decide +kernel) tw185 rfl rfl ykiX6 ⟨rfl, rfl, by decide, by decide⟩ rfl (Nat.le_of_ble_eq_true rfl) ⟨by decide, by decide⟩ (eiX6 G k μ) ?_
  exact v_vret dX2_init_4 rfl rfl rfl rfl rfl
abbrev MIX10 : Mx := (RX10, cX10_init, 1, rmk 3 0 0 52, none, "<init>", true)
theorem ykiX10 : Yk yX10_init MIX10 0 := ⟨tw193, tw47, ⟨by decide +kernel, by decide +kernel⟩, by decide +kernel⟩
theorem eiX10 (G : Gx) (k : Nat) (μ : Mu) : Ev G yX10_init MIX10 [.ref (gb G + k)] μ none μ 0 0 := by
  refine Ev.of (by decide +kernel) rfl rfl (Nat.le_of_ble_eq_true rfl) ?_
  show V G MIX10 none _ _ _ 0 [(0, .ref (gb G + k))] [] _ 0 0
  refine v_aload_n dX10_init_0 0 rfl rfl ?_
  refine v_callIN (M2 := MIX2) dX10_init_1 (by decide +kernel) tw182 rfl rfl ykiX2 ⟨rfl, rfl, by decide, by decide⟩ rfl (Nat.le_of_ble_eq_true rfl) ⟨by decide, by decide⟩ (eiX2 G k μ) ?_
  exact v_vret dX10_init_4 rfl rfl rfl rfl rfl
abbrev MIX5 : Mx := (RX5, cX5_init, 1, rmk 3 0 0 52, none, "<init>", true)
theorem ykiX5 : Yk yX5_init MIX5 0 := ⟨tw200, tw48, ⟨by decide +kernel, by decide +kernel⟩, by decide +kernel⟩
theorem eiX5 (G : Gx) (k : Nat) (μ : Mu) : Ev G yX5_init MIX5 [.ref (gb G + k)] μ none μ 0 0 := by
  refine Ev.of (by decide +kernel) rfl rfl (Nat.le_of_ble_eq_true rfl) ?_
  show V G MIX5 none _ _ _ 0 [(0, .ref (gb G + k))] [] _ 0 0
  refine v_aload_n dX5_init_0 0 rfl rfl ?_
  refine v_callIN (M2 := MIX2) dX5_init_1 (by decide +kernel) tw182 rfl rfl ykiX2 ⟨rfl, rfl, by decide, by decide⟩ rfl (Nat.le_of_ble_eq_true rfl) ⟨by decide, by decide⟩ (eiX2 G k μ) ?_
  exact v_vret dX5_init_4 rfl rfl rfl rfl rfl
abbrev MIX1 : Mx := (RX1, cX1_init, 1, rmk 2 0 0 32, none, "<init>", true)
theorem ykiX1 : Yk yX1_init MIX1 0 := ⟨tw207, tw49, ⟨by decide +kernel, by decide +kernel⟩, by decide +kernel⟩
theorem eiX1 (G : Gx) (k : Nat) (μ : Mu) : Ev G yX1_init MIX1 [.ref (gb G + k)] μ none μ 0 0 := by
  refine Ev.of (by decide +kernel) rfl rfl (Nat.le_of_ble_eq_true rfl) ?_
  show V G MIX1 none _ _ _ 0 [(0, .ref (gb G + k))] [] _ 0 0
  refine v_aload_n dX1_init_0 0 rfl rfl ?_
  refine v_callIN (M2 := MIX6) dX1_init_1 (by decide +kernel) tw185 rfl rfl ykiX6 ⟨rfl, rfl, by decide, by decide⟩ rfl (Nat.le_of_ble_eq_true rfl) ⟨by decide, by decide⟩ (eiX6 G k μ) ?_
  exact v_vret dX1_init_4 rfl rfl rfl rfl rfl
abbrev MIX3 : Mx := (RX3, cX3_init, 1, rmk 3 0 0 52, none, "<init>", true)
theorem ykiX3 : Yk yX3_init MIX3 0 := ⟨tw214, tw50, ⟨by decide +kernel, by decide +kernel⟩, by decide +kernel⟩
theorem eiX3 (G : Gx) (k : Nat) (μ : Mu) : Ev G yX3_init MIX3 [.ref (gb G + k)] μ none μ 0 0 := by
  refine Ev.of (by decide +kernel) rfl rfl (Nat.le_of_ble_eq_true rfl) ?_
  show V G MIX3 none _ _ _ 0 [(0, .ref (gb G + k))] [] _ 0 0
  refine v_aload_n dX3_init_0 0 rfl rfl ?_
  refine v_callIN (M2 := MIX1) dX3_init_1 (by decide +kernel) tw206 rfl rfl ykiX1 ⟨rfl, rfl, by decide, by decide⟩ rfl (Nat.le_of_ble_eq_true rfl) ⟨by decide, by decide⟩ (eiX1 G k μ) ?_
  exact v_vret dX3_init_4 rfl rfl rfl rfl rfl
abbrev mA (μ : Mu) (k j : Nat) : Mu := mset (mnew μ) k j
def mHo (k : Nat) (μ : Mu) : Mu := mput (mput (mA (mA (mA (mA (mA μ k 0) k 1) k 2) k 3) k 4) k 8 (-1)) k 11 (-2)
def mRo (k : Nat) (μ : Mu) : Mu := mput (mA μ k 0) k 1 (-1)
def mTa (k : Nat) (μ : Mu) : Mu := mA μ k 0
theorem mHo_1 (k : Nat) (μ : Mu) : (mHo k μ).1 = μ.1 + 5 := rfl
theorem mRo_1 (k : Nat) (μ : Mu) : (mRo k μ).1 = μ.1 + 1 := rfl
theorem mTa_1 (k : Nat) (μ : Mu) : (mTa k μ).1 = μ.1 + 1 := rfl
theorem Zr.arr {μ : Mu} (h : Zr μ) {k j : Nat} (hk : k < μ.1) : Zr (mA μ k j) := h.new.set (Nat.lt_succ_of_lt hk)
theorem Zr.ho {μ : Mu} (h : Zr μ) {k : Nat} (hk : k < μ.1) : Zr (mHo k μ) := by
  have h1 := h.arr (j := 0) hk
  have h2 := h1.arr (j := 1) (k := k) (by show k < μ.1 + 1; omega)
  have h3 := h2.arr (j := 2) (k := k) (by show k < μ.1 + 1 + 1; omega)
  have h4 := h3.arr (j := 3) (k := k) (by show k < μ.1 + 1 + 1 + 1; omega)
  have h5 := h4.arr (j := 4) (k := k) (by show k < μ.1 + 1 + 1 + 1 + 1; omega)
  exact (h5.put (by show k < μ.1 + 1 + 1 + 1 + 1 + 1; omega)).put (by show k < μ.1 + 1 + 1 + 1 + 1 + 1; omega)
theorem Zr.ro {μ : Mu} (h : Zr μ) {k : Nat} (hk : k < μ.1) : Zr (mRo k μ) := (h.arr hk).put (by show k < μ.1 + 1; omega)
theorem Zr.ta {μ : Mu} (h : Zr μ) {k : Nat} (hk : k < μ.1) : Zr (mTa k μ) := h.arr hk
abbrev MIX4 : Mx := (RX4, cX4_init, 1, rmk 1 5 30 12, none, "<init>", true)
theorem ykiX4 : Yk yX4_init MIX4 0 := ⟨tw98, tw43, ⟨by decide +kernel, by decide +kernel⟩, by decide +kernel⟩
theorem eiX4 {G : Gx} {k : Nat} {μ : Mu} (hh : isH k) (hn : μ.1 = k + 1) (hz : Zr μ) : Ev G yX4_init MIX4 [.ref (gb G + k)] μ none (mHo k μ) 5 30 := by
  obtain ⟨⟨q0, q1, q2, q3, q4, q5⟩, -⟩ := isH_s hh
  obtain ⟨⟨r0, r1, r2, r3, r4⟩, -, -, -, r8, -, -, r11⟩ := isH_r hh
  refine Ev.of (by decide +kernel) rfl rfl (Nat.le_of_ble_eq_true rfl) ?_
  show V G MIX4 none _ _ _ 0 [(0, .ref (gb G + k))] [] _ 0 0
  refine v_aload_n dX4_init_0 0 rfl rfl ?_
  refine v_objI dX4_init_1 tw99 tw63 tw64 (by decide) (Nat.le_of_ble_eq_true rfl) ?_
  refine v_aload_n dX4_init_4 0 rfl rfl ?_
  refine v_bipush dX4_init_5 (v := 6) (by decide) ?_
  refine v_newI (t := 0) dX4_init_7 rfl tx93 rfl rfl (fun _ _ h => h) hz (show _ = k + 1 by show μ.1 = _; omega) (by rw [q1]) (by decide) (by decide) (by decide +kernel) (by decide) rfl rfl (by decide) (by decide) ?_ rfl
  refine v_putR dX4_init_9 fsX4_9 (show k < μ.1 + 1 by omega) q0 (by decide) r0 (fun _ _ h => by cases h; rfl) rfl (fun _ => rfl) (fun _ => rfl) ?_
  refine v_aload_n dX4_init_12 0 rfl rfl ?_
  refine v_bipush dX4_init_13 (v := 6) (by decide) ?_
  refine v_newI (t := 0) dX4_init_15 rfl tx93 rfl rfl (fun _ _ h => h) (hz.arr (j := 0) (k := k) (by show k < μ.1; omega)) (show _ = k + 2 by show μ.1 + 1 = _; omega) (by rw [q2]) (by decide) (by decide) (by decide +kernel) (by decide) rfl rfl (by decide) (by decide) ?_ rfl
  refine v_putR dX4_init_17 fsX4_13 (show k < μ.1 + 1 + 1 by omega) q0 (by decide) r1 (fun _ _ h => by cases h; rfl) rfl (fun _ => rfl) (fun _ => rfl) ?_
  refine v_aload_n dX4_init_20 0 rfl rfl ?_
  refine v_bipush dX4_init_21 (v := 6) (by decide) ?_
  refine v_newI (t := 0) dX4_init_23 rfl tx93 rfl rfl (fun _ _ h => h) ((hz.arr (j := 0) (k := k) (by show k < μ.1; omega)).arr (j := 1) (k := k) (by show k < μ.1 + 1; omega)) (show _ = k + 3 by show μ.1 + 1 + 1 = _; omega) (by rw [q3]) (by decide) (by decide) (by decide +kernel) (by decide) rfl rfl (by decide) (by decide) ?_ rfl
  refine v_putR dX4_init_25 fsX4_16 (show k < μ.1 + 1 + 1 + 1 by omega) q0 (by decide) r2 (fun _ _ h => by cases h; rfl) rfl (fun _ => rfl) (fun _ => rfl) ?_
  refine v_aload_n dX4_init_28 0 rfl rfl ?_
  refine v_bipush dX4_init_29 (v := 6) (by decide) ?_
  refine v_newI (t := 0) dX4_init_31 rfl tx93 rfl rfl (fun _ _ h => h) (((hz.arr (j := 0) (k := k) (by show k < μ.1; omega)).arr (j := 1) (k := k) (by show k < μ.1 + 1; omega)).arr (j := 2) (k := k) (by show k < μ.1 + 1 + 1; omega)) (show _ = k + 4 by show μ.1 + 1 + 1 + 1 = _; omega) (by rw [q4]) (by decide) (by decide) (by decide +kernel) (by decide) rfl rfl (by decide) (by decide) ?_ rfl
  refine v_putR dX4_init_33 fsX4_19 (show k < μ.1 + 1 + 1 + 1 + 1 by omega) q0 (by decide) r3 (fun _ _ h => by cases h; rfl) rfl (fun _ => rfl) (fun _ => rfl) ?_
  refine v_aload_n dX4_init_36 0 rfl rfl ?_
  refine v_bipush dX4_init_37 (v := 6) (by decide) ?_
  refine v_newI (t := 0) dX4_init_39 rfl tx93 rfl rfl (fun _ _ h => h) ((((hz.arr (j := 0) (k := k) (by show k < μ.1; omega)).arr (j := 1) (k := k) (by show k < μ.1 + 1; omega)).arr (j := 2) (k := k) (by show k < μ.1 + 1 + 1; omega)).arr (j := 3) (k := k) (by show k < μ.1 + 1 + 1 + 1; omega)) (show _ = k + 5 by show μ.1 + 1 + 1 + 1 + 1 = _; omega) (by rw [q5]) (by decide) (by decide) (by decide +kernel) (by decide) rfl rfl (by decide) (by decide) ?_ rfl
  refine v_putR dX4_init_41 fsX4_22 (show k < μ.1 + 1 + 1 + 1 + 1 + 1 by omega) q0 (by decide) r4 (fun _ _ h => by cases h; rfl) rfl (fun _ => rfl) (fun _ => rfl) ?_
  refine v_aload_n dX4_init_44 0 rfl rfl ?_
  refine v_iconst dX4_init_45 (v := -1) (by decide) ?_
  refine v_put dX4_init_46 fsX4_25 (show k < μ.1 + 1 + 1 + 1 + 1 + 1 by omega) q0 (by decide) r8 rfl rfl ?_
  refine v_aload_n dX4_init_49 0 rfl rfl ?_
  refine v_bipush dX4_init_50 (v := -2) (by decide) ?_
  refine v_put dX4_init_52 fsX4_29 (show k < μ.1 + 1 + 1 + 1 + 1 + 1 by omega) q0 (by decide) r11 rfl rfl ?_
  exact v_vret dX4_init_55 rfl rfl rfl rfl rfl
abbrev MIX7 : Mx := (RX7, cX7_init, 1, rmk 1 1 40 12, none, "<init>", true)
theorem ykiX7 : Yk yX7_init MIX7 0 := ⟨tw235, tw52, ⟨by decide +kernel, by decide +kernel⟩, by decide +kernel⟩
theorem eiX7 {G : Gx} {k : Nat} {μ : Mu} (hh : isR k) (hn : μ.1 = k + 1) (hz : Zr μ) : Ev G yX7_init MIX7 [.ref (gb G + k)] μ none (mRo k μ) 1 40 := by
  obtain ⟨⟨q0, q1⟩, -, -, r0, r1, -⟩ := isR_s hh
  refine Ev.of (by decide +kernel) rfl rfl (Nat.le_of_ble_eq_true rfl) ?_
  show V G MIX7 none _ _ _ 0 [(0, .ref (gb G + k))] [] _ 0 0
  refine v_aload_n dX7_init_0 0 rfl rfl ?_
  refine v_objI dX7_init_1 tw236 tw63 tw64 (by decide) (Nat.le_of_ble_eq_true rfl) ?_
  refine v_aload_n dX7_init_4 0 rfl rfl ?_
  refine v_bipush dX7_init_5 (v := 40) (by decide) ?_
  refine v_newI (t := 0) dX7_init_7 rfl tx93 rfl rfl (fun _ _ h => h) hz hn q1 (by decide) (by decide) (by decide +kernel) (by decide) rfl rfl (by decide) (by decide) ?_ rfl
  refine v_putR dX7_init_9 fsX7_9 (show k < μ.1 + 1 by omega) q0 (by decide) r0 (fun _ _ h => by cases h; rfl) rfl (fun _ => rfl) (fun _ => rfl) ?_
  refine v_aload_n dX7_init_12 0 rfl rfl ?_
  refine v_iconst dX7_init_13 (v := -1) (by decide) ?_
  refine v_put dX7_init_14 fsX7_13 (show k < μ.1 + 1 by omega) q0 (by decide) r1 rfl rfl ?_
  exact v_vret dX7_init_17 rfl rfl rfl rfl rfl
abbrev MIX8 : Mx := (RX8, cX8_init, 1, rmk 1 1 120 12, none, "<init>", true)
theorem ykiX8 : Yk yX8_init MIX8 0 := ⟨tw71, tw42, ⟨by decide +kernel, by decide +kernel⟩, by decide +kernel⟩
theorem eiX8 {G : Gx} {μ : Mu} (hn : μ.1 = 3) (hz : Zr μ) : Ev G yX8_init MIX8 [.ref (gb G + 2)] μ none (mTa 2 μ) 1 120 := by
  refine Ev.of (by decide +kernel) rfl rfl (Nat.le_of_ble_eq_true rfl) ?_
  show V G MIX8 none _ _ _ 0 [(0, .ref (gb G + 2))] [] _ 0 0
  refine v_aload_n dX8_init_0 0 rfl rfl ?_
  refine v_objI dX8_init_1 tw72 tw63 tw64 (by decide) (Nat.le_of_ble_eq_true rfl) ?_
  refine v_aload_n dX8_init_4 0 rfl rfl ?_
  refine v_bipush dX8_init_5 (v := 120) (by decide) ?_
  refine v_newI (t := 0) dX8_init_7 rfl tx93 rfl rfl (fun _ _ h => h) hz hn rfl (by decide) (by decide) (by decide +kernel) (by decide) rfl rfl (by decide) (by decide) ?_ rfl
  refine v_putR dX8_init_9 fsX8_9 (show 2 < μ.1 + 1 by omega) rfl (by decide) rfl (fun _ _ h => by cases h; rfl) rfl (fun _ => rfl) (fun _ => rfl) ?_
  exact v_vret dX8_init_12 rfl rfl rfl rfl rfl
abbrev MIX9 : Mx := (RX9, cX9_init, 1, rmk 1 1 16 12, none, "<init>", true)
theorem ykiX9 : Yk yX9_init MIX9 0 := ⟨tw221, tw51, ⟨by decide +kernel, by decide +kernel⟩, by decide +kernel⟩
theorem eiX9 {G : Gx} {μ : Mu} (hn : μ.1 = 171) (hz : Zr μ) : Ev G yX9_init MIX9 [.ref (gb G + 170)] μ none (mTa 170 μ) 1 16 := by
  refine Ev.of (by decide +kernel) rfl rfl (Nat.le_of_ble_eq_true rfl) ?_
  show V G MIX9 none _ _ _ 0 [(0, .ref (gb G + 170))] [] _ 0 0
  refine v_aload_n dX9_init_0 0 rfl rfl ?_
  refine v_objI dX9_init_1 tw222 tw63 tw64 (by decide) (Nat.le_of_ble_eq_true rfl) ?_
  refine v_aload_n dX9_init_4 0 rfl rfl ?_
  refine v_bipush dX9_init_5 (v := 16) (by decide) ?_
  refine v_newI (t := 0) dX9_init_7 rfl tx93 rfl rfl (fun _ _ h => h) hz hn rfl (by decide) (by decide) (by decide +kernel) (by decide) rfl rfl (by decide) (by decide) ?_ rfl
  refine v_putR dX9_init_9 fsX9_9 (show 170 < μ.1 + 1 by omega) rfl (by decide) rfl (fun _ _ h => by cases h; rfl) rfl (fun _ => rfl) (fun _ => rfl) ?_
  exact v_vret dX9_init_12 rfl rfl rfl rfl rfl
