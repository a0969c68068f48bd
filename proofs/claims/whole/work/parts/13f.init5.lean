abbrev MIX12 : Mx := (RX12, cX12_init, 2, rmk 1 12 1703 12, none, "<init>", true)
theorem ykiX12 : Yk yX12_init MIX12 0 := ⟨tw684, tw53, ⟨by decide +kernel, by decide +kernel⟩, by decide +kernel⟩
def t0 : Mu := mnew s13
def t1 : Mu := mA t0 200 0
def t2 : Mu := mA t1 200 1
def t3 : Mu := mA t2 200 2
def t4 : Mu := mA t3 200 3
def t5 : Mu := mA t4 200 5
def t6 : Mu := mA t5 200 13
def t7 : Mu := mA t6 200 14
def t8 : Mu := mA t7 200 15
def t9 : Mu := mA t8 200 16
def t10 : Mu := mA t9 200 18
def t11 : Mu := mA t10 200 19
def t12 : Mu := mA t11 200 20
def t13 : Mu := mLn t12 8
theorem nt0 : t0.1 = 201 := by
  unfold t0
  rw [mnew_1, cn13]
theorem nt1 : t1.1 = 202 := by
  unfold t1
  rw [mset_1, mnew_1, nt0]
theorem nt2 : t2.1 = 203 := by
  unfold t2
  rw [mset_1, mnew_1, nt1]
theorem nt3 : t3.1 = 204 := by
  unfold t3
  rw [mset_1, mnew_1, nt2]
theorem nt4 : t4.1 = 205 := by
  unfold t4
  rw [mset_1, mnew_1, nt3]
theorem nt5 : t5.1 = 206 := by
  unfold t5
  rw [mset_1, mnew_1, nt4]
theorem nt6 : t6.1 = 207 := by
  unfold t6
  rw [mset_1, mnew_1, nt5]
theorem nt7 : t7.1 = 208 := by
  unfold t7
  rw [mset_1, mnew_1, nt6]
theorem nt8 : t8.1 = 209 := by
  unfold t8
  rw [mset_1, mnew_1, nt7]
theorem nt9 : t9.1 = 210 := by
  unfold t9
  rw [mset_1, mnew_1, nt8]
theorem nt10 : t10.1 = 211 := by
  unfold t10
  rw [mset_1, mnew_1, nt9]
theorem nt11 : t11.1 = 212 := by
  unfold t11
  rw [mset_1, mnew_1, nt10]
theorem nt12 : t12.1 = 213 := by
  unfold t12
  rw [mset_1, mnew_1, nt11]
theorem zt0 : Zr t0 := by
  unfold t0
  exact zs13.new
theorem zt1 : Zr t1 := by
  unfold t1
  exact zt0.arr (by rw [nt0]; decide)
theorem zt2 : Zr t2 := by
  unfold t2
  exact zt1.arr (by rw [nt1]; decide)
theorem zt3 : Zr t3 := by
  unfold t3
  exact zt2.arr (by rw [nt2]; decide)
theorem zt4 : Zr t4 := by
  unfold t4
  exact zt3.arr (by rw [nt3]; decide)
theorem zt5 : Zr t5 := by
  unfold t5
  exact zt4.arr (by rw [nt4]; decide)
theorem zt6 : Zr t6 := by
  unfold t6
  exact zt5.arr (by rw [nt5]; decide)
theorem zt7 : Zr t7 := by
  unfold t7
  exact zt6.arr (by rw [nt6]; decide)
theorem zt8 : Zr t8 := by
  unfold t8
  exact zt7.arr (by rw [nt7]; decide)
theorem zt9 : Zr t9 := by
  unfold t9
  exact zt8.arr (by rw [nt8]; decide)
theorem zt10 : Zr t10 := by
  unfold t10
  exact zt9.arr (by rw [nt9]; decide)
theorem zt11 : Zr t11 := by
  unfold t11
  exact zt10.arr (by rw [nt10]; decide)
theorem zt12 : Zr t12 := by
  unfold t12
  exact zt11.arr (by rw [nt11]; decide)
theorem t1_e : mset (mnew t0) 200 0 = t1 := by rw [t1]
theorem t2_e : mset (mnew t1) 200 1 = t2 := by rw [t2]
theorem t3_e : mset (mnew t2) 200 2 = t3 := by rw [t3]
theorem t4_e : mset (mnew t3) 200 3 = t4 := by rw [t4]
theorem t5_e : mset (mnew t4) 200 5 = t5 := by rw [t5]
theorem t6_e : mset (mnew t5) 200 13 = t6 := by rw [t6]
theorem t7_e : mset (mnew t6) 200 14 = t7 := by rw [t7]
theorem t8_e : mset (mnew t7) 200 15 = t8 := by rw [t8]
theorem t9_e : mset (mnew t8) 200 16 = t9 := by rw [t9]
theorem t10_e : mset (mnew t9) 200 18 = t10 := by rw [t10]
theorem t11_e : mset (mnew t10) 200 19 = t11 := by rw [t11]
theorem t12_e : mset (mnew t11) 200 20 = t12 := by rw [t12]
theorem t13_e : mLn t12 8 = t13 := by rw [t13]
theorem ft12 : t12.2.1 200 0 = true := by decide +kernel
theorem lane_loop {G : Gx} : ∀ (n i : Nat), i + n = 8 → V G MIX12 none (mLn t12 8) 12 1703 103 [(1, .int (nI i)), (0, .ref (gb G + 200))] [] (mLn t12 i) 12 1703
  | 0, i, hi => by
    have h : i = 8 := hi
    subst h
    refine v_iload_n dX12_init_103 0 rfl rfl ?_
    refine v_bipush dX12_init_104 (v := nI 8) (by decide) ?_
    refine v_icmp_ge dX12_init_106 (tgt := 123) (by decide) (fun _ => ?_) (fun q => absurd (nI_le (Nat.le_refl 8) (by decide)) q)
    exact v_vret dX12_init_123 rfl rfl rfl rfl rfl
  | n + 1, i, hi => by
    have hi2 : i < 8 := by omega
    have hN : (mLn t12 i).1 = 213 := (mLn_1 t12 i).trans nt12
    refine v_iload_n dX12_init_103 0 rfl rfl ?_
    refine v_bipush dX12_init_104 (v := nI 8) (by decide) ?_
    refine v_icmp_ge dX12_init_106 (tgt := 123) (by decide) (fun q => absurd q (nI_ge hi2 (by decide))) (fun _ => ?_)
    refine v_aload_n dX12_init_109 1 rfl rfl ?_
    refine v_get (v := .ref (gb G + 201)) dX12_init_110 fsX12_7 (by rw [hN]; decide) rfl (by decide) (fv_ref rfl (by rw [mLn_f]; exact ft12)) ?_
    refine v_iload_n dX12_init_113 0 rfl rfl ?_
    refine v_ldc dX12_init_114 tw686 ?_
    refine v_iast (k := 201) (n := 8) dX12_init_116 (by rw [hN]; decide) rfl (nI_in hi2 (by decide)) ?_
    rw [zix (show i < 2 ^ 31 by omega)]
    refine v_iinc dX12_init_117 0 rfl (stp i) [0, 1] rfl (by decide) ?_
    refine v_goto dX12_init_120 (tgt := 103) (by decide) ?_
    exact lane_loop n (i + 1) (by omega)
theorem eiX12 (G : Gx) : Ev G yX12_init MIX12 [.ref (gb G + 200)] t0 none t13 12 1703 := by
  refine Ev.of (by decide +kernel) rfl rfl (Nat.le_of_ble_eq_true rfl) ?_
  show V G MIX12 none _ _ _ 0 [(0, .ref (gb G + 200))] [] _ 0 0
  refine v_aload_n dX12_init_0 0 rfl rfl ?_
  refine v_objI dX12_init_1 tw685 tw63 tw64 (by decide) (Nat.le_of_ble_eq_true rfl) ?_
  refine v_aload_n dX12_init_4 0 rfl rfl ?_
  refine v_bipush dX12_init_5 (v := 8) (by decide) ?_
  refine v_newI (t := 0) dX12_init_7 rfl tx93 rfl rfl (fun _ _ h => h) zt0 nt0 rfl (by decide) (by decide) (by decide +kernel) (by decide) rfl rfl (by decide) (by decide) ?_ rfl
  refine v_putR dX12_init_9 fsX12_7 (by rw [mnew_1, nt0]; decide) rfl (by decide) rfl (fun _ _ h => by cases h; rfl) rfl (fun _ => rfl) (fun _ => rfl) ?_
  rw [t1_e]
  refine v_aload_n dX12_init_12 0 rfl rfl ?_
  refine v_bipush dX12_init_13 (v := 8) (by decide) ?_
  refine v_newI (t := 0) dX12_init_15 rfl tx93 rfl rfl (fun _ _ h => h) zt1 nt1 rfl (by decide) (by decide) (by decide +kernel) (by decide) rfl rfl (by decide) (by decide) ?_ rfl
  refine v_putR dX12_init_17 fsX12_13 (by rw [mnew_1, nt1]; decide) rfl (by decide) rfl (fun _ _ h => by cases h; rfl) rfl (fun _ => rfl) (fun _ => rfl) ?_
  rw [t2_e]
  refine v_aload_n dX12_init_20 0 rfl rfl ?_
  refine v_sipush dX12_init_21 (v := 320) (by decide) ?_
  refine v_newI (t := 0) dX12_init_24 rfl tx93 rfl rfl (fun _ _ h => h) zt2 nt2 rfl (by decide) (by decide) (by decide +kernel) (by decide) rfl rfl (by decide) (by decide) ?_ rfl
  refine v_putR dX12_init_26 fsX12_16 (by rw [mnew_1, nt2]; decide) rfl (by decide) rfl (fun _ _ h => by cases h; rfl) rfl (fun _ => rfl) (fun _ => rfl) ?_
  rw [t3_e]
  refine v_aload_n dX12_init_29 0 rfl rfl ?_
  refine v_bipush dX12_init_30 (v := 40) (by decide) ?_
  refine v_newI (t := 0) dX12_init_32 rfl tx93 rfl rfl (fun _ _ h => h) zt3 nt3 rfl (by decide) (by decide) (by decide +kernel) (by decide) rfl rfl (by decide) (by decide) ?_ rfl
  refine v_putR dX12_init_34 fsX12_19 (by rw [mnew_1, nt3]; decide) rfl (by decide) rfl (fun _ _ h => by cases h; rfl) rfl (fun _ => rfl) (fun _ => rfl) ?_
  rw [t4_e]
  refine v_aload_n dX12_init_37 0 rfl rfl ?_
  refine v_bipush dX12_init_38 (v := 120) (by decide) ?_
  refine v_newI (t := 0) dX12_init_40 rfl tx93 rfl rfl (fun _ _ h => h) zt4 nt4 rfl (by decide) (by decide) (by decide +kernel) (by decide) rfl rfl (by decide) (by decide) ?_ rfl
  refine v_putR dX12_init_42 fsX12_22 (by rw [mnew_1, nt4]; decide) rfl (by decide) rfl (fun _ _ h => by cases h; rfl) rfl (fun _ => rfl) (fun _ => rfl) ?_
  rw [t5_e]
  refine v_aload_n dX12_init_45 0 rfl rfl ?_
  refine v_bipush dX12_init_46 (v := 41) (by decide) ?_
  refine v_newI (t := 0) dX12_init_48 rfl tx93 rfl rfl (fun _ _ h => h) zt5 nt5 rfl (by decide) (by decide) (by decide +kernel) (by decide) rfl rfl (by decide) (by decide) ?_ rfl
  refine v_putR dX12_init_50 fsX12_25 (by rw [mnew_1, nt5]; decide) rfl (by decide) rfl (fun _ _ h => by cases h; rfl) rfl (fun _ => rfl) (fun _ => rfl) ?_
  rw [t6_e]
  refine v_aload_n dX12_init_53 0 rfl rfl ?_
  refine v_bipush dX12_init_54 (v := 41) (by decide) ?_
  refine v_newI (t := 0) dX12_init_56 rfl tx93 rfl rfl (fun _ _ h => h) zt6 nt6 rfl (by decide) (by decide) (by decide +kernel) (by decide) rfl rfl (by decide) (by decide) ?_ rfl
  refine v_putR dX12_init_58 fsX12_28 (by rw [mnew_1, nt6]; decide) rfl (by decide) rfl (fun _ _ h => by cases h; rfl) rfl (fun _ => rfl) (fun _ => rfl) ?_
  rw [t7_e]
  refine v_aload_n dX12_init_61 0 rfl rfl ?_
  refine v_bipush dX12_init_62 (v := 41) (by decide) ?_
  refine v_newI (t := 0) dX12_init_64 rfl tx93 rfl rfl (fun _ _ h => h) zt7 nt7 rfl (by decide) (by decide) (by decide +kernel) (by decide) rfl rfl (by decide) (by decide) ?_ rfl
  refine v_putR dX12_init_66 fsX12_31 (by rw [mnew_1, nt7]; decide) rfl (by decide) rfl (fun _ _ h => by cases h; rfl) rfl (fun _ => rfl) (fun _ => rfl) ?_
  rw [t8_e]
  refine v_aload_n dX12_init_69 0 rfl rfl ?_
  refine v_sipush dX12_init_70 (v := 984) (by decide) ?_
  refine v_newI (t := 0) dX12_init_73 rfl tx93 rfl rfl (fun _ _ h => h) zt8 nt8 rfl (by decide) (by decide) (by decide +kernel) (by decide) rfl rfl (by decide) (by decide) ?_ rfl
  refine v_putR dX12_init_75 fsX12_34 (by rw [mnew_1, nt8]; decide) rfl (by decide) rfl (fun _ _ h => by cases h; rfl) rfl (fun _ => rfl) (fun _ => rfl) ?_
  rw [t9_e]
  refine v_aload_n dX12_init_78 0 rfl rfl ?_
  refine v_bipush dX12_init_79 (v := 82) (by decide) ?_
  refine v_newI (t := 0) dX12_init_81 rfl tx93 rfl rfl (fun _ _ h => h) zt9 nt9 rfl (by decide) (by decide) (by decide +kernel) (by decide) rfl rfl (by decide) (by decide) ?_ rfl
  refine v_putR dX12_init_83 fsX12_37 (by rw [mnew_1, nt9]; decide) rfl (by decide) rfl (fun _ _ h => by cases h; rfl) rfl (fun _ => rfl) (fun _ => rfl) ?_
  rw [t10_e]
  refine v_aload_n dX12_init_86 0 rfl rfl ?_
  refine v_iconst dX12_init_87 (v := 2) (by decide) ?_
  refine v_newI (t := 1) dX12_init_88 rfl tx176 rfl rfl (fun _ _ h => h) zt10 nt10 rfl (by decide) (by decide) (by decide +kernel) (by decide) rfl rfl (by decide) (by decide) ?_ rfl
  refine v_putR dX12_init_90 fsX12_40 (by rw [mnew_1, nt10]; decide) rfl (by decide) rfl (fun _ _ h => by cases h; rfl) rfl (fun _ => rfl) (fun _ => rfl) ?_
  rw [t11_e]
  refine v_aload_n dX12_init_93 0 rfl rfl ?_
  refine v_bipush dX12_init_94 (v := 16) (by decide) ?_
  refine v_newI (t := 0) dX12_init_96 rfl tx93 rfl rfl (fun _ _ h => h) zt11 nt11 rfl (by decide) (by decide) (by decide +kernel) (by decide) rfl rfl (by decide) (by decide) ?_ rfl
  refine v_putR dX12_init_98 fsX12_44 (by rw [mnew_1, nt11]; decide) rfl (by decide) rfl (fun _ _ h => by cases h; rfl) rfl (fun _ => rfl) (fun _ => rfl) ?_
  rw [t12_e]
  refine v_iconst dX12_init_101 (v := nI 0) (by decide) ?_
  refine v_istore_n dX12_init_102 [0, 1] rfl (by decide) rfl ?_
  rw [← t13_e]
  exact lane_loop 8 0 rfl
