theorem img_loop {G : Gx} {ν : Mu} (hn : ν.1 = 188) (hz : Zr ν) (hf : ν.2.1 0 4 = true) : ∀ (n i : Nat), i + n = 2 → V G MIX11 none (mI2 ν 2) 199 1707 170 [(1, .int (nI i)), (0, .ref (gb G + 0))] [] (mI2 ν i) (187 + 6 * i) (1623 + 42 * i)
  | 0, i, hi => by
    have h : i = 2 := hi
    subst h
    refine v_iload_n dX11_init_170 0 rfl rfl ?_
    refine v_iconst dX11_init_171 (v := nI 2) (by decide) ?_
    refine v_icmp_ge dX11_init_172 (tgt := 194) (by decide) (fun _ => ?_) (fun q => absurd (nI_le (Nat.le_refl 2) (by decide)) q)
    exact v_vret dX11_init_194 rfl rfl rfl rfl rfl
  | n + 1, i, hi => by
    have hi2 : i < 2 := by omega
    refine v_iload_n dX11_init_170 0 rfl rfl ?_
    refine v_iconst dX11_init_171 (v := nI 2) (by decide) ?_
    refine v_icmp_ge dX11_init_172 (tgt := 194) (by decide) (fun q => absurd q (nI_ge hi2 (by decide))) (fun _ => ?_)
    have hN := mI2_1 hn i
    have hZ := mI2_z hn hz i
    refine v_aload_n dX11_init_175 1 rfl rfl ?_
    refine v_get (v := .ref (gb G + 16)) dX11_init_176 fsX11_32 (by rw [hN]; omega) rfl (by decide) (fv_ref rfl (by show (mI2 ν i).2.1 0 4 = true; rw [mI2_f ν (by decide)]; exact hf)) ?_
    refine v_iload_n dX11_init_179 0 rfl rfl ?_
    refine v_new (ci := 4) dX11_init_180 tw94 tx95 tw43 ok_4 hZ hN (isH_s (isHi hi2)).1.1 (by decide) (df4 (isHi hi2)) rfl rfl (by show 187 + 6 * i + 1 ≤ 199; omega) (by show 1623 + 42 * i + 12 ≤ 1707; omega) ?_ rfl
    refine v_dup dX11_init_183 rfl ?_
    refine v_callIN (M2 := MIX4) dX11_init_184 (by decide +kernel) tw97 rfl rfl ykiX4 ⟨rfl, rfl, by decide, by decide⟩ rfl (Nat.le_of_ble_eq_true rfl) ⟨by show 187 + 6 * i + 1 + 5 ≤ 199; omega, by show 1623 + 42 * i + 12 + 30 ≤ 1707; omega⟩ (eiX4 (isHi hi2) (by show (mI2 ν i).1 + 1 = _; rw [hN]) hZ.new) ?_
    refine v_astJ (j := i) (t := 23) (tt := 188 + 6 * i) (Or.inr (Or.inl rfl)) rfl dX11_init_187 (by show _ < (mI2 ν i).1 + 1 + 5; rw [hN]; omega) rfl (nI_in hi2 (by decide)) (zix (by omega)) rfl (by show _ < (mI2 ν i).1 + 1 + 5; rw [hN]; omega) (isH_s (isHi hi2)).1.1 (by decide) ok_4 (Or.inl rfl) ?_
    refine v_iinc dX11_init_188 0 rfl (stp i) [0, 1] rfl (by decide) ?_
    refine v_goto dX11_init_191 (tgt := 170) (by decide) ?_
    rw [show 187 + 6 * i + 1 + 5 = 187 + 6 * (i + 1) by omega, show 1623 + 42 * i + nf 4 + 30 = 1623 + 42 * (i + 1) by show 1623 + 42 * i + 12 + 30 = _; omega]
    exact img_loop hn hz hf n (i + 1) (by omega)
theorem row_loop {G : Gx} {ν : Mu} (hn : ν.1 = 172) (hz : Zr ν) (hf : ν.2.1 0 0 = true) (hg : ν.2.1 0 4 = true) : ∀ (n i : Nat), i + n = 8 → V G MIX11 none (mI2 (mW ν 8) 2) 199 1707 143 [(1, .int (nI i)), (0, .ref (gb G + 0))] [] (mW ν i) (171 + 2 * i) (1279 + 43 * i)
  | 0, i, hi => by
    have h : i = 8 := hi
    subst h
    refine v_iload_n dX11_init_143 0 rfl rfl ?_
    refine v_bipush dX11_init_144 (v := nI 8) (by decide) ?_
    refine v_icmp_ge dX11_init_146 (tgt := 168) (by decide) (fun _ => ?_) (fun q => absurd (nI_le (Nat.le_refl 8) (by decide)) q)
    refine v_iconst dX11_init_168 (v := nI 0) (by decide) ?_
    refine v_istore_n dX11_init_169 [0, 1] rfl (by decide) rfl ?_
    exact img_loop (mW_1 hn 8) (mW_z hn hz 8) (by rw [mW_f ν (by decide)]; exact hg) 2 0 rfl
  | n + 1, i, hi => by
    have hi2 : i < 8 := by omega
    refine v_iload_n dX11_init_143 0 rfl rfl ?_
    refine v_bipush dX11_init_144 (v := nI 8) (by decide) ?_
    refine v_icmp_ge dX11_init_146 (tgt := 168) (by decide) (fun q => absurd q (nI_ge hi2 (by decide))) (fun _ => ?_)
    have hN := mW_1 hn i
    have hZ := mW_z hn hz i
    refine v_aload_n dX11_init_149 1 rfl rfl ?_
    refine v_get (v := .ref (gb G + 1)) dX11_init_150 fsX11_11 (by rw [hN]; omega) rfl (by decide) (fv_ref rfl (by show (mW ν i).2.1 0 0 = true; rw [mW_f ν (by decide)]; exact hf)) ?_
    refine v_iload_n dX11_init_153 0 rfl rfl ?_
    refine v_new (ci := 6) dX11_init_154 tw65 tx232 tw52 ok_6 hZ hN (isR_s (isRb hi2)).1.1 (by decide) (df6 (isRb hi2)) rfl rfl (by show 171 + 2 * i + 1 ≤ 199; omega) (by show 1279 + 43 * i + 3 ≤ 1707; omega) ?_ rfl
    refine v_dup dX11_init_157 rfl ?_
    refine v_callIN (M2 := MIX7) dX11_init_158 (by decide +kernel) tw234 rfl rfl ykiX7 ⟨rfl, rfl, by decide, by decide⟩ rfl (Nat.le_of_ble_eq_true rfl) ⟨by show 171 + 2 * i + 1 + 1 ≤ 199; omega, by show 1279 + 43 * i + 3 + 40 ≤ 1707; omega⟩ (eiX7 (isRb hi2) (by show (mW ν i).1 + 1 = _; rw [hN]) hZ.new) ?_
    refine v_astJ (j := i) (t := 22) (tt := 172 + 2 * i) (Or.inl rfl) rfl dX11_init_161 (by show _ < (mW ν i).1 + 1 + 1; rw [hN]; omega) rfl (nI_in hi2 (by decide)) (zix (by omega)) rfl (by show _ < (mW ν i).1 + 1 + 1; rw [hN]; omega) (isR_s (isRb hi2)).1.1 (by decide) ok_6 (Or.inl rfl) ?_
    refine v_iinc dX11_init_162 0 rfl (stp i) [0, 1] rfl (by decide) ?_
    refine v_goto dX11_init_165 (tgt := 143) (by decide) ?_
    rw [show 171 + 2 * i + 1 + 1 = 171 + 2 * (i + 1) by omega, show 1279 + 43 * i + nf 6 + 40 = 1279 + 43 * (i + 1) by show 1279 + 43 * i + 3 + 40 = _; omega]
    exact row_loop hn hz hf hg n (i + 1) (by omega)
theorem f00 : s11.2.1 0 0 = true := by decide +kernel
theorem f04 : s11.2.1 0 4 = true := by decide +kernel
theorem eiX11 (G : Gx) : Ev G yX11_init MIX11 [.ref (gb G + 0)] s0 none s13 199 1707 := by
  refine Ev.of (by decide +kernel) rfl rfl (Nat.le_of_ble_eq_true rfl) ?_
  show V G MIX11 none _ _ _ 0 [(0, .ref (gb G + 0))] [] _ 0 0
  refine v_aload_n dX11_init_0 0 rfl rfl ?_
  refine v_objI dX11_init_1 tw62 tw63 tw64 (by decide) (Nat.le_of_ble_eq_true rfl) ?_
  refine v_aload_n dX11_init_4 0 rfl rfl ?_
  refine v_bipush dX11_init_5 (v := 8) (by decide) ?_
  refine v_newQ (t := 2) dX11_init_7 tw65 (by decide +kernel) rfl zs0 rfl rfl (by decide) (by decide) (by decide +kernel) (by decide) rfl rfl (by decide) (by decide) ?_ rfl
  refine v_putR dX11_init_10 fsX11_11 (Nat.le_of_ble_eq_true rfl) rfl (by decide) rfl (fun _ _ h => by cases h; rfl) rfl (fun _ => rfl) (fun _ => rfl) ?_
  rw [s1_e]
  refine v_aload_n dX11_init_13 0 rfl rfl ?_
  refine v_new (ci := 7) dX11_init_14 tw67 tx68 tw42 ok_7 zs1 rfl rfl (by decide) df7 rfl rfl (by decide) (by decide) ?_ rfl
  refine v_dup dX11_init_17 rfl ?_
  refine v_callIN (M2 := MIX8) dX11_init_18 (by decide +kernel) tw70 rfl rfl ykiX8 ⟨rfl, rfl, by decide, by decide⟩ rfl (Nat.le_of_ble_eq_true rfl) ⟨by decide, by decide⟩ (eiX8 rfl zs1.new) ?_
  refine v_putR dX11_init_21 fsX11_18 (Nat.le_of_ble_eq_true rfl) rfl (by decide) rfl (fun _ _ h => by cases h; rfl) rfl (fun _ => rfl) (fun _ => rfl) ?_
  rw [s2_e]
  refine v_aload_n dX11_init_24 0 rfl rfl ?_
  refine v_new (ci := 4) dX11_init_25 tw94 tx95 tw43 ok_4 zs2 rfl rfl (by decide) (df4 (by unfold isH; decide +kernel)) rfl rfl (by decide) (by decide) ?_ rfl
  refine v_dup dX11_init_28 rfl ?_
  refine v_callIN (M2 := MIX4) dX11_init_29 (by decide +kernel) tw97 rfl rfl ykiX4 ⟨rfl, rfl, by decide, by decide⟩ rfl (Nat.le_of_ble_eq_true rfl) ⟨by decide, by decide⟩ (eiX4 (k := 4) (by unfold isH; decide +kernel) rfl zs2.new) ?_
  refine v_putR dX11_init_32 fsX11_25 (Nat.le_of_ble_eq_true rfl) rfl (by decide) rfl (fun _ _ h => by cases h; rfl) rfl (fun _ => rfl) (fun _ => rfl) ?_
  rw [s3_e]
  refine v_aload_n dX11_init_35 0 rfl rfl ?_
  refine v_new (ci := 4) dX11_init_36 tw94 tx95 tw43 ok_4 zs3 rfl rfl (by decide) (df4 (by unfold isH; decide +kernel)) rfl rfl (by decide) (by decide) ?_ rfl
  refine v_dup dX11_init_39 rfl ?_
  refine v_callIN (M2 := MIX4) dX11_init_40 (by decide +kernel) tw97 rfl rfl ykiX4 ⟨rfl, rfl, by decide, by decide⟩ rfl (Nat.le_of_ble_eq_true rfl) ⟨by decide, by decide⟩ (eiX4 (k := 10) (by unfold isH; decide +kernel) rfl zs3.new) ?_
  refine v_putR dX11_init_43 fsX11_29 (Nat.le_of_ble_eq_true rfl) rfl (by decide) rfl (fun _ _ h => by cases h; rfl) rfl (fun _ => rfl) (fun _ => rfl) ?_
  rw [s4_e]
  refine v_aload_n dX11_init_46 0 rfl rfl ?_
  refine v_iconst dX11_init_47 (v := 2) (by decide) ?_
  refine v_newQ (t := 3) dX11_init_48 tw94 (by decide +kernel) rfl zs4 rfl rfl (by decide) (by decide) (by decide +kernel) (by decide) rfl rfl (by decide) (by decide) ?_ rfl
  refine v_putR dX11_init_51 fsX11_32 (Nat.le_of_ble_eq_true rfl) rfl (by decide) rfl (fun _ _ h => by cases h; rfl) rfl (fun _ => rfl) (fun _ => rfl) ?_
  rw [s5_e]
  refine v_aload_n dX11_init_54 0 rfl rfl ?_
  refine v_iconst dX11_init_55 (v := 2) (by decide) ?_
  refine v_newI (t := 1) dX11_init_56 rfl tx176 rfl rfl (fun _ _ h => h) zs5 rfl rfl (by decide) (by decide) (by decide +kernel) (by decide) rfl rfl (by decide) (by decide) ?_ rfl
  refine v_putR dX11_init_58 fsX11_36 (Nat.le_of_ble_eq_true rfl) rfl (by decide) rfl (fun _ _ h => by cases h; rfl) rfl (fun _ => rfl) (fun _ => rfl) ?_
  rw [s6_e]
  refine v_aload_n dX11_init_61 0 rfl rfl ?_
  refine v_new (ci := 0) dX11_init_62 tw157 tx158 tw44 ok_0 zs6 rfl rfl (by decide) df0 rfl rfl (by decide) (by decide) ?_ rfl
  refine v_dup dX11_init_65 rfl ?_
  refine v_callI (M2 := MIX0) dX11_init_66 tw159 tw160 rfl rfl ykiX0 ⟨rfl, rfl, by decide, by decide⟩ rfl (Nat.le_of_ble_eq_true rfl) ⟨by decide, by decide⟩ (eiX0 rfl zs6.new) ?_
  refine v_putR dX11_init_69 fsX11_43 (by rw [mB_1 (by rw [mset_1, mnew_1, mnew_1, cn6])]; decide) rfl (by decide) rfl (fun _ _ h => by cases h; rfl) rfl (fun _ => rfl) (fun _ => rfl) ?_
  rw [s7_e]
  refine v_aload_n dX11_init_72 0 rfl rfl ?_
  refine v_iconst dX11_init_73 (v := 5) (by decide) ?_
  refine v_newQ (t := 4) dX11_init_74 tw177 (by decide +kernel) rfl zs7 cn7 rfl (by decide) (by decide) (by decide +kernel) (by decide) rfl rfl (by decide) (by decide) ?_ rfl
  rw [s8_e]
  refine v_dup dX11_init_77 rfl ?_
  refine v_iconst dX11_init_78 (v := nI 0) (by decide) ?_
  refine v_new (ci := 2) dX11_init_79 tw179 tx180 tw46 ok_2 zs8 cn8 rfl (by decide) (fun j hj => absurd hj (Nat.not_lt_zero _)) rfl rfl (by decide) (by decide) ?_ rfl
  refine v_dup dX11_init_82 rfl ?_
  refine v_callIN (M2 := MIX2) dX11_init_83 (by decide +kernel) tw182 rfl rfl ykiX2 ⟨rfl, rfl, by decide, by decide⟩ rfl (Nat.le_of_ble_eq_true rfl) ⟨by decide, by decide⟩ (eiX2 G 165 _) ?_
  refine v_astJ (j := 0) (t := 24) (tt := 165) (E := RX6) (Or.inr (Or.inr rfl)) rfl dX11_init_86 (by rw [mnew_1, cn8]; decide) rfl (nI_in (by decide) (by decide)) (by decide) rfl (by rw [mnew_1, cn8]; decide) rfl (by decide) ok_2 (Or.inr (by decide +kernel)) ?_
  rw [p0_e]
  refine v_dup dX11_init_87 rfl ?_
  refine v_iconst dX11_init_88 (v := nI 1) (by decide) ?_
  refine v_new (ci := 9) dX11_init_89 tw189 tx190 tw47 ok_9 zq0 np0 rfl (by decide) (fun j hj => absurd hj (Nat.not_lt_zero _)) rfl rfl (by decide) (by decide) ?_ rfl
  refine v_dup dX11_init_92 rfl ?_
  refine v_callIN (M2 := MIX10) dX11_init_93 (by decide +kernel) tw192 rfl rfl ykiX10 ⟨rfl, rfl, by decide, by decide⟩ rfl (Nat.le_of_ble_eq_true rfl) ⟨by decide, by decide⟩ (eiX10 G 166 _) ?_
  refine v_astJ (j := 1) (t := 24) (tt := 166) (E := RX6) (Or.inr (Or.inr rfl)) rfl dX11_init_96 (by rw [mnew_1, np0]; decide) rfl (nI_in (by decide) (by decide)) (by decide) rfl (by rw [mnew_1, np0]; decide) rfl (by decide) ok_9 (Or.inr (by decide +kernel)) ?_
  rw [p1_e]
  refine v_dup dX11_init_97 rfl ?_
  refine v_iconst dX11_init_98 (v := nI 2) (by decide) ?_
  refine v_new (ci := 5) dX11_init_99 tw196 tx197 tw48 ok_5 zq1 np1 rfl (by decide) (fun j hj => absurd hj (Nat.not_lt_zero _)) rfl rfl (by decide) (by decide) ?_ rfl
  refine v_dup dX11_init_102 rfl ?_
  refine v_callIN (M2 := MIX5) dX11_init_103 (by decide +kernel) tw199 rfl rfl ykiX5 ⟨rfl, rfl, by decide, by decide⟩ rfl (Nat.le_of_ble_eq_true rfl) ⟨by decide, by decide⟩ (eiX5 G 167 _) ?_
  refine v_astJ (j := 2) (t := 24) (tt := 167) (E := RX6) (Or.inr (Or.inr rfl)) rfl dX11_init_106 (by rw [mnew_1, np1]; decide) rfl (nI_in (by decide) (by decide)) (by decide) rfl (by rw [mnew_1, np1]; decide) rfl (by decide) ok_5 (Or.inr (by decide +kernel)) ?_
  rw [p2_e]
  refine v_dup dX11_init_107 rfl ?_
  refine v_iconst dX11_init_108 (v := nI 3) (by decide) ?_
  refine v_new (ci := 1) dX11_init_109 tw203 tx204 tw49 ok_1 zq2 np2 rfl (by decide) (fun j hj => absurd hj (Nat.not_lt_zero _)) rfl rfl (by decide) (by decide) ?_ rfl
  refine v_dup dX11_init_112 rfl ?_
  refine v_callIN (M2 := MIX1) dX11_init_113 (by decide +kernel) tw206 rfl rfl ykiX1 ⟨rfl, rfl, by decide, by decide⟩ rfl (Nat.le_of_ble_eq_true rfl) ⟨by decide, by decide⟩ (eiX1 G 168 _) ?_
  refine v_astJ (j := 3) (t := 24) (tt := 168) (E := RX6) (Or.inr (Or.inr rfl)) rfl dX11_init_116 (by rw [mnew_1, np2]; decide) rfl (nI_in (by decide) (by decide)) (by decide) rfl (by rw [mnew_1, np2]; decide) rfl (by decide) ok_1 (Or.inr (by decide +kernel)) ?_
  rw [p3_e]
  refine v_dup dX11_init_117 rfl ?_
  refine v_iconst dX11_init_118 (v := nI 4) (by decide) ?_
  refine v_new (ci := 3) dX11_init_119 tw210 tx211 tw50 ok_3 zq3 np3 rfl (by decide) (fun j hj => absurd hj (Nat.not_lt_zero _)) rfl rfl (by decide) (by decide) ?_ rfl
  refine v_dup dX11_init_122 rfl ?_
  refine v_callIN (M2 := MIX3) dX11_init_123 (by decide +kernel) tw213 rfl rfl ykiX3 ⟨rfl, rfl, by decide, by decide⟩ rfl (Nat.le_of_ble_eq_true rfl) ⟨by decide, by decide⟩ (eiX3 G 169 _) ?_
  refine v_astJ (j := 4) (t := 24) (tt := 169) (E := RX6) (Or.inr (Or.inr rfl)) rfl dX11_init_126 (by rw [mnew_1, np3]; decide) rfl (nI_in (by decide) (by decide)) (by decide) rfl (by rw [mnew_1, np3]; decide) rfl (by decide) ok_3 (Or.inr (by decide +kernel)) ?_
  rw [p4_e]
  refine v_putR dX11_init_127 fsX11_64 (by rw [np4]; decide) rfl (by decide) rfl (fun _ _ h => by cases h; rfl) rfl (fun _ => rfl) (fun _ => rfl) ?_
  rw [s10_e]
  refine v_aload_n dX11_init_130 0 rfl rfl ?_
  refine v_new (ci := 8) dX11_init_131 tw217 tx218 tw51 ok_8 zs10 cn10 rfl (by decide) df8 rfl rfl (by decide) (by decide) ?_ rfl
  refine v_dup dX11_init_134 rfl ?_
  refine v_callIN (M2 := MIX9) dX11_init_135 (by decide +kernel) tw220 rfl rfl ykiX9 ⟨rfl, rfl, by decide, by decide⟩ rfl (Nat.le_of_ble_eq_true rfl) ⟨by decide, by decide⟩ (eiX9 (by rw [mnew_1, cn10]) zs10.new) ?_
  refine v_putR dX11_init_138 fsX11_71 (by rw [mTa_1, mnew_1, cn10]; decide) rfl (by decide) rfl (fun _ _ h => by cases h; rfl) rfl (fun _ => rfl) (fun _ => rfl) ?_
  rw [s11_e]
  refine v_iconst dX11_init_141 (v := nI 0) (by decide) ?_
  refine v_istore_n dX11_init_142 [0, 1] rfl (by decide) rfl ?_
  rw [← s13_e]
  exact row_loop cn11 zs11 f00 f04 8 0 rfl
