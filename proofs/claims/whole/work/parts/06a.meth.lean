def fA_forget (σ : Sg) : Option Sg := ltc (wr σ 18 2 0) fun σ1 => some σ1
set_option maxRecDepth 100000 in
set_option maxHeartbeats 4000000 in
theorem eA_forget {G : Gx} (σ : Sg) (q : Sg) (h : fA_forget σ = some q) : Evm G yX0_forget MX0_forget [.ref (gb G + 18)] σ none q := by
  refine Ev.of (by decide +kernel) rfl rfl (Nat.le_of_ble_eq_true rfl) ?_
  show Vm G MX0_forget none q 0 [(0, .ref (gb G + 18))] [] σ
  unfold fA_forget at h
  refine v_aload_n dX0_forget_0 0 rfl rfl (v_iconst dX0_forget_1 rfl ?_)
  obtain ⟨σ1, eσ1, h⟩ := ltc_some h
  refine vn_put dX0_forget_2 fsX0_16 lc_18 shc_18 (by decide) rf_18_2 eσ1 ?_
  replace h := Option.some.inj h
  subst h
  exact v_vret dX0_forget_5 rfl rfl rfl rfl rfl
def fH_become (r0 : Nat) (r1 : Nat) (σ : Sg) : Option Sg := ltc (cpy σ (r1 + 1) 0 (r0 + 1) 0 6) fun σ1 => ltc (cpy σ1 (r1 + 2) 0 (r0 + 2) 0 6) fun σ2 => ltc (cpy σ2 (r1 + 3) 0 (r0 + 3) 0 6) fun σ3 => ltc (cpy σ3 (r1 + 4) 0 (r0 + 4) 0 6) fun σ4 => ltc (cpy σ4 (r1 + 5) 0 (r0 + 5) 0 6) fun σ5 => ltc (wr σ5 r0 5 (σ5 r1 5)) fun σ6 => ltc (wr σ6 r0 6 (σ6 r1 6)) fun σ7 => ltc (wr σ7 r0 7 (σ7 r1 7)) fun σ8 => ltc (wr σ8 r0 8 (σ8 r1 8)) fun σ9 => ltc (wr σ9 r0 9 (σ9 r1 9)) fun σ10 => ltc (wr σ10 r0 10 (σ10 r1 10)) fun σ11 => ltc (wr σ11 r0 11 (σ11 r1 11)) fun σ12 => some σ12
set_option maxRecDepth 100000 in
set_option maxHeartbeats 4000000 in
theorem eH_become {G : Gx} (r0 : Nat) (p0 : isH r0) (r1 : Nat) (p1 : isH r1) (σ : Sg) (q : Sg) (h : fH_become r0 r1 σ = some q) : Evm G yX4_become MX4_become [.ref (gb G + r0), .ref (gb G + r1)] σ none q := by
  refine Ev.of (by decide +kernel) rfl rfl (Nat.le_of_ble_eq_true rfl) ?_
  show Vm G MX4_become none q 0 [(0, .ref (gb G + r0)), (1, .ref (gb G + r1))] [] σ
  unfold fH_become at h
  refine v_aload_n dX4_become_0 1 rfl rfl (vm_getR (t := (r1 + 1)) dX4_become_1 fsX4_9 ((isH_s p1).2.1) ((isH_s p1).1.1) (by decide) ((isH_r p1).1.1) (v_iconst dX4_become_4 rfl (v_aload_n dX4_become_5 0 rfl rfl (vm_getR (t := (r0 + 1)) dX4_become_6 fsX4_9 ((isH_s p0).2.1) ((isH_s p0).1.1) (by decide) ((isH_r p0).1.1) (v_iconst dX4_become_9 rfl (v_bipush (v := 6) dX4_become_10 rfl ?_))))))
  obtain ⟨σ1, eσ1, h⟩ := ltc_some h
  refine vn_copy rfl dX4_become_12 tw387 ((isH_s p1).2.2.1) ((isH_s p0).2.2.1) ((isH_s p1).1.2.1) ((isH_s p0).1.2.1) ci_0_0_6_6_6 (Nat.le_of_ble_eq_true rfl) (Nat.le_of_ble_eq_true rfl) ixc_0 ixc_0 ixc_6 eσ1 (v_aload_n dX4_become_15 1 rfl rfl (vm_getR (t := (r1 + 2)) dX4_become_16 fsX4_13 ((isH_s p1).2.1) ((isH_s p1).1.1) (by decide) ((isH_r p1).1.2.1) (v_iconst dX4_become_19 rfl (v_aload_n dX4_become_20 0 rfl rfl (vm_getR (t := (r0 + 2)) dX4_become_21 fsX4_13 ((isH_s p0).2.1) ((isH_s p0).1.1) (by decide) ((isH_r p0).1.2.1) (v_iconst dX4_become_24 rfl (v_bipush (v := 6) dX4_become_25 rfl ?_)))))))
  obtain ⟨σ2, eσ2, h⟩ := ltc_some h
  refine vn_copy rfl dX4_become_27 tw387 ((isH_s p1).2.2.2.1) ((isH_s p0).2.2.2.1) ((isH_s p1).1.2.2.1) ((isH_s p0).1.2.2.1) ci_0_0_6_6_6 (Nat.le_of_ble_eq_true rfl) (Nat.le_of_ble_eq_true rfl) ixc_0 ixc_0 ixc_6 eσ2 (v_aload_n dX4_become_30 1 rfl rfl (vm_getR (t := (r1 + 3)) dX4_become_31 fsX4_16 ((isH_s p1).2.1) ((isH_s p1).1.1) (by decide) ((isH_r p1).1.2.2.1) (v_iconst dX4_become_34 rfl (v_aload_n dX4_become_35 0 rfl rfl (vm_getR (t := (r0 + 3)) dX4_become_36 fsX4_16 ((isH_s p0).2.1) ((isH_s p0).1.1) (by decide) ((isH_r p0).1.2.2.1) (v_iconst dX4_become_39 rfl (v_bipush (v := 6) dX4_become_40 rfl ?_)))))))
  obtain ⟨σ3, eσ3, h⟩ := ltc_some h
  refine vn_copy rfl dX4_become_42 tw387 ((isH_s p1).2.2.2.2.1) ((isH_s p0).2.2.2.2.1) ((isH_s p1).1.2.2.2.1) ((isH_s p0).1.2.2.2.1) ci_0_0_6_6_6 (Nat.le_of_ble_eq_true rfl) (Nat.le_of_ble_eq_true rfl) ixc_0 ixc_0 ixc_6 eσ3 (v_aload_n dX4_become_45 1 rfl rfl (vm_getR (t := (r1 + 4)) dX4_become_46 fsX4_19 ((isH_s p1).2.1) ((isH_s p1).1.1) (by decide) ((isH_r p1).1.2.2.2.1) (v_iconst dX4_become_49 rfl (v_aload_n dX4_become_50 0 rfl rfl (vm_getR (t := (r0 + 4)) dX4_become_51 fsX4_19 ((isH_s p0).2.1) ((isH_s p0).1.1) (by decide) ((isH_r p0).1.2.2.2.1) (v_iconst dX4_become_54 rfl (v_bipush (v := 6) dX4_become_55 rfl ?_)))))))
  obtain ⟨σ4, eσ4, h⟩ := ltc_some h
  refine vn_copy rfl dX4_become_57 tw387 ((isH_s p1).2.2.2.2.2.1) ((isH_s p0).2.2.2.2.2.1) ((isH_s p1).1.2.2.2.2.1) ((isH_s p0).1.2.2.2.2.1) ci_0_0_6_6_6 (Nat.le_of_ble_eq_true rfl) (Nat.le_of_ble_eq_true rfl) ixc_0 ixc_0 ixc_6 eσ4 (v_aload_n dX4_become_60 1 rfl rfl (vm_getR (t := (r1 + 5)) dX4_become_61 fsX4_22 ((isH_s p1).2.1) ((isH_s p1).1.1) (by decide) ((isH_r p1).1.2.2.2.2) (v_iconst dX4_become_64 rfl (v_aload_n dX4_become_65 0 rfl rfl (vm_getR (t := (r0 + 5)) dX4_become_66 fsX4_22 ((isH_s p0).2.1) ((isH_s p0).1.1) (by decide) ((isH_r p0).1.2.2.2.2) (v_iconst dX4_become_69 rfl (v_bipush (v := 6) dX4_become_70 rfl ?_)))))))
  obtain ⟨σ5, eσ5, h⟩ := ltc_some h
  refine vn_copy rfl dX4_become_72 tw387 ((isH_s p1).2.2.2.2.2.2) ((isH_s p0).2.2.2.2.2.2) ((isH_s p1).1.2.2.2.2.2) ((isH_s p0).1.2.2.2.2.2) ci_0_0_6_6_6 (Nat.le_of_ble_eq_true rfl) (Nat.le_of_ble_eq_true rfl) ixc_0 ixc_0 ixc_6 eσ5 (v_aload_n dX4_become_75 0 rfl rfl (v_aload_n dX4_become_76 1 rfl rfl (vm_getI dX4_become_77 fsX4_32 ((isH_s p1).2.1) ((isH_s p1).1.1) (by decide) ((isH_r p1).2.1) ?_)))
  obtain ⟨σ6, eσ6, h⟩ := ltc_some h
  refine vn_put dX4_become_80 fsX4_32 ((isH_s p0).2.1) ((isH_s p0).1.1) (by decide) ((isH_r p0).2.1) eσ6 (v_aload_n dX4_become_83 0 rfl rfl (v_aload_n dX4_become_84 1 rfl rfl (vm_getI dX4_become_85 fsX4_35 ((isH_s p1).2.1) ((isH_s p1).1.1) (by decide) ((isH_r p1).2.2.1) ?_)))
  obtain ⟨σ7, eσ7, h⟩ := ltc_some h
  refine vn_put dX4_become_88 fsX4_35 ((isH_s p0).2.1) ((isH_s p0).1.1) (by decide) ((isH_r p0).2.2.1) eσ7 (v_aload_n dX4_become_91 0 rfl rfl (v_aload_n dX4_become_92 1 rfl rfl (vm_getI dX4_become_93 fsX4_38 ((isH_s p1).2.1) ((isH_s p1).1.1) (by decide) ((isH_r p1).2.2.2.1) ?_)))
  obtain ⟨σ8, eσ8, h⟩ := ltc_some h
  refine vn_put dX4_become_96 fsX4_38 ((isH_s p0).2.1) ((isH_s p0).1.1) (by decide) ((isH_r p0).2.2.2.1) eσ8 (v_aload_n dX4_become_99 0 rfl rfl (v_aload_n dX4_become_100 1 rfl rfl (vm_getI dX4_become_101 fsX4_25 ((isH_s p1).2.1) ((isH_s p1).1.1) (by decide) ((isH_r p1).2.2.2.2.1) ?_)))
  obtain ⟨σ9, eσ9, h⟩ := ltc_some h
  refine vn_put dX4_become_104 fsX4_25 ((isH_s p0).2.1) ((isH_s p0).1.1) (by decide) ((isH_r p0).2.2.2.2.1) eσ9 (v_aload_n dX4_become_107 0 rfl rfl (v_aload_n dX4_become_108 1 rfl rfl (vm_getI dX4_become_109 fsX4_41 ((isH_s p1).2.1) ((isH_s p1).1.1) (by decide) ((isH_r p1).2.2.2.2.2.1) ?_)))
  obtain ⟨σ10, eσ10, h⟩ := ltc_some h
  refine vn_put dX4_become_112 fsX4_41 ((isH_s p0).2.1) ((isH_s p0).1.1) (by decide) ((isH_r p0).2.2.2.2.2.1) eσ10 (v_aload_n dX4_become_115 0 rfl rfl (v_aload_n dX4_become_116 1 rfl rfl (vm_getI dX4_become_117 fsX4_44 ((isH_s p1).2.1) ((isH_s p1).1.1) (by decide) ((isH_r p1).2.2.2.2.2.2.1) ?_)))
  obtain ⟨σ11, eσ11, h⟩ := ltc_some h
  refine vn_put dX4_become_120 fsX4_44 ((isH_s p0).2.1) ((isH_s p0).1.1) (by decide) ((isH_r p0).2.2.2.2.2.2.1) eσ11 (v_aload_n dX4_become_123 0 rfl rfl (v_aload_n dX4_become_124 1 rfl rfl (vm_getI dX4_become_125 fsX4_29 ((isH_s p1).2.1) ((isH_s p1).1.1) (by decide) ((isH_r p1).2.2.2.2.2.2.2) ?_)))
  obtain ⟨σ12, eσ12, h⟩ := ltc_some h
  refine vn_put dX4_become_128 fsX4_29 ((isH_s p0).2.1) ((isH_s p0).1.1) (by decide) ((isH_r p0).2.2.2.2.2.2.2) eσ12 ?_
  replace h := Option.some.inj h
  subst h
  exact v_vret dX4_become_131 rfl rfl rfl rfl rfl
def fA_keep (σ : Sg) : Option Sg := if inb (σ 18 1) 24 = true then (fH_become (20 + 6 * ix (σ 18 1)) 4 σ).bind fun q2 => ltc (wr q2 18 1 (((q2 18 1) + 1) - ((q2 18 1) + 1) / 24 * 24)) fun σ3 => ltc (wr σ3 18 2 (if (24 : Int32) < ((σ3 18 2) + 1) then 24 else ((σ3 18 2) + 1))) fun σ4 => some σ4 else none
set_option maxRecDepth 100000 in
set_option maxHeartbeats 4000000 in
theorem eA_keep {G : Gx} (σ : Sg) (q : Sg) (h : fA_keep σ = some q) : Evm G yX0_keep MX0_keep [.ref (gb G + 18), .ref (gb G + 4)] σ none q := by
  refine Ev.of (by decide +kernel) rfl rfl (Nat.le_of_ble_eq_true rfl) ?_
  show Vm G MX0_keep none q 0 [(0, .ref (gb G + 18)), (1, .ref (gb G + 4))] [] σ
  unfold fA_keep at h
  refine v_aload_n dX0_keep_0 0 rfl rfl (vm_getR (t := 19) dX0_keep_1 fsX0_11 lc_18 shc_18 (by decide) rf_18_0 (v_aload_n dX0_keep_4 0 rfl rfl (vm_getI dX0_keep_5 fsX0_20 lc_18 shc_18 (by decide) rf_18_1 ?_)))
  obtain ⟨g1, h⟩ := guard_some h
  refine vm_aald (r := (20 + 6 * ix (σ 18 1))) (by decide) dX0_keep_8 lc_19 sha_19 g1 rfl (v_aload_n dX0_keep_9 1 rfl rfl ?_)
  obtain ⟨q2, hq2, h⟩ := bind_some h
  refine v_callV (As := [.ref (gb G + 4)]) (S := []) dX0_keep_10 tw405 tw384 tw385 ykX4_become ((isH_s (isH_bf g1)).2.1) ((isH_s (isH_bf g1)).1.1) (by decide) ok_4 rfl (by decide) rfl rfl (Nat.le_of_ble_eq_true rfl) (by decide) (eH_become (20 + 6 * ix (σ 18 1)) ((isH_bf g1)) 4 isH_4 _ _ hq2) ?_
  refine v_aload_n dX0_keep_13 0 rfl rfl (v_aload_n dX0_keep_14 0 rfl rfl (vm_getI dX0_keep_15 fsX0_20 lc_18 shc_18 (by decide) rf_18_1 (v_iconst dX0_keep_18 rfl (v_iadd dX0_keep_19 (v_bipush (v := 24) dX0_keep_20 rfl (v_irem dX0_keep_22 (by decide) ?_))))))
  obtain ⟨σ3, eσ3, h⟩ := ltc_some h
  refine vn_put dX0_keep_23 fsX0_20 lc_18 shc_18 (by decide) rf_18_1 eσ3 (v_aload_n dX0_keep_26 0 rfl rfl (v_aload_n dX0_keep_27 0 rfl rfl (vm_getI dX0_keep_28 fsX0_16 lc_18 shc_18 (by decide) rf_18_2 (v_iconst dX0_keep_31 rfl (v_iadd dX0_keep_32 (v_bipush (v := 24) dX0_keep_33 rfl (v_mmin dX0_keep_35 tw406 (Nat.le_of_ble_eq_true rfl) (Nat.le_of_ble_eq_true rfl) (Nat.le_of_ble_eq_true rfl) (Nat.le_of_ble_eq_true rfl) ?_)))))))
  obtain ⟨σ4, eσ4, h⟩ := ltc_some h
  refine vn_put dX0_keep_38 fsX0_16 lc_18 shc_18 (by decide) rf_18_2 eσ4 ?_
  replace h := Option.some.inj h
  subst h
  exact v_vret dX0_keep_41 rfl rfl rfl rfl rfl
def fA_takeBack (σ : Sg) : Option Sg := ltc (wr σ 18 1 ((((σ 18 1) + 24) - 1) - (((σ 18 1) + 24) - 1) / 24 * 24)) fun σ1 => ltc (wr σ1 18 2 ((σ1 18 2) - 1)) fun σ2 => if inb (σ2 18 1) 24 = true then (fH_become 4 (20 + 6 * ix (σ2 18 1)) σ2).bind fun q4 => some q4 else none
set_option maxRecDepth 100000 in
set_option maxHeartbeats 4000000 in
theorem eA_takeBack {G : Gx} (σ : Sg) (q : Sg) (h : fA_takeBack σ = some q) : Evm G yX0_takeBack MX0_takeBack [.ref (gb G + 18), .ref (gb G + 4)] σ none q := by
  refine Ev.of (by decide +kernel) rfl rfl (Nat.le_of_ble_eq_true rfl) ?_
  show Vm G MX0_takeBack none q 0 [(0, .ref (gb G + 18)), (1, .ref (gb G + 4))] [] σ
  unfold fA_takeBack at h
  refine v_aload_n dX0_takeBack_0 0 rfl rfl (v_aload_n dX0_takeBack_1 0 rfl rfl (vm_getI dX0_takeBack_2 fsX0_20 lc_18 shc_18 (by decide) rf_18_1 (v_bipush (v := 24) dX0_takeBack_5 rfl (v_iadd dX0_takeBack_7 (v_iconst dX0_takeBack_8 rfl (v_isub dX0_takeBack_9 (v_bipush (v := 24) dX0_takeBack_10 rfl (v_irem dX0_takeBack_12 (by decide) ?_))))))))
  obtain ⟨σ1, eσ1, h⟩ := ltc_some h
  refine vn_put dX0_takeBack_13 fsX0_20 lc_18 shc_18 (by decide) rf_18_1 eσ1 (v_aload_n dX0_takeBack_16 0 rfl rfl (v_dup dX0_takeBack_17 rfl (vm_getI dX0_takeBack_18 fsX0_16 lc_18 shc_18 (by decide) rf_18_2 (v_iconst dX0_takeBack_21 rfl (v_isub dX0_takeBack_22 ?_)))))
  obtain ⟨σ2, eσ2, h⟩ := ltc_some h
  refine vn_put dX0_takeBack_23 fsX0_16 lc_18 shc_18 (by decide) rf_18_2 eσ2 (v_aload_n dX0_takeBack_26 1 rfl rfl (v_aload_n dX0_takeBack_27 0 rfl rfl (vm_getR (t := 19) dX0_takeBack_28 fsX0_11 lc_18 shc_18 (by decide) rf_18_0 (v_aload_n dX0_takeBack_31 0 rfl rfl (vm_getI dX0_takeBack_32 fsX0_20 lc_18 shc_18 (by decide) rf_18_1 ?_)))))
  obtain ⟨g3, h⟩ := guard_some h
  refine vm_aald (r := (20 + 6 * ix (σ2 18 1))) (by decide) dX0_takeBack_35 lc_19 sha_19 g3 rfl ?_
  obtain ⟨q4, hq4, h⟩ := bind_some h
  refine v_callV (As := [.ref (gb G + (20 + 6 * ix (σ2 18 1)))]) (S := []) dX0_takeBack_36 tw405 tw384 tw385 ykX4_become ((isH_s isH_4).2.1) ((isH_s isH_4).1.1) (by decide) ok_4 rfl (by decide) rfl rfl (Nat.le_of_ble_eq_true rfl) (by decide) (eH_become 4 isH_4 (20 + 6 * ix (σ2 18 1)) ((isH_bf g3)) _ _ hq4) ?_
  replace h := Option.some.inj h
  subst h
  exact v_vret dX0_takeBack_39 rfl rfl rfl rfl rfl
def fH_begin (r0 : Nat) (x1 : Int32) (x2 : Int32) (σ : Sg) : Option Sg := ltc (wr σ r0 5 0) fun σ1 => ltc (wr σ1 r0 6 x1) fun σ2 => ltc (wr σ2 r0 7 x2) fun σ3 => ltc (wr σ3 r0 8 (-1)) fun σ4 => ltc (wr σ4 r0 9 0) fun σ5 => ltc (wr σ5 r0 10 0) fun σ6 => ltc (wr σ6 r0 11 (-2)) fun σ7 => some σ7
set_option maxRecDepth 100000 in
set_option maxHeartbeats 4000000 in
theorem eH_begin {G : Gx} (r0 : Nat) (p0 : isH r0) (x1 : Int32) (x2 : Int32) (σ : Sg) (q : Sg) (h : fH_begin r0 x1 x2 σ = some q) : Evm G yX4_begin MX4_begin [.ref (gb G + r0), .int x1, .int x2] σ none q := by
  refine Ev.of (by decide +kernel) rfl rfl (Nat.le_of_ble_eq_true rfl) ?_
  show Vm G MX4_begin none q 0 [(0, .ref (gb G + r0)), (1, .int x1), (2, .int x2)] [] σ
  unfold fH_begin at h
  refine v_aload_n dX4_begin_0 0 rfl rfl (v_iconst dX4_begin_1 rfl ?_)
  obtain ⟨σ1, eσ1, h⟩ := ltc_some h
  refine vn_put dX4_begin_2 fsX4_32 ((isH_s p0).2.1) ((isH_s p0).1.1) (by decide) ((isH_r p0).2.1) eσ1 (v_aload_n dX4_begin_5 0 rfl rfl (v_iload_n dX4_begin_6 1 rfl rfl ?_))
  obtain ⟨σ2, eσ2, h⟩ := ltc_some h
  refine vn_put dX4_begin_7 fsX4_35 ((isH_s p0).2.1) ((isH_s p0).1.1) (by decide) ((isH_r p0).2.2.1) eσ2 (v_aload_n dX4_begin_10 0 rfl rfl (v_iload_n dX4_begin_11 2 rfl rfl ?_))
  obtain ⟨σ3, eσ3, h⟩ := ltc_some h
  refine vn_put dX4_begin_12 fsX4_38 ((isH_s p0).2.1) ((isH_s p0).1.1) (by decide) ((isH_r p0).2.2.2.1) eσ3 (v_aload_n dX4_begin_15 0 rfl rfl (v_iconst (v := -1) dX4_begin_16 rfl ?_))
  obtain ⟨σ4, eσ4, h⟩ := ltc_some h
  refine vn_put dX4_begin_17 fsX4_25 ((isH_s p0).2.1) ((isH_s p0).1.1) (by decide) ((isH_r p0).2.2.2.2.1) eσ4 (v_aload_n dX4_begin_20 0 rfl rfl (v_iconst dX4_begin_21 rfl ?_))
  obtain ⟨σ5, eσ5, h⟩ := ltc_some h
  refine vn_put dX4_begin_22 fsX4_41 ((isH_s p0).2.1) ((isH_s p0).1.1) (by decide) ((isH_r p0).2.2.2.2.2.1) eσ5 (v_aload_n dX4_begin_25 0 rfl rfl (v_iconst dX4_begin_26 rfl ?_))
  obtain ⟨σ6, eσ6, h⟩ := ltc_some h
  refine vn_put dX4_begin_27 fsX4_44 ((isH_s p0).2.1) ((isH_s p0).1.1) (by decide) ((isH_r p0).2.2.2.2.2.2.1) eσ6 (v_aload_n dX4_begin_30 0 rfl rfl (v_bipush (v := (-2)) dX4_begin_31 rfl ?_))
  obtain ⟨σ7, eσ7, h⟩ := ltc_some h
  refine vn_put dX4_begin_33 fsX4_29 ((isH_s p0).2.1) ((isH_s p0).1.1) (by decide) ((isH_r p0).2.2.2.2.2.2.2) eσ7 ?_
  replace h := Option.some.inj h
  subst h
  exact v_vret dX4_begin_36 rfl rfl rfl rfl rfl
def fH_put (r0 : Nat) (x1 : Int32) (x2 : Int32) (x3 : Int32) (σ : Sg) : Option Sg := if x1 = 0 then (if inb x2 6 = true then ltc (wr σ (r0 + 1) (ix x2) x3) fun σ3 => ltc (wr σ3 r0 11 (-2)) fun σ4 => some σ4 else none) else if x1 = 1 then (if inb x2 6 = true then ltc (wr σ (r0 + 2) (ix x2) x3) fun σ7 => ltc (wr σ7 r0 11 (-2)) fun σ8 => some σ8 else none) else if x1 = 2 then (if inb x2 6 = true then ltc (wr σ (r0 + 3) (ix x2) x3) fun σ11 => ltc (wr σ11 r0 11 (-2)) fun σ12 => some σ12 else none) else if inb x2 6 = true then ltc (wr σ (r0 + 4) (ix x2) x3) fun σ14 => ltc (wr σ14 r0 11 (-2)) fun σ15 => some σ15 else none
set_option maxRecDepth 100000 in
set_option maxHeartbeats 4000000 in
theorem eH_put {G : Gx} (r0 : Nat) (p0 : isH r0) (x1 : Int32) (x2 : Int32) (x3 : Int32) (σ : Sg) (q : Sg) (h : fH_put r0 x1 x2 x3 σ = some q) : Evm G yX4_put MX4_put [.ref (gb G + r0), .int x1, .int x2, .int x3] σ none q := by
  refine Ev.of (by decide +kernel) rfl rfl (Nat.le_of_ble_eq_true rfl) ?_
  show Vm G MX4_put none q 0 [(0, .ref (gb G + r0)), (1, .int x1), (2, .int x2), (3, .int x3)] [] σ
  unfold fH_put at h
  refine v_iload_n dX4_put_0 1 rfl rfl ?_
  by_cases c1 : x1 = 0
  · replace h := ite_t c1 h
    refine v_tableAt (tgt := 28) dX4_put_1 c1 (by decide) (by decide) (off := 27) (by decide) (by decide) ?_
    refine v_aload_n dX4_put_28 0 rfl rfl (vm_getR (t := (r0 + 1)) dX4_put_29 fsX4_9 ((isH_s p0).2.1) ((isH_s p0).1.1) (by decide) ((isH_r p0).1.1) (v_iload_n dX4_put_32 2 rfl rfl (v_iload_n dX4_put_33 3 rfl rfl ?_)))
    obtain ⟨g2, h⟩ := guard_some h
    obtain ⟨σ3, eσ3, h⟩ := ltc_some h
    refine vn_iast dX4_put_34 ((isH_s p0).2.2.1) ((isH_s p0).1.2.1) g2 rfl eσ3 (v_goto (tgt := 65) dX4_put_35 (by decide) (v_aload_n dX4_put_65 0 rfl rfl (v_bipush (v := (-2)) dX4_put_66 rfl ?_)))
    obtain ⟨σ4, eσ4, h⟩ := ltc_some h
    refine vn_put dX4_put_68 fsX4_29 ((isH_s p0).2.1) ((isH_s p0).1.1) (by decide) ((isH_r p0).2.2.2.2.2.2.2) eσ4 ?_
    replace h := Option.some.inj h
    subst h
    exact v_vret dX4_put_71 rfl rfl rfl rfl rfl
  replace h := ite_f c1 h
  by_cases c5 : x1 = 1
  · replace h := ite_t c5 h
    refine v_tableAt (tgt := 38) dX4_put_1 c5 (by decide) (by decide) (off := 37) (by decide) (by decide) ?_
    refine v_aload_n dX4_put_38 0 rfl rfl (vm_getR (t := (r0 + 2)) dX4_put_39 fsX4_13 ((isH_s p0).2.1) ((isH_s p0).1.1) (by decide) ((isH_r p0).1.2.1) (v_iload_n dX4_put_42 2 rfl rfl (v_iload_n dX4_put_43 3 rfl rfl ?_)))
    obtain ⟨g6, h⟩ := guard_some h
    obtain ⟨σ7, eσ7, h⟩ := ltc_some h
    refine vn_iast dX4_put_44 ((isH_s p0).2.2.2.1) ((isH_s p0).1.2.2.1) g6 rfl eσ7 (v_goto (tgt := 65) dX4_put_45 (by decide) (v_aload_n dX4_put_65 0 rfl rfl (v_bipush (v := (-2)) dX4_put_66 rfl ?_)))
    obtain ⟨σ8, eσ8, h⟩ := ltc_some h
    refine vn_put dX4_put_68 fsX4_29 ((isH_s p0).2.1) ((isH_s p0).1.1) (by decide) ((isH_r p0).2.2.2.2.2.2.2) eσ8 ?_
    replace h := Option.some.inj h
    subst h
    exact v_vret dX4_put_71 rfl rfl rfl rfl rfl
  replace h := ite_f c5 h
  by_cases c9 : x1 = 2
  · replace h := ite_t c9 h
    refine v_tableAt (tgt := 48) dX4_put_1 c9 (by decide) (by decide) (off := 47) (by decide) (by decide) ?_
    refine v_aload_n dX4_put_48 0 rfl rfl (vm_getR (t := (r0 + 3)) dX4_put_49 fsX4_16 ((isH_s p0).2.1) ((isH_s p0).1.1) (by decide) ((isH_r p0).1.2.2.1) (v_iload_n dX4_put_52 2 rfl rfl (v_iload_n dX4_put_53 3 rfl rfl ?_)))
    obtain ⟨g10, h⟩ := guard_some h
    obtain ⟨σ11, eσ11, h⟩ := ltc_some h
    refine vn_iast dX4_put_54 ((isH_s p0).2.2.2.2.1) ((isH_s p0).1.2.2.2.1) g10 rfl eσ11 (v_goto (tgt := 65) dX4_put_55 (by decide) (v_aload_n dX4_put_65 0 rfl rfl (v_bipush (v := (-2)) dX4_put_66 rfl ?_)))
    obtain ⟨σ12, eσ12, h⟩ := ltc_some h
    refine vn_put dX4_put_68 fsX4_29 ((isH_s p0).2.1) ((isH_s p0).1.1) (by decide) ((isH_r p0).2.2.2.2.2.2.2) eσ12 ?_
    replace h := Option.some.inj h
    subst h
    exact v_vret dX4_put_71 rfl rfl rfl rfl rfl
  replace h := ite_f c9 h
  have nc1 := i_ne (z := 0) (by decide) c1
  have nc5 := i_ne (z := 1) (by decide) c5
  have nc9 := i_ne (z := 2) (by decide) c9
  refine v_tableOut (tgt := 58) dX4_put_1 (by omega) (by decide) ?_
  refine v_aload_n dX4_put_58 0 rfl rfl (vm_getR (t := (r0 + 4)) dX4_put_59 fsX4_19 ((isH_s p0).2.1) ((isH_s p0).1.1) (by decide) ((isH_r p0).1.2.2.2.1) (v_iload_n dX4_put_62 2 rfl rfl (v_iload_n dX4_put_63 3 rfl rfl ?_)))
  obtain ⟨g13, h⟩ := guard_some h
  obtain ⟨σ14, eσ14, h⟩ := ltc_some h
  refine vn_iast dX4_put_64 ((isH_s p0).2.2.2.2.2.1) ((isH_s p0).1.2.2.2.2.1) g13 rfl eσ14 (v_aload_n dX4_put_65 0 rfl rfl (v_bipush (v := (-2)) dX4_put_66 rfl ?_))
  obtain ⟨σ15, eσ15, h⟩ := ltc_some h
  refine vn_put dX4_put_68 fsX4_29 ((isH_s p0).2.1) ((isH_s p0).1.1) (by decide) ((isH_r p0).2.2.2.2.2.2.2) eσ15 ?_
  replace h := Option.some.inj h
  subst h
  exact v_vret dX4_put_71 rfl rfl rfl rfl rfl
def fH_mostOf (r0 : Nat) (x1 : Int32) (σ : Sg) : Option Int32 := if x1 = 0 then some 5 else if x1 = 3 then some 9 else some (σ r0 6)
set_option maxRecDepth 100000 in
set_option maxHeartbeats 4000000 in
theorem eH_mostOf {G : Gx} (r0 : Nat) (p0 : isH r0) (x1 : Int32) (σ : Sg) (q : Int32) (h : fH_mostOf r0 x1 σ = some q) : Evm G yX4_mostOf MX4_mostOf [.ref (gb G + r0), .int x1] σ (some (.int q)) σ := by
  refine Ev.of (by decide +kernel) rfl rfl (Nat.le_of_ble_eq_true rfl) ?_
  show Vm G MX4_mostOf (some (.int q)) σ 0 [(0, .ref (gb G + r0)), (1, .int x1)] [] σ
  unfold fH_mostOf at h
  refine v_iload_n dX4_mostOf_0 1 rfl rfl ?_
  by_cases c1 : x1 = 0
  · replace h := ite_t c1 h
    refine v_lookAt (tgt := 28) dX4_mostOf_1 c1 (by decide) (off := 27) (by decide) (by decide) ?_
    refine v_iconst dX4_mostOf_28 rfl ?_
    replace h := Option.some.inj h
    subst h
    exact v_iret dX4_mostOf_29 rfl rfl rfl rfl rfl
  replace h := ite_f c1 h
  by_cases c2 : x1 = 3
  · replace h := ite_t c2 h
    refine v_lookAt (tgt := 30) dX4_mostOf_1 c2 (by decide) (off := 29) (by decide) (by decide) ?_
    refine v_bipush (v := 9) dX4_mostOf_30 rfl ?_
    replace h := Option.some.inj h
    subst h
    exact v_iret dX4_mostOf_32 rfl rfl rfl rfl rfl
  replace h := ite_f c2 h
  have nc1 := i_ne (z := 0) (by decide) c1
  have nc2 := i_ne (z := 3) (by decide) c2
  refine v_lookup (tgt := 33) (off := 32) dX4_mostOf_1 (by decide) (by simp only [Op.lookupswitch.offset]; rw [if_neg (fun q => nc1 q.symm)]; rw [if_neg (fun q => nc2 q.symm)]) (by decide) ?_
  refine v_aload_n dX4_mostOf_33 0 rfl rfl (vm_getI dX4_mostOf_34 fsX4_35 ((isH_s p0).2.1) ((isH_s p0).1.1) (by decide) ((isH_r p0).2.2.1) ?_)
  replace h := Option.some.inj h
  subst h
  exact v_iret dX4_mostOf_37 rfl rfl rfl rfl rfl
def fH_conceal_B25 (K2 : Nat → Int32 → Int32 → Sg → Option Sg) (r0 : Nat) (x1 : Int32) (x2 : Int32) (σ : Sg) : Option Sg := K2 r0 x1 (x2 + 1) σ
set_option maxRecDepth 100000 in
set_option maxHeartbeats 4000000 in
theorem sH_conceal_B25 {G : Gx} {q : Sg} (K2 : Nat → Int32 → Int32 → Sg → Option Sg) (hK2 : ∀ (r0 : Nat) (p0 : isH r0) (x1 : Int32) (x2 : Int32) (σ : Sg), K2 r0 x1 x2 σ = some q → Vm G MX4_conceal none q 2 [(0, .ref (gb G + r0)), (1, .int x1), (2, .int x2)] [] σ) (r0 : Nat) (p0 : isH r0) (x1 : Int32) (x2 : Int32) (σ : Sg) (h : fH_conceal_B25 K2 r0 x1 x2 σ = some q) : Vm G MX4_conceal none q 25 [(0, .ref (gb G + r0)), (1, .int x1), (2, .int x2)] [] σ := by
  unfold fH_conceal_B25 at h
  exact v_iinc (v := x2 + 1) dX4_conceal_25 2 rfl rfl [0, 1, 2] rfl (by decide) (v_goto (tgt := 2) dX4_conceal_28 (by decide) (v_sub [1, 2, 0] rfl (hK2 r0 p0 x1 (x2 + 1) _ h)))
def fH_conceal_b2 (K2 : Nat → Int32 → Int32 → Sg → Option Sg) (r0 : Nat) (x1 : Int32) (x2 : Int32) (σ : Sg) : Option Sg := if (σ r0 5) ≤ x2 then some σ else if ((x1 >>> (x2 &&& 31)) &&& 1) = 0 then fH_conceal_B25 K2 r0 x1 x2 σ else (fH_put r0 3 x2 0 σ).bind fun q3 => fH_conceal_B25 K2 r0 x1 x2 q3
def fH_conceal_L2 (n : Nat) : Nat → Int32 → Int32 → Sg → Option Sg := Nat.rec (fun _ _ _ _ => none) (fun _ K => fH_conceal_b2 K) n
set_option maxRecDepth 100000 in
set_option maxHeartbeats 4000000 in
theorem sH_conceal_b2 {G : Gx} {q : Sg} (K2 : Nat → Int32 → Int32 → Sg → Option Sg) (hK2 : ∀ (r0 : Nat) (p0 : isH r0) (x1 : Int32) (x2 : Int32) (σ : Sg), K2 r0 x1 x2 σ = some q → Vm G MX4_conceal none q 2 [(0, .ref (gb G + r0)), (1, .int x1), (2, .int x2)] [] σ) (r0 : Nat) (p0 : isH r0) (x1 : Int32) (x2 : Int32) (σ : Sg) (h : fH_conceal_b2 K2 r0 x1 x2 σ = some q) : Vm G MX4_conceal none q 2 [(0, .ref (gb G + r0)), (1, .int x1), (2, .int x2)] [] σ := by
  unfold fH_conceal_b2 at h
  refine v_iload_n dX4_conceal_2 2 rfl rfl (v_aload_n dX4_conceal_3 0 rfl rfl (vm_getI dX4_conceal_4 fsX4_32 ((isH_s p0).2.1) ((isH_s p0).1.1) (by decide) ((isH_r p0).2.1) (v_icmp_ge (tgt := 31) dX4_conceal_7 (by decide) (fun c1 => ?_) (fun c1 => ?_))))
  · replace h := ite_t c1 h
    replace h := Option.some.inj h
    subst h
    exact v_vret dX4_conceal_31 rfl rfl rfl rfl rfl
  · replace h := ite_f c1 h
    refine v_iload_n dX4_conceal_10 1 rfl rfl (v_iload_n dX4_conceal_11 2 rfl rfl (v_ishr dX4_conceal_12 (v_iconst dX4_conceal_13 rfl (v_iand dX4_conceal_14 (v_if_eq (tgt := 25) dX4_conceal_15 (by decide) (fun c2 => ?_) (fun c2 => ?_))))))
    · replace h := ite_t c2 h
      exact sH_conceal_B25 K2 hK2 r0 p0 x1 x2 _ h
    · replace h := ite_f c2 h
      refine v_aload_n dX4_conceal_18 0 rfl rfl (v_iconst dX4_conceal_19 rfl (v_iload_n dX4_conceal_20 2 rfl rfl (v_iconst dX4_conceal_21 rfl ?_)))
      obtain ⟨q3, hq3, h⟩ := bind_some h
      refine v_callV (As := [.int 3, .int x2, .int 0]) (S := []) dX4_conceal_22 tw525 tw445 tw446 ykX4_put ((isH_s p0).2.1) ((isH_s p0).1.1) (by decide) ok_4 rfl (by decide) rfl rfl (Nat.le_of_ble_eq_true rfl) (by decide) (eH_put r0 p0 3 x2 0 _ _ hq3) ?_
      exact sH_conceal_B25 K2 hK2 r0 p0 x1 x2 _ h
theorem sH_conceal_L2 {G : Gx} {q : Sg} (n : Nat) : ∀ (r0 : Nat) (p0 : isH r0) (x1 : Int32) (x2 : Int32) (σ : Sg) (h : fH_conceal_L2 n r0 x1 x2 σ = some q), Vm G MX4_conceal none q 2 [(0, .ref (gb G + r0)), (1, .int x1), (2, .int x2)] [] σ := by
  induction n with
  | zero => intro r0 p0 x1 x2 σ h; cases h
  | succ n ih => intro r0 p0 x1 x2 σ h; exact sH_conceal_b2  _ ih r0 p0 x1 x2 σ h
def fH_conceal (r0 : Nat) (x1 : Int32) (σ : Sg) : Option Sg := fH_conceal_L2 2000 r0 x1 0 σ
set_option maxRecDepth 100000 in
set_option maxHeartbeats 4000000 in
theorem eH_conceal {G : Gx} (r0 : Nat) (p0 : isH r0) (x1 : Int32) (σ : Sg) (q : Sg) (h : fH_conceal r0 x1 σ = some q) : Evm G yX4_conceal MX4_conceal [.ref (gb G + r0), .int x1] σ none q := by
  refine Ev.of (by decide +kernel) rfl rfl (Nat.le_of_ble_eq_true rfl) ?_
  show Vm G MX4_conceal none q 0 [(0, .ref (gb G + r0)), (1, .int x1)] [] σ
  unfold fH_conceal at h
  exact v_iconst dX4_conceal_0 rfl (v_istore_n dX4_conceal_1 [0, 1, 2] rfl (by decide) rfl (v_sub [1, 2, 0] rfl (sH_conceal_L2 2000 r0 p0 x1 0 _ h)))
def fH_showing_B29 (K4 : Nat → Int32 → Int32 → Sg → Option Int32) (r0 : Nat) (x2 : Int32) (s0 : Int32) (s1 : Int32) (σ : Sg) : Option Int32 := K4 r0 (s1 ||| s0) (x2 + 1) σ
set_option maxRecDepth 100000 in
set_option maxHeartbeats 4000000 in
theorem sH_showing_B29 {G : Gx} {q : Int32} (K4 : Nat → Int32 → Int32 → Sg → Option Int32) (hK4 : ∀ (r0 : Nat) (p0 : isH r0) (x1 : Int32) (x2 : Int32) (σ : Sg), K4 r0 x1 x2 σ = some q → Vm G MX4_showing (some (.int q)) σ 4 [(0, .ref (gb G + r0)), (1, .int x1), (2, .int x2)] [] σ) (r0 : Nat) (p0 : isH r0) (x2 : Int32) (s0 : Int32) (s1 : Int32) (σ : Sg) (h : fH_showing_B29 K4 r0 x2 s0 s1 σ = some q) : Vm G MX4_showing (some (.int q)) σ 29 [(0, .ref (gb G + r0)), (2, .int x2)] [.int s0, .int s1] σ := by
  unfold fH_showing_B29 at h
  exact v_ior dX4_showing_29 (v_istore_n dX4_showing_30 [0, 1, 2] rfl (by decide) rfl (v_iinc (v := x2 + 1) dX4_showing_31 2 rfl rfl [0, 1, 2] rfl (by decide) (v_goto (tgt := 4) dX4_showing_34 (by decide) (v_sub [2, 1, 0] rfl (hK4 r0 p0 (s1 ||| s0) (x2 + 1) _ h)))))
def fH_showing_b4 (K4 : Nat → Int32 → Int32 → Sg → Option Int32) (r0 : Nat) (x1 : Int32) (x2 : Int32) (σ : Sg) : Option Int32 := if (σ r0 5) ≤ x2 then some x1 else if inb x2 6 = true then if (σ (r0 + 4) (ix x2)) ≤ 0 then fH_showing_B29 K4 r0 x2 0 x1 σ else fH_showing_B29 K4 r0 x2 (1 <<< (x2 &&& 31)) x1 σ else none
def fH_showing_L4 (n : Nat) : Nat → Int32 → Int32 → Sg → Option Int32 := Nat.rec (fun _ _ _ _ => none) (fun _ K => fH_showing_b4 K) n
set_option maxRecDepth 100000 in
set_option maxHeartbeats 4000000 in
theorem sH_showing_b4 {G : Gx} {q : Int32} (K4 : Nat → Int32 → Int32 → Sg → Option Int32) (hK4 : ∀ (r0 : Nat) (p0 : isH r0) (x1 : Int32) (x2 : Int32) (σ : Sg), K4 r0 x1 x2 σ = some q → Vm G MX4_showing (some (.int q)) σ 4 [(0, .ref (gb G + r0)), (1, .int x1), (2, .int x2)] [] σ) (r0 : Nat) (p0 : isH r0) (x1 : Int32) (x2 : Int32) (σ : Sg) (h : fH_showing_b4 K4 r0 x1 x2 σ = some q) : Vm G MX4_showing (some (.int q)) σ 4 [(0, .ref (gb G + r0)), (1, .int x1), (2, .int x2)] [] σ := by
  unfold fH_showing_b4 at h
  refine v_iload_n dX4_showing_4 2 rfl rfl (v_aload_n dX4_showing_5 0 rfl rfl (vm_getI dX4_showing_6 fsX4_32 ((isH_s p0).2.1) ((isH_s p0).1.1) (by decide) ((isH_r p0).2.1) (v_icmp_ge (tgt := 37) dX4_showing_9 (by decide) (fun c1 => ?_) (fun c1 => ?_))))
  · replace h := ite_t c1 h
    refine v_iload_n dX4_showing_37 1 rfl rfl ?_
    replace h := Option.some.inj h
    subst h
    exact v_iret dX4_showing_38 rfl rfl rfl rfl rfl
  · replace h := ite_f c1 h
    refine v_iload_n dX4_showing_12 1 rfl rfl (v_aload_n dX4_showing_13 0 rfl rfl (vm_getR (t := (r0 + 4)) dX4_showing_14 fsX4_19 ((isH_s p0).2.1) ((isH_s p0).1.1) (by decide) ((isH_r p0).1.2.2.2.1) (v_iload_n dX4_showing_17 2 rfl rfl ?_)))
    obtain ⟨g2, h⟩ := guard_some h
    refine vn_iald dX4_showing_18 ((isH_s p0).2.2.2.2.2.1) ((isH_s p0).1.2.2.2.2.1) g2 rfl (v_if_le (tgt := 28) dX4_showing_19 (by decide) (fun c3 => ?_) (fun c3 => ?_))
    · replace h := ite_t c3 h
      exact v_iconst dX4_showing_28 rfl (v_sub [0, 2] rfl (sH_showing_B29 K4 hK4 r0 p0 x2 0 x1 _ h))
    · replace h := ite_f c3 h
      exact v_iconst dX4_showing_22 rfl (v_iload_n dX4_showing_23 2 rfl rfl (v_ishl dX4_showing_24 (v_goto (tgt := 29) dX4_showing_25 (by decide) (v_sub [0, 2] rfl (sH_showing_B29 K4 hK4 r0 p0 x2 (1 <<< (x2 &&& 31)) x1 _ h)))))
theorem sH_showing_L4 {G : Gx} {q : Int32} (n : Nat) : ∀ (r0 : Nat) (p0 : isH r0) (x1 : Int32) (x2 : Int32) (σ : Sg) (h : fH_showing_L4 n r0 x1 x2 σ = some q), Vm G MX4_showing (some (.int q)) σ 4 [(0, .ref (gb G + r0)), (1, .int x1), (2, .int x2)] [] σ := by
  induction n with
  | zero => intro r0 p0 x1 x2 σ h; cases h
  | succ n ih => intro r0 p0 x1 x2 σ h; exact sH_showing_b4  _ ih r0 p0 x1 x2 σ h
def fH_showing (r0 : Nat) (σ : Sg) : Option Int32 := fH_showing_L4 2000 r0 0 0 σ
set_option maxRecDepth 100000 in
set_option maxHeartbeats 4000000 in
theorem eH_showing {G : Gx} (r0 : Nat) (p0 : isH r0) (σ : Sg) (q : Int32) (h : fH_showing r0 σ = some q) : Evm G yX4_showing MX4_showing [.ref (gb G + r0)] σ (some (.int q)) σ := by
  refine Ev.of (by decide +kernel) rfl rfl (Nat.le_of_ble_eq_true rfl) ?_
  show Vm G MX4_showing (some (.int q)) σ 0 [(0, .ref (gb G + r0))] [] σ
  unfold fH_showing at h
  exact v_iconst dX4_showing_0 rfl (v_istore_n dX4_showing_1 [0, 1] rfl (by decide) rfl (v_iconst dX4_showing_2 rfl (v_istore_n dX4_showing_3 [0, 1, 2] rfl (by decide) rfl (v_sub [2, 1, 0] rfl (sH_showing_L4 2000 r0 p0 0 0 _ h)))))
def fH_isBrought (r0 : Nat) (x1 : Int32) (σ : Sg) : Option Int32 := if (((σ r0 9) >>> (x1 &&& 31)) &&& 1) = 0 then some 0 else some 1
set_option maxRecDepth 100000 in
set_option maxHeartbeats 4000000 in
theorem eH_isBrought {G : Gx} (r0 : Nat) (p0 : isH r0) (x1 : Int32) (σ : Sg) (q : Int32) (h : fH_isBrought r0 x1 σ = some q) : Evm G yX4_isBrought MX4_isBrought [.ref (gb G + r0), .int x1] σ (some (.int q)) σ := by
  refine Ev.of (by decide +kernel) rfl rfl (Nat.le_of_ble_eq_true rfl) ?_
  show Vm G MX4_isBrought (some (.int q)) σ 0 [(0, .ref (gb G + r0)), (1, .int x1)] [] σ
  unfold fH_isBrought at h
  refine v_aload_n dX4_isBrought_0 0 rfl rfl (vm_getI dX4_isBrought_1 fsX4_41 ((isH_s p0).2.1) ((isH_s p0).1.1) (by decide) ((isH_r p0).2.2.2.2.2.1) (v_iload_n dX4_isBrought_4 1 rfl rfl (v_ishr dX4_isBrought_5 (v_iconst dX4_isBrought_6 rfl (v_iand dX4_isBrought_7 (v_if_eq (tgt := 15) dX4_isBrought_8 (by decide) (fun c1 => ?_) (fun c1 => ?_)))))))
  · replace h := ite_t c1 h
    refine v_iconst dX4_isBrought_15 rfl ?_
    replace h := Option.some.inj h
    subst h
    exact v_zret dX4_isBrought_16 rfl (by decide) rfl rfl rfl rfl
  · replace h := ite_f c1 h
    refine v_iconst dX4_isBrought_11 rfl (v_goto (tgt := 16) dX4_isBrought_12 (by decide) ?_)
    replace h := Option.some.inj h
    subst h
    exact v_zret dX4_isBrought_16 rfl (by decide) rfl rfl rfl rfl
def fH_minding_B32 (r0 : Nat) (x1 : Int32) (x2 : Int32) (s0 : Int32) (σ : Sg) : Option Int32 := if inb x1 6 = true then if (σ (r0 + 1) (ix x1)) = 1 then some s0 else if (σ (r0 + 1) (ix x1)) = 2 then some (2 * s0) else if (σ (r0 + 1) (ix x1)) = 3 then (if s0 ≤ (σ (r0 + 5) (ix x1)) then some 0 else some (s0 - (σ (r0 + 5) (ix x1)))) else if (σ (r0 + 1) (ix x1)) = 4 then (if inb x2 6 = true then if (σ (r0 + 4) (ix x2)) ≤ 0 then some 0 else some (σ (r0 + 5) (ix x1)) else none) else if (σ (r0 + 1) (ix x1)) = 5 then (if inb x2 6 = true then if (σ (r0 + 3) (ix x1)) = (σ (r0 + 3) (ix x2)) then some 9 else if (σ (r0 + 4) (ix x2)) ≤ 0 then some 0 else some (σ (r0 + 5) (ix x1)) else none) else if inb x2 6 = true then if (σ (r0 + 4) (ix x2)) ≤ 0 then some 0 else some (σ (r0 + 5) (ix x1)) else none else none
set_option maxRecDepth 100000 in
set_option maxHeartbeats 4000000 in
theorem sH_minding_B32 {G : Gx} {q : Int32} (r0 : Nat) (p0 : isH r0) (x1 : Int32) (x2 : Int32) (s0 : Int32) (σ : Sg) (h : fH_minding_B32 r0 x1 x2 s0 σ = some q) : Vm G MX4_minding (some (.int q)) σ 32 [(0, .ref (gb G + r0)), (1, .int x1), (2, .int x2)] [.int s0] σ := by
  unfold fH_minding_B32 at h
  refine v_istore_n dX4_minding_32 [0, 1, 2, 3] rfl (by decide) rfl (v_aload_n dX4_minding_33 1 rfl rfl (vm_getR (t := (r0 + 1)) dX4_minding_34 fsX4_9 ((isH_s p0).2.1) ((isH_s p0).1.1) (by decide) ((isH_r p0).1.1) (v_iload_n dX4_minding_37 2 rfl rfl ?_)))
  obtain ⟨g4, h⟩ := guard_some h
  refine vn_iald dX4_minding_38 ((isH_s p0).2.2.1) ((isH_s p0).1.2.1) g4 rfl ?_
  by_cases c5 : (σ (r0 + 1) (ix x1)) = 1
  · replace h := ite_t c5 h
    refine v_tableAt (tgt := 72) dX4_minding_39 c5 (by decide) (by decide) (off := 33) (by decide) (by decide) ?_
    refine v_iload_n dX4_minding_72 0 rfl rfl ?_
    replace h := Option.some.inj h
    subst h
    exact v_iret dX4_minding_73 rfl rfl rfl rfl rfl
  replace h := ite_f c5 h
  by_cases c6 : (σ (r0 + 1) (ix x1)) = 2
  · replace h := ite_t c6 h
    refine v_tableAt (tgt := 74) dX4_minding_39 c6 (by decide) (by decide) (off := 35) (by decide) (by decide) ?_
    refine v_iconst dX4_minding_74 rfl (v_iload_n dX4_minding_75 0 rfl rfl (v_imul dX4_minding_76 ?_))
    replace h := Option.some.inj h
    subst h
    exact v_iret dX4_minding_77 rfl rfl rfl rfl rfl
  replace h := ite_f c6 h
  by_cases c7 : (σ (r0 + 1) (ix x1)) = 3
  · replace h := ite_t c7 h
    refine v_tableAt (tgt := 78) dX4_minding_39 c7 (by decide) (by decide) (off := 39) (by decide) (by decide) ?_
    refine v_iload_n dX4_minding_78 0 rfl rfl (v_aload_n dX4_minding_79 1 rfl rfl (vm_getR (t := (r0 + 5)) dX4_minding_80 fsX4_22 ((isH_s p0).2.1) ((isH_s p0).1.1) (by decide) ((isH_r p0).1.2.2.2.2) (v_iload_n dX4_minding_83 2 rfl rfl (vn_iald dX4_minding_84 ((isH_s p0).2.2.2.2.2.2) ((isH_s p0).1.2.2.2.2.2) g4 rfl (v_icmp_le (tgt := 99) dX4_minding_85 (by decide) (fun c8 => ?_) (fun c8 => ?_))))))
    · replace h := ite_t c8 h
      refine v_iconst dX4_minding_99 rfl ?_
      replace h := Option.some.inj h
      subst h
      exact v_iret dX4_minding_100 rfl rfl rfl rfl rfl
    · replace h := ite_f c8 h
      refine v_iload_n dX4_minding_88 0 rfl rfl (v_aload_n dX4_minding_89 1 rfl rfl (vm_getR (t := (r0 + 5)) dX4_minding_90 fsX4_22 ((isH_s p0).2.1) ((isH_s p0).1.1) (by decide) ((isH_r p0).1.2.2.2.2) (v_iload_n dX4_minding_93 2 rfl rfl (vn_iald dX4_minding_94 ((isH_s p0).2.2.2.2.2.2) ((isH_s p0).1.2.2.2.2.2) g4 rfl (v_isub dX4_minding_95 (v_goto (tgt := 100) dX4_minding_96 (by decide) ?_))))))
      replace h := Option.some.inj h
      subst h
      exact v_iret dX4_minding_100 rfl rfl rfl rfl rfl
  replace h := ite_f c7 h
  by_cases c9 : (σ (r0 + 1) (ix x1)) = 4
  · replace h := ite_t c9 h
    refine v_tableAt (tgt := 139) dX4_minding_39 c9 (by decide) (by decide) (off := 100) (by decide) (by decide) ?_
    refine v_aload_n dX4_minding_139 1 rfl rfl (vm_getR (t := (r0 + 4)) dX4_minding_140 fsX4_19 ((isH_s p0).2.1) ((isH_s p0).1.1) (by decide) ((isH_r p0).1.2.2.2.1) (v_iload_n dX4_minding_143 3 rfl rfl ?_))
    obtain ⟨g10, h⟩ := guard_some h
    refine vn_iald dX4_minding_144 ((isH_s p0).2.2.2.2.2.1) ((isH_s p0).1.2.2.2.2.1) g10 rfl (v_if_le (tgt := 157) dX4_minding_145 (by decide) (fun c11 => ?_) (fun c11 => ?_))
    · replace h := ite_t c11 h
      refine v_iconst dX4_minding_157 rfl ?_
      replace h := Option.some.inj h
      subst h
      exact v_iret dX4_minding_158 rfl rfl rfl rfl rfl
    · replace h := ite_f c11 h
      refine v_aload_n dX4_minding_148 1 rfl rfl (vm_getR (t := (r0 + 5)) dX4_minding_149 fsX4_22 ((isH_s p0).2.1) ((isH_s p0).1.1) (by decide) ((isH_r p0).1.2.2.2.2) (v_iload_n dX4_minding_152 2 rfl rfl (vn_iald dX4_minding_153 ((isH_s p0).2.2.2.2.2.2) ((isH_s p0).1.2.2.2.2.2) g4 rfl (v_goto (tgt := 158) dX4_minding_154 (by decide) ?_))))
      replace h := Option.some.inj h
      subst h
      exact v_iret dX4_minding_158 rfl rfl rfl rfl rfl
  replace h := ite_f c9 h
  by_cases c12 : (σ (r0 + 1) (ix x1)) = 5
  · replace h := ite_t c12 h
    refine v_tableAt (tgt := 101) dX4_minding_39 c12 (by decide) (by decide) (off := 62) (by decide) (by decide) ?_
    refine v_aload_n dX4_minding_101 1 rfl rfl (vm_getR (t := (r0 + 3)) dX4_minding_102 fsX4_16 ((isH_s p0).2.1) ((isH_s p0).1.1) (by decide) ((isH_r p0).1.2.2.1) (v_iload_n dX4_minding_105 2 rfl rfl (vn_iald dX4_minding_106 ((isH_s p0).2.2.2.2.1) ((isH_s p0).1.2.2.2.1) g4 rfl (v_aload_n dX4_minding_107 1 rfl rfl (vm_getR (t := (r0 + 3)) dX4_minding_108 fsX4_16 ((isH_s p0).2.1) ((isH_s p0).1.1) (by decide) ((isH_r p0).1.2.2.1) (v_iload_n dX4_minding_111 3 rfl rfl ?_))))))
    obtain ⟨g13, h⟩ := guard_some h
    refine vn_iald dX4_minding_112 ((isH_s p0).2.2.2.2.1) ((isH_s p0).1.2.2.2.1) g13 rfl (v_icmp_ne (tgt := 119) dX4_minding_113 (by decide) (fun c14 => ?_) (fun c14 => ?_))
    · replace h := ite_f c14 h
      refine v_aload_n dX4_minding_119 1 rfl rfl (vm_getR (t := (r0 + 4)) dX4_minding_120 fsX4_19 ((isH_s p0).2.1) ((isH_s p0).1.1) (by decide) ((isH_r p0).1.2.2.2.1) (v_iload_n dX4_minding_123 3 rfl rfl (vn_iald dX4_minding_124 ((isH_s p0).2.2.2.2.2.1) ((isH_s p0).1.2.2.2.2.1) g13 rfl (v_if_le (tgt := 137) dX4_minding_125 (by decide) (fun c15 => ?_) (fun c15 => ?_)))))
      · replace h := ite_t c15 h
        refine v_iconst dX4_minding_137 rfl ?_
        replace h := Option.some.inj h
        subst h
        exact v_iret dX4_minding_138 rfl rfl rfl rfl rfl
      · replace h := ite_f c15 h
        refine v_aload_n dX4_minding_128 1 rfl rfl (vm_getR (t := (r0 + 5)) dX4_minding_129 fsX4_22 ((isH_s p0).2.1) ((isH_s p0).1.1) (by decide) ((isH_r p0).1.2.2.2.2) (v_iload_n dX4_minding_132 2 rfl rfl (vn_iald dX4_minding_133 ((isH_s p0).2.2.2.2.2.2) ((isH_s p0).1.2.2.2.2.2) g4 rfl (v_goto (tgt := 138) dX4_minding_134 (by decide) ?_))))
        replace h := Option.some.inj h
        subst h
        exact v_iret dX4_minding_138 rfl rfl rfl rfl rfl
    · replace h := ite_t c14 h
      refine v_bipush (v := 9) dX4_minding_116 rfl ?_
      replace h := Option.some.inj h
      subst h
      exact v_iret dX4_minding_118 rfl rfl rfl rfl rfl
  replace h := ite_f c12 h
  have nc5 := i_ne (z := 1) (by decide) c5
  have nc6 := i_ne (z := 2) (by decide) c6
  have nc7 := i_ne (z := 3) (by decide) c7
  have nc9 := i_ne (z := 4) (by decide) c9
  have nc12 := i_ne (z := 5) (by decide) c12
  refine v_tableOut (tgt := 139) dX4_minding_39 (by omega) (by decide) ?_
  refine v_aload_n dX4_minding_139 1 rfl rfl (vm_getR (t := (r0 + 4)) dX4_minding_140 fsX4_19 ((isH_s p0).2.1) ((isH_s p0).1.1) (by decide) ((isH_r p0).1.2.2.2.1) (v_iload_n dX4_minding_143 3 rfl rfl ?_))
  obtain ⟨g16, h⟩ := guard_some h
  refine vn_iald dX4_minding_144 ((isH_s p0).2.2.2.2.2.1) ((isH_s p0).1.2.2.2.2.1) g16 rfl (v_if_le (tgt := 157) dX4_minding_145 (by decide) (fun c17 => ?_) (fun c17 => ?_))
  · replace h := ite_t c17 h
    refine v_iconst dX4_minding_157 rfl ?_
    replace h := Option.some.inj h
    subst h
    exact v_iret dX4_minding_158 rfl rfl rfl rfl rfl
  · replace h := ite_f c17 h
    refine v_aload_n dX4_minding_148 1 rfl rfl (vm_getR (t := (r0 + 5)) dX4_minding_149 fsX4_22 ((isH_s p0).2.1) ((isH_s p0).1.1) (by decide) ((isH_r p0).1.2.2.2.2) (v_iload_n dX4_minding_152 2 rfl rfl (vn_iald dX4_minding_153 ((isH_s p0).2.2.2.2.2.2) ((isH_s p0).1.2.2.2.2.2) g4 rfl (v_goto (tgt := 158) dX4_minding_154 (by decide) ?_))))
    replace h := Option.some.inj h
    subst h
    exact v_iret dX4_minding_158 rfl rfl rfl rfl rfl
def fH_minding (r0 : Nat) (x1 : Int32) (x2 : Int32) (σ : Sg) : Option Int32 := if inb x2 6 = true then if inb x1 6 = true then if (σ (r0 + 4) (ix x2)) ≤ (σ (r0 + 4) (ix x1)) then fH_minding_B32 r0 x1 x2 0 σ else fH_minding_B32 r0 x1 x2 ((σ (r0 + 4) (ix x2)) - (σ (r0 + 4) (ix x1))) σ else none else none
set_option maxRecDepth 100000 in
set_option maxHeartbeats 4000000 in
theorem eH_minding {G : Gx} (r0 : Nat) (p0 : isH r0) (x1 : Int32) (x2 : Int32) (σ : Sg) (q : Int32) (h : fH_minding r0 x1 x2 σ = some q) : Evm G yX4_minding MX4_minding [.ref (gb G + r0), .int x1, .int x2] σ (some (.int q)) σ := by
  refine Ev.of (by decide +kernel) rfl rfl (Nat.le_of_ble_eq_true rfl) ?_
  show Vm G MX4_minding (some (.int q)) σ 0 [(0, .ref (gb G + r0)), (1, .int x1), (2, .int x2)] [] σ
  unfold fH_minding at h
  refine v_aload_n dX4_minding_0 0 rfl rfl (vm_getR (t := (r0 + 4)) dX4_minding_1 fsX4_19 ((isH_s p0).2.1) ((isH_s p0).1.1) (by decide) ((isH_r p0).1.2.2.2.1) (v_iload_n dX4_minding_4 2 rfl rfl ?_))
  obtain ⟨g1, h⟩ := guard_some h
  refine vn_iald dX4_minding_5 ((isH_s p0).2.2.2.2.2.1) ((isH_s p0).1.2.2.2.2.1) g1 rfl (v_aload_n dX4_minding_6 0 rfl rfl (vm_getR (t := (r0 + 4)) dX4_minding_7 fsX4_19 ((isH_s p0).2.1) ((isH_s p0).1.1) (by decide) ((isH_r p0).1.2.2.2.1) (v_iload_n dX4_minding_10 1 rfl rfl ?_)))
  obtain ⟨g2, h⟩ := guard_some h
  refine vn_iald dX4_minding_11 ((isH_s p0).2.2.2.2.2.1) ((isH_s p0).1.2.2.2.2.1) g2 rfl (v_icmp_le (tgt := 31) dX4_minding_12 (by decide) (fun c3 => ?_) (fun c3 => ?_))
  · replace h := ite_t c3 h
    exact v_iconst dX4_minding_31 rfl (sH_minding_B32 r0 p0 x1 x2 0 _ h)
  · replace h := ite_f c3 h
    exact v_aload_n dX4_minding_15 0 rfl rfl (vm_getR (t := (r0 + 4)) dX4_minding_16 fsX4_19 ((isH_s p0).2.1) ((isH_s p0).1.1) (by decide) ((isH_r p0).1.2.2.2.1) (v_iload_n dX4_minding_19 2 rfl rfl (vn_iald dX4_minding_20 ((isH_s p0).2.2.2.2.2.1) ((isH_s p0).1.2.2.2.2.1) g1 rfl (v_aload_n dX4_minding_21 0 rfl rfl (vm_getR (t := (r0 + 4)) dX4_minding_22 fsX4_19 ((isH_s p0).2.1) ((isH_s p0).1.1) (by decide) ((isH_r p0).1.2.2.2.1) (v_iload_n dX4_minding_25 1 rfl rfl (vn_iald dX4_minding_26 ((isH_s p0).2.2.2.2.2.1) ((isH_s p0).1.2.2.2.2.1) g2 rfl (v_isub dX4_minding_27 (v_goto (tgt := 32) dX4_minding_28 (by decide) (sH_minding_B32 r0 p0 x1 x2 ((σ (r0 + 4) (ix x2)) - (σ (r0 + 4) (ix x1))) _ h))))))))))
def fH_envy_B59 (K14 : Nat → Int32 → Int32 → Int32 → Sg → Option Int32) (r0 : Nat) (x1 : Int32) (x2 : Int32) (x3 : Int32) (σ : Sg) : Option Int32 := K14 r0 x1 x2 (x3 + 1) σ
set_option maxRecDepth 100000 in
set_option maxHeartbeats 4000000 in
theorem sH_envy_B59 {G : Gx} {q : Int32} (K14 : Nat → Int32 → Int32 → Int32 → Sg → Option Int32) (hK14 : ∀ (r0 : Nat) (p0 : isH r0) (x1 : Int32) (x2 : Int32) (x3 : Int32) (σ : Sg), K14 r0 x1 x2 x3 σ = some q → Vm G MX4_envy (some (.int q)) σ 14 [(0, .ref (gb G + r0)), (1, .int x1), (2, .int x2), (3, .int x3)] [] σ) (r0 : Nat) (p0 : isH r0) (x1 : Int32) (x2 : Int32) (x3 : Int32) (σ : Sg) (h : fH_envy_B59 K14 r0 x1 x2 x3 σ = some q) : Vm G MX4_envy (some (.int q)) σ 59 [(0, .ref (gb G + r0)), (1, .int x1), (2, .int x2), (3, .int x3)] [] σ := by
  unfold fH_envy_B59 at h
  exact v_iinc (v := x3 + 1) dX4_envy_59 3 rfl rfl [0, 1, 2, 3] rfl (by decide) (v_goto (tgt := 14) dX4_envy_62 (by decide) (v_sub [1, 2, 3, 0] rfl (hK14 r0 p0 x1 x2 (x3 + 1) _ h)))
def fH_envy_b14 (K14 : Nat → Int32 → Int32 → Int32 → Sg → Option Int32) (r0 : Nat) (x1 : Int32) (x2 : Int32) (x3 : Int32) (σ : Sg) : Option Int32 := if (σ r0 5) ≤ x3 then some x2 else if x3 = x1 then fH_envy_B59 K14 r0 x1 x2 x3 σ else if x3 = (σ r0 8) then fH_envy_B59 K14 r0 x1 x2 x3 σ else if inb x3 6 = true then if inb x1 6 = true then if (σ (r0 + 2) (ix x3)) = (σ (r0 + 2) (ix x1)) then ((fH_minding r0 x3 x1 σ).bind fun q8 => fH_envy_B59 K14 r0 x1 (x2 + q8) x3 σ) else fH_envy_B59 K14 r0 x1 x2 x3 σ else none else none
def fH_envy_L14 (n : Nat) : Nat → Int32 → Int32 → Int32 → Sg → Option Int32 := Nat.rec (fun _ _ _ _ _ => none) (fun _ K => fH_envy_b14 K) n
set_option maxRecDepth 100000 in
set_option maxHeartbeats 4000000 in
theorem sH_envy_b14 {G : Gx} {q : Int32} (K14 : Nat → Int32 → Int32 → Int32 → Sg → Option Int32) (hK14 : ∀ (r0 : Nat) (p0 : isH r0) (x1 : Int32) (x2 : Int32) (x3 : Int32) (σ : Sg), K14 r0 x1 x2 x3 σ = some q → Vm G MX4_envy (some (.int q)) σ 14 [(0, .ref (gb G + r0)), (1, .int x1), (2, .int x2), (3, .int x3)] [] σ) (r0 : Nat) (p0 : isH r0) (x1 : Int32) (x2 : Int32) (x3 : Int32) (σ : Sg) (h : fH_envy_b14 K14 r0 x1 x2 x3 σ = some q) : Vm G MX4_envy (some (.int q)) σ 14 [(0, .ref (gb G + r0)), (1, .int x1), (2, .int x2), (3, .int x3)] [] σ := by
  unfold fH_envy_b14 at h
  refine v_iload_n dX4_envy_14 3 rfl rfl (v_aload_n dX4_envy_15 0 rfl rfl (vm_getI dX4_envy_16 fsX4_32 ((isH_s p0).2.1) ((isH_s p0).1.1) (by decide) ((isH_r p0).2.1) (v_icmp_ge (tgt := 65) dX4_envy_19 (by decide) (fun c2 => ?_) (fun c2 => ?_))))
  · replace h := ite_t c2 h
    refine v_iload_n dX4_envy_65 2 rfl rfl ?_
    replace h := Option.some.inj h
    subst h
    exact v_iret dX4_envy_66 rfl rfl rfl rfl rfl
  · replace h := ite_f c2 h
    refine v_iload_n dX4_envy_22 3 rfl rfl (v_iload_n dX4_envy_23 1 rfl rfl (v_icmp_eq (tgt := 59) dX4_envy_24 (by decide) (fun c3 => ?_) (fun c3 => ?_)))
    · replace h := ite_t c3 h
      exact sH_envy_B59 K14 hK14 r0 p0 x1 x2 x3 _ h
    · replace h := ite_f c3 h
      refine v_iload_n dX4_envy_27 3 rfl rfl (v_aload_n dX4_envy_28 0 rfl rfl (vm_getI dX4_envy_29 fsX4_25 ((isH_s p0).2.1) ((isH_s p0).1.1) (by decide) ((isH_r p0).2.2.2.2.1) (v_icmp_eq (tgt := 59) dX4_envy_32 (by decide) (fun c4 => ?_) (fun c4 => ?_))))
      · replace h := ite_t c4 h
        exact sH_envy_B59 K14 hK14 r0 p0 x1 x2 x3 _ h
      · replace h := ite_f c4 h
        refine v_aload_n dX4_envy_35 0 rfl rfl (vm_getR (t := (r0 + 2)) dX4_envy_36 fsX4_13 ((isH_s p0).2.1) ((isH_s p0).1.1) (by decide) ((isH_r p0).1.2.1) (v_iload_n dX4_envy_39 3 rfl rfl ?_))
        obtain ⟨g5, h⟩ := guard_some h
        refine vn_iald dX4_envy_40 ((isH_s p0).2.2.2.1) ((isH_s p0).1.2.2.1) g5 rfl (v_aload_n dX4_envy_41 0 rfl rfl (vm_getR (t := (r0 + 2)) dX4_envy_42 fsX4_13 ((isH_s p0).2.1) ((isH_s p0).1.1) (by decide) ((isH_r p0).1.2.1) (v_iload_n dX4_envy_45 1 rfl rfl ?_)))
        obtain ⟨g6, h⟩ := guard_some h
        refine vn_iald dX4_envy_46 ((isH_s p0).2.2.2.1) ((isH_s p0).1.2.2.1) g6 rfl (v_icmp_ne (tgt := 59) dX4_envy_47 (by decide) (fun c7 => ?_) (fun c7 => ?_))
        · replace h := ite_f c7 h
          exact sH_envy_B59 K14 hK14 r0 p0 x1 x2 x3 _ h
        · replace h := ite_t c7 h
          refine v_iload_n dX4_envy_50 2 rfl rfl (v_aload_n dX4_envy_51 0 rfl rfl (v_iload_n dX4_envy_52 3 rfl rfl (v_iload_n dX4_envy_53 1 rfl rfl ?_)))
          obtain ⟨q8, hq8, h⟩ := bind_some h
          refine v_callV (As := [.int x3, .int x1]) (S := [.int x2]) dX4_envy_54 tw432 tw433 tw434 ykX4_minding ((isH_s p0).2.1) ((isH_s p0).1.1) (by decide) ok_4 rfl (by decide) rfl rfl (Nat.le_of_ble_eq_true rfl) (by decide) (eH_minding r0 p0 x3 x1 _ _ hq8) ?_
          exact v_iadd dX4_envy_57 (v_istore_n dX4_envy_58 [0, 1, 2, 3] rfl (by decide) rfl (v_sub [1, 2, 0, 3] rfl (sH_envy_B59 K14 hK14 r0 p0 x1 (x2 + q8) x3 _ h)))
theorem sH_envy_L14 {G : Gx} {q : Int32} (n : Nat) : ∀ (r0 : Nat) (p0 : isH r0) (x1 : Int32) (x2 : Int32) (x3 : Int32) (σ : Sg) (h : fH_envy_L14 n r0 x1 x2 x3 σ = some q), Vm G MX4_envy (some (.int q)) σ 14 [(0, .ref (gb G + r0)), (1, .int x1), (2, .int x2), (3, .int x3)] [] σ := by
  induction n with
  | zero => intro r0 p0 x1 x2 x3 σ h; cases h
  | succ n ih => intro r0 p0 x1 x2 x3 σ h; exact sH_envy_b14  _ ih r0 p0 x1 x2 x3 σ h
def fH_envy (r0 : Nat) (x1 : Int32) (σ : Sg) : Option Int32 := if x1 = (σ r0 8) then some 0 else fH_envy_L14 2000 r0 x1 0 0 σ
set_option maxRecDepth 100000 in
set_option maxHeartbeats 4000000 in
theorem eH_envy {G : Gx} (r0 : Nat) (p0 : isH r0) (x1 : Int32) (σ : Sg) (q : Int32) (h : fH_envy r0 x1 σ = some q) : Evm G yX4_envy MX4_envy [.ref (gb G + r0), .int x1] σ (some (.int q)) σ := by
  refine Ev.of (by decide +kernel) rfl rfl (Nat.le_of_ble_eq_true rfl) ?_
  show Vm G MX4_envy (some (.int q)) σ 0 [(0, .ref (gb G + r0)), (1, .int x1)] [] σ
  unfold fH_envy at h
  refine v_iconst dX4_envy_0 rfl (v_istore_n dX4_envy_1 [0, 1, 2] rfl (by decide) rfl (v_iload_n dX4_envy_2 2 rfl rfl (v_aload_n dX4_envy_3 1 rfl rfl (vm_getI dX4_envy_4 fsX4_25 ((isH_s p0).2.1) ((isH_s p0).1.1) (by decide) ((isH_r p0).2.2.2.2.1) (v_icmp_ne (tgt := 12) dX4_envy_7 (by decide) (fun c1 => ?_) (fun c1 => ?_))))))
  · replace h := ite_f c1 h
    exact v_iconst dX4_envy_12 rfl (v_istore_n dX4_envy_13 [0, 1, 2, 3] rfl (by decide) rfl (v_sub [2, 3, 1, 0] rfl (sH_envy_L14 2000 r0 p0 x1 0 0 _ h)))
  · replace h := ite_t c1 h
    refine v_iload_n dX4_envy_10 0 rfl rfl ?_
    replace h := Option.some.inj h
    subst h
    exact v_iret dX4_envy_11 rfl rfl rfl rfl rfl
def fH_goal_B61 (K23 : Nat → Int32 → Int32 → Sg → Option (Int32 × Sg)) (r0 : Nat) (x1 : Int32) (x2 : Int32) (σ : Sg) : Option (Int32 × Sg) := K23 r0 x1 (x2 + 1) σ
set_option maxRecDepth 100000 in
set_option maxHeartbeats 4000000 in
theorem sH_goal_B61 {G : Gx} {q : (Int32 × Sg)} (K23 : Nat → Int32 → Int32 → Sg → Option (Int32 × Sg)) (hK23 : ∀ (r0 : Nat) (p0 : isH r0) (x1 : Int32) (x2 : Int32) (σ : Sg), K23 r0 x1 x2 σ = some q → Vm G MX4_goal (some (.int q.1)) q.2 23 [(0, .ref (gb G + r0)), (1, .int x1), (2, .int x2)] [] σ) (r0 : Nat) (p0 : isH r0) (x1 : Int32) (x2 : Int32) (σ : Sg) (h : fH_goal_B61 K23 r0 x1 x2 σ = some q) : Vm G MX4_goal (some (.int q.1)) q.2 61 [(0, .ref (gb G + r0)), (1, .int x1), (2, .int x2)] [] σ := by
  unfold fH_goal_B61 at h
  exact v_iinc (v := x2 + 1) dX4_goal_61 2 rfl rfl [0, 1, 2] rfl (by decide) (v_goto (tgt := 23) dX4_goal_64 (by decide) (v_sub [1, 2, 0] rfl (hK23 r0 p0 x1 (x2 + 1) _ h)))
def fH_goal_B48 (K23 : Nat → Int32 → Int32 → Sg → Option (Int32 × Sg)) (r0 : Nat) (x1 : Int32) (x2 : Int32) (s0 : Int32) (σ : Sg) : Option (Int32 × Sg) := if s0 ≤ x1 then fH_goal_B61 K23 r0 x1 x2 σ else ltc (wr σ r0 11 x2) fun σ8 => fH_goal_B61 K23 r0 s0 x2 σ8
set_option maxRecDepth 100000 in
set_option maxHeartbeats 4000000 in
theorem sH_goal_B48 {G : Gx} {q : (Int32 × Sg)} (K23 : Nat → Int32 → Int32 → Sg → Option (Int32 × Sg)) (hK23 : ∀ (r0 : Nat) (p0 : isH r0) (x1 : Int32) (x2 : Int32) (σ : Sg), K23 r0 x1 x2 σ = some q → Vm G MX4_goal (some (.int q.1)) q.2 23 [(0, .ref (gb G + r0)), (1, .int x1), (2, .int x2)] [] σ) (r0 : Nat) (p0 : isH r0) (x1 : Int32) (x2 : Int32) (s0 : Int32) (σ : Sg) (h : fH_goal_B48 K23 r0 x1 x2 s0 σ = some q) : Vm G MX4_goal (some (.int q.1)) q.2 48 [(0, .ref (gb G + r0)), (1, .int x1), (2, .int x2)] [.int s0] σ := by
  unfold fH_goal_B48 at h
  refine v_istore_n dX4_goal_48 [0, 1, 2, 3] rfl (by decide) rfl (v_iload_n dX4_goal_49 0 rfl rfl (v_iload_n dX4_goal_50 2 rfl rfl (v_icmp_le (tgt := 61) dX4_goal_51 (by decide) (fun c7 => ?_) (fun c7 => ?_))))
  · replace h := ite_t c7 h
    exact v_sub [1, 2, 3] rfl (sH_goal_B61 K23 hK23 r0 p0 x1 x2 _ h)
  · replace h := ite_f c7 h
    refine v_aload_n dX4_goal_54 1 rfl rfl (v_iload_n dX4_goal_55 3 rfl rfl ?_)
    obtain ⟨σ8, eσ8, h⟩ := ltc_some h
    exact vn_put dX4_goal_56 fsX4_29 ((isH_s p0).2.1) ((isH_s p0).1.1) (by decide) ((isH_r p0).2.2.2.2.2.2.2) eσ8 (v_iload_n dX4_goal_59 0 rfl rfl (v_istore_n dX4_goal_60 [0, 2, 3] rfl (by decide) rfl (v_sub [1, 0, 2] rfl (sH_goal_B61 K23 hK23 r0 p0 s0 x2 _ h))))
def fH_goal_b23 (K23 : Nat → Int32 → Int32 → Sg → Option (Int32 × Sg)) (r0 : Nat) (x1 : Int32) (x2 : Int32) (σ : Sg) : Option (Int32 × Sg) := if (σ r0 5) ≤ x2 then some (σ r0 11, σ) else (fH_isBrought r0 x2 σ).bind fun q4 => if q4 = 0 then ((fH_envy r0 x2 σ).bind fun q6 => fH_goal_B48 K23 r0 x1 x2 q6 σ) else fH_goal_B48 K23 r0 x1 x2 0 σ
def fH_goal_L23 (n : Nat) : Nat → Int32 → Int32 → Sg → Option (Int32 × Sg) := Nat.rec (fun _ _ _ _ => none) (fun _ K => fH_goal_b23 K) n
set_option maxRecDepth 100000 in
set_option maxHeartbeats 4000000 in
theorem sH_goal_b23 {G : Gx} {q : (Int32 × Sg)} (K23 : Nat → Int32 → Int32 → Sg → Option (Int32 × Sg)) (hK23 : ∀ (r0 : Nat) (p0 : isH r0) (x1 : Int32) (x2 : Int32) (σ : Sg), K23 r0 x1 x2 σ = some q → Vm G MX4_goal (some (.int q.1)) q.2 23 [(0, .ref (gb G + r0)), (1, .int x1), (2, .int x2)] [] σ) (r0 : Nat) (p0 : isH r0) (x1 : Int32) (x2 : Int32) (σ : Sg) (h : fH_goal_b23 K23 r0 x1 x2 σ = some q) : Vm G MX4_goal (some (.int q.1)) q.2 23 [(0, .ref (gb G + r0)), (1, .int x1), (2, .int x2)] [] σ := by
  unfold fH_goal_b23 at h
  refine v_iload_n dX4_goal_23 2 rfl rfl (v_aload_n dX4_goal_24 0 rfl rfl (vm_getI dX4_goal_25 fsX4_32 ((isH_s p0).2.1) ((isH_s p0).1.1) (by decide) ((isH_r p0).2.1) (v_icmp_ge (tgt := 67) dX4_goal_28 (by decide) (fun c3 => ?_) (fun c3 => ?_))))
  · replace h := ite_t c3 h
    refine v_aload_n dX4_goal_67 0 rfl rfl (vm_getI dX4_goal_68 fsX4_29 ((isH_s p0).2.1) ((isH_s p0).1.1) (by decide) ((isH_r p0).2.2.2.2.2.2.2) ?_)
    replace h := Option.some.inj h
    subst h
    exact v_iret dX4_goal_71 rfl rfl rfl rfl rfl
  · replace h := ite_f c3 h
    refine v_aload_n dX4_goal_31 0 rfl rfl (v_iload_n dX4_goal_32 2 rfl rfl ?_)
    obtain ⟨q4, hq4, h⟩ := bind_some h
    refine v_callV (As := [.int x2]) (S := []) dX4_goal_33 tw424 tw425 tw426 ykX4_isBrought ((isH_s p0).2.1) ((isH_s p0).1.1) (by decide) ok_4 rfl (by decide) rfl rfl (Nat.le_of_ble_eq_true rfl) (by decide) (eH_isBrought r0 p0 x2 _ _ hq4) ?_
    refine v_if_eq (tgt := 43) dX4_goal_36 (by decide) (fun c5 => ?_) (fun c5 => ?_)
    · replace h := ite_t c5 h
      refine v_aload_n dX4_goal_43 0 rfl rfl (v_iload_n dX4_goal_44 2 rfl rfl ?_)
      obtain ⟨q6, hq6, h⟩ := bind_some h
      refine v_callV (As := [.int x2]) (S := []) dX4_goal_45 tw428 tw429 tw430 ykX4_envy ((isH_s p0).2.1) ((isH_s p0).1.1) (by decide) ok_4 rfl (by decide) rfl rfl (Nat.le_of_ble_eq_true rfl) (by decide) (eH_envy r0 p0 x2 _ _ hq6) ?_
      exact sH_goal_B48 K23 hK23 r0 p0 x1 x2 q6 _ h
    · replace h := ite_f c5 h
      exact v_iconst dX4_goal_39 rfl (v_goto (tgt := 48) dX4_goal_40 (by decide) (sH_goal_B48 K23 hK23 r0 p0 x1 x2 0 _ h))
theorem sH_goal_L23 {G : Gx} {q : (Int32 × Sg)} (n : Nat) : ∀ (r0 : Nat) (p0 : isH r0) (x1 : Int32) (x2 : Int32) (σ : Sg) (h : fH_goal_L23 n r0 x1 x2 σ = some q), Vm G MX4_goal (some (.int q.1)) q.2 23 [(0, .ref (gb G + r0)), (1, .int x1), (2, .int x2)] [] σ := by
  induction n with
  | zero => intro r0 p0 x1 x2 σ h; cases h
  | succ n ih => intro r0 p0 x1 x2 σ h; exact sH_goal_b23  _ ih r0 p0 x1 x2 σ h
def fH_goal (r0 : Nat) (σ : Sg) : Option (Int32 × Sg) := if (σ r0 11) = (-2) then (ltc (wr σ r0 11 (-1)) fun σ2 => fH_goal_L23 2000 r0 0 0 σ2) else some (σ r0 11, σ)
set_option maxRecDepth 100000 in
set_option maxHeartbeats 4000000 in
theorem eH_goal {G : Gx} (r0 : Nat) (p0 : isH r0) (σ : Sg) (q : (Int32 × Sg)) (h : fH_goal r0 σ = some q) : Evm G yX4_goal MX4_goal [.ref (gb G + r0)] σ (some (.int q.1)) q.2 := by
  refine Ev.of (by decide +kernel) rfl rfl (Nat.le_of_ble_eq_true rfl) ?_
  show Vm G MX4_goal (some (.int q.1)) q.2 0 [(0, .ref (gb G + r0))] [] σ
  unfold fH_goal at h
  refine v_aload_n dX4_goal_0 0 rfl rfl (vm_getI dX4_goal_1 fsX4_29 ((isH_s p0).2.1) ((isH_s p0).1.1) (by decide) ((isH_r p0).2.2.2.2.2.2.2) (v_bipush (v := (-2)) dX4_goal_4 rfl (v_icmp_eq (tgt := 14) dX4_goal_6 (by decide) (fun c1 => ?_) (fun c1 => ?_))))
  · replace h := ite_t c1 h
    refine v_iconst dX4_goal_14 rfl (v_istore_n dX4_goal_15 [0, 1] rfl (by decide) rfl (v_aload_n dX4_goal_16 1 rfl rfl (v_iconst (v := -1) dX4_goal_17 rfl ?_)))
    obtain ⟨σ2, eσ2, h⟩ := ltc_some h
    exact vn_put dX4_goal_18 fsX4_29 ((isH_s p0).2.1) ((isH_s p0).1.1) (by decide) ((isH_r p0).2.2.2.2.2.2.2) eσ2 (v_iconst dX4_goal_21 rfl (v_istore_n dX4_goal_22 [0, 1, 2] rfl (by decide) rfl (v_sub [2, 1, 0] rfl (sH_goal_L23 2000 r0 p0 0 0 _ h))))
  · replace h := ite_f c1 h
    refine v_aload_n dX4_goal_9 0 rfl rfl (vm_getI dX4_goal_10 fsX4_29 ((isH_s p0).2.1) ((isH_s p0).1.1) (by decide) ((isH_r p0).2.2.2.2.2.2.2) ?_)
    replace h := Option.some.inj h
    subst h
    exact v_iret dX4_goal_13 rfl rfl rfl rfl rfl
def fJ_compare (x0 : Int32) (x1 : Int32) (σ : Sg) : Option Int32 := if x1 ≤ x0 then (if x0 = x1 then some 0 else some 1) else some (-1)
set_option maxRecDepth 100000 in
set_option maxHeartbeats 4000000 in
theorem eJ_compare {G : Gx} (x0 : Int32) (x1 : Int32) (σ : Sg) (q : Int32) (h : fJ_compare x0 x1 σ = some q) : Evm G yJ6_compare_7cf53 MJ6_compare_7cf53 [.int x0, .int x1] σ (some (.int q)) σ := by
  refine Ev.of (by decide +kernel) rfl rfl (Nat.le_of_ble_eq_true rfl) ?_
  show Vm G MJ6_compare_7cf53 (some (.int q)) σ 0 [(0, .int x0), (1, .int x1)] [] σ
  unfold fJ_compare at h
  refine v_iload_n dJ6_compare_7cf53_0 0 rfl rfl (v_iload_n dJ6_compare_7cf53_1 1 rfl rfl (v_icmp_ge (tgt := 9) dJ6_compare_7cf53_2 (by decide) (fun c1 => ?_) (fun c1 => ?_)))
  · replace h := ite_t c1 h
    refine v_iload_n dJ6_compare_7cf53_9 0 rfl rfl (v_iload_n dJ6_compare_7cf53_10 1 rfl rfl (v_icmp_ne (tgt := 18) dJ6_compare_7cf53_11 (by decide) (fun c2 => ?_) (fun c2 => ?_)))
    · replace h := ite_f c2 h
      refine v_iconst dJ6_compare_7cf53_18 rfl ?_
      replace h := Option.some.inj h
      subst h
      exact v_iret dJ6_compare_7cf53_19 rfl rfl rfl rfl rfl
    · replace h := ite_t c2 h
      refine v_iconst dJ6_compare_7cf53_14 rfl (v_goto (tgt := 19) dJ6_compare_7cf53_15 (by decide) ?_)
      replace h := Option.some.inj h
      subst h
      exact v_iret dJ6_compare_7cf53_19 rfl rfl rfl rfl rfl
  · replace h := ite_f c1 h
    refine v_iconst (v := -1) dJ6_compare_7cf53_5 rfl (v_goto (tgt := 19) dJ6_compare_7cf53_6 (by decide) ?_)
    replace h := Option.some.inj h
    subst h
    exact v_iret dJ6_compare_7cf53_19 rfl rfl rfl rfl rfl
