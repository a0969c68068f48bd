def fA_forget (σ : Sg) : Option Sg := lt (wr σ 18 2 0) fun σ1 => some σ1
set_option maxRecDepth 100000 in
set_option maxHeartbeats 4000000 in
theorem eA_forget {G : Gx} (σ : Sg) (q : Sg) (h : fA_forget σ = some q) : Evm G yX0_forget MX0_forget [.ref (gb G + 18)] σ none q := by
  refine Ev.of rfl rfl rfl (by decide) ?_
  show Vm G MX0_forget none q 0 [(0, .ref (gb G + 18))] [] σ
  unfold fA_forget at h
  refine v_aload_n dX0_forget_0 0 rfl rfl (v_iconst dX0_forget_1 rfl ?_)
  obtain ⟨σ1, eσ1, h⟩ := lt_some h
  refine vn_put dX0_forget_2 fsX0_16 ((by decide)) shc_18 (by decide) rf_18_2 eσ1 ?_
  cases h
  exact v_vret dX0_forget_5 rfl rfl rfl rfl rfl
def fH_become (r0 : Nat) (r1 : Nat) (σ : Sg) : Option Sg := lt (cpy σ (r1 + 1) 0 (r0 + 1) 0 6) fun σ1 => lt (cpy σ1 (r1 + 2) 0 (r0 + 2) 0 6) fun σ2 => lt (cpy σ2 (r1 + 3) 0 (r0 + 3) 0 6) fun σ3 => lt (cpy σ3 (r1 + 4) 0 (r0 + 4) 0 6) fun σ4 => lt (cpy σ4 (r1 + 5) 0 (r0 + 5) 0 6) fun σ5 => lt (wr σ5 r0 5 (σ5 r1 5)) fun σ6 => lt (wr σ6 r0 6 (σ6 r1 6)) fun σ7 => lt (wr σ7 r0 7 (σ7 r1 7)) fun σ8 => lt (wr σ8 r0 8 (σ8 r1 8)) fun σ9 => lt (wr σ9 r0 9 (σ9 r1 9)) fun σ10 => lt (wr σ10 r0 10 (σ10 r1 10)) fun σ11 => lt (wr σ11 r0 11 (σ11 r1 11)) fun σ12 => some σ12
set_option maxRecDepth 100000 in
set_option maxHeartbeats 4000000 in
theorem eH_become {G : Gx} (r0 : Nat) (p0 : isH r0) (r1 : Nat) (p1 : isH r1) (σ : Sg) (q : Sg) (h : fH_become r0 r1 σ = some q) : Evm G yX4_become MX4_become [.ref (gb G + r0), .ref (gb G + r1)] σ none q := by
  refine Ev.of rfl rfl rfl (by decide) ?_
  show Vm G MX4_become none q 0 [(0, .ref (gb G + r0)), (1, .ref (gb G + r1))] [] σ
  unfold fH_become at h
  refine v_aload_n dX4_become_0 1 rfl rfl (vm_getR (t := (r1 + 1)) dX4_become_1 fsX4_9 ((isH_s p1).2.1) ((isH_s p1).1.1) (by decide) ((isH_r p1).1.1) (v_iconst dX4_become_4 rfl (v_aload_n dX4_become_5 0 rfl rfl (vm_getR (t := (r0 + 1)) dX4_become_6 fsX4_9 ((isH_s p0).2.1) ((isH_s p0).1.1) (by decide) ((isH_r p0).1.1) (v_iconst dX4_become_9 rfl (v_bipush (v := 6) dX4_become_10 rfl ?_))))))
  obtain ⟨σ1, eσ1, h⟩ := lt_some h
  refine vn_copy rfl dX4_become_12 tw387 ((isH_s p1).2.2.1) ((isH_s p0).2.2.1) ((isH_s p1).1.2.1) ((isH_s p0).1.2.1) ci_0_0_6_6_6 (by decide) (by decide) ixc_0 ixc_0 ixc_6 eσ1 (v_aload_n dX4_become_15 1 rfl rfl (vm_getR (t := (r1 + 2)) dX4_become_16 fsX4_13 ((isH_s p1).2.1) ((isH_s p1).1.1) (by decide) ((isH_r p1).1.2.1) (v_iconst dX4_become_19 rfl (v_aload_n dX4_become_20 0 rfl rfl (vm_getR (t := (r0 + 2)) dX4_become_21 fsX4_13 ((isH_s p0).2.1) ((isH_s p0).1.1) (by decide) ((isH_r p0).1.2.1) (v_iconst dX4_become_24 rfl (v_bipush (v := 6) dX4_become_25 rfl ?_)))))))
  obtain ⟨σ2, eσ2, h⟩ := lt_some h
  refine vn_copy rfl dX4_become_27 tw387 ((isH_s p1).2.2.2.1) ((isH_s p0).2.2.2.1) ((isH_s p1).1.2.2.1) ((isH_s p0).1.2.2.1) ci_0_0_6_6_6 (by decide) (by decide) ixc_0 ixc_0 ixc_6 eσ2 (v_aload_n dX4_become_30 1 rfl rfl (vm_getR (t := (r1 + 3)) dX4_become_31 fsX4_16 ((isH_s p1).2.1) ((isH_s p1).1.1) (by decide) ((isH_r p1).1.2.2.1) (v_iconst dX4_become_34 rfl (v_aload_n dX4_become_35 0 rfl rfl (vm_getR (t := (r0 + 3)) dX4_become_36 fsX4_16 ((isH_s p0).2.1) ((isH_s p0).1.1) (by decide) ((isH_r p0).1.2.2.1) (v_iconst dX4_become_39 rfl (v_bipush (v := 6) dX4_become_40 rfl ?_)))))))
  obtain ⟨σ3, eσ3, h⟩ := lt_some h
  refine vn_copy rfl dX4_become_42 tw387 ((isH_s p1).2.2.2.2.1) ((isH_s p0).2.2.2.2.1) ((isH_s p1).1.2.2.2.1) ((isH_s p0).1.2.2.2.1) ci_0_0_6_6_6 (by decide) (by decide) ixc_0 ixc_0 ixc_6 eσ3 (v_aload_n dX4_become_45 1 rfl rfl (vm_getR (t := (r1 + 4)) dX4_become_46 fsX4_19 ((isH_s p1).2.1) ((isH_s p1).1.1) (by decide) ((isH_r p1).1.2.2.2.1) (v_iconst dX4_become_49 rfl (v_aload_n dX4_become_50 0 rfl rfl (vm_getR (t := (r0 + 4)) dX4_become_51 fsX4_19 ((isH_s p0).2.1) ((isH_s p0).1.1) (by decide) ((isH_r p0).1.2.2.2.1) (v_iconst dX4_become_54 rfl (v_bipush (v := 6) dX4_become_55 rfl ?_)))))))
  obtain ⟨σ4, eσ4, h⟩ := lt_some h
  refine vn_copy rfl dX4_become_57 tw387 ((isH_s p1).2.2.2.2.2.1) ((isH_s p0).2.2.2.2.2.1) ((isH_s p1).1.2.2.2.2.1) ((isH_s p0).1.2.2.2.2.1) ci_0_0_6_6_6 (by decide) (by decide) ixc_0 ixc_0 ixc_6 eσ4 (v_aload_n dX4_become_60 1 rfl rfl (vm_getR (t := (r1 + 5)) dX4_become_61 fsX4_22 ((isH_s p1).2.1) ((isH_s p1).1.1) (by decide) ((isH_r p1).1.2.2.2.2) (v_iconst dX4_become_64 rfl (v_aload_n dX4_become_65 0 rfl rfl (vm_getR (t := (r0 + 5)) dX4_become_66 fsX4_22 ((isH_s p0).2.1) ((isH_s p0).1.1) (by decide) ((isH_r p0).1.2.2.2.2) (v_iconst dX4_become_69 rfl (v_bipush (v := 6) dX4_become_70 rfl ?_)))))))
  obtain ⟨σ5, eσ5, h⟩ := lt_some h
  refine vn_copy rfl dX4_become_72 tw387 ((isH_s p1).2.2.2.2.2.2) ((isH_s p0).2.2.2.2.2.2) ((isH_s p1).1.2.2.2.2.2) ((isH_s p0).1.2.2.2.2.2) ci_0_0_6_6_6 (by decide) (by decide) ixc_0 ixc_0 ixc_6 eσ5 (v_aload_n dX4_become_75 0 rfl rfl (v_aload_n dX4_become_76 1 rfl rfl (vm_getI dX4_become_77 fsX4_32 ((isH_s p1).2.1) ((isH_s p1).1.1) (by decide) ((isH_r p1).2.1) ?_)))
  obtain ⟨σ6, eσ6, h⟩ := lt_some h
  refine vn_put dX4_become_80 fsX4_32 ((isH_s p0).2.1) ((isH_s p0).1.1) (by decide) ((isH_r p0).2.1) eσ6 (v_aload_n dX4_become_83 0 rfl rfl (v_aload_n dX4_become_84 1 rfl rfl (vm_getI dX4_become_85 fsX4_35 ((isH_s p1).2.1) ((isH_s p1).1.1) (by decide) ((isH_r p1).2.2.1) ?_)))
  obtain ⟨σ7, eσ7, h⟩ := lt_some h
  refine vn_put dX4_become_88 fsX4_35 ((isH_s p0).2.1) ((isH_s p0).1.1) (by decide) ((isH_r p0).2.2.1) eσ7 (v_aload_n dX4_become_91 0 rfl rfl (v_aload_n dX4_become_92 1 rfl rfl (vm_getI dX4_become_93 fsX4_38 ((isH_s p1).2.1) ((isH_s p1).1.1) (by decide) ((isH_r p1).2.2.2.1) ?_)))
  obtain ⟨σ8, eσ8, h⟩ := lt_some h
  refine vn_put dX4_become_96 fsX4_38 ((isH_s p0).2.1) ((isH_s p0).1.1) (by decide) ((isH_r p0).2.2.2.1) eσ8 (v_aload_n dX4_become_99 0 rfl rfl (v_aload_n dX4_become_100 1 rfl rfl (vm_getI dX4_become_101 fsX4_25 ((isH_s p1).2.1) ((isH_s p1).1.1) (by decide) ((isH_r p1).2.2.2.2.1) ?_)))
  obtain ⟨σ9, eσ9, h⟩ := lt_some h
  refine vn_put dX4_become_104 fsX4_25 ((isH_s p0).2.1) ((isH_s p0).1.1) (by decide) ((isH_r p0).2.2.2.2.1) eσ9 (v_aload_n dX4_become_107 0 rfl rfl (v_aload_n dX4_become_108 1 rfl rfl (vm_getI dX4_become_109 fsX4_41 ((isH_s p1).2.1) ((isH_s p1).1.1) (by decide) ((isH_r p1).2.2.2.2.2.1) ?_)))
  obtain ⟨σ10, eσ10, h⟩ := lt_some h
  refine vn_put dX4_become_112 fsX4_41 ((isH_s p0).2.1) ((isH_s p0).1.1) (by decide) ((isH_r p0).2.2.2.2.2.1) eσ10 (v_aload_n dX4_become_115 0 rfl rfl (v_aload_n dX4_become_116 1 rfl rfl (vm_getI dX4_become_117 fsX4_44 ((isH_s p1).2.1) ((isH_s p1).1.1) (by decide) ((isH_r p1).2.2.2.2.2.2.1) ?_)))
  obtain ⟨σ11, eσ11, h⟩ := lt_some h
  refine vn_put dX4_become_120 fsX4_44 ((isH_s p0).2.1) ((isH_s p0).1.1) (by decide) ((isH_r p0).2.2.2.2.2.2.1) eσ11 (v_aload_n dX4_become_123 0 rfl rfl (v_aload_n dX4_become_124 1 rfl rfl (vm_getI dX4_become_125 fsX4_29 ((isH_s p1).2.1) ((isH_s p1).1.1) (by decide) ((isH_r p1).2.2.2.2.2.2.2) ?_)))
  obtain ⟨σ12, eσ12, h⟩ := lt_some h
  refine vn_put dX4_become_128 fsX4_29 ((isH_s p0).2.1) ((isH_s p0).1.1) (by decide) ((isH_r p0).2.2.2.2.2.2.2) eσ12 ?_
  cases h
  exact v_vret dX4_become_131 rfl rfl rfl rfl rfl
def fJ_min (x0 : Int32) (x1 : Int32) (σ : Sg) : Option Int32 := if x1 < x0 then some x1 else some x0
set_option maxRecDepth 100000 in
set_option maxHeartbeats 4000000 in
theorem eJ_min {G : Gx} (x0 : Int32) (x1 : Int32) (σ : Sg) (q : Int32) (h : fJ_min x0 x1 σ = some q) : Evm G yJ9_min_7cf53 MJ9_min_7cf53 [.int x0, .int x1] σ (some (.int q)) σ := by
  refine Ev.of rfl rfl rfl (by decide) ?_
  show Vm G MJ9_min_7cf53 (some (.int q)) σ 0 [(0, .int x0), (1, .int x1)] [] σ
  unfold fJ_min at h
  refine v_iload_n dJ9_min_7cf53_0 0 rfl rfl (v_iload_n dJ9_min_7cf53_1 1 rfl rfl (v_icmp_gt (tgt := 9) dJ9_min_7cf53_2 (by decide) (fun c1 => ?_) (fun c1 => ?_)))
  · replace h := ite_t c1 h
    refine v_iload_n dJ9_min_7cf53_9 1 rfl rfl ?_
    cases h
    exact v_iret dJ9_min_7cf53_10 rfl rfl rfl rfl rfl
  · replace h := ite_f c1 h
    refine v_iload_n dJ9_min_7cf53_5 0 rfl rfl (v_goto (tgt := 10) dJ9_min_7cf53_6 (by decide) ?_)
    cases h
    exact v_iret dJ9_min_7cf53_10 rfl rfl rfl rfl rfl
def fA_keep (σ : Sg) : Option Sg := if inb (σ 18 1) 24 = true then (fH_become (20 + 6 * ix (σ 18 1)) 4 σ).bind fun q2 => lt (wr q2 18 1 (((q2 18 1) + 1) - ((q2 18 1) + 1) / 24 * 24)) fun σ3 => (fJ_min ((σ3 18 2) + 1) 24 σ3).bind fun q4 => lt (wr σ3 18 2 q4) fun σ5 => some σ5 else none
set_option maxRecDepth 100000 in
set_option maxHeartbeats 4000000 in
theorem eA_keep {G : Gx} (σ : Sg) (q : Sg) (h : fA_keep σ = some q) : Evm G yX0_keep MX0_keep [.ref (gb G + 18), .ref (gb G + 4)] σ none q := by
  refine Ev.of rfl rfl rfl (by decide) ?_
  show Vm G MX0_keep none q 0 [(0, .ref (gb G + 18)), (1, .ref (gb G + 4))] [] σ
  unfold fA_keep at h
  refine v_aload_n dX0_keep_0 0 rfl rfl (vm_getR (t := 19) dX0_keep_1 fsX0_11 ((by decide)) shc_18 (by decide) rf_18_0 (v_aload_n dX0_keep_4 0 rfl rfl (vm_getI dX0_keep_5 fsX0_20 ((by decide)) shc_18 (by decide) rf_18_1 ?_)))
  obtain ⟨g1, h⟩ := guard_some h
  refine vm_aald (r := (20 + 6 * ix (σ 18 1))) (by decide) dX0_keep_8 (by decide) sha_19 g1 rfl (v_aload_n dX0_keep_9 1 rfl rfl ?_)
  obtain ⟨q2, hq2, h⟩ := bind_some h
  refine v_callV (As := [.ref (gb G + 4)]) (S := []) dX0_keep_10 tw405 tw384 tw385 ykX4_become ((isH_s (isH_bf g1)).2.1) ((isH_s (isH_bf g1)).1.1) (by decide) ok_4 rfl (by decide) rfl rfl (by decide) (by decide) (eH_become (20 + 6 * ix (σ 18 1)) ((isH_bf g1)) 4 isH_4 _ _ hq2) ?_
  refine v_aload_n dX0_keep_13 0 rfl rfl (v_aload_n dX0_keep_14 0 rfl rfl (vm_getI dX0_keep_15 fsX0_20 ((by decide)) shc_18 (by decide) rf_18_1 (v_iconst dX0_keep_18 rfl (v_iadd dX0_keep_19 (v_bipush (v := 24) dX0_keep_20 rfl (v_irem dX0_keep_22 (by decide) ?_))))))
  obtain ⟨σ3, eσ3, h⟩ := lt_some h
  refine vn_put dX0_keep_23 fsX0_20 ((by decide)) shc_18 (by decide) rf_18_1 eσ3 (v_aload_n dX0_keep_26 0 rfl rfl (v_aload_n dX0_keep_27 0 rfl rfl (vm_getI dX0_keep_28 fsX0_16 ((by decide)) shc_18 (by decide) rf_18_2 (v_iconst dX0_keep_31 rfl (v_iadd dX0_keep_32 (v_bipush (v := 24) dX0_keep_33 rfl ?_))))))
  obtain ⟨q4, hq4, h⟩ := bind_some h
  refine v_callS (As := [.int ((σ3 18 2) + 1), .int 24]) (S := [.ref (gb G + 18)]) dX0_keep_35 tw406 tw407 ykJ9_min_7cf53 rfl (by decide) rfl rfl (by decide) (by decide) (eJ_min ((σ3 18 2) + 1) 24 _ _ hq4) ?_
  obtain ⟨σ5, eσ5, h⟩ := lt_some h
  refine vn_put dX0_keep_38 fsX0_16 ((by decide)) shc_18 (by decide) rf_18_2 eσ5 ?_
  cases h
  exact v_vret dX0_keep_41 rfl rfl rfl rfl rfl
def fA_takeBack (σ : Sg) : Option Sg := lt (wr σ 18 1 ((((σ 18 1) + 24) - 1) - (((σ 18 1) + 24) - 1) / 24 * 24)) fun σ1 => lt (wr σ1 18 2 ((σ1 18 2) - 1)) fun σ2 => if inb (σ2 18 1) 24 = true then (fH_become 4 (20 + 6 * ix (σ2 18 1)) σ2).bind fun q4 => some q4 else none
set_option maxRecDepth 100000 in
set_option maxHeartbeats 4000000 in
theorem eA_takeBack {G : Gx} (σ : Sg) (q : Sg) (h : fA_takeBack σ = some q) : Evm G yX0_takeBack MX0_takeBack [.ref (gb G + 18), .ref (gb G + 4)] σ none q := by
  refine Ev.of rfl rfl rfl (by decide) ?_
  show Vm G MX0_takeBack none q 0 [(0, .ref (gb G + 18)), (1, .ref (gb G + 4))] [] σ
  unfold fA_takeBack at h
  refine v_aload_n dX0_takeBack_0 0 rfl rfl (v_aload_n dX0_takeBack_1 0 rfl rfl (vm_getI dX0_takeBack_2 fsX0_20 ((by decide)) shc_18 (by decide) rf_18_1 (v_bipush (v := 24) dX0_takeBack_5 rfl (v_iadd dX0_takeBack_7 (v_iconst dX0_takeBack_8 rfl (v_isub dX0_takeBack_9 (v_bipush (v := 24) dX0_takeBack_10 rfl (v_irem dX0_takeBack_12 (by decide) ?_))))))))
  obtain ⟨σ1, eσ1, h⟩ := lt_some h
  refine vn_put dX0_takeBack_13 fsX0_20 ((by decide)) shc_18 (by decide) rf_18_1 eσ1 (v_aload_n dX0_takeBack_16 0 rfl rfl (v_dup dX0_takeBack_17 rfl (vm_getI dX0_takeBack_18 fsX0_16 ((by decide)) shc_18 (by decide) rf_18_2 (v_iconst dX0_takeBack_21 rfl (v_isub dX0_takeBack_22 ?_)))))
  obtain ⟨σ2, eσ2, h⟩ := lt_some h
  refine vn_put dX0_takeBack_23 fsX0_16 ((by decide)) shc_18 (by decide) rf_18_2 eσ2 (v_aload_n dX0_takeBack_26 1 rfl rfl (v_aload_n dX0_takeBack_27 0 rfl rfl (vm_getR (t := 19) dX0_takeBack_28 fsX0_11 ((by decide)) shc_18 (by decide) rf_18_0 (v_aload_n dX0_takeBack_31 0 rfl rfl (vm_getI dX0_takeBack_32 fsX0_20 ((by decide)) shc_18 (by decide) rf_18_1 ?_)))))
  obtain ⟨g3, h⟩ := guard_some h
  refine vm_aald (r := (20 + 6 * ix (σ2 18 1))) (by decide) dX0_takeBack_35 (by decide) sha_19 g3 rfl ?_
  obtain ⟨q4, hq4, h⟩ := bind_some h
  refine v_callV (As := [.ref (gb G + (20 + 6 * ix (σ2 18 1)))]) (S := []) dX0_takeBack_36 tw405 tw384 tw385 ykX4_become ((isH_s isH_4).2.1) ((isH_s isH_4).1.1) (by decide) ok_4 rfl (by decide) rfl rfl (by decide) (by decide) (eH_become 4 isH_4 (20 + 6 * ix (σ2 18 1)) ((isH_bf g3)) _ _ hq4) ?_
  cases h
  exact v_vret dX0_takeBack_39 rfl rfl rfl rfl rfl
def fH_begin (r0 : Nat) (x1 : Int32) (x2 : Int32) (σ : Sg) : Option Sg := lt (wr σ r0 5 0) fun σ1 => lt (wr σ1 r0 6 x1) fun σ2 => lt (wr σ2 r0 7 x2) fun σ3 => lt (wr σ3 r0 8 (-1)) fun σ4 => lt (wr σ4 r0 9 0) fun σ5 => lt (wr σ5 r0 10 0) fun σ6 => lt (wr σ6 r0 11 (-2)) fun σ7 => some σ7
set_option maxRecDepth 100000 in
set_option maxHeartbeats 4000000 in
theorem eH_begin {G : Gx} (r0 : Nat) (p0 : isH r0) (x1 : Int32) (x2 : Int32) (σ : Sg) (q : Sg) (h : fH_begin r0 x1 x2 σ = some q) : Evm G yX4_begin MX4_begin [.ref (gb G + r0), .int x1, .int x2] σ none q := by
  refine Ev.of rfl rfl rfl (by decide) ?_
  show Vm G MX4_begin none q 0 [(0, .ref (gb G + r0)), (1, .int x1), (2, .int x2)] [] σ
  unfold fH_begin at h
  refine v_aload_n dX4_begin_0 0 rfl rfl (v_iconst dX4_begin_1 rfl ?_)
  obtain ⟨σ1, eσ1, h⟩ := lt_some h
  refine vn_put dX4_begin_2 fsX4_32 ((isH_s p0).2.1) ((isH_s p0).1.1) (by decide) ((isH_r p0).2.1) eσ1 (v_aload_n dX4_begin_5 0 rfl rfl (v_iload_n dX4_begin_6 1 rfl rfl ?_))
  obtain ⟨σ2, eσ2, h⟩ := lt_some h
  refine vn_put dX4_begin_7 fsX4_35 ((isH_s p0).2.1) ((isH_s p0).1.1) (by decide) ((isH_r p0).2.2.1) eσ2 (v_aload_n dX4_begin_10 0 rfl rfl (v_iload_n dX4_begin_11 2 rfl rfl ?_))
  obtain ⟨σ3, eσ3, h⟩ := lt_some h
  refine vn_put dX4_begin_12 fsX4_38 ((isH_s p0).2.1) ((isH_s p0).1.1) (by decide) ((isH_r p0).2.2.2.1) eσ3 (v_aload_n dX4_begin_15 0 rfl rfl (v_iconst (v := -1) dX4_begin_16 rfl ?_))
  obtain ⟨σ4, eσ4, h⟩ := lt_some h
  refine vn_put dX4_begin_17 fsX4_25 ((isH_s p0).2.1) ((isH_s p0).1.1) (by decide) ((isH_r p0).2.2.2.2.1) eσ4 (v_aload_n dX4_begin_20 0 rfl rfl (v_iconst dX4_begin_21 rfl ?_))
  obtain ⟨σ5, eσ5, h⟩ := lt_some h
  refine vn_put dX4_begin_22 fsX4_41 ((isH_s p0).2.1) ((isH_s p0).1.1) (by decide) ((isH_r p0).2.2.2.2.2.1) eσ5 (v_aload_n dX4_begin_25 0 rfl rfl (v_iconst dX4_begin_26 rfl ?_))
  obtain ⟨σ6, eσ6, h⟩ := lt_some h
  refine vn_put dX4_begin_27 fsX4_44 ((isH_s p0).2.1) ((isH_s p0).1.1) (by decide) ((isH_r p0).2.2.2.2.2.2.1) eσ6 (v_aload_n dX4_begin_30 0 rfl rfl (v_bipush (v := (-2)) dX4_begin_31 rfl ?_))
  obtain ⟨σ7, eσ7, h⟩ := lt_some h
  refine vn_put dX4_begin_33 fsX4_29 ((isH_s p0).2.1) ((isH_s p0).1.1) (by decide) ((isH_r p0).2.2.2.2.2.2.2) eσ7 ?_
  cases h
  exact v_vret dX4_begin_36 rfl rfl rfl rfl rfl
def fH_put (r0 : Nat) (x1 : Int32) (x2 : Int32) (x3 : Int32) (σ : Sg) : Option Sg := if x1 = 0 then (if inb x2 6 = true then lt (wr σ (r0 + 1) (ix x2) x3) fun σ3 => lt (wr σ3 r0 11 (-2)) fun σ4 => some σ4 else none) else if x1 = 1 then (if inb x2 6 = true then lt (wr σ (r0 + 2) (ix x2) x3) fun σ7 => lt (wr σ7 r0 11 (-2)) fun σ8 => some σ8 else none) else if x1 = 2 then (if inb x2 6 = true then lt (wr σ (r0 + 3) (ix x2) x3) fun σ11 => lt (wr σ11 r0 11 (-2)) fun σ12 => some σ12 else none) else if inb x2 6 = true then lt (wr σ (r0 + 4) (ix x2) x3) fun σ14 => lt (wr σ14 r0 11 (-2)) fun σ15 => some σ15 else none
set_option maxRecDepth 100000 in
set_option maxHeartbeats 4000000 in
theorem eH_put {G : Gx} (r0 : Nat) (p0 : isH r0) (x1 : Int32) (x2 : Int32) (x3 : Int32) (σ : Sg) (q : Sg) (h : fH_put r0 x1 x2 x3 σ = some q) : Evm G yX4_put MX4_put [.ref (gb G + r0), .int x1, .int x2, .int x3] σ none q := by
  refine Ev.of rfl rfl rfl (by decide) ?_
  show Vm G MX4_put none q 0 [(0, .ref (gb G + r0)), (1, .int x1), (2, .int x2), (3, .int x3)] [] σ
  unfold fH_put at h
  refine v_iload_n dX4_put_0 1 rfl rfl ?_
  by_cases c1 : x1 = 0
  · replace h := ite_t c1 h
    refine v_tableAt (tgt := 28) dX4_put_1 c1 (by decide) (by decide) (off := 27) (by decide) (by decide) ?_
    refine v_aload_n dX4_put_28 0 rfl rfl (vm_getR (t := (r0 + 1)) dX4_put_29 fsX4_9 ((isH_s p0).2.1) ((isH_s p0).1.1) (by decide) ((isH_r p0).1.1) (v_iload_n dX4_put_32 2 rfl rfl (v_iload_n dX4_put_33 3 rfl rfl ?_)))
    obtain ⟨g2, h⟩ := guard_some h
    obtain ⟨σ3, eσ3, h⟩ := lt_some h
    refine vn_iast dX4_put_34 ((isH_s p0).2.2.1) ((isH_s p0).1.2.1) g2 rfl eσ3 (v_goto (tgt := 65) dX4_put_35 (by decide) (v_aload_n dX4_put_65 0 rfl rfl (v_bipush (v := (-2)) dX4_put_66 rfl ?_)))
    obtain ⟨σ4, eσ4, h⟩ := lt_some h
    refine vn_put dX4_put_68 fsX4_29 ((isH_s p0).2.1) ((isH_s p0).1.1) (by decide) ((isH_r p0).2.2.2.2.2.2.2) eσ4 ?_
    cases h
    exact v_vret dX4_put_71 rfl rfl rfl rfl rfl
  replace h := ite_f c1 h
  by_cases c5 : x1 = 1
  · replace h := ite_t c5 h
    refine v_tableAt (tgt := 38) dX4_put_1 c5 (by decide) (by decide) (off := 37) (by decide) (by decide) ?_
    refine v_aload_n dX4_put_38 0 rfl rfl (vm_getR (t := (r0 + 2)) dX4_put_39 fsX4_13 ((isH_s p0).2.1) ((isH_s p0).1.1) (by decide) ((isH_r p0).1.2.1) (v_iload_n dX4_put_42 2 rfl rfl (v_iload_n dX4_put_43 3 rfl rfl ?_)))
    obtain ⟨g6, h⟩ := guard_some h
    obtain ⟨σ7, eσ7, h⟩ := lt_some h
    refine vn_iast dX4_put_44 ((isH_s p0).2.2.2.1) ((isH_s p0).1.2.2.1) g6 rfl eσ7 (v_goto (tgt := 65) dX4_put_45 (by decide) (v_aload_n dX4_put_65 0 rfl rfl (v_bipush (v := (-2)) dX4_put_66 rfl ?_)))
    obtain ⟨σ8, eσ8, h⟩ := lt_some h
    refine vn_put dX4_put_68 fsX4_29 ((isH_s p0).2.1) ((isH_s p0).1.1) (by decide) ((isH_r p0).2.2.2.2.2.2.2) eσ8 ?_
    cases h
    exact v_vret dX4_put_71 rfl rfl rfl rfl rfl
  replace h := ite_f c5 h
  by_cases c9 : x1 = 2
  · replace h := ite_t c9 h
    refine v_tableAt (tgt := 48) dX4_put_1 c9 (by decide) (by decide) (off := 47) (by decide) (by decide) ?_
    refine v_aload_n dX4_put_48 0 rfl rfl (vm_getR (t := (r0 + 3)) dX4_put_49 fsX4_16 ((isH_s p0).2.1) ((isH_s p0).1.1) (by decide) ((isH_r p0).1.2.2.1) (v_iload_n dX4_put_52 2 rfl rfl (v_iload_n dX4_put_53 3 rfl rfl ?_)))
    obtain ⟨g10, h⟩ := guard_some h
    obtain ⟨σ11, eσ11, h⟩ := lt_some h
    refine vn_iast dX4_put_54 ((isH_s p0).2.2.2.2.1) ((isH_s p0).1.2.2.2.1) g10 rfl eσ11 (v_goto (tgt := 65) dX4_put_55 (by decide) (v_aload_n dX4_put_65 0 rfl rfl (v_bipush (v := (-2)) dX4_put_66 rfl ?_)))
    obtain ⟨σ12, eσ12, h⟩ := lt_some h
    refine vn_put dX4_put_68 fsX4_29 ((isH_s p0).2.1) ((isH_s p0).1.1) (by decide) ((isH_r p0).2.2.2.2.2.2.2) eσ12 ?_
    cases h
    exact v_vret dX4_put_71 rfl rfl rfl rfl rfl
  replace h := ite_f c9 h
  have nc1 := i_ne (z := 0) (by decide) c1
  have nc5 := i_ne (z := 1) (by decide) c5
  have nc9 := i_ne (z := 2) (by decide) c9
  refine v_tableOut (tgt := 58) dX4_put_1 (by omega) (by decide) ?_
  refine v_aload_n dX4_put_58 0 rfl rfl (vm_getR (t := (r0 + 4)) dX4_put_59 fsX4_19 ((isH_s p0).2.1) ((isH_s p0).1.1) (by decide) ((isH_r p0).1.2.2.2.1) (v_iload_n dX4_put_62 2 rfl rfl (v_iload_n dX4_put_63 3 rfl rfl ?_)))
  obtain ⟨g13, h⟩ := guard_some h
  obtain ⟨σ14, eσ14, h⟩ := lt_some h
  refine vn_iast dX4_put_64 ((isH_s p0).2.2.2.2.2.1) ((isH_s p0).1.2.2.2.2.1) g13 rfl eσ14 (v_aload_n dX4_put_65 0 rfl rfl (v_bipush (v := (-2)) dX4_put_66 rfl ?_))
  obtain ⟨σ15, eσ15, h⟩ := lt_some h
  refine vn_put dX4_put_68 fsX4_29 ((isH_s p0).2.1) ((isH_s p0).1.1) (by decide) ((isH_r p0).2.2.2.2.2.2.2) eσ15 ?_
  cases h
  exact v_vret dX4_put_71 rfl rfl rfl rfl rfl
def fH_isBrought (r0 : Nat) (x1 : Int32) (σ : Sg) : Option Int32 := if (((σ r0 9) >>> (x1 &&& 31)) &&& 1) = 0 then some 0 else some 1
set_option maxRecDepth 100000 in
set_option maxHeartbeats 4000000 in
theorem eH_isBrought {G : Gx} (r0 : Nat) (p0 : isH r0) (x1 : Int32) (σ : Sg) (q : Int32) (h : fH_isBrought r0 x1 σ = some q) : Evm G yX4_isBrought MX4_isBrought [.ref (gb G + r0), .int x1] σ (some (.int q)) σ := by
  refine Ev.of rfl rfl rfl (by decide) ?_
  show Vm G MX4_isBrought (some (.int q)) σ 0 [(0, .ref (gb G + r0)), (1, .int x1)] [] σ
  unfold fH_isBrought at h
  refine v_aload_n dX4_isBrought_0 0 rfl rfl (vm_getI dX4_isBrought_1 fsX4_41 ((isH_s p0).2.1) ((isH_s p0).1.1) (by decide) ((isH_r p0).2.2.2.2.2.1) (v_iload_n dX4_isBrought_4 1 rfl rfl (v_ishr dX4_isBrought_5 (v_iconst dX4_isBrought_6 rfl (v_iand dX4_isBrought_7 (v_if_eq (tgt := 15) dX4_isBrought_8 (by decide) (fun c1 => ?_) (fun c1 => ?_)))))))
  · replace h := ite_t c1 h
    refine v_iconst dX4_isBrought_15 rfl ?_
    cases h
    exact v_zret dX4_isBrought_16 rfl (by decide) rfl rfl rfl rfl
  · replace h := ite_f c1 h
    refine v_iconst dX4_isBrought_11 rfl (v_goto (tgt := 16) dX4_isBrought_12 (by decide) ?_)
    cases h
    exact v_zret dX4_isBrought_16 rfl (by decide) rfl rfl rfl rfl
def fH_minding_B32 (r0 : Nat) (x1 : Int32) (x2 : Int32) (s0 : Int32) (σ : Sg) : Option Int32 := if inb x1 6 = true then if (σ (r0 + 1) (ix x1)) = 1 then some s0 else if (σ (r0 + 1) (ix x1)) = 2 then some (2 * s0) else if (σ (r0 + 1) (ix x1)) = 3 then (if s0 ≤ (σ (r0 + 5) (ix x1)) then some 0 else some (s0 - (σ (r0 + 5) (ix x1)))) else if (σ (r0 + 1) (ix x1)) = 4 then (if inb x2 6 = true then if (σ (r0 + 4) (ix x2)) ≤ 0 then some 0 else some (σ (r0 + 5) (ix x1)) else none) else if (σ (r0 + 1) (ix x1)) = 5 then (if inb x2 6 = true then if (σ (r0 + 3) (ix x1)) = (σ (r0 + 3) (ix x2)) then some 9 else if (σ (r0 + 4) (ix x2)) ≤ 0 then some 0 else some (σ (r0 + 5) (ix x1)) else none) else if inb x2 6 = true then if (σ (r0 + 4) (ix x2)) ≤ 0 then some 0 else some (σ (r0 + 5) (ix x1)) else none else none
set_option maxRecDepth 100000 in
set_option maxHeartbeats 4000000 in
theorem sH_minding_B32 {G : Gx} {q : Int32} (r0 : Nat) (p0 : isH r0) (x1 : Int32) (x2 : Int32) (s0 : Int32) (σ : Sg) (h : fH_minding_B32 r0 x1 x2 s0 σ = some q) : Vm G MX4_minding (some (.int q)) σ 32 [(0, .ref (gb G + r0)), (1, .int x1), (2, .int x2)] [.int s0] σ := by
  unfold fH_minding_B32 at h
  refine v_istore_n dX4_minding_32 [0, 1, 2, 3] rfl (by decide) rfl (v_aload_n dX4_minding_33 1 rfl rfl (vm_getR (t := (r0 + 1)) dX4_minding_34 fsX4_9 ((isH_s p0).2.1) ((isH_s p0).1.1) (by decide) ((isH_r p0).1.1) (v_iload_n dX4_minding_37 2 rfl rfl ?_)))
  obtain ⟨g4, h⟩ := guard_some h
  refine vn_iald dX4_minding_38 ((isH_s p0).2.2.1) ((isH_s p0).1.2.1) g4 rfl ?_
  by_cases c5 : (σ (r0 + 1) (ix x1)) = 1
  · replace h := ite_t c5 h
    refine v_tableAt (tgt := 72) dX4_minding_39 c5 (by decide) (by decide) (off := 33) (by decide) (by decide) ?_
    refine v_iload_n dX4_minding_72 0 rfl rfl ?_
    cases h
    exact v_iret dX4_minding_73 rfl rfl rfl rfl rfl
  replace h := ite_f c5 h
  by_cases c6 : (σ (r0 + 1) (ix x1)) = 2
  · replace h := ite_t c6 h
    refine v_tableAt (tgt := 74) dX4_minding_39 c6 (by decide) (by decide) (off := 35) (by decide) (by decide) ?_
    refine v_iconst dX4_minding_74 rfl (v_iload_n dX4_minding_75 0 rfl rfl (v_imul dX4_minding_76 ?_))
    cases h
    exact v_iret dX4_minding_77 rfl rfl rfl rfl rfl
  replace h := ite_f c6 h
  by_cases c7 : (σ (r0 + 1) (ix x1)) = 3
  · replace h := ite_t c7 h
    refine v_tableAt (tgt := 78) dX4_minding_39 c7 (by decide) (by decide) (off := 39) (by decide) (by decide) ?_
    refine v_iload_n dX4_minding_78 0 rfl rfl (v_aload_n dX4_minding_79 1 rfl rfl (vm_getR (t := (r0 + 5)) dX4_minding_80 fsX4_22 ((isH_s p0).2.1) ((isH_s p0).1.1) (by decide) ((isH_r p0).1.2.2.2.2) (v_iload_n dX4_minding_83 2 rfl rfl (vn_iald dX4_minding_84 ((isH_s p0).2.2.2.2.2.2) ((isH_s p0).1.2.2.2.2.2) g4 rfl (v_icmp_le (tgt := 99) dX4_minding_85 (by decide) (fun c8 => ?_) (fun c8 => ?_))))))
    · replace h := ite_t c8 h
      refine v_iconst dX4_minding_99 rfl ?_
      cases h
      exact v_iret dX4_minding_100 rfl rfl rfl rfl rfl
    · replace h := ite_f c8 h
      refine v_iload_n dX4_minding_88 0 rfl rfl (v_aload_n dX4_minding_89 1 rfl rfl (vm_getR (t := (r0 + 5)) dX4_minding_90 fsX4_22 ((isH_s p0).2.1) ((isH_s p0).1.1) (by decide) ((isH_r p0).1.2.2.2.2) (v_iload_n dX4_minding_93 2 rfl rfl (vn_iald dX4_minding_94 ((isH_s p0).2.2.2.2.2.2) ((isH_s p0).1.2.2.2.2.2) g4 rfl (v_isub dX4_minding_95 (v_goto (tgt := 100) dX4_minding_96 (by decide) ?_))))))
      cases h
      exact v_iret dX4_minding_100 rfl rfl rfl rfl rfl
  replace h := ite_f c7 h
  by_cases c9 : (σ (r0 + 1) (ix x1)) = 4
  · replace h := ite_t c9 h
    refine v_tableAt (tgt := 139) dX4_minding_39 c9 (by decide) (by decide) (off := 100) (by decide) (by decide) ?_
    refine v_aload_n dX4_minding_139 1 rfl rfl (vm_getR (t := (r0 + 4)) dX4_minding_140 fsX4_19 ((isH_s p0).2.1) ((isH_s p0).1.1) (by decide) ((isH_r p0).1.2.2.2.1) (v_iload_n dX4_minding_143 3 rfl rfl ?_))
    obtain ⟨g10, h⟩ := guard_some h
    refine vn_iald dX4_minding_144 ((isH_s p0).2.2.2.2.2.1) ((isH_s p0).1.2.2.2.2.1) g10 rfl (v_if_le (tgt := 157) dX4_minding_145 (by decide) (fun c11 => ?_) (fun c11 => ?_))
    · replace h := ite_t c11 h
      refine v_iconst dX4_minding_157 rfl ?_
      cases h
      exact v_iret dX4_minding_158 rfl rfl rfl rfl rfl
    · replace h := ite_f c11 h
      refine v_aload_n dX4_minding_148 1 rfl rfl (vm_getR (t := (r0 + 5)) dX4_minding_149 fsX4_22 ((isH_s p0).2.1) ((isH_s p0).1.1) (by decide) ((isH_r p0).1.2.2.2.2) (v_iload_n dX4_minding_152 2 rfl rfl (vn_iald dX4_minding_153 ((isH_s p0).2.2.2.2.2.2) ((isH_s p0).1.2.2.2.2.2) g4 rfl (v_goto (tgt := 158) dX4_minding_154 (by decide) ?_))))
      cases h
      exact v_iret dX4_minding_158 rfl rfl rfl rfl rfl
  replace h := ite_f c9 h
  by_cases c12 : (σ (r0 + 1) (ix x1)) = 5
  · replace h := ite_t c12 h
    refine v_tableAt (tgt := 101) dX4_minding_39 c12 (by decide) (by decide) (off := 62) (by decide) (by decide) ?_
    refine v_aload_n dX4_minding_101 1 rfl rfl (vm_getR (t := (r0 + 3)) dX4_minding_102 fsX4_16 ((isH_s p0).2.1) ((isH_s p0).1.1) (by decide) ((isH_r p0).1.2.2.1) (v_iload_n dX4_minding_105 2 rfl rfl (vn_iald dX4_minding_106 ((isH_s p0).2.2.2.2.1) ((isH_s p0).1.2.2.2.1) g4 rfl (v_aload_n dX4_minding_107 1 rfl rfl (vm_getR (t := (r0 + 3)) dX4_minding_108 fsX4_16 ((isH_s p0).2.1) ((isH_s p0).1.1) (by decide) ((isH_r p0).1.2.2.1) (v_iload_n dX4_minding_111 3 rfl rfl ?_))))))
    obtain ⟨g13, h⟩ := guard_some h
    refine vn_iald dX4_minding_112 ((isH_s p0).2.2.2.2.1) ((isH_s p0).1.2.2.2.1) g13 rfl (v_icmp_ne (tgt := 119) dX4_minding_113 (by decide) (fun c14 => ?_) (fun c14 => ?_))
    · replace h := ite_f c14 h
      refine v_aload_n dX4_minding_119 1 rfl rfl (vm_getR (t := (r0 + 4)) dX4_minding_120 fsX4_19 ((isH_s p0).2.1) ((isH_s p0).1.1) (by decide) ((isH_r p0).1.2.2.2.1) (v_iload_n dX4_minding_123 3 rfl rfl (vn_iald dX4_minding_124 ((isH_s p0).2.2.2.2.2.1) ((isH_s p0).1.2.2.2.2.1) g13 rfl (v_if_le (tgt := 137) dX4_minding_125 (by decide) (fun c15 => ?_) (fun c15 => ?_)))))
      · replace h := ite_t c15 h
        refine v_iconst dX4_minding_137 rfl ?_
        cases h
        exact v_iret dX4_minding_138 rfl rfl rfl rfl rfl
      · replace h := ite_f c15 h
        refine v_aload_n dX4_minding_128 1 rfl rfl (vm_getR (t := (r0 + 5)) dX4_minding_129 fsX4_22 ((isH_s p0).2.1) ((isH_s p0).1.1) (by decide) ((isH_r p0).1.2.2.2.2) (v_iload_n dX4_minding_132 2 rfl rfl (vn_iald dX4_minding_133 ((isH_s p0).2.2.2.2.2.2) ((isH_s p0).1.2.2.2.2.2) g4 rfl (v_goto (tgt := 138) dX4_minding_134 (by decide) ?_))))
        cases h
        exact v_iret dX4_minding_138 rfl rfl rfl rfl rfl
    · replace h := ite_t c14 h
      refine v_bipush (v := 9) dX4_minding_116 rfl ?_
      cases h
      exact v_iret dX4_minding_118 rfl rfl rfl rfl rfl
  replace h := ite_f c12 h
  have nc5 := i_ne (z := 1) (by decide) c5
  have nc6 := i_ne (z := 2) (by decide) c6
  have nc7 := i_ne (z := 3) (by decide) c7
  have nc9 := i_ne (z := 4) (by decide) c9
  have nc12 := i_ne (z := 5) (by decide) c12
  refine v_tableOut (tgt := 139) dX4_minding_39 (by omega) (by decide) ?_
  refine v_aload_n dX4_minding_139 1 rfl rfl (vm_getR (t := (r0 + 4)) dX4_minding_140 fsX4_19 ((isH_s p0).2.1) ((isH_s p0).1.1) (by decide) ((isH_r p0).1.2.2.2.1) (v_iload_n dX4_minding_143 3 rfl rfl ?_))
  obtain ⟨g16, h⟩ := guard_some h
  refine vn_iald dX4_minding_144 ((isH_s p0).2.2.2.2.2.1) ((isH_s p0).1.2.2.2.2.1) g16 rfl (v_if_le (tgt := 157) dX4_minding_145 (by decide) (fun c17 => ?_) (fun c17 => ?_))
  · replace h := ite_t c17 h
    refine v_iconst dX4_minding_157 rfl ?_
    cases h
    exact v_iret dX4_minding_158 rfl rfl rfl rfl rfl
  · replace h := ite_f c17 h
    refine v_aload_n dX4_minding_148 1 rfl rfl (vm_getR (t := (r0 + 5)) dX4_minding_149 fsX4_22 ((isH_s p0).2.1) ((isH_s p0).1.1) (by decide) ((isH_r p0).1.2.2.2.2) (v_iload_n dX4_minding_152 2 rfl rfl (vn_iald dX4_minding_153 ((isH_s p0).2.2.2.2.2.2) ((isH_s p0).1.2.2.2.2.2) g4 rfl (v_goto (tgt := 158) dX4_minding_154 (by decide) ?_))))
    cases h
    exact v_iret dX4_minding_158 rfl rfl rfl rfl rfl
def fH_minding (r0 : Nat) (x1 : Int32) (x2 : Int32) (σ : Sg) : Option Int32 := if inb x2 6 = true then if inb x1 6 = true then if (σ (r0 + 4) (ix x2)) ≤ (σ (r0 + 4) (ix x1)) then fH_minding_B32 r0 x1 x2 0 σ else fH_minding_B32 r0 x1 x2 ((σ (r0 + 4) (ix x2)) - (σ (r0 + 4) (ix x1))) σ else none else none
set_option maxRecDepth 100000 in
set_option maxHeartbeats 4000000 in
theorem eH_minding {G : Gx} (r0 : Nat) (p0 : isH r0) (x1 : Int32) (x2 : Int32) (σ : Sg) (q : Int32) (h : fH_minding r0 x1 x2 σ = some q) : Evm G yX4_minding MX4_minding [.ref (gb G + r0), .int x1, .int x2] σ (some (.int q)) σ := by
  refine Ev.of rfl rfl rfl (by decide) ?_
  show Vm G MX4_minding (some (.int q)) σ 0 [(0, .ref (gb G + r0)), (1, .int x1), (2, .int x2)] [] σ
  unfold fH_minding at h
  refine v_aload_n dX4_minding_0 0 rfl rfl (vm_getR (t := (r0 + 4)) dX4_minding_1 fsX4_19 ((isH_s p0).2.1) ((isH_s p0).1.1) (by decide) ((isH_r p0).1.2.2.2.1) (v_iload_n dX4_minding_4 2 rfl rfl ?_))
  obtain ⟨g1, h⟩ := guard_some h
  refine vn_iald dX4_minding_5 ((isH_s p0).2.2.2.2.2.1) ((isH_s p0).1.2.2.2.2.1) g1 rfl (v_aload_n dX4_minding_6 0 rfl rfl (vm_getR (t := (r0 + 4)) dX4_minding_7 fsX4_19 ((isH_s p0).2.1) ((isH_s p0).1.1) (by decide) ((isH_r p0).1.2.2.2.1) (v_iload_n dX4_minding_10 1 rfl rfl ?_)))
  obtain ⟨g2, h⟩ := guard_some h
  refine vn_iald dX4_minding_11 ((isH_s p0).2.2.2.2.2.1) ((isH_s p0).1.2.2.2.2.1) g2 rfl (v_icmp_le (tgt := 31) dX4_minding_12 (by decide) (fun c3 => ?_) (fun c3 => ?_))
  · replace h := ite_t c3 h
    exact v_iconst dX4_minding_31 rfl (sH_minding_B32 r0 p0 x1 x2 0 _ h)
  · replace h := ite_f c3 h
    exact v_aload_n dX4_minding_15 0 rfl rfl (vm_getR (t := (r0 + 4)) dX4_minding_16 fsX4_19 ((isH_s p0).2.1) ((isH_s p0).1.1) (by decide) ((isH_r p0).1.2.2.2.1) (v_iload_n dX4_minding_19 2 rfl rfl (vn_iald dX4_minding_20 ((isH_s p0).2.2.2.2.2.1) ((isH_s p0).1.2.2.2.2.1) g1 rfl (v_aload_n dX4_minding_21 0 rfl rfl (vm_getR (t := (r0 + 4)) dX4_minding_22 fsX4_19 ((isH_s p0).2.1) ((isH_s p0).1.1) (by decide) ((isH_r p0).1.2.2.2.1) (v_iload_n dX4_minding_25 1 rfl rfl (vn_iald dX4_minding_26 ((isH_s p0).2.2.2.2.2.1) ((isH_s p0).1.2.2.2.2.1) g2 rfl (v_isub dX4_minding_27 (v_goto (tgt := 32) dX4_minding_28 (by decide) (sH_minding_B32 r0 p0 x1 x2 ((σ (r0 + 4) (ix x2)) - (σ (r0 + 4) (ix x1))) _ h))))))))))
def fH_envy_B59 (K14 : Nat → Int32 → Int32 → Int32 → Sg → Option Int32) (r0 : Nat) (x1 : Int32) (x2 : Int32) (x3 : Int32) (σ : Sg) : Option Int32 := K14 r0 x1 x2 (x3 + 1) σ
set_option maxRecDepth 100000 in
set_option maxHeartbeats 4000000 in
theorem sH_envy_B59 {G : Gx} {q : Int32} (K14 : Nat → Int32 → Int32 → Int32 → Sg → Option Int32) (hK14 : ∀ (r0 : Nat) (p0 : isH r0) (x1 : Int32) (x2 : Int32) (x3 : Int32) (σ : Sg), K14 r0 x1 x2 x3 σ = some q → Vm G MX4_envy (some (.int q)) σ 14 [(0, .ref (gb G + r0)), (1, .int x1), (2, .int x2), (3, .int x3)] [] σ) (r0 : Nat) (p0 : isH r0) (x1 : Int32) (x2 : Int32) (x3 : Int32) (σ : Sg) (h : fH_envy_B59 K14 r0 x1 x2 x3 σ = some q) : Vm G MX4_envy (some (.int q)) σ 59 [(0, .ref (gb G + r0)), (1, .int x1), (2, .int x2), (3, .int x3)] [] σ := by
  unfold fH_envy_B59 at h
  exact v_iinc (v := x3 + 1) dX4_envy_59 3 rfl rfl [0, 1, 2, 3] rfl (by decide) (v_goto (tgt := 14) dX4_envy_62 (by decide) (v_sub [1, 2, 3, 0] rfl (hK14 r0 p0 x1 x2 (x3 + 1) _ h)))
def fH_envy_b14 (K14 : Nat → Int32 → Int32 → Int32 → Sg → Option Int32) (r0 : Nat) (x1 : Int32) (x2 : Int32) (x3 : Int32) (σ : Sg) : Option Int32 := if (σ r0 5) ≤ x3 then some x2 else if x3 = x1 then fH_envy_B59 K14 r0 x1 x2 x3 σ else if x3 = (σ r0 8) then fH_envy_B59 K14 r0 x1 x2 x3 σ else if inb x3 6 = true then if inb x1 6 = true then if (σ (r0 + 2) (ix x3)) = (σ (r0 + 2) (ix x1)) then ((fH_minding r0 x3 x1 σ).bind fun q8 => fH_envy_B59 K14 r0 x1 (x2 + q8) x3 σ) else fH_envy_B59 K14 r0 x1 x2 x3 σ else none else none
def fH_envy_L14 (n : Nat) : Nat → Int32 → Int32 → Int32 → Sg → Option Int32 := Nat.rec (fun _ _ _ _ _ => none) (fun _ K => fH_envy_b14 K) n
set_option maxRecDepth 100000 in
set_option maxHeartbeats 4000000 in
theorem sH_envy_b14 {G : Gx} {q : Int32} (K14 : Nat → Int32 → Int32 → Int32 → Sg → Option Int32) (hK14 : ∀ (r0 : Nat) (p0 : isH r0) (x1 : Int32) (x2 : Int32) (x3 : Int32) (σ : Sg), K14 r0 x1 x2 x3 σ = some q → Vm G MX4_envy (some (.int q)) σ 14 [(0, .ref (gb G + r0)), (1, .int x1), (2, .int x2), (3, .int x3)] [] σ) (r0 : Nat) (p0 : isH r0) (x1 : Int32) (x2 : Int32) (x3 : Int32) (σ : Sg) (h : fH_envy_b14 K14 r0 x1 x2 x3 σ = some q) : Vm G MX4_envy (some (.int q)) σ 14 [(0, .ref (gb G + r0)), (1, .int x1), (2, .int x2), (3, .int x3)] [] σ := by
  unfold fH_envy_b14 at h
  refine v_iload_n dX4_envy_14 3 rfl rfl (v_aload_n dX4_envy_15 0 rfl rfl (vm_getI dX4_envy_16 fsX4_32 ((isH_s p0).2.1) ((isH_s p0).1.1) (by decide) ((isH_r p0).2.1) (v_icmp_ge (tgt := 65) dX4_envy_19 (by decide) (fun c2 => ?_) (fun c2 => ?_))))
  · replace h := ite_t c2 h
    refine v_iload_n dX4_envy_65 2 rfl rfl ?_
    cases h
    exact v_iret dX4_envy_66 rfl rfl rfl rfl rfl
  · replace h := ite_f c2 h
    refine v_iload_n dX4_envy_22 3 rfl rfl (v_iload_n dX4_envy_23 1 rfl rfl (v_icmp_eq (tgt := 59) dX4_envy_24 (by decide) (fun c3 => ?_) (fun c3 => ?_)))
    · replace h := ite_t c3 h
      exact sH_envy_B59 K14 hK14 r0 p0 x1 x2 x3 _ h
    · replace h := ite_f c3 h
      refine v_iload_n dX4_envy_27 3 rfl rfl (v_aload_n dX4_envy_28 0 rfl rfl (vm_getI dX4_envy_29 fsX4_25 ((isH_s p0).2.1) ((isH_s p0).1.1) (by decide) ((isH_r p0).2.2.2.2.1) (v_icmp_eq (tgt := 59) dX4_envy_32 (by decide) (fun c4 => ?_) (fun c4 => ?_))))
      · replace h := ite_t c4 h
        exact sH_envy_B59 K14 hK14 r0 p0 x1 x2 x3 _ h
      · replace h := ite_f c4 h
        refine v_aload_n dX4_envy_35 0 rfl rfl (vm_getR (t := (r0 + 2)) dX4_envy_36 fsX4_13 ((isH_s p0).2.1) ((isH_s p0).1.1) (by decide) ((isH_r p0).1.2.1) (v_iload_n dX4_envy_39 3 rfl rfl ?_))
        obtain ⟨g5, h⟩ := guard_some h
        refine vn_iald dX4_envy_40 ((isH_s p0).2.2.2.1) ((isH_s p0).1.2.2.1) g5 rfl (v_aload_n dX4_envy_41 0 rfl rfl (vm_getR (t := (r0 + 2)) dX4_envy_42 fsX4_13 ((isH_s p0).2.1) ((isH_s p0).1.1) (by decide) ((isH_r p0).1.2.1) (v_iload_n dX4_envy_45 1 rfl rfl ?_)))
        obtain ⟨g6, h⟩ := guard_some h
        refine vn_iald dX4_envy_46 ((isH_s p0).2.2.2.1) ((isH_s p0).1.2.2.1) g6 rfl (v_icmp_ne (tgt := 59) dX4_envy_47 (by decide) (fun c7 => ?_) (fun c7 => ?_))
        · replace h := ite_f c7 h
          exact sH_envy_B59 K14 hK14 r0 p0 x1 x2 x3 _ h
        · replace h := ite_t c7 h
          refine v_iload_n dX4_envy_50 2 rfl rfl (v_aload_n dX4_envy_51 0 rfl rfl (v_iload_n dX4_envy_52 3 rfl rfl (v_iload_n dX4_envy_53 1 rfl rfl ?_)))
          obtain ⟨q8, hq8, h⟩ := bind_some h
          refine v_callV (As := [.int x3, .int x1]) (S := [.int x2]) dX4_envy_54 tw432 tw433 tw434 ykX4_minding ((isH_s p0).2.1) ((isH_s p0).1.1) (by decide) ok_4 rfl (by decide) rfl rfl (by decide) (by decide) (eH_minding r0 p0 x3 x1 _ _ hq8) ?_
          exact v_iadd dX4_envy_57 (v_istore_n dX4_envy_58 [0, 1, 2, 3] rfl (by decide) rfl (v_sub [1, 2, 0, 3] rfl (sH_envy_B59 K14 hK14 r0 p0 x1 (x2 + q8) x3 _ h)))
theorem sH_envy_L14 {G : Gx} {q : Int32} (n : Nat) : ∀ (r0 : Nat) (p0 : isH r0) (x1 : Int32) (x2 : Int32) (x3 : Int32) (σ : Sg) (h : fH_envy_L14 n r0 x1 x2 x3 σ = some q), Vm G MX4_envy (some (.int q)) σ 14 [(0, .ref (gb G + r0)), (1, .int x1), (2, .int x2), (3, .int x3)] [] σ := by
  induction n with
  | zero => intro r0 p0 x1 x2 x3 σ h; cases h
  | succ n ih => intro r0 p0 x1 x2 x3 σ h; exact sH_envy_b14  _ ih r0 p0 x1 x2 x3 σ h
def fH_envy (r0 : Nat) (x1 : Int32) (σ : Sg) : Option Int32 := if x1 = (σ r0 8) then some 0 else fH_envy_L14 2000 r0 x1 0 0 σ
set_option maxRecDepth 100000 in
set_option maxHeartbeats 4000000 in
theorem eH_envy {G : Gx} (r0 : Nat) (p0 : isH r0) (x1 : Int32) (σ : Sg) (q : Int32) (h : fH_envy r0 x1 σ = some q) : Evm G yX4_envy MX4_envy [.ref (gb G + r0), .int x1] σ (some (.int q)) σ := by
  refine Ev.of rfl rfl rfl (by decide) ?_
  show Vm G MX4_envy (some (.int q)) σ 0 [(0, .ref (gb G + r0)), (1, .int x1)] [] σ
  unfold fH_envy at h
  refine v_iconst dX4_envy_0 rfl (v_istore_n dX4_envy_1 [0, 1, 2] rfl (by decide) rfl (v_iload_n dX4_envy_2 2 rfl rfl (v_aload_n dX4_envy_3 1 rfl rfl (vm_getI dX4_envy_4 fsX4_25 ((isH_s p0).2.1) ((isH_s p0).1.1) (by decide) ((isH_r p0).2.2.2.2.1) (v_icmp_ne (tgt := 12) dX4_envy_7 (by decide) (fun c1 => ?_) (fun c1 => ?_))))))
  · replace h := ite_f c1 h
    exact v_iconst dX4_envy_12 rfl (v_istore_n dX4_envy_13 [0, 1, 2, 3] rfl (by decide) rfl (v_sub [2, 3, 1, 0] rfl (sH_envy_L14 2000 r0 p0 x1 0 0 _ h)))
  · replace h := ite_t c1 h
    refine v_iload_n dX4_envy_10 0 rfl rfl ?_
    cases h
    exact v_iret dX4_envy_11 rfl rfl rfl rfl rfl
