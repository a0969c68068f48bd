def fT_tellsLaw (σ : Sg) : Option (Int32 × Sg) := (fT_takesSign 102 σ).bind fun q1 => if q1.1 = 0 then some (0, q1.2) else (fT_takesNumber 1 9 q1.2).bind fun q3 => if q3.1 = 0 then some (0, q3.2) else (fT_takesSign 44 q3.2).bind fun q5 => if q5.1 = 0 then some (0, q5.2) else (fT_takesNumber 0 (q3.2 2 4) q5.2).bind fun q7 => if q7.1 = 0 then some (0, q7.2) else (fT_takesSign 59 q7.2).bind fun q9 => if q9.1 = 0 then some (0, q9.2) else (fH_begin 10 (q3.2 2 4) (q9.2 2 4) q9.2).bind fun q11 => some (1, q11)
set_option maxRecDepth 100000 in
set_option maxHeartbeats 4000000 in
theorem eT_tellsLaw {G : Gx} (σ : Sg) (q : (Int32 × Sg)) (h : fT_tellsLaw σ = some q) : Evm G yX8_tellsLaw MX8_tellsLaw [.ref (gb G + 2), .ref (gb G + 10)] σ (some (.int q.1)) q.2 := by
  refine Ev.of (by decide +kernel) rfl rfl (Nat.le_of_ble_eq_true rfl) ?_
  show Vm G MX8_tellsLaw (some (.int q.1)) q.2 0 [(0, .ref (gb G + 2)), (1, .ref (gb G + 10))] [] σ
  unfold fT_tellsLaw at h
  refine v_aload_n dX8_tellsLaw_0 0 rfl rfl (v_bipush (v := 102) dX8_tellsLaw_1 rfl ?_)
  obtain ⟨q1, hq1, h⟩ := bind_some h
  refine v_callV (As := [.int 102]) (S := []) dX8_tellsLaw_3 tw355 tw357 tw3 ykX8_takesSign lc_2 shc_2 (by decide) ok_7 rfl (by decide) rfl rfl (Nat.le_of_ble_eq_true rfl) (by decide) (eT_takesSign 102 _ _ hq1) ?_
  refine v_if_eq (tgt := 19) dX8_tellsLaw_6 (by decide) (fun c2 => ?_) (fun c2 => ?_)
  · replace h := ite_t c2 h
    refine v_iconst dX8_tellsLaw_19 rfl ?_
    replace h := Option.some.inj h
    subst h
    exact v_zret dX8_tellsLaw_20 rfl (by decide) rfl rfl rfl rfl
  · replace h := ite_f c2 h
    refine v_aload_n dX8_tellsLaw_9 0 rfl rfl (v_iconst dX8_tellsLaw_10 rfl (v_bipush (v := 9) dX8_tellsLaw_11 rfl ?_))
    obtain ⟨q3, hq3, h⟩ := bind_some h
    refine v_callV (As := [.int 1, .int 9]) (S := []) dX8_tellsLaw_13 tw363 tw365 tw5 ykX8_takesNumber lc_2 shc_2 (by decide) ok_7 rfl (by decide) rfl rfl (Nat.le_of_ble_eq_true rfl) (by decide) (eT_takesNumber 1 9 _ _ hq3) ?_
    refine v_if_ne (tgt := 21) dX8_tellsLaw_16 (by decide) (fun c4 => ?_) (fun c4 => ?_)
    · replace h := ite_f c4 h
      refine v_aload_n dX8_tellsLaw_21 0 rfl rfl (vm_getI dX8_tellsLaw_22 fsX8_38 lc_2 shc_2 (by decide) rf_2_4 (v_istore_n dX8_tellsLaw_25 [0, 1, 2] rfl (by decide) rfl (v_aload_n dX8_tellsLaw_26 1 rfl rfl (v_bipush (v := 44) dX8_tellsLaw_27 rfl ?_))))
      obtain ⟨q5, hq5, h⟩ := bind_some h
      refine v_callV (As := [.int 44]) (S := []) dX8_tellsLaw_29 tw355 tw357 tw3 ykX8_takesSign lc_2 shc_2 (by decide) ok_7 rfl (by decide) rfl rfl (Nat.le_of_ble_eq_true rfl) (by decide) (eT_takesSign 44 _ _ hq5) ?_
      refine v_if_eq (tgt := 53) dX8_tellsLaw_32 (by decide) (fun c6 => ?_) (fun c6 => ?_)
      · replace h := ite_t c6 h
        refine v_iconst dX8_tellsLaw_53 rfl ?_
        replace h := Option.some.inj h
        subst h
        exact v_zret dX8_tellsLaw_54 rfl (by decide) rfl rfl rfl rfl
      · replace h := ite_f c6 h
        refine v_aload_n dX8_tellsLaw_35 1 rfl rfl (v_iconst dX8_tellsLaw_36 rfl (v_iload_n dX8_tellsLaw_37 0 rfl rfl ?_))
        obtain ⟨q7, hq7, h⟩ := bind_some h
        refine v_callV (As := [.int 0, .int (q3.2 2 4)]) (S := []) dX8_tellsLaw_38 tw363 tw365 tw5 ykX8_takesNumber lc_2 shc_2 (by decide) ok_7 rfl (by decide) rfl rfl (Nat.le_of_ble_eq_true rfl) (by decide) (eT_takesNumber 0 (q3.2 2 4) _ _ hq7) ?_
        refine v_if_eq (tgt := 53) dX8_tellsLaw_41 (by decide) (fun c8 => ?_) (fun c8 => ?_)
        · replace h := ite_t c8 h
          refine v_iconst dX8_tellsLaw_53 rfl ?_
          replace h := Option.some.inj h
          subst h
          exact v_zret dX8_tellsLaw_54 rfl (by decide) rfl rfl rfl rfl
        · replace h := ite_f c8 h
          refine v_aload_n dX8_tellsLaw_44 1 rfl rfl (v_bipush (v := 59) dX8_tellsLaw_45 rfl ?_)
          obtain ⟨q9, hq9, h⟩ := bind_some h
          refine v_callV (As := [.int 59]) (S := []) dX8_tellsLaw_47 tw355 tw357 tw3 ykX8_takesSign lc_2 shc_2 (by decide) ok_7 rfl (by decide) rfl rfl (Nat.le_of_ble_eq_true rfl) (by decide) (eT_takesSign 59 _ _ hq9) ?_
          refine v_if_ne (tgt := 55) dX8_tellsLaw_50 (by decide) (fun c10 => ?_) (fun c10 => ?_)
          · replace h := ite_f c10 h
            refine v_aload_n dX8_tellsLaw_55 2 rfl rfl (v_iload_n dX8_tellsLaw_56 0 rfl rfl (v_aload_n dX8_tellsLaw_57 1 rfl rfl (vm_getI dX8_tellsLaw_58 fsX8_38 lc_2 shc_2 (by decide) rf_2_4 ?_)))
            obtain ⟨q11, hq11, h⟩ := bind_some h
            refine v_callV (As := [.int (q3.2 2 4), .int (q9.2 2 4)]) (S := []) dX8_tellsLaw_61 tw370 tw371 tw372 ykX4_begin ((isH_s isH_10).2.1) ((isH_s isH_10).1.1) (by decide) ok_4 rfl (by decide) rfl rfl (Nat.le_of_ble_eq_true rfl) (by decide) (eH_begin 10 isH_10 (q3.2 2 4) (q9.2 2 4) _ _ hq11) ?_
            refine v_iconst dX8_tellsLaw_64 rfl ?_
            replace h := Option.some.inj h
            subst h
            exact v_zret dX8_tellsLaw_65 rfl (by decide) rfl rfl rfl rfl
          · replace h := ite_t c10 h
            refine v_iconst dX8_tellsLaw_53 rfl ?_
            replace h := Option.some.inj h
            subst h
            exact v_zret dX8_tellsLaw_54 rfl (by decide) rfl rfl rfl rfl
    · replace h := ite_t c4 h
      refine v_iconst dX8_tellsLaw_19 rfl ?_
      replace h := Option.some.inj h
      subst h
      exact v_zret dX8_tellsLaw_20 rfl (by decide) rfl rfl rfl rfl
def fT_sort_B24 (s0 : Int32) (σ : Sg) : Option Int32 := if s0 = 99 then some 1 else if s0 = 101 then some 5 else if s0 = 104 then some 4 else if s0 = 109 then some 3 else if s0 = 118 then some 2 else some 0
set_option maxRecDepth 100000 in
set_option maxHeartbeats 4000000 in
theorem sT_sort_B24 {G : Gx} {q : Int32} (s0 : Int32) (σ : Sg) (h : fT_sort_B24 s0 σ = some q) : Vm G MX8_sort (some (.int q)) σ 24 [] [.int s0] σ := by
  unfold fT_sort_B24 at h
  by_cases c3 : s0 = 99
  · replace h := ite_t c3 h
    refine v_lookAt (tgt := 76) dX8_sort_24 c3 (by decide) (off := 52) (by decide) (by decide) ?_
    refine v_iconst dX8_sort_76 rfl ?_
    replace h := Option.some.inj h
    subst h
    exact v_iret dX8_sort_77 rfl rfl rfl rfl rfl
  replace h := ite_f c3 h
  by_cases c4 : s0 = 101
  · replace h := ite_t c4 h
    refine v_lookAt (tgt := 84) dX8_sort_24 c4 (by decide) (off := 60) (by decide) (by decide) ?_
    refine v_iconst dX8_sort_84 rfl ?_
    replace h := Option.some.inj h
    subst h
    exact v_iret dX8_sort_85 rfl rfl rfl rfl rfl
  replace h := ite_f c4 h
  by_cases c5 : s0 = 104
  · replace h := ite_t c5 h
    refine v_lookAt (tgt := 82) dX8_sort_24 c5 (by decide) (off := 58) (by decide) (by decide) ?_
    refine v_iconst dX8_sort_82 rfl ?_
    replace h := Option.some.inj h
    subst h
    exact v_iret dX8_sort_83 rfl rfl rfl rfl rfl
  replace h := ite_f c5 h
  by_cases c6 : s0 = 109
  · replace h := ite_t c6 h
    refine v_lookAt (tgt := 80) dX8_sort_24 c6 (by decide) (off := 56) (by decide) (by decide) ?_
    refine v_iconst dX8_sort_80 rfl ?_
    replace h := Option.some.inj h
    subst h
    exact v_iret dX8_sort_81 rfl rfl rfl rfl rfl
  replace h := ite_f c6 h
  by_cases c7 : s0 = 118
  · replace h := ite_t c7 h
    refine v_lookAt (tgt := 78) dX8_sort_24 c7 (by decide) (off := 54) (by decide) (by decide) ?_
    refine v_iconst dX8_sort_78 rfl ?_
    replace h := Option.some.inj h
    subst h
    exact v_iret dX8_sort_79 rfl rfl rfl rfl rfl
  replace h := ite_f c7 h
  have nc3 := i_ne (z := 99) (by decide) c3
  have nc4 := i_ne (z := 101) (by decide) c4
  have nc5 := i_ne (z := 104) (by decide) c5
  have nc6 := i_ne (z := 109) (by decide) c6
  have nc7 := i_ne (z := 118) (by decide) c7
  refine v_lookup (tgt := 86) (off := 62) dX8_sort_24 (by decide) (by simp only [Op.lookupswitch.offset]; rw [if_neg (fun q => nc3 q.symm)]; rw [if_neg (fun q => nc4 q.symm)]; rw [if_neg (fun q => nc5 q.symm)]; rw [if_neg (fun q => nc6 q.symm)]; rw [if_neg (fun q => nc7 q.symm)]) (by decide) ?_
  refine v_iconst dX8_sort_86 rfl ?_
  replace h := Option.some.inj h
  subst h
  exact v_iret dX8_sort_87 rfl rfl rfl rfl rfl
def fT_sort (σ : Sg) : Option Int32 := if (σ 2 1) ≤ (σ 2 2) then fT_sort_B24 0 σ else if inb (σ 2 2) 120 = true then fT_sort_B24 (σ 3 (ix (σ 2 2))) σ else none
set_option maxRecDepth 100000 in
set_option maxHeartbeats 4000000 in
theorem eT_sort {G : Gx} (σ : Sg) (q : Int32) (h : fT_sort σ = some q) : Evm G yX8_sort MX8_sort [.ref (gb G + 2)] σ (some (.int q)) σ := by
  refine Ev.of (by decide +kernel) rfl rfl (Nat.le_of_ble_eq_true rfl) ?_
  show Vm G MX8_sort (some (.int q)) σ 0 [(0, .ref (gb G + 2))] [] σ
  unfold fT_sort at h
  refine v_aload_n dX8_sort_0 0 rfl rfl (vm_getI dX8_sort_1 fsX8_13 lc_2 shc_2 (by decide) rf_2_2 (v_aload_n dX8_sort_4 0 rfl rfl (vm_getI dX8_sort_5 fsX8_23 lc_2 shc_2 (by decide) rf_2_1 (v_icmp_ge (tgt := 23) dX8_sort_8 (by decide) (fun c1 => ?_) (fun c1 => ?_)))))
  · replace h := ite_t c1 h
    exact v_iconst dX8_sort_23 rfl (v_sub [] rfl (sT_sort_B24 0 _ h))
  · replace h := ite_f c1 h
    refine v_aload_n dX8_sort_11 0 rfl rfl (vm_getR (t := 3) dX8_sort_12 fsX8_9 lc_2 shc_2 (by decide) rf_2_0 (v_aload_n dX8_sort_15 0 rfl rfl (vm_getI dX8_sort_16 fsX8_13 lc_2 shc_2 (by decide) rf_2_2 ?_)))
    obtain ⟨g2, h⟩ := guard_some h
    exact vn_iald dX8_sort_19 lc_3 sha_3 g2 rfl (v_goto (tgt := 24) dX8_sort_20 (by decide) (v_sub [] rfl (sT_sort_B24 (σ 3 (ix (σ 2 2))) _ h)))
def fT_tellsPerson (x2 : Int32) (σ : Sg) : Option (Int32 × Sg) := (fT_sort σ).bind fun q1 => if q1 = 0 then ((fT_refuses 1 σ).bind fun q30 => if isb q30.1 = true then some (q30.1, q30.2) else none) else if x2 < 6 then (ltc (wr σ 2 2 ((σ 2 2) + 1)) fun σ4 => (fT_takesNumber 0 (σ4 10 6) σ4).bind fun q5 => if q5.1 = 0 then some (0, q5.2) else if inb x2 6 = true then ltc (wr q5.2 (10 + 2) (ix x2) (q5.2 2 4)) fun σ8 => (fT_takesSign 44 σ8).bind fun q9 => if q9.1 = 0 then some (0, q9.2) else (fT_takesNumber 0 (q9.2 10 6) q9.2).bind fun q11 => if q11.1 = 0 then some (0, q11.2) else ltc (wr q11.2 (10 + 3) (ix x2) (q11.2 2 4)) fun σ13 => (fT_takesSign 44 σ13).bind fun q14 => if q14.1 = 0 then some (0, q14.2) else (fT_takesNumber 0 9 q14.2).bind fun q16 => if q16.1 = 0 then some (0, q16.2) else ltc (wr q16.2 (10 + 4) (ix x2) (q16.2 2 4)) fun σ18 => (fT_takesSign 44 σ18).bind fun q19 => if q19.1 = 0 then some (0, q19.2) else (fT_takesNumber 0 9 q19.2).bind fun q21 => if q21.1 = 0 then some (0, q21.2) else (fT_takesSign 59 q21.2).bind fun q23 => if q23.1 = 0 then some (0, q23.2) else ltc (wr q23.2 (10 + 5) (ix x2) (q23.2 2 4)) fun σ25 => ltc (wr σ25 (10 + 1) (ix x2) q1) fun σ26 => ltc (wr σ26 10 5 (x2 + 1)) fun σ27 => some (1, σ27) else none) else (fT_refuses 3 σ).bind fun q28 => if isb q28.1 = true then some (q28.1, q28.2) else none
set_option maxRecDepth 100000 in
set_option maxHeartbeats 4000000 in
theorem eT_tellsPerson {G : Gx} (x2 : Int32) (σ : Sg) (q : (Int32 × Sg)) (h : fT_tellsPerson x2 σ = some q) : Evm G yX8_tellsPerson MX8_tellsPerson [.ref (gb G + 2), .ref (gb G + 10), .int x2] σ (some (.int q.1)) q.2 := by
  refine Ev.of (by decide +kernel) rfl rfl (Nat.le_of_ble_eq_true rfl) ?_
  show Vm G MX8_tellsPerson (some (.int q.1)) q.2 0 [(0, .ref (gb G + 2)), (1, .ref (gb G + 10)), (2, .int x2)] [] σ
  unfold fT_tellsPerson at h
  refine v_aload_n dX8_tellsPerson_0 0 rfl rfl ?_
  obtain ⟨q1, hq1, h⟩ := bind_some h
  refine v_callV (As := []) (S := []) dX8_tellsPerson_1 tw378 tw380 tw7 ykX8_sort lc_2 shc_2 (by decide) ok_7 rfl (by decide) rfl rfl (Nat.le_of_ble_eq_true rfl) (by decide) (eT_sort _ _ hq1) ?_
  refine v_istore_n dX8_tellsPerson_4 [0, 1, 2, 3] rfl (by decide) rfl (v_iload_n dX8_tellsPerson_5 0 rfl rfl (v_if_ne (tgt := 15) dX8_tellsPerson_6 (by decide) (fun c2 => ?_) (fun c2 => ?_)))
  · replace h := ite_f c2 h
    refine v_iload_n dX8_tellsPerson_15 3 rfl rfl (v_bipush (v := 6) dX8_tellsPerson_16 rfl (v_icmp_lt (tgt := 27) dX8_tellsPerson_18 (by decide) (fun c3 => ?_) (fun c3 => ?_)))
    · replace h := ite_t c3 h
      refine v_aload_n dX8_tellsPerson_27 1 rfl rfl (v_dup dX8_tellsPerson_28 rfl (vm_getI dX8_tellsPerson_29 fsX8_13 lc_2 shc_2 (by decide) rf_2_2 (v_iconst dX8_tellsPerson_32 rfl (v_iadd dX8_tellsPerson_33 ?_))))
      obtain ⟨σ4, eσ4, h⟩ := ltc_some h
      refine vn_put dX8_tellsPerson_34 fsX8_13 lc_2 shc_2 (by decide) rf_2_2 eσ4 (v_aload_n dX8_tellsPerson_37 1 rfl rfl (v_iconst dX8_tellsPerson_38 rfl (v_aload_n dX8_tellsPerson_39 2 rfl rfl (vm_getI dX8_tellsPerson_40 fsX8_53 ((isH_s isH_10).2.1) ((isH_s isH_10).1.1) (by decide) ((isH_r isH_10).2.2.1) ?_))))
      obtain ⟨q5, hq5, h⟩ := bind_some h
      refine v_callV (As := [.int 0, .int (σ4 10 6)]) (S := []) dX8_tellsPerson_43 tw363 tw365 tw5 ykX8_takesNumber lc_2 shc_2 (by decide) ok_7 rfl (by decide) rfl rfl (Nat.le_of_ble_eq_true rfl) (by decide) (eT_takesNumber 0 (σ4 10 6) _ _ hq5) ?_
      refine v_if_ne (tgt := 51) dX8_tellsPerson_46 (by decide) (fun c6 => ?_) (fun c6 => ?_)
      · replace h := ite_f c6 h
        refine v_aload_n dX8_tellsPerson_51 2 rfl rfl (vm_getR (t := (10 + 2)) dX8_tellsPerson_52 fsX8_56 ((isH_s isH_10).2.1) ((isH_s isH_10).1.1) (by decide) ((isH_r isH_10).1.2.1) (v_iload_n dX8_tellsPerson_55 3 rfl rfl (v_aload_n dX8_tellsPerson_56 1 rfl rfl (vm_getI dX8_tellsPerson_57 fsX8_38 lc_2 shc_2 (by decide) rf_2_4 ?_))))
        obtain ⟨g7, h⟩ := guard_some h
        obtain ⟨σ8, eσ8, h⟩ := ltc_some h
        refine vn_iast dX8_tellsPerson_60 ((isH_s isH_10).2.2.2.1) ((isH_s isH_10).1.2.2.1) g7 rfl eσ8 (v_aload_n dX8_tellsPerson_61 1 rfl rfl (v_bipush (v := 44) dX8_tellsPerson_62 rfl ?_))
        obtain ⟨q9, hq9, h⟩ := bind_some h
        refine v_callV (As := [.int 44]) (S := []) dX8_tellsPerson_64 tw355 tw357 tw3 ykX8_takesSign lc_2 shc_2 (by decide) ok_7 rfl (by decide) rfl rfl (Nat.le_of_ble_eq_true rfl) (by decide) (eT_takesSign 44 _ _ hq9) ?_
        refine v_if_eq (tgt := 82) dX8_tellsPerson_67 (by decide) (fun c10 => ?_) (fun c10 => ?_)
        · replace h := ite_t c10 h
          refine v_iconst dX8_tellsPerson_82 rfl ?_
          replace h := Option.some.inj h
          subst h
          exact v_zret dX8_tellsPerson_83 rfl (by decide) rfl rfl rfl rfl
        · replace h := ite_f c10 h
          refine v_aload_n dX8_tellsPerson_70 1 rfl rfl (v_iconst dX8_tellsPerson_71 rfl (v_aload_n dX8_tellsPerson_72 2 rfl rfl (vm_getI dX8_tellsPerson_73 fsX8_53 ((isH_s isH_10).2.1) ((isH_s isH_10).1.1) (by decide) ((isH_r isH_10).2.2.1) ?_)))
          obtain ⟨q11, hq11, h⟩ := bind_some h
          refine v_callV (As := [.int 0, .int (q9.2 10 6)]) (S := []) dX8_tellsPerson_76 tw363 tw365 tw5 ykX8_takesNumber lc_2 shc_2 (by decide) ok_7 rfl (by decide) rfl rfl (Nat.le_of_ble_eq_true rfl) (by decide) (eT_takesNumber 0 (q9.2 10 6) _ _ hq11) ?_
          refine v_if_ne (tgt := 84) dX8_tellsPerson_79 (by decide) (fun c12 => ?_) (fun c12 => ?_)
          · replace h := ite_f c12 h
            refine v_aload_n dX8_tellsPerson_84 2 rfl rfl (vm_getR (t := (10 + 3)) dX8_tellsPerson_85 fsX8_59 ((isH_s isH_10).2.1) ((isH_s isH_10).1.1) (by decide) ((isH_r isH_10).1.2.2.1) (v_iload_n dX8_tellsPerson_88 3 rfl rfl (v_aload_n dX8_tellsPerson_89 1 rfl rfl (vm_getI dX8_tellsPerson_90 fsX8_38 lc_2 shc_2 (by decide) rf_2_4 ?_))))
            obtain ⟨σ13, eσ13, h⟩ := ltc_some h
            refine vn_iast dX8_tellsPerson_93 ((isH_s isH_10).2.2.2.2.1) ((isH_s isH_10).1.2.2.2.1) g7 rfl eσ13 (v_aload_n dX8_tellsPerson_94 1 rfl rfl (v_bipush (v := 44) dX8_tellsPerson_95 rfl ?_))
            obtain ⟨q14, hq14, h⟩ := bind_some h
            refine v_callV (As := [.int 44]) (S := []) dX8_tellsPerson_97 tw355 tw357 tw3 ykX8_takesSign lc_2 shc_2 (by decide) ok_7 rfl (by decide) rfl rfl (Nat.le_of_ble_eq_true rfl) (by decide) (eT_takesSign 44 _ _ hq14) ?_
            refine v_if_eq (tgt := 113) dX8_tellsPerson_100 (by decide) (fun c15 => ?_) (fun c15 => ?_)
            · replace h := ite_t c15 h
              refine v_iconst dX8_tellsPerson_113 rfl ?_
              replace h := Option.some.inj h
              subst h
              exact v_zret dX8_tellsPerson_114 rfl (by decide) rfl rfl rfl rfl
            · replace h := ite_f c15 h
              refine v_aload_n dX8_tellsPerson_103 1 rfl rfl (v_iconst dX8_tellsPerson_104 rfl (v_bipush (v := 9) dX8_tellsPerson_105 rfl ?_))
              obtain ⟨q16, hq16, h⟩ := bind_some h
              refine v_callV (As := [.int 0, .int 9]) (S := []) dX8_tellsPerson_107 tw363 tw365 tw5 ykX8_takesNumber lc_2 shc_2 (by decide) ok_7 rfl (by decide) rfl rfl (Nat.le_of_ble_eq_true rfl) (by decide) (eT_takesNumber 0 9 _ _ hq16) ?_
              refine v_if_ne (tgt := 115) dX8_tellsPerson_110 (by decide) (fun c17 => ?_) (fun c17 => ?_)
              · replace h := ite_f c17 h
                refine v_aload_n dX8_tellsPerson_115 2 rfl rfl (vm_getR (t := (10 + 4)) dX8_tellsPerson_116 fsX8_62 ((isH_s isH_10).2.1) ((isH_s isH_10).1.1) (by decide) ((isH_r isH_10).1.2.2.2.1) (v_iload_n dX8_tellsPerson_119 3 rfl rfl (v_aload_n dX8_tellsPerson_120 1 rfl rfl (vm_getI dX8_tellsPerson_121 fsX8_38 lc_2 shc_2 (by decide) rf_2_4 ?_))))
                obtain ⟨σ18, eσ18, h⟩ := ltc_some h
                refine vn_iast dX8_tellsPerson_124 ((isH_s isH_10).2.2.2.2.2.1) ((isH_s isH_10).1.2.2.2.2.1) g7 rfl eσ18 (v_aload_n dX8_tellsPerson_125 1 rfl rfl (v_bipush (v := 44) dX8_tellsPerson_126 rfl ?_))
                obtain ⟨q19, hq19, h⟩ := bind_some h
                refine v_callV (As := [.int 44]) (S := []) dX8_tellsPerson_128 tw355 tw357 tw3 ykX8_takesSign lc_2 shc_2 (by decide) ok_7 rfl (by decide) rfl rfl (Nat.le_of_ble_eq_true rfl) (by decide) (eT_takesSign 44 _ _ hq19) ?_
                refine v_if_eq (tgt := 153) dX8_tellsPerson_131 (by decide) (fun c20 => ?_) (fun c20 => ?_)
                · replace h := ite_t c20 h
                  refine v_iconst dX8_tellsPerson_153 rfl ?_
                  replace h := Option.some.inj h
                  subst h
                  exact v_zret dX8_tellsPerson_154 rfl (by decide) rfl rfl rfl rfl
                · replace h := ite_f c20 h
                  refine v_aload_n dX8_tellsPerson_134 1 rfl rfl (v_iconst dX8_tellsPerson_135 rfl (v_bipush (v := 9) dX8_tellsPerson_136 rfl ?_))
                  obtain ⟨q21, hq21, h⟩ := bind_some h
                  refine v_callV (As := [.int 0, .int 9]) (S := []) dX8_tellsPerson_138 tw363 tw365 tw5 ykX8_takesNumber lc_2 shc_2 (by decide) ok_7 rfl (by decide) rfl rfl (Nat.le_of_ble_eq_true rfl) (by decide) (eT_takesNumber 0 9 _ _ hq21) ?_
                  refine v_if_eq (tgt := 153) dX8_tellsPerson_141 (by decide) (fun c22 => ?_) (fun c22 => ?_)
                  · replace h := ite_t c22 h
                    refine v_iconst dX8_tellsPerson_153 rfl ?_
                    replace h := Option.some.inj h
                    subst h
                    exact v_zret dX8_tellsPerson_154 rfl (by decide) rfl rfl rfl rfl
                  · replace h := ite_f c22 h
                    refine v_aload_n dX8_tellsPerson_144 1 rfl rfl (v_bipush (v := 59) dX8_tellsPerson_145 rfl ?_)
                    obtain ⟨q23, hq23, h⟩ := bind_some h
                    refine v_callV (As := [.int 59]) (S := []) dX8_tellsPerson_147 tw355 tw357 tw3 ykX8_takesSign lc_2 shc_2 (by decide) ok_7 rfl (by decide) rfl rfl (Nat.le_of_ble_eq_true rfl) (by decide) (eT_takesSign 59 _ _ hq23) ?_
                    refine v_if_ne (tgt := 155) dX8_tellsPerson_150 (by decide) (fun c24 => ?_) (fun c24 => ?_)
                    · replace h := ite_f c24 h
                      refine v_aload_n dX8_tellsPerson_155 2 rfl rfl (vm_getR (t := (10 + 5)) dX8_tellsPerson_156 fsX8_65 ((isH_s isH_10).2.1) ((isH_s isH_10).1.1) (by decide) ((isH_r isH_10).1.2.2.2.2) (v_iload_n dX8_tellsPerson_159 3 rfl rfl (v_aload_n dX8_tellsPerson_160 1 rfl rfl (vm_getI dX8_tellsPerson_161 fsX8_38 lc_2 shc_2 (by decide) rf_2_4 ?_))))
                      obtain ⟨σ25, eσ25, h⟩ := ltc_some h
                      refine vn_iast dX8_tellsPerson_164 ((isH_s isH_10).2.2.2.2.2.2) ((isH_s isH_10).1.2.2.2.2.2) g7 rfl eσ25 (v_aload_n dX8_tellsPerson_165 2 rfl rfl (vm_getR (t := (10 + 1)) dX8_tellsPerson_166 fsX8_68 ((isH_s isH_10).2.1) ((isH_s isH_10).1.1) (by decide) ((isH_r isH_10).1.1) (v_iload_n dX8_tellsPerson_169 3 rfl rfl (v_iload_n dX8_tellsPerson_170 0 rfl rfl ?_))))
                      obtain ⟨σ26, eσ26, h⟩ := ltc_some h
                      refine vn_iast dX8_tellsPerson_171 ((isH_s isH_10).2.2.1) ((isH_s isH_10).1.2.1) g7 rfl eσ26 (v_aload_n dX8_tellsPerson_172 2 rfl rfl (v_iload_n dX8_tellsPerson_173 3 rfl rfl (v_iconst dX8_tellsPerson_174 rfl (v_iadd dX8_tellsPerson_175 ?_))))
                      obtain ⟨σ27, eσ27, h⟩ := ltc_some h
                      refine vn_put dX8_tellsPerson_176 fsX8_71 ((isH_s isH_10).2.1) ((isH_s isH_10).1.1) (by decide) ((isH_r isH_10).2.1) eσ27 (v_iconst dX8_tellsPerson_179 rfl ?_)
                      replace h := Option.some.inj h
                      subst h
                      exact v_zret dX8_tellsPerson_180 rfl (by decide) rfl rfl rfl rfl
                    · replace h := ite_t c24 h
                      refine v_iconst dX8_tellsPerson_153 rfl ?_
                      replace h := Option.some.inj h
                      subst h
                      exact v_zret dX8_tellsPerson_154 rfl (by decide) rfl rfl rfl rfl
              · replace h := ite_t c17 h
                refine v_iconst dX8_tellsPerson_113 rfl ?_
                replace h := Option.some.inj h
                subst h
                exact v_zret dX8_tellsPerson_114 rfl (by decide) rfl rfl rfl rfl
          · replace h := ite_t c12 h
            refine v_iconst dX8_tellsPerson_82 rfl ?_
            replace h := Option.some.inj h
            subst h
            exact v_zret dX8_tellsPerson_83 rfl (by decide) rfl rfl rfl rfl
      · replace h := ite_t c6 h
        refine v_iconst dX8_tellsPerson_49 rfl ?_
        replace h := Option.some.inj h
        subst h
        exact v_zret dX8_tellsPerson_50 rfl (by decide) rfl rfl rfl rfl
    · replace h := ite_f c3 h
      refine v_aload_n dX8_tellsPerson_21 1 rfl rfl (v_iconst dX8_tellsPerson_22 rfl ?_)
      obtain ⟨q28, hq28, h⟩ := bind_some h
      refine v_callV (As := [.int 3]) (S := []) dX8_tellsPerson_23 tw359 tw361 tw4 ykX8_refuses lc_2 shc_2 (by decide) ok_7 rfl (by decide) rfl rfl (Nat.le_of_ble_eq_true rfl) (by decide) (eT_refuses 3 _ _ hq28) ?_
      obtain ⟨g29, h⟩ := guard_some h
      replace h := Option.some.inj h
      subst h
      exact v_zret dX8_tellsPerson_26 rfl (isb_or g29) rfl rfl rfl rfl
  · replace h := ite_t c2 h
    refine v_aload_n dX8_tellsPerson_9 1 rfl rfl (v_iconst dX8_tellsPerson_10 rfl ?_)
    obtain ⟨q30, hq30, h⟩ := bind_some h
    refine v_callV (As := [.int 1]) (S := []) dX8_tellsPerson_11 tw359 tw361 tw4 ykX8_refuses lc_2 shc_2 (by decide) ok_7 rfl (by decide) rfl rfl (Nat.le_of_ble_eq_true rfl) (by decide) (eT_refuses 1 _ _ hq30) ?_
    obtain ⟨g31, h⟩ := guard_some h
    replace h := Option.some.inj h
    subst h
    exact v_zret dX8_tellsPerson_14 rfl (isb_or g31) rfl rfl rfl rfl
def fT_tellsHouse_b17 (K17 : Int32 → Sg → Option (Int32 × Sg)) (x2 : Int32) (σ : Sg) : Option (Int32 × Sg) := if (6 : Int32) < x2 then some (1, σ) else if (σ 2 1) ≤ (σ 2 2) then some (1, σ) else (fT_tellsPerson x2 σ).bind fun q6 => if q6.1 = 0 then some (0, q6.2) else K17 (x2 + 1) q6.2
def fT_tellsHouse_L17 (n : Nat) : Int32 → Sg → Option (Int32 × Sg) := Nat.rec (fun _ _ => none) (fun _ K => fT_tellsHouse_b17 K) n
set_option maxRecDepth 100000 in
set_option maxHeartbeats 4000000 in
theorem sT_tellsHouse_b17 {G : Gx} {q : (Int32 × Sg)} (K17 : Int32 → Sg → Option (Int32 × Sg)) (hK17 : ∀ (x2 : Int32) (σ : Sg), K17 x2 σ = some q → Vm G MX8_tellsHouse (some (.int q.1)) q.2 17 [(0, .ref (gb G + 2)), (1, .ref (gb G + 10)), (2, .int x2)] [] σ) (x2 : Int32) (σ : Sg) (h : fT_tellsHouse_b17 K17 x2 σ = some q) : Vm G MX8_tellsHouse (some (.int q.1)) q.2 17 [(0, .ref (gb G + 2)), (1, .ref (gb G + 10)), (2, .int x2)] [] σ := by
  unfold fT_tellsHouse_b17 at h
  refine v_iload_n dX8_tellsHouse_17 2 rfl rfl (v_bipush (v := 6) dX8_tellsHouse_18 rfl (v_icmp_gt (tgt := 51) dX8_tellsHouse_20 (by decide) (fun c4 => ?_) (fun c4 => ?_)))
  · replace h := ite_t c4 h
    refine v_iconst dX8_tellsHouse_51 rfl ?_
    replace h := Option.some.inj h
    subst h
    exact v_zret dX8_tellsHouse_52 rfl (by decide) rfl rfl rfl rfl
  · replace h := ite_f c4 h
    refine v_aload_n dX8_tellsHouse_23 0 rfl rfl (vm_getI dX8_tellsHouse_24 fsX8_13 lc_2 shc_2 (by decide) rf_2_2 (v_aload_n dX8_tellsHouse_27 0 rfl rfl (vm_getI dX8_tellsHouse_28 fsX8_23 lc_2 shc_2 (by decide) rf_2_1 (v_icmp_ge (tgt := 51) dX8_tellsHouse_31 (by decide) (fun c5 => ?_) (fun c5 => ?_)))))
    · replace h := ite_t c5 h
      refine v_iconst dX8_tellsHouse_51 rfl ?_
      replace h := Option.some.inj h
      subst h
      exact v_zret dX8_tellsHouse_52 rfl (by decide) rfl rfl rfl rfl
    · replace h := ite_f c5 h
      refine v_aload_n dX8_tellsHouse_34 0 rfl rfl (v_aload_n dX8_tellsHouse_35 1 rfl rfl (v_iload_n dX8_tellsHouse_36 2 rfl rfl ?_))
      obtain ⟨q6, hq6, h⟩ := bind_some h
      refine v_callV (As := [.ref (gb G + 10), .int x2]) (S := []) dX8_tellsHouse_37 tw374 tw376 tw6 ykX8_tellsPerson lc_2 shc_2 (by decide) ok_7 rfl (by decide) rfl rfl (Nat.le_of_ble_eq_true rfl) (by decide) (eT_tellsPerson x2 _ _ hq6) ?_
      refine v_if_ne (tgt := 45) dX8_tellsHouse_40 (by decide) (fun c7 => ?_) (fun c7 => ?_)
      · replace h := ite_f c7 h
        exact v_iinc (v := x2 + 1) dX8_tellsHouse_45 2 rfl rfl [0, 1, 2] rfl (by decide) (v_goto (tgt := 17) dX8_tellsHouse_48 (by decide) (v_sub [1, 2, 0] rfl (hK17 (x2 + 1) _ h)))
      · replace h := ite_t c7 h
        refine v_iconst dX8_tellsHouse_43 rfl ?_
        replace h := Option.some.inj h
        subst h
        exact v_zret dX8_tellsHouse_44 rfl (by decide) rfl rfl rfl rfl
theorem sT_tellsHouse_L17 {G : Gx} {q : (Int32 × Sg)} (n : Nat) : ∀ (x2 : Int32) (σ : Sg) (h : fT_tellsHouse_L17 n x2 σ = some q), Vm G MX8_tellsHouse (some (.int q.1)) q.2 17 [(0, .ref (gb G + 2)), (1, .ref (gb G + 10)), (2, .int x2)] [] σ := by
  induction n with
  | zero => intro x2 σ h; cases h
  | succ n ih => intro x2 σ h; exact sT_tellsHouse_b17  _ ih x2 σ h
def fT_tellsHouse (σ : Sg) : Option (Int32 × Sg) := ltc (wr σ 2 2 0) fun σ1 => (fT_tellsLaw σ1).bind fun q2 => if q2.1 = 0 then some (0, q2.2) else fT_tellsHouse_L17 2000 0 q2.2
set_option maxRecDepth 100000 in
set_option maxHeartbeats 4000000 in
theorem eT_tellsHouse {G : Gx} (σ : Sg) (q : (Int32 × Sg)) (h : fT_tellsHouse σ = some q) : Evm G yX8_tellsHouse MX8_tellsHouse [.ref (gb G + 2), .ref (gb G + 10)] σ (some (.int q.1)) q.2 := by
  refine Ev.of (by decide +kernel) rfl rfl (Nat.le_of_ble_eq_true rfl) ?_
  show Vm G MX8_tellsHouse (some (.int q.1)) q.2 0 [(0, .ref (gb G + 2)), (1, .ref (gb G + 10))] [] σ
  unfold fT_tellsHouse at h
  refine v_aload_n dX8_tellsHouse_0 0 rfl rfl (v_iconst dX8_tellsHouse_1 rfl ?_)
  obtain ⟨σ1, eσ1, h⟩ := ltc_some h
  refine vn_put dX8_tellsHouse_2 fsX8_13 lc_2 shc_2 (by decide) rf_2_2 eσ1 (v_aload_n dX8_tellsHouse_5 0 rfl rfl (v_aload_n dX8_tellsHouse_6 1 rfl rfl ?_))
  obtain ⟨q2, hq2, h⟩ := bind_some h
  refine v_callV (As := [.ref (gb G + 10)]) (S := []) dX8_tellsHouse_7 tw351 tw353 tw2 ykX8_tellsLaw lc_2 shc_2 (by decide) ok_7 rfl (by decide) rfl rfl (Nat.le_of_ble_eq_true rfl) (by decide) (eT_tellsLaw _ _ hq2) ?_
  refine v_if_ne (tgt := 15) dX8_tellsHouse_10 (by decide) (fun c3 => ?_) (fun c3 => ?_)
  · replace h := ite_f c3 h
    exact v_iconst dX8_tellsHouse_15 rfl (v_istore_n dX8_tellsHouse_16 [0, 1, 2] rfl (by decide) rfl (v_sub [1, 2, 0] rfl (sT_tellsHouse_L17 2000 0 _ h)))
  · replace h := ite_t c3 h
    refine v_iconst dX8_tellsHouse_13 rfl ?_
    replace h := Option.some.inj h
    subst h
    exact v_zret dX8_tellsHouse_14 rfl (by decide) rfl rfl rfl rfl
def fC_leave (x1 : Int32) (σ : Sg) : Option Sg := if (16 : Int32) ≤ (σ 170 1) then some σ else if inb (σ 170 1) 16 = true then ltc (wr σ 171 (ix (σ 170 1)) x1) fun σ3 => ltc (wr σ3 170 1 ((σ3 170 1) + 1)) fun σ4 => some σ4 else none
set_option maxRecDepth 100000 in
set_option maxHeartbeats 4000000 in
theorem eC_leave {G : Gx} (x1 : Int32) (σ : Sg) (q : Sg) (h : fC_leave x1 σ = some q) : Evm G yX9_leave MX9_leave [.ref (gb G + 170), .int x1] σ none q := by
  refine Ev.of (by decide +kernel) rfl rfl (Nat.le_of_ble_eq_true rfl) ?_
  show Vm G MX9_leave none q 0 [(0, .ref (gb G + 170)), (1, .int x1)] [] σ
  unfold fC_leave at h
  refine v_aload_n dX9_leave_0 0 rfl rfl (vm_getI dX9_leave_1 fsX9_13 lc_170 shc_170 (by decide) rf_170_1 (v_bipush (v := 16) dX9_leave_4 rfl (v_icmp_ge (tgt := 29) dX9_leave_6 (by decide) (fun c1 => ?_) (fun c1 => ?_))))
  · replace h := ite_t c1 h
    replace h := Option.some.inj h
    subst h
    exact v_vret dX9_leave_29 rfl rfl rfl rfl rfl
  · replace h := ite_f c1 h
    refine v_aload_n dX9_leave_9 0 rfl rfl (vm_getR (t := 171) dX9_leave_10 fsX9_9 lc_170 shc_170 (by decide) rf_170_0 (v_aload_n dX9_leave_13 0 rfl rfl (vm_getI dX9_leave_14 fsX9_13 lc_170 shc_170 (by decide) rf_170_1 (v_iload_n dX9_leave_17 1 rfl rfl ?_))))
    obtain ⟨g2, h⟩ := guard_some h
    obtain ⟨σ3, eσ3, h⟩ := ltc_some h
    refine vn_iast dX9_leave_18 lc_171 sha_171 g2 rfl eσ3 (v_aload_n dX9_leave_19 0 rfl rfl (v_dup dX9_leave_20 rfl (vm_getI dX9_leave_21 fsX9_13 lc_170 shc_170 (by decide) rf_170_1 (v_iconst dX9_leave_24 rfl (v_iadd dX9_leave_25 ?_)))))
    obtain ⟨σ4, eσ4, h⟩ := ltc_some h
    refine vn_put dX9_leave_26 fsX9_13 lc_170 shc_170 (by decide) rf_170_1 eσ4 ?_
    replace h := Option.some.inj h
    subst h
    exact v_vret dX9_leave_29 rfl rfl rfl rfl rfl
def fX_isWithin (x0 : Int32) (x1 : Int32) (x2 : Int32) (σ : Sg) : Option Int32 := if x0 < x1 then some 0 else if x2 < x0 then some 0 else some 1
set_option maxRecDepth 100000 in
set_option maxHeartbeats 4000000 in
theorem eX_isWithin {G : Gx} (x0 : Int32) (x1 : Int32) (x2 : Int32) (σ : Sg) (q : Int32) (h : fX_isWithin x0 x1 x2 σ = some q) : Evm G yX11_isWithin MX11_isWithin [.int x0, .int x1, .int x2] σ (some (.int q)) σ := by
  refine Ev.of (by decide +kernel) rfl rfl (Nat.le_of_ble_eq_true rfl) ?_
  show Vm G MX11_isWithin (some (.int q)) σ 0 [(0, .int x0), (1, .int x1), (2, .int x2)] [] σ
  unfold fX_isWithin at h
  refine v_iload_n dX11_isWithin_0 0 rfl rfl (v_iload_n dX11_isWithin_1 1 rfl rfl (v_icmp_lt (tgt := 14) dX11_isWithin_2 (by decide) (fun c1 => ?_) (fun c1 => ?_)))
  · replace h := ite_t c1 h
    refine v_iconst dX11_isWithin_14 rfl ?_
    replace h := Option.some.inj h
    subst h
    exact v_zret dX11_isWithin_15 rfl (by decide) rfl rfl rfl rfl
  · replace h := ite_f c1 h
    refine v_iload_n dX11_isWithin_5 0 rfl rfl (v_iload_n dX11_isWithin_6 2 rfl rfl (v_icmp_gt (tgt := 14) dX11_isWithin_7 (by decide) (fun c2 => ?_) (fun c2 => ?_)))
    · replace h := ite_t c2 h
      refine v_iconst dX11_isWithin_14 rfl ?_
      replace h := Option.some.inj h
      subst h
      exact v_zret dX11_isWithin_15 rfl (by decide) rfl rfl rfl rfl
    · replace h := ite_f c2 h
      refine v_iconst dX11_isWithin_10 rfl (v_goto (tgt := 15) dX11_isWithin_11 (by decide) ?_)
      replace h := Option.some.inj h
      subst h
      exact v_zret dX11_isWithin_15 rfl (by decide) rfl rfl rfl rfl
def fX_isRow (x0 : Int32) (σ : Sg) : Option Int32 := (fX_isWithin x0 0 7 σ).bind fun q1 => if isb q1 = true then some q1 else none
set_option maxRecDepth 100000 in
set_option maxHeartbeats 4000000 in
theorem eX_isRow {G : Gx} (x0 : Int32) (σ : Sg) (q : Int32) (h : fX_isRow x0 σ = some q) : Evm G yX11_isRow MX11_isRow [.int x0] σ (some (.int q)) σ := by
  refine Ev.of (by decide +kernel) rfl rfl (Nat.le_of_ble_eq_true rfl) ?_
  show Vm G MX11_isRow (some (.int q)) σ 0 [(0, .int x0)] [] σ
  unfold fX_isRow at h
  refine v_iload_n dX11_isRow_0 0 rfl rfl (v_iconst dX11_isRow_1 rfl (v_bipush (v := 7) dX11_isRow_2 rfl ?_))
  obtain ⟨q1, hq1, h⟩ := bind_some h
  refine v_callS (As := [.int x0, .int 0, .int 7]) (S := []) dX11_isRow_4 tw294 tw295 ykX11_isWithin rfl (by decide) rfl rfl (Nat.le_of_ble_eq_true rfl) (by decide) (eX_isWithin x0 0 7 _ _ hq1) ?_
  obtain ⟨g2, h⟩ := guard_some h
  replace h := Option.some.inj h
  subst h
  exact v_zret dX11_isRow_7 rfl (isb_or g2) rfl rfl rfl rfl
def fX_unhindered (x1 : Int32) (σ : Sg) : Option (Int32 × Sg) := ltc (wr σ 0 11 0) fun σ1 => some (x1, σ1)
set_option maxRecDepth 100000 in
set_option maxHeartbeats 4000000 in
theorem eX_unhindered {G : Gx} (x1 : Int32) (σ : Sg) (q : (Int32 × Sg)) (h : fX_unhindered x1 σ = some q) : Evm G yX11_unhindered MX11_unhindered [.ref (gb G + 0), .int x1] σ (some (.int q.1)) q.2 := by
  refine Ev.of (by decide +kernel) rfl rfl (Nat.le_of_ble_eq_true rfl) ?_
  show Vm G MX11_unhindered (some (.int q.1)) q.2 0 [(0, .ref (gb G + 0)), (1, .int x1)] [] σ
  unfold fX_unhindered at h
  refine v_aload_n dX11_unhindered_0 0 rfl rfl (v_iconst dX11_unhindered_1 rfl ?_)
  obtain ⟨σ1, eσ1, h⟩ := ltc_some h
  refine vn_put dX11_unhindered_2 fsX11_285 lc_0 shc_0 (by decide) rf_0_11 eσ1 (v_iload_n dX11_unhindered_5 1 rfl rfl ?_)
  replace h := Option.some.inj h
  subst h
  exact v_iret dX11_unhindered_6 rfl rfl rfl rfl rfl
def fX_found (x1 : Int32) (σ : Sg) : Option (Int32 × Sg) := ltc (wr σ 0 11 x1) fun σ1 => some ((-1000010) - x1, σ1)
set_option maxRecDepth 100000 in
set_option maxHeartbeats 4000000 in
theorem eX_found {G : Gx} (x1 : Int32) (σ : Sg) (q : (Int32 × Sg)) (h : fX_found x1 σ = some q) : Evm G yX11_found MX11_found [.ref (gb G + 0), .int x1] σ (some (.int q.1)) q.2 := by
  refine Ev.of (by decide +kernel) rfl rfl (Nat.le_of_ble_eq_true rfl) ?_
  show Vm G MX11_found (some (.int q.1)) q.2 0 [(0, .ref (gb G + 0)), (1, .int x1)] [] σ
  unfold fX_found at h
  refine v_aload_n dX11_found_0 0 rfl rfl (v_iload_n dX11_found_1 1 rfl rfl ?_)
  obtain ⟨σ1, eσ1, h⟩ := ltc_some h
  refine vn_put dX11_found_2 fsX11_285 lc_0 shc_0 (by decide) rf_0_11 eσ1 (v_ldcw dX11_found_5 tw302 (v_iload_n dX11_found_8 1 rfl rfl (v_isub dX11_found_9 ?_)))
  replace h := Option.some.inj h
  subst h
  exact v_iret dX11_found_10 rfl rfl rfl rfl rfl
def fX_row (x1 : Int32) (x2 : Int32) (x3 : Int32) (σ : Sg) : Option (Int32 × Sg) := (fX_isRow x1 σ).bind fun q1 => if q1 = 0 then some ((-1000001), σ) else (fX_isWithin x2 0 2 σ).bind fun q3 => if q3 = 0 then some ((-1000001), σ) else if x3 ≤ 40 then (if (0 : Int32) ≤ x3 then (if inb x1 8 = true then (fR_become (172 + 2 * ix x1) x2 x3 σ).bind fun q8 => (fX_unhindered x3 q8).bind fun q9 => some (q9.1, q9.2) else none) else (fX_found 4 σ).bind fun q10 => some (q10.1, q10.2)) else some ((-1000001), σ)
set_option maxRecDepth 100000 in
set_option maxHeartbeats 4000000 in
theorem eX_row {G : Gx} (x1 : Int32) (x2 : Int32) (x3 : Int32) (σ : Sg) (q : (Int32 × Sg)) (h : fX_row x1 x2 x3 σ = some q) : Evm G yX11_row MX11_row [.ref (gb G + 0), .int x1, .int x2, .int x3] σ (some (.int q.1)) q.2 := by
  refine Ev.of (by decide +kernel) rfl rfl (Nat.le_of_ble_eq_true rfl) ?_
  show Vm G MX11_row (some (.int q.1)) q.2 0 [(0, .ref (gb G + 0)), (1, .int x1), (2, .int x2), (3, .int x3)] [] σ
  unfold fX_row at h
  refine v_iload_n dX11_row_0 1 rfl rfl ?_
  obtain ⟨q1, hq1, h⟩ := bind_some h
  refine v_callS (As := [.int x1]) (S := []) dX11_row_1 tw291 tw292 ykX11_isRow rfl (by decide) rfl rfl (Nat.le_of_ble_eq_true rfl) (by decide) (eX_isRow x1 _ _ hq1) ?_
  refine v_if_eq (tgt := 22) dX11_row_4 (by decide) (fun c2 => ?_) (fun c2 => ?_)
  · replace h := ite_t c2 h
    refine v_ldc dX11_row_22 tw297 ?_
    replace h := Option.some.inj h
    subst h
    exact v_iret dX11_row_24 rfl rfl rfl rfl rfl
  · replace h := ite_f c2 h
    refine v_iload_n dX11_row_7 2 rfl rfl (v_iconst dX11_row_8 rfl (v_iconst dX11_row_9 rfl ?_))
    obtain ⟨q3, hq3, h⟩ := bind_some h
    refine v_callS (As := [.int x2, .int 0, .int 2]) (S := []) dX11_row_10 tw294 tw295 ykX11_isWithin rfl (by decide) rfl rfl (Nat.le_of_ble_eq_true rfl) (by decide) (eX_isWithin x2 0 2 _ _ hq3) ?_
    refine v_if_eq (tgt := 22) dX11_row_13 (by decide) (fun c4 => ?_) (fun c4 => ?_)
    · replace h := ite_t c4 h
      refine v_ldc dX11_row_22 tw297 ?_
      replace h := Option.some.inj h
      subst h
      exact v_iret dX11_row_24 rfl rfl rfl rfl rfl
    · replace h := ite_f c4 h
      refine v_iload_n dX11_row_16 3 rfl rfl (v_bipush (v := 40) dX11_row_17 rfl (v_icmp_le (tgt := 25) dX11_row_19 (by decide) (fun c5 => ?_) (fun c5 => ?_)))
      · replace h := ite_t c5 h
        refine v_iload_n dX11_row_25 3 rfl rfl (v_if_ge (tgt := 35) dX11_row_26 (by decide) (fun c6 => ?_) (fun c6 => ?_))
        · replace h := ite_t c6 h
          refine v_aload_n dX11_row_35 0 rfl rfl (vm_getR (t := 1) dX11_row_36 fsX11_11 lc_0 shc_0 (by decide) rf_0_0 (v_iload_n dX11_row_39 1 rfl rfl ?_))
          obtain ⟨g7, h⟩ := guard_some h
          refine vm_aald (r := (172 + 2 * ix x1)) (by decide) dX11_row_40 lc_1 sha_1 g7 rfl (v_iload_n dX11_row_41 2 rfl rfl (v_iload_n dX11_row_42 3 rfl rfl ?_))
          obtain ⟨q8, hq8, h⟩ := bind_some h
          refine v_callV (As := [.int x2, .int x3]) (S := []) dX11_row_43 tw303 tw304 tw305 ykX7_become ((isR_s (isR_of g7)).2.1) ((isR_s (isR_of g7)).1.1) (by decide) ok_6 rfl (by decide) rfl rfl (Nat.le_of_ble_eq_true rfl) (by decide) (eR_become (172 + 2 * ix x1) ((isR_of g7)) x2 x3 _ _ hq8) ?_
          refine v_aload_n dX11_row_46 0 rfl rfl (v_iload_n dX11_row_47 3 rfl rfl ?_)
          obtain ⟨q9, hq9, h⟩ := bind_some h
          refine v_callV (As := [.int x3]) (S := []) dX11_row_48 tw307 tw309 tw1 ykX11_unhindered lc_0 shc_0 (by decide) ok_10 rfl (by decide) rfl rfl (Nat.le_of_ble_eq_true rfl) (by decide) (eX_unhindered x3 _ _ hq9) ?_
          replace h := Option.some.inj h
          subst h
          exact v_iret dX11_row_51 rfl rfl rfl rfl rfl
        · replace h := ite_f c6 h
          refine v_aload_n dX11_row_29 0 rfl rfl (v_iconst dX11_row_30 rfl ?_)
          obtain ⟨q10, hq10, h⟩ := bind_some h
          refine v_callV (As := [.int 4]) (S := []) dX11_row_31 tw298 tw300 tw0 ykX11_found lc_0 shc_0 (by decide) ok_10 rfl (by decide) rfl rfl (Nat.le_of_ble_eq_true rfl) (by decide) (eX_found 4 _ _ hq10) ?_
          replace h := Option.some.inj h
          subst h
          exact v_iret dX11_row_34 rfl rfl rfl rfl rfl
      · replace h := ite_f c5 h
        refine v_ldc dX11_row_22 tw297 ?_
        replace h := Option.some.inj h
        subst h
        exact v_iret dX11_row_24 rfl rfl rfl rfl rfl
def fX_set (x1 : Int32) (x2 : Int32) (x3 : Int32) (σ : Sg) : Option (Int32 × Sg) := (fX_isRow x1 σ).bind fun q1 => if q1 = 0 then some ((-1000001), σ) else if inb x1 8 = true then (fR_isMissing (172 + 2 * ix x1) σ).bind fun q4 => if q4 = 0 then ((fR_holds (172 + 2 * ix x1) x2 1 σ).bind fun q6 => if q6 = 0 then ((fX_found 2 σ).bind fun q12 => some (q12.1, q12.2)) else (fR_cut (172 + 2 * ix x1) x3 σ).bind fun q8 => if inb x2 40 = true then ltc (wr σ ((172 + 2 * ix x1) + 1) (ix x2) q8) fun σ10 => (fX_unhindered (σ10 ((172 + 2 * ix x1) + 1) (ix x2)) σ10).bind fun q11 => some (q11.1, q11.2) else none) else (fX_found 1 σ).bind fun q13 => some (q13.1, q13.2) else none
set_option maxRecDepth 100000 in
set_option maxHeartbeats 4000000 in
theorem eX_set {G : Gx} (x1 : Int32) (x2 : Int32) (x3 : Int32) (σ : Sg) (q : (Int32 × Sg)) (h : fX_set x1 x2 x3 σ = some q) : Evm G yX11_set MX11_set [.ref (gb G + 0), .int x1, .int x2, .int x3] σ (some (.int q.1)) q.2 := by
  refine Ev.of (by decide +kernel) rfl rfl (Nat.le_of_ble_eq_true rfl) ?_
  show Vm G MX11_set (some (.int q.1)) q.2 0 [(0, .ref (gb G + 0)), (1, .int x1), (2, .int x2), (3, .int x3)] [] σ
  unfold fX_set at h
  refine v_iload_n dX11_set_0 1 rfl rfl ?_
  obtain ⟨q1, hq1, h⟩ := bind_some h
  refine v_callS (As := [.int x1]) (S := []) dX11_set_1 tw291 tw292 ykX11_isRow rfl (by decide) rfl rfl (Nat.le_of_ble_eq_true rfl) (by decide) (eX_isRow x1 _ _ hq1) ?_
  refine v_if_ne (tgt := 10) dX11_set_4 (by decide) (fun c2 => ?_) (fun c2 => ?_)
  · replace h := ite_f c2 h
    refine v_aload_n dX11_set_10 0 rfl rfl (vm_getR (t := 1) dX11_set_11 fsX11_11 lc_0 shc_0 (by decide) rf_0_0 (v_iload_n dX11_set_14 1 rfl rfl ?_))
    obtain ⟨g3, h⟩ := guard_some h
    refine vm_aald (r := (172 + 2 * ix x1)) (by decide) dX11_set_15 lc_1 sha_1 g3 rfl (v_astore dX11_set_16 [0, 1, 3, 4] rfl (by decide) (v_aload dX11_set_18 0 rfl ?_))
    obtain ⟨q4, hq4, h⟩ := bind_some h
    refine v_callV (As := []) (S := []) dX11_set_20 tw315 tw316 tw317 ykX7_isMissing ((isR_s (isR_of g3)).2.1) ((isR_s (isR_of g3)).1.1) (by decide) ok_6 rfl (by decide) rfl rfl (Nat.le_of_ble_eq_true rfl) (by decide) (eR_isMissing (172 + 2 * ix x1) ((isR_of g3)) _ _ hq4) ?_
    refine v_if_eq (tgt := 32) dX11_set_23 (by decide) (fun c5 => ?_) (fun c5 => ?_)
    · replace h := ite_t c5 h
      refine v_aload dX11_set_32 0 rfl (v_iload_n dX11_set_34 2 rfl rfl (v_iconst dX11_set_35 rfl ?_))
      obtain ⟨q6, hq6, h⟩ := bind_some h
      refine v_callV (As := [.int x2, .int 1]) (S := []) dX11_set_36 tw319 tw320 tw321 ykX7_holds ((isR_s (isR_of g3)).2.1) ((isR_s (isR_of g3)).1.1) (by decide) ok_6 rfl (by decide) rfl rfl (Nat.le_of_ble_eq_true rfl) (by decide) (eR_holds (172 + 2 * ix x1) ((isR_of g3)) x2 1 _ _ hq6) ?_
      refine v_if_ne (tgt := 48) dX11_set_39 (by decide) (fun c7 => ?_) (fun c7 => ?_)
      · replace h := ite_f c7 h
        refine v_aload dX11_set_48 0 rfl (vm_getR (t := ((172 + 2 * ix x1) + 1)) dX11_set_50 fsX11_104 ((isR_s (isR_of g3)).2.1) ((isR_s (isR_of g3)).1.1) (by decide) ((isR_s (isR_of g3)).2.2.2.1) (v_iload_n dX11_set_53 2 rfl rfl (v_aload dX11_set_54 0 rfl (v_iload_n dX11_set_56 3 rfl rfl ?_))))
        obtain ⟨q8, hq8, h⟩ := bind_some h
        refine v_callV (As := [.int x3]) (S := [.int x2, .ref (gb G + ((172 + 2 * ix x1) + 1))]) dX11_set_57 tw323 tw324 tw325 ykX7_cut ((isR_s (isR_of g3)).2.1) ((isR_s (isR_of g3)).1.1) (by decide) ok_6 rfl (by decide) rfl rfl (Nat.le_of_ble_eq_true rfl) (by decide) (eR_cut (172 + 2 * ix x1) ((isR_of g3)) x3 _ _ hq8) ?_
        obtain ⟨g9, h⟩ := guard_some h
        obtain ⟨σ10, eσ10, h⟩ := ltc_some h
        refine vn_iast dX11_set_60 ((isR_s (isR_of g3)).2.2.1) ((isR_s (isR_of g3)).1.2) g9 rfl eσ10 (v_aload_n dX11_set_61 1 rfl rfl (v_aload dX11_set_62 0 rfl (vm_getR (t := ((172 + 2 * ix x1) + 1)) dX11_set_64 fsX11_104 ((isR_s (isR_of g3)).2.1) ((isR_s (isR_of g3)).1.1) (by decide) ((isR_s (isR_of g3)).2.2.2.1) (v_iload_n dX11_set_67 2 rfl rfl (vn_iald dX11_set_68 ((isR_s (isR_of g3)).2.2.1) ((isR_s (isR_of g3)).1.2) g9 rfl ?_)))))
        obtain ⟨q11, hq11, h⟩ := bind_some h
        refine v_callV (As := [.int (σ10 ((172 + 2 * ix x1) + 1) (ix x2))]) (S := []) dX11_set_69 tw307 tw309 tw1 ykX11_unhindered lc_0 shc_0 (by decide) ok_10 rfl (by decide) rfl rfl (Nat.le_of_ble_eq_true rfl) (by decide) (eX_unhindered (σ10 ((172 + 2 * ix x1) + 1) (ix x2)) _ _ hq11) ?_
        replace h := Option.some.inj h
        subst h
        exact v_iret dX11_set_72 rfl rfl rfl rfl rfl
      · replace h := ite_t c7 h
        refine v_aload_n dX11_set_42 1 rfl rfl (v_iconst dX11_set_43 rfl ?_)
        obtain ⟨q12, hq12, h⟩ := bind_some h
        refine v_callV (As := [.int 2]) (S := []) dX11_set_44 tw298 tw300 tw0 ykX11_found lc_0 shc_0 (by decide) ok_10 rfl (by decide) rfl rfl (Nat.le_of_ble_eq_true rfl) (by decide) (eX_found 2 _ _ hq12) ?_
        replace h := Option.some.inj h
        subst h
        exact v_iret dX11_set_47 rfl rfl rfl rfl rfl
    · replace h := ite_f c5 h
      refine v_aload_n dX11_set_26 1 rfl rfl (v_iconst dX11_set_27 rfl ?_)
      obtain ⟨q13, hq13, h⟩ := bind_some h
      refine v_callV (As := [.int 1]) (S := []) dX11_set_28 tw298 tw300 tw0 ykX11_found lc_0 shc_0 (by decide) ok_10 rfl (by decide) rfl rfl (Nat.le_of_ble_eq_true rfl) (by decide) (eX_found 1 _ _ hq13) ?_
      replace h := Option.some.inj h
      subst h
      exact v_iret dX11_set_31 rfl rfl rfl rfl rfl
  · replace h := ite_t c2 h
    refine v_ldc dX11_set_7 tw297 ?_
    replace h := Option.some.inj h
    subst h
    exact v_iret dX11_set_9 rfl rfl rfl rfl rfl
def fX_copy_B49 (σ : Sg) : Option (Int32 × Sg) := (fX_found 1 σ).bind fun q20 => some (q20.1, q20.2)
set_option maxRecDepth 100000 in
set_option maxHeartbeats 4000000 in
theorem sX_copy_B49 {G : Gx} {q : (Int32 × Sg)} (σ : Sg) (h : fX_copy_B49 σ = some q) : Vm G MX11_copy (some (.int q.1)) q.2 49 [(0, .ref (gb G + 0))] [] σ := by
  unfold fX_copy_B49 at h
  refine v_aload_n dX11_copy_49 0 rfl rfl (v_iconst dX11_copy_50 rfl ?_)
  obtain ⟨q20, hq20, h⟩ := bind_some h
  refine v_callV (As := [.int 1]) (S := []) dX11_copy_51 tw298 tw300 tw0 ykX11_found lc_0 shc_0 (by decide) ok_10 rfl (by decide) rfl rfl (Nat.le_of_ble_eq_true rfl) (by decide) (eX_found 1 _ _ hq20) ?_
  replace h := Option.some.inj h
  subst h
  exact v_iret dX11_copy_54 rfl rfl rfl rfl rfl
def fX_copy_B97 (σ : Sg) : Option (Int32 × Sg) := (fX_found 2 σ).bind fun q21 => some (q21.1, q21.2)
set_option maxRecDepth 100000 in
set_option maxHeartbeats 4000000 in
theorem sX_copy_B97 {G : Gx} {q : (Int32 × Sg)} (σ : Sg) (h : fX_copy_B97 σ = some q) : Vm G MX11_copy (some (.int q.1)) q.2 97 [(0, .ref (gb G + 0))] [] σ := by
  unfold fX_copy_B97 at h
  refine v_aload_n dX11_copy_97 0 rfl rfl (v_iconst dX11_copy_98 rfl ?_)
  obtain ⟨q21, hq21, h⟩ := bind_some h
  refine v_callV (As := [.int 2]) (S := []) dX11_copy_99 tw298 tw300 tw0 ykX11_found lc_0 shc_0 (by decide) ok_10 rfl (by decide) rfl rfl (Nat.le_of_ble_eq_true rfl) (by decide) (eX_found 2 _ _ hq21) ?_
  replace h := Option.some.inj h
  subst h
  exact v_iret dX11_copy_102 rfl rfl rfl rfl rfl
def fX_copy (x1 : Int32) (x2 : Int32) (x3 : Int32) (x4 : Int32) (x5 : Int32) (σ : Sg) : Option (Int32 × Sg) := (fX_isRow x1 σ).bind fun q1 => if q1 = 0 then some ((-1000001), σ) else (fX_isRow x3 σ).bind fun q3 => if q3 = 0 then some ((-1000001), σ) else if inb x1 8 = true then if inb x3 8 = true then (fR_isMissing (172 + 2 * ix x1) σ).bind fun q7 => if q7 = 0 then ((fR_isMissing (172 + 2 * ix x3) σ).bind fun q9 => if q9 = 0 then (if (σ (172 + 2 * ix x1) 1) = (σ (172 + 2 * ix x3) 1) then ((fR_holds (172 + 2 * ix x1) x2 x5 σ).bind fun q12 => if q12 = 0 then fX_copy_B97 σ else (fR_holds (172 + 2 * ix x3) x4 x5 σ).bind fun q14 => if q14 = 0 then fX_copy_B97 σ else if cin x2 x4 x5 40 40 = true then ltc (cpy σ ((172 + 2 * ix x1) + 1) (ix x2) ((172 + 2 * ix x3) + 1) (ix x4) (ix x5)) fun σ17 => (fX_unhindered x5 σ17).bind fun q18 => some (q18.1, q18.2) else none) else (fX_found 5 σ).bind fun q19 => some (q19.1, q19.2)) else fX_copy_B49 σ) else fX_copy_B49 σ else none else none
set_option maxRecDepth 100000 in
set_option maxHeartbeats 4000000 in
theorem eX_copy {G : Gx} (x1 : Int32) (x2 : Int32) (x3 : Int32) (x4 : Int32) (x5 : Int32) (σ : Sg) (q : (Int32 × Sg)) (h : fX_copy x1 x2 x3 x4 x5 σ = some q) : Evm G yX11_copy MX11_copy [.ref (gb G + 0), .int x1, .int x2, .int x3, .int x4, .int x5] σ (some (.int q.1)) q.2 := by
  refine Ev.of (by decide +kernel) rfl rfl (Nat.le_of_ble_eq_true rfl) ?_
  show Vm G MX11_copy (some (.int q.1)) q.2 0 [(0, .ref (gb G + 0)), (1, .int x1), (2, .int x2), (3, .int x3), (4, .int x4), (5, .int x5)] [] σ
  unfold fX_copy at h
  refine v_iload_n dX11_copy_0 1 rfl rfl ?_
  obtain ⟨q1, hq1, h⟩ := bind_some h
  refine v_callS (As := [.int x1]) (S := []) dX11_copy_1 tw291 tw292 ykX11_isRow rfl (by decide) rfl rfl (Nat.le_of_ble_eq_true rfl) (by decide) (eX_isRow x1 _ _ hq1) ?_
  refine v_if_eq (tgt := 14) dX11_copy_4 (by decide) (fun c2 => ?_) (fun c2 => ?_)
  · replace h := ite_t c2 h
    refine v_ldc dX11_copy_14 tw297 ?_
    replace h := Option.some.inj h
    subst h
    exact v_iret dX11_copy_16 rfl rfl rfl rfl rfl
  · replace h := ite_f c2 h
    refine v_iload_n dX11_copy_7 3 rfl rfl ?_
    obtain ⟨q3, hq3, h⟩ := bind_some h
    refine v_callS (As := [.int x3]) (S := []) dX11_copy_8 tw291 tw292 ykX11_isRow rfl (by decide) rfl rfl (Nat.le_of_ble_eq_true rfl) (by decide) (eX_isRow x3 _ _ hq3) ?_
    refine v_if_ne (tgt := 17) dX11_copy_11 (by decide) (fun c4 => ?_) (fun c4 => ?_)
    · replace h := ite_f c4 h
      refine v_aload_n dX11_copy_17 0 rfl rfl (vm_getR (t := 1) dX11_copy_18 fsX11_11 lc_0 shc_0 (by decide) rf_0_0 (v_iload_n dX11_copy_21 1 rfl rfl ?_))
      obtain ⟨g5, h⟩ := guard_some h
      refine vm_aald (r := (172 + 2 * ix x1)) (by decide) dX11_copy_22 lc_1 sha_1 g5 rfl (v_astore dX11_copy_23 [0, 1, 3, 4, 5, 6] rfl (by decide) (v_aload_n dX11_copy_25 1 rfl rfl (vm_getR (t := 1) dX11_copy_26 fsX11_11 lc_0 shc_0 (by decide) rf_0_0 (v_iload_n dX11_copy_29 3 rfl rfl ?_))))
      obtain ⟨g6, h⟩ := guard_some h
      refine vm_aald (r := (172 + 2 * ix x3)) (by decide) dX11_copy_30 lc_1 sha_1 g6 rfl (v_astore dX11_copy_31 [0, 1, 2, 3, 5, 6] rfl (by decide) (v_aload dX11_copy_33 1 rfl ?_))
      obtain ⟨q7, hq7, h⟩ := bind_some h
      refine v_callV (As := []) (S := []) dX11_copy_35 tw315 tw316 tw317 ykX7_isMissing ((isR_s (isR_of g5)).2.1) ((isR_s (isR_of g5)).1.1) (by decide) ok_6 rfl (by decide) rfl rfl (Nat.le_of_ble_eq_true rfl) (by decide) (eR_isMissing (172 + 2 * ix x1) ((isR_of g5)) _ _ hq7) ?_
      refine v_if_ne (tgt := 49) dX11_copy_38 (by decide) (fun c8 => ?_) (fun c8 => ?_)
      · replace h := ite_f c8 h
        exact v_sub [2] rfl (sX_copy_B49 _ h)
      · replace h := ite_t c8 h
        refine v_aload dX11_copy_41 0 rfl ?_
        obtain ⟨q9, hq9, h⟩ := bind_some h
        refine v_callV (As := []) (S := []) dX11_copy_43 tw315 tw316 tw317 ykX7_isMissing ((isR_s (isR_of g6)).2.1) ((isR_s (isR_of g6)).1.1) (by decide) ok_6 rfl (by decide) rfl rfl (Nat.le_of_ble_eq_true rfl) (by decide) (eR_isMissing (172 + 2 * ix x3) ((isR_of g6)) _ _ hq9) ?_
        refine v_if_eq (tgt := 55) dX11_copy_46 (by decide) (fun c10 => ?_) (fun c10 => ?_)
        · replace h := ite_t c10 h
          refine v_aload dX11_copy_55 1 rfl (vm_getI dX11_copy_57 fsX11_111 ((isR_s (isR_of g5)).2.1) ((isR_s (isR_of g5)).1.1) (by decide) ((isR_s (isR_of g5)).2.2.2.2.1) (v_aload dX11_copy_60 0 rfl (vm_getI dX11_copy_62 fsX11_111 ((isR_s (isR_of g6)).2.1) ((isR_s (isR_of g6)).1.1) (by decide) ((isR_s (isR_of g6)).2.2.2.2.1) (v_icmp_eq (tgt := 74) dX11_copy_65 (by decide) (fun c11 => ?_) (fun c11 => ?_)))))
          · replace h := ite_t c11 h
            refine v_aload dX11_copy_74 1 rfl (v_iload_n dX11_copy_76 3 rfl rfl (v_iload dX11_copy_77 5 rfl ?_))
            obtain ⟨q12, hq12, h⟩ := bind_some h
            refine v_callV (As := [.int x2, .int x5]) (S := []) dX11_copy_79 tw319 tw320 tw321 ykX7_holds ((isR_s (isR_of g5)).2.1) ((isR_s (isR_of g5)).1.1) (by decide) ok_6 rfl (by decide) rfl rfl (Nat.le_of_ble_eq_true rfl) (by decide) (eR_holds (172 + 2 * ix x1) ((isR_of g5)) x2 x5 _ _ hq12) ?_
            refine v_if_eq (tgt := 97) dX11_copy_82 (by decide) (fun c13 => ?_) (fun c13 => ?_)
            · replace h := ite_t c13 h
              exact v_sub [2] rfl (sX_copy_B97 _ h)
            · replace h := ite_f c13 h
              refine v_aload dX11_copy_85 0 rfl (v_iload dX11_copy_87 4 rfl (v_iload dX11_copy_89 5 rfl ?_))
              obtain ⟨q14, hq14, h⟩ := bind_some h
              refine v_callV (As := [.int x4, .int x5]) (S := []) dX11_copy_91 tw319 tw320 tw321 ykX7_holds ((isR_s (isR_of g6)).2.1) ((isR_s (isR_of g6)).1.1) (by decide) ok_6 rfl (by decide) rfl rfl (Nat.le_of_ble_eq_true rfl) (by decide) (eR_holds (172 + 2 * ix x3) ((isR_of g6)) x4 x5 _ _ hq14) ?_
              refine v_if_ne (tgt := 103) dX11_copy_94 (by decide) (fun c15 => ?_) (fun c15 => ?_)
              · replace h := ite_f c15 h
                refine v_aload dX11_copy_103 1 rfl (vm_getR (t := ((172 + 2 * ix x1) + 1)) dX11_copy_105 fsX11_104 ((isR_s (isR_of g5)).2.1) ((isR_s (isR_of g5)).1.1) (by decide) ((isR_s (isR_of g5)).2.2.2.1) (v_iload_n dX11_copy_108 3 rfl rfl (v_aload dX11_copy_109 0 rfl (vm_getR (t := ((172 + 2 * ix x3) + 1)) dX11_copy_111 fsX11_104 ((isR_s (isR_of g6)).2.1) ((isR_s (isR_of g6)).1.1) (by decide) ((isR_s (isR_of g6)).2.2.2.1) (v_iload dX11_copy_114 4 rfl (v_iload dX11_copy_116 5 rfl ?_))))))
                obtain ⟨g16, h⟩ := guard_some h
                obtain ⟨σ17, eσ17, h⟩ := ltc_some h
                refine vn_copy rfl dX11_copy_118 tw331 ((isR_s (isR_of g5)).2.2.1) ((isR_s (isR_of g6)).2.2.1) ((isR_s (isR_of g5)).1.2) ((isR_s (isR_of g6)).1.2) g16 (Nat.le_of_ble_eq_true rfl) (Nat.le_of_ble_eq_true rfl) rfl rfl rfl eσ17 (v_aload_n dX11_copy_121 2 rfl rfl (v_iload dX11_copy_122 5 rfl ?_))
                obtain ⟨q18, hq18, h⟩ := bind_some h
                refine v_callV (As := [.int x5]) (S := []) dX11_copy_124 tw307 tw309 tw1 ykX11_unhindered lc_0 shc_0 (by decide) ok_10 rfl (by decide) rfl rfl (Nat.le_of_ble_eq_true rfl) (by decide) (eX_unhindered x5 _ _ hq18) ?_
                replace h := Option.some.inj h
                subst h
                exact v_iret dX11_copy_127 rfl rfl rfl rfl rfl
              · replace h := ite_t c15 h
                exact v_sub [2] rfl (sX_copy_B97 _ h)
          · replace h := ite_f c11 h
            refine v_aload_n dX11_copy_68 2 rfl rfl (v_iconst dX11_copy_69 rfl ?_)
            obtain ⟨q19, hq19, h⟩ := bind_some h
            refine v_callV (As := [.int 5]) (S := []) dX11_copy_70 tw298 tw300 tw0 ykX11_found lc_0 shc_0 (by decide) ok_10 rfl (by decide) rfl rfl (Nat.le_of_ble_eq_true rfl) (by decide) (eX_found 5 _ _ hq19) ?_
            replace h := Option.some.inj h
            subst h
            exact v_iret dX11_copy_73 rfl rfl rfl rfl rfl
        · replace h := ite_f c10 h
          exact v_sub [2] rfl (sX_copy_B49 _ h)
    · replace h := ite_t c4 h
      refine v_ldc dX11_copy_14 tw297 ?_
      replace h := Option.some.inj h
      subst h
      exact v_iret dX11_copy_16 rfl rfl rfl rfl rfl
def fX_drop (x1 : Int32) (σ : Sg) : Option (Int32 × Sg) := (fX_isRow x1 σ).bind fun q1 => if q1 = 0 then some ((-1000001), σ) else if inb x1 8 = true then (fR_isMissing (172 + 2 * ix x1) σ).bind fun q4 => if q4 = 0 then (ltc (wr σ (172 + 2 * ix x1) 1 (-1)) fun σ6 => (fX_unhindered (σ (172 + 2 * ix x1) 2) σ6).bind fun q7 => some (q7.1, q7.2)) else (fX_found 1 σ).bind fun q8 => some (q8.1, q8.2) else none
set_option maxRecDepth 100000 in
set_option maxHeartbeats 4000000 in
theorem eX_drop {G : Gx} (x1 : Int32) (σ : Sg) (q : (Int32 × Sg)) (h : fX_drop x1 σ = some q) : Evm G yX11_drop MX11_drop [.ref (gb G + 0), .int x1] σ (some (.int q.1)) q.2 := by
  refine Ev.of (by decide +kernel) rfl rfl (Nat.le_of_ble_eq_true rfl) ?_
  show Vm G MX11_drop (some (.int q.1)) q.2 0 [(0, .ref (gb G + 0)), (1, .int x1)] [] σ
  unfold fX_drop at h
  refine v_iload_n dX11_drop_0 1 rfl rfl ?_
  obtain ⟨q1, hq1, h⟩ := bind_some h
  refine v_callS (As := [.int x1]) (S := []) dX11_drop_1 tw291 tw292 ykX11_isRow rfl (by decide) rfl rfl (Nat.le_of_ble_eq_true rfl) (by decide) (eX_isRow x1 _ _ hq1) ?_
  refine v_if_ne (tgt := 10) dX11_drop_4 (by decide) (fun c2 => ?_) (fun c2 => ?_)
  · replace h := ite_f c2 h
    refine v_aload_n dX11_drop_10 0 rfl rfl (vm_getR (t := 1) dX11_drop_11 fsX11_11 lc_0 shc_0 (by decide) rf_0_0 (v_iload_n dX11_drop_14 1 rfl rfl ?_))
    obtain ⟨g3, h⟩ := guard_some h
    refine vm_aald (r := (172 + 2 * ix x1)) (by decide) dX11_drop_15 lc_1 sha_1 g3 rfl ?_
    obtain ⟨q4, hq4, h⟩ := bind_some h
    refine v_callV (As := []) (S := []) dX11_drop_16 tw315 tw316 tw317 ykX7_isMissing ((isR_s (isR_of g3)).2.1) ((isR_s (isR_of g3)).1.1) (by decide) ok_6 rfl (by decide) rfl rfl (Nat.le_of_ble_eq_true rfl) (by decide) (eR_isMissing (172 + 2 * ix x1) ((isR_of g3)) _ _ hq4) ?_
    refine v_if_eq (tgt := 28) dX11_drop_19 (by decide) (fun c5 => ?_) (fun c5 => ?_)
    · replace h := ite_t c5 h
      refine v_aload_n dX11_drop_28 0 rfl rfl (vm_getR (t := 1) dX11_drop_29 fsX11_11 lc_0 shc_0 (by decide) rf_0_0 (v_iload_n dX11_drop_32 1 rfl rfl (vm_aald (r := (172 + 2 * ix x1)) (by decide) dX11_drop_33 lc_1 sha_1 g3 rfl (vm_getI dX11_drop_34 fsX11_121 ((isR_s (isR_of g3)).2.1) ((isR_s (isR_of g3)).1.1) (by decide) ((isR_s (isR_of g3)).2.2.2.2.2) (v_istore_n dX11_drop_37 [0, 1, 2] rfl (by decide) rfl (v_aload_n dX11_drop_38 1 rfl rfl (vm_getR (t := 1) dX11_drop_39 fsX11_11 lc_0 shc_0 (by decide) rf_0_0 (v_iload_n dX11_drop_42 2 rfl rfl (vm_aald (r := (172 + 2 * ix x1)) (by decide) dX11_drop_43 lc_1 sha_1 g3 rfl ?_)))))))))
      refine v_iconst (v := -1) dX11_drop_44 rfl ?_
      obtain ⟨σ6, eσ6, h⟩ := ltc_some h
      refine vn_put dX11_drop_45 fsX11_111 ((isR_s (isR_of g3)).2.1) ((isR_s (isR_of g3)).1.1) (by decide) ((isR_s (isR_of g3)).2.2.2.2.1) eσ6 (v_aload_n dX11_drop_48 1 rfl rfl (v_iload_n dX11_drop_49 0 rfl rfl ?_))
      obtain ⟨q7, hq7, h⟩ := bind_some h
      refine v_callV (As := [.int (σ (172 + 2 * ix x1) 2)]) (S := []) dX11_drop_50 tw307 tw309 tw1 ykX11_unhindered lc_0 shc_0 (by decide) ok_10 rfl (by decide) rfl rfl (Nat.le_of_ble_eq_true rfl) (by decide) (eX_unhindered (σ (172 + 2 * ix x1) 2) _ _ hq7) ?_
      replace h := Option.some.inj h
      subst h
      exact v_iret dX11_drop_53 rfl rfl rfl rfl rfl
    · replace h := ite_f c5 h
      refine v_aload_n dX11_drop_22 0 rfl rfl (v_iconst dX11_drop_23 rfl ?_)
      obtain ⟨q8, hq8, h⟩ := bind_some h
      refine v_callV (As := [.int 1]) (S := []) dX11_drop_24 tw298 tw300 tw0 ykX11_found lc_0 shc_0 (by decide) ok_10 rfl (by decide) rfl rfl (Nat.le_of_ble_eq_true rfl) (by decide) (eX_found 1 _ _ hq8) ?_
      replace h := Option.some.inj h
      subst h
      exact v_iret dX11_drop_27 rfl rfl rfl rfl rfl
  · replace h := ite_t c2 h
    refine v_ldc dX11_drop_7 tw297 ?_
    replace h := Option.some.inj h
    subst h
    exact v_iret dX11_drop_9 rfl rfl rfl rfl rfl
def fX_feed (x1 : Int32) (σ : Sg) : Option (Int32 × Sg) := (fX_isWithin x1 0 255 σ).bind fun q1 => if q1 = 0 then some ((-1000001), σ) else if (σ 2 1) < 120 then (if inb (σ 2 1) 120 = true then ltc (wr σ 3 (ix (σ 2 1)) x1) fun σ5 => ltc (wr σ5 2 1 ((σ5 2 1) + 1)) fun σ6 => some (σ6 2 1, σ6) else none) else some ((-1000003), σ)
set_option maxRecDepth 100000 in
set_option maxHeartbeats 4000000 in
theorem eX_feed {G : Gx} (x1 : Int32) (σ : Sg) (q : (Int32 × Sg)) (h : fX_feed x1 σ = some q) : Evm G yX11_feed MX11_feed [.ref (gb G + 0), .int x1] σ (some (.int q.1)) q.2 := by
  refine Ev.of (by decide +kernel) rfl rfl (Nat.le_of_ble_eq_true rfl) ?_
  show Vm G MX11_feed (some (.int q.1)) q.2 0 [(0, .ref (gb G + 0)), (1, .int x1)] [] σ
  unfold fX_feed at h
  refine v_iload_n dX11_feed_0 1 rfl rfl (v_iconst dX11_feed_1 rfl (v_sipush (v := 255) dX11_feed_2 rfl ?_))
  obtain ⟨q1, hq1, h⟩ := bind_some h
  refine v_callS (As := [.int x1, .int 0, .int 255]) (S := []) dX11_feed_5 tw294 tw295 ykX11_isWithin rfl (by decide) rfl rfl (Nat.le_of_ble_eq_true rfl) (by decide) (eX_isWithin x1 0 255 _ _ hq1) ?_
  refine v_if_ne (tgt := 14) dX11_feed_8 (by decide) (fun c2 => ?_) (fun c2 => ?_)
  · replace h := ite_f c2 h
    refine v_aload_n dX11_feed_14 0 rfl rfl (vm_getR (t := 2) dX11_feed_15 fsX11_18 lc_0 shc_0 (by decide) rf_0_1 (vm_getI dX11_feed_18 fsX11_124 lc_2 shc_2 (by decide) rf_2_1 (v_bipush (v := 120) dX11_feed_21 rfl (v_icmp_lt (tgt := 29) dX11_feed_23 (by decide) (fun c3 => ?_) (fun c3 => ?_)))))
    · replace h := ite_t c3 h
      refine v_aload_n dX11_feed_29 0 rfl rfl (vm_getR (t := 2) dX11_feed_30 fsX11_18 lc_0 shc_0 (by decide) rf_0_1 (vm_getR (t := 3) dX11_feed_33 fsX11_126 lc_2 shc_2 (by decide) rf_2_0 (v_aload_n dX11_feed_36 0 rfl rfl (vm_getR (t := 2) dX11_feed_37 fsX11_18 lc_0 shc_0 (by decide) rf_0_1 (vm_getI dX11_feed_40 fsX11_124 lc_2 shc_2 (by decide) rf_2_1 (v_iload_n dX11_feed_43 1 rfl rfl ?_))))))
      obtain ⟨g4, h⟩ := guard_some h
      obtain ⟨σ5, eσ5, h⟩ := ltc_some h
      refine vn_iast dX11_feed_44 lc_3 sha_3 g4 rfl eσ5 (v_aload_n dX11_feed_45 0 rfl rfl (vm_getR (t := 2) dX11_feed_46 fsX11_18 lc_0 shc_0 (by decide) rf_0_1 (v_dup dX11_feed_49 rfl (vm_getI dX11_feed_50 fsX11_124 lc_2 shc_2 (by decide) rf_2_1 (v_iconst dX11_feed_53 rfl (v_iadd dX11_feed_54 ?_))))))
      obtain ⟨σ6, eσ6, h⟩ := ltc_some h
      refine vn_put dX11_feed_55 fsX11_124 lc_2 shc_2 (by decide) rf_2_1 eσ6 (v_aload_n dX11_feed_58 0 rfl rfl (vm_getR (t := 2) dX11_feed_59 fsX11_18 lc_0 shc_0 (by decide) rf_0_1 (vm_getI dX11_feed_62 fsX11_124 lc_2 shc_2 (by decide) rf_2_1 ?_)))
      replace h := Option.some.inj h
      subst h
      exact v_iret dX11_feed_65 rfl rfl rfl rfl rfl
    · replace h := ite_f c3 h
      refine v_ldc dX11_feed_26 tw342 ?_
      replace h := Option.some.inj h
      subst h
      exact v_iret dX11_feed_28 rfl rfl rfl rfl rfl
  · replace h := ite_t c2 h
    refine v_ldc dX11_feed_11 tw297 ?_
    replace h := Option.some.inj h
    subst h
    exact v_iret dX11_feed_13 rfl rfl rfl rfl rfl
