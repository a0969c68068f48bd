def fM_show (x1 : Int32) (x2 : Int32) (σ : Sg) : Option (Int32 × Sg) := (fM_isPerson x1 σ).bind fun q1 => if q1 = 0 then some ((-1000001), σ) else (fM_in x2 0 9 σ).bind fun q3 => if q3 = 0 then some ((-1000001), σ) else (fM_notes σ).bind fun q5 => if inb ((5 + (6 * x1)) + 3) 41 = true then ltc (wr q5 206 (ix ((5 + (6 * x1)) + 3)) x2) fun σ7 => some (q5 206 (ix ((5 + (6 * x1)) + 3)), σ7) else none
set_option maxRecDepth 100000 in
set_option maxHeartbeats 4000000 in
theorem eM_show {G : Gx} (x1 : Int32) (x2 : Int32) (σ : Sg) (q : (Int32 × Sg)) (h : fM_show x1 x2 σ = some q) : Evm G yX12_show MX12_show [.ref (gb G + 200), .int x1, .int x2] σ (some (.int q.1)) q.2 := by
  refine Ev.of (by decide +kernel) rfl rfl (Nat.le_of_ble_eq_true rfl) ?_
  show Vm G MX12_show (some (.int q.1)) q.2 0 [(0, .ref (gb G + 200)), (1, .int x1), (2, .int x2)] [] σ
  unfold fM_show at h
  refine v_aload_n dX12_show_0 0 rfl rfl (v_iload_n dX12_show_1 1 rfl rfl ?_)
  obtain ⟨q1, hq1, h⟩ := bind_some h
  refine v_callV (As := [.int x1]) (S := []) dX12_show_2 tw880 tw882 tw29 ykX12_isPerson lc_200 shc_200 (by decide) ok_11 rfl (by decide) rfl rfl (Nat.le_of_ble_eq_true rfl) (by decide) (eM_isPerson x1 _ _ hq1) ?_
  refine v_if_eq (tgt := 18) dX12_show_5 (by decide) (fun c2 => ?_) (fun c2 => ?_)
  · replace h := ite_t c2 h
    refine v_ldc dX12_show_18 tw764 ?_
    replace h := Option.some.inj h
    subst h
    exact v_iret dX12_show_20 rfl rfl rfl rfl rfl
  · replace h := ite_f c2 h
    refine v_iload_n dX12_show_8 2 rfl rfl (v_iconst dX12_show_9 rfl (v_bipush (v := 9) dX12_show_10 rfl ?_))
    obtain ⟨q3, hq3, h⟩ := bind_some h
    refine v_callS (As := [.int x2, .int 0, .int 9]) (S := []) dX12_show_12 tw761 tw762 ykX12_in rfl (by decide) rfl rfl (Nat.le_of_ble_eq_true rfl) (by decide) (eM_in x2 0 9 _ _ hq3) ?_
    refine v_if_ne (tgt := 21) dX12_show_15 (by decide) (fun c4 => ?_) (fun c4 => ?_)
    · replace h := ite_f c4 h
      refine v_aload_n dX12_show_21 0 rfl rfl ?_
      obtain ⟨q5, hq5, h⟩ := bind_some h
      refine v_callV (As := []) (S := []) dX12_show_22 tw854 tw856 tw28 ykX12_notes lc_200 shc_200 (by decide) ok_11 rfl (by decide) rfl rfl (Nat.le_of_ble_eq_true rfl) (by decide) (eM_notes _ _ hq5) ?_
      refine v_aload_n dX12_show_25 0 rfl rfl (vm_getR (t := 206) dX12_show_26 fsX12_25 lc_200 shc_200 (by decide) rf_200_13 (v_iconst dX12_show_29 rfl (v_bipush (v := 6) dX12_show_30 rfl (v_iload_n dX12_show_32 1 rfl rfl (v_imul dX12_show_33 (v_iadd dX12_show_34 (v_iconst dX12_show_35 rfl (v_iadd dX12_show_36 ?_))))))))
      obtain ⟨g6, h⟩ := guard_some h
      refine vn_iald dX12_show_37 lc_206 sha_206 g6 rfl (v_istore_n dX12_show_38 [0, 1, 2, 3] rfl (by decide) rfl (v_aload_n dX12_show_39 1 rfl rfl (vm_getR (t := 206) dX12_show_40 fsX12_25 lc_200 shc_200 (by decide) rf_200_13 (v_iconst dX12_show_43 rfl (v_bipush (v := 6) dX12_show_44 rfl (v_iload_n dX12_show_46 2 rfl rfl (v_imul dX12_show_47 (v_iadd dX12_show_48 (v_iconst dX12_show_49 rfl ?_)))))))))
      refine v_iadd dX12_show_50 (v_iload_n dX12_show_51 3 rfl rfl ?_)
      obtain ⟨σ7, eσ7, h⟩ := ltc_some h
      refine vn_iast dX12_show_52 lc_206 sha_206 g6 rfl eσ7 (v_iload_n dX12_show_53 0 rfl rfl ?_)
      replace h := Option.some.inj h
      subst h
      exact v_iret dX12_show_54 rfl rfl rfl rfl rfl
    · replace h := ite_t c4 h
      refine v_ldc dX12_show_18 tw764 ?_
      replace h := Option.some.inj h
      subst h
      exact v_iret dX12_show_20 rfl rfl rfl rfl rfl
def fM_walk (x1 : Int32) (x2 : Int32) (σ : Sg) : Option (Int32 × Sg) := (fM_isPerson x1 σ).bind fun q1 => if q1 = 0 then some ((-1000001), σ) else (fM_in x2 0 1 σ).bind fun q3 => if q3 = 0 then some ((-1000001), σ) else if inb ((5 + (6 * x1)) + 1) 41 = true then (fM_rides 206 x1 σ).bind fun q6 => if q6 = 0 then ((fM_in (((σ 206 (ix ((5 + (6 * x1)) + 1))) + (2 * x2)) - 1) 0 (σ 206 0) σ).bind fun q8 => if q8 = 0 then some ((-1000002), σ) else (fM_notes σ).bind fun q10 => ltc (wr q10 206 (ix ((5 + (6 * x1)) + 1)) (((σ 206 (ix ((5 + (6 * x1)) + 1))) + (2 * x2)) - 1)) fun σ11 => some (((σ 206 (ix ((5 + (6 * x1)) + 1))) + (2 * x2)) - 1, σ11)) else some ((-1000002), σ) else none
set_option maxRecDepth 100000 in
set_option maxHeartbeats 4000000 in
theorem eM_walk {G : Gx} (x1 : Int32) (x2 : Int32) (σ : Sg) (q : (Int32 × Sg)) (h : fM_walk x1 x2 σ = some q) : Evm G yX12_walk MX12_walk [.ref (gb G + 200), .int x1, .int x2] σ (some (.int q.1)) q.2 := by
  refine Ev.of (by decide +kernel) rfl rfl (Nat.le_of_ble_eq_true rfl) ?_
  show Vm G MX12_walk (some (.int q.1)) q.2 0 [(0, .ref (gb G + 200)), (1, .int x1), (2, .int x2)] [] σ
  unfold fM_walk at h
  refine v_aload_n dX12_walk_0 0 rfl rfl (v_iload_n dX12_walk_1 1 rfl rfl ?_)
  obtain ⟨q1, hq1, h⟩ := bind_some h
  refine v_callV (As := [.int x1]) (S := []) dX12_walk_2 tw880 tw882 tw29 ykX12_isPerson lc_200 shc_200 (by decide) ok_11 rfl (by decide) rfl rfl (Nat.le_of_ble_eq_true rfl) (by decide) (eM_isPerson x1 _ _ hq1) ?_
  refine v_if_eq (tgt := 17) dX12_walk_5 (by decide) (fun c2 => ?_) (fun c2 => ?_)
  · replace h := ite_t c2 h
    refine v_ldc dX12_walk_17 tw764 ?_
    replace h := Option.some.inj h
    subst h
    exact v_iret dX12_walk_19 rfl rfl rfl rfl rfl
  · replace h := ite_f c2 h
    refine v_iload_n dX12_walk_8 2 rfl rfl (v_iconst dX12_walk_9 rfl (v_iconst dX12_walk_10 rfl ?_))
    obtain ⟨q3, hq3, h⟩ := bind_some h
    refine v_callS (As := [.int x2, .int 0, .int 1]) (S := []) dX12_walk_11 tw761 tw762 ykX12_in rfl (by decide) rfl rfl (Nat.le_of_ble_eq_true rfl) (by decide) (eM_in x2 0 1 _ _ hq3) ?_
    refine v_if_ne (tgt := 20) dX12_walk_14 (by decide) (fun c4 => ?_) (fun c4 => ?_)
    · replace h := ite_f c4 h
      refine v_aload_n dX12_walk_20 0 rfl rfl (vm_getR (t := 206) dX12_walk_21 fsX12_25 lc_200 shc_200 (by decide) rf_200_13 (v_iconst dX12_walk_24 rfl (v_bipush (v := 6) dX12_walk_25 rfl (v_iload_n dX12_walk_27 1 rfl rfl (v_imul dX12_walk_28 (v_iadd dX12_walk_29 (v_iconst dX12_walk_30 rfl (v_iadd dX12_walk_31 ?_))))))))
      obtain ⟨g5, h⟩ := guard_some h
      refine vn_iald dX12_walk_32 lc_206 sha_206 g5 rfl (v_iconst dX12_walk_33 rfl (v_iload_n dX12_walk_34 2 rfl rfl (v_imul dX12_walk_35 (v_iadd dX12_walk_36 (v_iconst dX12_walk_37 rfl (v_isub dX12_walk_38 (v_istore_n dX12_walk_39 [0, 1, 2] rfl (by decide) rfl (v_aload_n dX12_walk_40 1 rfl rfl (vm_getR (t := 206) dX12_walk_41 fsX12_25 lc_200 shc_200 (by decide) rf_200_13 ?_)))))))))
      refine v_iload_n dX12_walk_44 2 rfl rfl ?_
      obtain ⟨q6, hq6, h⟩ := bind_some h
      refine v_callS (As := [.ref (gb G + 206), .int x1]) (S := []) dX12_walk_45 tw870 tw871 ykX12_rides rfl (by decide) rfl rfl (Nat.le_of_ble_eq_true rfl) (by decide) (eM_rides 206 sha_206 lc_206 x1 _ _ hq6) ?_
      refine v_if_ne (tgt := 65) dX12_walk_48 (by decide) (fun c7 => ?_) (fun c7 => ?_)
      · replace h := ite_f c7 h
        refine v_ldc dX12_walk_65 tw853 ?_
        replace h := Option.some.inj h
        subst h
        exact v_iret dX12_walk_67 rfl rfl rfl rfl rfl
      · replace h := ite_t c7 h
        refine v_iload_n dX12_walk_51 0 rfl rfl (v_iconst dX12_walk_52 rfl (v_aload_n dX12_walk_53 1 rfl rfl (vm_getR (t := 206) dX12_walk_54 fsX12_25 lc_200 shc_200 (by decide) rf_200_13 (v_iconst dX12_walk_57 rfl (vn_iald dX12_walk_58 lc_206 sha_206 ib_0_41 ixc_0 ?_)))))
        obtain ⟨q8, hq8, h⟩ := bind_some h
        refine v_callS (As := [.int (((σ 206 (ix ((5 + (6 * x1)) + 1))) + (2 * x2)) - 1), .int 0, .int (σ 206 0)]) (S := []) dX12_walk_59 tw761 tw762 ykX12_in rfl (by decide) rfl rfl (Nat.le_of_ble_eq_true rfl) (by decide) (eM_in (((σ 206 (ix ((5 + (6 * x1)) + 1))) + (2 * x2)) - 1) 0 (σ 206 0) _ _ hq8) ?_
        refine v_if_ne (tgt := 68) dX12_walk_62 (by decide) (fun c9 => ?_) (fun c9 => ?_)
        · replace h := ite_f c9 h
          refine v_aload_n dX12_walk_68 1 rfl rfl ?_
          obtain ⟨q10, hq10, h⟩ := bind_some h
          refine v_callV (As := []) (S := []) dX12_walk_69 tw854 tw856 tw28 ykX12_notes lc_200 shc_200 (by decide) ok_11 rfl (by decide) rfl rfl (Nat.le_of_ble_eq_true rfl) (by decide) (eM_notes _ _ hq10) ?_
          refine v_aload_n dX12_walk_72 1 rfl rfl (vm_getR (t := 206) dX12_walk_73 fsX12_25 lc_200 shc_200 (by decide) rf_200_13 (v_iconst dX12_walk_76 rfl (v_bipush (v := 6) dX12_walk_77 rfl (v_iload_n dX12_walk_79 2 rfl rfl (v_imul dX12_walk_80 (v_iadd dX12_walk_81 (v_iconst dX12_walk_82 rfl (v_iadd dX12_walk_83 (v_iload_n dX12_walk_84 0 rfl rfl ?_)))))))))
          obtain ⟨σ11, eσ11, h⟩ := ltc_some h
          refine vn_iast dX12_walk_85 lc_206 sha_206 g5 rfl eσ11 (v_iload_n dX12_walk_86 0 rfl rfl ?_)
          replace h := Option.some.inj h
          subst h
          exact v_iret dX12_walk_87 rfl rfl rfl rfl rfl
        · replace h := ite_t c9 h
          refine v_ldc dX12_walk_65 tw853 ?_
          replace h := Option.some.inj h
          subst h
          exact v_iret dX12_walk_67 rfl rfl rfl rfl rfl
    · replace h := ite_t c4 h
      refine v_ldc dX12_walk_17 tw764 ?_
      replace h := Option.some.inj h
      subst h
      exact v_iret dX12_walk_19 rfl rfl rfl rfl rfl
def fM_undo (σ : Sg) : Option (Int32 × Sg) := if (σ 200 17) = 0 then some ((-1000002), σ) else ltc (wr σ 200 17 ((σ 200 17) - 1)) fun σ2 => (fM_copies 209 984 (41 * (σ2 200 17)) 206 41 0 σ2).bind fun q3 => some (q3 200 17, q3)
set_option maxRecDepth 100000 in
set_option maxHeartbeats 4000000 in
theorem eM_undo {G : Gx} (σ : Sg) (q : (Int32 × Sg)) (h : fM_undo σ = some q) : Evm G yX12_undo MX12_undo [.ref (gb G + 200)] σ (some (.int q.1)) q.2 := by
  refine Ev.of (by decide +kernel) rfl rfl (Nat.le_of_ble_eq_true rfl) ?_
  show Vm G MX12_undo (some (.int q.1)) q.2 0 [(0, .ref (gb G + 200))] [] σ
  unfold fM_undo at h
  refine v_aload_n dX12_undo_0 0 rfl rfl (vm_getI dX12_undo_1 fsX12_132 lc_200 shc_200 (by decide) rf_200_17 (v_if_ne (tgt := 10) dX12_undo_4 (by decide) (fun c1 => ?_) (fun c1 => ?_)))
  · replace h := ite_f c1 h
    refine v_aload_n dX12_undo_10 0 rfl rfl (v_dup dX12_undo_11 rfl (vm_getI dX12_undo_12 fsX12_132 lc_200 shc_200 (by decide) rf_200_17 (v_iconst dX12_undo_15 rfl (v_isub dX12_undo_16 ?_))))
    obtain ⟨σ2, eσ2, h⟩ := ltc_some h
    refine vn_put dX12_undo_17 fsX12_132 lc_200 shc_200 (by decide) rf_200_17 eσ2 (v_aload_n dX12_undo_20 0 rfl rfl (vm_getR (t := 209) dX12_undo_21 fsX12_34 lc_200 shc_200 (by decide) rf_200_16 (v_bipush (v := 41) dX12_undo_24 rfl (v_aload_n dX12_undo_26 0 rfl rfl (vm_getI dX12_undo_27 fsX12_132 lc_200 shc_200 (by decide) rf_200_17 (v_imul dX12_undo_30 (v_aload_n dX12_undo_31 0 rfl rfl (vm_getR (t := 206) dX12_undo_32 fsX12_25 lc_200 shc_200 (by decide) rf_200_13 (v_iconst dX12_undo_35 rfl ?_)))))))))
    obtain ⟨q3, hq3, h⟩ := bind_some h
    refine v_callS (As := [.ref (gb G + 209), .int (41 * (σ2 200 17)), .ref (gb G + 206), .int 0]) (S := []) dX12_undo_36 tw838 tw839 ykX12_copies rfl (by decide) rfl rfl (Nat.le_of_ble_eq_true rfl) (by decide) (eM_copies 209 984 sha_209 lc_209 (41 * (σ2 200 17)) 206 41 sha_206 lc_206 0 _ _ hq3) ?_
    refine v_aload_n dX12_undo_39 0 rfl rfl (vm_getI dX12_undo_40 fsX12_132 lc_200 shc_200 (by decide) rf_200_17 ?_)
    replace h := Option.some.inj h
    subst h
    exact v_iret dX12_undo_43 rfl rfl rfl rfl rfl
  · replace h := ite_t c1 h
    refine v_ldc dX12_undo_7 tw853 ?_
    replace h := Option.some.inj h
    subst h
    exact v_iret dX12_undo_9 rfl rfl rfl rfl rfl
def fM_person (x1 : Int32) (x2 : Int32) (σ : Sg) : Option Int32 := (fM_isPerson x1 σ).bind fun q1 => if q1 = 0 then some (-1000001) else if x2 = 0 then (if inb ((5 + (6 * x1)) + 1) 41 = true then some (σ 206 (ix ((5 + (6 * x1)) + 1))) else none) else if x2 = 1 then (if inb ((5 + (6 * x1)) + 2) 41 = true then some (σ 206 (ix ((5 + (6 * x1)) + 2))) else none) else if x2 = 2 then (if inb ((5 + (6 * x1)) + 3) 41 = true then some (σ 206 (ix ((5 + (6 * x1)) + 3))) else none) else if x2 = 3 then (if inb ((5 + (6 * x1)) + 4) 41 = true then some (σ 206 (ix ((5 + (6 * x1)) + 4))) else none) else if x2 = 4 then ((fM_envyOf 206 x1 σ).bind fun q12 => some q12) else if x2 = 5 then (if inb ((5 + (6 * x1)) + 5) 41 = true then some (σ 206 (ix ((5 + (6 * x1)) + 5))) else none) else some (-1000001)
set_option maxRecDepth 100000 in
set_option maxHeartbeats 4000000 in
theorem eM_person {G : Gx} (x1 : Int32) (x2 : Int32) (σ : Sg) (q : Int32) (h : fM_person x1 x2 σ = some q) : Evm G yX12_person MX12_person [.ref (gb G + 200), .int x1, .int x2] σ (some (.int q)) σ := by
  refine Ev.of (by decide +kernel) rfl rfl (Nat.le_of_ble_eq_true rfl) ?_
  show Vm G MX12_person (some (.int q)) σ 0 [(0, .ref (gb G + 200)), (1, .int x1), (2, .int x2)] [] σ
  unfold fM_person at h
  refine v_aload_n dX12_person_0 0 rfl rfl (v_iload_n dX12_person_1 1 rfl rfl ?_)
  obtain ⟨q1, hq1, h⟩ := bind_some h
  refine v_callV (As := [.int x1]) (S := []) dX12_person_2 tw880 tw882 tw29 ykX12_isPerson lc_200 shc_200 (by decide) ok_11 rfl (by decide) rfl rfl (Nat.le_of_ble_eq_true rfl) (by decide) (eM_isPerson x1 _ _ hq1) ?_
  refine v_if_ne (tgt := 11) dX12_person_5 (by decide) (fun c2 => ?_) (fun c2 => ?_)
  · replace h := ite_f c2 h
    refine v_iconst dX12_person_11 rfl (v_bipush (v := 6) dX12_person_12 rfl (v_iload_n dX12_person_14 1 rfl rfl (v_imul dX12_person_15 (v_iadd dX12_person_16 (v_istore_n dX12_person_17 [0, 1, 2, 3] rfl (by decide) rfl (v_iload_n dX12_person_18 3 rfl rfl ?_))))))
    by_cases c3 : x2 = 0
    · replace h := ite_t c3 h
      refine v_tableAt (tgt := 56) dX12_person_19 c3 (by decide) (by decide) (off := 37) (by decide) (by decide) ?_
      refine v_aload_n dX12_person_56 1 rfl rfl (vm_getR (t := 206) dX12_person_57 fsX12_25 lc_200 shc_200 (by decide) rf_200_13 (v_iload_n dX12_person_60 0 rfl rfl (v_iconst dX12_person_61 rfl (v_iadd dX12_person_62 ?_))))
      obtain ⟨g4, h⟩ := guard_some h
      refine vn_iald dX12_person_63 lc_206 sha_206 g4 rfl ?_
      replace h := Option.some.inj h
      subst h
      exact v_iret dX12_person_64 rfl rfl rfl rfl rfl
    replace h := ite_f c3 h
    by_cases c5 : x2 = 1
    · replace h := ite_t c5 h
      refine v_tableAt (tgt := 65) dX12_person_19 c5 (by decide) (by decide) (off := 46) (by decide) (by decide) ?_
      refine v_aload_n dX12_person_65 1 rfl rfl (vm_getR (t := 206) dX12_person_66 fsX12_25 lc_200 shc_200 (by decide) rf_200_13 (v_iload_n dX12_person_69 0 rfl rfl (v_iconst dX12_person_70 rfl (v_iadd dX12_person_71 ?_))))
      obtain ⟨g6, h⟩ := guard_some h
      refine vn_iald dX12_person_72 lc_206 sha_206 g6 rfl ?_
      replace h := Option.some.inj h
      subst h
      exact v_iret dX12_person_73 rfl rfl rfl rfl rfl
    replace h := ite_f c5 h
    by_cases c7 : x2 = 2
    · replace h := ite_t c7 h
      refine v_tableAt (tgt := 74) dX12_person_19 c7 (by decide) (by decide) (off := 55) (by decide) (by decide) ?_
      refine v_aload_n dX12_person_74 1 rfl rfl (vm_getR (t := 206) dX12_person_75 fsX12_25 lc_200 shc_200 (by decide) rf_200_13 (v_iload_n dX12_person_78 0 rfl rfl (v_iconst dX12_person_79 rfl (v_iadd dX12_person_80 ?_))))
      obtain ⟨g8, h⟩ := guard_some h
      refine vn_iald dX12_person_81 lc_206 sha_206 g8 rfl ?_
      replace h := Option.some.inj h
      subst h
      exact v_iret dX12_person_82 rfl rfl rfl rfl rfl
    replace h := ite_f c7 h
    by_cases c9 : x2 = 3
    · replace h := ite_t c9 h
      refine v_tableAt (tgt := 83) dX12_person_19 c9 (by decide) (by decide) (off := 64) (by decide) (by decide) ?_
      refine v_aload_n dX12_person_83 1 rfl rfl (vm_getR (t := 206) dX12_person_84 fsX12_25 lc_200 shc_200 (by decide) rf_200_13 (v_iload_n dX12_person_87 0 rfl rfl (v_iconst dX12_person_88 rfl (v_iadd dX12_person_89 ?_))))
      obtain ⟨g10, h⟩ := guard_some h
      refine vn_iald dX12_person_90 lc_206 sha_206 g10 rfl ?_
      replace h := Option.some.inj h
      subst h
      exact v_iret dX12_person_91 rfl rfl rfl rfl rfl
    replace h := ite_f c9 h
    by_cases c11 : x2 = 4
    · replace h := ite_t c11 h
      refine v_tableAt (tgt := 92) dX12_person_19 c11 (by decide) (by decide) (off := 73) (by decide) (by decide) ?_
      refine v_aload_n dX12_person_92 1 rfl rfl (vm_getR (t := 206) dX12_person_93 fsX12_25 lc_200 shc_200 (by decide) rf_200_13 (v_iload_n dX12_person_96 2 rfl rfl ?_))
      obtain ⟨q12, hq12, h⟩ := bind_some h
      refine v_callS (As := [.ref (gb G + 206), .int x1]) (S := []) dX12_person_97 tw867 tw868 ykX12_envyOf rfl (by decide) rfl rfl (Nat.le_of_ble_eq_true rfl) (by decide) (eM_envyOf 206 sha_206 lc_206 x1 _ _ hq12) ?_
      replace h := Option.some.inj h
      subst h
      exact v_iret dX12_person_100 rfl rfl rfl rfl rfl
    replace h := ite_f c11 h
    by_cases c13 : x2 = 5
    · replace h := ite_t c13 h
      refine v_tableAt (tgt := 101) dX12_person_19 c13 (by decide) (by decide) (off := 82) (by decide) (by decide) ?_
      refine v_aload_n dX12_person_101 1 rfl rfl (vm_getR (t := 206) dX12_person_102 fsX12_25 lc_200 shc_200 (by decide) rf_200_13 (v_iload_n dX12_person_105 0 rfl rfl (v_iconst dX12_person_106 rfl (v_iadd dX12_person_107 ?_))))
      obtain ⟨g14, h⟩ := guard_some h
      refine vn_iald dX12_person_108 lc_206 sha_206 g14 rfl ?_
      replace h := Option.some.inj h
      subst h
      exact v_iret dX12_person_109 rfl rfl rfl rfl rfl
    replace h := ite_f c13 h
    have nc3 := i_ne (z := 0) (by decide) c3
    have nc5 := i_ne (z := 1) (by decide) c5
    have nc7 := i_ne (z := 2) (by decide) c7
    have nc9 := i_ne (z := 3) (by decide) c9
    have nc11 := i_ne (z := 4) (by decide) c11
    have nc13 := i_ne (z := 5) (by decide) c13
    refine v_tableOut (tgt := 110) dX12_person_19 (by omega) (by decide) ?_
    refine v_ldc dX12_person_110 tw764 ?_
    replace h := Option.some.inj h
    subst h
    exact v_iret dX12_person_112 rfl rfl rfl rfl rfl
  · replace h := ite_t c2 h
    refine v_ldc dX12_person_8 tw764 ?_
    replace h := Option.some.inj h
    subst h
    exact v_iret dX12_person_10 rfl rfl rfl rfl rfl
def fM_minds (x1 : Int32) (x2 : Int32) (σ : Sg) : Option Int32 := (fM_isPerson x1 σ).bind fun q1 => if q1 = 0 then some (-1000001) else (fM_isPerson x2 σ).bind fun q3 => if q3 = 0 then some (-1000001) else if x1 = x2 then some (-1000001) else (fM_mindsOf 206 x1 x2 σ).bind fun q6 => some q6
set_option maxRecDepth 100000 in
set_option maxHeartbeats 4000000 in
theorem eM_minds {G : Gx} (x1 : Int32) (x2 : Int32) (σ : Sg) (q : Int32) (h : fM_minds x1 x2 σ = some q) : Evm G yX12_minds MX12_minds [.ref (gb G + 200), .int x1, .int x2] σ (some (.int q)) σ := by
  refine Ev.of (by decide +kernel) rfl rfl (Nat.le_of_ble_eq_true rfl) ?_
  show Vm G MX12_minds (some (.int q)) σ 0 [(0, .ref (gb G + 200)), (1, .int x1), (2, .int x2)] [] σ
  unfold fM_minds at h
  refine v_aload_n dX12_minds_0 0 rfl rfl (v_iload_n dX12_minds_1 1 rfl rfl ?_)
  obtain ⟨q1, hq1, h⟩ := bind_some h
  refine v_callV (As := [.int x1]) (S := []) dX12_minds_2 tw880 tw882 tw29 ykX12_isPerson lc_200 shc_200 (by decide) ok_11 rfl (by decide) rfl rfl (Nat.le_of_ble_eq_true rfl) (by decide) (eM_isPerson x1 _ _ hq1) ?_
  refine v_if_eq (tgt := 33) dX12_minds_5 (by decide) (fun c2 => ?_) (fun c2 => ?_)
  · replace h := ite_t c2 h
    refine v_ldc dX12_minds_33 tw764 ?_
    replace h := Option.some.inj h
    subst h
    exact v_iret dX12_minds_35 rfl rfl rfl rfl rfl
  · replace h := ite_f c2 h
    refine v_aload_n dX12_minds_8 0 rfl rfl (v_iload_n dX12_minds_9 2 rfl rfl ?_)
    obtain ⟨q3, hq3, h⟩ := bind_some h
    refine v_callV (As := [.int x2]) (S := []) dX12_minds_10 tw880 tw882 tw29 ykX12_isPerson lc_200 shc_200 (by decide) ok_11 rfl (by decide) rfl rfl (Nat.le_of_ble_eq_true rfl) (by decide) (eM_isPerson x2 _ _ hq3) ?_
    refine v_if_eq (tgt := 33) dX12_minds_13 (by decide) (fun c4 => ?_) (fun c4 => ?_)
    · replace h := ite_t c4 h
      refine v_ldc dX12_minds_33 tw764 ?_
      replace h := Option.some.inj h
      subst h
      exact v_iret dX12_minds_35 rfl rfl rfl rfl rfl
    · replace h := ite_f c4 h
      refine v_iload_n dX12_minds_16 1 rfl rfl (v_iload_n dX12_minds_17 2 rfl rfl (v_icmp_eq (tgt := 33) dX12_minds_18 (by decide) (fun c5 => ?_) (fun c5 => ?_)))
      · replace h := ite_t c5 h
        refine v_ldc dX12_minds_33 tw764 ?_
        replace h := Option.some.inj h
        subst h
        exact v_iret dX12_minds_35 rfl rfl rfl rfl rfl
      · replace h := ite_f c5 h
        refine v_aload_n dX12_minds_21 0 rfl rfl (vm_getR (t := 206) dX12_minds_22 fsX12_25 lc_200 shc_200 (by decide) rf_200_13 (v_iload_n dX12_minds_25 1 rfl rfl (v_iload_n dX12_minds_26 2 rfl rfl ?_)))
        obtain ⟨q6, hq6, h⟩ := bind_some h
        refine v_callS (As := [.ref (gb G + 206), .int x1, .int x2]) (S := []) dX12_minds_27 tw873 tw874 ykX12_mindsOf rfl (by decide) rfl rfl (Nat.le_of_ble_eq_true rfl) (by decide) (eM_mindsOf 206 sha_206 lc_206 x1 x2 _ _ hq6) ?_
        refine v_goto (tgt := 35) dX12_minds_30 (by decide) ?_
        replace h := Option.some.inj h
        subst h
        exact v_iret dX12_minds_35 rfl rfl rfl rfl rfl
def fM_riderIn (r0 : Nat) (σ : Sg) : Option Int32 := if (σ r0 3) = 0 then some (-1000000) else some ((σ r0 3) - 1)
set_option maxRecDepth 100000 in
set_option maxHeartbeats 4000000 in
theorem eM_riderIn {G : Gx} (r0 : Nat) (p0 : shp r0 = (20, 41)) (l0 : r0 < 213) (σ : Sg) (q : Int32) (h : fM_riderIn r0 σ = some q) : Evm G yX12_riderIn MX12_riderIn [.ref (gb G + r0)] σ (some (.int q)) σ := by
  refine Ev.of (by decide +kernel) rfl rfl (Nat.le_of_ble_eq_true rfl) ?_
  show Vm G MX12_riderIn (some (.int q)) σ 0 [(0, .ref (gb G + r0))] [] σ
  unfold fM_riderIn at h
  refine v_aload_n dX12_riderIn_0 0 rfl rfl (v_iconst dX12_riderIn_1 rfl (vn_iald dX12_riderIn_2 l0 p0 ib_3_41 ixc_3 (v_if_ne (tgt := 11) dX12_riderIn_3 (by decide) (fun c1 => ?_) (fun c1 => ?_))))
  · replace h := ite_f c1 h
    refine v_aload_n dX12_riderIn_11 0 rfl rfl (v_iconst dX12_riderIn_12 rfl (vn_iald dX12_riderIn_13 l0 p0 ib_3_41 ixc_3 (v_iconst dX12_riderIn_14 rfl (v_isub dX12_riderIn_15 ?_))))
    replace h := Option.some.inj h
    subst h
    exact v_iret dX12_riderIn_16 rfl rfl rfl rfl rfl
  · replace h := ite_t c1 h
    refine v_ldc dX12_riderIn_6 tw686 (v_goto (tgt := 16) dX12_riderIn_8 (by decide) ?_)
    replace h := Option.some.inj h
    subst h
    exact v_iret dX12_riderIn_16 rfl rfl rfl rfl rfl
def fM_car (x1 : Int32) (σ : Sg) : Option Int32 := (fM_isHouse σ).bind fun q1 => if q1 = 0 then some (-1000002) else if x1 = 0 then some (σ 206 1) else if x1 = 1 then ((fM_riderIn 206 σ).bind fun q5 => some q5) else if x1 = 2 then ((fM_calls 206 σ).bind fun q7 => some q7) else if x1 = 3 then ((fM_broughtIn 206 σ).bind fun q9 => some q9) else some (-1000001)
set_option maxRecDepth 100000 in
set_option maxHeartbeats 4000000 in
theorem eM_car {G : Gx} (x1 : Int32) (σ : Sg) (q : Int32) (h : fM_car x1 σ = some q) : Evm G yX12_car MX12_car [.ref (gb G + 200), .int x1] σ (some (.int q)) σ := by
  refine Ev.of (by decide +kernel) rfl rfl (Nat.le_of_ble_eq_true rfl) ?_
  show Vm G MX12_car (some (.int q)) σ 0 [(0, .ref (gb G + 200)), (1, .int x1)] [] σ
  unfold fM_car at h
  refine v_aload_n dX12_car_0 0 rfl rfl ?_
  obtain ⟨q1, hq1, h⟩ := bind_some h
  refine v_callV (As := []) (S := []) dX12_car_1 tw849 tw851 tw27 ykX12_isHouse lc_200 shc_200 (by decide) ok_11 rfl (by decide) rfl rfl (Nat.le_of_ble_eq_true rfl) (by decide) (eM_isHouse _ _ hq1) ?_
  refine v_if_ne (tgt := 10) dX12_car_4 (by decide) (fun c2 => ?_) (fun c2 => ?_)
  · replace h := ite_f c2 h
    refine v_iload_n dX12_car_10 1 rfl rfl ?_
    by_cases c3 : x1 = 0
    · replace h := ite_t c3 h
      refine v_tableAt (tgt := 40) dX12_car_11 c3 (by decide) (by decide) (off := 29) (by decide) (by decide) ?_
      refine v_aload_n dX12_car_40 0 rfl rfl (vm_getR (t := 206) dX12_car_41 fsX12_25 lc_200 shc_200 (by decide) rf_200_13 (v_iconst dX12_car_44 rfl (vn_iald dX12_car_45 lc_206 sha_206 ib_1_41 ixc_1 ?_)))
      replace h := Option.some.inj h
      subst h
      exact v_iret dX12_car_46 rfl rfl rfl rfl rfl
    replace h := ite_f c3 h
    by_cases c4 : x1 = 1
    · replace h := ite_t c4 h
      refine v_tableAt (tgt := 47) dX12_car_11 c4 (by decide) (by decide) (off := 36) (by decide) (by decide) ?_
      refine v_aload_n dX12_car_47 0 rfl rfl (vm_getR (t := 206) dX12_car_48 fsX12_25 lc_200 shc_200 (by decide) rf_200_13 ?_)
      obtain ⟨q5, hq5, h⟩ := bind_some h
      refine v_callS (As := [.ref (gb G + 206)]) (S := []) dX12_car_51 tw904 tw905 ykX12_riderIn rfl (by decide) rfl rfl (Nat.le_of_ble_eq_true rfl) (by decide) (eM_riderIn 206 sha_206 lc_206 _ _ hq5) ?_
      replace h := Option.some.inj h
      subst h
      exact v_iret dX12_car_54 rfl rfl rfl rfl rfl
    replace h := ite_f c4 h
    by_cases c6 : x1 = 2
    · replace h := ite_t c6 h
      refine v_tableAt (tgt := 55) dX12_car_11 c6 (by decide) (by decide) (off := 44) (by decide) (by decide) ?_
      refine v_aload_n dX12_car_55 0 rfl rfl (vm_getR (t := 206) dX12_car_56 fsX12_25 lc_200 shc_200 (by decide) rf_200_13 ?_)
      obtain ⟨q7, hq7, h⟩ := bind_some h
      refine v_callS (As := [.ref (gb G + 206)]) (S := []) dX12_car_59 tw864 tw865 ykX12_calls rfl (by decide) rfl rfl (Nat.le_of_ble_eq_true rfl) (by decide) (eM_calls 206 sha_206 lc_206 _ _ hq7) ?_
      replace h := Option.some.inj h
      subst h
      exact v_iret dX12_car_62 rfl rfl rfl rfl rfl
    replace h := ite_f c6 h
    by_cases c8 : x1 = 3
    · replace h := ite_t c8 h
      refine v_tableAt (tgt := 63) dX12_car_11 c8 (by decide) (by decide) (off := 52) (by decide) (by decide) ?_
      refine v_aload_n dX12_car_63 0 rfl rfl (vm_getR (t := 206) dX12_car_64 fsX12_25 lc_200 shc_200 (by decide) rf_200_13 ?_)
      obtain ⟨q9, hq9, h⟩ := bind_some h
      refine v_callS (As := [.ref (gb G + 206)]) (S := []) dX12_car_67 tw907 tw908 ykX12_broughtIn rfl (by decide) rfl rfl (Nat.le_of_ble_eq_true rfl) (by decide) (eM_broughtIn 206 sha_206 lc_206 _ _ hq9) ?_
      replace h := Option.some.inj h
      subst h
      exact v_iret dX12_car_70 rfl rfl rfl rfl rfl
    replace h := ite_f c8 h
    have nc3 := i_ne (z := 0) (by decide) c3
    have nc4 := i_ne (z := 1) (by decide) c4
    have nc6 := i_ne (z := 2) (by decide) c6
    have nc8 := i_ne (z := 3) (by decide) c8
    refine v_tableOut (tgt := 71) dX12_car_11 (by omega) (by decide) ?_
    refine v_ldc dX12_car_71 tw764 ?_
    replace h := Option.some.inj h
    subst h
    exact v_iret dX12_car_73 rfl rfl rfl rfl rfl
  · replace h := ite_t c2 h
    refine v_ldc dX12_car_7 tw853 ?_
    replace h := Option.some.inj h
    subst h
    exact v_iret dX12_car_9 rfl rfl rfl rfl rfl
def fM_ahead (x1 : Int32) (x2 : Int32) (σ : Sg) : Option (Int32 × Sg) := (fM_isHouse σ).bind fun q1 => if q1 = 0 then some ((-1000002), σ) else (fM_isFar x1 σ).bind fun q3 => if q3 = 0 then some ((-1000001), σ) else (fM_in x2 0 2 σ).bind fun q5 => if q5 = 0 then some ((-1000001), σ) else (fM_tries x1 σ).bind fun q7 => if x2 = 0 then some (q7 208 1, q7) else if x2 = 1 then ((fM_riderIn 208 q7).bind fun q11 => some (q11, q7)) else (fM_broughtIn 208 q7).bind fun q10 => some (q10, q7)
set_option maxRecDepth 100000 in
set_option maxHeartbeats 4000000 in
theorem eM_ahead {G : Gx} (x1 : Int32) (x2 : Int32) (σ : Sg) (q : (Int32 × Sg)) (h : fM_ahead x1 x2 σ = some q) : Evm G yX12_ahead MX12_ahead [.ref (gb G + 200), .int x1, .int x2] σ (some (.int q.1)) q.2 := by
  refine Ev.of (by decide +kernel) rfl rfl (Nat.le_of_ble_eq_true rfl) ?_
  show Vm G MX12_ahead (some (.int q.1)) q.2 0 [(0, .ref (gb G + 200)), (1, .int x1), (2, .int x2)] [] σ
  unfold fM_ahead at h
  refine v_aload_n dX12_ahead_0 0 rfl rfl ?_
  obtain ⟨q1, hq1, h⟩ := bind_some h
  refine v_callV (As := []) (S := []) dX12_ahead_1 tw849 tw851 tw27 ykX12_isHouse lc_200 shc_200 (by decide) ok_11 rfl (by decide) rfl rfl (Nat.le_of_ble_eq_true rfl) (by decide) (eM_isHouse _ _ hq1) ?_
  refine v_if_ne (tgt := 10) dX12_ahead_4 (by decide) (fun c2 => ?_) (fun c2 => ?_)
  · replace h := ite_f c2 h
    refine v_iload_n dX12_ahead_10 1 rfl rfl ?_
    obtain ⟨q3, hq3, h⟩ := bind_some h
    refine v_callS (As := [.int x1]) (S := []) dX12_ahead_11 tw914 tw915 ykX12_isFar rfl (by decide) rfl rfl (Nat.le_of_ble_eq_true rfl) (by decide) (eM_isFar x1 _ _ hq3) ?_
    refine v_if_eq (tgt := 26) dX12_ahead_14 (by decide) (fun c4 => ?_) (fun c4 => ?_)
    · replace h := ite_t c4 h
      refine v_ldc dX12_ahead_26 tw764 ?_
      replace h := Option.some.inj h
      subst h
      exact v_iret dX12_ahead_28 rfl rfl rfl rfl rfl
    · replace h := ite_f c4 h
      refine v_iload_n dX12_ahead_17 2 rfl rfl (v_iconst dX12_ahead_18 rfl (v_iconst dX12_ahead_19 rfl ?_))
      obtain ⟨q5, hq5, h⟩ := bind_some h
      refine v_callS (As := [.int x2, .int 0, .int 2]) (S := []) dX12_ahead_20 tw761 tw762 ykX12_in rfl (by decide) rfl rfl (Nat.le_of_ble_eq_true rfl) (by decide) (eM_in x2 0 2 _ _ hq5) ?_
      refine v_if_ne (tgt := 29) dX12_ahead_23 (by decide) (fun c6 => ?_) (fun c6 => ?_)
      · replace h := ite_f c6 h
        refine v_aload_n dX12_ahead_29 0 rfl rfl (v_iload_n dX12_ahead_30 1 rfl rfl ?_)
        obtain ⟨q7, hq7, h⟩ := bind_some h
        refine v_callV (As := [.int x1]) (S := []) dX12_ahead_31 tw917 tw919 tw30 ykX12_tries lc_200 shc_200 (by decide) ok_11 rfl (by decide) rfl rfl (Nat.le_of_ble_eq_true rfl) (by decide) (eM_tries x1 _ _ hq7) ?_
        refine v_iload_n dX12_ahead_34 2 rfl rfl (v_if_ne (tgt := 47) dX12_ahead_35 (by decide) (fun c8 => ?_) (fun c8 => ?_))
        · replace h := ite_f c8 h
          refine v_iload_n dX12_ahead_47 2 rfl rfl (v_iconst dX12_ahead_48 rfl (v_icmp_ne (tgt := 62) dX12_ahead_49 (by decide) (fun c9 => ?_) (fun c9 => ?_)))
          · replace h := ite_f c9 h
            refine v_aload_n dX12_ahead_62 0 rfl rfl (vm_getR (t := 208) dX12_ahead_63 fsX12_31 lc_200 shc_200 (by decide) rf_200_15 ?_)
            obtain ⟨q10, hq10, h⟩ := bind_some h
            refine v_callS (As := [.ref (gb G + 208)]) (S := []) dX12_ahead_66 tw907 tw908 ykX12_broughtIn rfl (by decide) rfl rfl (Nat.le_of_ble_eq_true rfl) (by decide) (eM_broughtIn 208 sha_208 lc_208 _ _ hq10) ?_
            replace h := Option.some.inj h
            subst h
            exact v_iret dX12_ahead_69 rfl rfl rfl rfl rfl
          · replace h := ite_t c9 h
            refine v_aload_n dX12_ahead_52 0 rfl rfl (vm_getR (t := 208) dX12_ahead_53 fsX12_31 lc_200 shc_200 (by decide) rf_200_15 ?_)
            obtain ⟨q11, hq11, h⟩ := bind_some h
            refine v_callS (As := [.ref (gb G + 208)]) (S := []) dX12_ahead_56 tw904 tw905 ykX12_riderIn rfl (by decide) rfl rfl (Nat.le_of_ble_eq_true rfl) (by decide) (eM_riderIn 208 sha_208 lc_208 _ _ hq11) ?_
            refine v_goto (tgt := 69) dX12_ahead_59 (by decide) ?_
            replace h := Option.some.inj h
            subst h
            exact v_iret dX12_ahead_69 rfl rfl rfl rfl rfl
        · replace h := ite_t c8 h
          refine v_aload_n dX12_ahead_38 0 rfl rfl (vm_getR (t := 208) dX12_ahead_39 fsX12_31 lc_200 shc_200 (by decide) rf_200_15 (v_iconst dX12_ahead_42 rfl (vn_iald dX12_ahead_43 lc_208 sha_208 ib_1_41 ixc_1 (v_goto (tgt := 69) dX12_ahead_44 (by decide) ?_))))
          replace h := Option.some.inj h
          subst h
          exact v_iret dX12_ahead_69 rfl rfl rfl rfl rfl
      · replace h := ite_t c6 h
        refine v_ldc dX12_ahead_26 tw764 ?_
        replace h := Option.some.inj h
        subst h
        exact v_iret dX12_ahead_28 rfl rfl rfl rfl rfl
  · replace h := ite_t c2 h
    refine v_ldc dX12_ahead_7 tw853 ?_
    replace h := Option.some.inj h
    subst h
    exact v_iret dX12_ahead_9 rfl rfl rfl rfl rfl
def fM_when (x1 : Int32) (σ : Sg) : Option (Int32 × Sg) := (fM_isPerson x1 σ).bind fun q1 => if q1 = 0 then some ((-1000001), σ) else (fM_tries 0 σ).bind fun q3 => (fM_broughtBy x1 99 q3).bind fun q4 => some (q4.1, q4.2)
set_option maxRecDepth 100000 in
set_option maxHeartbeats 4000000 in
theorem eM_when {G : Gx} (x1 : Int32) (σ : Sg) (q : (Int32 × Sg)) (h : fM_when x1 σ = some q) : Evm G yX12_when MX12_when [.ref (gb G + 200), .int x1] σ (some (.int q.1)) q.2 := by
  refine Ev.of (by decide +kernel) rfl rfl (Nat.le_of_ble_eq_true rfl) ?_
  show Vm G MX12_when (some (.int q.1)) q.2 0 [(0, .ref (gb G + 200)), (1, .int x1)] [] σ
  unfold fM_when at h
  refine v_aload_n dX12_when_0 0 rfl rfl (v_iload_n dX12_when_1 1 rfl rfl ?_)
  obtain ⟨q1, hq1, h⟩ := bind_some h
  refine v_callV (As := [.int x1]) (S := []) dX12_when_2 tw880 tw882 tw29 ykX12_isPerson lc_200 shc_200 (by decide) ok_11 rfl (by decide) rfl rfl (Nat.le_of_ble_eq_true rfl) (by decide) (eM_isPerson x1 _ _ hq1) ?_
  refine v_if_ne (tgt := 11) dX12_when_5 (by decide) (fun c2 => ?_) (fun c2 => ?_)
  · replace h := ite_f c2 h
    refine v_aload_n dX12_when_11 0 rfl rfl (v_iconst dX12_when_12 rfl ?_)
    obtain ⟨q3, hq3, h⟩ := bind_some h
    refine v_callV (As := [.int 0]) (S := []) dX12_when_13 tw917 tw919 tw30 ykX12_tries lc_200 shc_200 (by decide) ok_11 rfl (by decide) rfl rfl (Nat.le_of_ble_eq_true rfl) (by decide) (eM_tries 0 _ _ hq3) ?_
    refine v_aload_n dX12_when_16 0 rfl rfl (v_iload_n dX12_when_17 1 rfl rfl (v_bipush (v := 99) dX12_when_18 rfl ?_))
    obtain ⟨q4, hq4, h⟩ := bind_some h
    refine v_callV (As := [.int x1, .int 99]) (S := []) dX12_when_20 tw925 tw927 tw31 ykX12_broughtBy lc_200 shc_200 (by decide) ok_11 rfl (by decide) rfl rfl (Nat.le_of_ble_eq_true rfl) (by decide) (eM_broughtBy x1 99 _ _ hq4) ?_
    replace h := Option.some.inj h
    subst h
    exact v_iret dX12_when_23 rfl rfl rfl rfl rfl
  · replace h := ite_t c2 h
    refine v_ldc dX12_when_8 tw764 ?_
    replace h := Option.some.inj h
    subst h
    exact v_iret dX12_when_10 rfl rfl rfl rfl rfl
def fM_first_b66 (K37 : Int32 → Int32 → Int32 → Sg → Option (Int32 × Sg)) (K66 : Int32 → Int32 → Int32 → Int32 → Int32 → Sg → Option (Int32 × Sg)) (x1 : Int32) (x2 : Int32) (x3 : Int32) (x4 : Int32) (x5 : Int32) (σ : Sg) : Option (Int32 × Sg) := if (σ 206 4) ≤ x5 then K37 x1 x2 (x3 + 1) σ else (fM_has x4 x5 σ).bind fun q11 => if q11 = 0 then K66 x1 x2 x3 x4 (x5 + 1) σ else if x1 = 0 then some (x5, σ) else some (x3, σ)
def fM_first_L66 (K37 : Int32 → Int32 → Int32 → Sg → Option (Int32 × Sg)) (n : Nat) : Int32 → Int32 → Int32 → Int32 → Int32 → Sg → Option (Int32 × Sg) := Nat.rec (fun _ _ _ _ _ _ => none) (fun _ K => fM_first_b66 K37 K) n
set_option maxRecDepth 100000 in
set_option maxHeartbeats 4000000 in
theorem sM_first_b66 {G : Gx} {q : (Int32 × Sg)} (K37 : Int32 → Int32 → Int32 → Sg → Option (Int32 × Sg)) (hK37 : ∀ (x1 : Int32) (x2 : Int32) (x3 : Int32) (σ : Sg), K37 x1 x2 x3 σ = some q → Vm G MX12_first (some (.int q.1)) q.2 37 [(0, .ref (gb G + 200)), (1, .int x1), (2, .int x2), (3, .int x3)] [] σ) (K66 : Int32 → Int32 → Int32 → Int32 → Int32 → Sg → Option (Int32 × Sg)) (hK66 : ∀ (x1 : Int32) (x2 : Int32) (x3 : Int32) (x4 : Int32) (x5 : Int32) (σ : Sg), K66 x1 x2 x3 x4 x5 σ = some q → Vm G MX12_first (some (.int q.1)) q.2 66 [(0, .ref (gb G + 200)), (1, .int x1), (2, .int x2), (3, .int x3), (4, .int x4), (5, .int x5)] [] σ) (x1 : Int32) (x2 : Int32) (x3 : Int32) (x4 : Int32) (x5 : Int32) (σ : Sg) (h : fM_first_b66 K37 K66 x1 x2 x3 x4 x5 σ = some q) : Vm G MX12_first (some (.int q.1)) q.2 66 [(0, .ref (gb G + 200)), (1, .int x1), (2, .int x2), (3, .int x3), (4, .int x4), (5, .int x5)] [] σ := by
  unfold fM_first_b66 at h
  refine v_iload dX12_first_66 5 rfl (v_aload_n dX12_first_68 0 rfl rfl (vm_getR (t := 206) dX12_first_69 fsX12_25 lc_200 shc_200 (by decide) rf_200_13 (v_iconst dX12_first_72 rfl (vn_iald dX12_first_73 lc_206 sha_206 ib_4_41 ixc_4 (v_icmp_ge (tgt := 104) dX12_first_74 (by decide) (fun c10 => ?_) (fun c10 => ?_))))))
  · replace h := ite_t c10 h
    exact v_iinc (v := x3 + 1) dX12_first_104 3 rfl rfl [0, 1, 2, 3] rfl (by decide) (v_goto (tgt := 37) dX12_first_107 (by decide) (v_sub [1, 2, 3, 0] rfl (hK37 x1 x2 (x3 + 1) _ h)))
  · replace h := ite_f c10 h
    refine v_iload dX12_first_77 4 rfl (v_iload dX12_first_79 5 rfl ?_)
    obtain ⟨q11, hq11, h⟩ := bind_some h
    refine v_callS (As := [.int x4, .int x5]) (S := []) dX12_first_81 tw933 tw934 ykX12_has rfl (by decide) rfl rfl (Nat.le_of_ble_eq_true rfl) (by decide) (eM_has x4 x5 _ _ hq11) ?_
    refine v_if_eq (tgt := 98) dX12_first_84 (by decide) (fun c12 => ?_) (fun c12 => ?_)
    · replace h := ite_t c12 h
      exact v_iinc (v := x5 + 1) dX12_first_98 5 rfl rfl [0, 1, 2, 3, 4, 5] rfl (by decide) (v_goto (tgt := 66) dX12_first_101 (by decide) (v_sub [1, 2, 3, 4, 5, 0] rfl (hK66 x1 x2 x3 x4 (x5 + 1) _ h)))
    · replace h := ite_f c12 h
      refine v_iload_n dX12_first_87 1 rfl rfl (v_if_ne (tgt := 96) dX12_first_88 (by decide) (fun c13 => ?_) (fun c13 => ?_))
      · replace h := ite_f c13 h
        refine v_iload_n dX12_first_96 3 rfl rfl ?_
        replace h := Option.some.inj h
        subst h
        exact v_iret dX12_first_97 rfl rfl rfl rfl rfl
      · replace h := ite_t c13 h
        refine v_iload dX12_first_91 5 rfl (v_goto (tgt := 97) dX12_first_93 (by decide) ?_)
        replace h := Option.some.inj h
        subst h
        exact v_iret dX12_first_97 rfl rfl rfl rfl rfl
theorem sM_first_L66 {G : Gx} {q : (Int32 × Sg)} (K37 : Int32 → Int32 → Int32 → Sg → Option (Int32 × Sg)) (hK37 : ∀ (x1 : Int32) (x2 : Int32) (x3 : Int32) (σ : Sg), K37 x1 x2 x3 σ = some q → Vm G MX12_first (some (.int q.1)) q.2 37 [(0, .ref (gb G + 200)), (1, .int x1), (2, .int x2), (3, .int x3)] [] σ) (n : Nat) : ∀ (x1 : Int32) (x2 : Int32) (x3 : Int32) (x4 : Int32) (x5 : Int32) (σ : Sg) (h : fM_first_L66 K37 n x1 x2 x3 x4 x5 σ = some q), Vm G MX12_first (some (.int q.1)) q.2 66 [(0, .ref (gb G + 200)), (1, .int x1), (2, .int x2), (3, .int x3), (4, .int x4), (5, .int x5)] [] σ := by
  induction n with
  | zero => intro x1 x2 x3 x4 x5 σ h; cases h
  | succ n ih => intro x1 x2 x3 x4 x5 σ h; exact sM_first_b66 K37 hK37 _ ih x1 x2 x3 x4 x5 σ h
def fM_first_b37 (K37 : Int32 → Int32 → Int32 → Sg → Option (Int32 × Sg)) (x1 : Int32) (x2 : Int32) (x3 : Int32) (σ : Sg) : Option (Int32 × Sg) := if (100 : Int32) ≤ x3 then some ((-1000000), σ) else (fM_passes 208 σ).bind fun q8 => (fM_broughtIn 208 q8).bind fun q9 => fM_first_L66 K37 2000 x1 x2 x3 (q9 &&& (x2 ^^^ (-1))) 0 q8
def fM_first_L37 (n : Nat) : Int32 → Int32 → Int32 → Sg → Option (Int32 × Sg) := Nat.rec (fun _ _ _ _ => none) (fun _ K => fM_first_b37 K) n
set_option maxRecDepth 100000 in
set_option maxHeartbeats 4000000 in
theorem sM_first_b37 {G : Gx} {q : (Int32 × Sg)} (K37 : Int32 → Int32 → Int32 → Sg → Option (Int32 × Sg)) (hK37 : ∀ (x1 : Int32) (x2 : Int32) (x3 : Int32) (σ : Sg), K37 x1 x2 x3 σ = some q → Vm G MX12_first (some (.int q.1)) q.2 37 [(0, .ref (gb G + 200)), (1, .int x1), (2, .int x2), (3, .int x3)] [] σ) (x1 : Int32) (x2 : Int32) (x3 : Int32) (σ : Sg) (h : fM_first_b37 K37 x1 x2 x3 σ = some q) : Vm G MX12_first (some (.int q.1)) q.2 37 [(0, .ref (gb G + 200)), (1, .int x1), (2, .int x2), (3, .int x3)] [] σ := by
  unfold fM_first_b37 at h
  refine v_iload_n dX12_first_37 3 rfl rfl (v_bipush (v := 100) dX12_first_38 rfl (v_icmp_ge (tgt := 110) dX12_first_40 (by decide) (fun c7 => ?_) (fun c7 => ?_)))
  · replace h := ite_t c7 h
    refine v_ldc dX12_first_110 tw686 ?_
    replace h := Option.some.inj h
    subst h
    exact v_iret dX12_first_112 rfl rfl rfl rfl rfl
  · replace h := ite_f c7 h
    refine v_aload_n dX12_first_43 0 rfl rfl (vm_getR (t := 208) dX12_first_44 fsX12_31 lc_200 shc_200 (by decide) rf_200_15 ?_)
    obtain ⟨q8, hq8, h⟩ := bind_some h
    refine v_callS (As := [.ref (gb G + 208)]) (S := []) dX12_first_47 tw858 tw859 ykX12_passes rfl (by decide) rfl rfl (Nat.le_of_ble_eq_true rfl) (by decide) (eM_passes 208 sha_208 lc_208 _ _ hq8) ?_
    refine v_aload_n dX12_first_50 0 rfl rfl (vm_getR (t := 208) dX12_first_51 fsX12_31 lc_200 shc_200 (by decide) rf_200_15 ?_)
    obtain ⟨q9, hq9, h⟩ := bind_some h
    refine v_callS (As := [.ref (gb G + 208)]) (S := []) dX12_first_54 tw907 tw908 ykX12_broughtIn rfl (by decide) rfl rfl (Nat.le_of_ble_eq_true rfl) (by decide) (eM_broughtIn 208 sha_208 lc_208 _ _ hq9) ?_
    exact v_iload_n dX12_first_57 2 rfl rfl (v_iconst (v := -1) dX12_first_58 rfl (v_ixor dX12_first_59 (v_iand dX12_first_60 (v_istore dX12_first_61 [0, 1, 2, 3, 4] rfl (by decide) (v_iconst dX12_first_63 rfl (v_istore dX12_first_64 [0, 1, 2, 3, 4, 5] rfl (by decide) (v_sub [2, 3, 4, 5, 1, 0] rfl (sM_first_L66 K37 hK37 2000 x1 x2 x3 (q9 &&& (x2 ^^^ (-1))) 0 _ h))))))))
theorem sM_first_L37 {G : Gx} {q : (Int32 × Sg)} (n : Nat) : ∀ (x1 : Int32) (x2 : Int32) (x3 : Int32) (σ : Sg) (h : fM_first_L37 n x1 x2 x3 σ = some q), Vm G MX12_first (some (.int q.1)) q.2 37 [(0, .ref (gb G + 200)), (1, .int x1), (2, .int x2), (3, .int x3)] [] σ := by
  induction n with
  | zero => intro x1 x2 x3 σ h; cases h
  | succ n ih => intro x1 x2 x3 σ h; exact sM_first_b37  _ ih x1 x2 x3 σ h
def fM_first (x1 : Int32) (σ : Sg) : Option (Int32 × Sg) := (fM_isHouse σ).bind fun q1 => if q1 = 0 then some ((-1000002), σ) else (fM_in x1 0 1 σ).bind fun q3 => if q3 = 0 then some ((-1000001), σ) else (fM_tries 0 σ).bind fun q5 => (fM_broughtIn 206 q5).bind fun q6 => fM_first_L37 2000 x1 q6 1 q5
set_option maxRecDepth 100000 in
set_option maxHeartbeats 4000000 in
theorem eM_first {G : Gx} (x1 : Int32) (σ : Sg) (q : (Int32 × Sg)) (h : fM_first x1 σ = some q) : Evm G yX12_first MX12_first [.ref (gb G + 200), .int x1] σ (some (.int q.1)) q.2 := by
  refine Ev.of (by decide +kernel) rfl rfl (Nat.le_of_ble_eq_true rfl) ?_
  show Vm G MX12_first (some (.int q.1)) q.2 0 [(0, .ref (gb G + 200)), (1, .int x1)] [] σ
  unfold fM_first at h
  refine v_aload_n dX12_first_0 0 rfl rfl ?_
  obtain ⟨q1, hq1, h⟩ := bind_some h
  refine v_callV (As := []) (S := []) dX12_first_1 tw849 tw851 tw27 ykX12_isHouse lc_200 shc_200 (by decide) ok_11 rfl (by decide) rfl rfl (Nat.le_of_ble_eq_true rfl) (by decide) (eM_isHouse _ _ hq1) ?_
  refine v_if_ne (tgt := 10) dX12_first_4 (by decide) (fun c2 => ?_) (fun c2 => ?_)
  · replace h := ite_f c2 h
    refine v_iload_n dX12_first_10 1 rfl rfl (v_iconst dX12_first_11 rfl (v_iconst dX12_first_12 rfl ?_))
    obtain ⟨q3, hq3, h⟩ := bind_some h
    refine v_callS (As := [.int x1, .int 0, .int 1]) (S := []) dX12_first_13 tw761 tw762 ykX12_in rfl (by decide) rfl rfl (Nat.le_of_ble_eq_true rfl) (by decide) (eM_in x1 0 1 _ _ hq3) ?_
    refine v_if_ne (tgt := 22) dX12_first_16 (by decide) (fun c4 => ?_) (fun c4 => ?_)
    · replace h := ite_f c4 h
      refine v_aload_n dX12_first_22 0 rfl rfl (v_iconst dX12_first_23 rfl ?_)
      obtain ⟨q5, hq5, h⟩ := bind_some h
      refine v_callV (As := [.int 0]) (S := []) dX12_first_24 tw917 tw919 tw30 ykX12_tries lc_200 shc_200 (by decide) ok_11 rfl (by decide) rfl rfl (Nat.le_of_ble_eq_true rfl) (by decide) (eM_tries 0 _ _ hq5) ?_
      refine v_aload_n dX12_first_27 0 rfl rfl (vm_getR (t := 206) dX12_first_28 fsX12_25 lc_200 shc_200 (by decide) rf_200_13 ?_)
      obtain ⟨q6, hq6, h⟩ := bind_some h
      refine v_callS (As := [.ref (gb G + 206)]) (S := []) dX12_first_31 tw907 tw908 ykX12_broughtIn rfl (by decide) rfl rfl (Nat.le_of_ble_eq_true rfl) (by decide) (eM_broughtIn 206 sha_206 lc_206 _ _ hq6) ?_
      exact v_istore_n dX12_first_34 [0, 1, 2] rfl (by decide) rfl (v_iconst dX12_first_35 rfl (v_istore_n dX12_first_36 [0, 1, 2, 3] rfl (by decide) rfl (v_sub [2, 3, 1, 0] rfl (sM_first_L37 2000 x1 q6 1 _ h))))
    · replace h := ite_t c4 h
      refine v_ldc dX12_first_19 tw764 ?_
      replace h := Option.some.inj h
      subst h
      exact v_iret dX12_first_21 rfl rfl rfl rfl rfl
  · replace h := ite_t c2 h
    refine v_ldc dX12_first_7 tw853 ?_
    replace h := Option.some.inj h
    subst h
    exact v_iret dX12_first_9 rfl rfl rfl rfl rfl
def fM_never (σ : Sg) : Option (Int32 × Sg) := (fM_isHouse σ).bind fun q1 => if q1 = 0 then some ((-1000002), σ) else (fM_tries 99 σ).bind fun q3 => (fM_broughtIn 208 q3).bind fun q4 => some (((1 <<< ((q3 206 4) &&& 31)) - 1) &&& (q4 ^^^ (-1)), q3)
set_option maxRecDepth 100000 in
set_option maxHeartbeats 4000000 in
theorem eM_never {G : Gx} (σ : Sg) (q : (Int32 × Sg)) (h : fM_never σ = some q) : Evm G yX12_never MX12_never [.ref (gb G + 200)] σ (some (.int q.1)) q.2 := by
  refine Ev.of (by decide +kernel) rfl rfl (Nat.le_of_ble_eq_true rfl) ?_
  show Vm G MX12_never (some (.int q.1)) q.2 0 [(0, .ref (gb G + 200))] [] σ
  unfold fM_never at h
  refine v_aload_n dX12_never_0 0 rfl rfl ?_
  obtain ⟨q1, hq1, h⟩ := bind_some h
  refine v_callV (As := []) (S := []) dX12_never_1 tw849 tw851 tw27 ykX12_isHouse lc_200 shc_200 (by decide) ok_11 rfl (by decide) rfl rfl (Nat.le_of_ble_eq_true rfl) (by decide) (eM_isHouse _ _ hq1) ?_
  refine v_if_ne (tgt := 10) dX12_never_4 (by decide) (fun c2 => ?_) (fun c2 => ?_)
  · replace h := ite_f c2 h
    refine v_aload_n dX12_never_10 0 rfl rfl (v_bipush (v := 99) dX12_never_11 rfl ?_)
    obtain ⟨q3, hq3, h⟩ := bind_some h
    refine v_callV (As := [.int 99]) (S := []) dX12_never_13 tw917 tw919 tw30 ykX12_tries lc_200 shc_200 (by decide) ok_11 rfl (by decide) rfl rfl (Nat.le_of_ble_eq_true rfl) (by decide) (eM_tries 99 _ _ hq3) ?_
    refine v_iconst dX12_never_16 rfl (v_aload_n dX12_never_17 0 rfl rfl (vm_getR (t := 206) dX12_never_18 fsX12_25 lc_200 shc_200 (by decide) rf_200_13 (v_iconst dX12_never_21 rfl (vn_iald dX12_never_22 lc_206 sha_206 ib_4_41 ixc_4 (v_ishl dX12_never_23 (v_iconst dX12_never_24 rfl (v_isub dX12_never_25 (v_aload_n dX12_never_26 0 rfl rfl (vm_getR (t := 208) dX12_never_27 fsX12_31 lc_200 shc_200 (by decide) rf_200_15 ?_)))))))))
    obtain ⟨q4, hq4, h⟩ := bind_some h
    refine v_callS (As := [.ref (gb G + 208)]) (S := [.int ((1 <<< ((q3 206 4) &&& 31)) - 1)]) dX12_never_30 tw907 tw908 ykX12_broughtIn rfl (by decide) rfl rfl (Nat.le_of_ble_eq_true rfl) (by decide) (eM_broughtIn 208 sha_208 lc_208 _ _ hq4) ?_
    refine v_iconst (v := -1) dX12_never_33 rfl (v_ixor dX12_never_34 (v_iand dX12_never_35 ?_))
    replace h := Option.some.inj h
    subst h
    exact v_iret dX12_never_36 rfl rfl rfl rfl rfl
  · replace h := ite_t c2 h
    refine v_ldc dX12_never_7 tw853 ?_
    replace h := Option.some.inj h
    subst h
    exact v_iret dX12_never_9 rfl rfl rfl rfl rfl
def fM_least_b40 (K40 : Int32 → Int32 → Int32 → Sg → Option (Int32 × Sg)) (x1 : Int32) (x2 : Int32) (x3 : Int32) (σ : Sg) : Option (Int32 × Sg) := if (10 : Int32) ≤ x3 then some ((-1000000), σ) else (fM_tries 0 σ).bind fun q8 => if inb ((5 + (6 * x1)) + 3) 41 = true then ltc (wr q8 208 (ix ((5 + (6 * x1)) + 3)) x3) fun σ10 => (fM_broughtBy x1 x2 σ10).bind fun q11 => if q11.1 = (-1000000) then K40 x1 x2 (x3 + 1) q11.2 else some (x3, q11.2) else none
def fM_least_L40 (n : Nat) : Int32 → Int32 → Int32 → Sg → Option (Int32 × Sg) := Nat.rec (fun _ _ _ _ => none) (fun _ K => fM_least_b40 K) n
set_option maxRecDepth 100000 in
set_option maxHeartbeats 4000000 in
theorem sM_least_b40 {G : Gx} {q : (Int32 × Sg)} (K40 : Int32 → Int32 → Int32 → Sg → Option (Int32 × Sg)) (hK40 : ∀ (x1 : Int32) (x2 : Int32) (x3 : Int32) (σ : Sg), K40 x1 x2 x3 σ = some q → Vm G MX12_least (some (.int q.1)) q.2 40 [(0, .ref (gb G + 200)), (1, .int x1), (2, .int x2), (3, .int x3)] [] σ) (x1 : Int32) (x2 : Int32) (x3 : Int32) (σ : Sg) (h : fM_least_b40 K40 x1 x2 x3 σ = some q) : Vm G MX12_least (some (.int q.1)) q.2 40 [(0, .ref (gb G + 200)), (1, .int x1), (2, .int x2), (3, .int x3)] [] σ := by
  unfold fM_least_b40 at h
  refine v_iload_n dX12_least_40 3 rfl rfl (v_bipush (v := 10) dX12_least_41 rfl (v_icmp_ge (tgt := 84) dX12_least_43 (by decide) (fun c7 => ?_) (fun c7 => ?_)))
  · replace h := ite_t c7 h
    refine v_ldc dX12_least_84 tw686 ?_
    replace h := Option.some.inj h
    subst h
    exact v_iret dX12_least_86 rfl rfl rfl rfl rfl
  · replace h := ite_f c7 h
    refine v_aload_n dX12_least_46 0 rfl rfl (v_iconst dX12_least_47 rfl ?_)
    obtain ⟨q8, hq8, h⟩ := bind_some h
    refine v_callV (As := [.int 0]) (S := []) dX12_least_48 tw917 tw919 tw30 ykX12_tries lc_200 shc_200 (by decide) ok_11 rfl (by decide) rfl rfl (Nat.le_of_ble_eq_true rfl) (by decide) (eM_tries 0 _ _ hq8) ?_
    refine v_aload_n dX12_least_51 0 rfl rfl (vm_getR (t := 208) dX12_least_52 fsX12_31 lc_200 shc_200 (by decide) rf_200_15 (v_iconst dX12_least_55 rfl (v_bipush (v := 6) dX12_least_56 rfl (v_iload_n dX12_least_58 1 rfl rfl (v_imul dX12_least_59 (v_iadd dX12_least_60 (v_iconst dX12_least_61 rfl (v_iadd dX12_least_62 (v_iload_n dX12_least_63 3 rfl rfl ?_)))))))))
    obtain ⟨g9, h⟩ := guard_some h
    obtain ⟨σ10, eσ10, h⟩ := ltc_some h
    refine vn_iast dX12_least_64 lc_208 sha_208 g9 rfl eσ10 (v_aload_n dX12_least_65 0 rfl rfl (v_iload_n dX12_least_66 1 rfl rfl (v_iload_n dX12_least_67 2 rfl rfl ?_)))
    obtain ⟨q11, hq11, h⟩ := bind_some h
    refine v_callV (As := [.int x1, .int x2]) (S := []) dX12_least_68 tw925 tw927 tw31 ykX12_broughtBy lc_200 shc_200 (by decide) ok_11 rfl (by decide) rfl rfl (Nat.le_of_ble_eq_true rfl) (by decide) (eM_broughtBy x1 x2 _ _ hq11) ?_
    refine v_ldc dX12_least_71 tw686 (v_icmp_eq (tgt := 78) dX12_least_73 (by decide) (fun c12 => ?_) (fun c12 => ?_))
    · replace h := ite_t c12 h
      exact v_iinc (v := x3 + 1) dX12_least_78 3 rfl rfl [0, 1, 2, 3] rfl (by decide) (v_goto (tgt := 40) dX12_least_81 (by decide) (v_sub [1, 2, 3, 0] rfl (hK40 x1 x2 (x3 + 1) _ h)))
    · replace h := ite_f c12 h
      refine v_iload_n dX12_least_76 3 rfl rfl ?_
      replace h := Option.some.inj h
      subst h
      exact v_iret dX12_least_77 rfl rfl rfl rfl rfl
theorem sM_least_L40 {G : Gx} {q : (Int32 × Sg)} (n : Nat) : ∀ (x1 : Int32) (x2 : Int32) (x3 : Int32) (σ : Sg) (h : fM_least_L40 n x1 x2 x3 σ = some q), Vm G MX12_least (some (.int q.1)) q.2 40 [(0, .ref (gb G + 200)), (1, .int x1), (2, .int x2), (3, .int x3)] [] σ := by
  induction n with
  | zero => intro x1 x2 x3 σ h; cases h
  | succ n ih => intro x1 x2 x3 σ h; exact sM_least_b40  _ ih x1 x2 x3 σ h
def fM_least (x1 : Int32) (x2 : Int32) (σ : Sg) : Option (Int32 × Sg) := (fM_isPerson x1 σ).bind fun q1 => if q1 = 0 then some ((-1000001), σ) else (fM_isFar x2 σ).bind fun q3 => if q3 = 0 then some ((-1000001), σ) else if inb ((5 + (6 * x1)) + 5) 41 = true then if (σ 206 (ix ((5 + (6 * x1)) + 5))) = 1 then some ((-1000002), σ) else fM_least_L40 2000 x1 x2 0 σ else none
set_option maxRecDepth 100000 in
set_option maxHeartbeats 4000000 in
theorem eM_least {G : Gx} (x1 : Int32) (x2 : Int32) (σ : Sg) (q : (Int32 × Sg)) (h : fM_least x1 x2 σ = some q) : Evm G yX12_least MX12_least [.ref (gb G + 200), .int x1, .int x2] σ (some (.int q.1)) q.2 := by
  refine Ev.of (by decide +kernel) rfl rfl (Nat.le_of_ble_eq_true rfl) ?_
  show Vm G MX12_least (some (.int q.1)) q.2 0 [(0, .ref (gb G + 200)), (1, .int x1), (2, .int x2)] [] σ
  unfold fM_least at h
  refine v_aload_n dX12_least_0 0 rfl rfl (v_iload_n dX12_least_1 1 rfl rfl ?_)
  obtain ⟨q1, hq1, h⟩ := bind_some h
  refine v_callV (As := [.int x1]) (S := []) dX12_least_2 tw880 tw882 tw29 ykX12_isPerson lc_200 shc_200 (by decide) ok_11 rfl (by decide) rfl rfl (Nat.le_of_ble_eq_true rfl) (by decide) (eM_isPerson x1 _ _ hq1) ?_
  refine v_if_eq (tgt := 15) dX12_least_5 (by decide) (fun c2 => ?_) (fun c2 => ?_)
  · replace h := ite_t c2 h
    refine v_ldc dX12_least_15 tw764 ?_
    replace h := Option.some.inj h
    subst h
    exact v_iret dX12_least_17 rfl rfl rfl rfl rfl
  · replace h := ite_f c2 h
    refine v_iload_n dX12_least_8 2 rfl rfl ?_
    obtain ⟨q3, hq3, h⟩ := bind_some h
    refine v_callS (As := [.int x2]) (S := []) dX12_least_9 tw914 tw915 ykX12_isFar rfl (by decide) rfl rfl (Nat.le_of_ble_eq_true rfl) (by decide) (eM_isFar x2 _ _ hq3) ?_
    refine v_if_ne (tgt := 18) dX12_least_12 (by decide) (fun c4 => ?_) (fun c4 => ?_)
    · replace h := ite_f c4 h
      refine v_aload_n dX12_least_18 0 rfl rfl (vm_getR (t := 206) dX12_least_19 fsX12_25 lc_200 shc_200 (by decide) rf_200_13 (v_iconst dX12_least_22 rfl (v_bipush (v := 6) dX12_least_23 rfl (v_iload_n dX12_least_25 1 rfl rfl (v_imul dX12_least_26 (v_iadd dX12_least_27 (v_iconst dX12_least_28 rfl (v_iadd dX12_least_29 ?_))))))))
      obtain ⟨g5, h⟩ := guard_some h
      refine vn_iald dX12_least_30 lc_206 sha_206 g5 rfl (v_iconst dX12_least_31 rfl (v_icmp_ne (tgt := 38) dX12_least_32 (by decide) (fun c6 => ?_) (fun c6 => ?_)))
      · replace h := ite_f c6 h
        exact v_iconst dX12_least_38 rfl (v_istore_n dX12_least_39 [0, 1, 2, 3] rfl (by decide) rfl (v_sub [1, 2, 3, 0] rfl (sM_least_L40 2000 x1 x2 0 _ h)))
      · replace h := ite_t c6 h
        refine v_ldc dX12_least_35 tw853 ?_
        replace h := Option.some.inj h
        subst h
        exact v_iret dX12_least_37 rfl rfl rfl rfl rfl
    · replace h := ite_t c4 h
      refine v_ldc dX12_least_15 tw764 ?_
      replace h := Option.some.inj h
      subst h
      exact v_iret dX12_least_17 rfl rfl rfl rfl rfl
def fM_hides_B54 (K7 : Int32 → Int32 → Sg → Option Sg) (x1 : Int32) (x2 : Int32) (s0 : Int32) (s1 : Int32) (σ : Sg) : Option Sg := if inb s1 41 = true then ltc (wr σ 208 (ix s1) s0) fun σ7 => K7 x1 (x2 + 1) σ7 else none
set_option maxRecDepth 100000 in
set_option maxHeartbeats 4000000 in
theorem sM_hides_B54 {G : Gx} {q : Sg} (K7 : Int32 → Int32 → Sg → Option Sg) (hK7 : ∀ (x1 : Int32) (x2 : Int32) (σ : Sg), K7 x1 x2 σ = some q → Vm G MX12_hides none q 7 [(0, .ref (gb G + 200)), (1, .int x1), (2, .int x2)] [] σ) (x1 : Int32) (x2 : Int32) (s0 : Int32) (s1 : Int32) (σ : Sg) (h : fM_hides_B54 K7 x1 x2 s0 s1 σ = some q) : Vm G MX12_hides none q 54 [(0, .ref (gb G + 200)), (1, .int x1), (2, .int x2)] [.int s0, .int s1, .ref (gb G + 208)] σ := by
  unfold fM_hides_B54 at h
  obtain ⟨g6, h⟩ := guard_some h
  obtain ⟨σ7, eσ7, h⟩ := ltc_some h
  exact vn_iast dX12_hides_54 lc_208 sha_208 g6 rfl eσ7 (v_iinc (v := x2 + 1) dX12_hides_55 2 rfl rfl [0, 1, 2] rfl (by decide) (v_goto (tgt := 7) dX12_hides_58 (by decide) (v_sub [1, 2, 0] rfl (hK7 x1 (x2 + 1) _ h))))
def fM_hides_b7 (K7 : Int32 → Int32 → Sg → Option Sg) (x1 : Int32) (x2 : Int32) (σ : Sg) : Option Sg := if (σ 206 4) ≤ x2 then some σ else (fM_has x1 x2 σ).bind fun q3 => if q3 = 0 then (if inb ((5 + (6 * x2)) + 3) 41 = true then fM_hides_B54 K7 x1 x2 (σ 208 (ix ((5 + (6 * x2)) + 3))) ((5 + (6 * x2)) + 3) σ else none) else fM_hides_B54 K7 x1 x2 0 ((5 + (6 * x2)) + 3) σ
def fM_hides_L7 (n : Nat) : Int32 → Int32 → Sg → Option Sg := Nat.rec (fun _ _ _ => none) (fun _ K => fM_hides_b7 K) n
set_option maxRecDepth 100000 in
set_option maxHeartbeats 4000000 in
theorem sM_hides_b7 {G : Gx} {q : Sg} (K7 : Int32 → Int32 → Sg → Option Sg) (hK7 : ∀ (x1 : Int32) (x2 : Int32) (σ : Sg), K7 x1 x2 σ = some q → Vm G MX12_hides none q 7 [(0, .ref (gb G + 200)), (1, .int x1), (2, .int x2)] [] σ) (x1 : Int32) (x2 : Int32) (σ : Sg) (h : fM_hides_b7 K7 x1 x2 σ = some q) : Vm G MX12_hides none q 7 [(0, .ref (gb G + 200)), (1, .int x1), (2, .int x2)] [] σ := by
  unfold fM_hides_b7 at h
  refine v_iload_n dX12_hides_7 2 rfl rfl (v_aload_n dX12_hides_8 0 rfl rfl (vm_getR (t := 206) dX12_hides_9 fsX12_25 lc_200 shc_200 (by decide) rf_200_13 (v_iconst dX12_hides_12 rfl (vn_iald dX12_hides_13 lc_206 sha_206 ib_4_41 ixc_4 (v_icmp_ge (tgt := 61) dX12_hides_14 (by decide) (fun c2 => ?_) (fun c2 => ?_))))))
  · replace h := ite_t c2 h
    replace h := Option.some.inj h
    subst h
    exact v_vret dX12_hides_61 rfl rfl rfl rfl rfl
  · replace h := ite_f c2 h
    refine v_aload_n dX12_hides_17 0 rfl rfl (vm_getR (t := 208) dX12_hides_18 fsX12_31 lc_200 shc_200 (by decide) rf_200_15 (v_iconst dX12_hides_21 rfl (v_bipush (v := 6) dX12_hides_22 rfl (v_iload_n dX12_hides_24 2 rfl rfl (v_imul dX12_hides_25 (v_iadd dX12_hides_26 (v_iconst dX12_hides_27 rfl (v_iadd dX12_hides_28 (v_iload_n dX12_hides_29 1 rfl rfl ?_)))))))))
    refine v_iload_n dX12_hides_30 2 rfl rfl ?_
    obtain ⟨q3, hq3, h⟩ := bind_some h
    refine v_callS (As := [.int x1, .int x2]) (S := [.int ((5 + (6 * x2)) + 3), .ref (gb G + 208)]) dX12_hides_31 tw933 tw934 ykX12_has rfl (by decide) rfl rfl (Nat.le_of_ble_eq_true rfl) (by decide) (eM_has x1 x2 _ _ hq3) ?_
    refine v_if_eq (tgt := 41) dX12_hides_34 (by decide) (fun c4 => ?_) (fun c4 => ?_)
    · replace h := ite_t c4 h
      refine v_aload_n dX12_hides_41 0 rfl rfl (vm_getR (t := 208) dX12_hides_42 fsX12_31 lc_200 shc_200 (by decide) rf_200_15 (v_iconst dX12_hides_45 rfl (v_bipush (v := 6) dX12_hides_46 rfl (v_iload_n dX12_hides_48 2 rfl rfl (v_imul dX12_hides_49 (v_iadd dX12_hides_50 (v_iconst dX12_hides_51 rfl (v_iadd dX12_hides_52 ?_))))))))
      obtain ⟨g5, h⟩ := guard_some h
      exact vn_iald dX12_hides_53 lc_208 sha_208 g5 rfl (sM_hides_B54 K7 hK7 x1 x2 (σ 208 (ix ((5 + (6 * x2)) + 3))) ((5 + (6 * x2)) + 3) _ h)
    · replace h := ite_f c4 h
      exact v_iconst dX12_hides_37 rfl (v_goto (tgt := 54) dX12_hides_38 (by decide) (sM_hides_B54 K7 hK7 x1 x2 0 ((5 + (6 * x2)) + 3) _ h))
theorem sM_hides_L7 {G : Gx} {q : Sg} (n : Nat) : ∀ (x1 : Int32) (x2 : Int32) (σ : Sg) (h : fM_hides_L7 n x1 x2 σ = some q), Vm G MX12_hides none q 7 [(0, .ref (gb G + 200)), (1, .int x1), (2, .int x2)] [] σ := by
  induction n with
  | zero => intro x1 x2 σ h; cases h
  | succ n ih => intro x1 x2 σ h; exact sM_hides_b7  _ ih x1 x2 σ h
def fM_hides (x1 : Int32) (σ : Sg) : Option Sg := (fM_tries 0 σ).bind fun q1 => fM_hides_L7 2000 x1 0 q1
set_option maxRecDepth 100000 in
set_option maxHeartbeats 4000000 in
theorem eM_hides {G : Gx} (x1 : Int32) (σ : Sg) (q : Sg) (h : fM_hides x1 σ = some q) : Evm G yX12_hides MX12_hides [.ref (gb G + 200), .int x1] σ none q := by
  refine Ev.of (by decide +kernel) rfl rfl (Nat.le_of_ble_eq_true rfl) ?_
  show Vm G MX12_hides none q 0 [(0, .ref (gb G + 200)), (1, .int x1)] [] σ
  unfold fM_hides at h
  refine v_aload_n dX12_hides_0 0 rfl rfl (v_iconst dX12_hides_1 rfl ?_)
  obtain ⟨q1, hq1, h⟩ := bind_some h
  refine v_callV (As := [.int 0]) (S := []) dX12_hides_2 tw917 tw919 tw30 ykX12_tries lc_200 shc_200 (by decide) ok_11 rfl (by decide) rfl rfl (Nat.le_of_ble_eq_true rfl) (by decide) (eM_tries 0 _ _ hq1) ?_
  exact v_iconst dX12_hides_5 rfl (v_istore_n dX12_hides_6 [0, 1, 2] rfl (by decide) rfl (v_sub [1, 2, 0] rfl (sM_hides_L7 2000 x1 0 _ h)))
