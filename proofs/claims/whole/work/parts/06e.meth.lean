def fX_least_b37 (K37 : Int32 → Int32 → Int32 → Sg → Option (Int32 × Sg)) (x1 : Int32) (x2 : Int32) (x3 : Int32) (σ : Sg) : Option (Int32 × Sg) := if (9 : Int32) < x3 then some ((-1000000), σ) else (fH_become 10 4 σ).bind fun q8 => (fH_put 10 3 x1 x3 q8).bind fun q9 => (fH_until 10 x1 x2 q9).bind fun q10 => if q10.1 = (-1) then K37 x1 x2 (x3 + 1) q10.2 else some (x3, q10.2)
def fX_least_L37 (n : Nat) : Int32 → Int32 → Int32 → Sg → Option (Int32 × Sg) := Nat.rec (fun _ _ _ _ => none) (fun _ K => fX_least_b37 K) n
set_option maxRecDepth 100000 in
set_option maxHeartbeats 4000000 in
theorem sX_least_b37 {G : Gx} {q : (Int32 × Sg)} (K37 : Int32 → Int32 → Int32 → Sg → Option (Int32 × Sg)) (hK37 : ∀ (x1 : Int32) (x2 : Int32) (x3 : Int32) (σ : Sg), K37 x1 x2 x3 σ = some q → Vm G MX11_least (some (.int q.1)) q.2 37 [(0, .ref (gb G + 0)), (1, .int x1), (2, .int x2), (3, .int x3)] [] σ) (x1 : Int32) (x2 : Int32) (x3 : Int32) (σ : Sg) (h : fX_least_b37 K37 x1 x2 x3 σ = some q) : Vm G MX11_least (some (.int q.1)) q.2 37 [(0, .ref (gb G + 0)), (1, .int x1), (2, .int x2), (3, .int x3)] [] σ := by
  unfold fX_least_b37 at h
  refine v_iload_n dX11_least_37 3 rfl rfl (v_bipush (v := 9) dX11_least_38 rfl (v_icmp_gt (tgt := 85) dX11_least_40 (by decide) (fun c7 => ?_) (fun c7 => ?_)))
  · replace h := ite_t c7 h
    refine v_ldc dX11_least_85 tw478 ?_
    replace h := Option.some.inj h
    subst h
    exact v_iret dX11_least_87 rfl rfl rfl rfl rfl
  · replace h := ite_f c7 h
    refine v_aload_n dX11_least_43 0 rfl rfl (vm_getR (t := 10) dX11_least_44 fsX11_29 lc_0 shc_0 (by decide) rf_0_3 (v_aload_n dX11_least_47 0 rfl rfl (vm_getR (t := 4) dX11_least_48 fsX11_25 lc_0 shc_0 (by decide) rf_0_2 ?_)))
    obtain ⟨q8, hq8, h⟩ := bind_some h
    refine v_callV (As := [.ref (gb G + 4)]) (S := []) dX11_least_51 tw383 tw384 tw385 ykX4_become ((isH_s isH_10).2.1) ((isH_s isH_10).1.1) (by decide) ok_4 rfl (by decide) rfl rfl (Nat.le_of_ble_eq_true rfl) (by decide) (eH_become 10 isH_10 4 isH_4 _ _ hq8) ?_
    refine v_aload_n dX11_least_54 0 rfl rfl (vm_getR (t := 10) dX11_least_55 fsX11_29 lc_0 shc_0 (by decide) rf_0_3 (v_iconst dX11_least_58 rfl (v_iload_n dX11_least_59 1 rfl rfl (v_iload_n dX11_least_60 3 rfl rfl ?_))))
    obtain ⟨q9, hq9, h⟩ := bind_some h
    refine v_callV (As := [.int 3, .int x1, .int x3]) (S := []) dX11_least_61 tw444 tw445 tw446 ykX4_put ((isH_s isH_10).2.1) ((isH_s isH_10).1.1) (by decide) ok_4 rfl (by decide) rfl rfl (Nat.le_of_ble_eq_true rfl) (by decide) (eH_put 10 isH_10 3 x1 x3 _ _ hq9) ?_
    refine v_aload_n dX11_least_64 0 rfl rfl (vm_getR (t := 10) dX11_least_65 fsX11_29 lc_0 shc_0 (by decide) rf_0_3 (v_iload_n dX11_least_68 1 rfl rfl (v_iload_n dX11_least_69 2 rfl rfl ?_)))
    obtain ⟨q10, hq10, h⟩ := bind_some h
    refine v_callV (As := [.int x1, .int x2]) (S := []) dX11_least_70 tw497 tw498 tw499 ykX4_until ((isH_s isH_10).2.1) ((isH_s isH_10).1.1) (by decide) ok_4 rfl (by decide) rfl rfl (Nat.le_of_ble_eq_true rfl) (by decide) (eH_until 10 isH_10 x1 x2 _ _ hq10) ?_
    refine v_iconst (v := -1) dX11_least_73 rfl (v_icmp_eq (tgt := 79) dX11_least_74 (by decide) (fun c11 => ?_) (fun c11 => ?_))
    · replace h := ite_t c11 h
      exact v_iinc (v := x3 + 1) dX11_least_79 3 rfl rfl [0, 1, 2, 3] rfl (by decide) (v_goto (tgt := 37) dX11_least_82 (by decide) (v_sub [1, 2, 3, 0] rfl (hK37 x1 x2 (x3 + 1) _ h)))
    · replace h := ite_f c11 h
      refine v_iload_n dX11_least_77 3 rfl rfl ?_
      replace h := Option.some.inj h
      subst h
      exact v_iret dX11_least_78 rfl rfl rfl rfl rfl
theorem sX_least_L37 {G : Gx} {q : (Int32 × Sg)} (n : Nat) : ∀ (x1 : Int32) (x2 : Int32) (x3 : Int32) (σ : Sg) (h : fX_least_L37 n x1 x2 x3 σ = some q), Vm G MX11_least (some (.int q.1)) q.2 37 [(0, .ref (gb G + 0)), (1, .int x1), (2, .int x2), (3, .int x3)] [] σ := by
  induction n with
  | zero => intro x1 x2 x3 σ h; cases h
  | succ n ih => intro x1 x2 x3 σ h; exact sX_least_b37  _ ih x1 x2 x3 σ h
def fX_least (x1 : Int32) (x2 : Int32) (σ : Sg) : Option (Int32 × Sg) := (fX_isPerson x1 σ).bind fun q1 => if q1 = 0 then some ((-1000001), σ) else (fX_isWithin x2 0 60 σ).bind fun q3 => if q3 = 0 then some ((-1000001), σ) else (fH_isBrought 4 x1 σ).bind fun q5 => if q5 = 0 then fX_least_L37 2000 x1 x2 0 σ else some ((-1000002), σ)
set_option maxRecDepth 100000 in
set_option maxHeartbeats 4000000 in
theorem eX_least {G : Gx} (x1 : Int32) (x2 : Int32) (σ : Sg) (q : (Int32 × Sg)) (h : fX_least x1 x2 σ = some q) : Evm G yX11_least MX11_least [.ref (gb G + 0), .int x1, .int x2] σ (some (.int q.1)) q.2 := by
  refine Ev.of (by decide +kernel) rfl rfl (Nat.le_of_ble_eq_true rfl) ?_
  show Vm G MX11_least (some (.int q.1)) q.2 0 [(0, .ref (gb G + 0)), (1, .int x1), (2, .int x2)] [] σ
  unfold fX_least at h
  refine v_aload_n dX11_least_0 0 rfl rfl (v_iload_n dX11_least_1 1 rfl rfl ?_)
  obtain ⟨q1, hq1, h⟩ := bind_some h
  refine v_callV (As := [.int x1]) (S := []) dX11_least_2 tw440 tw442 tw9 ykX11_isPerson lc_0 shc_0 (by decide) ok_10 rfl (by decide) rfl rfl (Nat.le_of_ble_eq_true rfl) (by decide) (eX_isPerson x1 _ _ hq1) ?_
  refine v_if_eq (tgt := 18) dX11_least_5 (by decide) (fun c2 => ?_) (fun c2 => ?_)
  · replace h := ite_t c2 h
    refine v_ldc dX11_least_18 tw297 ?_
    replace h := Option.some.inj h
    subst h
    exact v_iret dX11_least_20 rfl rfl rfl rfl rfl
  · replace h := ite_f c2 h
    refine v_iload_n dX11_least_8 2 rfl rfl (v_iconst dX11_least_9 rfl (v_bipush (v := 60) dX11_least_10 rfl ?_))
    obtain ⟨q3, hq3, h⟩ := bind_some h
    refine v_callS (As := [.int x2, .int 0, .int 60]) (S := []) dX11_least_12 tw294 tw295 ykX11_isWithin rfl (by decide) rfl rfl (Nat.le_of_ble_eq_true rfl) (by decide) (eX_isWithin x2 0 60 _ _ hq3) ?_
    refine v_if_ne (tgt := 21) dX11_least_15 (by decide) (fun c4 => ?_) (fun c4 => ?_)
    · replace h := ite_f c4 h
      refine v_aload_n dX11_least_21 0 rfl rfl (vm_getR (t := 4) dX11_least_22 fsX11_25 lc_0 shc_0 (by decide) rf_0_2 (v_iload_n dX11_least_25 1 rfl rfl ?_))
      obtain ⟨q5, hq5, h⟩ := bind_some h
      refine v_callV (As := [.int x1]) (S := []) dX11_least_26 tw465 tw425 tw426 ykX4_isBrought ((isH_s isH_4).2.1) ((isH_s isH_4).1.1) (by decide) ok_4 rfl (by decide) rfl rfl (Nat.le_of_ble_eq_true rfl) (by decide) (eH_isBrought 4 isH_4 x1 _ _ hq5) ?_
      refine v_if_eq (tgt := 35) dX11_least_29 (by decide) (fun c6 => ?_) (fun c6 => ?_)
      · replace h := ite_t c6 h
        exact v_iconst dX11_least_35 rfl (v_istore_n dX11_least_36 [0, 1, 2, 3] rfl (by decide) rfl (v_sub [1, 2, 3, 0] rfl (sX_least_L37 2000 x1 x2 0 _ h)))
      · replace h := ite_f c6 h
        refine v_ldc dX11_least_32 tw400 ?_
        replace h := Option.some.inj h
        subst h
        exact v_iret dX11_least_34 rfl rfl rfl rfl rfl
    · replace h := ite_t c4 h
      refine v_ldc dX11_least_18 tw297 ?_
      replace h := Option.some.inj h
      subst h
      exact v_iret dX11_least_20 rfl rfl rfl rfl rfl
def fJ_bitCount (x0 : Int32) (σ : Sg) : Option Int32 := some ((((((((x0 - (((x0.toUInt32 >>> ((1 : Int32).toUInt32 &&& Int32.toUInt32 31)).toInt32) &&& 1431655765)) &&& 858993459) + ((((x0 - (((x0.toUInt32 >>> ((1 : Int32).toUInt32 &&& Int32.toUInt32 31)).toInt32) &&& 1431655765)).toUInt32 >>> ((2 : Int32).toUInt32 &&& Int32.toUInt32 31)).toInt32) &&& 858993459)) + (((((x0 - (((x0.toUInt32 >>> ((1 : Int32).toUInt32 &&& Int32.toUInt32 31)).toInt32) &&& 1431655765)) &&& 858993459) + ((((x0 - (((x0.toUInt32 >>> ((1 : Int32).toUInt32 &&& Int32.toUInt32 31)).toInt32) &&& 1431655765)).toUInt32 >>> ((2 : Int32).toUInt32 &&& Int32.toUInt32 31)).toInt32) &&& 858993459)).toUInt32 >>> ((4 : Int32).toUInt32 &&& Int32.toUInt32 31)).toInt32)) &&& 252645135) + (((((((x0 - (((x0.toUInt32 >>> ((1 : Int32).toUInt32 &&& Int32.toUInt32 31)).toInt32) &&& 1431655765)) &&& 858993459) + ((((x0 - (((x0.toUInt32 >>> ((1 : Int32).toUInt32 &&& Int32.toUInt32 31)).toInt32) &&& 1431655765)).toUInt32 >>> ((2 : Int32).toUInt32 &&& Int32.toUInt32 31)).toInt32) &&& 858993459)) + (((((x0 - (((x0.toUInt32 >>> ((1 : Int32).toUInt32 &&& Int32.toUInt32 31)).toInt32) &&& 1431655765)) &&& 858993459) + ((((x0 - (((x0.toUInt32 >>> ((1 : Int32).toUInt32 &&& Int32.toUInt32 31)).toInt32) &&& 1431655765)).toUInt32 >>> ((2 : Int32).toUInt32 &&& Int32.toUInt32 31)).toInt32) &&& 858993459)).toUInt32 >>> ((4 : Int32).toUInt32 &&& Int32.toUInt32 31)).toInt32)) &&& 252645135).toUInt32 >>> ((8 : Int32).toUInt32 &&& Int32.toUInt32 31)).toInt32)) + ((((((((x0 - (((x0.toUInt32 >>> ((1 : Int32).toUInt32 &&& Int32.toUInt32 31)).toInt32) &&& 1431655765)) &&& 858993459) + ((((x0 - (((x0.toUInt32 >>> ((1 : Int32).toUInt32 &&& Int32.toUInt32 31)).toInt32) &&& 1431655765)).toUInt32 >>> ((2 : Int32).toUInt32 &&& Int32.toUInt32 31)).toInt32) &&& 858993459)) + (((((x0 - (((x0.toUInt32 >>> ((1 : Int32).toUInt32 &&& Int32.toUInt32 31)).toInt32) &&& 1431655765)) &&& 858993459) + ((((x0 - (((x0.toUInt32 >>> ((1 : Int32).toUInt32 &&& Int32.toUInt32 31)).toInt32) &&& 1431655765)).toUInt32 >>> ((2 : Int32).toUInt32 &&& Int32.toUInt32 31)).toInt32) &&& 858993459)).toUInt32 >>> ((4 : Int32).toUInt32 &&& Int32.toUInt32 31)).toInt32)) &&& 252645135) + (((((((x0 - (((x0.toUInt32 >>> ((1 : Int32).toUInt32 &&& Int32.toUInt32 31)).toInt32) &&& 1431655765)) &&& 858993459) + ((((x0 - (((x0.toUInt32 >>> ((1 : Int32).toUInt32 &&& Int32.toUInt32 31)).toInt32) &&& 1431655765)).toUInt32 >>> ((2 : Int32).toUInt32 &&& Int32.toUInt32 31)).toInt32) &&& 858993459)) + (((((x0 - (((x0.toUInt32 >>> ((1 : Int32).toUInt32 &&& Int32.toUInt32 31)).toInt32) &&& 1431655765)) &&& 858993459) + ((((x0 - (((x0.toUInt32 >>> ((1 : Int32).toUInt32 &&& Int32.toUInt32 31)).toInt32) &&& 1431655765)).toUInt32 >>> ((2 : Int32).toUInt32 &&& Int32.toUInt32 31)).toInt32) &&& 858993459)).toUInt32 >>> ((4 : Int32).toUInt32 &&& Int32.toUInt32 31)).toInt32)) &&& 252645135).toUInt32 >>> ((8 : Int32).toUInt32 &&& Int32.toUInt32 31)).toInt32)).toUInt32 >>> ((16 : Int32).toUInt32 &&& Int32.toUInt32 31)).toInt32)) &&& 63)
set_option maxRecDepth 100000 in
set_option maxHeartbeats 4000000 in
theorem eJ_bitCount {G : Gx} (x0 : Int32) (σ : Sg) (q : Int32) (h : fJ_bitCount x0 σ = some q) : Evm G yJ6_bitCount_0f7a4 MJ6_bitCount_0f7a4 [.int x0] σ (some (.int q)) σ := by
  refine Ev.of (by decide +kernel) rfl rfl (Nat.le_of_ble_eq_true rfl) ?_
  show Vm G MJ6_bitCount_0f7a4 (some (.int q)) σ 0 [(0, .int x0)] [] σ
  unfold fJ_bitCount at h
  refine v_iload_n dJ6_bitCount_0f7a4_0 0 rfl rfl (v_iload_n dJ6_bitCount_0f7a4_1 0 rfl rfl (v_iconst dJ6_bitCount_0f7a4_2 rfl (v_iushr dJ6_bitCount_0f7a4_3 (v_ldcw dJ6_bitCount_0f7a4_4 tw529 (v_iand dJ6_bitCount_0f7a4_7 (v_isub dJ6_bitCount_0f7a4_8 (v_istore_n dJ6_bitCount_0f7a4_9 [0] rfl (by decide) rfl (v_iload_n dJ6_bitCount_0f7a4_10 0 rfl rfl (v_ldcw dJ6_bitCount_0f7a4_11 tw530 ?_)))))))))
  refine v_iand dJ6_bitCount_0f7a4_14 (v_iload_n dJ6_bitCount_0f7a4_15 0 rfl rfl (v_iconst dJ6_bitCount_0f7a4_16 rfl (v_iushr dJ6_bitCount_0f7a4_17 (v_ldcw dJ6_bitCount_0f7a4_18 tw530 (v_iand dJ6_bitCount_0f7a4_21 (v_iadd dJ6_bitCount_0f7a4_22 (v_istore_n dJ6_bitCount_0f7a4_23 [0] rfl (by decide) rfl (v_iload_n dJ6_bitCount_0f7a4_24 0 rfl rfl (v_iload_n dJ6_bitCount_0f7a4_25 0 rfl rfl ?_)))))))))
  refine v_iconst dJ6_bitCount_0f7a4_26 rfl (v_iushr dJ6_bitCount_0f7a4_27 (v_iadd dJ6_bitCount_0f7a4_28 (v_ldcw dJ6_bitCount_0f7a4_29 tw531 (v_iand dJ6_bitCount_0f7a4_32 (v_istore_n dJ6_bitCount_0f7a4_33 [0] rfl (by decide) rfl (v_iload_n dJ6_bitCount_0f7a4_34 0 rfl rfl (v_iload_n dJ6_bitCount_0f7a4_35 0 rfl rfl (v_bipush (v := 8) dJ6_bitCount_0f7a4_36 rfl (v_iushr dJ6_bitCount_0f7a4_38 ?_)))))))))
  refine v_iadd dJ6_bitCount_0f7a4_39 (v_istore_n dJ6_bitCount_0f7a4_40 [0] rfl (by decide) rfl (v_iload_n dJ6_bitCount_0f7a4_41 0 rfl rfl (v_iload_n dJ6_bitCount_0f7a4_42 0 rfl rfl (v_bipush (v := 16) dJ6_bitCount_0f7a4_43 rfl (v_iushr dJ6_bitCount_0f7a4_45 (v_iadd dJ6_bitCount_0f7a4_46 (v_istore_n dJ6_bitCount_0f7a4_47 [0] rfl (by decide) rfl (v_iload_n dJ6_bitCount_0f7a4_48 0 rfl rfl (v_bipush (v := 63) dJ6_bitCount_0f7a4_49 rfl ?_)))))))))
  refine v_iand dJ6_bitCount_0f7a4_51 ?_
  replace h := Option.some.inj h
  subst h
  exact v_iret dJ6_bitCount_0f7a4_52 rfl rfl rfl rfl rfl
def fX_worth (x1 : Int32) (σ : Sg) : Option (Int32 × Sg) := (fH_become 10 4 σ).bind fun q1 => (fH_conceal 10 x1 q1).bind fun q2 => (fH_lastWithin 10 99 q2).bind fun q3 => (fJ_bitCount (q3.2 10 9) q3.2).bind fun q4 => (fJ_bitCount x1 q3.2).bind fun q5 => some (((q4 * 1000) + ((99 - q3.1) * 10)) + (6 - q5), q3.2)
set_option maxRecDepth 100000 in
set_option maxHeartbeats 4000000 in
theorem eX_worth {G : Gx} (x1 : Int32) (σ : Sg) (q : (Int32 × Sg)) (h : fX_worth x1 σ = some q) : Evm G yX11_worth MX11_worth [.ref (gb G + 0), .int x1] σ (some (.int q.1)) q.2 := by
  refine Ev.of (by decide +kernel) rfl rfl (Nat.le_of_ble_eq_true rfl) ?_
  show Vm G MX11_worth (some (.int q.1)) q.2 0 [(0, .ref (gb G + 0)), (1, .int x1)] [] σ
  unfold fX_worth at h
  refine v_aload_n dX11_worth_0 0 rfl rfl (vm_getR (t := 10) dX11_worth_1 fsX11_29 lc_0 shc_0 (by decide) rf_0_3 (v_aload_n dX11_worth_4 0 rfl rfl (vm_getR (t := 4) dX11_worth_5 fsX11_25 lc_0 shc_0 (by decide) rf_0_2 ?_)))
  obtain ⟨q1, hq1, h⟩ := bind_some h
  refine v_callV (As := [.ref (gb G + 4)]) (S := []) dX11_worth_8 tw383 tw384 tw385 ykX4_become ((isH_s isH_10).2.1) ((isH_s isH_10).1.1) (by decide) ok_4 rfl (by decide) rfl rfl (Nat.le_of_ble_eq_true rfl) (by decide) (eH_become 10 isH_10 4 isH_4 _ _ hq1) ?_
  refine v_aload_n dX11_worth_11 0 rfl rfl (vm_getR (t := 10) dX11_worth_12 fsX11_29 lc_0 shc_0 (by decide) rf_0_3 (v_iload_n dX11_worth_15 1 rfl rfl ?_))
  obtain ⟨q2, hq2, h⟩ := bind_some h
  refine v_callV (As := [.int x1]) (S := []) dX11_worth_16 tw521 tw522 tw523 ykX4_conceal ((isH_s isH_10).2.1) ((isH_s isH_10).1.1) (by decide) ok_4 rfl (by decide) rfl rfl (Nat.le_of_ble_eq_true rfl) (by decide) (eH_conceal 10 isH_10 x1 _ _ hq2) ?_
  refine v_aload_n dX11_worth_19 0 rfl rfl (vm_getR (t := 10) dX11_worth_20 fsX11_29 lc_0 shc_0 (by decide) rf_0_3 (v_bipush (v := 99) dX11_worth_23 rfl ?_))
  obtain ⟨q3, hq3, h⟩ := bind_some h
  refine v_callV (As := [.int 99]) (S := []) dX11_worth_25 tw484 tw485 tw486 ykX4_lastWithin ((isH_s isH_10).2.1) ((isH_s isH_10).1.1) (by decide) ok_4 rfl (by decide) rfl rfl (Nat.le_of_ble_eq_true rfl) (by decide) (eH_lastWithin 10 isH_10 99 _ _ hq3) ?_
  refine v_istore_n dX11_worth_28 [0, 1, 2] rfl (by decide) rfl (v_aload_n dX11_worth_29 1 rfl rfl (vm_getR (t := 10) dX11_worth_30 fsX11_29 lc_0 shc_0 (by decide) rf_0_3 (vm_getI dX11_worth_33 fsX11_217 ((isH_s isH_10).2.1) ((isH_s isH_10).1.1) (by decide) ((isH_r isH_10).2.2.2.2.2.1) ?_)))
  obtain ⟨q4, hq4, h⟩ := bind_some h
  refine v_callS (As := [.int (q3.2 10 9)]) (S := []) dX11_worth_36 tw526 tw527 ykJ6_bitCount_0f7a4 rfl (by decide) rfl rfl (Nat.le_of_ble_eq_true rfl) (by decide) (eJ_bitCount (q3.2 10 9) _ _ hq4) ?_
  refine v_istore_n dX11_worth_39 [0, 1, 3] rfl (by decide) rfl (v_iload_n dX11_worth_40 0 rfl rfl (v_sipush (v := 1000) dX11_worth_41 rfl (v_imul dX11_worth_44 (v_bipush (v := 99) dX11_worth_45 rfl (v_iload_n dX11_worth_47 1 rfl rfl (v_isub dX11_worth_48 (v_bipush (v := 10) dX11_worth_49 rfl (v_imul dX11_worth_51 (v_iadd dX11_worth_52 ?_)))))))))
  refine v_bipush (v := 6) dX11_worth_53 rfl (v_iload_n dX11_worth_55 2 rfl rfl ?_)
  obtain ⟨q5, hq5, h⟩ := bind_some h
  refine v_callS (As := [.int x1]) (S := [.int 6, .int ((q4 * 1000) + ((99 - q3.1) * 10))]) dX11_worth_56 tw526 tw527 ykJ6_bitCount_0f7a4 rfl (by decide) rfl rfl (Nat.le_of_ble_eq_true rfl) (by decide) (eJ_bitCount x1 _ _ hq5) ?_
  refine v_isub dX11_worth_59 (v_iadd dX11_worth_60 ?_)
  replace h := Option.some.inj h
  subst h
  exact v_iret dX11_worth_61 rfl rfl rfl rfl rfl
def fX_hide_B71 (K44 : Int32 → Int32 → Int32 → Int32 → Int32 → Sg → Option (Int32 × Sg)) (x1 : Int32) (x2 : Int32) (x3 : Int32) (x4 : Int32) (x5 : Int32) (σ : Sg) : Option (Int32 × Sg) := K44 x1 x2 x3 x4 (x5 + 1) σ
set_option maxRecDepth 100000 in
set_option maxHeartbeats 4000000 in
theorem sX_hide_B71 {G : Gx} {q : (Int32 × Sg)} (K44 : Int32 → Int32 → Int32 → Int32 → Int32 → Sg → Option (Int32 × Sg)) (hK44 : ∀ (x1 : Int32) (x2 : Int32) (x3 : Int32) (x4 : Int32) (x5 : Int32) (σ : Sg), K44 x1 x2 x3 x4 x5 σ = some q → Vm G MX11_hide (some (.int q.1)) q.2 44 [(0, .ref (gb G + 0)), (1, .int x1), (2, .int x2), (3, .int x3), (4, .int x4), (5, .int x5)] [] σ) (x1 : Int32) (x2 : Int32) (x3 : Int32) (x4 : Int32) (x5 : Int32) (σ : Sg) (h : fX_hide_B71 K44 x1 x2 x3 x4 x5 σ = some q) : Vm G MX11_hide (some (.int q.1)) q.2 71 [(0, .ref (gb G + 0)), (1, .int x1), (2, .int x2), (3, .int x3), (4, .int x4), (5, .int x5)] [] σ := by
  unfold fX_hide_B71 at h
  exact v_iinc (v := x5 + 1) dX11_hide_71 5 rfl rfl [0, 1, 2, 3, 4, 5] rfl (by decide) (v_goto (tgt := 44) dX11_hide_74 (by decide) (v_sub [1, 2, 3, 4, 5, 0] rfl (hK44 x1 x2 x3 x4 (x5 + 1) _ h)))
def fX_hide_b44 (K44 : Int32 → Int32 → Int32 → Int32 → Int32 → Sg → Option (Int32 × Sg)) (x1 : Int32) (x2 : Int32) (x3 : Int32) (x4 : Int32) (x5 : Int32) (σ : Sg) : Option (Int32 × Sg) := if x4 ≤ x5 then (if x1 = 0 then some (x3 / 1000, σ) else some (x2, σ)) else (fX_worth x5 σ).bind fun q7 => if q7.1 ≤ x3 then fX_hide_B71 K44 x1 x2 x3 x4 x5 q7.2 else fX_hide_B71 K44 x1 x5 q7.1 x4 x5 q7.2
def fX_hide_L44 (n : Nat) : Int32 → Int32 → Int32 → Int32 → Int32 → Sg → Option (Int32 × Sg) := Nat.rec (fun _ _ _ _ _ _ => none) (fun _ K => fX_hide_b44 K) n
set_option maxRecDepth 100000 in
set_option maxHeartbeats 4000000 in
theorem sX_hide_b44 {G : Gx} {q : (Int32 × Sg)} (K44 : Int32 → Int32 → Int32 → Int32 → Int32 → Sg → Option (Int32 × Sg)) (hK44 : ∀ (x1 : Int32) (x2 : Int32) (x3 : Int32) (x4 : Int32) (x5 : Int32) (σ : Sg), K44 x1 x2 x3 x4 x5 σ = some q → Vm G MX11_hide (some (.int q.1)) q.2 44 [(0, .ref (gb G + 0)), (1, .int x1), (2, .int x2), (3, .int x3), (4, .int x4), (5, .int x5)] [] σ) (x1 : Int32) (x2 : Int32) (x3 : Int32) (x4 : Int32) (x5 : Int32) (σ : Sg) (h : fX_hide_b44 K44 x1 x2 x3 x4 x5 σ = some q) : Vm G MX11_hide (some (.int q.1)) q.2 44 [(0, .ref (gb G + 0)), (1, .int x1), (2, .int x2), (3, .int x3), (4, .int x4), (5, .int x5)] [] σ := by
  unfold fX_hide_b44 at h
  refine v_iload dX11_hide_44 5 rfl (v_iload dX11_hide_46 4 rfl (v_icmp_ge (tgt := 77) dX11_hide_48 (by decide) (fun c5 => ?_) (fun c5 => ?_)))
  · replace h := ite_t c5 h
    refine v_iload_n dX11_hide_77 1 rfl rfl (v_if_ne (tgt := 89) dX11_hide_78 (by decide) (fun c6 => ?_) (fun c6 => ?_))
    · replace h := ite_f c6 h
      refine v_iload_n dX11_hide_89 2 rfl rfl ?_
      replace h := Option.some.inj h
      subst h
      exact v_iret dX11_hide_90 rfl rfl rfl rfl rfl
    · replace h := ite_t c6 h
      refine v_iload_n dX11_hide_81 3 rfl rfl (v_sipush (v := 1000) dX11_hide_82 rfl (v_idiv dX11_hide_85 (by decide) (v_goto (tgt := 90) dX11_hide_86 (by decide) ?_)))
      replace h := Option.some.inj h
      subst h
      exact v_iret dX11_hide_90 rfl rfl rfl rfl rfl
  · replace h := ite_f c5 h
    refine v_aload_n dX11_hide_51 0 rfl rfl (v_iload dX11_hide_52 5 rfl ?_)
    obtain ⟨q7, hq7, h⟩ := bind_some h
    refine v_callV (As := [.int x5]) (S := []) dX11_hide_54 tw517 tw519 tw11 ykX11_worth lc_0 shc_0 (by decide) ok_10 rfl (by decide) rfl rfl (Nat.le_of_ble_eq_true rfl) (by decide) (eX_worth x5 _ _ hq7) ?_
    refine v_istore dX11_hide_57 [0, 1, 2, 3, 4, 5, 6] rfl (by decide) (v_iload dX11_hide_59 0 rfl (v_iload_n dX11_hide_61 4 rfl rfl (v_icmp_le (tgt := 71) dX11_hide_62 (by decide) (fun c8 => ?_) (fun c8 => ?_))))
    · replace h := ite_t c8 h
      exact v_sub [1, 2, 3, 4, 5, 6] rfl (sX_hide_B71 K44 hK44 x1 x2 x3 x4 x5 _ h)
    · replace h := ite_f c8 h
      exact v_iload dX11_hide_65 6 rfl (v_istore_n dX11_hide_67 [0, 1, 2, 3, 5, 6] rfl (by decide) rfl (v_iload dX11_hide_68 1 rfl (v_istore_n dX11_hide_70 [0, 1, 3, 4, 5, 6] rfl (by decide) rfl (v_sub [2, 3, 1, 0, 4, 5] rfl (sX_hide_B71 K44 hK44 x1 x5 q7.1 x4 x5 _ h)))))
theorem sX_hide_L44 {G : Gx} {q : (Int32 × Sg)} (n : Nat) : ∀ (x1 : Int32) (x2 : Int32) (x3 : Int32) (x4 : Int32) (x5 : Int32) (σ : Sg) (h : fX_hide_L44 n x1 x2 x3 x4 x5 σ = some q), Vm G MX11_hide (some (.int q.1)) q.2 44 [(0, .ref (gb G + 0)), (1, .int x1), (2, .int x2), (3, .int x3), (4, .int x4), (5, .int x5)] [] σ := by
  induction n with
  | zero => intro x1 x2 x3 x4 x5 σ h; cases h
  | succ n ih => intro x1 x2 x3 x4 x5 σ h; exact sX_hide_b44  _ ih x1 x2 x3 x4 x5 σ h
def fX_hide (x1 : Int32) (σ : Sg) : Option (Int32 × Sg) := if (σ 0 9) = 0 then some ((-1000002), σ) else (fX_isWithin x1 0 1 σ).bind fun q2 => if q2 = 0 then some ((-1000001), σ) else (fX_worth 0 σ).bind fun q4 => fX_hide_L44 2000 x1 0 q4.1 (1 <<< ((q4.2 4 5) &&& 31)) 1 q4.2
set_option maxRecDepth 100000 in
set_option maxHeartbeats 4000000 in
theorem eX_hide {G : Gx} (x1 : Int32) (σ : Sg) (q : (Int32 × Sg)) (h : fX_hide x1 σ = some q) : Evm G yX11_hide MX11_hide [.ref (gb G + 0), .int x1] σ (some (.int q.1)) q.2 := by
  refine Ev.of (by decide +kernel) rfl rfl (Nat.le_of_ble_eq_true rfl) ?_
  show Vm G MX11_hide (some (.int q.1)) q.2 0 [(0, .ref (gb G + 0)), (1, .int x1)] [] σ
  unfold fX_hide at h
  refine v_aload_n dX11_hide_0 0 rfl rfl (vm_getI dX11_hide_1 fsX11_149 lc_0 shc_0 (by decide) rf_0_9 (v_if_ne (tgt := 10) dX11_hide_4 (by decide) (fun c1 => ?_) (fun c1 => ?_)))
  · replace h := ite_f c1 h
    refine v_iload_n dX11_hide_10 1 rfl rfl (v_iconst dX11_hide_11 rfl (v_iconst dX11_hide_12 rfl ?_))
    obtain ⟨q2, hq2, h⟩ := bind_some h
    refine v_callS (As := [.int x1, .int 0, .int 1]) (S := []) dX11_hide_13 tw294 tw295 ykX11_isWithin rfl (by decide) rfl rfl (Nat.le_of_ble_eq_true rfl) (by decide) (eX_isWithin x1 0 1 _ _ hq2) ?_
    refine v_if_ne (tgt := 22) dX11_hide_16 (by decide) (fun c3 => ?_) (fun c3 => ?_)
    · replace h := ite_f c3 h
      refine v_iconst dX11_hide_22 rfl (v_istore_n dX11_hide_23 [0, 1, 2] rfl (by decide) rfl (v_aload_n dX11_hide_24 1 rfl rfl (v_iconst dX11_hide_25 rfl ?_)))
      obtain ⟨q4, hq4, h⟩ := bind_some h
      refine v_callV (As := [.int 0]) (S := []) dX11_hide_26 tw517 tw519 tw11 ykX11_worth lc_0 shc_0 (by decide) ok_10 rfl (by decide) rfl rfl (Nat.le_of_ble_eq_true rfl) (by decide) (eX_worth 0 _ _ hq4) ?_
      exact v_istore_n dX11_hide_29 [0, 1, 2, 3] rfl (by decide) rfl (v_iconst dX11_hide_30 rfl (v_aload_n dX11_hide_31 2 rfl rfl (vm_getR (t := 4) dX11_hide_32 fsX11_25 lc_0 shc_0 (by decide) rf_0_2 (vm_getI dX11_hide_35 fsX11_153 ((isH_s isH_4).2.1) ((isH_s isH_4).1.1) (by decide) ((isH_r isH_4).2.1) (v_ishl dX11_hide_38 (v_istore dX11_hide_39 [0, 1, 2, 3, 4] rfl (by decide) (v_iconst dX11_hide_41 rfl (v_istore dX11_hide_42 [0, 1, 2, 3, 4, 5] rfl (by decide) (v_sub [4, 5, 3, 2, 1, 0] rfl (sX_hide_L44 2000 x1 0 q4.1 (1 <<< ((q4.2 4 5) &&& 31)) 1 _ h))))))))))
    · replace h := ite_t c3 h
      refine v_ldc dX11_hide_19 tw297 ?_
      replace h := Option.some.inj h
      subst h
      exact v_iret dX11_hide_21 rfl rfl rfl rfl rfl
  · replace h := ite_t c1 h
    refine v_ldc dX11_hide_7 tw400 ?_
    replace h := Option.some.inj h
    subst h
    exact v_iret dX11_hide_9 rfl rfl rfl rfl rfl
def fX_beside_B127 (K55 : Int32 → Int32 → Int32 → Int32 → Int32 → Sg → Option (Int32 × Sg)) (x1 : Int32) (x2 : Int32) (x3 : Int32) (x4 : Int32) (x5 : Int32) (σ : Sg) : Option (Int32 × Sg) := K55 x1 x2 x3 x4 (x5 + 1) σ
set_option maxRecDepth 100000 in
set_option maxHeartbeats 4000000 in
theorem sX_beside_B127 {G : Gx} {q : (Int32 × Sg)} (K55 : Int32 → Int32 → Int32 → Int32 → Int32 → Sg → Option (Int32 × Sg)) (hK55 : ∀ (x1 : Int32) (x2 : Int32) (x3 : Int32) (x4 : Int32) (x5 : Int32) (σ : Sg), K55 x1 x2 x3 x4 x5 σ = some q → Vm G MX11_beside (some (.int q.1)) q.2 55 [(0, .ref (gb G + 0)), (1, .int x1), (2, .int x2), (3, .int x3), (4, .int x4), (5, .int x5)] [] σ) (x1 : Int32) (x2 : Int32) (x3 : Int32) (x4 : Int32) (x5 : Int32) (σ : Sg) (h : fX_beside_B127 K55 x1 x2 x3 x4 x5 σ = some q) : Vm G MX11_beside (some (.int q.1)) q.2 127 [(0, .ref (gb G + 0)), (1, .int x1), (2, .int x2), (3, .int x3), (4, .int x4), (5, .int x5)] [] σ := by
  unfold fX_beside_B127 at h
  exact v_iinc (v := x5 + 1) dX11_beside_127 5 rfl rfl [0, 1, 2, 3, 4, 5] rfl (by decide) (v_goto (tgt := 55) dX11_beside_130 (by decide) (v_sub [1, 2, 3, 4, 5, 0] rfl (hK55 x1 x2 x3 x4 (x5 + 1) _ h)))
def fX_beside_B120 (K55 : Int32 → Int32 → Int32 → Int32 → Int32 → Sg → Option (Int32 × Sg)) (x1 : Int32) (x2 : Int32) (x5 : Int32) (x6 : Int32) (σ : Sg) : Option (Int32 × Sg) := fX_beside_B127 K55 x1 x2 x5 x6 x5 σ
set_option maxRecDepth 100000 in
set_option maxHeartbeats 4000000 in
theorem sX_beside_B120 {G : Gx} {q : (Int32 × Sg)} (K55 : Int32 → Int32 → Int32 → Int32 → Int32 → Sg → Option (Int32 × Sg)) (hK55 : ∀ (x1 : Int32) (x2 : Int32) (x3 : Int32) (x4 : Int32) (x5 : Int32) (σ : Sg), K55 x1 x2 x3 x4 x5 σ = some q → Vm G MX11_beside (some (.int q.1)) q.2 55 [(0, .ref (gb G + 0)), (1, .int x1), (2, .int x2), (3, .int x3), (4, .int x4), (5, .int x5)] [] σ) (x1 : Int32) (x2 : Int32) (x5 : Int32) (x6 : Int32) (σ : Sg) (h : fX_beside_B120 K55 x1 x2 x5 x6 σ = some q) : Vm G MX11_beside (some (.int q.1)) q.2 120 [(0, .ref (gb G + 0)), (1, .int x1), (2, .int x2), (5, .int x5), (6, .int x6)] [] σ := by
  unfold fX_beside_B120 at h
  exact v_iload dX11_beside_120 3 rfl (v_istore_n dX11_beside_122 [0, 1, 2, 3, 4, 5] rfl (by decide) rfl (v_iload dX11_beside_123 5 rfl (v_istore dX11_beside_125 [0, 1, 2, 3, 4, 5] rfl (by decide) (v_sub [2, 3, 4, 1, 0, 5] rfl (sX_beside_B127 K55 hK55 x1 x2 x5 x6 x5 _ h)))))
def fX_beside_b55 (K55 : Int32 → Int32 → Int32 → Int32 → Int32 → Sg → Option (Int32 × Sg)) (x1 : Int32) (x2 : Int32) (x3 : Int32) (x4 : Int32) (x5 : Int32) (σ : Sg) : Option (Int32 × Sg) := if (σ 4 6) < x5 then (if x2 = 0 then some (x3, σ) else some (x4, σ)) else (fH_become 10 4 σ).bind fun q10 => (fH_put 10 1 x1 x5 q10).bind fun q11 => (fH_until 10 x1 99 q11).bind fun q12 => if q12.1 = (-1) then fX_beside_B127 K55 x1 x2 x3 x4 x5 q12.2 else if x3 = (-1000000) then fX_beside_B120 K55 x1 x2 x5 q12.1 q12.2 else if x4 ≤ q12.1 then fX_beside_B127 K55 x1 x2 x3 x4 x5 q12.2 else fX_beside_B120 K55 x1 x2 x5 q12.1 q12.2
def fX_beside_L55 (n : Nat) : Int32 → Int32 → Int32 → Int32 → Int32 → Sg → Option (Int32 × Sg) := Nat.rec (fun _ _ _ _ _ _ => none) (fun _ K => fX_beside_b55 K) n
set_option maxRecDepth 100000 in
set_option maxHeartbeats 4000000 in
theorem sX_beside_b55 {G : Gx} {q : (Int32 × Sg)} (K55 : Int32 → Int32 → Int32 → Int32 → Int32 → Sg → Option (Int32 × Sg)) (hK55 : ∀ (x1 : Int32) (x2 : Int32) (x3 : Int32) (x4 : Int32) (x5 : Int32) (σ : Sg), K55 x1 x2 x3 x4 x5 σ = some q → Vm G MX11_beside (some (.int q.1)) q.2 55 [(0, .ref (gb G + 0)), (1, .int x1), (2, .int x2), (3, .int x3), (4, .int x4), (5, .int x5)] [] σ) (x1 : Int32) (x2 : Int32) (x3 : Int32) (x4 : Int32) (x5 : Int32) (σ : Sg) (h : fX_beside_b55 K55 x1 x2 x3 x4 x5 σ = some q) : Vm G MX11_beside (some (.int q.1)) q.2 55 [(0, .ref (gb G + 0)), (1, .int x1), (2, .int x2), (3, .int x3), (4, .int x4), (5, .int x5)] [] σ := by
  unfold fX_beside_b55 at h
  refine v_iload dX11_beside_55 5 rfl (v_aload_n dX11_beside_57 0 rfl rfl (vm_getR (t := 4) dX11_beside_58 fsX11_25 lc_0 shc_0 (by decide) rf_0_2 (vm_getI dX11_beside_61 fsX11_185 ((isH_s isH_4).2.1) ((isH_s isH_4).1.1) (by decide) ((isH_r isH_4).2.2.1) (v_icmp_gt (tgt := 133) dX11_beside_64 (by decide) (fun c8 => ?_) (fun c8 => ?_)))))
  · replace h := ite_t c8 h
    refine v_iload_n dX11_beside_133 2 rfl rfl (v_if_ne (tgt := 141) dX11_beside_134 (by decide) (fun c9 => ?_) (fun c9 => ?_))
    · replace h := ite_f c9 h
      refine v_iload dX11_beside_141 4 rfl ?_
      replace h := Option.some.inj h
      subst h
      exact v_iret dX11_beside_143 rfl rfl rfl rfl rfl
    · replace h := ite_t c9 h
      refine v_iload_n dX11_beside_137 3 rfl rfl (v_goto (tgt := 143) dX11_beside_138 (by decide) ?_)
      replace h := Option.some.inj h
      subst h
      exact v_iret dX11_beside_143 rfl rfl rfl rfl rfl
  · replace h := ite_f c8 h
    refine v_aload_n dX11_beside_67 0 rfl rfl (vm_getR (t := 10) dX11_beside_68 fsX11_29 lc_0 shc_0 (by decide) rf_0_3 (v_aload_n dX11_beside_71 0 rfl rfl (vm_getR (t := 4) dX11_beside_72 fsX11_25 lc_0 shc_0 (by decide) rf_0_2 ?_)))
    obtain ⟨q10, hq10, h⟩ := bind_some h
    refine v_callV (As := [.ref (gb G + 4)]) (S := []) dX11_beside_75 tw383 tw384 tw385 ykX4_become ((isH_s isH_10).2.1) ((isH_s isH_10).1.1) (by decide) ok_4 rfl (by decide) rfl rfl (Nat.le_of_ble_eq_true rfl) (by decide) (eH_become 10 isH_10 4 isH_4 _ _ hq10) ?_
    refine v_aload_n dX11_beside_78 0 rfl rfl (vm_getR (t := 10) dX11_beside_79 fsX11_29 lc_0 shc_0 (by decide) rf_0_3 (v_iconst dX11_beside_82 rfl (v_iload_n dX11_beside_83 1 rfl rfl (v_iload dX11_beside_84 5 rfl ?_))))
    obtain ⟨q11, hq11, h⟩ := bind_some h
    refine v_callV (As := [.int 1, .int x1, .int x5]) (S := []) dX11_beside_86 tw444 tw445 tw446 ykX4_put ((isH_s isH_10).2.1) ((isH_s isH_10).1.1) (by decide) ok_4 rfl (by decide) rfl rfl (Nat.le_of_ble_eq_true rfl) (by decide) (eH_put 10 isH_10 1 x1 x5 _ _ hq11) ?_
    refine v_aload_n dX11_beside_89 0 rfl rfl (vm_getR (t := 10) dX11_beside_90 fsX11_29 lc_0 shc_0 (by decide) rf_0_3 (v_iload_n dX11_beside_93 1 rfl rfl (v_bipush (v := 99) dX11_beside_94 rfl ?_)))
    obtain ⟨q12, hq12, h⟩ := bind_some h
    refine v_callV (As := [.int x1, .int 99]) (S := []) dX11_beside_96 tw497 tw498 tw499 ykX4_until ((isH_s isH_10).2.1) ((isH_s isH_10).1.1) (by decide) ok_4 rfl (by decide) rfl rfl (Nat.le_of_ble_eq_true rfl) (by decide) (eH_until 10 isH_10 x1 99 _ _ hq12) ?_
    refine v_istore dX11_beside_99 [0, 1, 2, 3, 4, 5, 6] rfl (by decide) (v_iload dX11_beside_101 0 rfl (v_iconst (v := -1) dX11_beside_103 rfl (v_icmp_eq (tgt := 127) dX11_beside_104 (by decide) (fun c13 => ?_) (fun c13 => ?_))))
    · replace h := ite_t c13 h
      exact v_sub [1, 2, 3, 4, 5, 6] rfl (sX_beside_B127 K55 hK55 x1 x2 x3 x4 x5 _ h)
    · replace h := ite_f c13 h
      refine v_iload_n dX11_beside_107 4 rfl rfl (v_ldc dX11_beside_108 tw478 (v_icmp_eq (tgt := 120) dX11_beside_110 (by decide) (fun c14 => ?_) (fun c14 => ?_)))
      · replace h := ite_t c14 h
        exact v_sub [1, 2, 3, 6, 0] rfl (sX_beside_B120 K55 hK55 x1 x2 x5 q12.1 _ h)
      · replace h := ite_f c14 h
        refine v_iload dX11_beside_113 0 rfl (v_iload dX11_beside_115 5 rfl (v_icmp_ge (tgt := 127) dX11_beside_117 (by decide) (fun c15 => ?_) (fun c15 => ?_)))
        · replace h := ite_t c15 h
          exact v_sub [1, 2, 3, 4, 5, 6] rfl (sX_beside_B127 K55 hK55 x1 x2 x3 x4 x5 _ h)
        · replace h := ite_f c15 h
          exact v_sub [1, 2, 3, 6, 0] rfl (sX_beside_B120 K55 hK55 x1 x2 x5 q12.1 _ h)
theorem sX_beside_L55 {G : Gx} {q : (Int32 × Sg)} (n : Nat) : ∀ (x1 : Int32) (x2 : Int32) (x3 : Int32) (x4 : Int32) (x5 : Int32) (σ : Sg) (h : fX_beside_L55 n x1 x2 x3 x4 x5 σ = some q), Vm G MX11_beside (some (.int q.1)) q.2 55 [(0, .ref (gb G + 0)), (1, .int x1), (2, .int x2), (3, .int x3), (4, .int x4), (5, .int x5)] [] σ := by
  induction n with
  | zero => intro x1 x2 x3 x4 x5 σ h; cases h
  | succ n ih => intro x1 x2 x3 x4 x5 σ h; exact sX_beside_b55  _ ih x1 x2 x3 x4 x5 σ h
def fX_beside (x1 : Int32) (x2 : Int32) (σ : Sg) : Option (Int32 × Sg) := (fX_isPerson x1 σ).bind fun q1 => if q1 = 0 then some ((-1000001), σ) else (fX_isWithin x2 0 1 σ).bind fun q3 => if q3 = 0 then some ((-1000001), σ) else if (σ 4 8) = x1 then some ((-1000002), σ) else (fH_isBrought 4 x1 σ).bind fun q6 => if q6 = 0 then fX_beside_L55 2000 x1 x2 (-1000000) (-1000000) 0 σ else some ((-1000002), σ)
set_option maxRecDepth 100000 in
set_option maxHeartbeats 4000000 in
theorem eX_beside {G : Gx} (x1 : Int32) (x2 : Int32) (σ : Sg) (q : (Int32 × Sg)) (h : fX_beside x1 x2 σ = some q) : Evm G yX11_beside MX11_beside [.ref (gb G + 0), .int x1, .int x2] σ (some (.int q.1)) q.2 := by
  refine Ev.of (by decide +kernel) rfl rfl (Nat.le_of_ble_eq_true rfl) ?_
  show Vm G MX11_beside (some (.int q.1)) q.2 0 [(0, .ref (gb G + 0)), (1, .int x1), (2, .int x2)] [] σ
  unfold fX_beside at h
  refine v_aload_n dX11_beside_0 0 rfl rfl (v_iload_n dX11_beside_1 1 rfl rfl ?_)
  obtain ⟨q1, hq1, h⟩ := bind_some h
  refine v_callV (As := [.int x1]) (S := []) dX11_beside_2 tw440 tw442 tw9 ykX11_isPerson lc_0 shc_0 (by decide) ok_10 rfl (by decide) rfl rfl (Nat.le_of_ble_eq_true rfl) (by decide) (eX_isPerson x1 _ _ hq1) ?_
  refine v_if_eq (tgt := 17) dX11_beside_5 (by decide) (fun c2 => ?_) (fun c2 => ?_)
  · replace h := ite_t c2 h
    refine v_ldc dX11_beside_17 tw297 ?_
    replace h := Option.some.inj h
    subst h
    exact v_iret dX11_beside_19 rfl rfl rfl rfl rfl
  · replace h := ite_f c2 h
    refine v_iload_n dX11_beside_8 2 rfl rfl (v_iconst dX11_beside_9 rfl (v_iconst dX11_beside_10 rfl ?_))
    obtain ⟨q3, hq3, h⟩ := bind_some h
    refine v_callS (As := [.int x2, .int 0, .int 1]) (S := []) dX11_beside_11 tw294 tw295 ykX11_isWithin rfl (by decide) rfl rfl (Nat.le_of_ble_eq_true rfl) (by decide) (eX_isWithin x2 0 1 _ _ hq3) ?_
    refine v_if_ne (tgt := 20) dX11_beside_14 (by decide) (fun c4 => ?_) (fun c4 => ?_)
    · replace h := ite_f c4 h
      refine v_aload_n dX11_beside_20 0 rfl rfl (vm_getR (t := 4) dX11_beside_21 fsX11_25 lc_0 shc_0 (by decide) rf_0_2 (vm_getI dX11_beside_24 fsX11_182 ((isH_s isH_4).2.1) ((isH_s isH_4).1.1) (by decide) ((isH_r isH_4).2.2.2.2.1) (v_iload_n dX11_beside_27 1 rfl rfl (v_icmp_eq (tgt := 42) dX11_beside_28 (by decide) (fun c5 => ?_) (fun c5 => ?_)))))
      · replace h := ite_t c5 h
        refine v_ldc dX11_beside_42 tw400 ?_
        replace h := Option.some.inj h
        subst h
        exact v_iret dX11_beside_44 rfl rfl rfl rfl rfl
      · replace h := ite_f c5 h
        refine v_aload_n dX11_beside_31 0 rfl rfl (vm_getR (t := 4) dX11_beside_32 fsX11_25 lc_0 shc_0 (by decide) rf_0_2 (v_iload_n dX11_beside_35 1 rfl rfl ?_))
        obtain ⟨q6, hq6, h⟩ := bind_some h
        refine v_callV (As := [.int x1]) (S := []) dX11_beside_36 tw465 tw425 tw426 ykX4_isBrought ((isH_s isH_4).2.1) ((isH_s isH_4).1.1) (by decide) ok_4 rfl (by decide) rfl rfl (Nat.le_of_ble_eq_true rfl) (by decide) (eH_isBrought 4 isH_4 x1 _ _ hq6) ?_
        refine v_if_eq (tgt := 45) dX11_beside_39 (by decide) (fun c7 => ?_) (fun c7 => ?_)
        · replace h := ite_t c7 h
          exact v_ldc dX11_beside_45 tw478 (v_istore_n dX11_beside_47 [0, 1, 2, 3] rfl (by decide) rfl (v_ldc dX11_beside_48 tw478 (v_istore dX11_beside_50 [0, 1, 2, 3, 4] rfl (by decide) (v_iconst dX11_beside_52 rfl (v_istore dX11_beside_53 [0, 1, 2, 3, 4, 5] rfl (by decide) (v_sub [3, 4, 5, 2, 1, 0] rfl (sX_beside_L55 2000 x1 x2 (-1000000) (-1000000) 0 _ h)))))))
        · replace h := ite_f c7 h
          refine v_ldc dX11_beside_42 tw400 ?_
          replace h := Option.some.inj h
          subst h
          exact v_iret dX11_beside_44 rfl rfl rfl rfl rfl
    · replace h := ite_t c4 h
      refine v_ldc dX11_beside_17 tw297 ?_
      replace h := Option.some.inj h
      subst h
      exact v_iret dX11_beside_19 rfl rfl rfl rfl rfl
def fX_fitting_B81 (K24 : Int32 → Int32 → Nat → Int32 → Int32 → Int32 → Int32 → Int32 → Sg → Option (Int32 × Sg)) (x1 : Int32) (x2 : Int32) (r3 : Nat) (x4 : Int32) (x5 : Int32) (x7 : Int32) (x8 : Int32) (s0 : Int32) (s1 : Int32) (σ : Sg) : Option (Int32 × Sg) := K24 x1 x2 r3 x4 x5 (s1 ||| s0) x7 (x8 + 1) σ
set_option maxRecDepth 100000 in
set_option maxHeartbeats 4000000 in
theorem sX_fitting_B81 {G : Gx} {q : (Int32 × Sg)} (K24 : Int32 → Int32 → Nat → Int32 → Int32 → Int32 → Int32 → Int32 → Sg → Option (Int32 × Sg)) (hK24 : ∀ (x1 : Int32) (x2 : Int32) (r3 : Nat) (p3 : isR r3) (x4 : Int32) (x5 : Int32) (x6 : Int32) (x7 : Int32) (x8 : Int32) (σ : Sg), K24 x1 x2 r3 x4 x5 x6 x7 x8 σ = some q → Vm G MX11_fitting (some (.int q.1)) q.2 24 [(0, .ref (gb G + 0)), (1, .int x1), (2, .int x2), (3, .ref (gb G + r3)), (4, .int x4), (5, .int x5), (6, .int x6), (7, .int x7), (8, .int x8)] [] σ) (x1 : Int32) (x2 : Int32) (r3 : Nat) (p3 : isR r3) (x4 : Int32) (x5 : Int32) (x7 : Int32) (x8 : Int32) (s0 : Int32) (s1 : Int32) (σ : Sg) (h : fX_fitting_B81 K24 x1 x2 r3 x4 x5 x7 x8 s0 s1 σ = some q) : Vm G MX11_fitting (some (.int q.1)) q.2 81 [(0, .ref (gb G + 0)), (1, .int x1), (2, .int x2), (3, .ref (gb G + r3)), (4, .int x4), (5, .int x5), (7, .int x7), (8, .int x8)] [.int s0, .int s1] σ := by
  unfold fX_fitting_B81 at h
  exact v_ior dX11_fitting_81 (v_istore dX11_fitting_82 [0, 1, 2, 3, 4, 5, 6, 7, 8] rfl (by decide) (v_iinc (v := x8 + 1) dX11_fitting_84 8 rfl rfl [0, 1, 2, 3, 4, 5, 6, 7, 8] rfl (by decide) (v_goto (tgt := 24) dX11_fitting_87 (by decide) (v_sub [2, 3, 4, 5, 6, 7, 1, 8, 0] rfl (hK24 x1 x2 r3 p3 x4 x5 (s1 ||| s0) x7 (x8 + 1) _ h)))))
def fX_fitting_b24 (K24 : Int32 → Int32 → Nat → Int32 → Int32 → Int32 → Int32 → Int32 → Sg → Option (Int32 × Sg)) (x1 : Int32) (x2 : Int32) (r3 : Nat) (x4 : Int32) (x5 : Int32) (x6 : Int32) (x7 : Int32) (x8 : Int32) (σ : Sg) : Option (Int32 × Sg) := if x7 < x8 then some (x6, σ) else (fH_become 10 4 σ).bind fun q4 => (fH_put 10 x2 x1 x8 q4).bind fun q5 => (fH_goesAs 10 (r3 + 1) x4 x5 q5).bind fun q6 => if q6.1 = 0 then fX_fitting_B81 K24 x1 x2 r3 x4 x5 x7 x8 0 x6 q6.2 else fX_fitting_B81 K24 x1 x2 r3 x4 x5 x7 x8 (1 <<< (x8 &&& 31)) x6 q6.2
def fX_fitting_L24 (n : Nat) : Int32 → Int32 → Nat → Int32 → Int32 → Int32 → Int32 → Int32 → Sg → Option (Int32 × Sg) := Nat.rec (fun _ _ _ _ _ _ _ _ _ => none) (fun _ K => fX_fitting_b24 K) n
set_option maxRecDepth 100000 in
set_option maxHeartbeats 4000000 in
theorem sX_fitting_b24 {G : Gx} {q : (Int32 × Sg)} (K24 : Int32 → Int32 → Nat → Int32 → Int32 → Int32 → Int32 → Int32 → Sg → Option (Int32 × Sg)) (hK24 : ∀ (x1 : Int32) (x2 : Int32) (r3 : Nat) (p3 : isR r3) (x4 : Int32) (x5 : Int32) (x6 : Int32) (x7 : Int32) (x8 : Int32) (σ : Sg), K24 x1 x2 r3 x4 x5 x6 x7 x8 σ = some q → Vm G MX11_fitting (some (.int q.1)) q.2 24 [(0, .ref (gb G + 0)), (1, .int x1), (2, .int x2), (3, .ref (gb G + r3)), (4, .int x4), (5, .int x5), (6, .int x6), (7, .int x7), (8, .int x8)] [] σ) (x1 : Int32) (x2 : Int32) (r3 : Nat) (p3 : isR r3) (x4 : Int32) (x5 : Int32) (x6 : Int32) (x7 : Int32) (x8 : Int32) (σ : Sg) (h : fX_fitting_b24 K24 x1 x2 r3 x4 x5 x6 x7 x8 σ = some q) : Vm G MX11_fitting (some (.int q.1)) q.2 24 [(0, .ref (gb G + 0)), (1, .int x1), (2, .int x2), (3, .ref (gb G + r3)), (4, .int x4), (5, .int x5), (6, .int x6), (7, .int x7), (8, .int x8)] [] σ := by
  unfold fX_fitting_b24 at h
  refine v_iload dX11_fitting_24 8 rfl (v_iload dX11_fitting_26 7 rfl (v_icmp_gt (tgt := 90) dX11_fitting_28 (by decide) (fun c3 => ?_) (fun c3 => ?_)))
  · replace h := ite_t c3 h
    refine v_iload dX11_fitting_90 6 rfl ?_
    replace h := Option.some.inj h
    subst h
    exact v_iret dX11_fitting_92 rfl rfl rfl rfl rfl
  · replace h := ite_f c3 h
    refine v_aload_n dX11_fitting_31 0 rfl rfl (vm_getR (t := 10) dX11_fitting_32 fsX11_29 lc_0 shc_0 (by decide) rf_0_3 (v_aload_n dX11_fitting_35 0 rfl rfl (vm_getR (t := 4) dX11_fitting_36 fsX11_25 lc_0 shc_0 (by decide) rf_0_2 ?_)))
    obtain ⟨q4, hq4, h⟩ := bind_some h
    refine v_callV (As := [.ref (gb G + 4)]) (S := []) dX11_fitting_39 tw383 tw384 tw385 ykX4_become ((isH_s isH_10).2.1) ((isH_s isH_10).1.1) (by decide) ok_4 rfl (by decide) rfl rfl (Nat.le_of_ble_eq_true rfl) (by decide) (eH_become 10 isH_10 4 isH_4 _ _ hq4) ?_
    refine v_aload_n dX11_fitting_42 0 rfl rfl (vm_getR (t := 10) dX11_fitting_43 fsX11_29 lc_0 shc_0 (by decide) rf_0_3 (v_iload_n dX11_fitting_46 2 rfl rfl (v_iload_n dX11_fitting_47 1 rfl rfl (v_iload dX11_fitting_48 8 rfl ?_))))
    obtain ⟨q5, hq5, h⟩ := bind_some h
    refine v_callV (As := [.int x2, .int x1, .int x8]) (S := []) dX11_fitting_50 tw444 tw445 tw446 ykX4_put ((isH_s isH_10).2.1) ((isH_s isH_10).1.1) (by decide) ok_4 rfl (by decide) rfl rfl (Nat.le_of_ble_eq_true rfl) (by decide) (eH_put 10 isH_10 x2 x1 x8 _ _ hq5) ?_
    refine v_iload dX11_fitting_53 6 rfl (v_aload_n dX11_fitting_55 0 rfl rfl (vm_getR (t := 10) dX11_fitting_56 fsX11_29 lc_0 shc_0 (by decide) rf_0_3 (v_aload_n dX11_fitting_59 3 rfl rfl (vm_getR (t := (r3 + 1)) dX11_fitting_60 fsX11_104 ((isR_s p3).2.1) ((isR_s p3).1.1) (by decide) ((isR_s p3).2.2.2.1) (v_iload dX11_fitting_63 4 rfl (v_iload dX11_fitting_65 5 rfl ?_))))))
    obtain ⟨q6, hq6, h⟩ := bind_some h
    refine v_callV (As := [.ref (gb G + (r3 + 1)), .int x4, .int x5]) (S := [.int x6]) dX11_fitting_67 tw548 tw549 tw550 ykX4_goesAs ((isH_s isH_10).2.1) ((isH_s isH_10).1.1) (by decide) ok_4 rfl (by decide) rfl rfl (Nat.le_of_ble_eq_true rfl) (by decide) (eH_goesAs 10 isH_10 (r3 + 1) ((isR_s p3).1.2) ((isR_s p3).2.2.1) x4 x5 _ _ hq6) ?_
    refine v_if_eq (tgt := 80) dX11_fitting_70 (by decide) (fun c7 => ?_) (fun c7 => ?_)
    · replace h := ite_t c7 h
      exact v_iconst dX11_fitting_80 rfl (v_sub [0, 1, 2, 3, 4, 5, 7, 8] rfl (sX_fitting_B81 K24 hK24 x1 x2 r3 p3 x4 x5 x7 x8 0 x6 _ h))
    · replace h := ite_f c7 h
      exact v_iconst dX11_fitting_73 rfl (v_iload dX11_fitting_74 8 rfl (v_ishl dX11_fitting_76 (v_goto (tgt := 81) dX11_fitting_77 (by decide) (v_sub [0, 1, 2, 3, 4, 5, 7, 8] rfl (sX_fitting_B81 K24 hK24 x1 x2 r3 p3 x4 x5 x7 x8 (1 <<< (x8 &&& 31)) x6 _ h)))))
theorem sX_fitting_L24 {G : Gx} {q : (Int32 × Sg)} (n : Nat) : ∀ (x1 : Int32) (x2 : Int32) (r3 : Nat) (p3 : isR r3) (x4 : Int32) (x5 : Int32) (x6 : Int32) (x7 : Int32) (x8 : Int32) (σ : Sg) (h : fX_fitting_L24 n x1 x2 r3 x4 x5 x6 x7 x8 σ = some q), Vm G MX11_fitting (some (.int q.1)) q.2 24 [(0, .ref (gb G + 0)), (1, .int x1), (2, .int x2), (3, .ref (gb G + r3)), (4, .int x4), (5, .int x5), (6, .int x6), (7, .int x7), (8, .int x8)] [] σ := by
  induction n with
  | zero => intro x1 x2 r3 p3 x4 x5 x6 x7 x8 σ h; cases h
  | succ n ih => intro x1 x2 r3 p3 x4 x5 x6 x7 x8 σ h; exact sX_fitting_b24  _ ih x1 x2 r3 p3 x4 x5 x6 x7 x8 σ h
def fX_fitting_B22 (x1 : Int32) (x2 : Int32) (r3 : Nat) (x4 : Int32) (x5 : Int32) (x6 : Int32) (x7 : Int32) (s0 : Int32) (σ : Sg) : Option (Int32 × Sg) := fX_fitting_L24 2000 x1 x2 r3 x4 x5 x6 x7 s0 σ
set_option maxRecDepth 100000 in
set_option maxHeartbeats 4000000 in
theorem sX_fitting_B22 {G : Gx} {q : (Int32 × Sg)} (x1 : Int32) (x2 : Int32) (r3 : Nat) (p3 : isR r3) (x4 : Int32) (x5 : Int32) (x6 : Int32) (x7 : Int32) (s0 : Int32) (σ : Sg) (h : fX_fitting_B22 x1 x2 r3 x4 x5 x6 x7 s0 σ = some q) : Vm G MX11_fitting (some (.int q.1)) q.2 22 [(0, .ref (gb G + 0)), (1, .int x1), (2, .int x2), (3, .ref (gb G + r3)), (4, .int x4), (5, .int x5), (6, .int x6), (7, .int x7)] [.int s0] σ := by
  unfold fX_fitting_B22 at h
  exact v_istore dX11_fitting_22 [0, 1, 2, 3, 4, 5, 6, 7, 8] rfl (by decide) (v_sub [1, 2, 3, 4, 5, 6, 7, 8, 0] rfl (sX_fitting_L24 2000 x1 x2 r3 p3 x4 x5 x6 x7 s0 _ h))
def fX_fitting (x1 : Int32) (x2 : Int32) (r3 : Nat) (x4 : Int32) (x5 : Int32) (σ : Sg) : Option (Int32 × Sg) := (fH_mostOf 4 x2 σ).bind fun q1 => if x2 = 0 then fX_fitting_B22 x1 x2 r3 x4 x5 0 q1 1 σ else fX_fitting_B22 x1 x2 r3 x4 x5 0 q1 0 σ
set_option maxRecDepth 100000 in
set_option maxHeartbeats 4000000 in
theorem eX_fitting {G : Gx} (x1 : Int32) (x2 : Int32) (r3 : Nat) (p3 : isR r3) (x4 : Int32) (x5 : Int32) (σ : Sg) (q : (Int32 × Sg)) (h : fX_fitting x1 x2 r3 x4 x5 σ = some q) : Evm G yX11_fitting MX11_fitting [.ref (gb G + 0), .int x1, .int x2, .ref (gb G + r3), .int x4, .int x5] σ (some (.int q.1)) q.2 := by
  refine Ev.of (by decide +kernel) rfl rfl (Nat.le_of_ble_eq_true rfl) ?_
  show Vm G MX11_fitting (some (.int q.1)) q.2 0 [(0, .ref (gb G + 0)), (1, .int x1), (2, .int x2), (3, .ref (gb G + r3)), (4, .int x4), (5, .int x5)] [] σ
  unfold fX_fitting at h
  refine v_iconst dX11_fitting_0 rfl (v_istore dX11_fitting_1 [0, 1, 2, 3, 4, 5, 6] rfl (by decide) (v_aload_n dX11_fitting_3 1 rfl rfl (vm_getR (t := 4) dX11_fitting_4 fsX11_25 lc_0 shc_0 (by decide) rf_0_2 (v_iload_n dX11_fitting_7 3 rfl rfl ?_))))
  obtain ⟨q1, hq1, h⟩ := bind_some h
  refine v_callV (As := [.int x2]) (S := []) dX11_fitting_8 tw544 tw545 tw546 ykX4_mostOf ((isH_s isH_4).2.1) ((isH_s isH_4).1.1) (by decide) ok_4 rfl (by decide) rfl rfl (Nat.le_of_ble_eq_true rfl) (by decide) (eH_mostOf 4 isH_4 x2 _ _ hq1) ?_
  refine v_istore dX11_fitting_11 [0, 1, 2, 3, 4, 5, 6, 7] rfl (by decide) (v_iload_n dX11_fitting_13 4 rfl rfl (v_if_ne (tgt := 21) dX11_fitting_14 (by decide) (fun c2 => ?_) (fun c2 => ?_)))
  · replace h := ite_f c2 h
    exact v_iconst dX11_fitting_21 rfl (v_sub [2, 3, 4, 5, 6, 7, 1, 0] rfl (sX_fitting_B22 x1 x2 r3 p3 x4 x5 0 q1 0 _ h))
  · replace h := ite_t c2 h
    exact v_iconst dX11_fitting_17 rfl (v_goto (tgt := 22) dX11_fitting_18 (by decide) (v_sub [2, 3, 4, 5, 6, 7, 1, 0] rfl (sX_fitting_B22 x1 x2 r3 p3 x4 x5 0 q1 1 _ h)))
def fX_fits (x1 : Int32) (x2 : Int32) (x3 : Int32) (x4 : Int32) (x5 : Int32) (σ : Sg) : Option (Int32 × Sg) := (fX_isPerson x1 σ).bind fun q1 => if q1 = 0 then some ((-1000001), σ) else (fX_isRow x2 σ).bind fun q3 => if q3 = 0 then some ((-1000001), σ) else (fX_isWithin x4 1 16 σ).bind fun q5 => if q5 = 0 then some ((-1000001), σ) else (fX_isWithin x5 0 2 σ).bind fun q7 => if q7 = 0 then some ((-1000001), σ) else if inb x2 8 = true then (fR_isMissing (172 + 2 * ix x2) σ).bind fun q10 => if q10 = 0 then ((fR_holds (172 + 2 * ix x2) x3 x4 σ).bind fun q12 => if q12 = 0 then ((fX_found 2 σ).bind fun q22 => some (q22.1, q22.2)) else if x5 = 0 then ((fX_fitting x1 0 (172 + 2 * ix x2) x3 x4 σ).bind fun q15 => (fX_unhindered q15.1 q15.2).bind fun q16 => some (q16.1, q16.2)) else if x5 = 1 then ((fX_fitting x1 3 (172 + 2 * ix x2) x3 x4 σ).bind fun q18 => (fX_unhindered q18.1 q18.2).bind fun q19 => some (q19.1, q19.2)) else (fX_fitting x1 2 (172 + 2 * ix x2) x3 x4 σ).bind fun q20 => (fX_unhindered q20.1 q20.2).bind fun q21 => some (q21.1, q21.2)) else (fX_found 1 σ).bind fun q23 => some (q23.1, q23.2) else none
set_option maxRecDepth 100000 in
set_option maxHeartbeats 4000000 in
theorem eX_fits {G : Gx} (x1 : Int32) (x2 : Int32) (x3 : Int32) (x4 : Int32) (x5 : Int32) (σ : Sg) (q : (Int32 × Sg)) (h : fX_fits x1 x2 x3 x4 x5 σ = some q) : Evm G yX11_fits MX11_fits [.ref (gb G + 0), .int x1, .int x2, .int x3, .int x4, .int x5] σ (some (.int q.1)) q.2 := by
  refine Ev.of (by decide +kernel) rfl rfl (Nat.le_of_ble_eq_true rfl) ?_
  show Vm G MX11_fits (some (.int q.1)) q.2 0 [(0, .ref (gb G + 0)), (1, .int x1), (2, .int x2), (3, .int x3), (4, .int x4), (5, .int x5)] [] σ
  unfold fX_fits at h
  refine v_aload_n dX11_fits_0 0 rfl rfl (v_iload_n dX11_fits_1 1 rfl rfl ?_)
  obtain ⟨q1, hq1, h⟩ := bind_some h
  refine v_callV (As := [.int x1]) (S := []) dX11_fits_2 tw440 tw442 tw9 ykX11_isPerson lc_0 shc_0 (by decide) ok_10 rfl (by decide) rfl rfl (Nat.le_of_ble_eq_true rfl) (by decide) (eX_isPerson x1 _ _ hq1) ?_
  refine v_if_eq (tgt := 15) dX11_fits_5 (by decide) (fun c2 => ?_) (fun c2 => ?_)
  · replace h := ite_t c2 h
    refine v_ldc dX11_fits_15 tw297 ?_
    replace h := Option.some.inj h
    subst h
    exact v_iret dX11_fits_17 rfl rfl rfl rfl rfl
  · replace h := ite_f c2 h
    refine v_iload_n dX11_fits_8 2 rfl rfl ?_
    obtain ⟨q3, hq3, h⟩ := bind_some h
    refine v_callS (As := [.int x2]) (S := []) dX11_fits_9 tw291 tw292 ykX11_isRow rfl (by decide) rfl rfl (Nat.le_of_ble_eq_true rfl) (by decide) (eX_isRow x2 _ _ hq3) ?_
    refine v_if_ne (tgt := 18) dX11_fits_12 (by decide) (fun c4 => ?_) (fun c4 => ?_)
    · replace h := ite_f c4 h
      refine v_iload dX11_fits_18 4 rfl (v_iconst dX11_fits_20 rfl (v_bipush (v := 16) dX11_fits_21 rfl ?_))
      obtain ⟨q5, hq5, h⟩ := bind_some h
      refine v_callS (As := [.int x4, .int 1, .int 16]) (S := []) dX11_fits_23 tw294 tw295 ykX11_isWithin rfl (by decide) rfl rfl (Nat.le_of_ble_eq_true rfl) (by decide) (eX_isWithin x4 1 16 _ _ hq5) ?_
      refine v_if_eq (tgt := 39) dX11_fits_26 (by decide) (fun c6 => ?_) (fun c6 => ?_)
      · replace h := ite_t c6 h
        refine v_ldc dX11_fits_39 tw297 ?_
        replace h := Option.some.inj h
        subst h
        exact v_iret dX11_fits_41 rfl rfl rfl rfl rfl
      · replace h := ite_f c6 h
        refine v_iload dX11_fits_29 5 rfl (v_iconst dX11_fits_31 rfl (v_iconst dX11_fits_32 rfl ?_))
        obtain ⟨q7, hq7, h⟩ := bind_some h
        refine v_callS (As := [.int x5, .int 0, .int 2]) (S := []) dX11_fits_33 tw294 tw295 ykX11_isWithin rfl (by decide) rfl rfl (Nat.le_of_ble_eq_true rfl) (by decide) (eX_isWithin x5 0 2 _ _ hq7) ?_
        refine v_if_ne (tgt := 42) dX11_fits_36 (by decide) (fun c8 => ?_) (fun c8 => ?_)
        · replace h := ite_f c8 h
          refine v_aload_n dX11_fits_42 0 rfl rfl (vm_getR (t := 1) dX11_fits_43 fsX11_11 lc_0 shc_0 (by decide) rf_0_0 (v_iload_n dX11_fits_46 2 rfl rfl ?_))
          obtain ⟨g9, h⟩ := guard_some h
          refine vm_aald (r := (172 + 2 * ix x2)) (by decide) dX11_fits_47 lc_1 sha_1 g9 rfl (v_astore dX11_fits_48 [0, 1, 2, 4, 5, 6] rfl (by decide) (v_aload dX11_fits_50 0 rfl ?_))
          obtain ⟨q10, hq10, h⟩ := bind_some h
          refine v_callV (As := []) (S := []) dX11_fits_52 tw315 tw316 tw317 ykX7_isMissing ((isR_s (isR_of g9)).2.1) ((isR_s (isR_of g9)).1.1) (by decide) ok_6 rfl (by decide) rfl rfl (Nat.le_of_ble_eq_true rfl) (by decide) (eR_isMissing (172 + 2 * ix x2) ((isR_of g9)) _ _ hq10) ?_
          refine v_if_eq (tgt := 64) dX11_fits_55 (by decide) (fun c11 => ?_) (fun c11 => ?_)
          · replace h := ite_t c11 h
            refine v_aload dX11_fits_64 0 rfl (v_iload_n dX11_fits_66 3 rfl rfl (v_iload dX11_fits_67 4 rfl ?_))
            obtain ⟨q12, hq12, h⟩ := bind_some h
            refine v_callV (As := [.int x3, .int x4]) (S := []) dX11_fits_69 tw319 tw320 tw321 ykX7_holds ((isR_s (isR_of g9)).2.1) ((isR_s (isR_of g9)).1.1) (by decide) ok_6 rfl (by decide) rfl rfl (Nat.le_of_ble_eq_true rfl) (by decide) (eR_holds (172 + 2 * ix x2) ((isR_of g9)) x3 x4 _ _ hq12) ?_
            refine v_if_ne (tgt := 81) dX11_fits_72 (by decide) (fun c13 => ?_) (fun c13 => ?_)
            · replace h := ite_f c13 h
              refine v_iload dX11_fits_81 5 rfl ?_
              by_cases c14 : x5 = 0
              · replace h := ite_t c14 h
                refine v_lookAt (tgt := 108) dX11_fits_83 c14 (by decide) (off := 25) (by decide) (by decide) ?_
                refine v_aload_n dX11_fits_108 1 rfl rfl (v_aload_n dX11_fits_109 1 rfl rfl (v_iload_n dX11_fits_110 2 rfl rfl (v_iconst dX11_fits_111 rfl (v_aload dX11_fits_112 0 rfl (v_iload_n dX11_fits_114 3 rfl rfl (v_iload dX11_fits_115 4 rfl ?_))))))
                obtain ⟨q15, hq15, h⟩ := bind_some h
                refine v_callV (As := [.int x1, .int 0, .ref (gb G + (172 + 2 * ix x2)), .int x3, .int x4]) (S := [.ref (gb G + 0)]) dX11_fits_117 tw540 tw542 tw12 ykX11_fitting lc_0 shc_0 (by decide) ok_10 rfl (by decide) rfl rfl (Nat.le_of_ble_eq_true rfl) (by decide) (eX_fitting x1 0 (172 + 2 * ix x2) ((isR_of g9)) x3 x4 _ _ hq15) ?_
                obtain ⟨q16, hq16, h⟩ := bind_some h
                refine v_callV (As := [.int q15.1]) (S := []) dX11_fits_120 tw307 tw309 tw1 ykX11_unhindered lc_0 shc_0 (by decide) ok_10 rfl (by decide) rfl rfl (Nat.le_of_ble_eq_true rfl) (by decide) (eX_unhindered q15.1 _ _ hq16) ?_
                replace h := Option.some.inj h
                subst h
                exact v_iret dX11_fits_123 rfl rfl rfl rfl rfl
              replace h := ite_f c14 h
              by_cases c17 : x5 = 1
              · replace h := ite_t c17 h
                refine v_lookAt (tgt := 124) dX11_fits_83 c17 (by decide) (off := 41) (by decide) (by decide) ?_
                refine v_aload_n dX11_fits_124 1 rfl rfl (v_aload_n dX11_fits_125 1 rfl rfl (v_iload_n dX11_fits_126 2 rfl rfl (v_iconst dX11_fits_127 rfl (v_aload dX11_fits_128 0 rfl (v_iload_n dX11_fits_130 3 rfl rfl (v_iload dX11_fits_131 4 rfl ?_))))))
                obtain ⟨q18, hq18, h⟩ := bind_some h
                refine v_callV (As := [.int x1, .int 3, .ref (gb G + (172 + 2 * ix x2)), .int x3, .int x4]) (S := [.ref (gb G + 0)]) dX11_fits_133 tw540 tw542 tw12 ykX11_fitting lc_0 shc_0 (by decide) ok_10 rfl (by decide) rfl rfl (Nat.le_of_ble_eq_true rfl) (by decide) (eX_fitting x1 3 (172 + 2 * ix x2) ((isR_of g9)) x3 x4 _ _ hq18) ?_
                obtain ⟨q19, hq19, h⟩ := bind_some h
                refine v_callV (As := [.int q18.1]) (S := []) dX11_fits_136 tw307 tw309 tw1 ykX11_unhindered lc_0 shc_0 (by decide) ok_10 rfl (by decide) rfl rfl (Nat.le_of_ble_eq_true rfl) (by decide) (eX_unhindered q18.1 _ _ hq19) ?_
                replace h := Option.some.inj h
                subst h
                exact v_iret dX11_fits_139 rfl rfl rfl rfl rfl
              replace h := ite_f c17 h
              have nc14 := i_ne (z := 0) (by decide) c14
              have nc17 := i_ne (z := 1) (by decide) c17
              refine v_lookup (tgt := 140) (off := 57) dX11_fits_83 (by decide) (by simp only [Op.lookupswitch.offset]; rw [if_neg (fun q => nc14 q.symm)]; rw [if_neg (fun q => nc17 q.symm)]) (by decide) ?_
              refine v_aload_n dX11_fits_140 1 rfl rfl (v_aload_n dX11_fits_141 1 rfl rfl (v_iload_n dX11_fits_142 2 rfl rfl (v_iconst dX11_fits_143 rfl (v_aload dX11_fits_144 0 rfl (v_iload_n dX11_fits_146 3 rfl rfl (v_iload dX11_fits_147 4 rfl ?_))))))
              obtain ⟨q20, hq20, h⟩ := bind_some h
              refine v_callV (As := [.int x1, .int 2, .ref (gb G + (172 + 2 * ix x2)), .int x3, .int x4]) (S := [.ref (gb G + 0)]) dX11_fits_149 tw540 tw542 tw12 ykX11_fitting lc_0 shc_0 (by decide) ok_10 rfl (by decide) rfl rfl (Nat.le_of_ble_eq_true rfl) (by decide) (eX_fitting x1 2 (172 + 2 * ix x2) ((isR_of g9)) x3 x4 _ _ hq20) ?_
              obtain ⟨q21, hq21, h⟩ := bind_some h
              refine v_callV (As := [.int q20.1]) (S := []) dX11_fits_152 tw307 tw309 tw1 ykX11_unhindered lc_0 shc_0 (by decide) ok_10 rfl (by decide) rfl rfl (Nat.le_of_ble_eq_true rfl) (by decide) (eX_unhindered q20.1 _ _ hq21) ?_
              replace h := Option.some.inj h
              subst h
              exact v_iret dX11_fits_155 rfl rfl rfl rfl rfl
            · replace h := ite_t c13 h
              refine v_aload_n dX11_fits_75 1 rfl rfl (v_iconst dX11_fits_76 rfl ?_)
              obtain ⟨q22, hq22, h⟩ := bind_some h
              refine v_callV (As := [.int 2]) (S := []) dX11_fits_77 tw298 tw300 tw0 ykX11_found lc_0 shc_0 (by decide) ok_10 rfl (by decide) rfl rfl (Nat.le_of_ble_eq_true rfl) (by decide) (eX_found 2 _ _ hq22) ?_
              replace h := Option.some.inj h
              subst h
              exact v_iret dX11_fits_80 rfl rfl rfl rfl rfl
          · replace h := ite_f c11 h
            refine v_aload_n dX11_fits_58 1 rfl rfl (v_iconst dX11_fits_59 rfl ?_)
            obtain ⟨q23, hq23, h⟩ := bind_some h
            refine v_callV (As := [.int 1]) (S := []) dX11_fits_60 tw298 tw300 tw0 ykX11_found lc_0 shc_0 (by decide) ok_10 rfl (by decide) rfl rfl (Nat.le_of_ble_eq_true rfl) (by decide) (eX_found 1 _ _ hq23) ?_
            replace h := Option.some.inj h
            subst h
            exact v_iret dX11_fits_63 rfl rfl rfl rfl rfl
        · replace h := ite_t c8 h
          refine v_ldc dX11_fits_39 tw297 ?_
          replace h := Option.some.inj h
          subst h
          exact v_iret dX11_fits_41 rfl rfl rfl rfl rfl
    · replace h := ite_t c4 h
      refine v_ldc dX11_fits_15 tw297 ?_
      replace h := Option.some.inj h
      subst h
      exact v_iret dX11_fits_17 rfl rfl rfl rfl rfl
def fX_power_b4 (K4 : Int32 → Int32 → Int32 → Int32 → Sg → Option Int32) (x0 : Int32) (x1 : Int32) (x2 : Int32) (x3 : Int32) (σ : Sg) : Option Int32 := if x1 ≤ x3 then some x2 else K4 x0 x1 (x2 * x0) (x3 + 1) σ
def fX_power_L4 (n : Nat) : Int32 → Int32 → Int32 → Int32 → Sg → Option Int32 := Nat.rec (fun _ _ _ _ _ => none) (fun _ K => fX_power_b4 K) n
set_option maxRecDepth 100000 in
set_option maxHeartbeats 4000000 in
theorem sX_power_b4 {G : Gx} {q : Int32} (K4 : Int32 → Int32 → Int32 → Int32 → Sg → Option Int32) (hK4 : ∀ (x0 : Int32) (x1 : Int32) (x2 : Int32) (x3 : Int32) (σ : Sg), K4 x0 x1 x2 x3 σ = some q → Vm G MX11_power (some (.int q)) σ 4 [(0, .int x0), (1, .int x1), (2, .int x2), (3, .int x3)] [] σ) (x0 : Int32) (x1 : Int32) (x2 : Int32) (x3 : Int32) (σ : Sg) (h : fX_power_b4 K4 x0 x1 x2 x3 σ = some q) : Vm G MX11_power (some (.int q)) σ 4 [(0, .int x0), (1, .int x1), (2, .int x2), (3, .int x3)] [] σ := by
  unfold fX_power_b4 at h
  refine v_iload_n dX11_power_4 3 rfl rfl (v_iload_n dX11_power_5 1 rfl rfl (v_icmp_ge (tgt := 19) dX11_power_6 (by decide) (fun c1 => ?_) (fun c1 => ?_)))
  · replace h := ite_t c1 h
    refine v_iload_n dX11_power_19 2 rfl rfl ?_
    replace h := Option.some.inj h
    subst h
    exact v_iret dX11_power_20 rfl rfl rfl rfl rfl
  · replace h := ite_f c1 h
    exact v_iload_n dX11_power_9 2 rfl rfl (v_iload_n dX11_power_10 0 rfl rfl (v_imul dX11_power_11 (v_istore_n dX11_power_12 [0, 1, 2, 3] rfl (by decide) rfl (v_iinc (v := x3 + 1) dX11_power_13 3 rfl rfl [0, 1, 2, 3] rfl (by decide) (v_goto (tgt := 4) dX11_power_16 (by decide) (v_sub [2, 3, 1, 0] rfl (hK4 x0 x1 (x2 * x0) (x3 + 1) _ h)))))))
theorem sX_power_L4 {G : Gx} {q : Int32} (n : Nat) : ∀ (x0 : Int32) (x1 : Int32) (x2 : Int32) (x3 : Int32) (σ : Sg) (h : fX_power_L4 n x0 x1 x2 x3 σ = some q), Vm G MX11_power (some (.int q)) σ 4 [(0, .int x0), (1, .int x1), (2, .int x2), (3, .int x3)] [] σ := by
  induction n with
  | zero => intro x0 x1 x2 x3 σ h; cases h
  | succ n ih => intro x0 x1 x2 x3 σ h; exact sX_power_b4  _ ih x0 x1 x2 x3 σ h
def fX_power (x0 : Int32) (x1 : Int32) (σ : Sg) : Option Int32 := fX_power_L4 2000 x0 x1 1 0 σ
set_option maxRecDepth 100000 in
set_option maxHeartbeats 4000000 in
theorem eX_power {G : Gx} (x0 : Int32) (x1 : Int32) (σ : Sg) (q : Int32) (h : fX_power x0 x1 σ = some q) : Evm G yX11_power MX11_power [.int x0, .int x1] σ (some (.int q)) σ := by
  refine Ev.of (by decide +kernel) rfl rfl (Nat.le_of_ble_eq_true rfl) ?_
  show Vm G MX11_power (some (.int q)) σ 0 [(0, .int x0), (1, .int x1)] [] σ
  unfold fX_power at h
  exact v_iconst dX11_power_0 rfl (v_istore_n dX11_power_1 [0, 1, 2] rfl (by decide) rfl (v_iconst dX11_power_2 rfl (v_istore_n dX11_power_3 [0, 1, 2, 3] rfl (by decide) rfl (v_sub [2, 3, 1, 0] rfl (sX_power_L4 2000 x0 x1 1 0 _ h)))))
