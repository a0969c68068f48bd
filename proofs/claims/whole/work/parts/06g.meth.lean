def fX_as (x1 : Int32) (x2 : Int32) (σ : Sg) : Option (Int32 × Sg) := (fX_isPerson x1 σ).bind fun q1 => if q1 = 0 then some ((-1000001), σ) else (fX_isWithin x2 0 5 σ).bind fun q3 => if q3 = 0 then some ((-1000001), σ) else (fX_kindOf x1 σ).bind fun q5 => if q5 = 165 then ((fX_isOne_165 x2 σ).bind fun q6 => if q6 = 0 then ((fX_found 3 σ).bind fun q9 => some (q9.1, q9.2)) else (fX_unhindered x1 σ).bind fun q8 => some (q8.1, q8.2)) else if q5 = 166 then ((fX_isOne_166 x2 σ).bind fun q11 => if q11 = 0 then ((fX_found 3 σ).bind fun q14 => some (q14.1, q14.2)) else (fX_unhindered x1 σ).bind fun q13 => some (q13.1, q13.2)) else if q5 = 167 then ((fX_isOne_167 x2 σ).bind fun q16 => if q16 = 0 then ((fX_found 3 σ).bind fun q19 => some (q19.1, q19.2)) else (fX_unhindered x1 σ).bind fun q18 => some (q18.1, q18.2)) else if q5 = 168 then ((fX_isOne_168 x2 σ).bind fun q21 => if q21 = 0 then ((fX_found 3 σ).bind fun q24 => some (q24.1, q24.2)) else (fX_unhindered x1 σ).bind fun q23 => some (q23.1, q23.2)) else (fX_isOne_169 x2 σ).bind fun q26 => if q26 = 0 then ((fX_found 3 σ).bind fun q29 => some (q29.1, q29.2)) else (fX_unhindered x1 σ).bind fun q28 => some (q28.1, q28.2)
set_option maxRecDepth 100000 in
set_option maxHeartbeats 4000000 in
theorem eX_as {G : Gx} (x1 : Int32) (x2 : Int32) (σ : Sg) (q : (Int32 × Sg)) (h : fX_as x1 x2 σ = some q) : Evm G yX11_as MX11_as [.ref (gb G + 0), .int x1, .int x2] σ (some (.int q.1)) q.2 := by
  refine Ev.of (by decide +kernel) rfl rfl (Nat.le_of_ble_eq_true rfl) ?_
  show Vm G MX11_as (some (.int q.1)) q.2 0 [(0, .ref (gb G + 0)), (1, .int x1), (2, .int x2)] [] σ
  unfold fX_as at h
  refine v_aload_n dX11_as_0 0 rfl rfl (v_iload_n dX11_as_1 1 rfl rfl ?_)
  obtain ⟨q1, hq1, h⟩ := bind_some h
  refine v_callV (As := [.int x1]) (S := []) dX11_as_2 tw440 tw442 tw9 ykX11_isPerson lc_0 shc_0 (by decide) ok_10 rfl (by decide) rfl rfl (Nat.le_of_ble_eq_true rfl) (by decide) (eX_isPerson x1 _ _ hq1) ?_
  refine v_if_eq (tgt := 17) dX11_as_5 (by decide) (fun c2 => ?_) (fun c2 => ?_)
  · replace h := ite_t c2 h
    refine v_ldc dX11_as_17 tw297 ?_
    replace h := Option.some.inj h
    subst h
    exact v_iret dX11_as_19 rfl rfl rfl rfl rfl
  · replace h := ite_f c2 h
    refine v_iload_n dX11_as_8 2 rfl rfl (v_iconst dX11_as_9 rfl (v_iconst dX11_as_10 rfl ?_))
    obtain ⟨q3, hq3, h⟩ := bind_some h
    refine v_callS (As := [.int x2, .int 0, .int 5]) (S := []) dX11_as_11 tw294 tw295 ykX11_isWithin rfl (by decide) rfl rfl (Nat.le_of_ble_eq_true rfl) (by decide) (eX_isWithin x2 0 5 _ _ hq3) ?_
    refine v_if_ne (tgt := 20) dX11_as_14 (by decide) (fun c4 => ?_) (fun c4 => ?_)
    · replace h := ite_f c4 h
      refine v_aload_n dX11_as_20 0 rfl rfl (v_iload_n dX11_as_21 1 rfl rfl ?_)
      obtain ⟨q5, hq5, h⟩ := bind_some h
      refine v_callV (As := [.int x1]) (S := []) dX11_as_22 tw601 tw603 tw14 ykX11_kindOf lc_0 shc_0 (by decide) ok_10 rfl (by decide) rfl rfl (Nat.le_of_ble_eq_true rfl) (by decide) (eX_kindOf x1 _ _ hq5) ?_
      refine v_iload_n dX11_as_25 2 rfl rfl ?_
      by_cases c10 : q5 = 165
      · replace h := ite_t c10 h
        rw [c10]
        obtain ⟨q6, hq6, h⟩ := bind_some h
        refine v_callS (As := [.ref (gb G + 165), .int x2]) (S := []) dX11_as_26 tw605 tw606 ykX11_isOne_165 rfl (by decide) rfl rfl (Nat.le_of_ble_eq_true rfl) (by decide) (eX_isOne_165 x2 _ _ hq6) ?_
        refine v_if_ne (tgt := 38) dX11_as_29 (by decide) (fun c7 => ?_) (fun c7 => ?_)
        · replace h := ite_f c7 h
          refine v_aload_n dX11_as_38 0 rfl rfl (v_iload_n dX11_as_39 1 rfl rfl ?_)
          obtain ⟨q8, hq8, h⟩ := bind_some h
          refine v_callV (As := [.int x1]) (S := []) dX11_as_40 tw307 tw309 tw1 ykX11_unhindered lc_0 shc_0 (by decide) ok_10 rfl (by decide) rfl rfl (Nat.le_of_ble_eq_true rfl) (by decide) (eX_unhindered x1 _ _ hq8) ?_
          replace h := Option.some.inj h
          subst h
          exact v_iret dX11_as_43 rfl rfl rfl rfl rfl
        · replace h := ite_t c7 h
          refine v_aload_n dX11_as_32 0 rfl rfl (v_iconst dX11_as_33 rfl ?_)
          obtain ⟨q9, hq9, h⟩ := bind_some h
          refine v_callV (As := [.int 3]) (S := []) dX11_as_34 tw298 tw300 tw0 ykX11_found lc_0 shc_0 (by decide) ok_10 rfl (by decide) rfl rfl (Nat.le_of_ble_eq_true rfl) (by decide) (eX_found 3 _ _ hq9) ?_
          replace h := Option.some.inj h
          subst h
          exact v_iret dX11_as_37 rfl rfl rfl rfl rfl
      replace h := ite_f c10 h
      by_cases c15 : q5 = 166
      · replace h := ite_t c15 h
        rw [c15]
        obtain ⟨q11, hq11, h⟩ := bind_some h
        refine v_callS (As := [.ref (gb G + 166), .int x2]) (S := []) dX11_as_26 tw605 tw606 ykX11_isOne_166 rfl (by decide) rfl rfl (Nat.le_of_ble_eq_true rfl) (by decide) (eX_isOne_166 x2 _ _ hq11) ?_
        refine v_if_ne (tgt := 38) dX11_as_29 (by decide) (fun c12 => ?_) (fun c12 => ?_)
        · replace h := ite_f c12 h
          refine v_aload_n dX11_as_38 0 rfl rfl (v_iload_n dX11_as_39 1 rfl rfl ?_)
          obtain ⟨q13, hq13, h⟩ := bind_some h
          refine v_callV (As := [.int x1]) (S := []) dX11_as_40 tw307 tw309 tw1 ykX11_unhindered lc_0 shc_0 (by decide) ok_10 rfl (by decide) rfl rfl (Nat.le_of_ble_eq_true rfl) (by decide) (eX_unhindered x1 _ _ hq13) ?_
          replace h := Option.some.inj h
          subst h
          exact v_iret dX11_as_43 rfl rfl rfl rfl rfl
        · replace h := ite_t c12 h
          refine v_aload_n dX11_as_32 0 rfl rfl (v_iconst dX11_as_33 rfl ?_)
          obtain ⟨q14, hq14, h⟩ := bind_some h
          refine v_callV (As := [.int 3]) (S := []) dX11_as_34 tw298 tw300 tw0 ykX11_found lc_0 shc_0 (by decide) ok_10 rfl (by decide) rfl rfl (Nat.le_of_ble_eq_true rfl) (by decide) (eX_found 3 _ _ hq14) ?_
          replace h := Option.some.inj h
          subst h
          exact v_iret dX11_as_37 rfl rfl rfl rfl rfl
      replace h := ite_f c15 h
      by_cases c20 : q5 = 167
      · replace h := ite_t c20 h
        rw [c20]
        obtain ⟨q16, hq16, h⟩ := bind_some h
        refine v_callS (As := [.ref (gb G + 167), .int x2]) (S := []) dX11_as_26 tw605 tw606 ykX11_isOne_167 rfl (by decide) rfl rfl (Nat.le_of_ble_eq_true rfl) (by decide) (eX_isOne_167 x2 _ _ hq16) ?_
        refine v_if_ne (tgt := 38) dX11_as_29 (by decide) (fun c17 => ?_) (fun c17 => ?_)
        · replace h := ite_f c17 h
          refine v_aload_n dX11_as_38 0 rfl rfl (v_iload_n dX11_as_39 1 rfl rfl ?_)
          obtain ⟨q18, hq18, h⟩ := bind_some h
          refine v_callV (As := [.int x1]) (S := []) dX11_as_40 tw307 tw309 tw1 ykX11_unhindered lc_0 shc_0 (by decide) ok_10 rfl (by decide) rfl rfl (Nat.le_of_ble_eq_true rfl) (by decide) (eX_unhindered x1 _ _ hq18) ?_
          replace h := Option.some.inj h
          subst h
          exact v_iret dX11_as_43 rfl rfl rfl rfl rfl
        · replace h := ite_t c17 h
          refine v_aload_n dX11_as_32 0 rfl rfl (v_iconst dX11_as_33 rfl ?_)
          obtain ⟨q19, hq19, h⟩ := bind_some h
          refine v_callV (As := [.int 3]) (S := []) dX11_as_34 tw298 tw300 tw0 ykX11_found lc_0 shc_0 (by decide) ok_10 rfl (by decide) rfl rfl (Nat.le_of_ble_eq_true rfl) (by decide) (eX_found 3 _ _ hq19) ?_
          replace h := Option.some.inj h
          subst h
          exact v_iret dX11_as_37 rfl rfl rfl rfl rfl
      replace h := ite_f c20 h
      by_cases c25 : q5 = 168
      · replace h := ite_t c25 h
        rw [c25]
        obtain ⟨q21, hq21, h⟩ := bind_some h
        refine v_callS (As := [.ref (gb G + 168), .int x2]) (S := []) dX11_as_26 tw605 tw606 ykX11_isOne_168 rfl (by decide) rfl rfl (Nat.le_of_ble_eq_true rfl) (by decide) (eX_isOne_168 x2 _ _ hq21) ?_
        refine v_if_ne (tgt := 38) dX11_as_29 (by decide) (fun c22 => ?_) (fun c22 => ?_)
        · replace h := ite_f c22 h
          refine v_aload_n dX11_as_38 0 rfl rfl (v_iload_n dX11_as_39 1 rfl rfl ?_)
          obtain ⟨q23, hq23, h⟩ := bind_some h
          refine v_callV (As := [.int x1]) (S := []) dX11_as_40 tw307 tw309 tw1 ykX11_unhindered lc_0 shc_0 (by decide) ok_10 rfl (by decide) rfl rfl (Nat.le_of_ble_eq_true rfl) (by decide) (eX_unhindered x1 _ _ hq23) ?_
          replace h := Option.some.inj h
          subst h
          exact v_iret dX11_as_43 rfl rfl rfl rfl rfl
        · replace h := ite_t c22 h
          refine v_aload_n dX11_as_32 0 rfl rfl (v_iconst dX11_as_33 rfl ?_)
          obtain ⟨q24, hq24, h⟩ := bind_some h
          refine v_callV (As := [.int 3]) (S := []) dX11_as_34 tw298 tw300 tw0 ykX11_found lc_0 shc_0 (by decide) ok_10 rfl (by decide) rfl rfl (Nat.le_of_ble_eq_true rfl) (by decide) (eX_found 3 _ _ hq24) ?_
          replace h := Option.some.inj h
          subst h
          exact v_iret dX11_as_37 rfl rfl rfl rfl rfl
      replace h := ite_f c25 h
      have hlast := isP_last ((pX_kindOf _ _ _ hq5)) c10 c15 c20 c25
      rw [hlast]
      obtain ⟨q26, hq26, h⟩ := bind_some h
      refine v_callS (As := [.ref (gb G + 169), .int x2]) (S := []) dX11_as_26 tw605 tw606 ykX11_isOne_169 rfl (by decide) rfl rfl (Nat.le_of_ble_eq_true rfl) (by decide) (eX_isOne_169 x2 _ _ hq26) ?_
      refine v_if_ne (tgt := 38) dX11_as_29 (by decide) (fun c27 => ?_) (fun c27 => ?_)
      · replace h := ite_f c27 h
        refine v_aload_n dX11_as_38 0 rfl rfl (v_iload_n dX11_as_39 1 rfl rfl ?_)
        obtain ⟨q28, hq28, h⟩ := bind_some h
        refine v_callV (As := [.int x1]) (S := []) dX11_as_40 tw307 tw309 tw1 ykX11_unhindered lc_0 shc_0 (by decide) ok_10 rfl (by decide) rfl rfl (Nat.le_of_ble_eq_true rfl) (by decide) (eX_unhindered x1 _ _ hq28) ?_
        replace h := Option.some.inj h
        subst h
        exact v_iret dX11_as_43 rfl rfl rfl rfl rfl
      · replace h := ite_t c27 h
        refine v_aload_n dX11_as_32 0 rfl rfl (v_iconst dX11_as_33 rfl ?_)
        obtain ⟨q29, hq29, h⟩ := bind_some h
        refine v_callV (As := [.int 3]) (S := []) dX11_as_34 tw298 tw300 tw0 ykX11_found lc_0 shc_0 (by decide) ok_10 rfl (by decide) rfl rfl (Nat.le_of_ble_eq_true rfl) (by decide) (eX_found 3 _ _ hq29) ?_
        replace h := Option.some.inj h
        subst h
        exact v_iret dX11_as_37 rfl rfl rfl rfl rfl
    · replace h := ite_t c4 h
      refine v_ldc dX11_as_17 tw297 ?_
      replace h := Option.some.inj h
      subst h
      exact v_iret dX11_as_19 rfl rfl rfl rfl rfl
def fP_mark_165 (x2 : Int32) (σ : Sg) : Option (Int32 × Sg) := (fC_leave 20 σ).bind fun q1 => some (x2, q1)
set_option maxRecDepth 100000 in
set_option maxHeartbeats 4000000 in
theorem eP_mark_165 {G : Gx} (x2 : Int32) (σ : Sg) (q : (Int32 × Sg)) (h : fP_mark_165 x2 σ = some q) : Evm G yX6_mark MX6_mark_165 [.ref (gb G + 165), .ref (gb G + 4), .int x2, .ref (gb G + 170)] σ (some (.int q.1)) q.2 := by
  refine Ev.of (by decide +kernel) rfl rfl (Nat.le_of_ble_eq_true rfl) ?_
  show Vm G MX6_mark_165 (some (.int q.1)) q.2 0 [(0, .ref (gb G + 165)), (1, .ref (gb G + 4)), (2, .int x2), (3, .ref (gb G + 170))] [] σ
  unfold fP_mark_165 at h
  refine v_aload_n dX6_mark_0 3 rfl rfl (v_bipush (v := 20) dX6_mark_1 rfl ?_)
  obtain ⟨q1, hq1, h⟩ := bind_some h
  refine v_callV (As := [.int 20]) (S := []) dX6_mark_3 tw646 tw619 tw620 ykX9_leave lc_170 shc_170 (by decide) ok_8 rfl (by decide) rfl rfl (Nat.le_of_ble_eq_true rfl) (by decide) (eC_leave 20 _ _ hq1) ?_
  refine v_iload_n dX6_mark_6 2 rfl rfl ?_
  replace h := Option.some.inj h
  subst h
  exact v_iret dX6_mark_7 rfl rfl rfl rfl rfl
def fPC_mark_165 (x2 : Int32) (σ : Sg) : Option (Int32 × Sg) := (fC_leave 21 σ).bind fun q1 => (fP_mark_165 x2 q1).bind fun q2 => (fH_envy 4 x2 q2.2).bind fun q3 => some (q2.1 + q3, q2.2)
set_option maxRecDepth 100000 in
set_option maxHeartbeats 4000000 in
theorem ePC_mark_165 {G : Gx} (x2 : Int32) (σ : Sg) (q : (Int32 × Sg)) (h : fPC_mark_165 x2 σ = some q) : Evm G yX2_mark MX2_mark_165 [.ref (gb G + 165), .ref (gb G + 4), .int x2, .ref (gb G + 170)] σ (some (.int q.1)) q.2 := by
  refine Ev.of (by decide +kernel) rfl rfl (Nat.le_of_ble_eq_true rfl) ?_
  show Vm G MX2_mark_165 (some (.int q.1)) q.2 0 [(0, .ref (gb G + 165)), (1, .ref (gb G + 4)), (2, .int x2), (3, .ref (gb G + 170))] [] σ
  unfold fPC_mark_165 at h
  refine v_aload_n dX2_mark_0 3 rfl rfl (v_bipush (v := 21) dX2_mark_1 rfl ?_)
  obtain ⟨q1, hq1, h⟩ := bind_some h
  refine v_callV (As := [.int 21]) (S := []) dX2_mark_3 tw626 tw619 tw620 ykX9_leave lc_170 shc_170 (by decide) ok_8 rfl (by decide) rfl rfl (Nat.le_of_ble_eq_true rfl) (by decide) (eC_leave 21 _ _ hq1) ?_
  refine v_aload_n dX2_mark_6 0 rfl rfl (v_aload_n dX2_mark_7 1 rfl rfl (v_iload_n dX2_mark_8 2 rfl rfl (v_aload_n dX2_mark_9 3 rfl rfl ?_)))
  obtain ⟨q2, hq2, h⟩ := bind_some h
  refine v_callSU (As := [.ref (gb G + 4), .int x2, .ref (gb G + 170)]) (S := []) dX2_mark_10 tw643 tw1035 tw188 tw644 (by decide +kernel) ykX6_mark_165 lc_165 shc_165 (by decide) ok_2 rfl (by decide) rfl rfl (Nat.le_of_ble_eq_true rfl) (by decide) (eP_mark_165 x2 _ _ hq2) ?_
  refine v_aload_n dX2_mark_13 1 rfl rfl (v_iload_n dX2_mark_14 2 rfl rfl ?_)
  obtain ⟨q3, hq3, h⟩ := bind_some h
  refine v_callV (As := [.int x2]) (S := [.int q2.1]) dX2_mark_15 tw647 tw429 tw430 ykX4_envy ((isH_s isH_4).2.1) ((isH_s isH_4).1.1) (by decide) ok_4 rfl (by decide) rfl rfl (Nat.le_of_ble_eq_true rfl) (by decide) (eH_envy 4 isH_4 x2 _ _ hq3) ?_
  refine v_iadd dX2_mark_18 ?_
  replace h := Option.some.inj h
  subst h
  exact v_iret dX2_mark_19 rfl rfl rfl rfl rfl
def fP_mark_166 (x2 : Int32) (σ : Sg) : Option (Int32 × Sg) := (fC_leave 20 σ).bind fun q1 => some (x2, q1)
set_option maxRecDepth 100000 in
set_option maxHeartbeats 4000000 in
theorem eP_mark_166 {G : Gx} (x2 : Int32) (σ : Sg) (q : (Int32 × Sg)) (h : fP_mark_166 x2 σ = some q) : Evm G yX6_mark MX6_mark_166 [.ref (gb G + 166), .ref (gb G + 4), .int x2, .ref (gb G + 170)] σ (some (.int q.1)) q.2 := by
  refine Ev.of (by decide +kernel) rfl rfl (Nat.le_of_ble_eq_true rfl) ?_
  show Vm G MX6_mark_166 (some (.int q.1)) q.2 0 [(0, .ref (gb G + 166)), (1, .ref (gb G + 4)), (2, .int x2), (3, .ref (gb G + 170))] [] σ
  unfold fP_mark_166 at h
  refine v_aload_n dX6_mark_0 3 rfl rfl (v_bipush (v := 20) dX6_mark_1 rfl ?_)
  obtain ⟨q1, hq1, h⟩ := bind_some h
  refine v_callV (As := [.int 20]) (S := []) dX6_mark_3 tw646 tw619 tw620 ykX9_leave lc_170 shc_170 (by decide) ok_8 rfl (by decide) rfl rfl (Nat.le_of_ble_eq_true rfl) (by decide) (eC_leave 20 _ _ hq1) ?_
  refine v_iload_n dX6_mark_6 2 rfl rfl ?_
  replace h := Option.some.inj h
  subst h
  exact v_iret dX6_mark_7 rfl rfl rfl rfl rfl
def fPC_mark_166 (x2 : Int32) (σ : Sg) : Option (Int32 × Sg) := (fC_leave 21 σ).bind fun q1 => (fP_mark_166 x2 q1).bind fun q2 => (fH_envy 4 x2 q2.2).bind fun q3 => some (q2.1 + q3, q2.2)
set_option maxRecDepth 100000 in
set_option maxHeartbeats 4000000 in
theorem ePC_mark_166 {G : Gx} (x2 : Int32) (σ : Sg) (q : (Int32 × Sg)) (h : fPC_mark_166 x2 σ = some q) : Evm G yX2_mark MX2_mark_166 [.ref (gb G + 166), .ref (gb G + 4), .int x2, .ref (gb G + 170)] σ (some (.int q.1)) q.2 := by
  refine Ev.of (by decide +kernel) rfl rfl (Nat.le_of_ble_eq_true rfl) ?_
  show Vm G MX2_mark_166 (some (.int q.1)) q.2 0 [(0, .ref (gb G + 166)), (1, .ref (gb G + 4)), (2, .int x2), (3, .ref (gb G + 170))] [] σ
  unfold fPC_mark_166 at h
  refine v_aload_n dX2_mark_0 3 rfl rfl (v_bipush (v := 21) dX2_mark_1 rfl ?_)
  obtain ⟨q1, hq1, h⟩ := bind_some h
  refine v_callV (As := [.int 21]) (S := []) dX2_mark_3 tw626 tw619 tw620 ykX9_leave lc_170 shc_170 (by decide) ok_8 rfl (by decide) rfl rfl (Nat.le_of_ble_eq_true rfl) (by decide) (eC_leave 21 _ _ hq1) ?_
  refine v_aload_n dX2_mark_6 0 rfl rfl (v_aload_n dX2_mark_7 1 rfl rfl (v_iload_n dX2_mark_8 2 rfl rfl (v_aload_n dX2_mark_9 3 rfl rfl ?_)))
  obtain ⟨q2, hq2, h⟩ := bind_some h
  refine v_callSU (As := [.ref (gb G + 4), .int x2, .ref (gb G + 170)]) (S := []) dX2_mark_10 tw643 tw1035 tw188 tw644 (by decide +kernel) ykX6_mark_166 lc_166 shc_166 (by decide) ok_9 rfl (by decide) rfl rfl (Nat.le_of_ble_eq_true rfl) (by decide) (eP_mark_166 x2 _ _ hq2) ?_
  refine v_aload_n dX2_mark_13 1 rfl rfl (v_iload_n dX2_mark_14 2 rfl rfl ?_)
  obtain ⟨q3, hq3, h⟩ := bind_some h
  refine v_callV (As := [.int x2]) (S := [.int q2.1]) dX2_mark_15 tw647 tw429 tw430 ykX4_envy ((isH_s isH_4).2.1) ((isH_s isH_4).1.1) (by decide) ok_4 rfl (by decide) rfl rfl (Nat.le_of_ble_eq_true rfl) (by decide) (eH_envy 4 isH_4 x2 _ _ hq3) ?_
  refine v_iadd dX2_mark_18 ?_
  replace h := Option.some.inj h
  subst h
  exact v_iret dX2_mark_19 rfl rfl rfl rfl rfl
def fPV_mark_166 (x2 : Int32) (σ : Sg) : Option (Int32 × Sg) := (fC_leave 24 σ).bind fun q1 => (fPC_mark_166 x2 q1).bind fun q2 => some (q2.1 * 2, q2.2)
set_option maxRecDepth 100000 in
set_option maxHeartbeats 4000000 in
theorem ePV_mark_166 {G : Gx} (x2 : Int32) (σ : Sg) (q : (Int32 × Sg)) (h : fPV_mark_166 x2 σ = some q) : Evm G yX10_mark MX10_mark_166 [.ref (gb G + 166), .ref (gb G + 4), .int x2, .ref (gb G + 170)] σ (some (.int q.1)) q.2 := by
  refine Ev.of (by decide +kernel) rfl rfl (Nat.le_of_ble_eq_true rfl) ?_
  show Vm G MX10_mark_166 (some (.int q.1)) q.2 0 [(0, .ref (gb G + 166)), (1, .ref (gb G + 4)), (2, .int x2), (3, .ref (gb G + 170))] [] σ
  unfold fPV_mark_166 at h
  refine v_aload_n dX10_mark_0 3 rfl rfl (v_bipush (v := 24) dX10_mark_1 rfl ?_)
  obtain ⟨q1, hq1, h⟩ := bind_some h
  refine v_callV (As := [.int 24]) (S := []) dX10_mark_3 tw640 tw619 tw620 ykX9_leave lc_170 shc_170 (by decide) ok_8 rfl (by decide) rfl rfl (Nat.le_of_ble_eq_true rfl) (by decide) (eC_leave 24 _ _ hq1) ?_
  refine v_aload_n dX10_mark_6 0 rfl rfl (v_aload_n dX10_mark_7 1 rfl rfl (v_iload_n dX10_mark_8 2 rfl rfl (v_aload_n dX10_mark_9 3 rfl rfl ?_)))
  obtain ⟨q2, hq2, h⟩ := bind_some h
  refine v_callSU (As := [.ref (gb G + 4), .int x2, .ref (gb G + 170)]) (S := []) dX10_mark_10 tw641 tw631 tw195 tw629 (by decide +kernel) ykX2_mark_166 lc_166 shc_166 (by decide) ok_9 rfl (by decide) rfl rfl (Nat.le_of_ble_eq_true rfl) (by decide) (ePC_mark_166 x2 _ _ hq2) ?_
  refine v_iconst dX10_mark_13 rfl (v_imul dX10_mark_14 ?_)
  replace h := Option.some.inj h
  subst h
  exact v_iret dX10_mark_15 rfl rfl rfl rfl rfl
def fP_mark_167 (x2 : Int32) (σ : Sg) : Option (Int32 × Sg) := (fC_leave 20 σ).bind fun q1 => some (x2, q1)
set_option maxRecDepth 100000 in
set_option maxHeartbeats 4000000 in
theorem eP_mark_167 {G : Gx} (x2 : Int32) (σ : Sg) (q : (Int32 × Sg)) (h : fP_mark_167 x2 σ = some q) : Evm G yX6_mark MX6_mark_167 [.ref (gb G + 167), .ref (gb G + 4), .int x2, .ref (gb G + 170)] σ (some (.int q.1)) q.2 := by
  refine Ev.of (by decide +kernel) rfl rfl (Nat.le_of_ble_eq_true rfl) ?_
  show Vm G MX6_mark_167 (some (.int q.1)) q.2 0 [(0, .ref (gb G + 167)), (1, .ref (gb G + 4)), (2, .int x2), (3, .ref (gb G + 170))] [] σ
  unfold fP_mark_167 at h
  refine v_aload_n dX6_mark_0 3 rfl rfl (v_bipush (v := 20) dX6_mark_1 rfl ?_)
  obtain ⟨q1, hq1, h⟩ := bind_some h
  refine v_callV (As := [.int 20]) (S := []) dX6_mark_3 tw646 tw619 tw620 ykX9_leave lc_170 shc_170 (by decide) ok_8 rfl (by decide) rfl rfl (Nat.le_of_ble_eq_true rfl) (by decide) (eC_leave 20 _ _ hq1) ?_
  refine v_iload_n dX6_mark_6 2 rfl rfl ?_
  replace h := Option.some.inj h
  subst h
  exact v_iret dX6_mark_7 rfl rfl rfl rfl rfl
def fPC_mark_167 (x2 : Int32) (σ : Sg) : Option (Int32 × Sg) := (fC_leave 21 σ).bind fun q1 => (fP_mark_167 x2 q1).bind fun q2 => (fH_envy 4 x2 q2.2).bind fun q3 => some (q2.1 + q3, q2.2)
set_option maxRecDepth 100000 in
set_option maxHeartbeats 4000000 in
theorem ePC_mark_167 {G : Gx} (x2 : Int32) (σ : Sg) (q : (Int32 × Sg)) (h : fPC_mark_167 x2 σ = some q) : Evm G yX2_mark MX2_mark_167 [.ref (gb G + 167), .ref (gb G + 4), .int x2, .ref (gb G + 170)] σ (some (.int q.1)) q.2 := by
  refine Ev.of (by decide +kernel) rfl rfl (Nat.le_of_ble_eq_true rfl) ?_
  show Vm G MX2_mark_167 (some (.int q.1)) q.2 0 [(0, .ref (gb G + 167)), (1, .ref (gb G + 4)), (2, .int x2), (3, .ref (gb G + 170))] [] σ
  unfold fPC_mark_167 at h
  refine v_aload_n dX2_mark_0 3 rfl rfl (v_bipush (v := 21) dX2_mark_1 rfl ?_)
  obtain ⟨q1, hq1, h⟩ := bind_some h
  refine v_callV (As := [.int 21]) (S := []) dX2_mark_3 tw626 tw619 tw620 ykX9_leave lc_170 shc_170 (by decide) ok_8 rfl (by decide) rfl rfl (Nat.le_of_ble_eq_true rfl) (by decide) (eC_leave 21 _ _ hq1) ?_
  refine v_aload_n dX2_mark_6 0 rfl rfl (v_aload_n dX2_mark_7 1 rfl rfl (v_iload_n dX2_mark_8 2 rfl rfl (v_aload_n dX2_mark_9 3 rfl rfl ?_)))
  obtain ⟨q2, hq2, h⟩ := bind_some h
  refine v_callSU (As := [.ref (gb G + 4), .int x2, .ref (gb G + 170)]) (S := []) dX2_mark_10 tw643 tw1035 tw188 tw644 (by decide +kernel) ykX6_mark_167 lc_167 shc_167 (by decide) ok_5 rfl (by decide) rfl rfl (Nat.le_of_ble_eq_true rfl) (by decide) (eP_mark_167 x2 _ _ hq2) ?_
  refine v_aload_n dX2_mark_13 1 rfl rfl (v_iload_n dX2_mark_14 2 rfl rfl ?_)
  obtain ⟨q3, hq3, h⟩ := bind_some h
  refine v_callV (As := [.int x2]) (S := [.int q2.1]) dX2_mark_15 tw647 tw429 tw430 ykX4_envy ((isH_s isH_4).2.1) ((isH_s isH_4).1.1) (by decide) ok_4 rfl (by decide) rfl rfl (Nat.le_of_ble_eq_true rfl) (by decide) (eH_envy 4 isH_4 x2 _ _ hq3) ?_
  refine v_iadd dX2_mark_18 ?_
  replace h := Option.some.inj h
  subst h
  exact v_iret dX2_mark_19 rfl rfl rfl rfl rfl
def fPM_mark_167 (x2 : Int32) (σ : Sg) : Option (Int32 × Sg) := (fC_leave 22 σ).bind fun q1 => (fPC_mark_167 x2 q1).bind fun q2 => some (q2.1 - 1000, q2.2)
set_option maxRecDepth 100000 in
set_option maxHeartbeats 4000000 in
theorem ePM_mark_167 {G : Gx} (x2 : Int32) (σ : Sg) (q : (Int32 × Sg)) (h : fPM_mark_167 x2 σ = some q) : Evm G yX5_mark MX5_mark_167 [.ref (gb G + 167), .ref (gb G + 4), .int x2, .ref (gb G + 170)] σ (some (.int q.1)) q.2 := by
  refine Ev.of (by decide +kernel) rfl rfl (Nat.le_of_ble_eq_true rfl) ?_
  show Vm G MX5_mark_167 (some (.int q.1)) q.2 0 [(0, .ref (gb G + 167)), (1, .ref (gb G + 4)), (2, .int x2), (3, .ref (gb G + 170))] [] σ
  unfold fPM_mark_167 at h
  refine v_aload_n dX5_mark_0 3 rfl rfl (v_bipush (v := 22) dX5_mark_1 rfl ?_)
  obtain ⟨q1, hq1, h⟩ := bind_some h
  refine v_callV (As := [.int 22]) (S := []) dX5_mark_3 tw635 tw619 tw620 ykX9_leave lc_170 shc_170 (by decide) ok_8 rfl (by decide) rfl rfl (Nat.le_of_ble_eq_true rfl) (by decide) (eC_leave 22 _ _ hq1) ?_
  refine v_aload_n dX5_mark_6 0 rfl rfl (v_aload_n dX5_mark_7 1 rfl rfl (v_iload_n dX5_mark_8 2 rfl rfl (v_aload_n dX5_mark_9 3 rfl rfl ?_)))
  obtain ⟨q2, hq2, h⟩ := bind_some h
  refine v_callSU (As := [.ref (gb G + 4), .int x2, .ref (gb G + 170)]) (S := []) dX5_mark_10 tw636 tw631 tw202 tw629 (by decide +kernel) ykX2_mark_167 lc_167 shc_167 (by decide) ok_5 rfl (by decide) rfl rfl (Nat.le_of_ble_eq_true rfl) (by decide) (ePC_mark_167 x2 _ _ hq2) ?_
  refine v_sipush (v := 1000) dX5_mark_13 rfl (v_isub dX5_mark_16 ?_)
  replace h := Option.some.inj h
  subst h
  exact v_iret dX5_mark_17 rfl rfl rfl rfl rfl
def fP_mark_168 (x2 : Int32) (σ : Sg) : Option (Int32 × Sg) := (fC_leave 20 σ).bind fun q1 => some (x2, q1)
set_option maxRecDepth 100000 in
set_option maxHeartbeats 4000000 in
theorem eP_mark_168 {G : Gx} (x2 : Int32) (σ : Sg) (q : (Int32 × Sg)) (h : fP_mark_168 x2 σ = some q) : Evm G yX6_mark MX6_mark_168 [.ref (gb G + 168), .ref (gb G + 4), .int x2, .ref (gb G + 170)] σ (some (.int q.1)) q.2 := by
  refine Ev.of (by decide +kernel) rfl rfl (Nat.le_of_ble_eq_true rfl) ?_
  show Vm G MX6_mark_168 (some (.int q.1)) q.2 0 [(0, .ref (gb G + 168)), (1, .ref (gb G + 4)), (2, .int x2), (3, .ref (gb G + 170))] [] σ
  unfold fP_mark_168 at h
  refine v_aload_n dX6_mark_0 3 rfl rfl (v_bipush (v := 20) dX6_mark_1 rfl ?_)
  obtain ⟨q1, hq1, h⟩ := bind_some h
  refine v_callV (As := [.int 20]) (S := []) dX6_mark_3 tw646 tw619 tw620 ykX9_leave lc_170 shc_170 (by decide) ok_8 rfl (by decide) rfl rfl (Nat.le_of_ble_eq_true rfl) (by decide) (eC_leave 20 _ _ hq1) ?_
  refine v_iload_n dX6_mark_6 2 rfl rfl ?_
  replace h := Option.some.inj h
  subst h
  exact v_iret dX6_mark_7 rfl rfl rfl rfl rfl
def fP_size_168 (x2 : Int32) (σ : Sg) : Option (Int32 × Sg) := (fC_leave 10 σ).bind fun q1 => if inb x2 6 = true then some (q1 (4 + 3) (ix x2), q1) else none
set_option maxRecDepth 100000 in
set_option maxHeartbeats 4000000 in
theorem eP_size_168 {G : Gx} (x2 : Int32) (σ : Sg) (q : (Int32 × Sg)) (h : fP_size_168 x2 σ = some q) : Evm G yX6_size MX6_size_168 [.ref (gb G + 168), .ref (gb G + 4), .int x2, .ref (gb G + 170)] σ (some (.int q.1)) q.2 := by
  refine Ev.of (by decide +kernel) rfl rfl (Nat.le_of_ble_eq_true rfl) ?_
  show Vm G MX6_size_168 (some (.int q.1)) q.2 0 [(0, .ref (gb G + 168)), (1, .ref (gb G + 4)), (2, .int x2), (3, .ref (gb G + 170))] [] σ
  unfold fP_size_168 at h
  refine v_aload_n dX6_size_0 3 rfl rfl (v_bipush (v := 10) dX6_size_1 rfl ?_)
  obtain ⟨q1, hq1, h⟩ := bind_some h
  refine v_callV (As := [.int 10]) (S := []) dX6_size_3 tw646 tw619 tw620 ykX9_leave lc_170 shc_170 (by decide) ok_8 rfl (by decide) rfl rfl (Nat.le_of_ble_eq_true rfl) (by decide) (eC_leave 10 _ _ hq1) ?_
  refine v_aload_n dX6_size_6 1 rfl rfl (vm_getR (t := (4 + 3)) dX6_size_7 fsX6_13 ((isH_s isH_4).2.1) ((isH_s isH_4).1.1) (by decide) ((isH_r isH_4).1.2.2.1) (v_iload_n dX6_size_10 2 rfl rfl ?_))
  obtain ⟨g2, h⟩ := guard_some h
  refine vn_iald dX6_size_11 ((isH_s isH_4).2.2.2.2.1) ((isH_s isH_4).1.2.2.2.1) g2 rfl ?_
  replace h := Option.some.inj h
  subst h
  exact v_iret dX6_size_12 rfl rfl rfl rfl rfl
def fPF_size_168 (x2 : Int32) (σ : Sg) : Option (Int32 × Sg) := (fC_leave 13 σ).bind fun q1 => (fP_size_168 x2 q1).bind fun q2 => some (q2.1 - 100, q2.2)
set_option maxRecDepth 100000 in
set_option maxHeartbeats 4000000 in
theorem ePF_size_168 {G : Gx} (x2 : Int32) (σ : Sg) (q : (Int32 × Sg)) (h : fPF_size_168 x2 σ = some q) : Evm G yX1_size MX1_size_168 [.ref (gb G + 168), .ref (gb G + 4), .int x2, .ref (gb G + 170)] σ (some (.int q.1)) q.2 := by
  refine Ev.of (by decide +kernel) rfl rfl (Nat.le_of_ble_eq_true rfl) ?_
  show Vm G MX1_size_168 (some (.int q.1)) q.2 0 [(0, .ref (gb G + 168)), (1, .ref (gb G + 4)), (2, .int x2), (3, .ref (gb G + 170))] [] σ
  unfold fPF_size_168 at h
  refine v_aload_n dX1_size_0 3 rfl rfl (v_bipush (v := 13) dX1_size_1 rfl ?_)
  obtain ⟨q1, hq1, h⟩ := bind_some h
  refine v_callV (As := [.int 13]) (S := []) dX1_size_3 tw618 tw619 tw620 ykX9_leave lc_170 shc_170 (by decide) ok_8 rfl (by decide) rfl rfl (Nat.le_of_ble_eq_true rfl) (by decide) (eC_leave 13 _ _ hq1) ?_
  refine v_aload_n dX1_size_6 0 rfl rfl (v_aload_n dX1_size_7 1 rfl rfl (v_iload_n dX1_size_8 2 rfl rfl (v_aload_n dX1_size_9 3 rfl rfl ?_)))
  obtain ⟨q2, hq2, h⟩ := bind_some h
  refine v_callSU (As := [.ref (gb G + 4), .int x2, .ref (gb G + 170)]) (S := []) dX1_size_10 tw622 tw614 tw209 tw613 (by decide +kernel) ykX6_size_168 lc_168 shc_168 (by decide) ok_1 rfl (by decide) rfl rfl (Nat.le_of_ble_eq_true rfl) (by decide) (eP_size_168 x2 _ _ hq2) ?_
  refine v_bipush (v := 100) dX1_size_13 rfl (v_isub dX1_size_15 ?_)
  replace h := Option.some.inj h
  subst h
  exact v_iret dX1_size_16 rfl rfl rfl rfl rfl
def fPF_mark_168 (x2 : Int32) (σ : Sg) : Option (Int32 × Sg) := (fC_leave 23 σ).bind fun q1 => (fP_mark_168 x2 q1).bind fun q2 => (fPF_size_168 x2 q2.2).bind fun q3 => some (q2.1 - q3.1, q3.2)
set_option maxRecDepth 100000 in
set_option maxHeartbeats 4000000 in
theorem ePF_mark_168 {G : Gx} (x2 : Int32) (σ : Sg) (q : (Int32 × Sg)) (h : fPF_mark_168 x2 σ = some q) : Evm G yX1_mark MX1_mark_168 [.ref (gb G + 168), .ref (gb G + 4), .int x2, .ref (gb G + 170)] σ (some (.int q.1)) q.2 := by
  refine Ev.of (by decide +kernel) rfl rfl (Nat.le_of_ble_eq_true rfl) ?_
  show Vm G MX1_mark_168 (some (.int q.1)) q.2 0 [(0, .ref (gb G + 168)), (1, .ref (gb G + 4)), (2, .int x2), (3, .ref (gb G + 170))] [] σ
  unfold fPF_mark_168 at h
  refine v_aload_n dX1_mark_0 3 rfl rfl (v_bipush (v := 23) dX1_mark_1 rfl ?_)
  obtain ⟨q1, hq1, h⟩ := bind_some h
  refine v_callV (As := [.int 23]) (S := []) dX1_mark_3 tw618 tw619 tw620 ykX9_leave lc_170 shc_170 (by decide) ok_8 rfl (by decide) rfl rfl (Nat.le_of_ble_eq_true rfl) (by decide) (eC_leave 23 _ _ hq1) ?_
  refine v_aload_n dX1_mark_6 0 rfl rfl (v_aload_n dX1_mark_7 1 rfl rfl (v_iload_n dX1_mark_8 2 rfl rfl (v_aload_n dX1_mark_9 3 rfl rfl ?_)))
  obtain ⟨q2, hq2, h⟩ := bind_some h
  refine v_callSU (As := [.ref (gb G + 4), .int x2, .ref (gb G + 170)]) (S := []) dX1_mark_10 tw662 tw1035 tw209 tw644 (by decide +kernel) ykX6_mark_168 lc_168 shc_168 (by decide) ok_1 rfl (by decide) rfl rfl (Nat.le_of_ble_eq_true rfl) (by decide) (eP_mark_168 x2 _ _ hq2) ?_
  refine v_aload_n dX1_mark_13 0 rfl rfl (v_aload_n dX1_mark_14 1 rfl rfl (v_iload_n dX1_mark_15 2 rfl rfl (v_aload_n dX1_mark_16 3 rfl rfl ?_)))
  obtain ⟨q3, hq3, h⟩ := bind_some h
  refine v_callV (As := [.ref (gb G + 4), .int x2, .ref (gb G + 170)]) (S := [.int q2.1]) dX1_mark_17 tw663 tw616 tw1039 ykX1_size_168 lc_168 shc_168 (by decide) ok_1 rfl (by decide) rfl rfl (Nat.le_of_ble_eq_true rfl) (by decide) (ePF_size_168 x2 _ _ hq3) ?_
  refine v_isub dX1_mark_20 ?_
  replace h := Option.some.inj h
  subst h
  exact v_iret dX1_mark_21 rfl rfl rfl rfl rfl
def fP_mark_169 (x2 : Int32) (σ : Sg) : Option (Int32 × Sg) := (fC_leave 20 σ).bind fun q1 => some (x2, q1)
set_option maxRecDepth 100000 in
set_option maxHeartbeats 4000000 in
theorem eP_mark_169 {G : Gx} (x2 : Int32) (σ : Sg) (q : (Int32 × Sg)) (h : fP_mark_169 x2 σ = some q) : Evm G yX6_mark MX6_mark_169 [.ref (gb G + 169), .ref (gb G + 4), .int x2, .ref (gb G + 170)] σ (some (.int q.1)) q.2 := by
  refine Ev.of (by decide +kernel) rfl rfl (Nat.le_of_ble_eq_true rfl) ?_
  show Vm G MX6_mark_169 (some (.int q.1)) q.2 0 [(0, .ref (gb G + 169)), (1, .ref (gb G + 4)), (2, .int x2), (3, .ref (gb G + 170))] [] σ
  unfold fP_mark_169 at h
  refine v_aload_n dX6_mark_0 3 rfl rfl (v_bipush (v := 20) dX6_mark_1 rfl ?_)
  obtain ⟨q1, hq1, h⟩ := bind_some h
  refine v_callV (As := [.int 20]) (S := []) dX6_mark_3 tw646 tw619 tw620 ykX9_leave lc_170 shc_170 (by decide) ok_8 rfl (by decide) rfl rfl (Nat.le_of_ble_eq_true rfl) (by decide) (eC_leave 20 _ _ hq1) ?_
  refine v_iload_n dX6_mark_6 2 rfl rfl ?_
  replace h := Option.some.inj h
  subst h
  exact v_iret dX6_mark_7 rfl rfl rfl rfl rfl
def fP_size_169 (x2 : Int32) (σ : Sg) : Option (Int32 × Sg) := (fC_leave 10 σ).bind fun q1 => if inb x2 6 = true then some (q1 (4 + 3) (ix x2), q1) else none
set_option maxRecDepth 100000 in
set_option maxHeartbeats 4000000 in
theorem eP_size_169 {G : Gx} (x2 : Int32) (σ : Sg) (q : (Int32 × Sg)) (h : fP_size_169 x2 σ = some q) : Evm G yX6_size MX6_size_169 [.ref (gb G + 169), .ref (gb G + 4), .int x2, .ref (gb G + 170)] σ (some (.int q.1)) q.2 := by
  refine Ev.of (by decide +kernel) rfl rfl (Nat.le_of_ble_eq_true rfl) ?_
  show Vm G MX6_size_169 (some (.int q.1)) q.2 0 [(0, .ref (gb G + 169)), (1, .ref (gb G + 4)), (2, .int x2), (3, .ref (gb G + 170))] [] σ
  unfold fP_size_169 at h
  refine v_aload_n dX6_size_0 3 rfl rfl (v_bipush (v := 10) dX6_size_1 rfl ?_)
  obtain ⟨q1, hq1, h⟩ := bind_some h
  refine v_callV (As := [.int 10]) (S := []) dX6_size_3 tw646 tw619 tw620 ykX9_leave lc_170 shc_170 (by decide) ok_8 rfl (by decide) rfl rfl (Nat.le_of_ble_eq_true rfl) (by decide) (eC_leave 10 _ _ hq1) ?_
  refine v_aload_n dX6_size_6 1 rfl rfl (vm_getR (t := (4 + 3)) dX6_size_7 fsX6_13 ((isH_s isH_4).2.1) ((isH_s isH_4).1.1) (by decide) ((isH_r isH_4).1.2.2.1) (v_iload_n dX6_size_10 2 rfl rfl ?_))
  obtain ⟨g2, h⟩ := guard_some h
  refine vn_iald dX6_size_11 ((isH_s isH_4).2.2.2.2.1) ((isH_s isH_4).1.2.2.2.1) g2 rfl ?_
  replace h := Option.some.inj h
  subst h
  exact v_iret dX6_size_12 rfl rfl rfl rfl rfl
def fPF_size_169 (x2 : Int32) (σ : Sg) : Option (Int32 × Sg) := (fC_leave 13 σ).bind fun q1 => (fP_size_169 x2 q1).bind fun q2 => some (q2.1 - 100, q2.2)
set_option maxRecDepth 100000 in
set_option maxHeartbeats 4000000 in
theorem ePF_size_169 {G : Gx} (x2 : Int32) (σ : Sg) (q : (Int32 × Sg)) (h : fPF_size_169 x2 σ = some q) : Evm G yX1_size MX1_size_169 [.ref (gb G + 169), .ref (gb G + 4), .int x2, .ref (gb G + 170)] σ (some (.int q.1)) q.2 := by
  refine Ev.of (by decide +kernel) rfl rfl (Nat.le_of_ble_eq_true rfl) ?_
  show Vm G MX1_size_169 (some (.int q.1)) q.2 0 [(0, .ref (gb G + 169)), (1, .ref (gb G + 4)), (2, .int x2), (3, .ref (gb G + 170))] [] σ
  unfold fPF_size_169 at h
  refine v_aload_n dX1_size_0 3 rfl rfl (v_bipush (v := 13) dX1_size_1 rfl ?_)
  obtain ⟨q1, hq1, h⟩ := bind_some h
  refine v_callV (As := [.int 13]) (S := []) dX1_size_3 tw618 tw619 tw620 ykX9_leave lc_170 shc_170 (by decide) ok_8 rfl (by decide) rfl rfl (Nat.le_of_ble_eq_true rfl) (by decide) (eC_leave 13 _ _ hq1) ?_
  refine v_aload_n dX1_size_6 0 rfl rfl (v_aload_n dX1_size_7 1 rfl rfl (v_iload_n dX1_size_8 2 rfl rfl (v_aload_n dX1_size_9 3 rfl rfl ?_)))
  obtain ⟨q2, hq2, h⟩ := bind_some h
  refine v_callSU (As := [.ref (gb G + 4), .int x2, .ref (gb G + 170)]) (S := []) dX1_size_10 tw622 tw614 tw209 tw613 (by decide +kernel) ykX6_size_169 lc_169 shc_169 (by decide) ok_3 rfl (by decide) rfl rfl (Nat.le_of_ble_eq_true rfl) (by decide) (eP_size_169 x2 _ _ hq2) ?_
  refine v_bipush (v := 100) dX1_size_13 rfl (v_isub dX1_size_15 ?_)
  replace h := Option.some.inj h
  subst h
  exact v_iret dX1_size_16 rfl rfl rfl rfl rfl
def fPE_size_169 (x2 : Int32) (σ : Sg) : Option (Int32 × Sg) := (fC_leave 14 σ).bind fun q1 => (fPF_size_169 x2 q1).bind fun q2 => some (q2.1 * 2, q2.2)
set_option maxRecDepth 100000 in
set_option maxHeartbeats 4000000 in
theorem ePE_size_169 {G : Gx} (x2 : Int32) (σ : Sg) (q : (Int32 × Sg)) (h : fPE_size_169 x2 σ = some q) : Evm G yX3_size MX3_size_169 [.ref (gb G + 169), .ref (gb G + 4), .int x2, .ref (gb G + 170)] σ (some (.int q.1)) q.2 := by
  refine Ev.of (by decide +kernel) rfl rfl (Nat.le_of_ble_eq_true rfl) ?_
  show Vm G MX3_size_169 (some (.int q.1)) q.2 0 [(0, .ref (gb G + 169)), (1, .ref (gb G + 4)), (2, .int x2), (3, .ref (gb G + 170))] [] σ
  unfold fPE_size_169 at h
  refine v_aload_n dX3_size_0 3 rfl rfl (v_bipush (v := 14) dX3_size_1 rfl ?_)
  obtain ⟨q1, hq1, h⟩ := bind_some h
  refine v_callV (As := [.int 14]) (S := []) dX3_size_3 tw651 tw619 tw620 ykX9_leave lc_170 shc_170 (by decide) ok_8 rfl (by decide) rfl rfl (Nat.le_of_ble_eq_true rfl) (by decide) (eC_leave 14 _ _ hq1) ?_
  refine v_aload_n dX3_size_6 0 rfl rfl (v_aload_n dX3_size_7 1 rfl rfl (v_iload_n dX3_size_8 2 rfl rfl (v_aload_n dX3_size_9 3 rfl rfl ?_)))
  obtain ⟨q2, hq2, h⟩ := bind_some h
  refine v_callSU (As := [.ref (gb G + 4), .int x2, .ref (gb G + 170)]) (S := []) dX3_size_10 tw652 tw1036 tw216 tw616 (by decide +kernel) ykX1_size_169 lc_169 shc_169 (by decide) ok_3 rfl (by decide) rfl rfl (Nat.le_of_ble_eq_true rfl) (by decide) (ePF_size_169 x2 _ _ hq2) ?_
  refine v_iconst dX3_size_13 rfl (v_imul dX3_size_14 ?_)
  replace h := Option.some.inj h
  subst h
  exact v_iret dX3_size_15 rfl rfl rfl rfl rfl
def fPF_mark_169 (x2 : Int32) (σ : Sg) : Option (Int32 × Sg) := (fC_leave 23 σ).bind fun q1 => (fP_mark_169 x2 q1).bind fun q2 => (fPE_size_169 x2 q2.2).bind fun q3 => some (q2.1 - q3.1, q3.2)
set_option maxRecDepth 100000 in
set_option maxHeartbeats 4000000 in
theorem ePF_mark_169 {G : Gx} (x2 : Int32) (σ : Sg) (q : (Int32 × Sg)) (h : fPF_mark_169 x2 σ = some q) : Evm G yX1_mark MX1_mark_169 [.ref (gb G + 169), .ref (gb G + 4), .int x2, .ref (gb G + 170)] σ (some (.int q.1)) q.2 := by
  refine Ev.of (by decide +kernel) rfl rfl (Nat.le_of_ble_eq_true rfl) ?_
  show Vm G MX1_mark_169 (some (.int q.1)) q.2 0 [(0, .ref (gb G + 169)), (1, .ref (gb G + 4)), (2, .int x2), (3, .ref (gb G + 170))] [] σ
  unfold fPF_mark_169 at h
  refine v_aload_n dX1_mark_0 3 rfl rfl (v_bipush (v := 23) dX1_mark_1 rfl ?_)
  obtain ⟨q1, hq1, h⟩ := bind_some h
  refine v_callV (As := [.int 23]) (S := []) dX1_mark_3 tw618 tw619 tw620 ykX9_leave lc_170 shc_170 (by decide) ok_8 rfl (by decide) rfl rfl (Nat.le_of_ble_eq_true rfl) (by decide) (eC_leave 23 _ _ hq1) ?_
  refine v_aload_n dX1_mark_6 0 rfl rfl (v_aload_n dX1_mark_7 1 rfl rfl (v_iload_n dX1_mark_8 2 rfl rfl (v_aload_n dX1_mark_9 3 rfl rfl ?_)))
  obtain ⟨q2, hq2, h⟩ := bind_some h
  refine v_callSU (As := [.ref (gb G + 4), .int x2, .ref (gb G + 170)]) (S := []) dX1_mark_10 tw662 tw1035 tw209 tw644 (by decide +kernel) ykX6_mark_169 lc_169 shc_169 (by decide) ok_3 rfl (by decide) rfl rfl (Nat.le_of_ble_eq_true rfl) (by decide) (eP_mark_169 x2 _ _ hq2) ?_
  refine v_aload_n dX1_mark_13 0 rfl rfl (v_aload_n dX1_mark_14 1 rfl rfl (v_iload_n dX1_mark_15 2 rfl rfl (v_aload_n dX1_mark_16 3 rfl rfl ?_)))
  obtain ⟨q3, hq3, h⟩ := bind_some h
  refine v_callU (As := [.ref (gb G + 4), .int x2, .ref (gb G + 170)]) (S := [.int q2.1]) dX1_mark_17 tw663 tw1036 tw616 tw617 tw1040 tw649 ykX3_size_169 rfl (by decide +kernel) lc_169 shc_169 (by decide) ok_3 rfl (by decide) rfl rfl (Nat.le_of_ble_eq_true rfl) (by decide) (ePE_size_169 x2 _ _ hq3) ?_
  refine v_isub dX1_mark_20 ?_
  replace h := Option.some.inj h
  subst h
  exact v_iret dX1_mark_21 rfl rfl rfl rfl rfl
def fP_size_165 (x2 : Int32) (σ : Sg) : Option (Int32 × Sg) := (fC_leave 10 σ).bind fun q1 => if inb x2 6 = true then some (q1 (4 + 3) (ix x2), q1) else none
set_option maxRecDepth 100000 in
set_option maxHeartbeats 4000000 in
theorem eP_size_165 {G : Gx} (x2 : Int32) (σ : Sg) (q : (Int32 × Sg)) (h : fP_size_165 x2 σ = some q) : Evm G yX6_size MX6_size_165 [.ref (gb G + 165), .ref (gb G + 4), .int x2, .ref (gb G + 170)] σ (some (.int q.1)) q.2 := by
  refine Ev.of (by decide +kernel) rfl rfl (Nat.le_of_ble_eq_true rfl) ?_
  show Vm G MX6_size_165 (some (.int q.1)) q.2 0 [(0, .ref (gb G + 165)), (1, .ref (gb G + 4)), (2, .int x2), (3, .ref (gb G + 170))] [] σ
  unfold fP_size_165 at h
  refine v_aload_n dX6_size_0 3 rfl rfl (v_bipush (v := 10) dX6_size_1 rfl ?_)
  obtain ⟨q1, hq1, h⟩ := bind_some h
  refine v_callV (As := [.int 10]) (S := []) dX6_size_3 tw646 tw619 tw620 ykX9_leave lc_170 shc_170 (by decide) ok_8 rfl (by decide) rfl rfl (Nat.le_of_ble_eq_true rfl) (by decide) (eC_leave 10 _ _ hq1) ?_
  refine v_aload_n dX6_size_6 1 rfl rfl (vm_getR (t := (4 + 3)) dX6_size_7 fsX6_13 ((isH_s isH_4).2.1) ((isH_s isH_4).1.1) (by decide) ((isH_r isH_4).1.2.2.1) (v_iload_n dX6_size_10 2 rfl rfl ?_))
  obtain ⟨g2, h⟩ := guard_some h
  refine vn_iald dX6_size_11 ((isH_s isH_4).2.2.2.2.1) ((isH_s isH_4).1.2.2.2.1) g2 rfl ?_
  replace h := Option.some.inj h
  subst h
  exact v_iret dX6_size_12 rfl rfl rfl rfl rfl
def fPC_size_165 (x2 : Int32) (σ : Sg) : Option (Int32 × Sg) := (fC_leave 11 σ).bind fun q1 => (fP_size_165 x2 q1).bind fun q2 => (fPC_mark_165 x2 q2.2).bind fun q3 => some (q2.1 + q3.1, q3.2)
set_option maxRecDepth 100000 in
set_option maxHeartbeats 4000000 in
theorem ePC_size_165 {G : Gx} (x2 : Int32) (σ : Sg) (q : (Int32 × Sg)) (h : fPC_size_165 x2 σ = some q) : Evm G yX2_size MX2_size_165 [.ref (gb G + 165), .ref (gb G + 4), .int x2, .ref (gb G + 170)] σ (some (.int q.1)) q.2 := by
  refine Ev.of (by decide +kernel) rfl rfl (Nat.le_of_ble_eq_true rfl) ?_
  show Vm G MX2_size_165 (some (.int q.1)) q.2 0 [(0, .ref (gb G + 165)), (1, .ref (gb G + 4)), (2, .int x2), (3, .ref (gb G + 170))] [] σ
  unfold fPC_size_165 at h
  refine v_aload_n dX2_size_0 3 rfl rfl (v_bipush (v := 11) dX2_size_1 rfl ?_)
  obtain ⟨q1, hq1, h⟩ := bind_some h
  refine v_callV (As := [.int 11]) (S := []) dX2_size_3 tw626 tw619 tw620 ykX9_leave lc_170 shc_170 (by decide) ok_8 rfl (by decide) rfl rfl (Nat.le_of_ble_eq_true rfl) (by decide) (eC_leave 11 _ _ hq1) ?_
  refine v_aload_n dX2_size_6 0 rfl rfl (v_aload_n dX2_size_7 1 rfl rfl (v_iload_n dX2_size_8 2 rfl rfl (v_aload_n dX2_size_9 3 rfl rfl ?_)))
  obtain ⟨q2, hq2, h⟩ := bind_some h
  refine v_callSU (As := [.ref (gb G + 4), .int x2, .ref (gb G + 170)]) (S := []) dX2_size_10 tw627 tw614 tw188 tw613 (by decide +kernel) ykX6_size_165 lc_165 shc_165 (by decide) ok_2 rfl (by decide) rfl rfl (Nat.le_of_ble_eq_true rfl) (by decide) (eP_size_165 x2 _ _ hq2) ?_
  refine v_aload_n dX2_size_13 0 rfl rfl (v_aload_n dX2_size_14 1 rfl rfl (v_iload_n dX2_size_15 2 rfl rfl (v_aload_n dX2_size_16 3 rfl rfl ?_)))
  obtain ⟨q3, hq3, h⟩ := bind_some h
  refine v_callV (As := [.ref (gb G + 4), .int x2, .ref (gb G + 170)]) (S := [.int q2.1]) dX2_size_17 tw628 tw629 tw630 ykX2_mark_165 lc_165 shc_165 (by decide) ok_2 rfl (by decide) rfl rfl (Nat.le_of_ble_eq_true rfl) (by decide) (ePC_mark_165 x2 _ _ hq3) ?_
  refine v_iadd dX2_size_20 ?_
  replace h := Option.some.inj h
  subst h
  exact v_iret dX2_size_21 rfl rfl rfl rfl rfl
def fP_size_166 (x2 : Int32) (σ : Sg) : Option (Int32 × Sg) := (fC_leave 10 σ).bind fun q1 => if inb x2 6 = true then some (q1 (4 + 3) (ix x2), q1) else none
set_option maxRecDepth 100000 in
set_option maxHeartbeats 4000000 in
theorem eP_size_166 {G : Gx} (x2 : Int32) (σ : Sg) (q : (Int32 × Sg)) (h : fP_size_166 x2 σ = some q) : Evm G yX6_size MX6_size_166 [.ref (gb G + 166), .ref (gb G + 4), .int x2, .ref (gb G + 170)] σ (some (.int q.1)) q.2 := by
  refine Ev.of (by decide +kernel) rfl rfl (Nat.le_of_ble_eq_true rfl) ?_
  show Vm G MX6_size_166 (some (.int q.1)) q.2 0 [(0, .ref (gb G + 166)), (1, .ref (gb G + 4)), (2, .int x2), (3, .ref (gb G + 170))] [] σ
  unfold fP_size_166 at h
  refine v_aload_n dX6_size_0 3 rfl rfl (v_bipush (v := 10) dX6_size_1 rfl ?_)
  obtain ⟨q1, hq1, h⟩ := bind_some h
  refine v_callV (As := [.int 10]) (S := []) dX6_size_3 tw646 tw619 tw620 ykX9_leave lc_170 shc_170 (by decide) ok_8 rfl (by decide) rfl rfl (Nat.le_of_ble_eq_true rfl) (by decide) (eC_leave 10 _ _ hq1) ?_
  refine v_aload_n dX6_size_6 1 rfl rfl (vm_getR (t := (4 + 3)) dX6_size_7 fsX6_13 ((isH_s isH_4).2.1) ((isH_s isH_4).1.1) (by decide) ((isH_r isH_4).1.2.2.1) (v_iload_n dX6_size_10 2 rfl rfl ?_))
  obtain ⟨g2, h⟩ := guard_some h
  refine vn_iald dX6_size_11 ((isH_s isH_4).2.2.2.2.1) ((isH_s isH_4).1.2.2.2.1) g2 rfl ?_
  replace h := Option.some.inj h
  subst h
  exact v_iret dX6_size_12 rfl rfl rfl rfl rfl
def fPC_size_166 (x2 : Int32) (σ : Sg) : Option (Int32 × Sg) := (fC_leave 11 σ).bind fun q1 => (fP_size_166 x2 q1).bind fun q2 => (fPV_mark_166 x2 q2.2).bind fun q3 => some (q2.1 + q3.1, q3.2)
set_option maxRecDepth 100000 in
set_option maxHeartbeats 4000000 in
theorem ePC_size_166 {G : Gx} (x2 : Int32) (σ : Sg) (q : (Int32 × Sg)) (h : fPC_size_166 x2 σ = some q) : Evm G yX2_size MX2_size_166 [.ref (gb G + 166), .ref (gb G + 4), .int x2, .ref (gb G + 170)] σ (some (.int q.1)) q.2 := by
  refine Ev.of (by decide +kernel) rfl rfl (Nat.le_of_ble_eq_true rfl) ?_
  show Vm G MX2_size_166 (some (.int q.1)) q.2 0 [(0, .ref (gb G + 166)), (1, .ref (gb G + 4)), (2, .int x2), (3, .ref (gb G + 170))] [] σ
  unfold fPC_size_166 at h
  refine v_aload_n dX2_size_0 3 rfl rfl (v_bipush (v := 11) dX2_size_1 rfl ?_)
  obtain ⟨q1, hq1, h⟩ := bind_some h
  refine v_callV (As := [.int 11]) (S := []) dX2_size_3 tw626 tw619 tw620 ykX9_leave lc_170 shc_170 (by decide) ok_8 rfl (by decide) rfl rfl (Nat.le_of_ble_eq_true rfl) (by decide) (eC_leave 11 _ _ hq1) ?_
  refine v_aload_n dX2_size_6 0 rfl rfl (v_aload_n dX2_size_7 1 rfl rfl (v_iload_n dX2_size_8 2 rfl rfl (v_aload_n dX2_size_9 3 rfl rfl ?_)))
  obtain ⟨q2, hq2, h⟩ := bind_some h
  refine v_callSU (As := [.ref (gb G + 4), .int x2, .ref (gb G + 170)]) (S := []) dX2_size_10 tw627 tw614 tw188 tw613 (by decide +kernel) ykX6_size_166 lc_166 shc_166 (by decide) ok_9 rfl (by decide) rfl rfl (Nat.le_of_ble_eq_true rfl) (by decide) (eP_size_166 x2 _ _ hq2) ?_
  refine v_aload_n dX2_size_13 0 rfl rfl (v_aload_n dX2_size_14 1 rfl rfl (v_iload_n dX2_size_15 2 rfl rfl (v_aload_n dX2_size_16 3 rfl rfl ?_)))
  obtain ⟨q3, hq3, h⟩ := bind_some h
  refine v_callU (As := [.ref (gb G + 4), .int x2, .ref (gb G + 170)]) (S := [.int q2.1]) dX2_size_17 tw628 tw631 tw629 tw642 tw637 tw638 ykX10_mark_166 rfl (by decide +kernel) lc_166 shc_166 (by decide) ok_9 rfl (by decide) rfl rfl (Nat.le_of_ble_eq_true rfl) (by decide) (ePV_mark_166 x2 _ _ hq3) ?_
  refine v_iadd dX2_size_20 ?_
  replace h := Option.some.inj h
  subst h
  exact v_iret dX2_size_21 rfl rfl rfl rfl rfl
def fPV_size_166 (x2 : Int32) (σ : Sg) : Option (Int32 × Sg) := (fC_leave 12 σ).bind fun q1 => (fPC_size_166 x2 q1).bind fun q2 => some (0 - q2.1, q2.2)
set_option maxRecDepth 100000 in
set_option maxHeartbeats 4000000 in
theorem ePV_size_166 {G : Gx} (x2 : Int32) (σ : Sg) (q : (Int32 × Sg)) (h : fPV_size_166 x2 σ = some q) : Evm G yX10_size MX10_size_166 [.ref (gb G + 166), .ref (gb G + 4), .int x2, .ref (gb G + 170)] σ (some (.int q.1)) q.2 := by
  refine Ev.of (by decide +kernel) rfl rfl (Nat.le_of_ble_eq_true rfl) ?_
  show Vm G MX10_size_166 (some (.int q.1)) q.2 0 [(0, .ref (gb G + 166)), (1, .ref (gb G + 4)), (2, .int x2), (3, .ref (gb G + 170))] [] σ
  unfold fPV_size_166 at h
  refine v_aload_n dX10_size_0 3 rfl rfl (v_bipush (v := 12) dX10_size_1 rfl ?_)
  obtain ⟨q1, hq1, h⟩ := bind_some h
  refine v_callV (As := [.int 12]) (S := []) dX10_size_3 tw640 tw619 tw620 ykX9_leave lc_170 shc_170 (by decide) ok_8 rfl (by decide) rfl rfl (Nat.le_of_ble_eq_true rfl) (by decide) (eC_leave 12 _ _ hq1) ?_
  refine v_iconst dX10_size_6 rfl (v_aload_n dX10_size_7 0 rfl rfl (v_aload_n dX10_size_8 1 rfl rfl (v_iload_n dX10_size_9 2 rfl rfl (v_aload_n dX10_size_10 3 rfl rfl ?_))))
  obtain ⟨q2, hq2, h⟩ := bind_some h
  refine v_callSU (As := [.ref (gb G + 4), .int x2, .ref (gb G + 170)]) (S := [.int 0]) dX10_size_11 tw657 tw1037 tw195 tw624 (by decide +kernel) ykX2_size_166 lc_166 shc_166 (by decide) ok_9 rfl (by decide) rfl rfl (Nat.le_of_ble_eq_true rfl) (by decide) (ePC_size_166 x2 _ _ hq2) ?_
  refine v_isub dX10_size_14 ?_
  replace h := Option.some.inj h
  subst h
  exact v_iret dX10_size_15 rfl rfl rfl rfl rfl
def fP_size_167 (x2 : Int32) (σ : Sg) : Option (Int32 × Sg) := (fC_leave 10 σ).bind fun q1 => if inb x2 6 = true then some (q1 (4 + 3) (ix x2), q1) else none
set_option maxRecDepth 100000 in
set_option maxHeartbeats 4000000 in
theorem eP_size_167 {G : Gx} (x2 : Int32) (σ : Sg) (q : (Int32 × Sg)) (h : fP_size_167 x2 σ = some q) : Evm G yX6_size MX6_size_167 [.ref (gb G + 167), .ref (gb G + 4), .int x2, .ref (gb G + 170)] σ (some (.int q.1)) q.2 := by
  refine Ev.of (by decide +kernel) rfl rfl (Nat.le_of_ble_eq_true rfl) ?_
  show Vm G MX6_size_167 (some (.int q.1)) q.2 0 [(0, .ref (gb G + 167)), (1, .ref (gb G + 4)), (2, .int x2), (3, .ref (gb G + 170))] [] σ
  unfold fP_size_167 at h
  refine v_aload_n dX6_size_0 3 rfl rfl (v_bipush (v := 10) dX6_size_1 rfl ?_)
  obtain ⟨q1, hq1, h⟩ := bind_some h
  refine v_callV (As := [.int 10]) (S := []) dX6_size_3 tw646 tw619 tw620 ykX9_leave lc_170 shc_170 (by decide) ok_8 rfl (by decide) rfl rfl (Nat.le_of_ble_eq_true rfl) (by decide) (eC_leave 10 _ _ hq1) ?_
  refine v_aload_n dX6_size_6 1 rfl rfl (vm_getR (t := (4 + 3)) dX6_size_7 fsX6_13 ((isH_s isH_4).2.1) ((isH_s isH_4).1.1) (by decide) ((isH_r isH_4).1.2.2.1) (v_iload_n dX6_size_10 2 rfl rfl ?_))
  obtain ⟨g2, h⟩ := guard_some h
  refine vn_iald dX6_size_11 ((isH_s isH_4).2.2.2.2.1) ((isH_s isH_4).1.2.2.2.1) g2 rfl ?_
  replace h := Option.some.inj h
  subst h
  exact v_iret dX6_size_12 rfl rfl rfl rfl rfl
def fPC_size_167 (x2 : Int32) (σ : Sg) : Option (Int32 × Sg) := (fC_leave 11 σ).bind fun q1 => (fP_size_167 x2 q1).bind fun q2 => (fPM_mark_167 x2 q2.2).bind fun q3 => some (q2.1 + q3.1, q3.2)
set_option maxRecDepth 100000 in
set_option maxHeartbeats 4000000 in
theorem ePC_size_167 {G : Gx} (x2 : Int32) (σ : Sg) (q : (Int32 × Sg)) (h : fPC_size_167 x2 σ = some q) : Evm G yX2_size MX2_size_167 [.ref (gb G + 167), .ref (gb G + 4), .int x2, .ref (gb G + 170)] σ (some (.int q.1)) q.2 := by
  refine Ev.of (by decide +kernel) rfl rfl (Nat.le_of_ble_eq_true rfl) ?_
  show Vm G MX2_size_167 (some (.int q.1)) q.2 0 [(0, .ref (gb G + 167)), (1, .ref (gb G + 4)), (2, .int x2), (3, .ref (gb G + 170))] [] σ
  unfold fPC_size_167 at h
  refine v_aload_n dX2_size_0 3 rfl rfl (v_bipush (v := 11) dX2_size_1 rfl ?_)
  obtain ⟨q1, hq1, h⟩ := bind_some h
  refine v_callV (As := [.int 11]) (S := []) dX2_size_3 tw626 tw619 tw620 ykX9_leave lc_170 shc_170 (by decide) ok_8 rfl (by decide) rfl rfl (Nat.le_of_ble_eq_true rfl) (by decide) (eC_leave 11 _ _ hq1) ?_
  refine v_aload_n dX2_size_6 0 rfl rfl (v_aload_n dX2_size_7 1 rfl rfl (v_iload_n dX2_size_8 2 rfl rfl (v_aload_n dX2_size_9 3 rfl rfl ?_)))
  obtain ⟨q2, hq2, h⟩ := bind_some h
  refine v_callSU (As := [.ref (gb G + 4), .int x2, .ref (gb G + 170)]) (S := []) dX2_size_10 tw627 tw614 tw188 tw613 (by decide +kernel) ykX6_size_167 lc_167 shc_167 (by decide) ok_5 rfl (by decide) rfl rfl (Nat.le_of_ble_eq_true rfl) (by decide) (eP_size_167 x2 _ _ hq2) ?_
  refine v_aload_n dX2_size_13 0 rfl rfl (v_aload_n dX2_size_14 1 rfl rfl (v_iload_n dX2_size_15 2 rfl rfl (v_aload_n dX2_size_16 3 rfl rfl ?_)))
  obtain ⟨q3, hq3, h⟩ := bind_some h
  refine v_callU (As := [.ref (gb G + 4), .int x2, .ref (gb G + 170)]) (S := [.int q2.1]) dX2_size_17 tw628 tw631 tw629 tw642 tw632 tw633 ykX5_mark_167 rfl (by decide +kernel) lc_167 shc_167 (by decide) ok_5 rfl (by decide) rfl rfl (Nat.le_of_ble_eq_true rfl) (by decide) (ePM_mark_167 x2 _ _ hq3) ?_
  refine v_iadd dX2_size_20 ?_
  replace h := Option.some.inj h
  subst h
  exact v_iret dX2_size_21 rfl rfl rfl rfl rfl
def fX_ask (x1 : Int32) (x2 : Int32) (σ : Sg) : Option (Int32 × Sg) := (fX_isPerson x1 σ).bind fun q1 => if q1 = 0 then some ((-1000001), σ) else (fX_isWithin x2 0 1 σ).bind fun q3 => if q3 = 0 then some ((-1000001), σ) else ltc (wr σ 170 1 0) fun σ5 => (fX_kindOf x1 σ5).bind fun q6 => if x2 = 0 then (if q6 = 165 then ((fPC_size_165 x1 σ5).bind fun q17 => some (q17.1, q17.2)) else if q6 = 166 then ((fPV_size_166 x1 σ5).bind fun q19 => some (q19.1, q19.2)) else if q6 = 167 then ((fPC_size_167 x1 σ5).bind fun q21 => some (q21.1, q21.2)) else if q6 = 168 then ((fPF_size_168 x1 σ5).bind fun q23 => some (q23.1, q23.2)) else (fPE_size_169 x1 σ5).bind fun q25 => some (q25.1, q25.2)) else if q6 = 165 then ((fPC_mark_165 x1 σ5).bind fun q8 => some (q8.1, q8.2)) else if q6 = 166 then ((fPV_mark_166 x1 σ5).bind fun q10 => some (q10.1, q10.2)) else if q6 = 167 then ((fPM_mark_167 x1 σ5).bind fun q12 => some (q12.1, q12.2)) else if q6 = 168 then ((fPF_mark_168 x1 σ5).bind fun q14 => some (q14.1, q14.2)) else (fPF_mark_169 x1 σ5).bind fun q16 => some (q16.1, q16.2)
set_option maxRecDepth 100000 in
set_option maxHeartbeats 4000000 in
theorem eX_ask {G : Gx} (x1 : Int32) (x2 : Int32) (σ : Sg) (q : (Int32 × Sg)) (h : fX_ask x1 x2 σ = some q) : Evm G yX11_ask MX11_ask [.ref (gb G + 0), .int x1, .int x2] σ (some (.int q.1)) q.2 := by
  refine Ev.of (by decide +kernel) rfl rfl (Nat.le_of_ble_eq_true rfl) ?_
  show Vm G MX11_ask (some (.int q.1)) q.2 0 [(0, .ref (gb G + 0)), (1, .int x1), (2, .int x2)] [] σ
  unfold fX_ask at h
  refine v_aload_n dX11_ask_0 0 rfl rfl (v_iload_n dX11_ask_1 1 rfl rfl ?_)
  obtain ⟨q1, hq1, h⟩ := bind_some h
  refine v_callV (As := [.int x1]) (S := []) dX11_ask_2 tw440 tw442 tw9 ykX11_isPerson lc_0 shc_0 (by decide) ok_10 rfl (by decide) rfl rfl (Nat.le_of_ble_eq_true rfl) (by decide) (eX_isPerson x1 _ _ hq1) ?_
  refine v_if_eq (tgt := 17) dX11_ask_5 (by decide) (fun c2 => ?_) (fun c2 => ?_)
  · replace h := ite_t c2 h
    refine v_ldc dX11_ask_17 tw297 ?_
    replace h := Option.some.inj h
    subst h
    exact v_iret dX11_ask_19 rfl rfl rfl rfl rfl
  · replace h := ite_f c2 h
    refine v_iload_n dX11_ask_8 2 rfl rfl (v_iconst dX11_ask_9 rfl (v_iconst dX11_ask_10 rfl ?_))
    obtain ⟨q3, hq3, h⟩ := bind_some h
    refine v_callS (As := [.int x2, .int 0, .int 1]) (S := []) dX11_ask_11 tw294 tw295 ykX11_isWithin rfl (by decide) rfl rfl (Nat.le_of_ble_eq_true rfl) (by decide) (eX_isWithin x2 0 1 _ _ hq3) ?_
    refine v_if_ne (tgt := 20) dX11_ask_14 (by decide) (fun c4 => ?_) (fun c4 => ?_)
    · replace h := ite_f c4 h
      refine v_aload_n dX11_ask_20 0 rfl rfl (vm_getR (t := 170) dX11_ask_21 fsX11_71 lc_0 shc_0 (by decide) rf_0_8 (v_iconst dX11_ask_24 rfl ?_))
      obtain ⟨σ5, eσ5, h⟩ := ltc_some h
      refine vn_put dX11_ask_25 fsX11_271 lc_170 shc_170 (by decide) rf_170_1 eσ5 (v_aload_n dX11_ask_28 0 rfl rfl (v_iload_n dX11_ask_29 1 rfl rfl ?_))
      obtain ⟨q6, hq6, h⟩ := bind_some h
      refine v_callV (As := [.int x1]) (S := []) dX11_ask_30 tw601 tw603 tw14 ykX11_kindOf lc_0 shc_0 (by decide) ok_10 rfl (by decide) rfl rfl (Nat.le_of_ble_eq_true rfl) (by decide) (eX_kindOf x1 _ _ hq6) ?_
      refine v_astore_n dX11_ask_33 [0, 1, 2, 3] rfl (by decide) rfl (v_iload_n dX11_ask_34 3 rfl rfl (v_if_ne (tgt := 54) dX11_ask_35 (by decide) (fun c7 => ?_) (fun c7 => ?_)))
      · replace h := ite_f c7 h
        refine v_aload_n dX11_ask_54 0 rfl rfl (v_aload_n dX11_ask_55 1 rfl rfl (vm_getR (t := 4) dX11_ask_56 fsX11_25 lc_0 shc_0 (by decide) rf_0_2 (v_iload_n dX11_ask_59 2 rfl rfl (v_aload_n dX11_ask_60 1 rfl rfl (vm_getR (t := 170) dX11_ask_61 fsX11_71 lc_0 shc_0 (by decide) rf_0_8 ?_)))))
        by_cases c9 : q6 = 165
        · replace h := ite_t c9 h
          rw [c9]
          obtain ⟨q8, hq8, h⟩ := bind_some h
          refine v_callU (As := [.ref (gb G + 4), .int x1, .ref (gb G + 170)]) (S := []) dX11_ask_64 tw659 tw1035 tw644 tw645 tw1041 tw629 ykX2_mark_165 rfl (by decide +kernel) lc_165 shc_165 (by decide) ok_2 rfl (by decide) rfl rfl (Nat.le_of_ble_eq_true rfl) (by decide) (ePC_mark_165 x1 _ _ hq8) ?_
          replace h := Option.some.inj h
          subst h
          exact v_iret dX11_ask_67 rfl rfl rfl rfl rfl
        replace h := ite_f c9 h
        by_cases c11 : q6 = 166
        · replace h := ite_t c11 h
          rw [c11]
          obtain ⟨q10, hq10, h⟩ := bind_some h
          refine v_callU (As := [.ref (gb G + 4), .int x1, .ref (gb G + 170)]) (S := []) dX11_ask_64 tw659 tw1035 tw644 tw645 tw1044 tw638 ykX10_mark_166 rfl (by decide +kernel) lc_166 shc_166 (by decide) ok_9 rfl (by decide) rfl rfl (Nat.le_of_ble_eq_true rfl) (by decide) (ePV_mark_166 x1 _ _ hq10) ?_
          replace h := Option.some.inj h
          subst h
          exact v_iret dX11_ask_67 rfl rfl rfl rfl rfl
        replace h := ite_f c11 h
        by_cases c13 : q6 = 167
        · replace h := ite_t c13 h
          rw [c13]
          obtain ⟨q12, hq12, h⟩ := bind_some h
          refine v_callU (As := [.ref (gb G + 4), .int x1, .ref (gb G + 170)]) (S := []) dX11_ask_64 tw659 tw1035 tw644 tw645 tw1043 tw633 ykX5_mark_167 rfl (by decide +kernel) lc_167 shc_167 (by decide) ok_5 rfl (by decide) rfl rfl (Nat.le_of_ble_eq_true rfl) (by decide) (ePM_mark_167 x1 _ _ hq12) ?_
          replace h := Option.some.inj h
          subst h
          exact v_iret dX11_ask_67 rfl rfl rfl rfl rfl
        replace h := ite_f c13 h
        by_cases c15 : q6 = 168
        · replace h := ite_t c15 h
          rw [c15]
          obtain ⟨q14, hq14, h⟩ := bind_some h
          refine v_callU (As := [.ref (gb G + 4), .int x1, .ref (gb G + 170)]) (S := []) dX11_ask_64 tw659 tw1035 tw644 tw645 tw1038 tw660 ykX1_mark_168 rfl (by decide +kernel) lc_168 shc_168 (by decide) ok_1 rfl (by decide) rfl rfl (Nat.le_of_ble_eq_true rfl) (by decide) (ePF_mark_168 x1 _ _ hq14) ?_
          replace h := Option.some.inj h
          subst h
          exact v_iret dX11_ask_67 rfl rfl rfl rfl rfl
        replace h := ite_f c15 h
        have hlast := isP_last ((pX_kindOf _ _ _ hq6)) c9 c11 c13 c15
        rw [hlast]
        obtain ⟨q16, hq16, h⟩ := bind_some h
        refine v_callU (As := [.ref (gb G + 4), .int x1, .ref (gb G + 170)]) (S := []) dX11_ask_64 tw659 tw1035 tw644 tw645 tw1042 tw660 ykX1_mark_169 rfl (by decide +kernel) lc_169 shc_169 (by decide) ok_3 rfl (by decide) rfl rfl (Nat.le_of_ble_eq_true rfl) (by decide) (ePF_mark_169 x1 _ _ hq16) ?_
        replace h := Option.some.inj h
        subst h
        exact v_iret dX11_ask_67 rfl rfl rfl rfl rfl
      · replace h := ite_t c7 h
        refine v_aload_n dX11_ask_38 0 rfl rfl (v_aload_n dX11_ask_39 1 rfl rfl (vm_getR (t := 4) dX11_ask_40 fsX11_25 lc_0 shc_0 (by decide) rf_0_2 (v_iload_n dX11_ask_43 2 rfl rfl (v_aload_n dX11_ask_44 1 rfl rfl (vm_getR (t := 170) dX11_ask_45 fsX11_71 lc_0 shc_0 (by decide) rf_0_8 ?_)))))
        by_cases c18 : q6 = 165
        · replace h := ite_t c18 h
          rw [c18]
          obtain ⟨q17, hq17, h⟩ := bind_some h
          refine v_callU (As := [.ref (gb G + 4), .int x1, .ref (gb G + 170)]) (S := []) dX11_ask_48 tw612 tw614 tw613 tw658 tw623 tw624 ykX2_size_165 rfl (by decide +kernel) lc_165 shc_165 (by decide) ok_2 rfl (by decide) rfl rfl (Nat.le_of_ble_eq_true rfl) (by decide) (ePC_size_165 x1 _ _ hq17) ?_
          refine v_goto (tgt := 67) dX11_ask_51 (by decide) ?_
          replace h := Option.some.inj h
          subst h
          exact v_iret dX11_ask_67 rfl rfl rfl rfl rfl
        replace h := ite_f c18 h
        by_cases c20 : q6 = 166
        · replace h := ite_t c20 h
          rw [c20]
          obtain ⟨q19, hq19, h⟩ := bind_some h
          refine v_callU (As := [.ref (gb G + 4), .int x1, .ref (gb G + 170)]) (S := []) dX11_ask_48 tw612 tw614 tw613 tw658 tw654 tw655 ykX10_size_166 rfl (by decide +kernel) lc_166 shc_166 (by decide) ok_9 rfl (by decide) rfl rfl (Nat.le_of_ble_eq_true rfl) (by decide) (ePV_size_166 x1 _ _ hq19) ?_
          refine v_goto (tgt := 67) dX11_ask_51 (by decide) ?_
          replace h := Option.some.inj h
          subst h
          exact v_iret dX11_ask_67 rfl rfl rfl rfl rfl
        replace h := ite_f c20 h
        by_cases c22 : q6 = 167
        · replace h := ite_t c22 h
          rw [c22]
          obtain ⟨q21, hq21, h⟩ := bind_some h
          refine v_callU (As := [.ref (gb G + 4), .int x1, .ref (gb G + 170)]) (S := []) dX11_ask_48 tw612 tw614 tw613 tw658 tw653 tw624 ykX2_size_167 rfl (by decide +kernel) lc_167 shc_167 (by decide) ok_5 rfl (by decide) rfl rfl (Nat.le_of_ble_eq_true rfl) (by decide) (ePC_size_167 x1 _ _ hq21) ?_
          refine v_goto (tgt := 67) dX11_ask_51 (by decide) ?_
          replace h := Option.some.inj h
          subst h
          exact v_iret dX11_ask_67 rfl rfl rfl rfl rfl
        replace h := ite_f c22 h
        by_cases c24 : q6 = 168
        · replace h := ite_t c24 h
          rw [c24]
          obtain ⟨q23, hq23, h⟩ := bind_some h
          refine v_callU (As := [.ref (gb G + 4), .int x1, .ref (gb G + 170)]) (S := []) dX11_ask_48 tw612 tw614 tw613 tw658 tw615 tw616 ykX1_size_168 rfl (by decide +kernel) lc_168 shc_168 (by decide) ok_1 rfl (by decide) rfl rfl (Nat.le_of_ble_eq_true rfl) (by decide) (ePF_size_168 x1 _ _ hq23) ?_
          refine v_goto (tgt := 67) dX11_ask_51 (by decide) ?_
          replace h := Option.some.inj h
          subst h
          exact v_iret dX11_ask_67 rfl rfl rfl rfl rfl
        replace h := ite_f c24 h
        have hlast := isP_last ((pX_kindOf _ _ _ hq6)) c18 c20 c22 c24
        rw [hlast]
        obtain ⟨q25, hq25, h⟩ := bind_some h
        refine v_callU (As := [.ref (gb G + 4), .int x1, .ref (gb G + 170)]) (S := []) dX11_ask_48 tw612 tw614 tw613 tw658 tw648 tw649 ykX3_size_169 rfl (by decide +kernel) lc_169 shc_169 (by decide) ok_3 rfl (by decide) rfl rfl (Nat.le_of_ble_eq_true rfl) (by decide) (ePE_size_169 x1 _ _ hq25) ?_
        refine v_goto (tgt := 67) dX11_ask_51 (by decide) ?_
        replace h := Option.some.inj h
        subst h
        exact v_iret dX11_ask_67 rfl rfl rfl rfl rfl
    · replace h := ite_t c4 h
      refine v_ldc dX11_ask_17 tw297 ?_
      replace h := Option.some.inj h
      subst h
      exact v_iret dX11_ask_19 rfl rfl rfl rfl rfl
