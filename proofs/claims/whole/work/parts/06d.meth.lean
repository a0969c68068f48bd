def fX_house (σ : Sg) : Option (Int32 × Sg) := (fT_tellsHouse σ).bind fun q1 => ltc (wr q1.2 2 1 0) fun σ2 => if q1.1 = 0 then (ltc (wr σ2 0 10 (σ2 2 3)) fun σ7 => some ((-1000100) - (σ7 2 2), σ7)) else (fH_become 4 10 σ2).bind fun q4 => (fA_forget q4).bind fun q5 => ltc (wr q5 0 9 1) fun σ6 => some (σ6 4 5, σ6)
set_option maxRecDepth 100000 in
set_option maxHeartbeats 4000000 in
theorem eX_house {G : Gx} (σ : Sg) (q : (Int32 × Sg)) (h : fX_house σ = some q) : Evm G yX11_house MX11_house [.ref (gb G + 0)] σ (some (.int q.1)) q.2 := by
  refine Ev.of (by decide +kernel) rfl rfl (Nat.le_of_ble_eq_true rfl) ?_
  show Vm G MX11_house (some (.int q.1)) q.2 0 [(0, .ref (gb G + 0))] [] σ
  unfold fX_house at h
  refine v_aload_n dX11_house_0 0 rfl rfl (vm_getR (t := 2) dX11_house_1 fsX11_18 lc_0 shc_0 (by decide) rf_0_1 (v_aload_n dX11_house_4 0 rfl rfl (vm_getR (t := 10) dX11_house_5 fsX11_29 lc_0 shc_0 (by decide) rf_0_3 ?_)))
  obtain ⟨q1, hq1, h⟩ := bind_some h
  refine v_callV (As := [.ref (gb G + 10)]) (S := []) dX11_house_8 tw347 tw348 tw349 ykX8_tellsHouse lc_2 shc_2 (by decide) ok_7 rfl (by decide) rfl rfl (Nat.le_of_ble_eq_true rfl) (by decide) (eT_tellsHouse _ _ hq1) ?_
  refine v_istore_n dX11_house_11 [0, 1] rfl (by decide) rfl (v_aload_n dX11_house_12 1 rfl rfl (vm_getR (t := 2) dX11_house_13 fsX11_18 lc_0 shc_0 (by decide) rf_0_1 (v_iconst dX11_house_16 rfl ?_)))
  obtain ⟨σ2, eσ2, h⟩ := ltc_some h
  refine vn_put dX11_house_17 fsX11_124 lc_2 shc_2 (by decide) rf_2_1 eσ2 (v_iload_n dX11_house_20 0 rfl rfl (v_if_ne (tgt := 46) dX11_house_21 (by decide) (fun c3 => ?_) (fun c3 => ?_)))
  · replace h := ite_f c3 h
    refine v_aload_n dX11_house_46 1 rfl rfl (vm_getR (t := 4) dX11_house_47 fsX11_25 lc_0 shc_0 (by decide) rf_0_2 (v_aload_n dX11_house_50 1 rfl rfl (vm_getR (t := 10) dX11_house_51 fsX11_29 lc_0 shc_0 (by decide) rf_0_3 ?_)))
    obtain ⟨q4, hq4, h⟩ := bind_some h
    refine v_callV (As := [.ref (gb G + 10)]) (S := []) dX11_house_54 tw383 tw384 tw385 ykX4_become ((isH_s isH_4).2.1) ((isH_s isH_4).1.1) (by decide) ok_4 rfl (by decide) rfl rfl (Nat.le_of_ble_eq_true rfl) (by decide) (eH_become 4 isH_4 10 isH_10 _ _ hq4) ?_
    refine v_aload_n dX11_house_57 1 rfl rfl (vm_getR (t := 18) dX11_house_58 fsX11_43 lc_0 shc_0 (by decide) rf_0_6 ?_)
    obtain ⟨q5, hq5, h⟩ := bind_some h
    refine v_callV (As := []) (S := []) dX11_house_61 tw388 tw389 tw390 ykX0_forget lc_18 shc_18 (by decide) ok_0 rfl (by decide) rfl rfl (Nat.le_of_ble_eq_true rfl) (by decide) (eA_forget _ _ hq5) ?_
    refine v_aload_n dX11_house_64 1 rfl rfl (v_iconst dX11_house_65 rfl ?_)
    obtain ⟨σ6, eσ6, h⟩ := ltc_some h
    refine vn_putZ dX11_house_66 fsX11_149 lc_0 shc_0 (by decide) rf_0_9 (by decide) eσ6 (v_aload_n dX11_house_69 1 rfl rfl (vm_getR (t := 4) dX11_house_70 fsX11_25 lc_0 shc_0 (by decide) rf_0_2 (vm_getI dX11_house_73 fsX11_153 ((isH_s isH_4).2.1) ((isH_s isH_4).1.1) (by decide) ((isH_r isH_4).2.1) ?_)))
    replace h := Option.some.inj h
    subst h
    exact v_iret dX11_house_76 rfl rfl rfl rfl rfl
  · replace h := ite_t c3 h
    refine v_aload_n dX11_house_24 1 rfl rfl (v_aload_n dX11_house_25 1 rfl rfl (vm_getR (t := 2) dX11_house_26 fsX11_18 lc_0 shc_0 (by decide) rf_0_1 (vm_getI dX11_house_29 fsX11_133 lc_2 shc_2 (by decide) rf_2_3 ?_)))
    obtain ⟨σ7, eσ7, h⟩ := ltc_some h
    refine vn_put dX11_house_32 fsX11_136 lc_0 shc_0 (by decide) rf_0_10 eσ7 (v_ldc dX11_house_35 tw382 (v_aload_n dX11_house_37 1 rfl rfl (vm_getR (t := 2) dX11_house_38 fsX11_18 lc_0 shc_0 (by decide) rf_0_1 (vm_getI dX11_house_41 fsX11_140 lc_2 shc_2 (by decide) rf_2_2 (v_isub dX11_house_44 ?_)))))
    replace h := Option.some.inj h
    subst h
    exact v_iret dX11_house_45 rfl rfl rfl rfl rfl
def fX_fault (σ : Sg) : Option Int32 := some (σ 0 10)
set_option maxRecDepth 100000 in
set_option maxHeartbeats 4000000 in
theorem eX_fault {G : Gx} (σ : Sg) (q : Int32) (h : fX_fault σ = some q) : Evm G yX11_fault MX11_fault [.ref (gb G + 0)] σ (some (.int q)) σ := by
  refine Ev.of (by decide +kernel) rfl rfl (Nat.le_of_ble_eq_true rfl) ?_
  show Vm G MX11_fault (some (.int q)) σ 0 [(0, .ref (gb G + 0))] [] σ
  unfold fX_fault at h
  refine v_aload_n dX11_fault_0 0 rfl rfl (vm_getI dX11_fault_1 fsX11_136 lc_0 shc_0 (by decide) rf_0_10 ?_)
  replace h := Option.some.inj h
  subst h
  exact v_iret dX11_fault_4 rfl rfl rfl rfl rfl
def fX_steps_b43 (K43 : Int32 → Int32 → Sg → Option (Int32 × Sg)) (x1 : Int32) (x2 : Int32) (σ : Sg) : Option (Int32 × Sg) := if x1 ≤ x2 then some (σ 4 7, σ) else (fA_keep σ).bind fun q6 => (fH_advance 4 q6).bind fun q7 => K43 x1 (x2 + 1) q7
def fX_steps_L43 (n : Nat) : Int32 → Int32 → Sg → Option (Int32 × Sg) := Nat.rec (fun _ _ _ => none) (fun _ K => fX_steps_b43 K) n
set_option maxRecDepth 100000 in
set_option maxHeartbeats 4000000 in
theorem sX_steps_b43 {G : Gx} {q : (Int32 × Sg)} (K43 : Int32 → Int32 → Sg → Option (Int32 × Sg)) (hK43 : ∀ (x1 : Int32) (x2 : Int32) (σ : Sg), K43 x1 x2 σ = some q → Vm G MX11_steps (some (.int q.1)) q.2 43 [(0, .ref (gb G + 0)), (1, .int x1), (2, .int x2)] [] σ) (x1 : Int32) (x2 : Int32) (σ : Sg) (h : fX_steps_b43 K43 x1 x2 σ = some q) : Vm G MX11_steps (some (.int q.1)) q.2 43 [(0, .ref (gb G + 0)), (1, .int x1), (2, .int x2)] [] σ := by
  unfold fX_steps_b43 at h
  refine v_iload_n dX11_steps_43 2 rfl rfl (v_iload_n dX11_steps_44 1 rfl rfl (v_icmp_ge (tgt := 72) dX11_steps_45 (by decide) (fun c5 => ?_) (fun c5 => ?_)))
  · replace h := ite_t c5 h
    refine v_aload_n dX11_steps_72 0 rfl rfl (vm_getR (t := 4) dX11_steps_73 fsX11_25 lc_0 shc_0 (by decide) rf_0_2 (vm_getI dX11_steps_76 fsX11_166 ((isH_s isH_4).2.1) ((isH_s isH_4).1.1) (by decide) ((isH_r isH_4).2.2.2.1) ?_))
    replace h := Option.some.inj h
    subst h
    exact v_iret dX11_steps_79 rfl rfl rfl rfl rfl
  · replace h := ite_f c5 h
    refine v_aload_n dX11_steps_48 0 rfl rfl (vm_getR (t := 18) dX11_steps_49 fsX11_43 lc_0 shc_0 (by decide) rf_0_6 (v_aload_n dX11_steps_52 0 rfl rfl (vm_getR (t := 4) dX11_steps_53 fsX11_25 lc_0 shc_0 (by decide) rf_0_2 ?_)))
    obtain ⟨q6, hq6, h⟩ := bind_some h
    refine v_callV (As := [.ref (gb G + 4)]) (S := []) dX11_steps_56 tw401 tw402 tw403 ykX0_keep lc_18 shc_18 (by decide) ok_0 rfl (by decide) rfl rfl (Nat.le_of_ble_eq_true rfl) (by decide) (eA_keep _ _ hq6) ?_
    refine v_aload_n dX11_steps_59 0 rfl rfl (vm_getR (t := 4) dX11_steps_60 fsX11_25 lc_0 shc_0 (by decide) rf_0_2 ?_)
    obtain ⟨q7, hq7, h⟩ := bind_some h
    refine v_callV (As := []) (S := []) dX11_steps_63 tw409 tw410 tw411 ykX4_advance ((isH_s isH_4).2.1) ((isH_s isH_4).1.1) (by decide) ok_4 rfl (by decide) rfl rfl (Nat.le_of_ble_eq_true rfl) (by decide) (eH_advance 4 isH_4 _ _ hq7) ?_
    exact v_iinc (v := x2 + 1) dX11_steps_66 2 rfl rfl [0, 1, 2] rfl (by decide) (v_goto (tgt := 43) dX11_steps_69 (by decide) (v_sub [1, 2, 0] rfl (hK43 x1 (x2 + 1) _ h)))
theorem sX_steps_L43 {G : Gx} {q : (Int32 × Sg)} (n : Nat) : ∀ (x1 : Int32) (x2 : Int32) (σ : Sg) (h : fX_steps_L43 n x1 x2 σ = some q), Vm G MX11_steps (some (.int q.1)) q.2 43 [(0, .ref (gb G + 0)), (1, .int x1), (2, .int x2)] [] σ := by
  induction n with
  | zero => intro x1 x2 σ h; cases h
  | succ n ih => intro x1 x2 σ h; exact sX_steps_b43  _ ih x1 x2 σ h
def fX_steps (x1 : Int32) (σ : Sg) : Option (Int32 × Sg) := if (σ 0 9) = 0 then some ((-1000002), σ) else (fX_isWithin x1 1 24 σ).bind fun q2 => if q2 = 0 then some ((-1000001), σ) else if ((σ 4 10) + x1) ≤ 999 then fX_steps_L43 2000 x1 0 σ else some ((-1000003), σ)
set_option maxRecDepth 100000 in
set_option maxHeartbeats 4000000 in
theorem eX_steps {G : Gx} (x1 : Int32) (σ : Sg) (q : (Int32 × Sg)) (h : fX_steps x1 σ = some q) : Evm G yX11_steps MX11_steps [.ref (gb G + 0), .int x1] σ (some (.int q.1)) q.2 := by
  refine Ev.of (by decide +kernel) rfl rfl (Nat.le_of_ble_eq_true rfl) ?_
  show Vm G MX11_steps (some (.int q.1)) q.2 0 [(0, .ref (gb G + 0)), (1, .int x1)] [] σ
  unfold fX_steps at h
  refine v_aload_n dX11_steps_0 0 rfl rfl (vm_getI dX11_steps_1 fsX11_149 lc_0 shc_0 (by decide) rf_0_9 (v_if_ne (tgt := 10) dX11_steps_4 (by decide) (fun c1 => ?_) (fun c1 => ?_)))
  · replace h := ite_f c1 h
    refine v_iload_n dX11_steps_10 1 rfl rfl (v_iconst dX11_steps_11 rfl (v_bipush (v := 24) dX11_steps_12 rfl ?_))
    obtain ⟨q2, hq2, h⟩ := bind_some h
    refine v_callS (As := [.int x1, .int 1, .int 24]) (S := []) dX11_steps_14 tw294 tw295 ykX11_isWithin rfl (by decide) rfl rfl (Nat.le_of_ble_eq_true rfl) (by decide) (eX_isWithin x1 1 24 _ _ hq2) ?_
    refine v_if_ne (tgt := 23) dX11_steps_17 (by decide) (fun c3 => ?_) (fun c3 => ?_)
    · replace h := ite_f c3 h
      refine v_aload_n dX11_steps_23 0 rfl rfl (vm_getR (t := 4) dX11_steps_24 fsX11_25 lc_0 shc_0 (by decide) rf_0_2 (vm_getI dX11_steps_27 fsX11_157 ((isH_s isH_4).2.1) ((isH_s isH_4).1.1) (by decide) ((isH_r isH_4).2.2.2.2.2.2.1) (v_iload_n dX11_steps_30 1 rfl rfl (v_iadd dX11_steps_31 (v_sipush (v := 999) dX11_steps_32 rfl (v_icmp_le (tgt := 41) dX11_steps_35 (by decide) (fun c4 => ?_) (fun c4 => ?_)))))))
      · replace h := ite_t c4 h
        exact v_iconst dX11_steps_41 rfl (v_istore_n dX11_steps_42 [0, 1, 2] rfl (by decide) rfl (v_sub [1, 2, 0] rfl (sX_steps_L43 2000 x1 0 _ h)))
      · replace h := ite_f c4 h
        refine v_ldc dX11_steps_38 tw342 ?_
        replace h := Option.some.inj h
        subst h
        exact v_iret dX11_steps_40 rfl rfl rfl rfl rfl
    · replace h := ite_t c3 h
      refine v_ldc dX11_steps_20 tw297 ?_
      replace h := Option.some.inj h
      subst h
      exact v_iret dX11_steps_22 rfl rfl rfl rfl rfl
  · replace h := ite_t c1 h
    refine v_ldc dX11_steps_7 tw400 ?_
    replace h := Option.some.inj h
    subst h
    exact v_iret dX11_steps_9 rfl rfl rfl rfl rfl
def fX_isPerson (x1 : Int32) (σ : Sg) : Option Int32 := (fX_isWithin x1 0 ((σ 4 5) - 1) σ).bind fun q1 => if isb q1 = true then some q1 else none
set_option maxRecDepth 100000 in
set_option maxHeartbeats 4000000 in
theorem eX_isPerson {G : Gx} (x1 : Int32) (σ : Sg) (q : Int32) (h : fX_isPerson x1 σ = some q) : Evm G yX11_isPerson MX11_isPerson [.ref (gb G + 0), .int x1] σ (some (.int q)) σ := by
  refine Ev.of (by decide +kernel) rfl rfl (Nat.le_of_ble_eq_true rfl) ?_
  show Vm G MX11_isPerson (some (.int q)) σ 0 [(0, .ref (gb G + 0)), (1, .int x1)] [] σ
  unfold fX_isPerson at h
  refine v_iload_n dX11_isPerson_0 1 rfl rfl (v_iconst dX11_isPerson_1 rfl (v_aload_n dX11_isPerson_2 0 rfl rfl (vm_getR (t := 4) dX11_isPerson_3 fsX11_25 lc_0 shc_0 (by decide) rf_0_2 (vm_getI dX11_isPerson_6 fsX11_153 ((isH_s isH_4).2.1) ((isH_s isH_4).1.1) (by decide) ((isH_r isH_4).2.1) (v_iconst dX11_isPerson_9 rfl (v_isub dX11_isPerson_10 ?_))))))
  obtain ⟨q1, hq1, h⟩ := bind_some h
  refine v_callS (As := [.int x1, .int 0, .int ((σ 4 5) - 1)]) (S := []) dX11_isPerson_11 tw294 tw295 ykX11_isWithin rfl (by decide) rfl rfl (Nat.le_of_ble_eq_true rfl) (by decide) (eX_isWithin x1 0 ((σ 4 5) - 1) _ _ hq1) ?_
  obtain ⟨g2, h⟩ := guard_some h
  replace h := Option.some.inj h
  subst h
  exact v_zret dX11_isPerson_14 rfl (isb_or g2) rfl rfl rfl rfl
def fX_show (x1 : Int32) (x2 : Int32) (σ : Sg) : Option (Int32 × Sg) := (fX_isPerson x1 σ).bind fun q1 => if q1 = 0 then some ((-1000001), σ) else (fX_isWithin x2 0 9 σ).bind fun q3 => if q3 = 0 then some ((-1000001), σ) else if inb x1 6 = true then (fA_keep σ).bind fun q6 => (fH_put 4 3 x1 x2 q6).bind fun q7 => some (σ (4 + 4) (ix x1), q7) else none
set_option maxRecDepth 100000 in
set_option maxHeartbeats 4000000 in
theorem eX_show {G : Gx} (x1 : Int32) (x2 : Int32) (σ : Sg) (q : (Int32 × Sg)) (h : fX_show x1 x2 σ = some q) : Evm G yX11_show MX11_show [.ref (gb G + 0), .int x1, .int x2] σ (some (.int q.1)) q.2 := by
  refine Ev.of (by decide +kernel) rfl rfl (Nat.le_of_ble_eq_true rfl) ?_
  show Vm G MX11_show (some (.int q.1)) q.2 0 [(0, .ref (gb G + 0)), (1, .int x1), (2, .int x2)] [] σ
  unfold fX_show at h
  refine v_aload_n dX11_show_0 0 rfl rfl (v_iload_n dX11_show_1 1 rfl rfl ?_)
  obtain ⟨q1, hq1, h⟩ := bind_some h
  refine v_callV (As := [.int x1]) (S := []) dX11_show_2 tw440 tw442 tw9 ykX11_isPerson lc_0 shc_0 (by decide) ok_10 rfl (by decide) rfl rfl (Nat.le_of_ble_eq_true rfl) (by decide) (eX_isPerson x1 _ _ hq1) ?_
  refine v_if_eq (tgt := 18) dX11_show_5 (by decide) (fun c2 => ?_) (fun c2 => ?_)
  · replace h := ite_t c2 h
    refine v_ldc dX11_show_18 tw297 ?_
    replace h := Option.some.inj h
    subst h
    exact v_iret dX11_show_20 rfl rfl rfl rfl rfl
  · replace h := ite_f c2 h
    refine v_iload_n dX11_show_8 2 rfl rfl (v_iconst dX11_show_9 rfl (v_bipush (v := 9) dX11_show_10 rfl ?_))
    obtain ⟨q3, hq3, h⟩ := bind_some h
    refine v_callS (As := [.int x2, .int 0, .int 9]) (S := []) dX11_show_12 tw294 tw295 ykX11_isWithin rfl (by decide) rfl rfl (Nat.le_of_ble_eq_true rfl) (by decide) (eX_isWithin x2 0 9 _ _ hq3) ?_
    refine v_if_ne (tgt := 21) dX11_show_15 (by decide) (fun c4 => ?_) (fun c4 => ?_)
    · replace h := ite_f c4 h
      refine v_aload_n dX11_show_21 0 rfl rfl (vm_getR (t := 4) dX11_show_22 fsX11_25 lc_0 shc_0 (by decide) rf_0_2 (vm_getR (t := (4 + 4)) dX11_show_25 fsX11_172 ((isH_s isH_4).2.1) ((isH_s isH_4).1.1) (by decide) ((isH_r isH_4).1.2.2.2.1) (v_iload_n dX11_show_28 1 rfl rfl ?_)))
      obtain ⟨g5, h⟩ := guard_some h
      refine vn_iald dX11_show_29 ((isH_s isH_4).2.2.2.2.2.1) ((isH_s isH_4).1.2.2.2.2.1) g5 rfl (v_istore_n dX11_show_30 [0, 1, 2, 3] rfl (by decide) rfl (v_aload_n dX11_show_31 1 rfl rfl (vm_getR (t := 18) dX11_show_32 fsX11_43 lc_0 shc_0 (by decide) rf_0_6 (v_aload_n dX11_show_35 1 rfl rfl (vm_getR (t := 4) dX11_show_36 fsX11_25 lc_0 shc_0 (by decide) rf_0_2 ?_)))))
      obtain ⟨q6, hq6, h⟩ := bind_some h
      refine v_callV (As := [.ref (gb G + 4)]) (S := []) dX11_show_39 tw401 tw402 tw403 ykX0_keep lc_18 shc_18 (by decide) ok_0 rfl (by decide) rfl rfl (Nat.le_of_ble_eq_true rfl) (by decide) (eA_keep _ _ hq6) ?_
      refine v_aload_n dX11_show_42 1 rfl rfl (vm_getR (t := 4) dX11_show_43 fsX11_25 lc_0 shc_0 (by decide) rf_0_2 (v_iconst dX11_show_46 rfl (v_iload_n dX11_show_47 2 rfl rfl (v_iload_n dX11_show_48 3 rfl rfl ?_))))
      obtain ⟨q7, hq7, h⟩ := bind_some h
      refine v_callV (As := [.int 3, .int x1, .int x2]) (S := []) dX11_show_49 tw444 tw445 tw446 ykX4_put ((isH_s isH_4).2.1) ((isH_s isH_4).1.1) (by decide) ok_4 rfl (by decide) rfl rfl (Nat.le_of_ble_eq_true rfl) (by decide) (eH_put 4 isH_4 3 x1 x2 _ _ hq7) ?_
      refine v_iload_n dX11_show_52 0 rfl rfl ?_
      replace h := Option.some.inj h
      subst h
      exact v_iret dX11_show_53 rfl rfl rfl rfl rfl
    · replace h := ite_t c4 h
      refine v_ldc dX11_show_18 tw297 ?_
      replace h := Option.some.inj h
      subst h
      exact v_iret dX11_show_20 rfl rfl rfl rfl rfl
def fX_walk_B39 (x1 : Int32) (s0 : Int32) (s1 : Int32) (σ : Sg) : Option (Int32 × Sg) := if (σ 4 8) = x1 then some ((-1000002), σ) else (fX_isWithin (s1 + s0) 0 (σ 4 6) σ).bind fun q8 => if q8 = 0 then some ((-1000002), σ) else (fA_keep σ).bind fun q10 => (fH_put 4 1 x1 (s1 + s0) q10).bind fun q11 => some (s1 + s0, q11)
set_option maxRecDepth 100000 in
set_option maxHeartbeats 4000000 in
theorem sX_walk_B39 {G : Gx} {q : (Int32 × Sg)} (x1 : Int32) (s0 : Int32) (s1 : Int32) (σ : Sg) (h : fX_walk_B39 x1 s0 s1 σ = some q) : Vm G MX11_walk (some (.int q.1)) q.2 39 [(0, .ref (gb G + 0)), (1, .int x1)] [.int s0, .int s1] σ := by
  unfold fX_walk_B39 at h
  refine v_iadd dX11_walk_39 (v_istore_n dX11_walk_40 [0, 1, 2] rfl (by decide) rfl (v_aload_n dX11_walk_41 1 rfl rfl (vm_getR (t := 4) dX11_walk_42 fsX11_25 lc_0 shc_0 (by decide) rf_0_2 (vm_getI dX11_walk_45 fsX11_182 ((isH_s isH_4).2.1) ((isH_s isH_4).1.1) (by decide) ((isH_r isH_4).2.2.2.2.1) (v_iload_n dX11_walk_48 2 rfl rfl (v_icmp_eq (tgt := 67) dX11_walk_49 (by decide) (fun c7 => ?_) (fun c7 => ?_)))))))
  · replace h := ite_t c7 h
    refine v_ldc dX11_walk_67 tw400 ?_
    replace h := Option.some.inj h
    subst h
    exact v_iret dX11_walk_69 rfl rfl rfl rfl rfl
  · replace h := ite_f c7 h
    refine v_iload_n dX11_walk_52 0 rfl rfl (v_iconst dX11_walk_53 rfl (v_aload_n dX11_walk_54 1 rfl rfl (vm_getR (t := 4) dX11_walk_55 fsX11_25 lc_0 shc_0 (by decide) rf_0_2 (vm_getI dX11_walk_58 fsX11_185 ((isH_s isH_4).2.1) ((isH_s isH_4).1.1) (by decide) ((isH_r isH_4).2.2.1) ?_))))
    obtain ⟨q8, hq8, h⟩ := bind_some h
    refine v_callS (As := [.int (s1 + s0), .int 0, .int (σ 4 6)]) (S := []) dX11_walk_61 tw294 tw295 ykX11_isWithin rfl (by decide) rfl rfl (Nat.le_of_ble_eq_true rfl) (by decide) (eX_isWithin (s1 + s0) 0 (σ 4 6) _ _ hq8) ?_
    refine v_if_ne (tgt := 70) dX11_walk_64 (by decide) (fun c9 => ?_) (fun c9 => ?_)
    · replace h := ite_f c9 h
      refine v_aload_n dX11_walk_70 1 rfl rfl (vm_getR (t := 18) dX11_walk_71 fsX11_43 lc_0 shc_0 (by decide) rf_0_6 (v_aload_n dX11_walk_74 1 rfl rfl (vm_getR (t := 4) dX11_walk_75 fsX11_25 lc_0 shc_0 (by decide) rf_0_2 ?_)))
      obtain ⟨q10, hq10, h⟩ := bind_some h
      refine v_callV (As := [.ref (gb G + 4)]) (S := []) dX11_walk_78 tw401 tw402 tw403 ykX0_keep lc_18 shc_18 (by decide) ok_0 rfl (by decide) rfl rfl (Nat.le_of_ble_eq_true rfl) (by decide) (eA_keep _ _ hq10) ?_
      refine v_aload_n dX11_walk_81 1 rfl rfl (vm_getR (t := 4) dX11_walk_82 fsX11_25 lc_0 shc_0 (by decide) rf_0_2 (v_iconst dX11_walk_85 rfl (v_iload_n dX11_walk_86 2 rfl rfl (v_iload_n dX11_walk_87 0 rfl rfl ?_))))
      obtain ⟨q11, hq11, h⟩ := bind_some h
      refine v_callV (As := [.int 1, .int x1, .int (s1 + s0)]) (S := []) dX11_walk_88 tw444 tw445 tw446 ykX4_put ((isH_s isH_4).2.1) ((isH_s isH_4).1.1) (by decide) ok_4 rfl (by decide) rfl rfl (Nat.le_of_ble_eq_true rfl) (by decide) (eH_put 4 isH_4 1 x1 (s1 + s0) _ _ hq11) ?_
      refine v_iload_n dX11_walk_91 0 rfl rfl ?_
      replace h := Option.some.inj h
      subst h
      exact v_iret dX11_walk_92 rfl rfl rfl rfl rfl
    · replace h := ite_t c9 h
      refine v_ldc dX11_walk_67 tw400 ?_
      replace h := Option.some.inj h
      subst h
      exact v_iret dX11_walk_69 rfl rfl rfl rfl rfl
def fX_walk (x1 : Int32) (x2 : Int32) (σ : Sg) : Option (Int32 × Sg) := (fX_isPerson x1 σ).bind fun q1 => if q1 = 0 then some ((-1000001), σ) else (fX_isWithin x2 0 1 σ).bind fun q3 => if q3 = 0 then some ((-1000001), σ) else if inb x1 6 = true then if x2 = 1 then fX_walk_B39 x1 1 (σ (4 + 2) (ix x1)) σ else fX_walk_B39 x1 (-1) (σ (4 + 2) (ix x1)) σ else none
set_option maxRecDepth 100000 in
set_option maxHeartbeats 4000000 in
theorem eX_walk {G : Gx} (x1 : Int32) (x2 : Int32) (σ : Sg) (q : (Int32 × Sg)) (h : fX_walk x1 x2 σ = some q) : Evm G yX11_walk MX11_walk [.ref (gb G + 0), .int x1, .int x2] σ (some (.int q.1)) q.2 := by
  refine Ev.of (by decide +kernel) rfl rfl (Nat.le_of_ble_eq_true rfl) ?_
  show Vm G MX11_walk (some (.int q.1)) q.2 0 [(0, .ref (gb G + 0)), (1, .int x1), (2, .int x2)] [] σ
  unfold fX_walk at h
  refine v_aload_n dX11_walk_0 0 rfl rfl (v_iload_n dX11_walk_1 1 rfl rfl ?_)
  obtain ⟨q1, hq1, h⟩ := bind_some h
  refine v_callV (As := [.int x1]) (S := []) dX11_walk_2 tw440 tw442 tw9 ykX11_isPerson lc_0 shc_0 (by decide) ok_10 rfl (by decide) rfl rfl (Nat.le_of_ble_eq_true rfl) (by decide) (eX_isPerson x1 _ _ hq1) ?_
  refine v_if_eq (tgt := 17) dX11_walk_5 (by decide) (fun c2 => ?_) (fun c2 => ?_)
  · replace h := ite_t c2 h
    refine v_ldc dX11_walk_17 tw297 ?_
    replace h := Option.some.inj h
    subst h
    exact v_iret dX11_walk_19 rfl rfl rfl rfl rfl
  · replace h := ite_f c2 h
    refine v_iload_n dX11_walk_8 2 rfl rfl (v_iconst dX11_walk_9 rfl (v_iconst dX11_walk_10 rfl ?_))
    obtain ⟨q3, hq3, h⟩ := bind_some h
    refine v_callS (As := [.int x2, .int 0, .int 1]) (S := []) dX11_walk_11 tw294 tw295 ykX11_isWithin rfl (by decide) rfl rfl (Nat.le_of_ble_eq_true rfl) (by decide) (eX_isWithin x2 0 1 _ _ hq3) ?_
    refine v_if_ne (tgt := 20) dX11_walk_14 (by decide) (fun c4 => ?_) (fun c4 => ?_)
    · replace h := ite_f c4 h
      refine v_aload_n dX11_walk_20 0 rfl rfl (vm_getR (t := 4) dX11_walk_21 fsX11_25 lc_0 shc_0 (by decide) rf_0_2 (vm_getR (t := (4 + 2)) dX11_walk_24 fsX11_179 ((isH_s isH_4).2.1) ((isH_s isH_4).1.1) (by decide) ((isH_r isH_4).1.2.1) (v_iload_n dX11_walk_27 1 rfl rfl ?_)))
      obtain ⟨g5, h⟩ := guard_some h
      refine vn_iald dX11_walk_28 ((isH_s isH_4).2.2.2.1) ((isH_s isH_4).1.2.2.1) g5 rfl (v_iload_n dX11_walk_29 2 rfl rfl (v_iconst dX11_walk_30 rfl (v_icmp_ne (tgt := 38) dX11_walk_31 (by decide) (fun c6 => ?_) (fun c6 => ?_))))
      · replace h := ite_f c6 h
        exact v_iconst (v := -1) dX11_walk_38 rfl (v_sub [0, 1] rfl (sX_walk_B39 x1 (-1) (σ (4 + 2) (ix x1)) _ h))
      · replace h := ite_t c6 h
        exact v_iconst dX11_walk_34 rfl (v_goto (tgt := 39) dX11_walk_35 (by decide) (v_sub [0, 1] rfl (sX_walk_B39 x1 1 (σ (4 + 2) (ix x1)) _ h)))
    · replace h := ite_t c4 h
      refine v_ldc dX11_walk_17 tw297 ?_
      replace h := Option.some.inj h
      subst h
      exact v_iret dX11_walk_19 rfl rfl rfl rfl rfl
def fX_undo (σ : Sg) : Option (Int32 × Sg) := if (σ 18 2) = 0 then some ((-1000002), σ) else (fA_takeBack σ).bind fun q2 => some (q2 18 2, q2)
set_option maxRecDepth 100000 in
set_option maxHeartbeats 4000000 in
theorem eX_undo {G : Gx} (σ : Sg) (q : (Int32 × Sg)) (h : fX_undo σ = some q) : Evm G yX11_undo MX11_undo [.ref (gb G + 0)] σ (some (.int q.1)) q.2 := by
  refine Ev.of (by decide +kernel) rfl rfl (Nat.le_of_ble_eq_true rfl) ?_
  show Vm G MX11_undo (some (.int q.1)) q.2 0 [(0, .ref (gb G + 0))] [] σ
  unfold fX_undo at h
  refine v_aload_n dX11_undo_0 0 rfl rfl (vm_getR (t := 18) dX11_undo_1 fsX11_43 lc_0 shc_0 (by decide) rf_0_6 (vm_getI dX11_undo_4 fsX11_188 lc_18 shc_18 (by decide) rf_18_2 (v_if_ne (tgt := 13) dX11_undo_7 (by decide) (fun c1 => ?_) (fun c1 => ?_))))
  · replace h := ite_f c1 h
    refine v_aload_n dX11_undo_13 0 rfl rfl (vm_getR (t := 18) dX11_undo_14 fsX11_43 lc_0 shc_0 (by decide) rf_0_6 (v_aload_n dX11_undo_17 0 rfl rfl (vm_getR (t := 4) dX11_undo_18 fsX11_25 lc_0 shc_0 (by decide) rf_0_2 ?_)))
    obtain ⟨q2, hq2, h⟩ := bind_some h
    refine v_callV (As := [.ref (gb G + 4)]) (S := []) dX11_undo_21 tw456 tw457 tw458 ykX0_takeBack lc_18 shc_18 (by decide) ok_0 rfl (by decide) rfl rfl (Nat.le_of_ble_eq_true rfl) (by decide) (eA_takeBack _ _ hq2) ?_
    refine v_aload_n dX11_undo_24 0 rfl rfl (vm_getR (t := 18) dX11_undo_25 fsX11_43 lc_0 shc_0 (by decide) rf_0_6 (vm_getI dX11_undo_28 fsX11_188 lc_18 shc_18 (by decide) rf_18_2 ?_))
    replace h := Option.some.inj h
    subst h
    exact v_iret dX11_undo_31 rfl rfl rfl rfl rfl
  · replace h := ite_t c1 h
    refine v_ldc dX11_undo_10 tw400 ?_
    replace h := Option.some.inj h
    subst h
    exact v_iret dX11_undo_12 rfl rfl rfl rfl rfl
def fX_person (x1 : Int32) (x2 : Int32) (σ : Sg) : Option Int32 := (fX_isPerson x1 σ).bind fun q1 => if q1 = 0 then some (-1000001) else if x2 = 0 then (if inb x1 6 = true then some (σ (4 + 2) (ix x1)) else none) else if x2 = 1 then (if inb x1 6 = true then some (σ (4 + 3) (ix x1)) else none) else if x2 = 2 then (if inb x1 6 = true then some (σ (4 + 4) (ix x1)) else none) else if x2 = 3 then (if inb x1 6 = true then some (σ (4 + 5) (ix x1)) else none) else if x2 = 4 then ((fH_envy 4 x1 σ).bind fun q12 => some q12) else if x2 = 5 then ((fH_isBrought 4 x1 σ).bind fun q14 => if q14 = 0 then some 0 else some 1) else some (-1000001)
set_option maxRecDepth 100000 in
set_option maxHeartbeats 4000000 in
theorem eX_person {G : Gx} (x1 : Int32) (x2 : Int32) (σ : Sg) (q : Int32) (h : fX_person x1 x2 σ = some q) : Evm G yX11_person MX11_person [.ref (gb G + 0), .int x1, .int x2] σ (some (.int q)) σ := by
  refine Ev.of (by decide +kernel) rfl rfl (Nat.le_of_ble_eq_true rfl) ?_
  show Vm G MX11_person (some (.int q)) σ 0 [(0, .ref (gb G + 0)), (1, .int x1), (2, .int x2)] [] σ
  unfold fX_person at h
  refine v_aload_n dX11_person_0 0 rfl rfl (v_iload_n dX11_person_1 1 rfl rfl ?_)
  obtain ⟨q1, hq1, h⟩ := bind_some h
  refine v_callV (As := [.int x1]) (S := []) dX11_person_2 tw440 tw442 tw9 ykX11_isPerson lc_0 shc_0 (by decide) ok_10 rfl (by decide) rfl rfl (Nat.le_of_ble_eq_true rfl) (by decide) (eX_isPerson x1 _ _ hq1) ?_
  refine v_if_ne (tgt := 11) dX11_person_5 (by decide) (fun c2 => ?_) (fun c2 => ?_)
  · replace h := ite_f c2 h
    refine v_iload_n dX11_person_11 2 rfl rfl ?_
    by_cases c3 : x2 = 0
    · replace h := ite_t c3 h
      refine v_tableAt (tgt := 52) dX11_person_12 c3 (by decide) (by decide) (off := 40) (by decide) (by decide) ?_
      refine v_aload_n dX11_person_52 0 rfl rfl (vm_getR (t := 4) dX11_person_53 fsX11_25 lc_0 shc_0 (by decide) rf_0_2 (vm_getR (t := (4 + 2)) dX11_person_56 fsX11_179 ((isH_s isH_4).2.1) ((isH_s isH_4).1.1) (by decide) ((isH_r isH_4).1.2.1) (v_iload_n dX11_person_59 1 rfl rfl ?_)))
      obtain ⟨g4, h⟩ := guard_some h
      refine vn_iald dX11_person_60 ((isH_s isH_4).2.2.2.1) ((isH_s isH_4).1.2.2.1) g4 rfl ?_
      replace h := Option.some.inj h
      subst h
      exact v_iret dX11_person_61 rfl rfl rfl rfl rfl
    replace h := ite_f c3 h
    by_cases c5 : x2 = 1
    · replace h := ite_t c5 h
      refine v_tableAt (tgt := 62) dX11_person_12 c5 (by decide) (by decide) (off := 50) (by decide) (by decide) ?_
      refine v_aload_n dX11_person_62 0 rfl rfl (vm_getR (t := 4) dX11_person_63 fsX11_25 lc_0 shc_0 (by decide) rf_0_2 (vm_getR (t := (4 + 3)) dX11_person_66 fsX11_194 ((isH_s isH_4).2.1) ((isH_s isH_4).1.1) (by decide) ((isH_r isH_4).1.2.2.1) (v_iload_n dX11_person_69 1 rfl rfl ?_)))
      obtain ⟨g6, h⟩ := guard_some h
      refine vn_iald dX11_person_70 ((isH_s isH_4).2.2.2.2.1) ((isH_s isH_4).1.2.2.2.1) g6 rfl ?_
      replace h := Option.some.inj h
      subst h
      exact v_iret dX11_person_71 rfl rfl rfl rfl rfl
    replace h := ite_f c5 h
    by_cases c7 : x2 = 2
    · replace h := ite_t c7 h
      refine v_tableAt (tgt := 72) dX11_person_12 c7 (by decide) (by decide) (off := 60) (by decide) (by decide) ?_
      refine v_aload_n dX11_person_72 0 rfl rfl (vm_getR (t := 4) dX11_person_73 fsX11_25 lc_0 shc_0 (by decide) rf_0_2 (vm_getR (t := (4 + 4)) dX11_person_76 fsX11_172 ((isH_s isH_4).2.1) ((isH_s isH_4).1.1) (by decide) ((isH_r isH_4).1.2.2.2.1) (v_iload_n dX11_person_79 1 rfl rfl ?_)))
      obtain ⟨g8, h⟩ := guard_some h
      refine vn_iald dX11_person_80 ((isH_s isH_4).2.2.2.2.2.1) ((isH_s isH_4).1.2.2.2.2.1) g8 rfl ?_
      replace h := Option.some.inj h
      subst h
      exact v_iret dX11_person_81 rfl rfl rfl rfl rfl
    replace h := ite_f c7 h
    by_cases c9 : x2 = 3
    · replace h := ite_t c9 h
      refine v_tableAt (tgt := 82) dX11_person_12 c9 (by decide) (by decide) (off := 70) (by decide) (by decide) ?_
      refine v_aload_n dX11_person_82 0 rfl rfl (vm_getR (t := 4) dX11_person_83 fsX11_25 lc_0 shc_0 (by decide) rf_0_2 (vm_getR (t := (4 + 5)) dX11_person_86 fsX11_197 ((isH_s isH_4).2.1) ((isH_s isH_4).1.1) (by decide) ((isH_r isH_4).1.2.2.2.2) (v_iload_n dX11_person_89 1 rfl rfl ?_)))
      obtain ⟨g10, h⟩ := guard_some h
      refine vn_iald dX11_person_90 ((isH_s isH_4).2.2.2.2.2.2) ((isH_s isH_4).1.2.2.2.2.2) g10 rfl ?_
      replace h := Option.some.inj h
      subst h
      exact v_iret dX11_person_91 rfl rfl rfl rfl rfl
    replace h := ite_f c9 h
    by_cases c11 : x2 = 4
    · replace h := ite_t c11 h
      refine v_tableAt (tgt := 92) dX11_person_12 c11 (by decide) (by decide) (off := 80) (by decide) (by decide) ?_
      refine v_aload_n dX11_person_92 0 rfl rfl (vm_getR (t := 4) dX11_person_93 fsX11_25 lc_0 shc_0 (by decide) rf_0_2 (v_iload_n dX11_person_96 1 rfl rfl ?_))
      obtain ⟨q12, hq12, h⟩ := bind_some h
      refine v_callV (As := [.int x1]) (S := []) dX11_person_97 tw464 tw429 tw430 ykX4_envy ((isH_s isH_4).2.1) ((isH_s isH_4).1.1) (by decide) ok_4 rfl (by decide) rfl rfl (Nat.le_of_ble_eq_true rfl) (by decide) (eH_envy 4 isH_4 x1 _ _ hq12) ?_
      replace h := Option.some.inj h
      subst h
      exact v_iret dX11_person_100 rfl rfl rfl rfl rfl
    replace h := ite_f c11 h
    by_cases c13 : x2 = 5
    · replace h := ite_t c13 h
      refine v_tableAt (tgt := 101) dX11_person_12 c13 (by decide) (by decide) (off := 89) (by decide) (by decide) ?_
      refine v_aload_n dX11_person_101 0 rfl rfl (vm_getR (t := 4) dX11_person_102 fsX11_25 lc_0 shc_0 (by decide) rf_0_2 (v_iload_n dX11_person_105 1 rfl rfl ?_))
      obtain ⟨q14, hq14, h⟩ := bind_some h
      refine v_callV (As := [.int x1]) (S := []) dX11_person_106 tw465 tw425 tw426 ykX4_isBrought ((isH_s isH_4).2.1) ((isH_s isH_4).1.1) (by decide) ok_4 rfl (by decide) rfl rfl (Nat.le_of_ble_eq_true rfl) (by decide) (eH_isBrought 4 isH_4 x1 _ _ hq14) ?_
      refine v_if_eq (tgt := 116) dX11_person_109 (by decide) (fun c15 => ?_) (fun c15 => ?_)
      · replace h := ite_t c15 h
        refine v_iconst dX11_person_116 rfl ?_
        replace h := Option.some.inj h
        subst h
        exact v_iret dX11_person_117 rfl rfl rfl rfl rfl
      · replace h := ite_f c15 h
        refine v_iconst dX11_person_112 rfl (v_goto (tgt := 117) dX11_person_113 (by decide) ?_)
        replace h := Option.some.inj h
        subst h
        exact v_iret dX11_person_117 rfl rfl rfl rfl rfl
    replace h := ite_f c13 h
    have nc3 := i_ne (z := 0) (by decide) c3
    have nc5 := i_ne (z := 1) (by decide) c5
    have nc7 := i_ne (z := 2) (by decide) c7
    have nc9 := i_ne (z := 3) (by decide) c9
    have nc11 := i_ne (z := 4) (by decide) c11
    have nc13 := i_ne (z := 5) (by decide) c13
    refine v_tableOut (tgt := 118) dX11_person_12 (by omega) (by decide) ?_
    refine v_ldc dX11_person_118 tw297 ?_
    replace h := Option.some.inj h
    subst h
    exact v_iret dX11_person_120 rfl rfl rfl rfl rfl
  · replace h := ite_t c2 h
    refine v_ldc dX11_person_8 tw297 ?_
    replace h := Option.some.inj h
    subst h
    exact v_iret dX11_person_10 rfl rfl rfl rfl rfl
def fX_minds (x1 : Int32) (x2 : Int32) (σ : Sg) : Option Int32 := (fX_isPerson x1 σ).bind fun q1 => if q1 = 0 then some (-1000001) else (fX_isPerson x2 σ).bind fun q3 => if q3 = 0 then some (-1000001) else if x1 = x2 then some (-1000001) else (fH_minding 4 x1 x2 σ).bind fun q6 => some q6
set_option maxRecDepth 100000 in
set_option maxHeartbeats 4000000 in
theorem eX_minds {G : Gx} (x1 : Int32) (x2 : Int32) (σ : Sg) (q : Int32) (h : fX_minds x1 x2 σ = some q) : Evm G yX11_minds MX11_minds [.ref (gb G + 0), .int x1, .int x2] σ (some (.int q)) σ := by
  refine Ev.of (by decide +kernel) rfl rfl (Nat.le_of_ble_eq_true rfl) ?_
  show Vm G MX11_minds (some (.int q)) σ 0 [(0, .ref (gb G + 0)), (1, .int x1), (2, .int x2)] [] σ
  unfold fX_minds at h
  refine v_aload_n dX11_minds_0 0 rfl rfl (v_iload_n dX11_minds_1 1 rfl rfl ?_)
  obtain ⟨q1, hq1, h⟩ := bind_some h
  refine v_callV (As := [.int x1]) (S := []) dX11_minds_2 tw440 tw442 tw9 ykX11_isPerson lc_0 shc_0 (by decide) ok_10 rfl (by decide) rfl rfl (Nat.le_of_ble_eq_true rfl) (by decide) (eX_isPerson x1 _ _ hq1) ?_
  refine v_if_eq (tgt := 21) dX11_minds_5 (by decide) (fun c2 => ?_) (fun c2 => ?_)
  · replace h := ite_t c2 h
    refine v_ldc dX11_minds_21 tw297 ?_
    replace h := Option.some.inj h
    subst h
    exact v_iret dX11_minds_23 rfl rfl rfl rfl rfl
  · replace h := ite_f c2 h
    refine v_aload_n dX11_minds_8 0 rfl rfl (v_iload_n dX11_minds_9 2 rfl rfl ?_)
    obtain ⟨q3, hq3, h⟩ := bind_some h
    refine v_callV (As := [.int x2]) (S := []) dX11_minds_10 tw440 tw442 tw9 ykX11_isPerson lc_0 shc_0 (by decide) ok_10 rfl (by decide) rfl rfl (Nat.le_of_ble_eq_true rfl) (by decide) (eX_isPerson x2 _ _ hq3) ?_
    refine v_if_eq (tgt := 21) dX11_minds_13 (by decide) (fun c4 => ?_) (fun c4 => ?_)
    · replace h := ite_t c4 h
      refine v_ldc dX11_minds_21 tw297 ?_
      replace h := Option.some.inj h
      subst h
      exact v_iret dX11_minds_23 rfl rfl rfl rfl rfl
    · replace h := ite_f c4 h
      refine v_iload_n dX11_minds_16 1 rfl rfl (v_iload_n dX11_minds_17 2 rfl rfl (v_icmp_ne (tgt := 24) dX11_minds_18 (by decide) (fun c5 => ?_) (fun c5 => ?_)))
      · replace h := ite_f c5 h
        refine v_aload_n dX11_minds_24 0 rfl rfl (vm_getR (t := 4) dX11_minds_25 fsX11_25 lc_0 shc_0 (by decide) rf_0_2 (v_iload_n dX11_minds_28 1 rfl rfl (v_iload_n dX11_minds_29 2 rfl rfl ?_)))
        obtain ⟨q6, hq6, h⟩ := bind_some h
        refine v_callV (As := [.int x1, .int x2]) (S := []) dX11_minds_30 tw470 tw433 tw434 ykX4_minding ((isH_s isH_4).2.1) ((isH_s isH_4).1.1) (by decide) ok_4 rfl (by decide) rfl rfl (Nat.le_of_ble_eq_true rfl) (by decide) (eH_minding 4 isH_4 x1 x2 _ _ hq6) ?_
        replace h := Option.some.inj h
        subst h
        exact v_iret dX11_minds_33 rfl rfl rfl rfl rfl
      · replace h := ite_t c5 h
        refine v_ldc dX11_minds_21 tw297 ?_
        replace h := Option.some.inj h
        subst h
        exact v_iret dX11_minds_23 rfl rfl rfl rfl rfl
def fX_orNone (x0 : Int32) (σ : Sg) : Option Int32 := if (0 : Int32) ≤ x0 then some x0 else some (-1000000)
set_option maxRecDepth 100000 in
set_option maxHeartbeats 4000000 in
theorem eX_orNone {G : Gx} (x0 : Int32) (σ : Sg) (q : Int32) (h : fX_orNone x0 σ = some q) : Evm G yX11_orNone MX11_orNone [.int x0] σ (some (.int q)) σ := by
  refine Ev.of (by decide +kernel) rfl rfl (Nat.le_of_ble_eq_true rfl) ?_
  show Vm G MX11_orNone (some (.int q)) σ 0 [(0, .int x0)] [] σ
  unfold fX_orNone at h
  refine v_iload_n dX11_orNone_0 0 rfl rfl (v_if_ge (tgt := 9) dX11_orNone_1 (by decide) (fun c1 => ?_) (fun c1 => ?_))
  · replace h := ite_t c1 h
    refine v_iload_n dX11_orNone_9 0 rfl rfl ?_
    replace h := Option.some.inj h
    subst h
    exact v_iret dX11_orNone_10 rfl rfl rfl rfl rfl
  · replace h := ite_f c1 h
    refine v_ldc dX11_orNone_4 tw478 (v_goto (tgt := 10) dX11_orNone_6 (by decide) ?_)
    replace h := Option.some.inj h
    subst h
    exact v_iret dX11_orNone_10 rfl rfl rfl rfl rfl
def fX_car_B81 (s0 : Int32) (σ : Sg) : Option (Int32 × Sg) := (fX_orNone s0 σ).bind fun q9 => some (q9, σ)
set_option maxRecDepth 100000 in
set_option maxHeartbeats 4000000 in
theorem sX_car_B81 {G : Gx} {q : (Int32 × Sg)} (s0 : Int32) (σ : Sg) (h : fX_car_B81 s0 σ = some q) : Vm G MX11_car (some (.int q.1)) q.2 81 [] [.int s0] σ := by
  unfold fX_car_B81 at h
  obtain ⟨q9, hq9, h⟩ := bind_some h
  refine v_callS (As := [.int s0]) (S := []) dX11_car_81 tw475 tw476 ykX11_orNone rfl (by decide) rfl rfl (Nat.le_of_ble_eq_true rfl) (by decide) (eX_orNone s0 _ _ hq9) ?_
  replace h := Option.some.inj h
  subst h
  exact v_iret dX11_car_84 rfl rfl rfl rfl rfl
def fX_car (x1 : Int32) (σ : Sg) : Option (Int32 × Sg) := if (σ 0 9) = 0 then some ((-1000002), σ) else if x1 = 0 then some (σ 4 7, σ) else if x1 = 1 then ((fX_orNone (σ 4 8) σ).bind fun q4 => some (q4, σ)) else if x1 = 2 then (if (σ 4 8) = (-1) then ((fH_goal 4 σ).bind fun q7 => fX_car_B81 q7.1 q7.2) else fX_car_B81 (-1) σ) else if x1 = 3 then some (σ 4 9, σ) else some ((-1000001), σ)
set_option maxRecDepth 100000 in
set_option maxHeartbeats 4000000 in
theorem eX_car {G : Gx} (x1 : Int32) (σ : Sg) (q : (Int32 × Sg)) (h : fX_car x1 σ = some q) : Evm G yX11_car MX11_car [.ref (gb G + 0), .int x1] σ (some (.int q.1)) q.2 := by
  refine Ev.of (by decide +kernel) rfl rfl (Nat.le_of_ble_eq_true rfl) ?_
  show Vm G MX11_car (some (.int q.1)) q.2 0 [(0, .ref (gb G + 0)), (1, .int x1)] [] σ
  unfold fX_car at h
  refine v_aload_n dX11_car_0 0 rfl rfl (vm_getI dX11_car_1 fsX11_149 lc_0 shc_0 (by decide) rf_0_9 (v_if_ne (tgt := 10) dX11_car_4 (by decide) (fun c1 => ?_) (fun c1 => ?_)))
  · replace h := ite_f c1 h
    refine v_iload_n dX11_car_10 1 rfl rfl ?_
    by_cases c2 : x1 = 0
    · replace h := ite_t c2 h
      refine v_tableAt (tgt := 40) dX11_car_11 c2 (by decide) (by decide) (off := 29) (by decide) (by decide) ?_
      refine v_aload_n dX11_car_40 0 rfl rfl (vm_getR (t := 4) dX11_car_41 fsX11_25 lc_0 shc_0 (by decide) rf_0_2 (vm_getI dX11_car_44 fsX11_166 ((isH_s isH_4).2.1) ((isH_s isH_4).1.1) (by decide) ((isH_r isH_4).2.2.2.1) ?_))
      replace h := Option.some.inj h
      subst h
      exact v_iret dX11_car_47 rfl rfl rfl rfl rfl
    replace h := ite_f c2 h
    by_cases c3 : x1 = 1
    · replace h := ite_t c3 h
      refine v_tableAt (tgt := 48) dX11_car_11 c3 (by decide) (by decide) (off := 37) (by decide) (by decide) ?_
      refine v_aload_n dX11_car_48 0 rfl rfl (vm_getR (t := 4) dX11_car_49 fsX11_25 lc_0 shc_0 (by decide) rf_0_2 (vm_getI dX11_car_52 fsX11_182 ((isH_s isH_4).2.1) ((isH_s isH_4).1.1) (by decide) ((isH_r isH_4).2.2.2.2.1) ?_))
      obtain ⟨q4, hq4, h⟩ := bind_some h
      refine v_callS (As := [.int (σ 4 8)]) (S := []) dX11_car_55 tw475 tw476 ykX11_orNone rfl (by decide) rfl rfl (Nat.le_of_ble_eq_true rfl) (by decide) (eX_orNone (σ 4 8) _ _ hq4) ?_
      replace h := Option.some.inj h
      subst h
      exact v_iret dX11_car_58 rfl rfl rfl rfl rfl
    replace h := ite_f c3 h
    by_cases c5 : x1 = 2
    · replace h := ite_t c5 h
      refine v_tableAt (tgt := 59) dX11_car_11 c5 (by decide) (by decide) (off := 48) (by decide) (by decide) ?_
      refine v_aload_n dX11_car_59 0 rfl rfl (vm_getR (t := 4) dX11_car_60 fsX11_25 lc_0 shc_0 (by decide) rf_0_2 (vm_getI dX11_car_63 fsX11_182 ((isH_s isH_4).2.1) ((isH_s isH_4).1.1) (by decide) ((isH_r isH_4).2.2.2.2.1) (v_iconst (v := -1) dX11_car_66 rfl (v_icmp_ne (tgt := 80) dX11_car_67 (by decide) (fun c6 => ?_) (fun c6 => ?_)))))
      · replace h := ite_f c6 h
        exact v_iconst (v := -1) dX11_car_80 rfl (v_sub [] rfl (sX_car_B81 (-1) _ h))
      · replace h := ite_t c6 h
        refine v_aload_n dX11_car_70 0 rfl rfl (vm_getR (t := 4) dX11_car_71 fsX11_25 lc_0 shc_0 (by decide) rf_0_2 ?_)
        obtain ⟨q7, hq7, h⟩ := bind_some h
        refine v_callV (As := []) (S := []) dX11_car_74 tw479 tw421 tw422 ykX4_goal ((isH_s isH_4).2.1) ((isH_s isH_4).1.1) (by decide) ok_4 rfl (by decide) rfl rfl (Nat.le_of_ble_eq_true rfl) (by decide) (eH_goal 4 isH_4 _ _ hq7) ?_
        exact v_goto (tgt := 81) dX11_car_77 (by decide) (v_sub [] rfl (sX_car_B81 q7.1 _ h))
    replace h := ite_f c5 h
    by_cases c8 : x1 = 3
    · replace h := ite_t c8 h
      refine v_tableAt (tgt := 85) dX11_car_11 c8 (by decide) (by decide) (off := 74) (by decide) (by decide) ?_
      refine v_aload_n dX11_car_85 0 rfl rfl (vm_getR (t := 4) dX11_car_86 fsX11_25 lc_0 shc_0 (by decide) rf_0_2 (vm_getI dX11_car_89 fsX11_217 ((isH_s isH_4).2.1) ((isH_s isH_4).1.1) (by decide) ((isH_r isH_4).2.2.2.2.2.1) ?_))
      replace h := Option.some.inj h
      subst h
      exact v_iret dX11_car_92 rfl rfl rfl rfl rfl
    replace h := ite_f c8 h
    have nc2 := i_ne (z := 0) (by decide) c2
    have nc3 := i_ne (z := 1) (by decide) c3
    have nc5 := i_ne (z := 2) (by decide) c5
    have nc8 := i_ne (z := 3) (by decide) c8
    refine v_tableOut (tgt := 93) dX11_car_11 (by omega) (by decide) ?_
    refine v_ldc dX11_car_93 tw297 ?_
    replace h := Option.some.inj h
    subst h
    exact v_iret dX11_car_95 rfl rfl rfl rfl rfl
  · replace h := ite_t c1 h
    refine v_ldc dX11_car_7 tw400 ?_
    replace h := Option.some.inj h
    subst h
    exact v_iret dX11_car_9 rfl rfl rfl rfl rfl
def fX_ahead (x1 : Int32) (x2 : Int32) (σ : Sg) : Option (Int32 × Sg) := if (σ 0 9) = 0 then some ((-1000002), σ) else (fX_isWithin x1 0 60 σ).bind fun q2 => if q2 = 0 then some ((-1000001), σ) else (fX_isWithin x2 0 2 σ).bind fun q4 => if q4 = 0 then some ((-1000001), σ) else (fH_become 10 4 σ).bind fun q6 => (fH_lastWithin 10 x1 q6).bind fun q7 => if x2 = 0 then some (q7.2 10 7, q7.2) else if x2 = 1 then ((fX_orNone (q7.2 10 8) q7.2).bind fun q10 => some (q10, q7.2)) else some (q7.2 10 9, q7.2)
set_option maxRecDepth 100000 in
set_option maxHeartbeats 4000000 in
theorem eX_ahead {G : Gx} (x1 : Int32) (x2 : Int32) (σ : Sg) (q : (Int32 × Sg)) (h : fX_ahead x1 x2 σ = some q) : Evm G yX11_ahead MX11_ahead [.ref (gb G + 0), .int x1, .int x2] σ (some (.int q.1)) q.2 := by
  refine Ev.of (by decide +kernel) rfl rfl (Nat.le_of_ble_eq_true rfl) ?_
  show Vm G MX11_ahead (some (.int q.1)) q.2 0 [(0, .ref (gb G + 0)), (1, .int x1), (2, .int x2)] [] σ
  unfold fX_ahead at h
  refine v_aload_n dX11_ahead_0 0 rfl rfl (vm_getI dX11_ahead_1 fsX11_149 lc_0 shc_0 (by decide) rf_0_9 (v_if_ne (tgt := 10) dX11_ahead_4 (by decide) (fun c1 => ?_) (fun c1 => ?_)))
  · replace h := ite_f c1 h
    refine v_iload_n dX11_ahead_10 1 rfl rfl (v_iconst dX11_ahead_11 rfl (v_bipush (v := 60) dX11_ahead_12 rfl ?_))
    obtain ⟨q2, hq2, h⟩ := bind_some h
    refine v_callS (As := [.int x1, .int 0, .int 60]) (S := []) dX11_ahead_14 tw294 tw295 ykX11_isWithin rfl (by decide) rfl rfl (Nat.le_of_ble_eq_true rfl) (by decide) (eX_isWithin x1 0 60 _ _ hq2) ?_
    refine v_if_eq (tgt := 29) dX11_ahead_17 (by decide) (fun c3 => ?_) (fun c3 => ?_)
    · replace h := ite_t c3 h
      refine v_ldc dX11_ahead_29 tw297 ?_
      replace h := Option.some.inj h
      subst h
      exact v_iret dX11_ahead_31 rfl rfl rfl rfl rfl
    · replace h := ite_f c3 h
      refine v_iload_n dX11_ahead_20 2 rfl rfl (v_iconst dX11_ahead_21 rfl (v_iconst dX11_ahead_22 rfl ?_))
      obtain ⟨q4, hq4, h⟩ := bind_some h
      refine v_callS (As := [.int x2, .int 0, .int 2]) (S := []) dX11_ahead_23 tw294 tw295 ykX11_isWithin rfl (by decide) rfl rfl (Nat.le_of_ble_eq_true rfl) (by decide) (eX_isWithin x2 0 2 _ _ hq4) ?_
      refine v_if_ne (tgt := 32) dX11_ahead_26 (by decide) (fun c5 => ?_) (fun c5 => ?_)
      · replace h := ite_f c5 h
        refine v_aload_n dX11_ahead_32 0 rfl rfl (vm_getR (t := 10) dX11_ahead_33 fsX11_29 lc_0 shc_0 (by decide) rf_0_3 (v_aload_n dX11_ahead_36 0 rfl rfl (vm_getR (t := 4) dX11_ahead_37 fsX11_25 lc_0 shc_0 (by decide) rf_0_2 ?_)))
        obtain ⟨q6, hq6, h⟩ := bind_some h
        refine v_callV (As := [.ref (gb G + 4)]) (S := []) dX11_ahead_40 tw383 tw384 tw385 ykX4_become ((isH_s isH_10).2.1) ((isH_s isH_10).1.1) (by decide) ok_4 rfl (by decide) rfl rfl (Nat.le_of_ble_eq_true rfl) (by decide) (eH_become 10 isH_10 4 isH_4 _ _ hq6) ?_
        refine v_aload_n dX11_ahead_43 0 rfl rfl (vm_getR (t := 10) dX11_ahead_44 fsX11_29 lc_0 shc_0 (by decide) rf_0_3 (v_iload_n dX11_ahead_47 1 rfl rfl ?_))
        obtain ⟨q7, hq7, h⟩ := bind_some h
        refine v_callV (As := [.int x1]) (S := []) dX11_ahead_48 tw484 tw485 tw486 ykX4_lastWithin ((isH_s isH_10).2.1) ((isH_s isH_10).1.1) (by decide) ok_4 rfl (by decide) rfl rfl (Nat.le_of_ble_eq_true rfl) (by decide) (eH_lastWithin 10 isH_10 x1 _ _ hq7) ?_
        refine v_pop dX11_ahead_51 rfl (v_iload_n dX11_ahead_52 2 rfl rfl ?_)
        by_cases c8 : x2 = 0
        · replace h := ite_t c8 h
          refine v_lookAt (tgt := 80) dX11_ahead_53 c8 (by decide) (off := 27) (by decide) (by decide) ?_
          refine v_aload_n dX11_ahead_80 0 rfl rfl (vm_getR (t := 10) dX11_ahead_81 fsX11_29 lc_0 shc_0 (by decide) rf_0_3 (vm_getI dX11_ahead_84 fsX11_166 ((isH_s isH_10).2.1) ((isH_s isH_10).1.1) (by decide) ((isH_r isH_10).2.2.2.1) ?_))
          replace h := Option.some.inj h
          subst h
          exact v_iret dX11_ahead_87 rfl rfl rfl rfl rfl
        replace h := ite_f c8 h
        by_cases c9 : x2 = 1
        · replace h := ite_t c9 h
          refine v_lookAt (tgt := 88) dX11_ahead_53 c9 (by decide) (off := 35) (by decide) (by decide) ?_
          refine v_aload_n dX11_ahead_88 0 rfl rfl (vm_getR (t := 10) dX11_ahead_89 fsX11_29 lc_0 shc_0 (by decide) rf_0_3 (vm_getI dX11_ahead_92 fsX11_182 ((isH_s isH_10).2.1) ((isH_s isH_10).1.1) (by decide) ((isH_r isH_10).2.2.2.2.1) ?_))
          obtain ⟨q10, hq10, h⟩ := bind_some h
          refine v_callS (As := [.int (q7.2 10 8)]) (S := []) dX11_ahead_95 tw475 tw476 ykX11_orNone rfl (by decide) rfl rfl (Nat.le_of_ble_eq_true rfl) (by decide) (eX_orNone (q7.2 10 8) _ _ hq10) ?_
          replace h := Option.some.inj h
          subst h
          exact v_iret dX11_ahead_98 rfl rfl rfl rfl rfl
        replace h := ite_f c9 h
        have nc8 := i_ne (z := 0) (by decide) c8
        have nc9 := i_ne (z := 1) (by decide) c9
        refine v_lookup (tgt := 99) (off := 46) dX11_ahead_53 (by decide) (by simp only [Op.lookupswitch.offset]; rw [if_neg (fun q => nc8 q.symm)]; rw [if_neg (fun q => nc9 q.symm)]) (by decide) ?_
        refine v_aload_n dX11_ahead_99 0 rfl rfl (vm_getR (t := 10) dX11_ahead_100 fsX11_29 lc_0 shc_0 (by decide) rf_0_3 (vm_getI dX11_ahead_103 fsX11_217 ((isH_s isH_10).2.1) ((isH_s isH_10).1.1) (by decide) ((isH_r isH_10).2.2.2.2.2.1) ?_))
        replace h := Option.some.inj h
        subst h
        exact v_iret dX11_ahead_106 rfl rfl rfl rfl rfl
      · replace h := ite_t c5 h
        refine v_ldc dX11_ahead_29 tw297 ?_
        replace h := Option.some.inj h
        subst h
        exact v_iret dX11_ahead_31 rfl rfl rfl rfl rfl
  · replace h := ite_t c1 h
    refine v_ldc dX11_ahead_7 tw400 ?_
    replace h := Option.some.inj h
    subst h
    exact v_iret dX11_ahead_9 rfl rfl rfl rfl rfl
def fX_when (x1 : Int32) (σ : Sg) : Option (Int32 × Sg) := (fX_isPerson x1 σ).bind fun q1 => if q1 = 0 then some ((-1000001), σ) else (fH_become 10 4 σ).bind fun q3 => (fH_until 10 x1 99 q3).bind fun q4 => (fX_orNone q4.1 q4.2).bind fun q5 => some (q5, q4.2)
set_option maxRecDepth 100000 in
set_option maxHeartbeats 4000000 in
theorem eX_when {G : Gx} (x1 : Int32) (σ : Sg) (q : (Int32 × Sg)) (h : fX_when x1 σ = some q) : Evm G yX11_when MX11_when [.ref (gb G + 0), .int x1] σ (some (.int q.1)) q.2 := by
  refine Ev.of (by decide +kernel) rfl rfl (Nat.le_of_ble_eq_true rfl) ?_
  show Vm G MX11_when (some (.int q.1)) q.2 0 [(0, .ref (gb G + 0)), (1, .int x1)] [] σ
  unfold fX_when at h
  refine v_aload_n dX11_when_0 0 rfl rfl (v_iload_n dX11_when_1 1 rfl rfl ?_)
  obtain ⟨q1, hq1, h⟩ := bind_some h
  refine v_callV (As := [.int x1]) (S := []) dX11_when_2 tw440 tw442 tw9 ykX11_isPerson lc_0 shc_0 (by decide) ok_10 rfl (by decide) rfl rfl (Nat.le_of_ble_eq_true rfl) (by decide) (eX_isPerson x1 _ _ hq1) ?_
  refine v_if_ne (tgt := 11) dX11_when_5 (by decide) (fun c2 => ?_) (fun c2 => ?_)
  · replace h := ite_f c2 h
    refine v_aload_n dX11_when_11 0 rfl rfl (vm_getR (t := 10) dX11_when_12 fsX11_29 lc_0 shc_0 (by decide) rf_0_3 (v_aload_n dX11_when_15 0 rfl rfl (vm_getR (t := 4) dX11_when_16 fsX11_25 lc_0 shc_0 (by decide) rf_0_2 ?_)))
    obtain ⟨q3, hq3, h⟩ := bind_some h
    refine v_callV (As := [.ref (gb G + 4)]) (S := []) dX11_when_19 tw383 tw384 tw385 ykX4_become ((isH_s isH_10).2.1) ((isH_s isH_10).1.1) (by decide) ok_4 rfl (by decide) rfl rfl (Nat.le_of_ble_eq_true rfl) (by decide) (eH_become 10 isH_10 4 isH_4 _ _ hq3) ?_
    refine v_aload_n dX11_when_22 0 rfl rfl (vm_getR (t := 10) dX11_when_23 fsX11_29 lc_0 shc_0 (by decide) rf_0_3 (v_iload_n dX11_when_26 1 rfl rfl (v_bipush (v := 99) dX11_when_27 rfl ?_)))
    obtain ⟨q4, hq4, h⟩ := bind_some h
    refine v_callV (As := [.int x1, .int 99]) (S := []) dX11_when_29 tw497 tw498 tw499 ykX4_until ((isH_s isH_10).2.1) ((isH_s isH_10).1.1) (by decide) ok_4 rfl (by decide) rfl rfl (Nat.le_of_ble_eq_true rfl) (by decide) (eH_until 10 isH_10 x1 99 _ _ hq4) ?_
    obtain ⟨q5, hq5, h⟩ := bind_some h
    refine v_callS (As := [.int q4.1]) (S := []) dX11_when_32 tw475 tw476 ykX11_orNone rfl (by decide) rfl rfl (Nat.le_of_ble_eq_true rfl) (by decide) (eX_orNone q4.1 _ _ hq5) ?_
    replace h := Option.some.inj h
    subst h
    exact v_iret dX11_when_35 rfl rfl rfl rfl rfl
  · replace h := ite_t c2 h
    refine v_ldc dX11_when_8 tw297 ?_
    replace h := Option.some.inj h
    subst h
    exact v_iret dX11_when_10 rfl rfl rfl rfl rfl
def fX_first_b35 (K35 : Int32 → Int32 → Sg → Option (Int32 × Sg)) (x1 : Int32) (x2 : Int32) (σ : Sg) : Option (Int32 × Sg) := if (99 : Int32) < x2 then some ((-1000000), σ) else (fH_advance 10 σ).bind fun q6 => if (q6 10 9) = (q6 4 9) then K35 x1 (x2 + 1) q6 else if x1 = 0 then some (σ 10 8, q6) else some (x2, q6)
def fX_first_L35 (n : Nat) : Int32 → Int32 → Sg → Option (Int32 × Sg) := Nat.rec (fun _ _ _ => none) (fun _ K => fX_first_b35 K) n
set_option maxRecDepth 100000 in
set_option maxHeartbeats 4000000 in
theorem sX_first_b35 {G : Gx} {q : (Int32 × Sg)} (K35 : Int32 → Int32 → Sg → Option (Int32 × Sg)) (hK35 : ∀ (x1 : Int32) (x2 : Int32) (σ : Sg), K35 x1 x2 σ = some q → Vm G MX11_first (some (.int q.1)) q.2 35 [(0, .ref (gb G + 0)), (1, .int x1), (2, .int x2)] [] σ) (x1 : Int32) (x2 : Int32) (σ : Sg) (h : fX_first_b35 K35 x1 x2 σ = some q) : Vm G MX11_first (some (.int q.1)) q.2 35 [(0, .ref (gb G + 0)), (1, .int x1), (2, .int x2)] [] σ := by
  unfold fX_first_b35 at h
  refine v_iload_n dX11_first_35 2 rfl rfl (v_bipush (v := 99) dX11_first_36 rfl (v_icmp_gt (tgt := 89) dX11_first_38 (by decide) (fun c5 => ?_) (fun c5 => ?_)))
  · replace h := ite_t c5 h
    refine v_ldc dX11_first_89 tw478 ?_
    replace h := Option.some.inj h
    subst h
    exact v_iret dX11_first_91 rfl rfl rfl rfl rfl
  · replace h := ite_f c5 h
    refine v_aload_n dX11_first_41 0 rfl rfl (vm_getR (t := 10) dX11_first_42 fsX11_29 lc_0 shc_0 (by decide) rf_0_3 (vm_getI dX11_first_45 fsX11_182 ((isH_s isH_10).2.1) ((isH_s isH_10).1.1) (by decide) ((isH_r isH_10).2.2.2.2.1) (v_istore_n dX11_first_48 [0, 1, 2, 3] rfl (by decide) rfl (v_aload_n dX11_first_49 1 rfl rfl (vm_getR (t := 10) dX11_first_50 fsX11_29 lc_0 shc_0 (by decide) rf_0_3 ?_)))))
    obtain ⟨q6, hq6, h⟩ := bind_some h
    refine v_callV (As := []) (S := []) dX11_first_53 tw409 tw410 tw411 ykX4_advance ((isH_s isH_10).2.1) ((isH_s isH_10).1.1) (by decide) ok_4 rfl (by decide) rfl rfl (Nat.le_of_ble_eq_true rfl) (by decide) (eH_advance 10 isH_10 _ _ hq6) ?_
    refine v_aload_n dX11_first_56 1 rfl rfl (vm_getR (t := 10) dX11_first_57 fsX11_29 lc_0 shc_0 (by decide) rf_0_3 (vm_getI dX11_first_60 fsX11_217 ((isH_s isH_10).2.1) ((isH_s isH_10).1.1) (by decide) ((isH_r isH_10).2.2.2.2.2.1) (v_aload_n dX11_first_63 1 rfl rfl (vm_getR (t := 4) dX11_first_64 fsX11_25 lc_0 shc_0 (by decide) rf_0_2 (vm_getI dX11_first_67 fsX11_217 ((isH_s isH_4).2.1) ((isH_s isH_4).1.1) (by decide) ((isH_r isH_4).2.2.2.2.2.1) (v_icmp_eq (tgt := 83) dX11_first_70 (by decide) (fun c7 => ?_) (fun c7 => ?_)))))))
    · replace h := ite_t c7 h
      exact v_iinc (v := x2 + 1) dX11_first_83 3 rfl rfl [0, 2, 3] rfl (by decide) (v_goto (tgt := 35) dX11_first_86 (by decide) (v_sub [1, 2, 0] rfl (hK35 x1 (x2 + 1) _ h)))
    · replace h := ite_f c7 h
      refine v_iload_n dX11_first_73 2 rfl rfl (v_if_ne (tgt := 81) dX11_first_74 (by decide) (fun c8 => ?_) (fun c8 => ?_))
      · replace h := ite_f c8 h
        refine v_iload_n dX11_first_81 3 rfl rfl ?_
        replace h := Option.some.inj h
        subst h
        exact v_iret dX11_first_82 rfl rfl rfl rfl rfl
      · replace h := ite_t c8 h
        refine v_iload_n dX11_first_77 0 rfl rfl (v_goto (tgt := 82) dX11_first_78 (by decide) ?_)
        replace h := Option.some.inj h
        subst h
        exact v_iret dX11_first_82 rfl rfl rfl rfl rfl
theorem sX_first_L35 {G : Gx} {q : (Int32 × Sg)} (n : Nat) : ∀ (x1 : Int32) (x2 : Int32) (σ : Sg) (h : fX_first_L35 n x1 x2 σ = some q), Vm G MX11_first (some (.int q.1)) q.2 35 [(0, .ref (gb G + 0)), (1, .int x1), (2, .int x2)] [] σ := by
  induction n with
  | zero => intro x1 x2 σ h; cases h
  | succ n ih => intro x1 x2 σ h; exact sX_first_b35  _ ih x1 x2 σ h
def fX_first (x1 : Int32) (σ : Sg) : Option (Int32 × Sg) := if (σ 0 9) = 0 then some ((-1000002), σ) else (fX_isWithin x1 0 1 σ).bind fun q2 => if q2 = 0 then some ((-1000001), σ) else (fH_become 10 4 σ).bind fun q4 => fX_first_L35 2000 x1 1 q4
set_option maxRecDepth 100000 in
set_option maxHeartbeats 4000000 in
theorem eX_first {G : Gx} (x1 : Int32) (σ : Sg) (q : (Int32 × Sg)) (h : fX_first x1 σ = some q) : Evm G yX11_first MX11_first [.ref (gb G + 0), .int x1] σ (some (.int q.1)) q.2 := by
  refine Ev.of (by decide +kernel) rfl rfl (Nat.le_of_ble_eq_true rfl) ?_
  show Vm G MX11_first (some (.int q.1)) q.2 0 [(0, .ref (gb G + 0)), (1, .int x1)] [] σ
  unfold fX_first at h
  refine v_aload_n dX11_first_0 0 rfl rfl (vm_getI dX11_first_1 fsX11_149 lc_0 shc_0 (by decide) rf_0_9 (v_if_ne (tgt := 10) dX11_first_4 (by decide) (fun c1 => ?_) (fun c1 => ?_)))
  · replace h := ite_f c1 h
    refine v_iload_n dX11_first_10 1 rfl rfl (v_iconst dX11_first_11 rfl (v_iconst dX11_first_12 rfl ?_))
    obtain ⟨q2, hq2, h⟩ := bind_some h
    refine v_callS (As := [.int x1, .int 0, .int 1]) (S := []) dX11_first_13 tw294 tw295 ykX11_isWithin rfl (by decide) rfl rfl (Nat.le_of_ble_eq_true rfl) (by decide) (eX_isWithin x1 0 1 _ _ hq2) ?_
    refine v_if_ne (tgt := 22) dX11_first_16 (by decide) (fun c3 => ?_) (fun c3 => ?_)
    · replace h := ite_f c3 h
      refine v_aload_n dX11_first_22 0 rfl rfl (vm_getR (t := 10) dX11_first_23 fsX11_29 lc_0 shc_0 (by decide) rf_0_3 (v_aload_n dX11_first_26 0 rfl rfl (vm_getR (t := 4) dX11_first_27 fsX11_25 lc_0 shc_0 (by decide) rf_0_2 ?_)))
      obtain ⟨q4, hq4, h⟩ := bind_some h
      refine v_callV (As := [.ref (gb G + 4)]) (S := []) dX11_first_30 tw383 tw384 tw385 ykX4_become ((isH_s isH_10).2.1) ((isH_s isH_10).1.1) (by decide) ok_4 rfl (by decide) rfl rfl (Nat.le_of_ble_eq_true rfl) (by decide) (eH_become 10 isH_10 4 isH_4 _ _ hq4) ?_
      exact v_iconst dX11_first_33 rfl (v_istore_n dX11_first_34 [0, 1, 2] rfl (by decide) rfl (v_sub [1, 2, 0] rfl (sX_first_L35 2000 x1 1 _ h)))
    · replace h := ite_t c3 h
      refine v_ldc dX11_first_19 tw297 ?_
      replace h := Option.some.inj h
      subst h
      exact v_iret dX11_first_21 rfl rfl rfl rfl rfl
  · replace h := ite_t c1 h
    refine v_ldc dX11_first_7 tw400 ?_
    replace h := Option.some.inj h
    subst h
    exact v_iret dX11_first_9 rfl rfl rfl rfl rfl
def fX_never (σ : Sg) : Option (Int32 × Sg) := if (σ 0 9) = 0 then some ((-1000002), σ) else (fH_become 10 4 σ).bind fun q2 => (fH_lastWithin 10 99 q2).bind fun q3 => some (((1 <<< ((q3.2 4 5) &&& 31)) - 1) &&& ((q3.2 10 9) ^^^ (-1)), q3.2)
set_option maxRecDepth 100000 in
set_option maxHeartbeats 4000000 in
theorem eX_never {G : Gx} (σ : Sg) (q : (Int32 × Sg)) (h : fX_never σ = some q) : Evm G yX11_never MX11_never [.ref (gb G + 0)] σ (some (.int q.1)) q.2 := by
  refine Ev.of (by decide +kernel) rfl rfl (Nat.le_of_ble_eq_true rfl) ?_
  show Vm G MX11_never (some (.int q.1)) q.2 0 [(0, .ref (gb G + 0))] [] σ
  unfold fX_never at h
  refine v_aload_n dX11_never_0 0 rfl rfl (vm_getI dX11_never_1 fsX11_149 lc_0 shc_0 (by decide) rf_0_9 (v_if_ne (tgt := 10) dX11_never_4 (by decide) (fun c1 => ?_) (fun c1 => ?_)))
  · replace h := ite_f c1 h
    refine v_aload_n dX11_never_10 0 rfl rfl (vm_getR (t := 10) dX11_never_11 fsX11_29 lc_0 shc_0 (by decide) rf_0_3 (v_aload_n dX11_never_14 0 rfl rfl (vm_getR (t := 4) dX11_never_15 fsX11_25 lc_0 shc_0 (by decide) rf_0_2 ?_)))
    obtain ⟨q2, hq2, h⟩ := bind_some h
    refine v_callV (As := [.ref (gb G + 4)]) (S := []) dX11_never_18 tw383 tw384 tw385 ykX4_become ((isH_s isH_10).2.1) ((isH_s isH_10).1.1) (by decide) ok_4 rfl (by decide) rfl rfl (Nat.le_of_ble_eq_true rfl) (by decide) (eH_become 10 isH_10 4 isH_4 _ _ hq2) ?_
    refine v_aload_n dX11_never_21 0 rfl rfl (vm_getR (t := 10) dX11_never_22 fsX11_29 lc_0 shc_0 (by decide) rf_0_3 (v_bipush (v := 99) dX11_never_25 rfl ?_))
    obtain ⟨q3, hq3, h⟩ := bind_some h
    refine v_callV (As := [.int 99]) (S := []) dX11_never_27 tw484 tw485 tw486 ykX4_lastWithin ((isH_s isH_10).2.1) ((isH_s isH_10).1.1) (by decide) ok_4 rfl (by decide) rfl rfl (Nat.le_of_ble_eq_true rfl) (by decide) (eH_lastWithin 10 isH_10 99 _ _ hq3) ?_
    refine v_pop dX11_never_30 rfl (v_iconst dX11_never_31 rfl (v_aload_n dX11_never_32 0 rfl rfl (vm_getR (t := 4) dX11_never_33 fsX11_25 lc_0 shc_0 (by decide) rf_0_2 (vm_getI dX11_never_36 fsX11_153 ((isH_s isH_4).2.1) ((isH_s isH_4).1.1) (by decide) ((isH_r isH_4).2.1) (v_ishl dX11_never_39 (v_iconst dX11_never_40 rfl (v_isub dX11_never_41 (v_aload_n dX11_never_42 0 rfl rfl (vm_getR (t := 10) dX11_never_43 fsX11_29 lc_0 shc_0 (by decide) rf_0_3 ?_)))))))))
    refine vm_getI dX11_never_46 fsX11_217 ((isH_s isH_10).2.1) ((isH_s isH_10).1.1) (by decide) ((isH_r isH_10).2.2.2.2.2.1) (v_iconst (v := -1) dX11_never_49 rfl (v_ixor dX11_never_50 (v_iand dX11_never_51 ?_)))
    replace h := Option.some.inj h
    subst h
    exact v_iret dX11_never_52 rfl rfl rfl rfl rfl
  · replace h := ite_t c1 h
    refine v_ldc dX11_never_7 tw400 ?_
    replace h := Option.some.inj h
    subst h
    exact v_iret dX11_never_9 rfl rfl rfl rfl rfl
