def fX_trace (x1 : Int32) (σ : Sg) : Option Int32 := (fX_isWithin x1 0 ((σ 170 1) - 1) σ).bind fun q1 => if q1 = 0 then some (-1000000) else if inb x1 16 = true then some (σ 171 (ix x1)) else none
set_option maxRecDepth 100000 in
set_option maxHeartbeats 4000000 in
theorem eX_trace {G : Gx} (x1 : Int32) (σ : Sg) (q : Int32) (h : fX_trace x1 σ = some q) : Evm G yX11_trace MX11_trace [.ref (gb G + 0), .int x1] σ (some (.int q)) σ := by
  refine Ev.of (by decide +kernel) rfl rfl (Nat.le_of_ble_eq_true rfl) ?_
  show Vm G MX11_trace (some (.int q)) σ 0 [(0, .ref (gb G + 0)), (1, .int x1)] [] σ
  unfold fX_trace at h
  refine v_iload_n dX11_trace_0 1 rfl rfl (v_iconst dX11_trace_1 rfl (v_aload_n dX11_trace_2 0 rfl rfl (vm_getR (t := 170) dX11_trace_3 fsX11_71 lc_0 shc_0 (by decide) rf_0_8 (vm_getI dX11_trace_6 fsX11_271 lc_170 shc_170 (by decide) rf_170_1 (v_iconst dX11_trace_9 rfl (v_isub dX11_trace_10 ?_))))))
  obtain ⟨q1, hq1, h⟩ := bind_some h
  refine v_callS (As := [.int x1, .int 0, .int ((σ 170 1) - 1)]) (S := []) dX11_trace_11 tw294 tw295 ykX11_isWithin rfl (by decide) rfl rfl (Nat.le_of_ble_eq_true rfl) (by decide) (eX_isWithin x1 0 ((σ 170 1) - 1) _ _ hq1) ?_
  refine v_if_eq (tgt := 29) dX11_trace_14 (by decide) (fun c2 => ?_) (fun c2 => ?_)
  · replace h := ite_t c2 h
    refine v_ldc dX11_trace_29 tw478 ?_
    replace h := Option.some.inj h
    subst h
    exact v_iret dX11_trace_31 rfl rfl rfl rfl rfl
  · replace h := ite_f c2 h
    refine v_aload_n dX11_trace_17 0 rfl rfl (vm_getR (t := 170) dX11_trace_18 fsX11_71 lc_0 shc_0 (by decide) rf_0_8 (vm_getR (t := 171) dX11_trace_21 fsX11_279 lc_170 shc_170 (by decide) rf_170_0 (v_iload_n dX11_trace_24 1 rfl rfl ?_)))
    obtain ⟨g3, h⟩ := guard_some h
    refine vn_iald dX11_trace_25 lc_171 sha_171 g3 rfl (v_goto (tgt := 31) dX11_trace_26 (by decide) ?_)
    replace h := Option.some.inj h
    subst h
    exact v_iret dX11_trace_31 rfl rfl rfl rfl rfl
def fX_rowsThere_B28 (K4 : Int32 → Int32 → Sg → Option Int32) (x2 : Int32) (s0 : Int32) (s1 : Int32) (σ : Sg) : Option Int32 := K4 (s1 + s0) (x2 + 1) σ
set_option maxRecDepth 100000 in
set_option maxHeartbeats 4000000 in
theorem sX_rowsThere_B28 {G : Gx} {q : Int32} (K4 : Int32 → Int32 → Sg → Option Int32) (hK4 : ∀ (x1 : Int32) (x2 : Int32) (σ : Sg), K4 x1 x2 σ = some q → Vm G MX11_rowsThere (some (.int q)) σ 4 [(0, .ref (gb G + 0)), (1, .int x1), (2, .int x2)] [] σ) (x2 : Int32) (s0 : Int32) (s1 : Int32) (σ : Sg) (h : fX_rowsThere_B28 K4 x2 s0 s1 σ = some q) : Vm G MX11_rowsThere (some (.int q)) σ 28 [(0, .ref (gb G + 0)), (2, .int x2)] [.int s0, .int s1] σ := by
  unfold fX_rowsThere_B28 at h
  exact v_iadd dX11_rowsThere_28 (v_istore_n dX11_rowsThere_29 [0, 1, 2] rfl (by decide) rfl (v_iinc (v := x2 + 1) dX11_rowsThere_30 2 rfl rfl [0, 1, 2] rfl (by decide) (v_goto (tgt := 4) dX11_rowsThere_33 (by decide) (v_sub [2, 1, 0] rfl (hK4 (s1 + s0) (x2 + 1) _ h)))))
def fX_rowsThere_b4 (K4 : Int32 → Int32 → Sg → Option Int32) (x1 : Int32) (x2 : Int32) (σ : Sg) : Option Int32 := if (8 : Int32) ≤ x2 then some x1 else if inb x2 8 = true then (fR_isMissing (172 + 2 * ix x2) σ).bind fun q3 => if q3 = 0 then fX_rowsThere_B28 K4 x2 1 x1 σ else fX_rowsThere_B28 K4 x2 0 x1 σ else none
def fX_rowsThere_L4 (n : Nat) : Int32 → Int32 → Sg → Option Int32 := Nat.rec (fun _ _ _ => none) (fun _ K => fX_rowsThere_b4 K) n
set_option maxRecDepth 100000 in
set_option maxHeartbeats 4000000 in
theorem sX_rowsThere_b4 {G : Gx} {q : Int32} (K4 : Int32 → Int32 → Sg → Option Int32) (hK4 : ∀ (x1 : Int32) (x2 : Int32) (σ : Sg), K4 x1 x2 σ = some q → Vm G MX11_rowsThere (some (.int q)) σ 4 [(0, .ref (gb G + 0)), (1, .int x1), (2, .int x2)] [] σ) (x1 : Int32) (x2 : Int32) (σ : Sg) (h : fX_rowsThere_b4 K4 x1 x2 σ = some q) : Vm G MX11_rowsThere (some (.int q)) σ 4 [(0, .ref (gb G + 0)), (1, .int x1), (2, .int x2)] [] σ := by
  unfold fX_rowsThere_b4 at h
  refine v_iload_n dX11_rowsThere_4 2 rfl rfl (v_bipush (v := 8) dX11_rowsThere_5 rfl (v_icmp_ge (tgt := 36) dX11_rowsThere_7 (by decide) (fun c1 => ?_) (fun c1 => ?_)))
  · replace h := ite_t c1 h
    refine v_iload_n dX11_rowsThere_36 1 rfl rfl ?_
    replace h := Option.some.inj h
    subst h
    exact v_iret dX11_rowsThere_37 rfl rfl rfl rfl rfl
  · replace h := ite_f c1 h
    refine v_iload_n dX11_rowsThere_10 1 rfl rfl (v_aload_n dX11_rowsThere_11 0 rfl rfl (vm_getR (t := 1) dX11_rowsThere_12 fsX11_11 lc_0 shc_0 (by decide) rf_0_0 (v_iload_n dX11_rowsThere_15 2 rfl rfl ?_)))
    obtain ⟨g2, h⟩ := guard_some h
    refine vm_aald (r := (172 + 2 * ix x2)) (by decide) dX11_rowsThere_16 lc_1 sha_1 g2 rfl ?_
    obtain ⟨q3, hq3, h⟩ := bind_some h
    refine v_callV (As := []) (S := [.int x1]) dX11_rowsThere_17 tw315 tw316 tw317 ykX7_isMissing ((isR_s (isR_of g2)).2.1) ((isR_s (isR_of g2)).1.1) (by decide) ok_6 rfl (by decide) rfl rfl (Nat.le_of_ble_eq_true rfl) (by decide) (eR_isMissing (172 + 2 * ix x2) ((isR_of g2)) _ _ hq3) ?_
    refine v_if_eq (tgt := 27) dX11_rowsThere_20 (by decide) (fun c4 => ?_) (fun c4 => ?_)
    · replace h := ite_t c4 h
      exact v_iconst dX11_rowsThere_27 rfl (v_sub [0, 2] rfl (sX_rowsThere_B28 K4 hK4 x2 1 x1 _ h))
    · replace h := ite_f c4 h
      exact v_iconst dX11_rowsThere_23 rfl (v_goto (tgt := 28) dX11_rowsThere_24 (by decide) (v_sub [0, 2] rfl (sX_rowsThere_B28 K4 hK4 x2 0 x1 _ h)))
theorem sX_rowsThere_L4 {G : Gx} {q : Int32} (n : Nat) : ∀ (x1 : Int32) (x2 : Int32) (σ : Sg) (h : fX_rowsThere_L4 n x1 x2 σ = some q), Vm G MX11_rowsThere (some (.int q)) σ 4 [(0, .ref (gb G + 0)), (1, .int x1), (2, .int x2)] [] σ := by
  induction n with
  | zero => intro x1 x2 σ h; cases h
  | succ n ih => intro x1 x2 σ h; exact sX_rowsThere_b4  _ ih x1 x2 σ h
def fX_rowsThere (σ : Sg) : Option Int32 := fX_rowsThere_L4 2000 0 0 σ
set_option maxRecDepth 100000 in
set_option maxHeartbeats 4000000 in
theorem eX_rowsThere {G : Gx} (σ : Sg) (q : Int32) (h : fX_rowsThere σ = some q) : Evm G yX11_rowsThere MX11_rowsThere [.ref (gb G + 0)] σ (some (.int q)) σ := by
  refine Ev.of (by decide +kernel) rfl rfl (Nat.le_of_ble_eq_true rfl) ?_
  show Vm G MX11_rowsThere (some (.int q)) σ 0 [(0, .ref (gb G + 0))] [] σ
  unfold fX_rowsThere at h
  exact v_iconst dX11_rowsThere_0 rfl (v_istore_n dX11_rowsThere_1 [0, 1] rfl (by decide) rfl (v_iconst dX11_rowsThere_2 rfl (v_istore_n dX11_rowsThere_3 [0, 1, 2] rfl (by decide) rfl (v_sub [2, 1, 0] rfl (sX_rowsThere_L4 2000 0 0 _ h)))))
def fX_count (x1 : Int32) (σ : Sg) : Option Int32 := if x1 = 0 then ((fX_rowsThere σ).bind fun q2 => some q2) else if x1 = 1 then some (σ 4 5) else if x1 = 2 then some (σ 4 10) else if x1 = 3 then some (σ 4 6) else if x1 = 4 then ((fJ_bitCount (σ 4 9) σ).bind fun q7 => some q7) else if x1 = 5 then some (σ 18 2) else if x1 = 6 then some (σ 2 1) else some (-1000001)
set_option maxRecDepth 100000 in
set_option maxHeartbeats 4000000 in
theorem eX_count {G : Gx} (x1 : Int32) (σ : Sg) (q : Int32) (h : fX_count x1 σ = some q) : Evm G yX11_count MX11_count [.ref (gb G + 0), .int x1] σ (some (.int q)) σ := by
  refine Ev.of (by decide +kernel) rfl rfl (Nat.le_of_ble_eq_true rfl) ?_
  show Vm G MX11_count (some (.int q)) σ 0 [(0, .ref (gb G + 0)), (1, .int x1)] [] σ
  unfold fX_count at h
  refine v_iload_n dX11_count_0 1 rfl rfl ?_
  by_cases c1 : x1 = 0
  · replace h := ite_t c1 h
    refine v_tableAt (tgt := 44) dX11_count_1 c1 (by decide) (by decide) (off := 43) (by decide) (by decide) ?_
    refine v_aload_n dX11_count_44 0 rfl rfl ?_
    obtain ⟨q2, hq2, h⟩ := bind_some h
    refine v_callV (As := []) (S := []) dX11_count_45 tw672 tw674 tw15 ykX11_rowsThere lc_0 shc_0 (by decide) ok_10 rfl (by decide) rfl rfl (Nat.le_of_ble_eq_true rfl) (by decide) (eX_rowsThere _ _ hq2) ?_
    replace h := Option.some.inj h
    subst h
    exact v_iret dX11_count_48 rfl rfl rfl rfl rfl
  replace h := ite_f c1 h
  by_cases c3 : x1 = 1
  · replace h := ite_t c3 h
    refine v_tableAt (tgt := 49) dX11_count_1 c3 (by decide) (by decide) (off := 48) (by decide) (by decide) ?_
    refine v_aload_n dX11_count_49 0 rfl rfl (vm_getR (t := 4) dX11_count_50 fsX11_25 lc_0 shc_0 (by decide) rf_0_2 (vm_getI dX11_count_53 fsX11_153 ((isH_s isH_4).2.1) ((isH_s isH_4).1.1) (by decide) ((isH_r isH_4).2.1) ?_))
    replace h := Option.some.inj h
    subst h
    exact v_iret dX11_count_56 rfl rfl rfl rfl rfl
  replace h := ite_f c3 h
  by_cases c4 : x1 = 2
  · replace h := ite_t c4 h
    refine v_tableAt (tgt := 57) dX11_count_1 c4 (by decide) (by decide) (off := 56) (by decide) (by decide) ?_
    refine v_aload_n dX11_count_57 0 rfl rfl (vm_getR (t := 4) dX11_count_58 fsX11_25 lc_0 shc_0 (by decide) rf_0_2 (vm_getI dX11_count_61 fsX11_157 ((isH_s isH_4).2.1) ((isH_s isH_4).1.1) (by decide) ((isH_r isH_4).2.2.2.2.2.2.1) ?_))
    replace h := Option.some.inj h
    subst h
    exact v_iret dX11_count_64 rfl rfl rfl rfl rfl
  replace h := ite_f c4 h
  by_cases c5 : x1 = 3
  · replace h := ite_t c5 h
    refine v_tableAt (tgt := 65) dX11_count_1 c5 (by decide) (by decide) (off := 64) (by decide) (by decide) ?_
    refine v_aload_n dX11_count_65 0 rfl rfl (vm_getR (t := 4) dX11_count_66 fsX11_25 lc_0 shc_0 (by decide) rf_0_2 (vm_getI dX11_count_69 fsX11_185 ((isH_s isH_4).2.1) ((isH_s isH_4).1.1) (by decide) ((isH_r isH_4).2.2.1) ?_))
    replace h := Option.some.inj h
    subst h
    exact v_iret dX11_count_72 rfl rfl rfl rfl rfl
  replace h := ite_f c5 h
  by_cases c6 : x1 = 4
  · replace h := ite_t c6 h
    refine v_tableAt (tgt := 73) dX11_count_1 c6 (by decide) (by decide) (off := 72) (by decide) (by decide) ?_
    refine v_aload_n dX11_count_73 0 rfl rfl (vm_getR (t := 4) dX11_count_74 fsX11_25 lc_0 shc_0 (by decide) rf_0_2 (vm_getI dX11_count_77 fsX11_217 ((isH_s isH_4).2.1) ((isH_s isH_4).1.1) (by decide) ((isH_r isH_4).2.2.2.2.2.1) ?_))
    obtain ⟨q7, hq7, h⟩ := bind_some h
    refine v_callS (As := [.int (σ 4 9)]) (S := []) dX11_count_80 tw526 tw527 ykJ6_bitCount_0f7a4 rfl (by decide) rfl rfl (Nat.le_of_ble_eq_true rfl) (by decide) (eJ_bitCount (σ 4 9) _ _ hq7) ?_
    replace h := Option.some.inj h
    subst h
    exact v_iret dX11_count_83 rfl rfl rfl rfl rfl
  replace h := ite_f c6 h
  by_cases c8 : x1 = 5
  · replace h := ite_t c8 h
    refine v_tableAt (tgt := 84) dX11_count_1 c8 (by decide) (by decide) (off := 83) (by decide) (by decide) ?_
    refine v_aload_n dX11_count_84 0 rfl rfl (vm_getR (t := 18) dX11_count_85 fsX11_43 lc_0 shc_0 (by decide) rf_0_6 (vm_getI dX11_count_88 fsX11_188 lc_18 shc_18 (by decide) rf_18_2 ?_))
    replace h := Option.some.inj h
    subst h
    exact v_iret dX11_count_91 rfl rfl rfl rfl rfl
  replace h := ite_f c8 h
  by_cases c9 : x1 = 6
  · replace h := ite_t c9 h
    refine v_tableAt (tgt := 92) dX11_count_1 c9 (by decide) (by decide) (off := 91) (by decide) (by decide) ?_
    refine v_aload_n dX11_count_92 0 rfl rfl (vm_getR (t := 2) dX11_count_93 fsX11_18 lc_0 shc_0 (by decide) rf_0_1 (vm_getI dX11_count_96 fsX11_124 lc_2 shc_2 (by decide) rf_2_1 ?_))
    replace h := Option.some.inj h
    subst h
    exact v_iret dX11_count_99 rfl rfl rfl rfl rfl
  replace h := ite_f c9 h
  have nc1 := i_ne (z := 0) (by decide) c1
  have nc3 := i_ne (z := 1) (by decide) c3
  have nc4 := i_ne (z := 2) (by decide) c4
  have nc5 := i_ne (z := 3) (by decide) c5
  have nc6 := i_ne (z := 4) (by decide) c6
  have nc8 := i_ne (z := 5) (by decide) c8
  have nc9 := i_ne (z := 6) (by decide) c9
  refine v_tableOut (tgt := 100) dX11_count_1 (by omega) (by decide) ?_
  refine v_ldc dX11_count_100 tw297 ?_
  replace h := Option.some.inj h
  subst h
  exact v_iret dX11_count_102 rfl rfl rfl rfl rfl
def fX_status (σ : Sg) : Option Int32 := some (σ 0 11)
set_option maxRecDepth 100000 in
set_option maxHeartbeats 4000000 in
theorem eX_status {G : Gx} (σ : Sg) (q : Int32) (h : fX_status σ = some q) : Evm G yX11_status MX11_status [.ref (gb G + 0)] σ (some (.int q)) σ := by
  refine Ev.of (by decide +kernel) rfl rfl (Nat.le_of_ble_eq_true rfl) ?_
  show Vm G MX11_status (some (.int q)) σ 0 [(0, .ref (gb G + 0))] [] σ
  unfold fX_status at h
  refine v_aload_n dX11_status_0 0 rfl rfl (vm_getI dX11_status_1 fsX11_285 lc_0 shc_0 (by decide) rf_0_11 ?_)
  replace h := Option.some.inj h
  subst h
  exact v_iret dX11_status_4 rfl rfl rfl rfl rfl
def fM_in (x0 : Int32) (x1 : Int32) (x2 : Int32) (σ : Sg) : Option Int32 := if x0 < x1 then some 0 else if x2 < x0 then some 0 else some 1
set_option maxRecDepth 100000 in
set_option maxHeartbeats 4000000 in
theorem eM_in {G : Gx} (x0 : Int32) (x1 : Int32) (x2 : Int32) (σ : Sg) (q : Int32) (h : fM_in x0 x1 x2 σ = some q) : Evm G yX12_in MX12_in [.int x0, .int x1, .int x2] σ (some (.int q)) σ := by
  refine Ev.of (by decide +kernel) rfl rfl (Nat.le_of_ble_eq_true rfl) ?_
  show Vm G MX12_in (some (.int q)) σ 0 [(0, .int x0), (1, .int x1), (2, .int x2)] [] σ
  unfold fM_in at h
  refine v_iload_n dX12_in_0 0 rfl rfl (v_iload_n dX12_in_1 1 rfl rfl (v_icmp_lt (tgt := 14) dX12_in_2 (by decide) (fun c1 => ?_) (fun c1 => ?_)))
  · replace h := ite_t c1 h
    refine v_iconst dX12_in_14 rfl ?_
    replace h := Option.some.inj h
    subst h
    exact v_zret dX12_in_15 rfl (by decide) rfl rfl rfl rfl
  · replace h := ite_f c1 h
    refine v_iload_n dX12_in_5 0 rfl rfl (v_iload_n dX12_in_6 2 rfl rfl (v_icmp_gt (tgt := 14) dX12_in_7 (by decide) (fun c2 => ?_) (fun c2 => ?_)))
    · replace h := ite_t c2 h
      refine v_iconst dX12_in_14 rfl ?_
      replace h := Option.some.inj h
      subst h
      exact v_zret dX12_in_15 rfl (by decide) rfl rfl rfl rfl
    · replace h := ite_f c2 h
      refine v_iconst dX12_in_10 rfl (v_goto (tgt := 15) dX12_in_11 (by decide) ?_)
      replace h := Option.some.inj h
      subst h
      exact v_zret dX12_in_15 rfl (by decide) rfl rfl rfl rfl
def fM_has (x0 : Int32) (x1 : Int32) (σ : Sg) : Option Int32 := if ((x0 >>> (x1 &&& 31)) &&& 1) = 1 then some 1 else some 0
set_option maxRecDepth 100000 in
set_option maxHeartbeats 4000000 in
theorem eM_has {G : Gx} (x0 : Int32) (x1 : Int32) (σ : Sg) (q : Int32) (h : fM_has x0 x1 σ = some q) : Evm G yX12_has MX12_has [.int x0, .int x1] σ (some (.int q)) σ := by
  refine Ev.of (by decide +kernel) rfl rfl (Nat.le_of_ble_eq_true rfl) ?_
  show Vm G MX12_has (some (.int q)) σ 0 [(0, .int x0), (1, .int x1)] [] σ
  unfold fM_has at h
  refine v_iload_n dX12_has_0 0 rfl rfl (v_iload_n dX12_has_1 1 rfl rfl (v_ishr dX12_has_2 (v_iconst dX12_has_3 rfl (v_iand dX12_has_4 (v_iconst dX12_has_5 rfl (v_icmp_ne (tgt := 13) dX12_has_6 (by decide) (fun c1 => ?_) (fun c1 => ?_)))))))
  · replace h := ite_f c1 h
    refine v_iconst dX12_has_13 rfl ?_
    replace h := Option.some.inj h
    subst h
    exact v_zret dX12_has_14 rfl (by decide) rfl rfl rfl rfl
  · replace h := ite_t c1 h
    refine v_iconst dX12_has_9 rfl (v_goto (tgt := 14) dX12_has_10 (by decide) ?_)
    replace h := Option.some.inj h
    subst h
    exact v_zret dX12_has_14 rfl (by decide) rfl rfl rfl rfl
def fM_ones_b4 (K4 : Int32 → Int32 → Int32 → Sg → Option Int32) (x0 : Int32) (x1 : Int32) (x2 : Int32) (σ : Sg) : Option Int32 := if (8 : Int32) ≤ x2 then some x1 else K4 x0 (x1 + ((x0 >>> (x2 &&& 31)) &&& 1)) (x2 + 1) σ
def fM_ones_L4 (n : Nat) : Int32 → Int32 → Int32 → Sg → Option Int32 := Nat.rec (fun _ _ _ _ => none) (fun _ K => fM_ones_b4 K) n
set_option maxRecDepth 100000 in
set_option maxHeartbeats 4000000 in
theorem sM_ones_b4 {G : Gx} {q : Int32} (K4 : Int32 → Int32 → Int32 → Sg → Option Int32) (hK4 : ∀ (x0 : Int32) (x1 : Int32) (x2 : Int32) (σ : Sg), K4 x0 x1 x2 σ = some q → Vm G MX12_ones (some (.int q)) σ 4 [(0, .int x0), (1, .int x1), (2, .int x2)] [] σ) (x0 : Int32) (x1 : Int32) (x2 : Int32) (σ : Sg) (h : fM_ones_b4 K4 x0 x1 x2 σ = some q) : Vm G MX12_ones (some (.int q)) σ 4 [(0, .int x0), (1, .int x1), (2, .int x2)] [] σ := by
  unfold fM_ones_b4 at h
  refine v_iload_n dX12_ones_4 2 rfl rfl (v_bipush (v := 8) dX12_ones_5 rfl (v_icmp_ge (tgt := 24) dX12_ones_7 (by decide) (fun c1 => ?_) (fun c1 => ?_)))
  · replace h := ite_t c1 h
    refine v_iload_n dX12_ones_24 1 rfl rfl ?_
    replace h := Option.some.inj h
    subst h
    exact v_iret dX12_ones_25 rfl rfl rfl rfl rfl
  · replace h := ite_f c1 h
    exact v_iload_n dX12_ones_10 1 rfl rfl (v_iload_n dX12_ones_11 0 rfl rfl (v_iload_n dX12_ones_12 2 rfl rfl (v_ishr dX12_ones_13 (v_iconst dX12_ones_14 rfl (v_iand dX12_ones_15 (v_iadd dX12_ones_16 (v_istore_n dX12_ones_17 [0, 1, 2] rfl (by decide) rfl (v_iinc (v := x2 + 1) dX12_ones_18 2 rfl rfl [0, 1, 2] rfl (by decide) (v_goto (tgt := 4) dX12_ones_21 (by decide) (v_sub [2, 1, 0] rfl (hK4 x0 (x1 + ((x0 >>> (x2 &&& 31)) &&& 1)) (x2 + 1) _ h)))))))))))
theorem sM_ones_L4 {G : Gx} {q : Int32} (n : Nat) : ∀ (x0 : Int32) (x1 : Int32) (x2 : Int32) (σ : Sg) (h : fM_ones_L4 n x0 x1 x2 σ = some q), Vm G MX12_ones (some (.int q)) σ 4 [(0, .int x0), (1, .int x1), (2, .int x2)] [] σ := by
  induction n with
  | zero => intro x0 x1 x2 σ h; cases h
  | succ n ih => intro x0 x1 x2 σ h; exact sM_ones_b4  _ ih x0 x1 x2 σ h
def fM_ones (x0 : Int32) (σ : Sg) : Option Int32 := fM_ones_L4 2000 x0 0 0 σ
set_option maxRecDepth 100000 in
set_option maxHeartbeats 4000000 in
theorem eM_ones {G : Gx} (x0 : Int32) (σ : Sg) (q : Int32) (h : fM_ones x0 σ = some q) : Evm G yX12_ones MX12_ones [.int x0] σ (some (.int q)) σ := by
  refine Ev.of (by decide +kernel) rfl rfl (Nat.le_of_ble_eq_true rfl) ?_
  show Vm G MX12_ones (some (.int q)) σ 0 [(0, .int x0)] [] σ
  unfold fM_ones at h
  exact v_iconst dX12_ones_0 rfl (v_istore_n dX12_ones_1 [0, 1] rfl (by decide) rfl (v_iconst dX12_ones_2 rfl (v_istore_n dX12_ones_3 [0, 1, 2] rfl (by decide) rfl (v_sub [2, 1, 0] rfl (sM_ones_L4 2000 x0 0 0 _ h)))))
def fM_found (x1 : Int32) (σ : Sg) : Option (Int32 × Sg) := ltc (wr σ 200 4 x1) fun σ1 => some ((-1000010) - x1, σ1)
set_option maxRecDepth 100000 in
set_option maxHeartbeats 4000000 in
theorem eM_found {G : Gx} (x1 : Int32) (σ : Sg) (q : (Int32 × Sg)) (h : fM_found x1 σ = some q) : Evm G yX12_found MX12_found [.ref (gb G + 200), .int x1] σ (some (.int q.1)) q.2 := by
  refine Ev.of (by decide +kernel) rfl rfl (Nat.le_of_ble_eq_true rfl) ?_
  show Vm G MX12_found (some (.int q.1)) q.2 0 [(0, .ref (gb G + 200)), (1, .int x1)] [] σ
  unfold fM_found at h
  refine v_aload_n dX12_found_0 0 rfl rfl (v_iload_n dX12_found_1 1 rfl rfl ?_)
  obtain ⟨σ1, eσ1, h⟩ := ltc_some h
  refine vn_put dX12_found_2 fsX12_48 lc_200 shc_200 (by decide) rf_200_4 eσ1 (v_ldc dX12_found_5 tw769 (v_iload_n dX12_found_7 1 rfl rfl (v_isub dX12_found_8 ?_)))
  replace h := Option.some.inj h
  subst h
  exact v_iret dX12_found_9 rfl rfl rfl rfl rfl
def fM_well (x1 : Int32) (σ : Sg) : Option (Int32 × Sg) := ltc (wr σ 200 4 0) fun σ1 => some (x1, σ1)
set_option maxRecDepth 100000 in
set_option maxHeartbeats 4000000 in
theorem eM_well {G : Gx} (x1 : Int32) (σ : Sg) (q : (Int32 × Sg)) (h : fM_well x1 σ = some q) : Evm G yX12_well MX12_well [.ref (gb G + 200), .int x1] σ (some (.int q.1)) q.2 := by
  refine Ev.of (by decide +kernel) rfl rfl (Nat.le_of_ble_eq_true rfl) ?_
  show Vm G MX12_well (some (.int q.1)) q.2 0 [(0, .ref (gb G + 200)), (1, .int x1)] [] σ
  unfold fM_well at h
  refine v_aload_n dX12_well_0 0 rfl rfl (v_iconst dX12_well_1 rfl ?_)
  obtain ⟨σ1, eσ1, h⟩ := ltc_some h
  refine vn_put dX12_well_2 fsX12_48 lc_200 shc_200 (by decide) rf_200_4 eσ1 (v_iload_n dX12_well_5 1 rfl rfl ?_)
  replace h := Option.some.inj h
  subst h
  exact v_iret dX12_well_6 rfl rfl rfl rfl rfl
def fM_copies_b3 (K3 : Nat → Nat → Int32 → Nat → Nat → Int32 → Int32 → Sg → Option Sg) (r0 n0 : Nat) (x1 : Int32) (r2 n2 : Nat) (x3 : Int32) (x4 : Int32) (σ : Sg) : Option Sg := if (41 : Int32) ≤ x4 then some σ else if inb (x1 + x4) n0 = true then if inb (x3 + x4) n2 = true then ltc (wr σ r2 (ix (x3 + x4)) (σ r0 (ix (x1 + x4)))) fun σ4 => K3 r0 n0 x1 r2 n2 x3 (x4 + 1) σ4 else none else none
def fM_copies_L3 (n : Nat) : Nat → Nat → Int32 → Nat → Nat → Int32 → Int32 → Sg → Option Sg := Nat.rec (fun _ _ _ _ _ _ _ _ => none) (fun _ K => fM_copies_b3 K) n
set_option maxRecDepth 100000 in
set_option maxHeartbeats 4000000 in
theorem sM_copies_b3 {G : Gx} {q : Sg} (K3 : Nat → Nat → Int32 → Nat → Nat → Int32 → Int32 → Sg → Option Sg) (hK3 : ∀ (r0 n0 : Nat) (p0 : shp r0 = (20, n0)) (l0 : r0 < 213) (x1 : Int32) (r2 n2 : Nat) (p2 : shp r2 = (20, n2)) (l2 : r2 < 213) (x3 : Int32) (x4 : Int32) (σ : Sg), K3 r0 n0 x1 r2 n2 x3 x4 σ = some q → Vm G MX12_copies none q 3 [(0, .ref (gb G + r0)), (1, .int x1), (2, .ref (gb G + r2)), (3, .int x3), (4, .int x4)] [] σ) (r0 n0 : Nat) (p0 : shp r0 = (20, n0)) (l0 : r0 < 213) (x1 : Int32) (r2 n2 : Nat) (p2 : shp r2 = (20, n2)) (l2 : r2 < 213) (x3 : Int32) (x4 : Int32) (σ : Sg) (h : fM_copies_b3 K3 r0 n0 x1 r2 n2 x3 x4 σ = some q) : Vm G MX12_copies none q 3 [(0, .ref (gb G + r0)), (1, .int x1), (2, .ref (gb G + r2)), (3, .int x3), (4, .int x4)] [] σ := by
  unfold fM_copies_b3 at h
  refine v_iload dX12_copies_3 4 rfl (v_bipush (v := 41) dX12_copies_5 rfl (v_icmp_ge (tgt := 28) dX12_copies_7 (by decide) (fun c1 => ?_) (fun c1 => ?_)))
  · replace h := ite_t c1 h
    replace h := Option.some.inj h
    subst h
    exact v_vret dX12_copies_28 rfl rfl rfl rfl rfl
  · replace h := ite_f c1 h
    refine v_aload_n dX12_copies_10 2 rfl rfl (v_iload_n dX12_copies_11 3 rfl rfl (v_iload dX12_copies_12 4 rfl (v_iadd dX12_copies_14 (v_aload_n dX12_copies_15 0 rfl rfl (v_iload_n dX12_copies_16 1 rfl rfl (v_iload dX12_copies_17 4 rfl (v_iadd dX12_copies_19 ?_)))))))
    obtain ⟨g2, h⟩ := guard_some h
    refine vn_iald dX12_copies_20 l0 p0 g2 rfl ?_
    obtain ⟨g3, h⟩ := guard_some h
    obtain ⟨σ4, eσ4, h⟩ := ltc_some h
    exact vn_iast dX12_copies_21 l2 p2 g3 rfl eσ4 (v_iinc (v := x4 + 1) dX12_copies_22 4 rfl rfl [0, 1, 2, 3, 4] rfl (by decide) (v_goto (tgt := 3) dX12_copies_25 (by decide) (v_sub [1, 2, 3, 4, 0] rfl (hK3 r0 n0 p0 l0 x1 r2 n2 p2 l2 x3 (x4 + 1) _ h))))
theorem sM_copies_L3 {G : Gx} {q : Sg} (n : Nat) : ∀ (r0 n0 : Nat) (p0 : shp r0 = (20, n0)) (l0 : r0 < 213) (x1 : Int32) (r2 n2 : Nat) (p2 : shp r2 = (20, n2)) (l2 : r2 < 213) (x3 : Int32) (x4 : Int32) (σ : Sg) (h : fM_copies_L3 n r0 n0 x1 r2 n2 x3 x4 σ = some q), Vm G MX12_copies none q 3 [(0, .ref (gb G + r0)), (1, .int x1), (2, .ref (gb G + r2)), (3, .int x3), (4, .int x4)] [] σ := by
  induction n with
  | zero => intro r0 n0 p0 l0 x1 r2 n2 p2 l2 x3 x4 σ h; cases h
  | succ n ih => intro r0 n0 p0 l0 x1 r2 n2 p2 l2 x3 x4 σ h; exact sM_copies_b3  _ ih r0 n0 p0 l0 x1 r2 n2 p2 l2 x3 x4 σ h
def fM_copies (r0 n0 : Nat) (x1 : Int32) (r2 n2 : Nat) (x3 : Int32) (σ : Sg) : Option Sg := fM_copies_L3 2000 r0 n0 x1 r2 n2 x3 0 σ
set_option maxRecDepth 100000 in
set_option maxHeartbeats 4000000 in
theorem eM_copies {G : Gx} (r0 n0 : Nat) (p0 : shp r0 = (20, n0)) (l0 : r0 < 213) (x1 : Int32) (r2 n2 : Nat) (p2 : shp r2 = (20, n2)) (l2 : r2 < 213) (x3 : Int32) (σ : Sg) (q : Sg) (h : fM_copies r0 n0 x1 r2 n2 x3 σ = some q) : Evm G yX12_copies MX12_copies [.ref (gb G + r0), .int x1, .ref (gb G + r2), .int x3] σ none q := by
  refine Ev.of (by decide +kernel) rfl rfl (Nat.le_of_ble_eq_true rfl) ?_
  show Vm G MX12_copies none q 0 [(0, .ref (gb G + r0)), (1, .int x1), (2, .ref (gb G + r2)), (3, .int x3)] [] σ
  unfold fM_copies at h
  exact v_iconst dX12_copies_0 rfl (v_istore dX12_copies_1 [0, 1, 2, 3, 4] rfl (by decide) (v_sub [1, 2, 3, 4, 0] rfl (sM_copies_L3 2000 r0 n0 p0 l0 x1 r2 n2 p2 l2 x3 0 _ h)))
def fM_isRow (x0 : Int32) (σ : Sg) : Option Int32 := (fM_in x0 0 7 σ).bind fun q1 => if isb q1 = true then some q1 else none
set_option maxRecDepth 100000 in
set_option maxHeartbeats 4000000 in
theorem eM_isRow {G : Gx} (x0 : Int32) (σ : Sg) (q : Int32) (h : fM_isRow x0 σ = some q) : Evm G yX12_isRow MX12_isRow [.int x0] σ (some (.int q)) σ := by
  refine Ev.of (by decide +kernel) rfl rfl (Nat.le_of_ble_eq_true rfl) ?_
  show Vm G MX12_isRow (some (.int q)) σ 0 [(0, .int x0)] [] σ
  unfold fM_isRow at h
  refine v_iload_n dX12_isRow_0 0 rfl rfl (v_iconst dX12_isRow_1 rfl (v_bipush (v := 7) dX12_isRow_2 rfl ?_))
  obtain ⟨q1, hq1, h⟩ := bind_some h
  refine v_callS (As := [.int x0, .int 0, .int 7]) (S := []) dX12_isRow_4 tw761 tw762 ykX12_in rfl (by decide) rfl rfl (Nat.le_of_ble_eq_true rfl) (by decide) (eM_in x0 0 7 _ _ hq1) ?_
  obtain ⟨g2, h⟩ := guard_some h
  replace h := Option.some.inj h
  subst h
  exact v_zret dX12_isRow_7 rfl (isb_or g2) rfl rfl rfl rfl
def fM_isMissing (x1 : Int32) (σ : Sg) : Option Int32 := if inb x1 8 = true then if (σ 201 (ix x1)) = (-1000000) then some 1 else some 0 else none
set_option maxRecDepth 100000 in
set_option maxHeartbeats 4000000 in
theorem eM_isMissing {G : Gx} (x1 : Int32) (σ : Sg) (q : Int32) (h : fM_isMissing x1 σ = some q) : Evm G yX12_isMissing MX12_isMissing [.ref (gb G + 200), .int x1] σ (some (.int q)) σ := by
  refine Ev.of (by decide +kernel) rfl rfl (Nat.le_of_ble_eq_true rfl) ?_
  show Vm G MX12_isMissing (some (.int q)) σ 0 [(0, .ref (gb G + 200)), (1, .int x1)] [] σ
  unfold fM_isMissing at h
  refine v_aload_n dX12_isMissing_0 0 rfl rfl (vm_getR (t := 201) dX12_isMissing_1 fsX12_7 lc_200 shc_200 (by decide) rf_200_0 (v_iload_n dX12_isMissing_4 1 rfl rfl ?_))
  obtain ⟨g1, h⟩ := guard_some h
  refine vn_iald dX12_isMissing_5 lc_201 sha_201 g1 rfl (v_ldc dX12_isMissing_6 tw686 (v_icmp_ne (tgt := 15) dX12_isMissing_8 (by decide) (fun c2 => ?_) (fun c2 => ?_)))
  · replace h := ite_f c2 h
    refine v_iconst dX12_isMissing_15 rfl ?_
    replace h := Option.some.inj h
    subst h
    exact v_zret dX12_isMissing_16 rfl (by decide) rfl rfl rfl rfl
  · replace h := ite_t c2 h
    refine v_iconst dX12_isMissing_11 rfl (v_goto (tgt := 16) dX12_isMissing_12 (by decide) ?_)
    replace h := Option.some.inj h
    subst h
    exact v_zret dX12_isMissing_16 rfl (by decide) rfl rfl rfl rfl
def fM_cut (x0 : Int32) (x1 : Int32) (σ : Sg) : Option Int32 := if x0 = 0 then some ((x1 <<< (24 &&& 31)) >>> (24 &&& 31)) else if x0 = 1 then some ((x1 <<< (16 &&& 31)) >>> (16 &&& 31)) else some x1
set_option maxRecDepth 100000 in
set_option maxHeartbeats 4000000 in
theorem eM_cut {G : Gx} (x0 : Int32) (x1 : Int32) (σ : Sg) (q : Int32) (h : fM_cut x0 x1 σ = some q) : Evm G yX12_cut MX12_cut [.int x0, .int x1] σ (some (.int q)) σ := by
  refine Ev.of (by decide +kernel) rfl rfl (Nat.le_of_ble_eq_true rfl) ?_
  show Vm G MX12_cut (some (.int q)) σ 0 [(0, .int x0), (1, .int x1)] [] σ
  unfold fM_cut at h
  refine v_iload_n dX12_cut_0 0 rfl rfl (v_if_ne (tgt := 14) dX12_cut_1 (by decide) (fun c1 => ?_) (fun c1 => ?_))
  · replace h := ite_f c1 h
    refine v_iload_n dX12_cut_14 0 rfl rfl (v_iconst dX12_cut_15 rfl (v_icmp_ne (tgt := 29) dX12_cut_16 (by decide) (fun c2 => ?_) (fun c2 => ?_)))
    · replace h := ite_f c2 h
      refine v_iload_n dX12_cut_29 1 rfl rfl ?_
      replace h := Option.some.inj h
      subst h
      exact v_iret dX12_cut_30 rfl rfl rfl rfl rfl
    · replace h := ite_t c2 h
      refine v_iload_n dX12_cut_19 1 rfl rfl (v_bipush (v := 16) dX12_cut_20 rfl (v_ishl dX12_cut_22 (v_bipush (v := 16) dX12_cut_23 rfl (v_ishr dX12_cut_25 (v_goto (tgt := 30) dX12_cut_26 (by decide) ?_)))))
      replace h := Option.some.inj h
      subst h
      exact v_iret dX12_cut_30 rfl rfl rfl rfl rfl
  · replace h := ite_t c1 h
    refine v_iload_n dX12_cut_4 1 rfl rfl (v_bipush (v := 24) dX12_cut_5 rfl (v_ishl dX12_cut_7 (v_bipush (v := 24) dX12_cut_8 rfl (v_ishr dX12_cut_10 (v_goto (tgt := 30) dX12_cut_11 (by decide) ?_)))))
    replace h := Option.some.inj h
    subst h
    exact v_iret dX12_cut_30 rfl rfl rfl rfl rfl
def fM_row_b52 (K52 : Int32 → Int32 → Int32 → Sg → Option (Int32 × Sg)) (x1 : Int32) (x3 : Int32) (x4 : Int32) (σ : Sg) : Option (Int32 × Sg) := if (40 : Int32) ≤ x4 then ((fM_well x3 σ).bind fun q12 => some (q12.1, q12.2)) else if inb ((40 * x1) + x4) 320 = true then ltc (wr σ 203 (ix ((40 * x1) + x4)) 0) fun σ14 => K52 x1 x3 (x4 + 1) σ14 else none
def fM_row_L52 (n : Nat) : Int32 → Int32 → Int32 → Sg → Option (Int32 × Sg) := Nat.rec (fun _ _ _ _ => none) (fun _ K => fM_row_b52 K) n
set_option maxRecDepth 100000 in
set_option maxHeartbeats 4000000 in
theorem sM_row_b52 {G : Gx} {q : (Int32 × Sg)} (K52 : Int32 → Int32 → Int32 → Sg → Option (Int32 × Sg)) (hK52 : ∀ (x1 : Int32) (x3 : Int32) (x4 : Int32) (σ : Sg), K52 x1 x3 x4 σ = some q → Vm G MX12_row (some (.int q.1)) q.2 52 [(0, .ref (gb G + 200)), (1, .int x1), (3, .int x3), (4, .int x4)] [] σ) (x1 : Int32) (x3 : Int32) (x4 : Int32) (σ : Sg) (h : fM_row_b52 K52 x1 x3 x4 σ = some q) : Vm G MX12_row (some (.int q.1)) q.2 52 [(0, .ref (gb G + 200)), (1, .int x1), (3, .int x3), (4, .int x4)] [] σ := by
  unfold fM_row_b52 at h
  refine v_iload dX12_row_52 3 rfl (v_bipush (v := 40) dX12_row_54 rfl (v_icmp_ge (tgt := 78) dX12_row_56 (by decide) (fun c11 => ?_) (fun c11 => ?_)))
  · replace h := ite_t c11 h
    refine v_aload_n dX12_row_78 0 rfl rfl (v_iload_n dX12_row_79 2 rfl rfl ?_)
    obtain ⟨q12, hq12, h⟩ := bind_some h
    refine v_callV (As := [.int x3]) (S := []) dX12_row_80 tw770 tw772 tw17 ykX12_well lc_200 shc_200 (by decide) ok_11 rfl (by decide) rfl rfl (Nat.le_of_ble_eq_true rfl) (by decide) (eM_well x3 _ _ hq12) ?_
    replace h := Option.some.inj h
    subst h
    exact v_iret dX12_row_83 rfl rfl rfl rfl rfl
  · replace h := ite_f c11 h
    refine v_aload_n dX12_row_59 0 rfl rfl (vm_getR (t := 203) dX12_row_60 fsX12_16 lc_200 shc_200 (by decide) rf_200_2 (v_bipush (v := 40) dX12_row_63 rfl (v_iload_n dX12_row_65 1 rfl rfl (v_imul dX12_row_66 (v_iload dX12_row_67 3 rfl (v_iadd dX12_row_69 (v_iconst dX12_row_70 rfl ?_)))))))
    obtain ⟨g13, h⟩ := guard_some h
    obtain ⟨σ14, eσ14, h⟩ := ltc_some h
    exact vn_iast dX12_row_71 lc_203 sha_203 g13 rfl eσ14 (v_iinc (v := x4 + 1) dX12_row_72 3 rfl rfl [0, 1, 2, 3] rfl (by decide) (v_goto (tgt := 52) dX12_row_75 (by decide) (v_sub [1, 2, 3, 0] rfl (hK52 x1 x3 (x4 + 1) _ h))))
theorem sM_row_L52 {G : Gx} {q : (Int32 × Sg)} (n : Nat) : ∀ (x1 : Int32) (x3 : Int32) (x4 : Int32) (σ : Sg) (h : fM_row_L52 n x1 x3 x4 σ = some q), Vm G MX12_row (some (.int q.1)) q.2 52 [(0, .ref (gb G + 200)), (1, .int x1), (3, .int x3), (4, .int x4)] [] σ := by
  induction n with
  | zero => intro x1 x3 x4 σ h; cases h
  | succ n ih => intro x1 x3 x4 σ h; exact sM_row_b52  _ ih x1 x3 x4 σ h
def fM_row (x1 : Int32) (x2 : Int32) (x3 : Int32) (σ : Sg) : Option (Int32 × Sg) := (fM_isRow x1 σ).bind fun q1 => if q1 = 0 then some ((-1000001), σ) else (fM_in x2 0 2 σ).bind fun q3 => if q3 = 0 then some ((-1000001), σ) else if x3 ≤ 40 then (if (0 : Int32) ≤ x3 then (if inb x1 8 = true then ltc (wr σ 201 (ix x1) x2) fun σ8 => ltc (wr σ8 202 (ix x1) x3) fun σ9 => fM_row_L52 2000 x1 x3 0 σ9 else none) else (fM_found 4 σ).bind fun q10 => some (q10.1, q10.2)) else some ((-1000001), σ)
set_option maxRecDepth 100000 in
set_option maxHeartbeats 4000000 in
theorem eM_row {G : Gx} (x1 : Int32) (x2 : Int32) (x3 : Int32) (σ : Sg) (q : (Int32 × Sg)) (h : fM_row x1 x2 x3 σ = some q) : Evm G yX12_row MX12_row [.ref (gb G + 200), .int x1, .int x2, .int x3] σ (some (.int q.1)) q.2 := by
  refine Ev.of (by decide +kernel) rfl rfl (Nat.le_of_ble_eq_true rfl) ?_
  show Vm G MX12_row (some (.int q.1)) q.2 0 [(0, .ref (gb G + 200)), (1, .int x1), (2, .int x2), (3, .int x3)] [] σ
  unfold fM_row at h
  refine v_iload_n dX12_row_0 1 rfl rfl ?_
  obtain ⟨q1, hq1, h⟩ := bind_some h
  refine v_callS (As := [.int x1]) (S := []) dX12_row_1 tw758 tw759 ykX12_isRow rfl (by decide) rfl rfl (Nat.le_of_ble_eq_true rfl) (by decide) (eM_isRow x1 _ _ hq1) ?_
  refine v_if_eq (tgt := 22) dX12_row_4 (by decide) (fun c2 => ?_) (fun c2 => ?_)
  · replace h := ite_t c2 h
    refine v_ldc dX12_row_22 tw764 ?_
    replace h := Option.some.inj h
    subst h
    exact v_iret dX12_row_24 rfl rfl rfl rfl rfl
  · replace h := ite_f c2 h
    refine v_iload_n dX12_row_7 2 rfl rfl (v_iconst dX12_row_8 rfl (v_iconst dX12_row_9 rfl ?_))
    obtain ⟨q3, hq3, h⟩ := bind_some h
    refine v_callS (As := [.int x2, .int 0, .int 2]) (S := []) dX12_row_10 tw761 tw762 ykX12_in rfl (by decide) rfl rfl (Nat.le_of_ble_eq_true rfl) (by decide) (eM_in x2 0 2 _ _ hq3) ?_
    refine v_if_eq (tgt := 22) dX12_row_13 (by decide) (fun c4 => ?_) (fun c4 => ?_)
    · replace h := ite_t c4 h
      refine v_ldc dX12_row_22 tw764 ?_
      replace h := Option.some.inj h
      subst h
      exact v_iret dX12_row_24 rfl rfl rfl rfl rfl
    · replace h := ite_f c4 h
      refine v_iload_n dX12_row_16 3 rfl rfl (v_bipush (v := 40) dX12_row_17 rfl (v_icmp_le (tgt := 25) dX12_row_19 (by decide) (fun c5 => ?_) (fun c5 => ?_)))
      · replace h := ite_t c5 h
        refine v_iload_n dX12_row_25 3 rfl rfl (v_if_ge (tgt := 35) dX12_row_26 (by decide) (fun c6 => ?_) (fun c6 => ?_))
        · replace h := ite_t c6 h
          refine v_aload_n dX12_row_35 0 rfl rfl (vm_getR (t := 201) dX12_row_36 fsX12_7 lc_200 shc_200 (by decide) rf_200_0 (v_iload_n dX12_row_39 1 rfl rfl (v_iload_n dX12_row_40 2 rfl rfl ?_)))
          obtain ⟨g7, h⟩ := guard_some h
          obtain ⟨σ8, eσ8, h⟩ := ltc_some h
          refine vn_iast dX12_row_41 lc_201 sha_201 g7 rfl eσ8 (v_aload_n dX12_row_42 0 rfl rfl (vm_getR (t := 202) dX12_row_43 fsX12_13 lc_200 shc_200 (by decide) rf_200_1 (v_iload_n dX12_row_46 1 rfl rfl (v_iload_n dX12_row_47 3 rfl rfl ?_))))
          obtain ⟨σ9, eσ9, h⟩ := ltc_some h
          exact vn_iast dX12_row_48 lc_202 sha_202 g7 rfl eσ9 (v_iconst dX12_row_49 rfl (v_istore dX12_row_50 [0, 1, 2, 4] rfl (by decide) (v_sub [1, 2, 3, 0] rfl (sM_row_L52 2000 x1 x3 0 _ h))))
        · replace h := ite_f c6 h
          refine v_aload_n dX12_row_29 0 rfl rfl (v_iconst dX12_row_30 rfl ?_)
          obtain ⟨q10, hq10, h⟩ := bind_some h
          refine v_callV (As := [.int 4]) (S := []) dX12_row_31 tw765 tw767 tw16 ykX12_found lc_200 shc_200 (by decide) ok_11 rfl (by decide) rfl rfl (Nat.le_of_ble_eq_true rfl) (by decide) (eM_found 4 _ _ hq10) ?_
          replace h := Option.some.inj h
          subst h
          exact v_iret dX12_row_34 rfl rfl rfl rfl rfl
      · replace h := ite_f c5 h
        refine v_ldc dX12_row_22 tw764 ?_
        replace h := Option.some.inj h
        subst h
        exact v_iret dX12_row_24 rfl rfl rfl rfl rfl
def fM_set (x1 : Int32) (x2 : Int32) (x3 : Int32) (σ : Sg) : Option (Int32 × Sg) := (fM_isRow x1 σ).bind fun q1 => if q1 = 0 then some ((-1000001), σ) else (fM_isMissing x1 σ).bind fun q3 => if q3 = 0 then (if inb x1 8 = true then (fM_in x2 0 ((σ 202 (ix x1)) - 1) σ).bind fun q6 => if q6 = 0 then ((fM_found 2 σ).bind fun q12 => some (q12.1, q12.2)) else (fM_cut (σ 201 (ix x1)) x3 σ).bind fun q8 => if inb ((40 * x1) + x2) 320 = true then ltc (wr σ 203 (ix ((40 * x1) + x2)) q8) fun σ10 => (fM_well (σ10 203 (ix ((40 * x1) + x2))) σ10).bind fun q11 => some (q11.1, q11.2) else none else none) else (fM_found 1 σ).bind fun q13 => some (q13.1, q13.2)
set_option maxRecDepth 100000 in
set_option maxHeartbeats 4000000 in
theorem eM_set {G : Gx} (x1 : Int32) (x2 : Int32) (x3 : Int32) (σ : Sg) (q : (Int32 × Sg)) (h : fM_set x1 x2 x3 σ = some q) : Evm G yX12_set MX12_set [.ref (gb G + 200), .int x1, .int x2, .int x3] σ (some (.int q.1)) q.2 := by
  refine Ev.of (by decide +kernel) rfl rfl (Nat.le_of_ble_eq_true rfl) ?_
  show Vm G MX12_set (some (.int q.1)) q.2 0 [(0, .ref (gb G + 200)), (1, .int x1), (2, .int x2), (3, .int x3)] [] σ
  unfold fM_set at h
  refine v_iload_n dX12_set_0 1 rfl rfl ?_
  obtain ⟨q1, hq1, h⟩ := bind_some h
  refine v_callS (As := [.int x1]) (S := []) dX12_set_1 tw758 tw759 ykX12_isRow rfl (by decide) rfl rfl (Nat.le_of_ble_eq_true rfl) (by decide) (eM_isRow x1 _ _ hq1) ?_
  refine v_if_ne (tgt := 10) dX12_set_4 (by decide) (fun c2 => ?_) (fun c2 => ?_)
  · replace h := ite_f c2 h
    refine v_aload_n dX12_set_10 0 rfl rfl (v_iload_n dX12_set_11 1 rfl rfl ?_)
    obtain ⟨q3, hq3, h⟩ := bind_some h
    refine v_callV (As := [.int x1]) (S := []) dX12_set_12 tw778 tw780 tw18 ykX12_isMissing lc_200 shc_200 (by decide) ok_11 rfl (by decide) rfl rfl (Nat.le_of_ble_eq_true rfl) (by decide) (eM_isMissing x1 _ _ hq3) ?_
    refine v_if_eq (tgt := 24) dX12_set_15 (by decide) (fun c4 => ?_) (fun c4 => ?_)
    · replace h := ite_t c4 h
      refine v_iload_n dX12_set_24 2 rfl rfl (v_iconst dX12_set_25 rfl (v_aload_n dX12_set_26 0 rfl rfl (vm_getR (t := 202) dX12_set_27 fsX12_13 lc_200 shc_200 (by decide) rf_200_1 (v_iload_n dX12_set_30 1 rfl rfl ?_))))
      obtain ⟨g5, h⟩ := guard_some h
      refine vn_iald dX12_set_31 lc_202 sha_202 g5 rfl (v_iconst dX12_set_32 rfl (v_isub dX12_set_33 ?_))
      obtain ⟨q6, hq6, h⟩ := bind_some h
      refine v_callS (As := [.int x2, .int 0, .int ((σ 202 (ix x1)) - 1)]) (S := []) dX12_set_34 tw761 tw762 ykX12_in rfl (by decide) rfl rfl (Nat.le_of_ble_eq_true rfl) (by decide) (eM_in x2 0 ((σ 202 (ix x1)) - 1) _ _ hq6) ?_
      refine v_if_ne (tgt := 46) dX12_set_37 (by decide) (fun c7 => ?_) (fun c7 => ?_)
      · replace h := ite_f c7 h
        refine v_aload_n dX12_set_46 0 rfl rfl (vm_getR (t := 203) dX12_set_47 fsX12_16 lc_200 shc_200 (by decide) rf_200_2 (v_bipush (v := 40) dX12_set_50 rfl (v_iload_n dX12_set_52 1 rfl rfl (v_imul dX12_set_53 (v_iload_n dX12_set_54 2 rfl rfl (v_iadd dX12_set_55 (v_aload_n dX12_set_56 0 rfl rfl (vm_getR (t := 201) dX12_set_57 fsX12_7 lc_200 shc_200 (by decide) rf_200_0 (v_iload_n dX12_set_60 1 rfl rfl ?_)))))))))
        refine vn_iald dX12_set_61 lc_201 sha_201 g5 rfl (v_iload_n dX12_set_62 3 rfl rfl ?_)
        obtain ⟨q8, hq8, h⟩ := bind_some h
        refine v_callS (As := [.int (σ 201 (ix x1)), .int x3]) (S := [.int ((40 * x1) + x2), .ref (gb G + 203)]) dX12_set_63 tw782 tw783 ykX12_cut rfl (by decide) rfl rfl (Nat.le_of_ble_eq_true rfl) (by decide) (eM_cut (σ 201 (ix x1)) x3 _ _ hq8) ?_
        obtain ⟨g9, h⟩ := guard_some h
        obtain ⟨σ10, eσ10, h⟩ := ltc_some h
        refine vn_iast dX12_set_66 lc_203 sha_203 g9 rfl eσ10 (v_aload_n dX12_set_67 0 rfl rfl (v_aload_n dX12_set_68 0 rfl rfl (vm_getR (t := 203) dX12_set_69 fsX12_16 lc_200 shc_200 (by decide) rf_200_2 (v_bipush (v := 40) dX12_set_72 rfl (v_iload_n dX12_set_74 1 rfl rfl (v_imul dX12_set_75 (v_iload_n dX12_set_76 2 rfl rfl (v_iadd dX12_set_77 (vn_iald dX12_set_78 lc_203 sha_203 g9 rfl ?_)))))))))
        obtain ⟨q11, hq11, h⟩ := bind_some h
        refine v_callV (As := [.int (σ10 203 (ix ((40 * x1) + x2)))]) (S := []) dX12_set_79 tw770 tw772 tw17 ykX12_well lc_200 shc_200 (by decide) ok_11 rfl (by decide) rfl rfl (Nat.le_of_ble_eq_true rfl) (by decide) (eM_well (σ10 203 (ix ((40 * x1) + x2))) _ _ hq11) ?_
        replace h := Option.some.inj h
        subst h
        exact v_iret dX12_set_82 rfl rfl rfl rfl rfl
      · replace h := ite_t c7 h
        refine v_aload_n dX12_set_40 0 rfl rfl (v_iconst dX12_set_41 rfl ?_)
        obtain ⟨q12, hq12, h⟩ := bind_some h
        refine v_callV (As := [.int 2]) (S := []) dX12_set_42 tw765 tw767 tw16 ykX12_found lc_200 shc_200 (by decide) ok_11 rfl (by decide) rfl rfl (Nat.le_of_ble_eq_true rfl) (by decide) (eM_found 2 _ _ hq12) ?_
        replace h := Option.some.inj h
        subst h
        exact v_iret dX12_set_45 rfl rfl rfl rfl rfl
    · replace h := ite_f c4 h
      refine v_aload_n dX12_set_18 0 rfl rfl (v_iconst dX12_set_19 rfl ?_)
      obtain ⟨q13, hq13, h⟩ := bind_some h
      refine v_callV (As := [.int 1]) (S := []) dX12_set_20 tw765 tw767 tw16 ykX12_found lc_200 shc_200 (by decide) ok_11 rfl (by decide) rfl rfl (Nat.le_of_ble_eq_true rfl) (by decide) (eM_found 1 _ _ hq13) ?_
      replace h := Option.some.inj h
      subst h
      exact v_iret dX12_set_23 rfl rfl rfl rfl rfl
  · replace h := ite_t c2 h
    refine v_ldc dX12_set_7 tw764 ?_
    replace h := Option.some.inj h
    subst h
    exact v_iret dX12_set_9 rfl rfl rfl rfl rfl
def fM_isPart (x1 : Int32) (x2 : Int32) (x3 : Int32) (σ : Sg) : Option Int32 := if x2 < 0 then some 0 else if x3 < 0 then some 0 else if inb x1 8 = true then if (σ 202 (ix x1)) < x2 then some 0 else if ((σ 202 (ix x1)) - x2) < x3 then some 0 else some 1 else none
set_option maxRecDepth 100000 in
set_option maxHeartbeats 4000000 in
theorem eM_isPart {G : Gx} (x1 : Int32) (x2 : Int32) (x3 : Int32) (σ : Sg) (q : Int32) (h : fM_isPart x1 x2 x3 σ = some q) : Evm G yX12_isPart MX12_isPart [.ref (gb G + 200), .int x1, .int x2, .int x3] σ (some (.int q)) σ := by
  refine Ev.of (by decide +kernel) rfl rfl (Nat.le_of_ble_eq_true rfl) ?_
  show Vm G MX12_isPart (some (.int q)) σ 0 [(0, .ref (gb G + 200)), (1, .int x1), (2, .int x2), (3, .int x3)] [] σ
  unfold fM_isPart at h
  refine v_iload_n dX12_isPart_0 2 rfl rfl (v_if_lt (tgt := 34) dX12_isPart_1 (by decide) (fun c1 => ?_) (fun c1 => ?_))
  · replace h := ite_t c1 h
    refine v_iconst dX12_isPart_34 rfl ?_
    replace h := Option.some.inj h
    subst h
    exact v_zret dX12_isPart_35 rfl (by decide) rfl rfl rfl rfl
  · replace h := ite_f c1 h
    refine v_iload_n dX12_isPart_4 3 rfl rfl (v_if_lt (tgt := 34) dX12_isPart_5 (by decide) (fun c2 => ?_) (fun c2 => ?_))
    · replace h := ite_t c2 h
      refine v_iconst dX12_isPart_34 rfl ?_
      replace h := Option.some.inj h
      subst h
      exact v_zret dX12_isPart_35 rfl (by decide) rfl rfl rfl rfl
    · replace h := ite_f c2 h
      refine v_iload_n dX12_isPart_8 2 rfl rfl (v_aload_n dX12_isPart_9 0 rfl rfl (vm_getR (t := 202) dX12_isPart_10 fsX12_13 lc_200 shc_200 (by decide) rf_200_1 (v_iload_n dX12_isPart_13 1 rfl rfl ?_)))
      obtain ⟨g3, h⟩ := guard_some h
      refine vn_iald dX12_isPart_14 lc_202 sha_202 g3 rfl (v_icmp_gt (tgt := 34) dX12_isPart_15 (by decide) (fun c4 => ?_) (fun c4 => ?_))
      · replace h := ite_t c4 h
        refine v_iconst dX12_isPart_34 rfl ?_
        replace h := Option.some.inj h
        subst h
        exact v_zret dX12_isPart_35 rfl (by decide) rfl rfl rfl rfl
      · replace h := ite_f c4 h
        refine v_iload_n dX12_isPart_18 3 rfl rfl (v_aload_n dX12_isPart_19 0 rfl rfl (vm_getR (t := 202) dX12_isPart_20 fsX12_13 lc_200 shc_200 (by decide) rf_200_1 (v_iload_n dX12_isPart_23 1 rfl rfl (vn_iald dX12_isPart_24 lc_202 sha_202 g3 rfl (v_iload_n dX12_isPart_25 2 rfl rfl (v_isub dX12_isPart_26 (v_icmp_gt (tgt := 34) dX12_isPart_27 (by decide) (fun c5 => ?_) (fun c5 => ?_))))))))
        · replace h := ite_t c5 h
          refine v_iconst dX12_isPart_34 rfl ?_
          replace h := Option.some.inj h
          subst h
          exact v_zret dX12_isPart_35 rfl (by decide) rfl rfl rfl rfl
        · replace h := ite_f c5 h
          refine v_iconst dX12_isPart_30 rfl (v_goto (tgt := 35) dX12_isPart_31 (by decide) ?_)
          replace h := Option.some.inj h
          subst h
          exact v_zret dX12_isPart_35 rfl (by decide) rfl rfl rfl rfl
def fM_copy_B33 (σ : Sg) : Option (Int32 × Sg) := (fM_found 1 σ).bind fun q17 => some (q17.1, q17.2)
set_option maxRecDepth 100000 in
set_option maxHeartbeats 4000000 in
theorem sM_copy_B33 {G : Gx} {q : (Int32 × Sg)} (σ : Sg) (h : fM_copy_B33 σ = some q) : Vm G MX12_copy (some (.int q.1)) q.2 33 [(0, .ref (gb G + 200))] [] σ := by
  unfold fM_copy_B33 at h
  refine v_aload_n dX12_copy_33 0 rfl rfl (v_iconst dX12_copy_34 rfl ?_)
  obtain ⟨q17, hq17, h⟩ := bind_some h
  refine v_callV (As := [.int 1]) (S := []) dX12_copy_35 tw765 tw767 tw16 ykX12_found lc_200 shc_200 (by decide) ok_11 rfl (by decide) rfl rfl (Nat.le_of_ble_eq_true rfl) (by decide) (eM_found 1 _ _ hq17) ?_
  replace h := Option.some.inj h
  subst h
  exact v_iret dX12_copy_38 rfl rfl rfl rfl rfl
def fM_copy_B83 (σ : Sg) : Option (Int32 × Sg) := (fM_found 2 σ).bind fun q18 => some (q18.1, q18.2)
set_option maxRecDepth 100000 in
set_option maxHeartbeats 4000000 in
theorem sM_copy_B83 {G : Gx} {q : (Int32 × Sg)} (σ : Sg) (h : fM_copy_B83 σ = some q) : Vm G MX12_copy (some (.int q.1)) q.2 83 [(0, .ref (gb G + 200))] [] σ := by
  unfold fM_copy_B83 at h
  refine v_aload_n dX12_copy_83 0 rfl rfl (v_iconst dX12_copy_84 rfl ?_)
  obtain ⟨q18, hq18, h⟩ := bind_some h
  refine v_callV (As := [.int 2]) (S := []) dX12_copy_85 tw765 tw767 tw16 ykX12_found lc_200 shc_200 (by decide) ok_11 rfl (by decide) rfl rfl (Nat.le_of_ble_eq_true rfl) (by decide) (eM_found 2 _ _ hq18) ?_
  replace h := Option.some.inj h
  subst h
  exact v_iret dX12_copy_88 rfl rfl rfl rfl rfl
def fM_copy_b129 (K129 : Int32 → Int32 → Int32 → Int32 → Sg → Option (Int32 × Sg)) (x3 : Int32) (x4 : Int32) (x5 : Int32) (x6 : Int32) (σ : Sg) : Option (Int32 × Sg) := if x5 ≤ x6 then ((fM_well x5 σ).bind fun q24 => some (q24.1, q24.2)) else if inb x6 40 = true then if inb (((40 * x3) + x4) + x6) 320 = true then ltc (wr σ 203 (ix (((40 * x3) + x4) + x6)) (σ 204 (ix x6))) fun σ27 => K129 x3 x4 x5 (x6 + 1) σ27 else none else none
def fM_copy_L129 (n : Nat) : Int32 → Int32 → Int32 → Int32 → Sg → Option (Int32 × Sg) := Nat.rec (fun _ _ _ _ _ => none) (fun _ K => fM_copy_b129 K) n
set_option maxRecDepth 100000 in
set_option maxHeartbeats 4000000 in
theorem sM_copy_b129 {G : Gx} {q : (Int32 × Sg)} (K129 : Int32 → Int32 → Int32 → Int32 → Sg → Option (Int32 × Sg)) (hK129 : ∀ (x3 : Int32) (x4 : Int32) (x5 : Int32) (x6 : Int32) (σ : Sg), K129 x3 x4 x5 x6 σ = some q → Vm G MX12_copy (some (.int q.1)) q.2 129 [(0, .ref (gb G + 200)), (3, .int x3), (4, .int x4), (5, .int x5), (6, .int x6)] [] σ) (x3 : Int32) (x4 : Int32) (x5 : Int32) (x6 : Int32) (σ : Sg) (h : fM_copy_b129 K129 x3 x4 x5 x6 σ = some q) : Vm G MX12_copy (some (.int q.1)) q.2 129 [(0, .ref (gb G + 200)), (3, .int x3), (4, .int x4), (5, .int x5), (6, .int x6)] [] σ := by
  unfold fM_copy_b129 at h
  refine v_iload dX12_copy_129 4 rfl (v_iload dX12_copy_131 3 rfl (v_icmp_ge (tgt := 164) dX12_copy_133 (by decide) (fun c23 => ?_) (fun c23 => ?_)))
  · replace h := ite_t c23 h
    refine v_aload_n dX12_copy_164 0 rfl rfl (v_iload dX12_copy_165 3 rfl ?_)
    obtain ⟨q24, hq24, h⟩ := bind_some h
    refine v_callV (As := [.int x5]) (S := []) dX12_copy_167 tw770 tw772 tw17 ykX12_well lc_200 shc_200 (by decide) ok_11 rfl (by decide) rfl rfl (Nat.le_of_ble_eq_true rfl) (by decide) (eM_well x5 _ _ hq24) ?_
    replace h := Option.some.inj h
    subst h
    exact v_iret dX12_copy_170 rfl rfl rfl rfl rfl
  · replace h := ite_f c23 h
    refine v_aload_n dX12_copy_136 0 rfl rfl (vm_getR (t := 203) dX12_copy_137 fsX12_16 lc_200 shc_200 (by decide) rf_200_2 (v_bipush (v := 40) dX12_copy_140 rfl (v_iload_n dX12_copy_142 1 rfl rfl (v_imul dX12_copy_143 (v_iload dX12_copy_144 2 rfl (v_iadd dX12_copy_146 (v_iload dX12_copy_147 4 rfl (v_iadd dX12_copy_149 (v_aload_n dX12_copy_150 0 rfl rfl ?_)))))))))
    refine vm_getR (t := 204) dX12_copy_151 fsX12_19 lc_200 shc_200 (by decide) rf_200_3 (v_iload dX12_copy_154 4 rfl ?_)
    obtain ⟨g25, h⟩ := guard_some h
    refine vn_iald dX12_copy_156 lc_204 sha_204 g25 rfl ?_
    obtain ⟨g26, h⟩ := guard_some h
    obtain ⟨σ27, eσ27, h⟩ := ltc_some h
    exact vn_iast dX12_copy_157 lc_203 sha_203 g26 rfl eσ27 (v_iinc (v := x6 + 1) dX12_copy_158 4 rfl rfl [0, 1, 2, 3, 4] rfl (by decide) (v_goto (tgt := 129) dX12_copy_161 (by decide) (v_sub [1, 2, 3, 4, 0] rfl (hK129 x3 x4 x5 (x6 + 1) _ h))))
theorem sM_copy_L129 {G : Gx} {q : (Int32 × Sg)} (n : Nat) : ∀ (x3 : Int32) (x4 : Int32) (x5 : Int32) (x6 : Int32) (σ : Sg) (h : fM_copy_L129 n x3 x4 x5 x6 σ = some q), Vm G MX12_copy (some (.int q.1)) q.2 129 [(0, .ref (gb G + 200)), (3, .int x3), (4, .int x4), (5, .int x5), (6, .int x6)] [] σ := by
  induction n with
  | zero => intro x3 x4 x5 x6 σ h; cases h
  | succ n ih => intro x3 x4 x5 x6 σ h; exact sM_copy_b129  _ ih x3 x4 x5 x6 σ h
def fM_copy_b92 (K92 : Int32 → Int32 → Int32 → Int32 → Int32 → Int32 → Sg → Option (Int32 × Sg)) (x1 : Int32) (x2 : Int32) (x3 : Int32) (x4 : Int32) (x5 : Int32) (x6 : Int32) (σ : Sg) : Option (Int32 × Sg) := if x5 ≤ x6 then fM_copy_L129 2000 x3 x4 x5 0 σ else if inb (((40 * x1) + x2) + x6) 320 = true then if inb x6 40 = true then ltc (wr σ 204 (ix x6) (σ 203 (ix (((40 * x1) + x2) + x6)))) fun σ22 => K92 x1 x2 x3 x4 x5 (x6 + 1) σ22 else none else none
def fM_copy_L92 (n : Nat) : Int32 → Int32 → Int32 → Int32 → Int32 → Int32 → Sg → Option (Int32 × Sg) := Nat.rec (fun _ _ _ _ _ _ _ => none) (fun _ K => fM_copy_b92 K) n
set_option maxRecDepth 100000 in
set_option maxHeartbeats 4000000 in
theorem sM_copy_b92 {G : Gx} {q : (Int32 × Sg)} (K92 : Int32 → Int32 → Int32 → Int32 → Int32 → Int32 → Sg → Option (Int32 × Sg)) (hK92 : ∀ (x1 : Int32) (x2 : Int32) (x3 : Int32) (x4 : Int32) (x5 : Int32) (x6 : Int32) (σ : Sg), K92 x1 x2 x3 x4 x5 x6 σ = some q → Vm G MX12_copy (some (.int q.1)) q.2 92 [(0, .ref (gb G + 200)), (1, .int x1), (2, .int x2), (3, .int x3), (4, .int x4), (5, .int x5), (6, .int x6)] [] σ) (x1 : Int32) (x2 : Int32) (x3 : Int32) (x4 : Int32) (x5 : Int32) (x6 : Int32) (σ : Sg) (h : fM_copy_b92 K92 x1 x2 x3 x4 x5 x6 σ = some q) : Vm G MX12_copy (some (.int q.1)) q.2 92 [(0, .ref (gb G + 200)), (1, .int x1), (2, .int x2), (3, .int x3), (4, .int x4), (5, .int x5), (6, .int x6)] [] σ := by
  unfold fM_copy_b92 at h
  refine v_iload dX12_copy_92 6 rfl (v_iload dX12_copy_94 5 rfl (v_icmp_ge (tgt := 126) dX12_copy_96 (by decide) (fun c19 => ?_) (fun c19 => ?_)))
  · replace h := ite_t c19 h
    exact v_iconst dX12_copy_126 rfl (v_istore dX12_copy_127 [0, 1, 4, 5, 6] rfl (by decide) (v_sub [1, 2, 3, 4, 0] rfl (sM_copy_L129 2000 x3 x4 x5 0 _ h)))
  · replace h := ite_f c19 h
    refine v_aload_n dX12_copy_99 0 rfl rfl (vm_getR (t := 204) dX12_copy_100 fsX12_19 lc_200 shc_200 (by decide) rf_200_3 (v_iload dX12_copy_103 6 rfl (v_aload_n dX12_copy_105 0 rfl rfl (vm_getR (t := 203) dX12_copy_106 fsX12_16 lc_200 shc_200 (by decide) rf_200_2 (v_bipush (v := 40) dX12_copy_109 rfl (v_iload_n dX12_copy_111 1 rfl rfl (v_imul dX12_copy_112 (v_iload_n dX12_copy_113 2 rfl rfl (v_iadd dX12_copy_114 ?_)))))))))
    refine v_iload dX12_copy_115 6 rfl (v_iadd dX12_copy_117 ?_)
    obtain ⟨g20, h⟩ := guard_some h
    refine vn_iald dX12_copy_118 lc_203 sha_203 g20 rfl ?_
    obtain ⟨g21, h⟩ := guard_some h
    obtain ⟨σ22, eσ22, h⟩ := ltc_some h
    exact vn_iast dX12_copy_119 lc_204 sha_204 g21 rfl eσ22 (v_iinc (v := x6 + 1) dX12_copy_120 6 rfl rfl [0, 1, 2, 3, 4, 5, 6] rfl (by decide) (v_goto (tgt := 92) dX12_copy_123 (by decide) (v_sub [1, 2, 3, 4, 5, 6, 0] rfl (hK92 x1 x2 x3 x4 x5 (x6 + 1) _ h))))
theorem sM_copy_L92 {G : Gx} {q : (Int32 × Sg)} (n : Nat) : ∀ (x1 : Int32) (x2 : Int32) (x3 : Int32) (x4 : Int32) (x5 : Int32) (x6 : Int32) (σ : Sg) (h : fM_copy_L92 n x1 x2 x3 x4 x5 x6 σ = some q), Vm G MX12_copy (some (.int q.1)) q.2 92 [(0, .ref (gb G + 200)), (1, .int x1), (2, .int x2), (3, .int x3), (4, .int x4), (5, .int x5), (6, .int x6)] [] σ := by
  induction n with
  | zero => intro x1 x2 x3 x4 x5 x6 σ h; cases h
  | succ n ih => intro x1 x2 x3 x4 x5 x6 σ h; exact sM_copy_b92  _ ih x1 x2 x3 x4 x5 x6 σ h
def fM_copy (x1 : Int32) (x2 : Int32) (x3 : Int32) (x4 : Int32) (x5 : Int32) (σ : Sg) : Option (Int32 × Sg) := (fM_isRow x1 σ).bind fun q1 => if q1 = 0 then some ((-1000001), σ) else (fM_isRow x3 σ).bind fun q3 => if q3 = 0 then some ((-1000001), σ) else (fM_isMissing x1 σ).bind fun q5 => if q5 = 0 then ((fM_isMissing x3 σ).bind fun q7 => if q7 = 0 then (if inb x1 8 = true then if inb x3 8 = true then if (σ 201 (ix x1)) = (σ 201 (ix x3)) then ((fM_isPart x1 x2 x5 σ).bind fun q12 => if q12 = 0 then fM_copy_B83 σ else (fM_isPart x3 x4 x5 σ).bind fun q14 => if q14 = 0 then fM_copy_B83 σ else fM_copy_L92 2000 x1 x2 x3 x4 x5 0 σ) else (fM_found 5 σ).bind fun q16 => some (q16.1, q16.2) else none else none) else fM_copy_B33 σ) else fM_copy_B33 σ
set_option maxRecDepth 100000 in
set_option maxHeartbeats 4000000 in
theorem eM_copy {G : Gx} (x1 : Int32) (x2 : Int32) (x3 : Int32) (x4 : Int32) (x5 : Int32) (σ : Sg) (q : (Int32 × Sg)) (h : fM_copy x1 x2 x3 x4 x5 σ = some q) : Evm G yX12_copy MX12_copy [.ref (gb G + 200), .int x1, .int x2, .int x3, .int x4, .int x5] σ (some (.int q.1)) q.2 := by
  refine Ev.of (by decide +kernel) rfl rfl (Nat.le_of_ble_eq_true rfl) ?_
  show Vm G MX12_copy (some (.int q.1)) q.2 0 [(0, .ref (gb G + 200)), (1, .int x1), (2, .int x2), (3, .int x3), (4, .int x4), (5, .int x5)] [] σ
  unfold fM_copy at h
  refine v_iload_n dX12_copy_0 1 rfl rfl ?_
  obtain ⟨q1, hq1, h⟩ := bind_some h
  refine v_callS (As := [.int x1]) (S := []) dX12_copy_1 tw758 tw759 ykX12_isRow rfl (by decide) rfl rfl (Nat.le_of_ble_eq_true rfl) (by decide) (eM_isRow x1 _ _ hq1) ?_
  refine v_if_eq (tgt := 14) dX12_copy_4 (by decide) (fun c2 => ?_) (fun c2 => ?_)
  · replace h := ite_t c2 h
    refine v_ldc dX12_copy_14 tw764 ?_
    replace h := Option.some.inj h
    subst h
    exact v_iret dX12_copy_16 rfl rfl rfl rfl rfl
  · replace h := ite_f c2 h
    refine v_iload_n dX12_copy_7 3 rfl rfl ?_
    obtain ⟨q3, hq3, h⟩ := bind_some h
    refine v_callS (As := [.int x3]) (S := []) dX12_copy_8 tw758 tw759 ykX12_isRow rfl (by decide) rfl rfl (Nat.le_of_ble_eq_true rfl) (by decide) (eM_isRow x3 _ _ hq3) ?_
    refine v_if_ne (tgt := 17) dX12_copy_11 (by decide) (fun c4 => ?_) (fun c4 => ?_)
    · replace h := ite_f c4 h
      refine v_aload_n dX12_copy_17 0 rfl rfl (v_iload_n dX12_copy_18 1 rfl rfl ?_)
      obtain ⟨q5, hq5, h⟩ := bind_some h
      refine v_callV (As := [.int x1]) (S := []) dX12_copy_19 tw778 tw780 tw18 ykX12_isMissing lc_200 shc_200 (by decide) ok_11 rfl (by decide) rfl rfl (Nat.le_of_ble_eq_true rfl) (by decide) (eM_isMissing x1 _ _ hq5) ?_
      refine v_if_ne (tgt := 33) dX12_copy_22 (by decide) (fun c6 => ?_) (fun c6 => ?_)
      · replace h := ite_f c6 h
        exact v_sub [0] rfl (sM_copy_B33 _ h)
      · replace h := ite_t c6 h
        refine v_aload_n dX12_copy_25 0 rfl rfl (v_iload_n dX12_copy_26 3 rfl rfl ?_)
        obtain ⟨q7, hq7, h⟩ := bind_some h
        refine v_callV (As := [.int x3]) (S := []) dX12_copy_27 tw778 tw780 tw18 ykX12_isMissing lc_200 shc_200 (by decide) ok_11 rfl (by decide) rfl rfl (Nat.le_of_ble_eq_true rfl) (by decide) (eM_isMissing x3 _ _ hq7) ?_
        refine v_if_eq (tgt := 39) dX12_copy_30 (by decide) (fun c8 => ?_) (fun c8 => ?_)
        · replace h := ite_t c8 h
          refine v_aload_n dX12_copy_39 0 rfl rfl (vm_getR (t := 201) dX12_copy_40 fsX12_7 lc_200 shc_200 (by decide) rf_200_0 (v_iload_n dX12_copy_43 1 rfl rfl ?_))
          obtain ⟨g9, h⟩ := guard_some h
          refine vn_iald dX12_copy_44 lc_201 sha_201 g9 rfl (v_aload_n dX12_copy_45 0 rfl rfl (vm_getR (t := 201) dX12_copy_46 fsX12_7 lc_200 shc_200 (by decide) rf_200_0 (v_iload_n dX12_copy_49 3 rfl rfl ?_)))
          obtain ⟨g10, h⟩ := guard_some h
          refine vn_iald dX12_copy_50 lc_201 sha_201 g10 rfl (v_icmp_eq (tgt := 60) dX12_copy_51 (by decide) (fun c11 => ?_) (fun c11 => ?_))
          · replace h := ite_t c11 h
            refine v_aload_n dX12_copy_60 0 rfl rfl (v_iload_n dX12_copy_61 1 rfl rfl (v_iload_n dX12_copy_62 2 rfl rfl (v_iload dX12_copy_63 5 rfl ?_)))
            obtain ⟨q12, hq12, h⟩ := bind_some h
            refine v_callV (As := [.int x1, .int x2, .int x5]) (S := []) dX12_copy_65 tw789 tw791 tw19 ykX12_isPart lc_200 shc_200 (by decide) ok_11 rfl (by decide) rfl rfl (Nat.le_of_ble_eq_true rfl) (by decide) (eM_isPart x1 x2 x5 _ _ hq12) ?_
            refine v_if_eq (tgt := 83) dX12_copy_68 (by decide) (fun c13 => ?_) (fun c13 => ?_)
            · replace h := ite_t c13 h
              exact v_sub [0] rfl (sM_copy_B83 _ h)
            · replace h := ite_f c13 h
              refine v_aload_n dX12_copy_71 0 rfl rfl (v_iload_n dX12_copy_72 3 rfl rfl (v_iload dX12_copy_73 4 rfl (v_iload dX12_copy_75 5 rfl ?_)))
              obtain ⟨q14, hq14, h⟩ := bind_some h
              refine v_callV (As := [.int x3, .int x4, .int x5]) (S := []) dX12_copy_77 tw789 tw791 tw19 ykX12_isPart lc_200 shc_200 (by decide) ok_11 rfl (by decide) rfl rfl (Nat.le_of_ble_eq_true rfl) (by decide) (eM_isPart x3 x4 x5 _ _ hq14) ?_
              refine v_if_ne (tgt := 89) dX12_copy_80 (by decide) (fun c15 => ?_) (fun c15 => ?_)
              · replace h := ite_f c15 h
                exact v_iconst dX12_copy_89 rfl (v_istore dX12_copy_90 [0, 1, 2, 3, 4, 5, 6] rfl (by decide) (v_sub [1, 2, 3, 4, 5, 6, 0] rfl (sM_copy_L92 2000 x1 x2 x3 x4 x5 0 _ h)))
              · replace h := ite_t c15 h
                exact v_sub [0] rfl (sM_copy_B83 _ h)
          · replace h := ite_f c11 h
            refine v_aload_n dX12_copy_54 0 rfl rfl (v_iconst dX12_copy_55 rfl ?_)
            obtain ⟨q16, hq16, h⟩ := bind_some h
            refine v_callV (As := [.int 5]) (S := []) dX12_copy_56 tw765 tw767 tw16 ykX12_found lc_200 shc_200 (by decide) ok_11 rfl (by decide) rfl rfl (Nat.le_of_ble_eq_true rfl) (by decide) (eM_found 5 _ _ hq16) ?_
            replace h := Option.some.inj h
            subst h
            exact v_iret dX12_copy_59 rfl rfl rfl rfl rfl
        · replace h := ite_f c8 h
          exact v_sub [0] rfl (sM_copy_B33 _ h)
    · replace h := ite_t c4 h
      refine v_ldc dX12_copy_14 tw764 ?_
      replace h := Option.some.inj h
      subst h
      exact v_iret dX12_copy_16 rfl rfl rfl rfl rfl
def fM_drop (x1 : Int32) (σ : Sg) : Option (Int32 × Sg) := (fM_isRow x1 σ).bind fun q1 => if q1 = 0 then some ((-1000001), σ) else (fM_isMissing x1 σ).bind fun q3 => if q3 = 0 then (if inb x1 8 = true then ltc (wr σ 201 (ix x1) (-1000000)) fun σ6 => (fM_well (σ6 202 (ix x1)) σ6).bind fun q7 => some (q7.1, q7.2) else none) else (fM_found 1 σ).bind fun q8 => some (q8.1, q8.2)
set_option maxRecDepth 100000 in
set_option maxHeartbeats 4000000 in
theorem eM_drop {G : Gx} (x1 : Int32) (σ : Sg) (q : (Int32 × Sg)) (h : fM_drop x1 σ = some q) : Evm G yX12_drop MX12_drop [.ref (gb G + 200), .int x1] σ (some (.int q.1)) q.2 := by
  refine Ev.of (by decide +kernel) rfl rfl (Nat.le_of_ble_eq_true rfl) ?_
  show Vm G MX12_drop (some (.int q.1)) q.2 0 [(0, .ref (gb G + 200)), (1, .int x1)] [] σ
  unfold fM_drop at h
  refine v_iload_n dX12_drop_0 1 rfl rfl ?_
  obtain ⟨q1, hq1, h⟩ := bind_some h
  refine v_callS (As := [.int x1]) (S := []) dX12_drop_1 tw758 tw759 ykX12_isRow rfl (by decide) rfl rfl (Nat.le_of_ble_eq_true rfl) (by decide) (eM_isRow x1 _ _ hq1) ?_
  refine v_if_ne (tgt := 10) dX12_drop_4 (by decide) (fun c2 => ?_) (fun c2 => ?_)
  · replace h := ite_f c2 h
    refine v_aload_n dX12_drop_10 0 rfl rfl (v_iload_n dX12_drop_11 1 rfl rfl ?_)
    obtain ⟨q3, hq3, h⟩ := bind_some h
    refine v_callV (As := [.int x1]) (S := []) dX12_drop_12 tw778 tw780 tw18 ykX12_isMissing lc_200 shc_200 (by decide) ok_11 rfl (by decide) rfl rfl (Nat.le_of_ble_eq_true rfl) (by decide) (eM_isMissing x1 _ _ hq3) ?_
    refine v_if_eq (tgt := 24) dX12_drop_15 (by decide) (fun c4 => ?_) (fun c4 => ?_)
    · replace h := ite_t c4 h
      refine v_aload_n dX12_drop_24 0 rfl rfl (vm_getR (t := 201) dX12_drop_25 fsX12_7 lc_200 shc_200 (by decide) rf_200_0 (v_iload_n dX12_drop_28 1 rfl rfl (v_ldc dX12_drop_29 tw686 ?_)))
      obtain ⟨g5, h⟩ := guard_some h
      obtain ⟨σ6, eσ6, h⟩ := ltc_some h
      refine vn_iast dX12_drop_31 lc_201 sha_201 g5 rfl eσ6 (v_aload_n dX12_drop_32 0 rfl rfl (v_aload_n dX12_drop_33 0 rfl rfl (vm_getR (t := 202) dX12_drop_34 fsX12_13 lc_200 shc_200 (by decide) rf_200_1 (v_iload_n dX12_drop_37 1 rfl rfl (vn_iald dX12_drop_38 lc_202 sha_202 g5 rfl ?_)))))
      obtain ⟨q7, hq7, h⟩ := bind_some h
      refine v_callV (As := [.int (σ6 202 (ix x1))]) (S := []) dX12_drop_39 tw770 tw772 tw17 ykX12_well lc_200 shc_200 (by decide) ok_11 rfl (by decide) rfl rfl (Nat.le_of_ble_eq_true rfl) (by decide) (eM_well (σ6 202 (ix x1)) _ _ hq7) ?_
      replace h := Option.some.inj h
      subst h
      exact v_iret dX12_drop_42 rfl rfl rfl rfl rfl
    · replace h := ite_f c4 h
      refine v_aload_n dX12_drop_18 0 rfl rfl (v_iconst dX12_drop_19 rfl ?_)
      obtain ⟨q8, hq8, h⟩ := bind_some h
      refine v_callV (As := [.int 1]) (S := []) dX12_drop_20 tw765 tw767 tw16 ykX12_found lc_200 shc_200 (by decide) ok_11 rfl (by decide) rfl rfl (Nat.le_of_ble_eq_true rfl) (by decide) (eM_found 1 _ _ hq8) ?_
      replace h := Option.some.inj h
      subst h
      exact v_iret dX12_drop_23 rfl rfl rfl rfl rfl
  · replace h := ite_t c2 h
    refine v_ldc dX12_drop_7 tw764 ?_
    replace h := Option.some.inj h
    subst h
    exact v_iret dX12_drop_9 rfl rfl rfl rfl rfl
