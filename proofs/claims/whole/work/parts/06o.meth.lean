def fM_trace (x1 : Int32) (σ : Sg) : Option Int32 := (fM_in x1 0 ((σ 200 21) - 1) σ).bind fun q1 => if q1 = 0 then some (-1000000) else if inb x1 16 = true then some (σ 212 (ix x1)) else none
set_option maxRecDepth 100000 in
set_option maxHeartbeats 4000000 in
theorem eM_trace {G : Gx} (x1 : Int32) (σ : Sg) (q : Int32) (h : fM_trace x1 σ = some q) : Evm G yX12_trace MX12_trace [.ref (gb G + 200), .int x1] σ (some (.int q)) σ := by
  refine Ev.of (by decide +kernel) rfl rfl (Nat.le_of_ble_eq_true rfl) ?_
  show Vm G MX12_trace (some (.int q)) σ 0 [(0, .ref (gb G + 200)), (1, .int x1)] [] σ
  unfold fM_trace at h
  refine v_iload_n dX12_trace_0 1 rfl rfl (v_iconst dX12_trace_1 rfl (v_aload_n dX12_trace_2 0 rfl rfl (vm_getI dX12_trace_3 fsX12_207 lc_200 shc_200 (by decide) rf_200_21 (v_iconst dX12_trace_6 rfl (v_isub dX12_trace_7 ?_)))))
  obtain ⟨q1, hq1, h⟩ := bind_some h
  refine v_callS (As := [.int x1, .int 0, .int ((σ 200 21) - 1)]) (S := []) dX12_trace_8 tw761 tw762 ykX12_in rfl (by decide) rfl rfl (Nat.le_of_ble_eq_true rfl) (by decide) (eM_in x1 0 ((σ 200 21) - 1) _ _ hq1) ?_
  refine v_if_eq (tgt := 23) dX12_trace_11 (by decide) (fun c2 => ?_) (fun c2 => ?_)
  · replace h := ite_t c2 h
    refine v_ldc dX12_trace_23 tw686 ?_
    replace h := Option.some.inj h
    subst h
    exact v_iret dX12_trace_25 rfl rfl rfl rfl rfl
  · replace h := ite_f c2 h
    refine v_aload_n dX12_trace_14 0 rfl rfl (vm_getR (t := 212) dX12_trace_15 fsX12_44 lc_200 shc_200 (by decide) rf_200_20 (v_iload_n dX12_trace_18 1 rfl rfl ?_))
    obtain ⟨g3, h⟩ := guard_some h
    refine vn_iald dX12_trace_19 lc_212 sha_212 g3 rfl (v_goto (tgt := 25) dX12_trace_20 (by decide) ?_)
    replace h := Option.some.inj h
    subst h
    exact v_iret dX12_trace_25 rfl rfl rfl rfl rfl
def fM_count_B66 (K46 : Int32 → Int32 → Sg → Option Int32) (x3 : Int32) (s0 : Int32) (s1 : Int32) (σ : Sg) : Option Int32 := K46 (s1 + s0) (x3 + 1) σ
set_option maxRecDepth 100000 in
set_option maxHeartbeats 4000000 in
theorem sM_count_B66 {G : Gx} {q : Int32} (K46 : Int32 → Int32 → Sg → Option Int32) (hK46 : ∀ (x2 : Int32) (x3 : Int32) (σ : Sg), K46 x2 x3 σ = some q → Vm G MX12_count (some (.int q)) σ 46 [(0, .ref (gb G + 200)), (2, .int x2), (3, .int x3)] [] σ) (x3 : Int32) (s0 : Int32) (s1 : Int32) (σ : Sg) (h : fM_count_B66 K46 x3 s0 s1 σ = some q) : Vm G MX12_count (some (.int q)) σ 66 [(0, .ref (gb G + 200)), (3, .int x3)] [.int s0, .int s1] σ := by
  unfold fM_count_B66 at h
  exact v_iadd dX12_count_66 (v_istore_n dX12_count_67 [0, 1, 2] rfl (by decide) rfl (v_iinc (v := x3 + 1) dX12_count_68 2 rfl rfl [0, 1, 2] rfl (by decide) (v_goto (tgt := 46) dX12_count_71 (by decide) (v_sub [2, 1, 0] rfl (hK46 (s1 + s0) (x3 + 1) _ h)))))
def fM_count_b46 (K46 : Int32 → Int32 → Sg → Option Int32) (x2 : Int32) (x3 : Int32) (σ : Sg) : Option Int32 := if (8 : Int32) ≤ x3 then some x2 else (fM_isMissing x3 σ).bind fun q11 => if q11 = 0 then fM_count_B66 K46 x3 1 x2 σ else fM_count_B66 K46 x3 0 x2 σ
def fM_count_L46 (n : Nat) : Int32 → Int32 → Sg → Option Int32 := Nat.rec (fun _ _ _ => none) (fun _ K => fM_count_b46 K) n
set_option maxRecDepth 100000 in
set_option maxHeartbeats 4000000 in
theorem sM_count_b46 {G : Gx} {q : Int32} (K46 : Int32 → Int32 → Sg → Option Int32) (hK46 : ∀ (x2 : Int32) (x3 : Int32) (σ : Sg), K46 x2 x3 σ = some q → Vm G MX12_count (some (.int q)) σ 46 [(0, .ref (gb G + 200)), (2, .int x2), (3, .int x3)] [] σ) (x2 : Int32) (x3 : Int32) (σ : Sg) (h : fM_count_b46 K46 x2 x3 σ = some q) : Vm G MX12_count (some (.int q)) σ 46 [(0, .ref (gb G + 200)), (2, .int x2), (3, .int x3)] [] σ := by
  unfold fM_count_b46 at h
  refine v_iload_n dX12_count_46 2 rfl rfl (v_bipush (v := 8) dX12_count_47 rfl (v_icmp_ge (tgt := 74) dX12_count_49 (by decide) (fun c10 => ?_) (fun c10 => ?_)))
  · replace h := ite_t c10 h
    refine v_iload_n dX12_count_74 1 rfl rfl ?_
    replace h := Option.some.inj h
    subst h
    exact v_iret dX12_count_75 rfl rfl rfl rfl rfl
  · replace h := ite_f c10 h
    refine v_iload_n dX12_count_52 1 rfl rfl (v_aload_n dX12_count_53 0 rfl rfl (v_iload_n dX12_count_54 2 rfl rfl ?_))
    obtain ⟨q11, hq11, h⟩ := bind_some h
    refine v_callV (As := [.int x3]) (S := [.int x2]) dX12_count_55 tw778 tw780 tw18 ykX12_isMissing lc_200 shc_200 (by decide) ok_11 rfl (by decide) rfl rfl (Nat.le_of_ble_eq_true rfl) (by decide) (eM_isMissing x3 _ _ hq11) ?_
    refine v_if_eq (tgt := 65) dX12_count_58 (by decide) (fun c12 => ?_) (fun c12 => ?_)
    · replace h := ite_t c12 h
      exact v_iconst dX12_count_65 rfl (v_sub [0, 2] rfl (sM_count_B66 K46 hK46 x3 1 x2 _ h))
    · replace h := ite_f c12 h
      exact v_iconst dX12_count_61 rfl (v_goto (tgt := 66) dX12_count_62 (by decide) (v_sub [0, 2] rfl (sM_count_B66 K46 hK46 x3 0 x2 _ h)))
theorem sM_count_L46 {G : Gx} {q : Int32} (n : Nat) : ∀ (x2 : Int32) (x3 : Int32) (σ : Sg) (h : fM_count_L46 n x2 x3 σ = some q), Vm G MX12_count (some (.int q)) σ 46 [(0, .ref (gb G + 200)), (2, .int x2), (3, .int x3)] [] σ := by
  induction n with
  | zero => intro x2 x3 σ h; cases h
  | succ n ih => intro x2 x3 σ h; exact sM_count_b46  _ ih x2 x3 σ h
def fM_count (x1 : Int32) (σ : Sg) : Option Int32 := if x1 = 0 then fM_count_L46 2000 0 0 σ else if x1 = 1 then some (σ 206 4) else if x1 = 2 then some (σ 206 2) else if x1 = 3 then some (σ 206 0) else if x1 = 4 then ((fM_broughtIn 206 σ).bind fun q6 => (fM_ones q6 σ).bind fun q7 => some q7) else if x1 = 5 then some (σ 200 17) else if x1 = 6 then some (σ 200 6) else some (-1000001)
set_option maxRecDepth 100000 in
set_option maxHeartbeats 4000000 in
theorem eM_count {G : Gx} (x1 : Int32) (σ : Sg) (q : Int32) (h : fM_count x1 σ = some q) : Evm G yX12_count MX12_count [.ref (gb G + 200), .int x1] σ (some (.int q)) σ := by
  refine Ev.of (by decide +kernel) rfl rfl (Nat.le_of_ble_eq_true rfl) ?_
  show Vm G MX12_count (some (.int q)) σ 0 [(0, .ref (gb G + 200)), (1, .int x1)] [] σ
  unfold fM_count at h
  refine v_iconst dX12_count_0 rfl (v_istore_n dX12_count_1 [0, 1, 2] rfl (by decide) rfl (v_iload_n dX12_count_2 2 rfl rfl ?_))
  by_cases c1 : x1 = 0
  · replace h := ite_t c1 h
    refine v_tableAt (tgt := 44) dX12_count_3 c1 (by decide) (by decide) (off := 41) (by decide) (by decide) ?_
    exact v_iconst dX12_count_44 rfl (v_istore_n dX12_count_45 [0, 1, 2] rfl (by decide) rfl (v_sub [2, 1, 0] rfl (sM_count_L46 2000 0 0 _ h)))
  replace h := ite_f c1 h
  by_cases c2 : x1 = 1
  · replace h := ite_t c2 h
    refine v_tableAt (tgt := 76) dX12_count_3 c2 (by decide) (by decide) (off := 73) (by decide) (by decide) ?_
    refine v_aload_n dX12_count_76 1 rfl rfl (vm_getR (t := 206) dX12_count_77 fsX12_25 lc_200 shc_200 (by decide) rf_200_13 (v_iconst dX12_count_80 rfl (vn_iald dX12_count_81 lc_206 sha_206 ib_4_41 ixc_4 ?_)))
    replace h := Option.some.inj h
    subst h
    exact v_iret dX12_count_82 rfl rfl rfl rfl rfl
  replace h := ite_f c2 h
  by_cases c3 : x1 = 2
  · replace h := ite_t c3 h
    refine v_tableAt (tgt := 83) dX12_count_3 c3 (by decide) (by decide) (off := 80) (by decide) (by decide) ?_
    refine v_aload_n dX12_count_83 1 rfl rfl (vm_getR (t := 206) dX12_count_84 fsX12_25 lc_200 shc_200 (by decide) rf_200_13 (v_iconst dX12_count_87 rfl (vn_iald dX12_count_88 lc_206 sha_206 ib_2_41 ixc_2 ?_)))
    replace h := Option.some.inj h
    subst h
    exact v_iret dX12_count_89 rfl rfl rfl rfl rfl
  replace h := ite_f c3 h
  by_cases c4 : x1 = 3
  · replace h := ite_t c4 h
    refine v_tableAt (tgt := 90) dX12_count_3 c4 (by decide) (by decide) (off := 87) (by decide) (by decide) ?_
    refine v_aload_n dX12_count_90 1 rfl rfl (vm_getR (t := 206) dX12_count_91 fsX12_25 lc_200 shc_200 (by decide) rf_200_13 (v_iconst dX12_count_94 rfl (vn_iald dX12_count_95 lc_206 sha_206 ib_0_41 ixc_0 ?_)))
    replace h := Option.some.inj h
    subst h
    exact v_iret dX12_count_96 rfl rfl rfl rfl rfl
  replace h := ite_f c4 h
  by_cases c5 : x1 = 4
  · replace h := ite_t c5 h
    refine v_tableAt (tgt := 97) dX12_count_3 c5 (by decide) (by decide) (off := 94) (by decide) (by decide) ?_
    refine v_aload_n dX12_count_97 1 rfl rfl (vm_getR (t := 206) dX12_count_98 fsX12_25 lc_200 shc_200 (by decide) rf_200_13 ?_)
    obtain ⟨q6, hq6, h⟩ := bind_some h
    refine v_callS (As := [.ref (gb G + 206)]) (S := []) dX12_count_101 tw907 tw908 ykX12_broughtIn rfl (by decide) rfl rfl (Nat.le_of_ble_eq_true rfl) (by decide) (eM_broughtIn 206 sha_206 lc_206 _ _ hq6) ?_
    obtain ⟨q7, hq7, h⟩ := bind_some h
    refine v_callS (As := [.int q6]) (S := []) dX12_count_104 tw952 tw953 ykX12_ones rfl (by decide) rfl rfl (Nat.le_of_ble_eq_true rfl) (by decide) (eM_ones q6 _ _ hq7) ?_
    replace h := Option.some.inj h
    subst h
    exact v_iret dX12_count_107 rfl rfl rfl rfl rfl
  replace h := ite_f c5 h
  by_cases c8 : x1 = 5
  · replace h := ite_t c8 h
    refine v_tableAt (tgt := 108) dX12_count_3 c8 (by decide) (by decide) (off := 105) (by decide) (by decide) ?_
    refine v_aload_n dX12_count_108 1 rfl rfl (vm_getI dX12_count_109 fsX12_132 lc_200 shc_200 (by decide) rf_200_17 ?_)
    replace h := Option.some.inj h
    subst h
    exact v_iret dX12_count_112 rfl rfl rfl rfl rfl
  replace h := ite_f c8 h
  by_cases c9 : x1 = 6
  · replace h := ite_t c9 h
    refine v_tableAt (tgt := 113) dX12_count_3 c9 (by decide) (by decide) (off := 110) (by decide) (by decide) ?_
    refine v_aload_n dX12_count_113 1 rfl rfl (vm_getI dX12_count_114 fsX12_79 lc_200 shc_200 (by decide) rf_200_6 ?_)
    replace h := Option.some.inj h
    subst h
    exact v_iret dX12_count_117 rfl rfl rfl rfl rfl
  replace h := ite_f c9 h
  have nc1 := i_ne (z := 0) (by decide) c1
  have nc2 := i_ne (z := 1) (by decide) c2
  have nc3 := i_ne (z := 2) (by decide) c3
  have nc4 := i_ne (z := 3) (by decide) c4
  have nc5 := i_ne (z := 4) (by decide) c5
  have nc8 := i_ne (z := 5) (by decide) c8
  have nc9 := i_ne (z := 6) (by decide) c9
  refine v_tableOut (tgt := 118) dX12_count_3 (by omega) (by decide) ?_
  refine v_ldc dX12_count_118 tw764 ?_
  replace h := Option.some.inj h
  subst h
  exact v_iret dX12_count_120 rfl rfl rfl rfl rfl
def fM_status (σ : Sg) : Option Int32 := some (σ 200 4)
set_option maxRecDepth 100000 in
set_option maxHeartbeats 4000000 in
theorem eM_status {G : Gx} (σ : Sg) (q : Int32) (h : fM_status σ = some q) : Evm G yX12_status MX12_status [.ref (gb G + 200)] σ (some (.int q)) σ := by
  refine Ev.of (by decide +kernel) rfl rfl (Nat.le_of_ble_eq_true rfl) ?_
  show Vm G MX12_status (some (.int q)) σ 0 [(0, .ref (gb G + 200))] [] σ
  unfold fM_status at h
  refine v_aload_n dX12_status_0 0 rfl rfl (vm_getI dX12_status_1 fsX12_48 lc_200 shc_200 (by decide) rf_200_4 ?_)
  replace h := Option.some.inj h
  subst h
  exact v_iret dX12_status_4 rfl rfl rfl rfl rfl
