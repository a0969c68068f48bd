def fX_commonDivisor_B34 (x2 : Int32) (σ : Sg) : Option Int32 := some (if x2 < 1 then 1 else x2)
set_option maxRecDepth 100000 in
set_option maxHeartbeats 4000000 in
theorem sX_commonDivisor_B34 {G : Gx} {q : Int32} (x2 : Int32) (σ : Sg) (h : fX_commonDivisor_B34 x2 σ = some q) : Vm G MX11_commonDivisor (some (.int q)) σ 34 [(2, .int x2)] [] σ := by
  unfold fX_commonDivisor_B34 at h
  refine v_iload_n dX11_commonDivisor_34 0 rfl rfl (v_iconst dX11_commonDivisor_35 rfl (v_mmax dX11_commonDivisor_36 tw570 (Nat.le_of_ble_eq_true rfl) (Nat.le_of_ble_eq_true rfl) (Nat.le_of_ble_eq_true rfl) (Nat.le_of_ble_eq_true rfl) ?_))
  replace h := Option.some.inj h
  subst h
  exact v_iret dX11_commonDivisor_39 rfl rfl rfl rfl rfl
def fX_commonDivisor_b7 (K7 : Int32 → Int32 → Int32 → Sg → Option Int32) (x2 : Int32) (x3 : Int32) (x4 : Int32) (σ : Sg) : Option Int32 := if (100 : Int32) ≤ x4 then fX_commonDivisor_B34 x2 σ else if x3 = 0 then fX_commonDivisor_B34 x2 σ else if nz x3 = true then K7 x3 (x2 - x2 / x3 * x3) (x4 + 1) σ else none
def fX_commonDivisor_L7 (n : Nat) : Int32 → Int32 → Int32 → Sg → Option Int32 := Nat.rec (fun _ _ _ _ => none) (fun _ K => fX_commonDivisor_b7 K) n
set_option maxRecDepth 100000 in
set_option maxHeartbeats 4000000 in
theorem sX_commonDivisor_b7 {G : Gx} {q : Int32} (K7 : Int32 → Int32 → Int32 → Sg → Option Int32) (hK7 : ∀ (x2 : Int32) (x3 : Int32) (x4 : Int32) (σ : Sg), K7 x2 x3 x4 σ = some q → Vm G MX11_commonDivisor (some (.int q)) σ 7 [(2, .int x2), (3, .int x3), (4, .int x4)] [] σ) (x2 : Int32) (x3 : Int32) (x4 : Int32) (σ : Sg) (h : fX_commonDivisor_b7 K7 x2 x3 x4 σ = some q) : Vm G MX11_commonDivisor (some (.int q)) σ 7 [(2, .int x2), (3, .int x3), (4, .int x4)] [] σ := by
  unfold fX_commonDivisor_b7 at h
  refine v_iload dX11_commonDivisor_7 2 rfl (v_bipush (v := 100) dX11_commonDivisor_9 rfl (v_icmp_ge (tgt := 34) dX11_commonDivisor_11 (by decide) (fun c1 => ?_) (fun c1 => ?_)))
  · replace h := ite_t c1 h
    exact v_sub [0] rfl (sX_commonDivisor_B34 x2 _ h)
  · replace h := ite_f c1 h
    refine v_iload_n dX11_commonDivisor_14 1 rfl rfl (v_if_eq (tgt := 34) dX11_commonDivisor_15 (by decide) (fun c2 => ?_) (fun c2 => ?_))
    · replace h := ite_t c2 h
      exact v_sub [0] rfl (sX_commonDivisor_B34 x2 _ h)
    · replace h := ite_f c2 h
      refine v_iload_n dX11_commonDivisor_18 0 rfl rfl (v_iload_n dX11_commonDivisor_19 1 rfl rfl ?_)
      obtain ⟨g3, h⟩ := guard_some h
      exact v_irem dX11_commonDivisor_20 (nz_ne g3) (v_istore dX11_commonDivisor_21 [0, 2, 3] rfl (by decide) (v_iload_n dX11_commonDivisor_23 1 rfl rfl (v_istore_n dX11_commonDivisor_24 [0, 1, 3] rfl (by decide) rfl (v_iload dX11_commonDivisor_25 1 rfl (v_istore_n dX11_commonDivisor_27 [0, 1, 3] rfl (by decide) rfl (v_iinc (v := x4 + 1) dX11_commonDivisor_28 2 rfl rfl [0, 1, 2] rfl (by decide) (v_goto (tgt := 7) dX11_commonDivisor_31 (by decide) (v_sub [2, 1, 0] rfl (hK7 x3 (x2 - x2 / x3 * x3) (x4 + 1) _ h)))))))))
theorem sX_commonDivisor_L7 {G : Gx} {q : Int32} (n : Nat) : ∀ (x2 : Int32) (x3 : Int32) (x4 : Int32) (σ : Sg) (h : fX_commonDivisor_L7 n x2 x3 x4 σ = some q), Vm G MX11_commonDivisor (some (.int q)) σ 7 [(2, .int x2), (3, .int x3), (4, .int x4)] [] σ := by
  induction n with
  | zero => intro x2 x3 x4 σ h; cases h
  | succ n ih => intro x2 x3 x4 σ h; exact sX_commonDivisor_b7  _ ih x2 x3 x4 σ h
def fX_commonDivisor (x0 : Int32) (x1 : Int32) (σ : Sg) : Option Int32 := fX_commonDivisor_L7 2000 x0 x1 0 σ
set_option maxRecDepth 100000 in
set_option maxHeartbeats 4000000 in
theorem eX_commonDivisor {G : Gx} (x0 : Int32) (x1 : Int32) (σ : Sg) (q : Int32) (h : fX_commonDivisor x0 x1 σ = some q) : Evm G yX11_commonDivisor MX11_commonDivisor [.int x0, .int x1] σ (some (.int q)) σ := by
  refine Ev.of (by decide +kernel) rfl rfl (Nat.le_of_ble_eq_true rfl) ?_
  show Vm G MX11_commonDivisor (some (.int q)) σ 0 [(0, .int x0), (1, .int x1)] [] σ
  unfold fX_commonDivisor at h
  exact v_iload_n dX11_commonDivisor_0 0 rfl rfl (v_istore_n dX11_commonDivisor_1 [0, 2] rfl (by decide) rfl (v_iload_n dX11_commonDivisor_2 1 rfl rfl (v_istore_n dX11_commonDivisor_3 [0, 1] rfl (by decide) rfl (v_iconst dX11_commonDivisor_4 rfl (v_istore dX11_commonDivisor_5 [0, 1, 2] rfl (by decide) (v_sub [2, 1, 0] rfl (sX_commonDivisor_L7 2000 x0 x1 0 _ h)))))))
def fX_isBroughtHiding (x1 : Int32) (x2 : Int32) (x3 : Int32) (σ : Sg) : Option (Int32 × Sg) := (fH_become 10 4 σ).bind fun q1 => (fH_conceal 10 x3 q1).bind fun q2 => (fH_until 10 x1 x2 q2).bind fun q3 => if q3.1 = (-1) then some (0, q3.2) else some (1, q3.2)
set_option maxRecDepth 100000 in
set_option maxHeartbeats 4000000 in
theorem eX_isBroughtHiding {G : Gx} (x1 : Int32) (x2 : Int32) (x3 : Int32) (σ : Sg) (q : (Int32 × Sg)) (h : fX_isBroughtHiding x1 x2 x3 σ = some q) : Evm G yX11_isBroughtHiding MX11_isBroughtHiding [.ref (gb G + 0), .int x1, .int x2, .int x3] σ (some (.int q.1)) q.2 := by
  refine Ev.of (by decide +kernel) rfl rfl (Nat.le_of_ble_eq_true rfl) ?_
  show Vm G MX11_isBroughtHiding (some (.int q.1)) q.2 0 [(0, .ref (gb G + 0)), (1, .int x1), (2, .int x2), (3, .int x3)] [] σ
  unfold fX_isBroughtHiding at h
  refine v_aload_n dX11_isBroughtHiding_0 0 rfl rfl (vm_getR (t := 10) dX11_isBroughtHiding_1 fsX11_29 lc_0 shc_0 (by decide) rf_0_3 (v_aload_n dX11_isBroughtHiding_4 0 rfl rfl (vm_getR (t := 4) dX11_isBroughtHiding_5 fsX11_25 lc_0 shc_0 (by decide) rf_0_2 ?_)))
  obtain ⟨q1, hq1, h⟩ := bind_some h
  refine v_callV (As := [.ref (gb G + 4)]) (S := []) dX11_isBroughtHiding_8 tw383 tw384 tw385 ykX4_become ((isH_s isH_10).2.1) ((isH_s isH_10).1.1) (by decide) ok_4 rfl (by decide) rfl rfl (Nat.le_of_ble_eq_true rfl) (by decide) (eH_become 10 isH_10 4 isH_4 _ _ hq1) ?_
  refine v_aload_n dX11_isBroughtHiding_11 0 rfl rfl (vm_getR (t := 10) dX11_isBroughtHiding_12 fsX11_29 lc_0 shc_0 (by decide) rf_0_3 (v_iload_n dX11_isBroughtHiding_15 3 rfl rfl ?_))
  obtain ⟨q2, hq2, h⟩ := bind_some h
  refine v_callV (As := [.int x3]) (S := []) dX11_isBroughtHiding_16 tw521 tw522 tw523 ykX4_conceal ((isH_s isH_10).2.1) ((isH_s isH_10).1.1) (by decide) ok_4 rfl (by decide) rfl rfl (Nat.le_of_ble_eq_true rfl) (by decide) (eH_conceal 10 isH_10 x3 _ _ hq2) ?_
  refine v_aload_n dX11_isBroughtHiding_19 0 rfl rfl (vm_getR (t := 10) dX11_isBroughtHiding_20 fsX11_29 lc_0 shc_0 (by decide) rf_0_3 (v_iload_n dX11_isBroughtHiding_23 1 rfl rfl (v_iload_n dX11_isBroughtHiding_24 2 rfl rfl ?_)))
  obtain ⟨q3, hq3, h⟩ := bind_some h
  refine v_callV (As := [.int x1, .int x2]) (S := []) dX11_isBroughtHiding_25 tw497 tw498 tw499 ykX4_until ((isH_s isH_10).2.1) ((isH_s isH_10).1.1) (by decide) ok_4 rfl (by decide) rfl rfl (Nat.le_of_ble_eq_true rfl) (by decide) (eH_until 10 isH_10 x1 x2 _ _ hq3) ?_
  refine v_iconst (v := -1) dX11_isBroughtHiding_28 rfl (v_icmp_eq (tgt := 36) dX11_isBroughtHiding_29 (by decide) (fun c4 => ?_) (fun c4 => ?_))
  · replace h := ite_t c4 h
    refine v_iconst dX11_isBroughtHiding_36 rfl ?_
    replace h := Option.some.inj h
    subst h
    exact v_zret dX11_isBroughtHiding_37 rfl (by decide) rfl rfl rfl rfl
  · replace h := ite_f c4 h
    refine v_iconst dX11_isBroughtHiding_32 rfl (v_goto (tgt := 37) dX11_isBroughtHiding_33 (by decide) ?_)
    replace h := Option.some.inj h
    subst h
    exact v_zret dX11_isBroughtHiding_37 rfl (by decide) rfl rfl rfl rfl
def fX_hidden_B138 (K66 : Int32 → Int32 → Int32 → Int32 → Int32 → Int32 → Int32 → Int32 → Sg → Option (Int32 × Sg)) (x1 : Int32) (x2 : Int32) (x3 : Int32) (x4 : Int32) (x5 : Int32) (x6 : Int32) (x7 : Int32) (x8 : Int32) (σ : Sg) : Option (Int32 × Sg) := K66 x1 x2 x3 x4 x5 x6 x7 (x8 + 1) σ
set_option maxRecDepth 100000 in
set_option maxHeartbeats 4000000 in
theorem sX_hidden_B138 {G : Gx} {q : (Int32 × Sg)} (K66 : Int32 → Int32 → Int32 → Int32 → Int32 → Int32 → Int32 → Int32 → Sg → Option (Int32 × Sg)) (hK66 : ∀ (x1 : Int32) (x2 : Int32) (x3 : Int32) (x4 : Int32) (x5 : Int32) (x6 : Int32) (x7 : Int32) (x8 : Int32) (σ : Sg), K66 x1 x2 x3 x4 x5 x6 x7 x8 σ = some q → Vm G MX11_hidden (some (.int q.1)) q.2 66 [(0, .ref (gb G + 0)), (1, .int x1), (2, .int x2), (3, .int x3), (4, .int x4), (5, .int x5), (6, .int x6), (7, .int x7), (8, .int x8)] [] σ) (x1 : Int32) (x2 : Int32) (x3 : Int32) (x4 : Int32) (x5 : Int32) (x6 : Int32) (x7 : Int32) (x8 : Int32) (σ : Sg) (h : fX_hidden_B138 K66 x1 x2 x3 x4 x5 x6 x7 x8 σ = some q) : Vm G MX11_hidden (some (.int q.1)) q.2 138 [(0, .ref (gb G + 0)), (1, .int x1), (2, .int x2), (3, .int x3), (4, .int x4), (5, .int x5), (6, .int x6), (7, .int x7), (8, .int x8)] [] σ := by
  unfold fX_hidden_B138 at h
  exact v_iinc (v := x8 + 1) dX11_hidden_138 8 rfl rfl [0, 1, 2, 3, 4, 5, 6, 7, 8] rfl (by decide) (v_goto (tgt := 66) dX11_hidden_141 (by decide) (v_sub [1, 2, 3, 4, 5, 6, 7, 8, 0] rfl (hK66 x1 x2 x3 x4 x5 x6 x7 (x8 + 1) _ h)))
def fX_hidden_B135 (K66 : Int32 → Int32 → Int32 → Int32 → Int32 → Int32 → Int32 → Int32 → Sg → Option (Int32 × Sg)) (x1 : Int32) (x2 : Int32) (x3 : Int32) (x4 : Int32) (x5 : Int32) (x6 : Int32) (x8 : Int32) (s0 : Int32) (s1 : Int32) (σ : Sg) : Option (Int32 × Sg) := fX_hidden_B138 K66 x1 x2 x3 x4 x5 x6 (s1 + s0) x8 σ
set_option maxRecDepth 100000 in
set_option maxHeartbeats 4000000 in
theorem sX_hidden_B135 {G : Gx} {q : (Int32 × Sg)} (K66 : Int32 → Int32 → Int32 → Int32 → Int32 → Int32 → Int32 → Int32 → Sg → Option (Int32 × Sg)) (hK66 : ∀ (x1 : Int32) (x2 : Int32) (x3 : Int32) (x4 : Int32) (x5 : Int32) (x6 : Int32) (x7 : Int32) (x8 : Int32) (σ : Sg), K66 x1 x2 x3 x4 x5 x6 x7 x8 σ = some q → Vm G MX11_hidden (some (.int q.1)) q.2 66 [(0, .ref (gb G + 0)), (1, .int x1), (2, .int x2), (3, .int x3), (4, .int x4), (5, .int x5), (6, .int x6), (7, .int x7), (8, .int x8)] [] σ) (x1 : Int32) (x2 : Int32) (x3 : Int32) (x4 : Int32) (x5 : Int32) (x6 : Int32) (x8 : Int32) (s0 : Int32) (s1 : Int32) (σ : Sg) (h : fX_hidden_B135 K66 x1 x2 x3 x4 x5 x6 x8 s0 s1 σ = some q) : Vm G MX11_hidden (some (.int q.1)) q.2 135 [(0, .ref (gb G + 0)), (1, .int x1), (2, .int x2), (3, .int x3), (4, .int x4), (5, .int x5), (6, .int x6), (8, .int x8)] [.int s0, .int s1] σ := by
  unfold fX_hidden_B135 at h
  exact v_iadd dX11_hidden_135 (v_istore dX11_hidden_136 [0, 1, 2, 3, 4, 5, 6, 7, 8] rfl (by decide) (v_sub [1, 2, 3, 4, 5, 6, 7, 0, 8] rfl (sX_hidden_B138 K66 hK66 x1 x2 x3 x4 x5 x6 (s1 + s0) x8 _ h)))
def fX_hidden_B134 (K66 : Int32 → Int32 → Int32 → Int32 → Int32 → Int32 → Int32 → Int32 → Sg → Option (Int32 × Sg)) (x1 : Int32) (x2 : Int32) (x3 : Int32) (x4 : Int32) (x5 : Int32) (x6 : Int32) (x8 : Int32) (s0 : Int32) (σ : Sg) : Option (Int32 × Sg) := fX_hidden_B135 K66 x1 x2 x3 x4 x5 x6 x8 0 s0 σ
set_option maxRecDepth 100000 in
set_option maxHeartbeats 4000000 in
theorem sX_hidden_B134 {G : Gx} {q : (Int32 × Sg)} (K66 : Int32 → Int32 → Int32 → Int32 → Int32 → Int32 → Int32 → Int32 → Sg → Option (Int32 × Sg)) (hK66 : ∀ (x1 : Int32) (x2 : Int32) (x3 : Int32) (x4 : Int32) (x5 : Int32) (x6 : Int32) (x7 : Int32) (x8 : Int32) (σ : Sg), K66 x1 x2 x3 x4 x5 x6 x7 x8 σ = some q → Vm G MX11_hidden (some (.int q.1)) q.2 66 [(0, .ref (gb G + 0)), (1, .int x1), (2, .int x2), (3, .int x3), (4, .int x4), (5, .int x5), (6, .int x6), (7, .int x7), (8, .int x8)] [] σ) (x1 : Int32) (x2 : Int32) (x3 : Int32) (x4 : Int32) (x5 : Int32) (x6 : Int32) (x8 : Int32) (s0 : Int32) (σ : Sg) (h : fX_hidden_B134 K66 x1 x2 x3 x4 x5 x6 x8 s0 σ = some q) : Vm G MX11_hidden (some (.int q.1)) q.2 134 [(0, .ref (gb G + 0)), (1, .int x1), (2, .int x2), (3, .int x3), (4, .int x4), (5, .int x5), (6, .int x6), (8, .int x8)] [.int s0] σ := by
  unfold fX_hidden_B134 at h
  exact v_iconst dX11_hidden_134 rfl (sX_hidden_B135 K66 hK66 x1 x2 x3 x4 x5 x6 x8 0 s0 _ h)
def fX_hidden_B174 (x9 : Int32) (s0 : Int32) (σ : Sg) : Option (Int32 × Sg) := if nz x9 = true then some (s0 / x9, σ) else none
set_option maxRecDepth 100000 in
set_option maxHeartbeats 4000000 in
theorem sX_hidden_B174 {G : Gx} {q : (Int32 × Sg)} (x9 : Int32) (s0 : Int32) (σ : Sg) (h : fX_hidden_B174 x9 s0 σ = some q) : Vm G MX11_hidden (some (.int q.1)) q.2 174 [(9, .int x9)] [.int s0] σ := by
  unfold fX_hidden_B174 at h
  refine v_iload dX11_hidden_174 0 rfl ?_
  obtain ⟨g22, h⟩ := guard_some h
  refine v_idiv dX11_hidden_176 (nz_ne g22) ?_
  replace h := Option.some.inj h
  subst h
  exact v_iret dX11_hidden_177 rfl rfl rfl rfl rfl
def fX_hidden_b66 (K66 : Int32 → Int32 → Int32 → Int32 → Int32 → Int32 → Int32 → Int32 → Sg → Option (Int32 × Sg)) (x1 : Int32) (x2 : Int32) (x3 : Int32) (x4 : Int32) (x5 : Int32) (x6 : Int32) (x7 : Int32) (x8 : Int32) (σ : Sg) : Option (Int32 × Sg) := if x5 < x8 then ((fX_power 10 x6 σ).bind fun q12 => (fX_commonDivisor x7 q12 σ).bind fun q13 => if x4 = 0 then fX_hidden_B174 q13 x7 σ else fX_hidden_B174 q13 q12 σ) else if (x8 &&& (x5 ^^^ (-1))) = 0 then ((fJ_bitCount x8 σ).bind fun q16 => (fX_power x3 q16 σ).bind fun q17 => (fX_power (10 - x3) (x6 - q16) σ).bind fun q18 => if (q17 * q18) = 0 then fX_hidden_B134 K66 x1 x2 x3 x4 x5 x6 x8 x7 σ else (fX_isBroughtHiding x1 x2 x8 σ).bind fun q20 => if q20.1 = 0 then fX_hidden_B134 K66 x1 x2 x3 x4 x5 x6 x8 x7 q20.2 else fX_hidden_B135 K66 x1 x2 x3 x4 x5 x6 x8 (q17 * q18) x7 q20.2) else fX_hidden_B138 K66 x1 x2 x3 x4 x5 x6 x7 x8 σ
def fX_hidden_L66 (n : Nat) : Int32 → Int32 → Int32 → Int32 → Int32 → Int32 → Int32 → Int32 → Sg → Option (Int32 × Sg) := Nat.rec (fun _ _ _ _ _ _ _ _ _ => none) (fun _ K => fX_hidden_b66 K) n
set_option maxRecDepth 100000 in
set_option maxHeartbeats 4000000 in
theorem sX_hidden_b66 {G : Gx} {q : (Int32 × Sg)} (K66 : Int32 → Int32 → Int32 → Int32 → Int32 → Int32 → Int32 → Int32 → Sg → Option (Int32 × Sg)) (hK66 : ∀ (x1 : Int32) (x2 : Int32) (x3 : Int32) (x4 : Int32) (x5 : Int32) (x6 : Int32) (x7 : Int32) (x8 : Int32) (σ : Sg), K66 x1 x2 x3 x4 x5 x6 x7 x8 σ = some q → Vm G MX11_hidden (some (.int q.1)) q.2 66 [(0, .ref (gb G + 0)), (1, .int x1), (2, .int x2), (3, .int x3), (4, .int x4), (5, .int x5), (6, .int x6), (7, .int x7), (8, .int x8)] [] σ) (x1 : Int32) (x2 : Int32) (x3 : Int32) (x4 : Int32) (x5 : Int32) (x6 : Int32) (x7 : Int32) (x8 : Int32) (σ : Sg) (h : fX_hidden_b66 K66 x1 x2 x3 x4 x5 x6 x7 x8 σ = some q) : Vm G MX11_hidden (some (.int q.1)) q.2 66 [(0, .ref (gb G + 0)), (1, .int x1), (2, .int x2), (3, .int x3), (4, .int x4), (5, .int x5), (6, .int x6), (7, .int x7), (8, .int x8)] [] σ := by
  unfold fX_hidden_b66 at h
  refine v_iload dX11_hidden_66 8 rfl (v_iload dX11_hidden_68 5 rfl (v_icmp_gt (tgt := 144) dX11_hidden_70 (by decide) (fun c11 => ?_) (fun c11 => ?_)))
  · replace h := ite_t c11 h
    refine v_bipush (v := 10) dX11_hidden_144 rfl (v_iload dX11_hidden_146 6 rfl ?_)
    obtain ⟨q12, hq12, h⟩ := bind_some h
    refine v_callS (As := [.int 10, .int x6]) (S := []) dX11_hidden_148 tw560 tw561 ykX11_power rfl (by decide) rfl rfl (Nat.le_of_ble_eq_true rfl) (by decide) (eX_power 10 x6 _ _ hq12) ?_
    refine v_istore dX11_hidden_151 [0, 5, 8] rfl (by decide) (v_iload dX11_hidden_153 2 rfl (v_iload dX11_hidden_155 0 rfl ?_))
    obtain ⟨q13, hq13, h⟩ := bind_some h
    refine v_callS (As := [.int x7, .int q12]) (S := []) dX11_hidden_157 tw567 tw568 ykX11_commonDivisor rfl (by decide) rfl rfl (Nat.le_of_ble_eq_true rfl) (by decide) (eX_commonDivisor x7 q12 _ _ hq13) ?_
    refine v_istore dX11_hidden_160 [0, 1, 2, 3] rfl (by decide) (v_iload dX11_hidden_162 2 rfl (v_if_ne (tgt := 172) dX11_hidden_164 (by decide) (fun c14 => ?_) (fun c14 => ?_)))
    · replace h := ite_f c14 h
      exact v_iload dX11_hidden_172 1 rfl (v_sub [0] rfl (sX_hidden_B174 q13 q12 _ h))
    · replace h := ite_t c14 h
      exact v_iload dX11_hidden_167 3 rfl (v_goto (tgt := 174) dX11_hidden_169 (by decide) (v_sub [0] rfl (sX_hidden_B174 q13 x7 _ h)))
  · replace h := ite_f c11 h
    refine v_iload dX11_hidden_73 8 rfl (v_iload dX11_hidden_75 5 rfl (v_iconst (v := -1) dX11_hidden_77 rfl (v_ixor dX11_hidden_78 (v_iand dX11_hidden_79 (v_if_ne (tgt := 138) dX11_hidden_80 (by decide) (fun c15 => ?_) (fun c15 => ?_))))))
    · replace h := ite_f c15 h
      exact sX_hidden_B138 K66 hK66 x1 x2 x3 x4 x5 x6 x7 x8 _ h
    · replace h := ite_t c15 h
      refine v_iload dX11_hidden_83 8 rfl ?_
      obtain ⟨q16, hq16, h⟩ := bind_some h
      refine v_callS (As := [.int x8]) (S := []) dX11_hidden_85 tw526 tw527 ykJ6_bitCount_0f7a4 rfl (by decide) rfl rfl (Nat.le_of_ble_eq_true rfl) (by decide) (eJ_bitCount x8 _ _ hq16) ?_
      refine v_istore dX11_hidden_88 [0, 1, 2, 3, 4, 5, 6, 7, 8, 9] rfl (by decide) (v_iload_n dX11_hidden_90 4 rfl rfl (v_iload dX11_hidden_91 0 rfl ?_))
      obtain ⟨q17, hq17, h⟩ := bind_some h
      refine v_callS (As := [.int x3, .int q16]) (S := []) dX11_hidden_93 tw560 tw561 ykX11_power rfl (by decide) rfl rfl (Nat.le_of_ble_eq_true rfl) (by decide) (eX_power x3 q16 _ _ hq17) ?_
      refine v_bipush (v := 10) dX11_hidden_96 rfl (v_iload_n dX11_hidden_98 4 rfl rfl (v_isub dX11_hidden_99 (v_iload dX11_hidden_100 7 rfl (v_iload dX11_hidden_102 0 rfl (v_isub dX11_hidden_104 ?_)))))
      obtain ⟨q18, hq18, h⟩ := bind_some h
      refine v_callS (As := [.int (10 - x3), .int (x6 - q16)]) (S := [.int q17]) dX11_hidden_105 tw560 tw561 ykX11_power rfl (by decide) rfl rfl (Nat.le_of_ble_eq_true rfl) (by decide) (eX_power (10 - x3) (x6 - q16) _ _ hq18) ?_
      refine v_imul dX11_hidden_108 (v_istore dX11_hidden_109 [0, 2, 3, 4, 5, 6, 7, 8, 9, 10] rfl (by decide) (v_iload dX11_hidden_111 8 rfl (v_iload dX11_hidden_113 0 rfl (v_if_eq (tgt := 134) dX11_hidden_115 (by decide) (fun c19 => ?_) (fun c19 => ?_)))))
      · replace h := ite_t c19 h
        exact v_sub [1, 2, 3, 4, 5, 6, 7, 9] rfl (sX_hidden_B134 K66 hK66 x1 x2 x3 x4 x5 x6 x8 x7 _ h)
      · replace h := ite_f c19 h
        refine v_aload_n dX11_hidden_118 1 rfl rfl (v_iload_n dX11_hidden_119 2 rfl rfl (v_iload_n dX11_hidden_120 3 rfl rfl (v_iload dX11_hidden_121 9 rfl ?_)))
        obtain ⟨q20, hq20, h⟩ := bind_some h
        refine v_callV (As := [.int x1, .int x2, .int x8]) (S := [.int x7]) dX11_hidden_123 tw563 tw565 tw13 ykX11_isBroughtHiding lc_0 shc_0 (by decide) ok_10 rfl (by decide) rfl rfl (Nat.le_of_ble_eq_true rfl) (by decide) (eX_isBroughtHiding x1 x2 x8 _ _ hq20) ?_
        refine v_if_eq (tgt := 134) dX11_hidden_126 (by decide) (fun c21 => ?_) (fun c21 => ?_)
        · replace h := ite_t c21 h
          exact v_sub [1, 2, 3, 4, 5, 6, 7, 9] rfl (sX_hidden_B134 K66 hK66 x1 x2 x3 x4 x5 x6 x8 x7 _ h)
        · replace h := ite_f c21 h
          exact v_iload dX11_hidden_129 0 rfl (v_goto (tgt := 135) dX11_hidden_131 (by decide) (v_sub [1, 2, 3, 4, 5, 6, 7, 9] rfl (sX_hidden_B135 K66 hK66 x1 x2 x3 x4 x5 x6 x8 (q17 * q18) x7 _ h)))
theorem sX_hidden_L66 {G : Gx} {q : (Int32 × Sg)} (n : Nat) : ∀ (x1 : Int32) (x2 : Int32) (x3 : Int32) (x4 : Int32) (x5 : Int32) (x6 : Int32) (x7 : Int32) (x8 : Int32) (σ : Sg) (h : fX_hidden_L66 n x1 x2 x3 x4 x5 x6 x7 x8 σ = some q), Vm G MX11_hidden (some (.int q.1)) q.2 66 [(0, .ref (gb G + 0)), (1, .int x1), (2, .int x2), (3, .int x3), (4, .int x4), (5, .int x5), (6, .int x6), (7, .int x7), (8, .int x8)] [] σ := by
  induction n with
  | zero => intro x1 x2 x3 x4 x5 x6 x7 x8 σ h; cases h
  | succ n ih => intro x1 x2 x3 x4 x5 x6 x7 x8 σ h; exact sX_hidden_b66  _ ih x1 x2 x3 x4 x5 x6 x7 x8 σ h
def fX_hidden (x1 : Int32) (x2 : Int32) (x3 : Int32) (x4 : Int32) (σ : Sg) : Option (Int32 × Sg) := (fX_isPerson x1 σ).bind fun q1 => if q1 = 0 then some ((-1000001), σ) else (fX_isWithin x2 0 60 σ).bind fun q3 => if q3 = 0 then some ((-1000001), σ) else (fX_isWithin x3 0 10 σ).bind fun q5 => if q5 = 0 then some ((-1000001), σ) else (fX_isWithin x4 0 1 σ).bind fun q7 => if q7 = 0 then some ((-1000001), σ) else (fH_showing 4 σ).bind fun q9 => (fJ_bitCount q9 σ).bind fun q10 => fX_hidden_L66 2000 x1 x2 x3 x4 q9 q10 0 0 σ
set_option maxRecDepth 100000 in
set_option maxHeartbeats 4000000 in
theorem eX_hidden {G : Gx} (x1 : Int32) (x2 : Int32) (x3 : Int32) (x4 : Int32) (σ : Sg) (q : (Int32 × Sg)) (h : fX_hidden x1 x2 x3 x4 σ = some q) : Evm G yX11_hidden MX11_hidden [.ref (gb G + 0), .int x1, .int x2, .int x3, .int x4] σ (some (.int q.1)) q.2 := by
  refine Ev.of (by decide +kernel) rfl rfl (Nat.le_of_ble_eq_true rfl) ?_
  show Vm G MX11_hidden (some (.int q.1)) q.2 0 [(0, .ref (gb G + 0)), (1, .int x1), (2, .int x2), (3, .int x3), (4, .int x4)] [] σ
  unfold fX_hidden at h
  refine v_aload_n dX11_hidden_0 0 rfl rfl (v_iload_n dX11_hidden_1 1 rfl rfl ?_)
  obtain ⟨q1, hq1, h⟩ := bind_some h
  refine v_callV (As := [.int x1]) (S := []) dX11_hidden_2 tw440 tw442 tw9 ykX11_isPerson lc_0 shc_0 (by decide) ok_10 rfl (by decide) rfl rfl (Nat.le_of_ble_eq_true rfl) (by decide) (eX_isPerson x1 _ _ hq1) ?_
  refine v_if_eq (tgt := 18) dX11_hidden_5 (by decide) (fun c2 => ?_) (fun c2 => ?_)
  · replace h := ite_t c2 h
    refine v_ldc dX11_hidden_18 tw297 ?_
    replace h := Option.some.inj h
    subst h
    exact v_iret dX11_hidden_20 rfl rfl rfl rfl rfl
  · replace h := ite_f c2 h
    refine v_iload_n dX11_hidden_8 2 rfl rfl (v_iconst dX11_hidden_9 rfl (v_bipush (v := 60) dX11_hidden_10 rfl ?_))
    obtain ⟨q3, hq3, h⟩ := bind_some h
    refine v_callS (As := [.int x2, .int 0, .int 60]) (S := []) dX11_hidden_12 tw294 tw295 ykX11_isWithin rfl (by decide) rfl rfl (Nat.le_of_ble_eq_true rfl) (by decide) (eX_isWithin x2 0 60 _ _ hq3) ?_
    refine v_if_ne (tgt := 21) dX11_hidden_15 (by decide) (fun c4 => ?_) (fun c4 => ?_)
    · replace h := ite_f c4 h
      refine v_iload_n dX11_hidden_21 3 rfl rfl (v_iconst dX11_hidden_22 rfl (v_bipush (v := 10) dX11_hidden_23 rfl ?_))
      obtain ⟨q5, hq5, h⟩ := bind_some h
      refine v_callS (As := [.int x3, .int 0, .int 10]) (S := []) dX11_hidden_25 tw294 tw295 ykX11_isWithin rfl (by decide) rfl rfl (Nat.le_of_ble_eq_true rfl) (by decide) (eX_isWithin x3 0 10 _ _ hq5) ?_
      refine v_if_eq (tgt := 41) dX11_hidden_28 (by decide) (fun c6 => ?_) (fun c6 => ?_)
      · replace h := ite_t c6 h
        refine v_ldc dX11_hidden_41 tw297 ?_
        replace h := Option.some.inj h
        subst h
        exact v_iret dX11_hidden_43 rfl rfl rfl rfl rfl
      · replace h := ite_f c6 h
        refine v_iload dX11_hidden_31 4 rfl (v_iconst dX11_hidden_33 rfl (v_iconst dX11_hidden_34 rfl ?_))
        obtain ⟨q7, hq7, h⟩ := bind_some h
        refine v_callS (As := [.int x4, .int 0, .int 1]) (S := []) dX11_hidden_35 tw294 tw295 ykX11_isWithin rfl (by decide) rfl rfl (Nat.le_of_ble_eq_true rfl) (by decide) (eX_isWithin x4 0 1 _ _ hq7) ?_
        refine v_if_ne (tgt := 44) dX11_hidden_38 (by decide) (fun c8 => ?_) (fun c8 => ?_)
        · replace h := ite_f c8 h
          refine v_aload_n dX11_hidden_44 0 rfl rfl (vm_getR (t := 4) dX11_hidden_45 fsX11_25 lc_0 shc_0 (by decide) rf_0_2 ?_)
          obtain ⟨q9, hq9, h⟩ := bind_some h
          refine v_callV (As := []) (S := []) dX11_hidden_48 tw556 tw557 tw558 ykX4_showing ((isH_s isH_4).2.1) ((isH_s isH_4).1.1) (by decide) ok_4 rfl (by decide) rfl rfl (Nat.le_of_ble_eq_true rfl) (by decide) (eH_showing 4 isH_4 _ _ hq9) ?_
          refine v_istore dX11_hidden_51 [0, 1, 2, 3, 4, 5] rfl (by decide) (v_iload dX11_hidden_53 0 rfl ?_)
          obtain ⟨q10, hq10, h⟩ := bind_some h
          refine v_callS (As := [.int q9]) (S := []) dX11_hidden_55 tw526 tw527 ykJ6_bitCount_0f7a4 rfl (by decide) rfl rfl (Nat.le_of_ble_eq_true rfl) (by decide) (eJ_bitCount q9 _ _ hq10) ?_
          exact v_istore dX11_hidden_58 [0, 1, 2, 3, 4, 5, 6] rfl (by decide) (v_iconst dX11_hidden_60 rfl (v_istore dX11_hidden_61 [0, 1, 2, 3, 4, 5, 6, 7] rfl (by decide) (v_iconst dX11_hidden_63 rfl (v_istore dX11_hidden_64 [0, 1, 2, 3, 4, 5, 6, 7, 8] rfl (by decide) (v_sub [4, 5, 6, 7, 8, 3, 2, 1, 0] rfl (sX_hidden_L66 2000 x1 x2 x3 x4 q9 q10 0 0 _ h))))))
        · replace h := ite_t c8 h
          refine v_ldc dX11_hidden_41 tw297 ?_
          replace h := Option.some.inj h
          subst h
          exact v_iret dX11_hidden_43 rfl rfl rfl rfl rfl
    · replace h := ite_t c4 h
      refine v_ldc dX11_hidden_18 tw297 ?_
      replace h := Option.some.inj h
      subst h
      exact v_iret dX11_hidden_20 rfl rfl rfl rfl rfl
def fX_drawn_b60 (K60 : Int32 → Int32 → Int64 → Int32 → Sg → Option (Int32 × Sg)) (x1 : Int32) (x3 : Int32) (x4 : Int64) (x6 : Int32) (σ : Sg) : Option (Int32 × Sg) := if x1 ≤ x6 then (if x3 = 0 then ((fJ_bitCount (σ 10 9) σ).bind fun q11 => some (q11, σ)) else some (σ 10 7, σ)) else (fH_stray 10 ((x4 * 16807) - (x4 * 16807) / 2147483647 * 2147483647) σ).bind fun q12 => (fH_advance 10 q12).bind fun q13 => K60 x1 x3 ((x4 * 16807) - (x4 * 16807) / 2147483647 * 2147483647) (x6 + 1) q13
def fX_drawn_L60 (n : Nat) : Int32 → Int32 → Int64 → Int32 → Sg → Option (Int32 × Sg) := Nat.rec (fun _ _ _ _ _ => none) (fun _ K => fX_drawn_b60 K) n
set_option maxRecDepth 100000 in
set_option maxHeartbeats 4000000 in
theorem sX_drawn_b60 {G : Gx} {q : (Int32 × Sg)} (K60 : Int32 → Int32 → Int64 → Int32 → Sg → Option (Int32 × Sg)) (hK60 : ∀ (x1 : Int32) (x3 : Int32) (x4 : Int64) (x6 : Int32) (σ : Sg), K60 x1 x3 x4 x6 σ = some q → Vm G MX11_drawn (some (.int q.1)) q.2 60 [(0, .ref (gb G + 0)), (1, .int x1), (3, .int x3), (4, .long x4), (6, .int x6)] [] σ) (x1 : Int32) (x3 : Int32) (x4 : Int64) (x6 : Int32) (σ : Sg) (h : fX_drawn_b60 K60 x1 x3 x4 x6 σ = some q) : Vm G MX11_drawn (some (.int q.1)) q.2 60 [(0, .ref (gb G + 0)), (1, .int x1), (3, .int x3), (4, .long x4), (6, .int x6)] [] σ := by
  unfold fX_drawn_b60 at h
  refine v_iload dX11_drawn_60 4 rfl (v_iload_n dX11_drawn_62 1 rfl rfl (v_icmp_ge (tgt := 100) dX11_drawn_63 (by decide) (fun c9 => ?_) (fun c9 => ?_)))
  · replace h := ite_t c9 h
    refine v_iload_n dX11_drawn_100 2 rfl rfl (v_if_ne (tgt := 117) dX11_drawn_101 (by decide) (fun c10 => ?_) (fun c10 => ?_))
    · replace h := ite_f c10 h
      refine v_aload_n dX11_drawn_117 0 rfl rfl (vm_getR (t := 10) dX11_drawn_118 fsX11_29 lc_0 shc_0 (by decide) rf_0_3 (vm_getI dX11_drawn_121 fsX11_166 ((isH_s isH_10).2.1) ((isH_s isH_10).1.1) (by decide) ((isH_r isH_10).2.2.2.1) ?_))
      replace h := Option.some.inj h
      subst h
      exact v_iret dX11_drawn_124 rfl rfl rfl rfl rfl
    · replace h := ite_t c10 h
      refine v_aload_n dX11_drawn_104 0 rfl rfl (vm_getR (t := 10) dX11_drawn_105 fsX11_29 lc_0 shc_0 (by decide) rf_0_3 (vm_getI dX11_drawn_108 fsX11_217 ((isH_s isH_10).2.1) ((isH_s isH_10).1.1) (by decide) ((isH_r isH_10).2.2.2.2.2.1) ?_))
      obtain ⟨q11, hq11, h⟩ := bind_some h
      refine v_callS (As := [.int (σ 10 9)]) (S := []) dX11_drawn_111 tw526 tw527 ykJ6_bitCount_0f7a4 rfl (by decide) rfl rfl (Nat.le_of_ble_eq_true rfl) (by decide) (eJ_bitCount (σ 10 9) _ _ hq11) ?_
      refine v_goto (tgt := 124) dX11_drawn_114 (by decide) ?_
      replace h := Option.some.inj h
      subst h
      exact v_iret dX11_drawn_124 rfl rfl rfl rfl rfl
  · replace h := ite_f c9 h
    refine v_lload dX11_drawn_66 3 rfl (v_ldc2 dX11_drawn_68 tw578 (v_lmul dX11_drawn_71 (v_ldc2 dX11_drawn_72 tw579 (v_lrem dX11_drawn_75 (by decide) (v_lstore dX11_drawn_76 [0, 1, 2, 3, 4] rfl (by decide) (v_aload_n dX11_drawn_78 1 rfl rfl (vm_getR (t := 10) dX11_drawn_79 fsX11_29 lc_0 shc_0 (by decide) rf_0_3 (v_lload dX11_drawn_82 0 rfl ?_))))))))
    obtain ⟨q12, hq12, h⟩ := bind_some h
    refine v_callV (As := [.long ((x4 * 16807) - (x4 * 16807) / 2147483647 * 2147483647)]) (S := []) dX11_drawn_84 tw580 tw581 tw582 ykX4_stray ((isH_s isH_10).2.1) ((isH_s isH_10).1.1) (by decide) ok_4 rfl (by decide) rfl rfl (Nat.le_of_ble_eq_true rfl) (by decide) (eH_stray 10 isH_10 ((x4 * 16807) - (x4 * 16807) / 2147483647 * 2147483647) _ _ hq12) ?_
    refine v_aload_n dX11_drawn_87 1 rfl rfl (vm_getR (t := 10) dX11_drawn_88 fsX11_29 lc_0 shc_0 (by decide) rf_0_3 ?_)
    obtain ⟨q13, hq13, h⟩ := bind_some h
    refine v_callV (As := []) (S := []) dX11_drawn_91 tw409 tw410 tw411 ykX4_advance ((isH_s isH_10).2.1) ((isH_s isH_10).1.1) (by decide) ok_4 rfl (by decide) rfl rfl (Nat.le_of_ble_eq_true rfl) (by decide) (eH_advance 10 isH_10 _ _ hq13) ?_
    exact v_iinc (v := x6 + 1) dX11_drawn_94 4 rfl rfl [0, 1, 2, 3, 4] rfl (by decide) (v_goto (tgt := 60) dX11_drawn_97 (by decide) (v_sub [2, 3, 4, 1, 0] rfl (hK60 x1 x3 ((x4 * 16807) - (x4 * 16807) / 2147483647 * 2147483647) (x6 + 1) _ h)))
theorem sX_drawn_L60 {G : Gx} {q : (Int32 × Sg)} (n : Nat) : ∀ (x1 : Int32) (x3 : Int32) (x4 : Int64) (x6 : Int32) (σ : Sg) (h : fX_drawn_L60 n x1 x3 x4 x6 σ = some q), Vm G MX11_drawn (some (.int q.1)) q.2 60 [(0, .ref (gb G + 0)), (1, .int x1), (3, .int x3), (4, .long x4), (6, .int x6)] [] σ := by
  induction n with
  | zero => intro x1 x3 x4 x6 σ h; cases h
  | succ n ih => intro x1 x3 x4 x6 σ h; exact sX_drawn_b60  _ ih x1 x3 x4 x6 σ h
def fX_drawn (x1 : Int32) (x2 : Int32) (x3 : Int32) (σ : Sg) : Option (Int32 × Sg) := if (σ 0 9) = 0 then some ((-1000002), σ) else (fX_isWithin x1 0 60 σ).bind fun q2 => if q2 = 0 then some ((-1000001), σ) else (fX_isWithin x2 1 999999 σ).bind fun q4 => if q4 = 0 then some ((-1000001), σ) else (fX_isWithin x3 0 1 σ).bind fun q6 => if q6 = 0 then some ((-1000001), σ) else (fH_become 10 4 σ).bind fun q8 => fX_drawn_L60 2000 x1 x3 x2.toInt64 0 q8
set_option maxRecDepth 100000 in
set_option maxHeartbeats 4000000 in
theorem eX_drawn {G : Gx} (x1 : Int32) (x2 : Int32) (x3 : Int32) (σ : Sg) (q : (Int32 × Sg)) (h : fX_drawn x1 x2 x3 σ = some q) : Evm G yX11_drawn MX11_drawn [.ref (gb G + 0), .int x1, .int x2, .int x3] σ (some (.int q.1)) q.2 := by
  refine Ev.of (by decide +kernel) rfl rfl (Nat.le_of_ble_eq_true rfl) ?_
  show Vm G MX11_drawn (some (.int q.1)) q.2 0 [(0, .ref (gb G + 0)), (1, .int x1), (2, .int x2), (3, .int x3)] [] σ
  unfold fX_drawn at h
  refine v_aload_n dX11_drawn_0 0 rfl rfl (vm_getI dX11_drawn_1 fsX11_149 lc_0 shc_0 (by decide) rf_0_9 (v_if_ne (tgt := 10) dX11_drawn_4 (by decide) (fun c1 => ?_) (fun c1 => ?_)))
  · replace h := ite_f c1 h
    refine v_iload_n dX11_drawn_10 1 rfl rfl (v_iconst dX11_drawn_11 rfl (v_bipush (v := 60) dX11_drawn_12 rfl ?_))
    obtain ⟨q2, hq2, h⟩ := bind_some h
    refine v_callS (As := [.int x1, .int 0, .int 60]) (S := []) dX11_drawn_14 tw294 tw295 ykX11_isWithin rfl (by decide) rfl rfl (Nat.le_of_ble_eq_true rfl) (by decide) (eX_isWithin x1 0 60 _ _ hq2) ?_
    refine v_if_eq (tgt := 39) dX11_drawn_17 (by decide) (fun c3 => ?_) (fun c3 => ?_)
    · replace h := ite_t c3 h
      refine v_ldc dX11_drawn_39 tw297 ?_
      replace h := Option.some.inj h
      subst h
      exact v_iret dX11_drawn_41 rfl rfl rfl rfl rfl
    · replace h := ite_f c3 h
      refine v_iload_n dX11_drawn_20 2 rfl rfl (v_iconst dX11_drawn_21 rfl (v_ldc dX11_drawn_22 tw577 ?_))
      obtain ⟨q4, hq4, h⟩ := bind_some h
      refine v_callS (As := [.int x2, .int 1, .int 999999]) (S := []) dX11_drawn_24 tw294 tw295 ykX11_isWithin rfl (by decide) rfl rfl (Nat.le_of_ble_eq_true rfl) (by decide) (eX_isWithin x2 1 999999 _ _ hq4) ?_
      refine v_if_eq (tgt := 39) dX11_drawn_27 (by decide) (fun c5 => ?_) (fun c5 => ?_)
      · replace h := ite_t c5 h
        refine v_ldc dX11_drawn_39 tw297 ?_
        replace h := Option.some.inj h
        subst h
        exact v_iret dX11_drawn_41 rfl rfl rfl rfl rfl
      · replace h := ite_f c5 h
        refine v_iload_n dX11_drawn_30 3 rfl rfl (v_iconst dX11_drawn_31 rfl (v_iconst dX11_drawn_32 rfl ?_))
        obtain ⟨q6, hq6, h⟩ := bind_some h
        refine v_callS (As := [.int x3, .int 0, .int 1]) (S := []) dX11_drawn_33 tw294 tw295 ykX11_isWithin rfl (by decide) rfl rfl (Nat.le_of_ble_eq_true rfl) (by decide) (eX_isWithin x3 0 1 _ _ hq6) ?_
        refine v_if_ne (tgt := 42) dX11_drawn_36 (by decide) (fun c7 => ?_) (fun c7 => ?_)
        · replace h := ite_f c7 h
          refine v_aload_n dX11_drawn_42 0 rfl rfl (vm_getR (t := 10) dX11_drawn_43 fsX11_29 lc_0 shc_0 (by decide) rf_0_3 (v_aload_n dX11_drawn_46 0 rfl rfl (vm_getR (t := 4) dX11_drawn_47 fsX11_25 lc_0 shc_0 (by decide) rf_0_2 ?_)))
          obtain ⟨q8, hq8, h⟩ := bind_some h
          refine v_callV (As := [.ref (gb G + 4)]) (S := []) dX11_drawn_50 tw383 tw384 tw385 ykX4_become ((isH_s isH_10).2.1) ((isH_s isH_10).1.1) (by decide) ok_4 rfl (by decide) rfl rfl (Nat.le_of_ble_eq_true rfl) (by decide) (eH_become 10 isH_10 4 isH_4 _ _ hq8) ?_
          exact v_iload_n dX11_drawn_53 2 rfl rfl (v_i2l dX11_drawn_54 (v_lstore dX11_drawn_55 [0, 1, 2, 4] rfl (by decide) (v_iconst dX11_drawn_57 rfl (v_istore dX11_drawn_58 [0, 1, 2, 3, 4] rfl (by decide) (v_sub [2, 3, 4, 1, 0] rfl (sX_drawn_L60 2000 x1 x3 x2.toInt64 0 _ h))))))
        · replace h := ite_t c7 h
          refine v_ldc dX11_drawn_39 tw297 ?_
          replace h := Option.some.inj h
          subst h
          exact v_iret dX11_drawn_41 rfl rfl rfl rfl rfl
  · replace h := ite_t c1 h
    refine v_ldc dX11_drawn_7 tw400 ?_
    replace h := Option.some.inj h
    subst h
    exact v_iret dX11_drawn_9 rfl rfl rfl rfl rfl
def fX_image (x1 : Int32) (σ : Sg) : Option (Int32 × Sg) := (fX_isWithin x1 0 1 σ).bind fun q1 => if q1 = 0 then some ((-1000001), σ) else if (σ 0 9) = 0 then some ((-1000002), σ) else if inb x1 2 = true then (fH_become (188 + 6 * ix x1) 4 σ).bind fun q5 => ltc (wr q5 17 (ix x1) 1) fun σ6 => some (1, σ6) else none
set_option maxRecDepth 100000 in
set_option maxHeartbeats 4000000 in
theorem eX_image {G : Gx} (x1 : Int32) (σ : Sg) (q : (Int32 × Sg)) (h : fX_image x1 σ = some q) : Evm G yX11_image MX11_image [.ref (gb G + 0), .int x1] σ (some (.int q.1)) q.2 := by
  refine Ev.of (by decide +kernel) rfl rfl (Nat.le_of_ble_eq_true rfl) ?_
  show Vm G MX11_image (some (.int q.1)) q.2 0 [(0, .ref (gb G + 0)), (1, .int x1)] [] σ
  unfold fX_image at h
  refine v_iload_n dX11_image_0 1 rfl rfl (v_iconst dX11_image_1 rfl (v_iconst dX11_image_2 rfl ?_))
  obtain ⟨q1, hq1, h⟩ := bind_some h
  refine v_callS (As := [.int x1, .int 0, .int 1]) (S := []) dX11_image_3 tw294 tw295 ykX11_isWithin rfl (by decide) rfl rfl (Nat.le_of_ble_eq_true rfl) (by decide) (eX_isWithin x1 0 1 _ _ hq1) ?_
  refine v_if_ne (tgt := 12) dX11_image_6 (by decide) (fun c2 => ?_) (fun c2 => ?_)
  · replace h := ite_f c2 h
    refine v_aload_n dX11_image_12 0 rfl rfl (vm_getI dX11_image_13 fsX11_149 lc_0 shc_0 (by decide) rf_0_9 (v_if_ne (tgt := 22) dX11_image_16 (by decide) (fun c3 => ?_) (fun c3 => ?_)))
    · replace h := ite_f c3 h
      refine v_aload_n dX11_image_22 0 rfl rfl (vm_getR (t := 16) dX11_image_23 fsX11_32 lc_0 shc_0 (by decide) rf_0_4 (v_iload_n dX11_image_26 1 rfl rfl ?_))
      obtain ⟨g4, h⟩ := guard_some h
      refine vm_aald (r := (188 + 6 * ix x1)) (by decide) dX11_image_27 lc_16 sha_16 g4 rfl (v_aload_n dX11_image_28 0 rfl rfl (vm_getR (t := 4) dX11_image_29 fsX11_25 lc_0 shc_0 (by decide) rf_0_2 ?_))
      obtain ⟨q5, hq5, h⟩ := bind_some h
      refine v_callV (As := [.ref (gb G + 4)]) (S := []) dX11_image_32 tw383 tw384 tw385 ykX4_become ((isH_s (isH_im g4)).2.1) ((isH_s (isH_im g4)).1.1) (by decide) ok_4 rfl (by decide) rfl rfl (Nat.le_of_ble_eq_true rfl) (by decide) (eH_become (188 + 6 * ix x1) ((isH_im g4)) 4 isH_4 _ _ hq5) ?_
      refine v_aload_n dX11_image_35 0 rfl rfl (vm_getR (t := 17) dX11_image_36 fsX11_36 lc_0 shc_0 (by decide) rf_0_5 (v_iload_n dX11_image_39 1 rfl rfl (v_iconst dX11_image_40 rfl ?_)))
      obtain ⟨σ6, eσ6, h⟩ := ltc_some h
      refine vn_zast dX11_image_41 lc_17 sha_17 g4 rfl (by decide) eσ6 (v_iconst dX11_image_42 rfl ?_)
      replace h := Option.some.inj h
      subst h
      exact v_iret dX11_image_43 rfl rfl rfl rfl rfl
    · replace h := ite_t c3 h
      refine v_ldc dX11_image_19 tw400 ?_
      replace h := Option.some.inj h
      subst h
      exact v_iret dX11_image_21 rfl rfl rfl rfl rfl
  · replace h := ite_t c2 h
    refine v_ldc dX11_image_9 tw297 ?_
    replace h := Option.some.inj h
    subst h
    exact v_iret dX11_image_11 rfl rfl rfl rfl rfl
def fX_restore (x1 : Int32) (σ : Sg) : Option (Int32 × Sg) := (fX_isWithin x1 0 1 σ).bind fun q1 => if q1 = 0 then some ((-1000001), σ) else if inb x1 2 = true then if (σ 17 (ix x1)) = 0 then some ((-1000002), σ) else (fH_become 4 (188 + 6 * ix x1) σ).bind fun q5 => (fA_forget q5).bind fun q6 => some (1, q6) else none
set_option maxRecDepth 100000 in
set_option maxHeartbeats 4000000 in
theorem eX_restore {G : Gx} (x1 : Int32) (σ : Sg) (q : (Int32 × Sg)) (h : fX_restore x1 σ = some q) : Evm G yX11_restore MX11_restore [.ref (gb G + 0), .int x1] σ (some (.int q.1)) q.2 := by
  refine Ev.of (by decide +kernel) rfl rfl (Nat.le_of_ble_eq_true rfl) ?_
  show Vm G MX11_restore (some (.int q.1)) q.2 0 [(0, .ref (gb G + 0)), (1, .int x1)] [] σ
  unfold fX_restore at h
  refine v_iload_n dX11_restore_0 1 rfl rfl (v_iconst dX11_restore_1 rfl (v_iconst dX11_restore_2 rfl ?_))
  obtain ⟨q1, hq1, h⟩ := bind_some h
  refine v_callS (As := [.int x1, .int 0, .int 1]) (S := []) dX11_restore_3 tw294 tw295 ykX11_isWithin rfl (by decide) rfl rfl (Nat.le_of_ble_eq_true rfl) (by decide) (eX_isWithin x1 0 1 _ _ hq1) ?_
  refine v_if_ne (tgt := 12) dX11_restore_6 (by decide) (fun c2 => ?_) (fun c2 => ?_)
  · replace h := ite_f c2 h
    refine v_aload_n dX11_restore_12 0 rfl rfl (vm_getR (t := 17) dX11_restore_13 fsX11_36 lc_0 shc_0 (by decide) rf_0_5 (v_iload_n dX11_restore_16 1 rfl rfl ?_))
    obtain ⟨g3, h⟩ := guard_some h
    refine vn_zald dX11_restore_17 lc_17 sha_17 g3 rfl (v_if_ne (tgt := 24) dX11_restore_18 (by decide) (fun c4 => ?_) (fun c4 => ?_))
    · replace h := ite_f c4 h
      refine v_aload_n dX11_restore_24 0 rfl rfl (vm_getR (t := 4) dX11_restore_25 fsX11_25 lc_0 shc_0 (by decide) rf_0_2 (v_aload_n dX11_restore_28 0 rfl rfl (vm_getR (t := 16) dX11_restore_29 fsX11_32 lc_0 shc_0 (by decide) rf_0_4 (v_iload_n dX11_restore_32 1 rfl rfl (vm_aald (r := (188 + 6 * ix x1)) (by decide) dX11_restore_33 lc_16 sha_16 g3 rfl ?_)))))
      obtain ⟨q5, hq5, h⟩ := bind_some h
      refine v_callV (As := [.ref (gb G + (188 + 6 * ix x1))]) (S := []) dX11_restore_34 tw383 tw384 tw385 ykX4_become ((isH_s isH_4).2.1) ((isH_s isH_4).1.1) (by decide) ok_4 rfl (by decide) rfl rfl (Nat.le_of_ble_eq_true rfl) (by decide) (eH_become 4 isH_4 (188 + 6 * ix x1) ((isH_im g3)) _ _ hq5) ?_
      refine v_aload_n dX11_restore_37 0 rfl rfl (vm_getR (t := 18) dX11_restore_38 fsX11_43 lc_0 shc_0 (by decide) rf_0_6 ?_)
      obtain ⟨q6, hq6, h⟩ := bind_some h
      refine v_callV (As := []) (S := []) dX11_restore_41 tw388 tw389 tw390 ykX0_forget lc_18 shc_18 (by decide) ok_0 rfl (by decide) rfl rfl (Nat.le_of_ble_eq_true rfl) (by decide) (eA_forget _ _ hq6) ?_
      refine v_iconst dX11_restore_44 rfl ?_
      replace h := Option.some.inj h
      subst h
      exact v_iret dX11_restore_45 rfl rfl rfl rfl rfl
    · replace h := ite_t c4 h
      refine v_ldc dX11_restore_21 tw400 ?_
      replace h := Option.some.inj h
      subst h
      exact v_iret dX11_restore_23 rfl rfl rfl rfl rfl
  · replace h := ite_t c2 h
    refine v_ldc dX11_restore_9 tw297 ?_
    replace h := Option.some.inj h
    subst h
    exact v_iret dX11_restore_11 rfl rfl rfl rfl rfl
def fX_kind (x1 : Int32) (σ : Sg) : Option Int32 := (fX_isPerson x1 σ).bind fun q1 => if q1 = 0 then some (-1000001) else if inb x1 6 = true then some (σ (4 + 1) (ix x1)) else none
set_option maxRecDepth 100000 in
set_option maxHeartbeats 4000000 in
theorem eX_kind {G : Gx} (x1 : Int32) (σ : Sg) (q : Int32) (h : fX_kind x1 σ = some q) : Evm G yX11_kind MX11_kind [.ref (gb G + 0), .int x1] σ (some (.int q)) σ := by
  refine Ev.of (by decide +kernel) rfl rfl (Nat.le_of_ble_eq_true rfl) ?_
  show Vm G MX11_kind (some (.int q)) σ 0 [(0, .ref (gb G + 0)), (1, .int x1)] [] σ
  unfold fX_kind at h
  refine v_aload_n dX11_kind_0 0 rfl rfl (v_iload_n dX11_kind_1 1 rfl rfl ?_)
  obtain ⟨q1, hq1, h⟩ := bind_some h
  refine v_callV (As := [.int x1]) (S := []) dX11_kind_2 tw440 tw442 tw9 ykX11_isPerson lc_0 shc_0 (by decide) ok_10 rfl (by decide) rfl rfl (Nat.le_of_ble_eq_true rfl) (by decide) (eX_isPerson x1 _ _ hq1) ?_
  refine v_if_eq (tgt := 20) dX11_kind_5 (by decide) (fun c2 => ?_) (fun c2 => ?_)
  · replace h := ite_t c2 h
    refine v_ldc dX11_kind_20 tw297 ?_
    replace h := Option.some.inj h
    subst h
    exact v_iret dX11_kind_22 rfl rfl rfl rfl rfl
  · replace h := ite_f c2 h
    refine v_aload_n dX11_kind_8 0 rfl rfl (vm_getR (t := 4) dX11_kind_9 fsX11_25 lc_0 shc_0 (by decide) rf_0_2 (vm_getR (t := (4 + 1)) dX11_kind_12 fsX11_260 ((isH_s isH_4).2.1) ((isH_s isH_4).1.1) (by decide) ((isH_r isH_4).1.1) (v_iload_n dX11_kind_15 1 rfl rfl ?_)))
    obtain ⟨g3, h⟩ := guard_some h
    refine vn_iald dX11_kind_16 ((isH_s isH_4).2.2.1) ((isH_s isH_4).1.2.1) g3 rfl (v_goto (tgt := 22) dX11_kind_17 (by decide) ?_)
    replace h := Option.some.inj h
    subst h
    exact v_iret dX11_kind_22 rfl rfl rfl rfl rfl
def fX_kindOf (x1 : Int32) (σ : Sg) : Option Nat := if inb x1 6 = true then if inb ((σ (4 + 1) (ix x1)) - 1) 5 = true then some (165 + ix ((σ (4 + 1) (ix x1)) - 1)) else none else none
set_option maxRecDepth 100000 in
set_option maxHeartbeats 4000000 in
theorem eX_kindOf {G : Gx} (x1 : Int32) (σ : Sg) (q : Nat) (h : fX_kindOf x1 σ = some q) : Evm G yX11_kindOf MX11_kindOf [.ref (gb G + 0), .int x1] σ (some (.ref (gb G + q))) σ := by
  refine Ev.of (by decide +kernel) rfl rfl (Nat.le_of_ble_eq_true rfl) ?_
  show Vm G MX11_kindOf (some (.ref (gb G + q))) σ 0 [(0, .ref (gb G + 0)), (1, .int x1)] [] σ
  unfold fX_kindOf at h
  refine v_aload_n dX11_kindOf_0 0 rfl rfl (vm_getR (t := 164) dX11_kindOf_1 fsX11_64 lc_0 shc_0 (by decide) rf_0_7 (v_aload_n dX11_kindOf_4 0 rfl rfl (vm_getR (t := 4) dX11_kindOf_5 fsX11_25 lc_0 shc_0 (by decide) rf_0_2 (vm_getR (t := (4 + 1)) dX11_kindOf_8 fsX11_260 ((isH_s isH_4).2.1) ((isH_s isH_4).1.1) (by decide) ((isH_r isH_4).1.1) (v_iload_n dX11_kindOf_11 1 rfl rfl ?_)))))
  obtain ⟨g1, h⟩ := guard_some h
  refine vn_iald dX11_kindOf_12 ((isH_s isH_4).2.2.1) ((isH_s isH_4).1.2.1) g1 rfl (v_iconst dX11_kindOf_13 rfl (v_isub dX11_kindOf_14 ?_))
  obtain ⟨g2, h⟩ := guard_some h
  refine vm_aald (r := (165 + ix ((σ (4 + 1) (ix x1)) - 1))) (by decide) dX11_kindOf_15 lc_164 sha_164 g2 rfl ?_
  replace h := Option.some.inj h
  subst h
  exact v_aret dX11_kindOf_16 rfl rfl rfl rfl rfl
theorem pX_kindOf (x1 : Int32) (σ : Sg) (q : Nat) (h : fX_kindOf x1 σ = some q) : isP q := by
  unfold fX_kindOf at h
  obtain ⟨g1, h⟩ := guard_some h
  obtain ⟨g2, h⟩ := guard_some h
  cases h
  exact isP_of g2
def fX_isOne_165 (x1 : Int32) (σ : Sg) : Option Int32 := if x1 = 1 then some 1 else if x1 = 2 then some 0 else if x1 = 3 then some 0 else if x1 = 4 then some 0 else if x1 = 5 then some 0 else some 1
set_option maxRecDepth 100000 in
set_option maxHeartbeats 4000000 in
theorem eX_isOne_165 {G : Gx} (x1 : Int32) (σ : Sg) (q : Int32) (h : fX_isOne_165 x1 σ = some q) : Evm G yX11_isOne MX11_isOne_165 [.ref (gb G + 165), .int x1] σ (some (.int q)) σ := by
  refine Ev.of (by decide +kernel) rfl rfl (Nat.le_of_ble_eq_true rfl) ?_
  show Vm G MX11_isOne_165 (some (.int q)) σ 0 [(0, .ref (gb G + 165)), (1, .int x1)] [] σ
  unfold fX_isOne_165 at h
  refine v_iload_n dX11_isOne_0 1 rfl rfl ?_
  by_cases c1 : x1 = 1
  · replace h := ite_t c1 h
    refine v_tableAt (tgt := 36) dX11_isOne_1 c1 (by decide) (by decide) (off := 35) (by decide) (by decide) ?_
    refine v_aload_n dX11_isOne_36 0 rfl rfl (v_instS dX11_isOne_37 tw179 lc_165 shc_165 (by decide) ok_2 ?_)
    replace h := Option.some.inj h
    subst h
    exact v_zret dX11_isOne_40 rfl (by decide) rfl rfl rfl rfl
  replace h := ite_f c1 h
  by_cases c2 : x1 = 2
  · replace h := ite_t c2 h
    refine v_tableAt (tgt := 41) dX11_isOne_1 c2 (by decide) (by decide) (off := 40) (by decide) (by decide) ?_
    refine v_aload_n dX11_isOne_41 0 rfl rfl (v_instN dX11_isOne_42 tw189 (by decide +kernel) lc_165 shc_165 (by decide) ok_2 ?_)
    replace h := Option.some.inj h
    subst h
    exact v_zret dX11_isOne_45 rfl (by decide) rfl rfl rfl rfl
  replace h := ite_f c2 h
  by_cases c3 : x1 = 3
  · replace h := ite_t c3 h
    refine v_tableAt (tgt := 46) dX11_isOne_1 c3 (by decide) (by decide) (off := 45) (by decide) (by decide) ?_
    refine v_aload_n dX11_isOne_46 0 rfl rfl (v_instN dX11_isOne_47 tw196 (by decide +kernel) lc_165 shc_165 (by decide) ok_2 ?_)
    replace h := Option.some.inj h
    subst h
    exact v_zret dX11_isOne_50 rfl (by decide) rfl rfl rfl rfl
  replace h := ite_f c3 h
  by_cases c4 : x1 = 4
  · replace h := ite_t c4 h
    refine v_tableAt (tgt := 51) dX11_isOne_1 c4 (by decide) (by decide) (off := 50) (by decide) (by decide) ?_
    refine v_aload_n dX11_isOne_51 0 rfl rfl (v_instN dX11_isOne_52 tw203 (by decide +kernel) lc_165 shc_165 (by decide) ok_2 ?_)
    replace h := Option.some.inj h
    subst h
    exact v_zret dX11_isOne_55 rfl (by decide) rfl rfl rfl rfl
  replace h := ite_f c4 h
  by_cases c5 : x1 = 5
  · replace h := ite_t c5 h
    refine v_tableAt (tgt := 56) dX11_isOne_1 c5 (by decide) (by decide) (off := 55) (by decide) (by decide) ?_
    refine v_aload_n dX11_isOne_56 0 rfl rfl (v_instN dX11_isOne_57 tw210 (by decide +kernel) lc_165 shc_165 (by decide) ok_2 ?_)
    replace h := Option.some.inj h
    subst h
    exact v_zret dX11_isOne_60 rfl (by decide) rfl rfl rfl rfl
  replace h := ite_f c5 h
  have nc1 := i_ne (z := 1) (by decide) c1
  have nc2 := i_ne (z := 2) (by decide) c2
  have nc3 := i_ne (z := 3) (by decide) c3
  have nc4 := i_ne (z := 4) (by decide) c4
  have nc5 := i_ne (z := 5) (by decide) c5
  refine v_tableOut (tgt := 61) dX11_isOne_1 (by omega) (by decide) ?_
  refine v_iconst dX11_isOne_61 rfl ?_
  replace h := Option.some.inj h
  subst h
  exact v_zret dX11_isOne_62 rfl (by decide) rfl rfl rfl rfl
def fX_isOne_166 (x1 : Int32) (σ : Sg) : Option Int32 := if x1 = 1 then some 1 else if x1 = 2 then some 1 else if x1 = 3 then some 0 else if x1 = 4 then some 0 else if x1 = 5 then some 0 else some 1
set_option maxRecDepth 100000 in
set_option maxHeartbeats 4000000 in
theorem eX_isOne_166 {G : Gx} (x1 : Int32) (σ : Sg) (q : Int32) (h : fX_isOne_166 x1 σ = some q) : Evm G yX11_isOne MX11_isOne_166 [.ref (gb G + 166), .int x1] σ (some (.int q)) σ := by
  refine Ev.of (by decide +kernel) rfl rfl (Nat.le_of_ble_eq_true rfl) ?_
  show Vm G MX11_isOne_166 (some (.int q)) σ 0 [(0, .ref (gb G + 166)), (1, .int x1)] [] σ
  unfold fX_isOne_166 at h
  refine v_iload_n dX11_isOne_0 1 rfl rfl ?_
  by_cases c1 : x1 = 1
  · replace h := ite_t c1 h
    refine v_tableAt (tgt := 36) dX11_isOne_1 c1 (by decide) (by decide) (off := 35) (by decide) (by decide) ?_
    refine v_aload_n dX11_isOne_36 0 rfl rfl (v_instY dX11_isOne_37 tw179 (by decide +kernel) lc_166 shc_166 (by decide) ok_9 ?_)
    replace h := Option.some.inj h
    subst h
    exact v_zret dX11_isOne_40 rfl (by decide) rfl rfl rfl rfl
  replace h := ite_f c1 h
  by_cases c2 : x1 = 2
  · replace h := ite_t c2 h
    refine v_tableAt (tgt := 41) dX11_isOne_1 c2 (by decide) (by decide) (off := 40) (by decide) (by decide) ?_
    refine v_aload_n dX11_isOne_41 0 rfl rfl (v_instS dX11_isOne_42 tw189 lc_166 shc_166 (by decide) ok_9 ?_)
    replace h := Option.some.inj h
    subst h
    exact v_zret dX11_isOne_45 rfl (by decide) rfl rfl rfl rfl
  replace h := ite_f c2 h
  by_cases c3 : x1 = 3
  · replace h := ite_t c3 h
    refine v_tableAt (tgt := 46) dX11_isOne_1 c3 (by decide) (by decide) (off := 45) (by decide) (by decide) ?_
    refine v_aload_n dX11_isOne_46 0 rfl rfl (v_instN dX11_isOne_47 tw196 (by decide +kernel) lc_166 shc_166 (by decide) ok_9 ?_)
    replace h := Option.some.inj h
    subst h
    exact v_zret dX11_isOne_50 rfl (by decide) rfl rfl rfl rfl
  replace h := ite_f c3 h
  by_cases c4 : x1 = 4
  · replace h := ite_t c4 h
    refine v_tableAt (tgt := 51) dX11_isOne_1 c4 (by decide) (by decide) (off := 50) (by decide) (by decide) ?_
    refine v_aload_n dX11_isOne_51 0 rfl rfl (v_instN dX11_isOne_52 tw203 (by decide +kernel) lc_166 shc_166 (by decide) ok_9 ?_)
    replace h := Option.some.inj h
    subst h
    exact v_zret dX11_isOne_55 rfl (by decide) rfl rfl rfl rfl
  replace h := ite_f c4 h
  by_cases c5 : x1 = 5
  · replace h := ite_t c5 h
    refine v_tableAt (tgt := 56) dX11_isOne_1 c5 (by decide) (by decide) (off := 55) (by decide) (by decide) ?_
    refine v_aload_n dX11_isOne_56 0 rfl rfl (v_instN dX11_isOne_57 tw210 (by decide +kernel) lc_166 shc_166 (by decide) ok_9 ?_)
    replace h := Option.some.inj h
    subst h
    exact v_zret dX11_isOne_60 rfl (by decide) rfl rfl rfl rfl
  replace h := ite_f c5 h
  have nc1 := i_ne (z := 1) (by decide) c1
  have nc2 := i_ne (z := 2) (by decide) c2
  have nc3 := i_ne (z := 3) (by decide) c3
  have nc4 := i_ne (z := 4) (by decide) c4
  have nc5 := i_ne (z := 5) (by decide) c5
  refine v_tableOut (tgt := 61) dX11_isOne_1 (by omega) (by decide) ?_
  refine v_iconst dX11_isOne_61 rfl ?_
  replace h := Option.some.inj h
  subst h
  exact v_zret dX11_isOne_62 rfl (by decide) rfl rfl rfl rfl
def fX_isOne_167 (x1 : Int32) (σ : Sg) : Option Int32 := if x1 = 1 then some 1 else if x1 = 2 then some 0 else if x1 = 3 then some 1 else if x1 = 4 then some 0 else if x1 = 5 then some 0 else some 1
set_option maxRecDepth 100000 in
set_option maxHeartbeats 4000000 in
theorem eX_isOne_167 {G : Gx} (x1 : Int32) (σ : Sg) (q : Int32) (h : fX_isOne_167 x1 σ = some q) : Evm G yX11_isOne MX11_isOne_167 [.ref (gb G + 167), .int x1] σ (some (.int q)) σ := by
  refine Ev.of (by decide +kernel) rfl rfl (Nat.le_of_ble_eq_true rfl) ?_
  show Vm G MX11_isOne_167 (some (.int q)) σ 0 [(0, .ref (gb G + 167)), (1, .int x1)] [] σ
  unfold fX_isOne_167 at h
  refine v_iload_n dX11_isOne_0 1 rfl rfl ?_
  by_cases c1 : x1 = 1
  · replace h := ite_t c1 h
    refine v_tableAt (tgt := 36) dX11_isOne_1 c1 (by decide) (by decide) (off := 35) (by decide) (by decide) ?_
    refine v_aload_n dX11_isOne_36 0 rfl rfl (v_instY dX11_isOne_37 tw179 (by decide +kernel) lc_167 shc_167 (by decide) ok_5 ?_)
    replace h := Option.some.inj h
    subst h
    exact v_zret dX11_isOne_40 rfl (by decide) rfl rfl rfl rfl
  replace h := ite_f c1 h
  by_cases c2 : x1 = 2
  · replace h := ite_t c2 h
    refine v_tableAt (tgt := 41) dX11_isOne_1 c2 (by decide) (by decide) (off := 40) (by decide) (by decide) ?_
    refine v_aload_n dX11_isOne_41 0 rfl rfl (v_instN dX11_isOne_42 tw189 (by decide +kernel) lc_167 shc_167 (by decide) ok_5 ?_)
    replace h := Option.some.inj h
    subst h
    exact v_zret dX11_isOne_45 rfl (by decide) rfl rfl rfl rfl
  replace h := ite_f c2 h
  by_cases c3 : x1 = 3
  · replace h := ite_t c3 h
    refine v_tableAt (tgt := 46) dX11_isOne_1 c3 (by decide) (by decide) (off := 45) (by decide) (by decide) ?_
    refine v_aload_n dX11_isOne_46 0 rfl rfl (v_instS dX11_isOne_47 tw196 lc_167 shc_167 (by decide) ok_5 ?_)
    replace h := Option.some.inj h
    subst h
    exact v_zret dX11_isOne_50 rfl (by decide) rfl rfl rfl rfl
  replace h := ite_f c3 h
  by_cases c4 : x1 = 4
  · replace h := ite_t c4 h
    refine v_tableAt (tgt := 51) dX11_isOne_1 c4 (by decide) (by decide) (off := 50) (by decide) (by decide) ?_
    refine v_aload_n dX11_isOne_51 0 rfl rfl (v_instN dX11_isOne_52 tw203 (by decide +kernel) lc_167 shc_167 (by decide) ok_5 ?_)
    replace h := Option.some.inj h
    subst h
    exact v_zret dX11_isOne_55 rfl (by decide) rfl rfl rfl rfl
  replace h := ite_f c4 h
  by_cases c5 : x1 = 5
  · replace h := ite_t c5 h
    refine v_tableAt (tgt := 56) dX11_isOne_1 c5 (by decide) (by decide) (off := 55) (by decide) (by decide) ?_
    refine v_aload_n dX11_isOne_56 0 rfl rfl (v_instN dX11_isOne_57 tw210 (by decide +kernel) lc_167 shc_167 (by decide) ok_5 ?_)
    replace h := Option.some.inj h
    subst h
    exact v_zret dX11_isOne_60 rfl (by decide) rfl rfl rfl rfl
  replace h := ite_f c5 h
  have nc1 := i_ne (z := 1) (by decide) c1
  have nc2 := i_ne (z := 2) (by decide) c2
  have nc3 := i_ne (z := 3) (by decide) c3
  have nc4 := i_ne (z := 4) (by decide) c4
  have nc5 := i_ne (z := 5) (by decide) c5
  refine v_tableOut (tgt := 61) dX11_isOne_1 (by omega) (by decide) ?_
  refine v_iconst dX11_isOne_61 rfl ?_
  replace h := Option.some.inj h
  subst h
  exact v_zret dX11_isOne_62 rfl (by decide) rfl rfl rfl rfl
def fX_isOne_168 (x1 : Int32) (σ : Sg) : Option Int32 := if x1 = 1 then some 0 else if x1 = 2 then some 0 else if x1 = 3 then some 0 else if x1 = 4 then some 1 else if x1 = 5 then some 0 else some 1
set_option maxRecDepth 100000 in
set_option maxHeartbeats 4000000 in
theorem eX_isOne_168 {G : Gx} (x1 : Int32) (σ : Sg) (q : Int32) (h : fX_isOne_168 x1 σ = some q) : Evm G yX11_isOne MX11_isOne_168 [.ref (gb G + 168), .int x1] σ (some (.int q)) σ := by
  refine Ev.of (by decide +kernel) rfl rfl (Nat.le_of_ble_eq_true rfl) ?_
  show Vm G MX11_isOne_168 (some (.int q)) σ 0 [(0, .ref (gb G + 168)), (1, .int x1)] [] σ
  unfold fX_isOne_168 at h
  refine v_iload_n dX11_isOne_0 1 rfl rfl ?_
  by_cases c1 : x1 = 1
  · replace h := ite_t c1 h
    refine v_tableAt (tgt := 36) dX11_isOne_1 c1 (by decide) (by decide) (off := 35) (by decide) (by decide) ?_
    refine v_aload_n dX11_isOne_36 0 rfl rfl (v_instN dX11_isOne_37 tw179 (by decide +kernel) lc_168 shc_168 (by decide) ok_1 ?_)
    replace h := Option.some.inj h
    subst h
    exact v_zret dX11_isOne_40 rfl (by decide) rfl rfl rfl rfl
  replace h := ite_f c1 h
  by_cases c2 : x1 = 2
  · replace h := ite_t c2 h
    refine v_tableAt (tgt := 41) dX11_isOne_1 c2 (by decide) (by decide) (off := 40) (by decide) (by decide) ?_
    refine v_aload_n dX11_isOne_41 0 rfl rfl (v_instN dX11_isOne_42 tw189 (by decide +kernel) lc_168 shc_168 (by decide) ok_1 ?_)
    replace h := Option.some.inj h
    subst h
    exact v_zret dX11_isOne_45 rfl (by decide) rfl rfl rfl rfl
  replace h := ite_f c2 h
  by_cases c3 : x1 = 3
  · replace h := ite_t c3 h
    refine v_tableAt (tgt := 46) dX11_isOne_1 c3 (by decide) (by decide) (off := 45) (by decide) (by decide) ?_
    refine v_aload_n dX11_isOne_46 0 rfl rfl (v_instN dX11_isOne_47 tw196 (by decide +kernel) lc_168 shc_168 (by decide) ok_1 ?_)
    replace h := Option.some.inj h
    subst h
    exact v_zret dX11_isOne_50 rfl (by decide) rfl rfl rfl rfl
  replace h := ite_f c3 h
  by_cases c4 : x1 = 4
  · replace h := ite_t c4 h
    refine v_tableAt (tgt := 51) dX11_isOne_1 c4 (by decide) (by decide) (off := 50) (by decide) (by decide) ?_
    refine v_aload_n dX11_isOne_51 0 rfl rfl (v_instS dX11_isOne_52 tw203 lc_168 shc_168 (by decide) ok_1 ?_)
    replace h := Option.some.inj h
    subst h
    exact v_zret dX11_isOne_55 rfl (by decide) rfl rfl rfl rfl
  replace h := ite_f c4 h
  by_cases c5 : x1 = 5
  · replace h := ite_t c5 h
    refine v_tableAt (tgt := 56) dX11_isOne_1 c5 (by decide) (by decide) (off := 55) (by decide) (by decide) ?_
    refine v_aload_n dX11_isOne_56 0 rfl rfl (v_instN dX11_isOne_57 tw210 (by decide +kernel) lc_168 shc_168 (by decide) ok_1 ?_)
    replace h := Option.some.inj h
    subst h
    exact v_zret dX11_isOne_60 rfl (by decide) rfl rfl rfl rfl
  replace h := ite_f c5 h
  have nc1 := i_ne (z := 1) (by decide) c1
  have nc2 := i_ne (z := 2) (by decide) c2
  have nc3 := i_ne (z := 3) (by decide) c3
  have nc4 := i_ne (z := 4) (by decide) c4
  have nc5 := i_ne (z := 5) (by decide) c5
  refine v_tableOut (tgt := 61) dX11_isOne_1 (by omega) (by decide) ?_
  refine v_iconst dX11_isOne_61 rfl ?_
  replace h := Option.some.inj h
  subst h
  exact v_zret dX11_isOne_62 rfl (by decide) rfl rfl rfl rfl
def fX_isOne_169 (x1 : Int32) (σ : Sg) : Option Int32 := if x1 = 1 then some 0 else if x1 = 2 then some 0 else if x1 = 3 then some 0 else if x1 = 4 then some 1 else if x1 = 5 then some 1 else some 1
set_option maxRecDepth 100000 in
set_option maxHeartbeats 4000000 in
theorem eX_isOne_169 {G : Gx} (x1 : Int32) (σ : Sg) (q : Int32) (h : fX_isOne_169 x1 σ = some q) : Evm G yX11_isOne MX11_isOne_169 [.ref (gb G + 169), .int x1] σ (some (.int q)) σ := by
  refine Ev.of (by decide +kernel) rfl rfl (Nat.le_of_ble_eq_true rfl) ?_
  show Vm G MX11_isOne_169 (some (.int q)) σ 0 [(0, .ref (gb G + 169)), (1, .int x1)] [] σ
  unfold fX_isOne_169 at h
  refine v_iload_n dX11_isOne_0 1 rfl rfl ?_
  by_cases c1 : x1 = 1
  · replace h := ite_t c1 h
    refine v_tableAt (tgt := 36) dX11_isOne_1 c1 (by decide) (by decide) (off := 35) (by decide) (by decide) ?_
    refine v_aload_n dX11_isOne_36 0 rfl rfl (v_instN dX11_isOne_37 tw179 (by decide +kernel) lc_169 shc_169 (by decide) ok_3 ?_)
    replace h := Option.some.inj h
    subst h
    exact v_zret dX11_isOne_40 rfl (by decide) rfl rfl rfl rfl
  replace h := ite_f c1 h
  by_cases c2 : x1 = 2
  · replace h := ite_t c2 h
    refine v_tableAt (tgt := 41) dX11_isOne_1 c2 (by decide) (by decide) (off := 40) (by decide) (by decide) ?_
    refine v_aload_n dX11_isOne_41 0 rfl rfl (v_instN dX11_isOne_42 tw189 (by decide +kernel) lc_169 shc_169 (by decide) ok_3 ?_)
    replace h := Option.some.inj h
    subst h
    exact v_zret dX11_isOne_45 rfl (by decide) rfl rfl rfl rfl
  replace h := ite_f c2 h
  by_cases c3 : x1 = 3
  · replace h := ite_t c3 h
    refine v_tableAt (tgt := 46) dX11_isOne_1 c3 (by decide) (by decide) (off := 45) (by decide) (by decide) ?_
    refine v_aload_n dX11_isOne_46 0 rfl rfl (v_instN dX11_isOne_47 tw196 (by decide +kernel) lc_169 shc_169 (by decide) ok_3 ?_)
    replace h := Option.some.inj h
    subst h
    exact v_zret dX11_isOne_50 rfl (by decide) rfl rfl rfl rfl
  replace h := ite_f c3 h
  by_cases c4 : x1 = 4
  · replace h := ite_t c4 h
    refine v_tableAt (tgt := 51) dX11_isOne_1 c4 (by decide) (by decide) (off := 50) (by decide) (by decide) ?_
    refine v_aload_n dX11_isOne_51 0 rfl rfl (v_instY dX11_isOne_52 tw203 (by decide +kernel) lc_169 shc_169 (by decide) ok_3 ?_)
    replace h := Option.some.inj h
    subst h
    exact v_zret dX11_isOne_55 rfl (by decide) rfl rfl rfl rfl
  replace h := ite_f c4 h
  by_cases c5 : x1 = 5
  · replace h := ite_t c5 h
    refine v_tableAt (tgt := 56) dX11_isOne_1 c5 (by decide) (by decide) (off := 55) (by decide) (by decide) ?_
    refine v_aload_n dX11_isOne_56 0 rfl rfl (v_instS dX11_isOne_57 tw210 lc_169 shc_169 (by decide) ok_3 ?_)
    replace h := Option.some.inj h
    subst h
    exact v_zret dX11_isOne_60 rfl (by decide) rfl rfl rfl rfl
  replace h := ite_f c5 h
  have nc1 := i_ne (z := 1) (by decide) c1
  have nc2 := i_ne (z := 2) (by decide) c2
  have nc3 := i_ne (z := 3) (by decide) c3
  have nc4 := i_ne (z := 4) (by decide) c4
  have nc5 := i_ne (z := 5) (by decide) c5
  refine v_tableOut (tgt := 61) dX11_isOne_1 (by omega) (by decide) ?_
  refine v_iconst dX11_isOne_61 rfl ?_
  replace h := Option.some.inj h
  subst h
  exact v_zret dX11_isOne_62 rfl (by decide) rfl rfl rfl rfl
