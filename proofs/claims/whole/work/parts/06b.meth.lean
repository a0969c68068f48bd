def fH_carry (r0 : Nat) (σ : Sg) : Option Sg := if inb (σ r0 8) 6 = true then if (σ r0 7) = (σ (r0 + 3) (ix (σ r0 8))) then (ltc (wr σ r0 9 ((σ r0 9) ||| (1 <<< ((σ r0 8) &&& 31)))) fun σ3 => ltc (wr σ3 r0 8 (-1)) fun σ4 => ltc (wr σ4 r0 11 (-2)) fun σ5 => some σ5) else (fJ_compare (σ (r0 + 3) (ix (σ r0 8))) (σ r0 7) σ).bind fun q6 => ltc (wr σ r0 7 ((σ r0 7) + q6)) fun σ7 => if inb (σ7 r0 8) 6 = true then ltc (wr σ7 (r0 + 2) (ix (σ7 r0 8)) (σ7 r0 7)) fun σ9 => some σ9 else none else none
set_option maxRecDepth 100000 in
set_option maxHeartbeats 4000000 in
theorem eH_carry {G : Gx} (r0 : Nat) (p0 : isH r0) (σ : Sg) (q : Sg) (h : fH_carry r0 σ = some q) : Evm G yX4_carry MX4_carry [.ref (gb G + r0)] σ none q := by
  refine Ev.of (by decide +kernel) rfl rfl (Nat.le_of_ble_eq_true rfl) ?_
  show Vm G MX4_carry none q 0 [(0, .ref (gb G + r0))] [] σ
  unfold fH_carry at h
  refine v_aload_n dX4_carry_0 0 rfl rfl (vm_getI dX4_carry_1 fsX4_38 ((isH_s p0).2.1) ((isH_s p0).1.1) (by decide) ((isH_r p0).2.2.2.1) (v_aload_n dX4_carry_4 0 rfl rfl (vm_getR (t := (r0 + 3)) dX4_carry_5 fsX4_16 ((isH_s p0).2.1) ((isH_s p0).1.1) (by decide) ((isH_r p0).1.2.2.1) (v_aload_n dX4_carry_8 0 rfl rfl (vm_getI dX4_carry_9 fsX4_25 ((isH_s p0).2.1) ((isH_s p0).1.1) (by decide) ((isH_r p0).2.2.2.2.1) ?_)))))
  obtain ⟨g1, h⟩ := guard_some h
  refine vn_iald dX4_carry_12 ((isH_s p0).2.2.2.2.1) ((isH_s p0).1.2.2.2.1) g1 rfl (v_icmp_eq (tgt := 55) dX4_carry_13 (by decide) (fun c2 => ?_) (fun c2 => ?_))
  · replace h := ite_t c2 h
    refine v_aload_n dX4_carry_55 0 rfl rfl (v_dup dX4_carry_56 rfl (vm_getI dX4_carry_57 fsX4_41 ((isH_s p0).2.1) ((isH_s p0).1.1) (by decide) ((isH_r p0).2.2.2.2.2.1) (v_iconst dX4_carry_60 rfl (v_aload_n dX4_carry_61 0 rfl rfl (vm_getI dX4_carry_62 fsX4_25 ((isH_s p0).2.1) ((isH_s p0).1.1) (by decide) ((isH_r p0).2.2.2.2.1) (v_ishl dX4_carry_65 (v_ior dX4_carry_66 ?_)))))))
    obtain ⟨σ3, eσ3, h⟩ := ltc_some h
    refine vn_put dX4_carry_67 fsX4_41 ((isH_s p0).2.1) ((isH_s p0).1.1) (by decide) ((isH_r p0).2.2.2.2.2.1) eσ3 (v_aload_n dX4_carry_70 0 rfl rfl (v_iconst (v := -1) dX4_carry_71 rfl ?_))
    obtain ⟨σ4, eσ4, h⟩ := ltc_some h
    refine vn_put dX4_carry_72 fsX4_25 ((isH_s p0).2.1) ((isH_s p0).1.1) (by decide) ((isH_r p0).2.2.2.2.1) eσ4 (v_aload_n dX4_carry_75 0 rfl rfl (v_bipush (v := (-2)) dX4_carry_76 rfl ?_))
    obtain ⟨σ5, eσ5, h⟩ := ltc_some h
    refine vn_put dX4_carry_78 fsX4_29 ((isH_s p0).2.1) ((isH_s p0).1.1) (by decide) ((isH_r p0).2.2.2.2.2.2.2) eσ5 ?_
    replace h := Option.some.inj h
    subst h
    exact v_vret dX4_carry_81 rfl rfl rfl rfl rfl
  · replace h := ite_f c2 h
    refine v_aload_n dX4_carry_16 0 rfl rfl (v_dup dX4_carry_17 rfl (vm_getI dX4_carry_18 fsX4_38 ((isH_s p0).2.1) ((isH_s p0).1.1) (by decide) ((isH_r p0).2.2.2.1) (v_aload_n dX4_carry_21 0 rfl rfl (vm_getR (t := (r0 + 3)) dX4_carry_22 fsX4_16 ((isH_s p0).2.1) ((isH_s p0).1.1) (by decide) ((isH_r p0).1.2.2.1) (v_aload_n dX4_carry_25 0 rfl rfl (vm_getI dX4_carry_26 fsX4_25 ((isH_s p0).2.1) ((isH_s p0).1.1) (by decide) ((isH_r p0).2.2.2.2.1) (vn_iald dX4_carry_29 ((isH_s p0).2.2.2.2.1) ((isH_s p0).1.2.2.2.1) g1 rfl (v_aload_n dX4_carry_30 0 rfl rfl (vm_getI dX4_carry_31 fsX4_38 ((isH_s p0).2.1) ((isH_s p0).1.1) (by decide) ((isH_r p0).2.2.2.1) ?_)))))))))
    obtain ⟨q6, hq6, h⟩ := bind_some h
    refine v_callS (As := [.int (σ (r0 + 3) (ix (σ r0 8))), .int (σ r0 7)]) (S := [.int (σ r0 7), .ref (gb G + r0)]) dX4_carry_34 tw417 tw418 ykJ6_compare_7cf53 rfl (by decide) rfl rfl (Nat.le_of_ble_eq_true rfl) (by decide) (eJ_compare (σ (r0 + 3) (ix (σ r0 8))) (σ r0 7) _ _ hq6) ?_
    refine v_iadd dX4_carry_37 ?_
    obtain ⟨σ7, eσ7, h⟩ := ltc_some h
    refine vn_put dX4_carry_38 fsX4_38 ((isH_s p0).2.1) ((isH_s p0).1.1) (by decide) ((isH_r p0).2.2.2.1) eσ7 (v_aload_n dX4_carry_41 0 rfl rfl (vm_getR (t := (r0 + 2)) dX4_carry_42 fsX4_13 ((isH_s p0).2.1) ((isH_s p0).1.1) (by decide) ((isH_r p0).1.2.1) (v_aload_n dX4_carry_45 0 rfl rfl (vm_getI dX4_carry_46 fsX4_25 ((isH_s p0).2.1) ((isH_s p0).1.1) (by decide) ((isH_r p0).2.2.2.2.1) (v_aload_n dX4_carry_49 0 rfl rfl (vm_getI dX4_carry_50 fsX4_38 ((isH_s p0).2.1) ((isH_s p0).1.1) (by decide) ((isH_r p0).2.2.2.1) ?_))))))
    obtain ⟨g8, h⟩ := guard_some h
    obtain ⟨σ9, eσ9, h⟩ := ltc_some h
    refine vn_iast dX4_carry_53 ((isH_s p0).2.2.2.1) ((isH_s p0).1.2.2.1) g8 rfl eσ9 ?_
    replace h := Option.some.inj h
    subst h
    exact v_vret dX4_carry_54 rfl rfl rfl rfl rfl
def fH_advance (r0 : Nat) (σ : Sg) : Option Sg := ltc (wr σ r0 10 ((σ r0 10) + 1)) fun σ1 => if (σ1 r0 8) = (-1) then ((fH_goal r0 σ1).bind fun q3 => if q3.1 = (-1) then some q3.2 else if inb q3.1 6 = true then if (q3.2 r0 7) = (q3.2 (r0 + 2) (ix q3.1)) then (ltc (wr q3.2 r0 8 q3.1) fun σ7 => some σ7) else (fJ_compare (q3.2 (r0 + 2) (ix q3.1)) (q3.2 r0 7) q3.2).bind fun q8 => ltc (wr q3.2 r0 7 ((q3.2 r0 7) + q8)) fun σ9 => some σ9 else none) else (fH_carry r0 σ1).bind fun q10 => some q10
set_option maxRecDepth 100000 in
set_option maxHeartbeats 4000000 in
theorem eH_advance {G : Gx} (r0 : Nat) (p0 : isH r0) (σ : Sg) (q : Sg) (h : fH_advance r0 σ = some q) : Evm G yX4_advance MX4_advance [.ref (gb G + r0)] σ none q := by
  refine Ev.of (by decide +kernel) rfl rfl (Nat.le_of_ble_eq_true rfl) ?_
  show Vm G MX4_advance none q 0 [(0, .ref (gb G + r0))] [] σ
  unfold fH_advance at h
  refine v_aload_n dX4_advance_0 0 rfl rfl (v_dup dX4_advance_1 rfl (vm_getI dX4_advance_2 fsX4_44 ((isH_s p0).2.1) ((isH_s p0).1.1) (by decide) ((isH_r p0).2.2.2.2.2.2.1) (v_iconst dX4_advance_5 rfl (v_iadd dX4_advance_6 ?_))))
  obtain ⟨σ1, eσ1, h⟩ := ltc_some h
  refine vn_put dX4_advance_7 fsX4_44 ((isH_s p0).2.1) ((isH_s p0).1.1) (by decide) ((isH_r p0).2.2.2.2.2.2.1) eσ1 (v_aload_n dX4_advance_10 0 rfl rfl (vm_getI dX4_advance_11 fsX4_25 ((isH_s p0).2.1) ((isH_s p0).1.1) (by decide) ((isH_r p0).2.2.2.2.1) (v_iconst (v := -1) dX4_advance_14 rfl (v_icmp_eq (tgt := 23) dX4_advance_15 (by decide) (fun c2 => ?_) (fun c2 => ?_)))))
  · replace h := ite_t c2 h
    refine v_aload_n dX4_advance_23 0 rfl rfl ?_
    obtain ⟨q3, hq3, h⟩ := bind_some h
    refine v_callV (As := []) (S := []) dX4_advance_24 tw420 tw421 tw422 ykX4_goal ((isH_s p0).2.1) ((isH_s p0).1.1) (by decide) ok_4 rfl (by decide) rfl rfl (Nat.le_of_ble_eq_true rfl) (by decide) (eH_goal r0 p0 _ _ hq3) ?_
    refine v_istore_n dX4_advance_27 [0, 1] rfl (by decide) rfl (v_iload_n dX4_advance_28 0 rfl rfl (v_iconst (v := -1) dX4_advance_29 rfl (v_icmp_ne (tgt := 34) dX4_advance_30 (by decide) (fun c4 => ?_) (fun c4 => ?_))))
    · replace h := ite_f c4 h
      refine v_aload_n dX4_advance_34 1 rfl rfl (vm_getI dX4_advance_35 fsX4_38 ((isH_s p0).2.1) ((isH_s p0).1.1) (by decide) ((isH_r p0).2.2.2.1) (v_aload_n dX4_advance_38 1 rfl rfl (vm_getR (t := (r0 + 2)) dX4_advance_39 fsX4_13 ((isH_s p0).2.1) ((isH_s p0).1.1) (by decide) ((isH_r p0).1.2.1) (v_iload_n dX4_advance_42 0 rfl rfl ?_))))
      obtain ⟨g5, h⟩ := guard_some h
      refine vn_iald dX4_advance_43 ((isH_s p0).2.2.2.1) ((isH_s p0).1.2.2.1) g5 rfl (v_icmp_eq (tgt := 70) dX4_advance_44 (by decide) (fun c6 => ?_) (fun c6 => ?_))
      · replace h := ite_t c6 h
        refine v_aload_n dX4_advance_70 1 rfl rfl (v_iload_n dX4_advance_71 0 rfl rfl ?_)
        obtain ⟨σ7, eσ7, h⟩ := ltc_some h
        refine vn_put dX4_advance_72 fsX4_25 ((isH_s p0).2.1) ((isH_s p0).1.1) (by decide) ((isH_r p0).2.2.2.2.1) eσ7 ?_
        replace h := Option.some.inj h
        subst h
        exact v_vret dX4_advance_75 rfl rfl rfl rfl rfl
      · replace h := ite_f c6 h
        refine v_aload_n dX4_advance_47 1 rfl rfl (v_dup dX4_advance_48 rfl (vm_getI dX4_advance_49 fsX4_38 ((isH_s p0).2.1) ((isH_s p0).1.1) (by decide) ((isH_r p0).2.2.2.1) (v_aload_n dX4_advance_52 1 rfl rfl (vm_getR (t := (r0 + 2)) dX4_advance_53 fsX4_13 ((isH_s p0).2.1) ((isH_s p0).1.1) (by decide) ((isH_r p0).1.2.1) (v_iload_n dX4_advance_56 0 rfl rfl (vn_iald dX4_advance_57 ((isH_s p0).2.2.2.1) ((isH_s p0).1.2.2.1) g5 rfl (v_aload_n dX4_advance_58 1 rfl rfl (vm_getI dX4_advance_59 fsX4_38 ((isH_s p0).2.1) ((isH_s p0).1.1) (by decide) ((isH_r p0).2.2.2.1) ?_))))))))
        obtain ⟨q8, hq8, h⟩ := bind_some h
        refine v_callS (As := [.int (q3.2 (r0 + 2) (ix q3.1)), .int (q3.2 r0 7)]) (S := [.int (q3.2 r0 7), .ref (gb G + r0)]) dX4_advance_62 tw417 tw418 ykJ6_compare_7cf53 rfl (by decide) rfl rfl (Nat.le_of_ble_eq_true rfl) (by decide) (eJ_compare (q3.2 (r0 + 2) (ix q3.1)) (q3.2 r0 7) _ _ hq8) ?_
        refine v_iadd dX4_advance_65 ?_
        obtain ⟨σ9, eσ9, h⟩ := ltc_some h
        refine vn_put dX4_advance_66 fsX4_38 ((isH_s p0).2.1) ((isH_s p0).1.1) (by decide) ((isH_r p0).2.2.2.1) eσ9 ?_
        replace h := Option.some.inj h
        subst h
        exact v_vret dX4_advance_69 rfl rfl rfl rfl rfl
    · replace h := ite_t c4 h
      replace h := Option.some.inj h
      subst h
      exact v_vret dX4_advance_33 rfl rfl rfl rfl rfl
  · replace h := ite_f c2 h
    refine v_aload_n dX4_advance_18 0 rfl rfl ?_
    obtain ⟨q10, hq10, h⟩ := bind_some h
    refine v_callV (As := []) (S := []) dX4_advance_19 tw413 tw415 tw8 ykX4_carry ((isH_s p0).2.1) ((isH_s p0).1.1) (by decide) ok_4 rfl (by decide) rfl rfl (Nat.le_of_ble_eq_true rfl) (by decide) (eH_carry r0 p0 _ _ hq10) ?_
    replace h := Option.some.inj h
    subst h
    exact v_vret dX4_advance_22 rfl rfl rfl rfl rfl
def fH_rests (r0 : Nat) (σ : Sg) : Option (Int32 × Sg) := if (σ r0 8) = (-1) then ((fH_goal r0 σ).bind fun q2 => if q2.1 = (-1) then some (1, q2.2) else some (0, q2.2)) else some (0, σ)
set_option maxRecDepth 100000 in
set_option maxHeartbeats 4000000 in
theorem eH_rests {G : Gx} (r0 : Nat) (p0 : isH r0) (σ : Sg) (q : (Int32 × Sg)) (h : fH_rests r0 σ = some q) : Evm G yX4_rests MX4_rests [.ref (gb G + r0)] σ (some (.int q.1)) q.2 := by
  refine Ev.of (by decide +kernel) rfl rfl (Nat.le_of_ble_eq_true rfl) ?_
  show Vm G MX4_rests (some (.int q.1)) q.2 0 [(0, .ref (gb G + r0))] [] σ
  unfold fH_rests at h
  refine v_aload_n dX4_rests_0 0 rfl rfl (vm_getI dX4_rests_1 fsX4_25 ((isH_s p0).2.1) ((isH_s p0).1.1) (by decide) ((isH_r p0).2.2.2.2.1) (v_iconst (v := -1) dX4_rests_4 rfl (v_icmp_ne (tgt := 20) dX4_rests_5 (by decide) (fun c1 => ?_) (fun c1 => ?_))))
  · replace h := ite_f c1 h
    refine v_iconst dX4_rests_20 rfl ?_
    replace h := Option.some.inj h
    subst h
    exact v_zret dX4_rests_21 rfl (by decide) rfl rfl rfl rfl
  · replace h := ite_t c1 h
    refine v_aload_n dX4_rests_8 0 rfl rfl ?_
    obtain ⟨q2, hq2, h⟩ := bind_some h
    refine v_callV (As := []) (S := []) dX4_rests_9 tw420 tw421 tw422 ykX4_goal ((isH_s p0).2.1) ((isH_s p0).1.1) (by decide) ok_4 rfl (by decide) rfl rfl (Nat.le_of_ble_eq_true rfl) (by decide) (eH_goal r0 p0 _ _ hq2) ?_
    refine v_iconst (v := -1) dX4_rests_12 rfl (v_icmp_ne (tgt := 20) dX4_rests_13 (by decide) (fun c3 => ?_) (fun c3 => ?_))
    · replace h := ite_f c3 h
      refine v_iconst dX4_rests_20 rfl ?_
      replace h := Option.some.inj h
      subst h
      exact v_zret dX4_rests_21 rfl (by decide) rfl rfl rfl rfl
    · replace h := ite_t c3 h
      refine v_iconst dX4_rests_16 rfl (v_goto (tgt := 21) dX4_rests_17 (by decide) ?_)
      replace h := Option.some.inj h
      subst h
      exact v_zret dX4_rests_21 rfl (by decide) rfl rfl rfl rfl
def fH_lastWithin_B40 (K4 : Nat → Int32 → Int32 → Int32 → Sg → Option (Int32 × Sg)) (r0 : Nat) (x1 : Int32) (x3 : Int32) (s0 : Int32) (σ : Sg) : Option (Int32 × Sg) := K4 r0 x1 s0 (x3 + 1) σ
set_option maxRecDepth 100000 in
set_option maxHeartbeats 4000000 in
theorem sH_lastWithin_B40 {G : Gx} {q : (Int32 × Sg)} (K4 : Nat → Int32 → Int32 → Int32 → Sg → Option (Int32 × Sg)) (hK4 : ∀ (r0 : Nat) (p0 : isH r0) (x1 : Int32) (x2 : Int32) (x3 : Int32) (σ : Sg), K4 r0 x1 x2 x3 σ = some q → Vm G MX4_lastWithin (some (.int q.1)) q.2 4 [(0, .ref (gb G + r0)), (1, .int x1), (2, .int x2), (3, .int x3)] [] σ) (r0 : Nat) (p0 : isH r0) (x1 : Int32) (x3 : Int32) (s0 : Int32) (σ : Sg) (h : fH_lastWithin_B40 K4 r0 x1 x3 s0 σ = some q) : Vm G MX4_lastWithin (some (.int q.1)) q.2 40 [(0, .ref (gb G + r0)), (1, .int x1), (3, .int x3)] [.int s0] σ := by
  unfold fH_lastWithin_B40 at h
  exact v_istore_n dX4_lastWithin_40 [0, 1, 2, 3] rfl (by decide) rfl (v_iinc (v := x3 + 1) dX4_lastWithin_41 3 rfl rfl [0, 1, 2, 3] rfl (by decide) (v_goto (tgt := 4) dX4_lastWithin_44 (by decide) (v_sub [2, 3, 1, 0] rfl (hK4 r0 p0 x1 s0 (x3 + 1) _ h))))
def fH_lastWithin_b4 (K4 : Nat → Int32 → Int32 → Int32 → Sg → Option (Int32 × Sg)) (r0 : Nat) (x1 : Int32) (x2 : Int32) (x3 : Int32) (σ : Sg) : Option (Int32 × Sg) := if x1 < x3 then some (x2, σ) else (fH_rests r0 σ).bind fun q2 => if q2.1 = 0 then ((fH_advance r0 q2.2).bind fun q4 => if (q4 r0 9) = (q2.2 r0 9) then fH_lastWithin_B40 K4 r0 x1 x3 x2 q4 else fH_lastWithin_B40 K4 r0 x1 x3 x3 q4) else some (x2, q2.2)
def fH_lastWithin_L4 (n : Nat) : Nat → Int32 → Int32 → Int32 → Sg → Option (Int32 × Sg) := Nat.rec (fun _ _ _ _ _ => none) (fun _ K => fH_lastWithin_b4 K) n
set_option maxRecDepth 100000 in
set_option maxHeartbeats 4000000 in
theorem sH_lastWithin_b4 {G : Gx} {q : (Int32 × Sg)} (K4 : Nat → Int32 → Int32 → Int32 → Sg → Option (Int32 × Sg)) (hK4 : ∀ (r0 : Nat) (p0 : isH r0) (x1 : Int32) (x2 : Int32) (x3 : Int32) (σ : Sg), K4 r0 x1 x2 x3 σ = some q → Vm G MX4_lastWithin (some (.int q.1)) q.2 4 [(0, .ref (gb G + r0)), (1, .int x1), (2, .int x2), (3, .int x3)] [] σ) (r0 : Nat) (p0 : isH r0) (x1 : Int32) (x2 : Int32) (x3 : Int32) (σ : Sg) (h : fH_lastWithin_b4 K4 r0 x1 x2 x3 σ = some q) : Vm G MX4_lastWithin (some (.int q.1)) q.2 4 [(0, .ref (gb G + r0)), (1, .int x1), (2, .int x2), (3, .int x3)] [] σ := by
  unfold fH_lastWithin_b4 at h
  refine v_iload_n dX4_lastWithin_4 3 rfl rfl (v_iload_n dX4_lastWithin_5 1 rfl rfl (v_icmp_gt (tgt := 47) dX4_lastWithin_6 (by decide) (fun c1 => ?_) (fun c1 => ?_)))
  · replace h := ite_t c1 h
    refine v_iload_n dX4_lastWithin_47 2 rfl rfl ?_
    replace h := Option.some.inj h
    subst h
    exact v_iret dX4_lastWithin_48 rfl rfl rfl rfl rfl
  · replace h := ite_f c1 h
    refine v_aload_n dX4_lastWithin_9 0 rfl rfl ?_
    obtain ⟨q2, hq2, h⟩ := bind_some h
    refine v_callV (As := []) (S := []) dX4_lastWithin_10 tw488 tw490 tw10 ykX4_rests ((isH_s p0).2.1) ((isH_s p0).1.1) (by decide) ok_4 rfl (by decide) rfl rfl (Nat.le_of_ble_eq_true rfl) (by decide) (eH_rests r0 p0 _ _ hq2) ?_
    refine v_if_ne (tgt := 47) dX4_lastWithin_13 (by decide) (fun c3 => ?_) (fun c3 => ?_)
    · replace h := ite_f c3 h
      refine v_iload_n dX4_lastWithin_47 2 rfl rfl ?_
      replace h := Option.some.inj h
      subst h
      exact v_iret dX4_lastWithin_48 rfl rfl rfl rfl rfl
    · replace h := ite_t c3 h
      refine v_aload_n dX4_lastWithin_16 0 rfl rfl (vm_getI dX4_lastWithin_17 fsX4_41 ((isH_s p0).2.1) ((isH_s p0).1.1) (by decide) ((isH_r p0).2.2.2.2.2.1) (v_istore dX4_lastWithin_20 [0, 1, 2, 3, 4] rfl (by decide) (v_aload_n dX4_lastWithin_22 1 rfl rfl ?_)))
      obtain ⟨q4, hq4, h⟩ := bind_some h
      refine v_callV (As := []) (S := []) dX4_lastWithin_23 tw492 tw410 tw411 ykX4_advance ((isH_s p0).2.1) ((isH_s p0).1.1) (by decide) ok_4 rfl (by decide) rfl rfl (Nat.le_of_ble_eq_true rfl) (by decide) (eH_advance r0 p0 _ _ hq4) ?_
      refine v_aload_n dX4_lastWithin_26 1 rfl rfl (vm_getI dX4_lastWithin_27 fsX4_41 ((isH_s p0).2.1) ((isH_s p0).1.1) (by decide) ((isH_r p0).2.2.2.2.2.1) (v_iload dX4_lastWithin_30 0 rfl (v_icmp_eq (tgt := 39) dX4_lastWithin_32 (by decide) (fun c5 => ?_) (fun c5 => ?_))))
      · replace h := ite_t c5 h
        exact v_iload_n dX4_lastWithin_39 3 rfl rfl (v_sub [1, 2, 4] rfl (sH_lastWithin_B40 K4 hK4 r0 p0 x1 x3 x2 _ h))
      · replace h := ite_f c5 h
        exact v_iload_n dX4_lastWithin_35 4 rfl rfl (v_goto (tgt := 40) dX4_lastWithin_36 (by decide) (v_sub [1, 2, 4] rfl (sH_lastWithin_B40 K4 hK4 r0 p0 x1 x3 x3 _ h)))
theorem sH_lastWithin_L4 {G : Gx} {q : (Int32 × Sg)} (n : Nat) : ∀ (r0 : Nat) (p0 : isH r0) (x1 : Int32) (x2 : Int32) (x3 : Int32) (σ : Sg) (h : fH_lastWithin_L4 n r0 x1 x2 x3 σ = some q), Vm G MX4_lastWithin (some (.int q.1)) q.2 4 [(0, .ref (gb G + r0)), (1, .int x1), (2, .int x2), (3, .int x3)] [] σ := by
  induction n with
  | zero => intro r0 p0 x1 x2 x3 σ h; cases h
  | succ n ih => intro r0 p0 x1 x2 x3 σ h; exact sH_lastWithin_b4  _ ih r0 p0 x1 x2 x3 σ h
def fH_lastWithin (r0 : Nat) (x1 : Int32) (σ : Sg) : Option (Int32 × Sg) := fH_lastWithin_L4 2000 r0 x1 0 1 σ
set_option maxRecDepth 100000 in
set_option maxHeartbeats 4000000 in
theorem eH_lastWithin {G : Gx} (r0 : Nat) (p0 : isH r0) (x1 : Int32) (σ : Sg) (q : (Int32 × Sg)) (h : fH_lastWithin r0 x1 σ = some q) : Evm G yX4_lastWithin MX4_lastWithin [.ref (gb G + r0), .int x1] σ (some (.int q.1)) q.2 := by
  refine Ev.of (by decide +kernel) rfl rfl (Nat.le_of_ble_eq_true rfl) ?_
  show Vm G MX4_lastWithin (some (.int q.1)) q.2 0 [(0, .ref (gb G + r0)), (1, .int x1)] [] σ
  unfold fH_lastWithin at h
  exact v_iconst dX4_lastWithin_0 rfl (v_istore_n dX4_lastWithin_1 [0, 1, 2] rfl (by decide) rfl (v_iconst dX4_lastWithin_2 rfl (v_istore_n dX4_lastWithin_3 [0, 1, 2, 3] rfl (by decide) rfl (v_sub [2, 3, 1, 0] rfl (sH_lastWithin_L4 2000 r0 p0 x1 0 1 _ h)))))
def fH_until_B44 (r0 : Nat) (x1 : Int32) (σ : Sg) : Option (Int32 × Sg) := (fH_isBrought r0 x1 σ).bind fun q9 => if q9 = 0 then some ((-1), σ) else some (0, σ)
set_option maxRecDepth 100000 in
set_option maxHeartbeats 4000000 in
theorem sH_until_B44 {G : Gx} {q : (Int32 × Sg)} (r0 : Nat) (p0 : isH r0) (x1 : Int32) (σ : Sg) (h : fH_until_B44 r0 x1 σ = some q) : Vm G MX4_until (some (.int q.1)) q.2 44 [(0, .ref (gb G + r0)), (1, .int x1)] [] σ := by
  unfold fH_until_B44 at h
  refine v_aload_n dX4_until_44 0 rfl rfl (v_iload_n dX4_until_45 1 rfl rfl ?_)
  obtain ⟨q9, hq9, h⟩ := bind_some h
  refine v_callV (As := [.int x1]) (S := []) dX4_until_46 tw424 tw425 tw426 ykX4_isBrought ((isH_s p0).2.1) ((isH_s p0).1.1) (by decide) ok_4 rfl (by decide) rfl rfl (Nat.le_of_ble_eq_true rfl) (by decide) (eH_isBrought r0 p0 x1 _ _ hq9) ?_
  refine v_if_eq (tgt := 56) dX4_until_49 (by decide) (fun c10 => ?_) (fun c10 => ?_)
  · replace h := ite_t c10 h
    refine v_iconst (v := -1) dX4_until_56 rfl ?_
    replace h := Option.some.inj h
    subst h
    exact v_iret dX4_until_57 rfl rfl rfl rfl rfl
  · replace h := ite_f c10 h
    refine v_iconst dX4_until_52 rfl (v_goto (tgt := 57) dX4_until_53 (by decide) ?_)
    replace h := Option.some.inj h
    subst h
    exact v_iret dX4_until_57 rfl rfl rfl rfl rfl
def fH_until_b2 (K2 : Nat → Int32 → Int32 → Int32 → Sg → Option (Int32 × Sg)) (r0 : Nat) (x1 : Int32) (x2 : Int32) (x3 : Int32) (σ : Sg) : Option (Int32 × Sg) := if x2 ≤ x3 then fH_until_B44 r0 x1 σ else (fH_isBrought r0 x1 σ).bind fun q2 => if q2 = 0 then ((fH_rests r0 σ).bind fun q4 => if q4.1 = 0 then ((fH_advance r0 q4.2).bind fun q6 => (fH_isBrought r0 x1 q6).bind fun q7 => if q7 = 0 then K2 r0 x1 x2 (x3 + 1) q6 else some (x3 + 1, q6)) else fH_until_B44 r0 x1 q4.2) else fH_until_B44 r0 x1 σ
def fH_until_L2 (n : Nat) : Nat → Int32 → Int32 → Int32 → Sg → Option (Int32 × Sg) := Nat.rec (fun _ _ _ _ _ => none) (fun _ K => fH_until_b2 K) n
set_option maxRecDepth 100000 in
set_option maxHeartbeats 4000000 in
theorem sH_until_b2 {G : Gx} {q : (Int32 × Sg)} (K2 : Nat → Int32 → Int32 → Int32 → Sg → Option (Int32 × Sg)) (hK2 : ∀ (r0 : Nat) (p0 : isH r0) (x1 : Int32) (x2 : Int32) (x3 : Int32) (σ : Sg), K2 r0 x1 x2 x3 σ = some q → Vm G MX4_until (some (.int q.1)) q.2 2 [(0, .ref (gb G + r0)), (1, .int x1), (2, .int x2), (3, .int x3)] [] σ) (r0 : Nat) (p0 : isH r0) (x1 : Int32) (x2 : Int32) (x3 : Int32) (σ : Sg) (h : fH_until_b2 K2 r0 x1 x2 x3 σ = some q) : Vm G MX4_until (some (.int q.1)) q.2 2 [(0, .ref (gb G + r0)), (1, .int x1), (2, .int x2), (3, .int x3)] [] σ := by
  unfold fH_until_b2 at h
  refine v_iload_n dX4_until_2 3 rfl rfl (v_iload_n dX4_until_3 2 rfl rfl (v_icmp_ge (tgt := 44) dX4_until_4 (by decide) (fun c1 => ?_) (fun c1 => ?_)))
  · replace h := ite_t c1 h
    exact v_sub [0, 1] rfl (sH_until_B44 r0 p0 x1 _ h)
  · replace h := ite_f c1 h
    refine v_aload_n dX4_until_7 0 rfl rfl (v_iload_n dX4_until_8 1 rfl rfl ?_)
    obtain ⟨q2, hq2, h⟩ := bind_some h
    refine v_callV (As := [.int x1]) (S := []) dX4_until_9 tw424 tw425 tw426 ykX4_isBrought ((isH_s p0).2.1) ((isH_s p0).1.1) (by decide) ok_4 rfl (by decide) rfl rfl (Nat.le_of_ble_eq_true rfl) (by decide) (eH_isBrought r0 p0 x1 _ _ hq2) ?_
    refine v_if_ne (tgt := 44) dX4_until_12 (by decide) (fun c3 => ?_) (fun c3 => ?_)
    · replace h := ite_f c3 h
      exact v_sub [0, 1] rfl (sH_until_B44 r0 p0 x1 _ h)
    · replace h := ite_t c3 h
      refine v_aload_n dX4_until_15 0 rfl rfl ?_
      obtain ⟨q4, hq4, h⟩ := bind_some h
      refine v_callV (As := []) (S := []) dX4_until_16 tw488 tw490 tw10 ykX4_rests ((isH_s p0).2.1) ((isH_s p0).1.1) (by decide) ok_4 rfl (by decide) rfl rfl (Nat.le_of_ble_eq_true rfl) (by decide) (eH_rests r0 p0 _ _ hq4) ?_
      refine v_if_ne (tgt := 44) dX4_until_19 (by decide) (fun c5 => ?_) (fun c5 => ?_)
      · replace h := ite_f c5 h
        exact v_sub [0, 1] rfl (sH_until_B44 r0 p0 x1 _ h)
      · replace h := ite_t c5 h
        refine v_aload_n dX4_until_22 0 rfl rfl ?_
        obtain ⟨q6, hq6, h⟩ := bind_some h
        refine v_callV (As := []) (S := []) dX4_until_23 tw492 tw410 tw411 ykX4_advance ((isH_s p0).2.1) ((isH_s p0).1.1) (by decide) ok_4 rfl (by decide) rfl rfl (Nat.le_of_ble_eq_true rfl) (by decide) (eH_advance r0 p0 _ _ hq6) ?_
        refine v_aload_n dX4_until_26 0 rfl rfl (v_iload_n dX4_until_27 1 rfl rfl ?_)
        obtain ⟨q7, hq7, h⟩ := bind_some h
        refine v_callV (As := [.int x1]) (S := []) dX4_until_28 tw424 tw425 tw426 ykX4_isBrought ((isH_s p0).2.1) ((isH_s p0).1.1) (by decide) ok_4 rfl (by decide) rfl rfl (Nat.le_of_ble_eq_true rfl) (by decide) (eH_isBrought r0 p0 x1 _ _ hq7) ?_
        refine v_if_eq (tgt := 38) dX4_until_31 (by decide) (fun c8 => ?_) (fun c8 => ?_)
        · replace h := ite_t c8 h
          exact v_iinc (v := x3 + 1) dX4_until_38 3 rfl rfl [0, 1, 2, 3] rfl (by decide) (v_goto (tgt := 2) dX4_until_41 (by decide) (v_sub [1, 2, 3, 0] rfl (hK2 r0 p0 x1 x2 (x3 + 1) _ h)))
        · replace h := ite_f c8 h
          refine v_iload_n dX4_until_34 3 rfl rfl (v_iconst dX4_until_35 rfl (v_iadd dX4_until_36 ?_))
          replace h := Option.some.inj h
          subst h
          exact v_iret dX4_until_37 rfl rfl rfl rfl rfl
theorem sH_until_L2 {G : Gx} {q : (Int32 × Sg)} (n : Nat) : ∀ (r0 : Nat) (p0 : isH r0) (x1 : Int32) (x2 : Int32) (x3 : Int32) (σ : Sg) (h : fH_until_L2 n r0 x1 x2 x3 σ = some q), Vm G MX4_until (some (.int q.1)) q.2 2 [(0, .ref (gb G + r0)), (1, .int x1), (2, .int x2), (3, .int x3)] [] σ := by
  induction n with
  | zero => intro r0 p0 x1 x2 x3 σ h; cases h
  | succ n ih => intro r0 p0 x1 x2 x3 σ h; exact sH_until_b2  _ ih r0 p0 x1 x2 x3 σ h
def fH_until (r0 : Nat) (x1 : Int32) (x2 : Int32) (σ : Sg) : Option (Int32 × Sg) := fH_until_L2 2000 r0 x1 x2 0 σ
set_option maxRecDepth 100000 in
set_option maxHeartbeats 4000000 in
theorem eH_until {G : Gx} (r0 : Nat) (p0 : isH r0) (x1 : Int32) (x2 : Int32) (σ : Sg) (q : (Int32 × Sg)) (h : fH_until r0 x1 x2 σ = some q) : Evm G yX4_until MX4_until [.ref (gb G + r0), .int x1, .int x2] σ (some (.int q.1)) q.2 := by
  refine Ev.of (by decide +kernel) rfl rfl (Nat.le_of_ble_eq_true rfl) ?_
  show Vm G MX4_until (some (.int q.1)) q.2 0 [(0, .ref (gb G + r0)), (1, .int x1), (2, .int x2)] [] σ
  unfold fH_until at h
  exact v_iconst dX4_until_0 rfl (v_istore_n dX4_until_1 [0, 1, 2, 3] rfl (by decide) rfl (v_sub [1, 2, 3, 0] rfl (sH_until_L2 2000 r0 p0 x1 x2 0 _ h)))
def fH_goesAs_b3 (K3 : Nat → Nat → Int32 → Int32 → Int32 → Sg → Option (Int32 × Sg)) (r0 : Nat) (r1 : Nat) (x2 : Int32) (x3 : Int32) (x4 : Int32) (σ : Sg) : Option (Int32 × Sg) := if (x2 + x3) ≤ x4 then some (1, σ) else if (40 : Int32) ≤ x4 then some (1, σ) else (fH_advance r0 σ).bind fun q3 => if inb x4 40 = true then if (q3 r0 7) = (q3 r1 (ix x4)) then K3 r0 r1 x2 x3 (x4 + 1) q3 else some (0, q3) else none
def fH_goesAs_L3 (n : Nat) : Nat → Nat → Int32 → Int32 → Int32 → Sg → Option (Int32 × Sg) := Nat.rec (fun _ _ _ _ _ _ => none) (fun _ K => fH_goesAs_b3 K) n
set_option maxRecDepth 100000 in
set_option maxHeartbeats 4000000 in
theorem sH_goesAs_b3 {G : Gx} {q : (Int32 × Sg)} (K3 : Nat → Nat → Int32 → Int32 → Int32 → Sg → Option (Int32 × Sg)) (hK3 : ∀ (r0 : Nat) (p0 : isH r0) (r1 : Nat) (p1 : shp r1 = (20, 40)) (l1 : r1 < 213) (x2 : Int32) (x3 : Int32) (x4 : Int32) (σ : Sg), K3 r0 r1 x2 x3 x4 σ = some q → Vm G MX4_goesAs (some (.int q.1)) q.2 3 [(0, .ref (gb G + r0)), (1, .ref (gb G + r1)), (2, .int x2), (3, .int x3), (4, .int x4)] [] σ) (r0 : Nat) (p0 : isH r0) (r1 : Nat) (p1 : shp r1 = (20, 40)) (l1 : r1 < 213) (x2 : Int32) (x3 : Int32) (x4 : Int32) (σ : Sg) (h : fH_goesAs_b3 K3 r0 r1 x2 x3 x4 σ = some q) : Vm G MX4_goesAs (some (.int q.1)) q.2 3 [(0, .ref (gb G + r0)), (1, .ref (gb G + r1)), (2, .int x2), (3, .int x3), (4, .int x4)] [] σ := by
  unfold fH_goesAs_b3 at h
  refine v_iload dX4_goesAs_3 4 rfl (v_iload_n dX4_goesAs_5 2 rfl rfl (v_iload_n dX4_goesAs_6 3 rfl rfl (v_iadd dX4_goesAs_7 (v_icmp_ge (tgt := 41) dX4_goesAs_8 (by decide) (fun c1 => ?_) (fun c1 => ?_)))))
  · replace h := ite_t c1 h
    refine v_iconst dX4_goesAs_41 rfl ?_
    replace h := Option.some.inj h
    subst h
    exact v_zret dX4_goesAs_42 rfl (by decide) rfl rfl rfl rfl
  · replace h := ite_f c1 h
    refine v_iload dX4_goesAs_11 4 rfl (v_aload_n dX4_goesAs_13 1 rfl rfl (vm_alen (v := 40) dX4_goesAs_14 l1 p1 rfl (v_icmp_ge (tgt := 41) dX4_goesAs_15 (by decide) (fun c2 => ?_) (fun c2 => ?_))))
    · replace h := ite_t c2 h
      refine v_iconst dX4_goesAs_41 rfl ?_
      replace h := Option.some.inj h
      subst h
      exact v_zret dX4_goesAs_42 rfl (by decide) rfl rfl rfl rfl
    · replace h := ite_f c2 h
      refine v_aload_n dX4_goesAs_18 0 rfl rfl ?_
      obtain ⟨q3, hq3, h⟩ := bind_some h
      refine v_callV (As := []) (S := []) dX4_goesAs_19 tw492 tw410 tw411 ykX4_advance ((isH_s p0).2.1) ((isH_s p0).1.1) (by decide) ok_4 rfl (by decide) rfl rfl (Nat.le_of_ble_eq_true rfl) (by decide) (eH_advance r0 p0 _ _ hq3) ?_
      refine v_aload_n dX4_goesAs_22 0 rfl rfl (vm_getI dX4_goesAs_23 fsX4_38 ((isH_s p0).2.1) ((isH_s p0).1.1) (by decide) ((isH_r p0).2.2.2.1) (v_aload_n dX4_goesAs_26 1 rfl rfl (v_iload dX4_goesAs_27 4 rfl ?_)))
      obtain ⟨g4, h⟩ := guard_some h
      refine vn_iald dX4_goesAs_29 l1 p1 g4 rfl (v_icmp_eq (tgt := 35) dX4_goesAs_30 (by decide) (fun c5 => ?_) (fun c5 => ?_))
      · replace h := ite_t c5 h
        exact v_iinc (v := x4 + 1) dX4_goesAs_35 4 rfl rfl [0, 1, 2, 3, 4] rfl (by decide) (v_goto (tgt := 3) dX4_goesAs_38 (by decide) (v_sub [1, 2, 3, 4, 0] rfl (hK3 r0 p0 r1 p1 l1 x2 x3 (x4 + 1) _ h)))
      · replace h := ite_f c5 h
        refine v_iconst dX4_goesAs_33 rfl ?_
        replace h := Option.some.inj h
        subst h
        exact v_zret dX4_goesAs_34 rfl (by decide) rfl rfl rfl rfl
theorem sH_goesAs_L3 {G : Gx} {q : (Int32 × Sg)} (n : Nat) : ∀ (r0 : Nat) (p0 : isH r0) (r1 : Nat) (p1 : shp r1 = (20, 40)) (l1 : r1 < 213) (x2 : Int32) (x3 : Int32) (x4 : Int32) (σ : Sg) (h : fH_goesAs_L3 n r0 r1 x2 x3 x4 σ = some q), Vm G MX4_goesAs (some (.int q.1)) q.2 3 [(0, .ref (gb G + r0)), (1, .ref (gb G + r1)), (2, .int x2), (3, .int x3), (4, .int x4)] [] σ := by
  induction n with
  | zero => intro r0 p0 r1 p1 l1 x2 x3 x4 σ h; cases h
  | succ n ih => intro r0 p0 r1 p1 l1 x2 x3 x4 σ h; exact sH_goesAs_b3  _ ih r0 p0 r1 p1 l1 x2 x3 x4 σ h
def fH_goesAs (r0 : Nat) (r1 : Nat) (x2 : Int32) (x3 : Int32) (σ : Sg) : Option (Int32 × Sg) := fH_goesAs_L3 2000 r0 r1 x2 x3 x2 σ
set_option maxRecDepth 100000 in
set_option maxHeartbeats 4000000 in
theorem eH_goesAs {G : Gx} (r0 : Nat) (p0 : isH r0) (r1 : Nat) (p1 : shp r1 = (20, 40)) (l1 : r1 < 213) (x2 : Int32) (x3 : Int32) (σ : Sg) (q : (Int32 × Sg)) (h : fH_goesAs r0 r1 x2 x3 σ = some q) : Evm G yX4_goesAs MX4_goesAs [.ref (gb G + r0), .ref (gb G + r1), .int x2, .int x3] σ (some (.int q.1)) q.2 := by
  refine Ev.of (by decide +kernel) rfl rfl (Nat.le_of_ble_eq_true rfl) ?_
  show Vm G MX4_goesAs (some (.int q.1)) q.2 0 [(0, .ref (gb G + r0)), (1, .ref (gb G + r1)), (2, .int x2), (3, .int x3)] [] σ
  unfold fH_goesAs at h
  exact v_iload_n dX4_goesAs_0 2 rfl rfl (v_istore dX4_goesAs_1 [0, 1, 2, 3, 4] rfl (by decide) (v_sub [1, 2, 3, 4, 0] rfl (sH_goesAs_L3 2000 r0 p0 r1 p1 l1 x2 x3 x2 _ h)))
def fH_stray_B54 (r0 : Nat) (x3 : Int32) (x4 : Int32) (σ : Sg) : Option Sg := if x3 = (σ r0 8) then some σ else if x4 < 0 then some σ else if (σ r0 6) < x4 then some σ else (fH_put r0 1 x3 x4 σ).bind fun q9 => some q9
set_option maxRecDepth 100000 in
set_option maxHeartbeats 4000000 in
theorem sH_stray_B54 {G : Gx} {q : Sg} (r0 : Nat) (p0 : isH r0) (x3 : Int32) (x4 : Int32) (σ : Sg) (h : fH_stray_B54 r0 x3 x4 σ = some q) : Vm G MX4_stray none q 54 [(0, .ref (gb G + r0)), (3, .int x3), (4, .int x4)] [] σ := by
  unfold fH_stray_B54 at h
  refine v_iload_n dX4_stray_54 1 rfl rfl (v_aload_n dX4_stray_55 0 rfl rfl (vm_getI dX4_stray_56 fsX4_25 ((isH_s p0).2.1) ((isH_s p0).1.1) (by decide) ((isH_r p0).2.2.2.2.1) (v_icmp_eq (tgt := 84) dX4_stray_59 (by decide) (fun c6 => ?_) (fun c6 => ?_))))
  · replace h := ite_t c6 h
    replace h := Option.some.inj h
    subst h
    exact v_vret dX4_stray_84 rfl rfl rfl rfl rfl
  · replace h := ite_f c6 h
    refine v_iload dX4_stray_62 2 rfl (v_if_lt (tgt := 84) dX4_stray_64 (by decide) (fun c7 => ?_) (fun c7 => ?_))
    · replace h := ite_t c7 h
      replace h := Option.some.inj h
      subst h
      exact v_vret dX4_stray_84 rfl rfl rfl rfl rfl
    · replace h := ite_f c7 h
      refine v_iload dX4_stray_67 2 rfl (v_aload_n dX4_stray_69 0 rfl rfl (vm_getI dX4_stray_70 fsX4_35 ((isH_s p0).2.1) ((isH_s p0).1.1) (by decide) ((isH_r p0).2.2.1) (v_icmp_gt (tgt := 84) dX4_stray_73 (by decide) (fun c8 => ?_) (fun c8 => ?_))))
      · replace h := ite_t c8 h
        replace h := Option.some.inj h
        subst h
        exact v_vret dX4_stray_84 rfl rfl rfl rfl rfl
      · replace h := ite_f c8 h
        refine v_aload_n dX4_stray_76 0 rfl rfl (v_iconst dX4_stray_77 rfl (v_iload_n dX4_stray_78 1 rfl rfl (v_iload dX4_stray_79 2 rfl ?_)))
        obtain ⟨q9, hq9, h⟩ := bind_some h
        refine v_callV (As := [.int 1, .int x3, .int x4]) (S := []) dX4_stray_81 tw525 tw445 tw446 ykX4_put ((isH_s p0).2.1) ((isH_s p0).1.1) (by decide) ok_4 rfl (by decide) rfl rfl (Nat.le_of_ble_eq_true rfl) (by decide) (eH_put r0 p0 1 x3 x4 _ _ hq9) ?_
        replace h := Option.some.inj h
        subst h
        exact v_vret dX4_stray_84 rfl rfl rfl rfl rfl
def fH_stray (r0 : Nat) (x1 : Int64) (σ : Sg) : Option Sg := if (σ r0 5) = 0 then some σ else if nzl ((σ r0 5).toInt64) = true then if inb ((x1 - x1 / ((σ r0 5).toInt64) * ((σ r0 5).toInt64)).toInt32) 6 = true then if (lg_cmp (x1 - x1 / 3 * 3) 0) = 0 then fH_stray_B54 r0 ((x1 - x1 / ((σ r0 5).toInt64) * ((σ r0 5).toInt64)).toInt32) ((σ (r0 + 2) (ix ((x1 - x1 / ((σ r0 5).toInt64) * ((σ r0 5).toInt64)).toInt32))) + 1) σ else if (lg_cmp (x1 - x1 / 3 * 3) 1) = 0 then fH_stray_B54 r0 ((x1 - x1 / ((σ r0 5).toInt64) * ((σ r0 5).toInt64)).toInt32) ((σ (r0 + 2) (ix ((x1 - x1 / ((σ r0 5).toInt64) * ((σ r0 5).toInt64)).toInt32))) + (-1)) σ else fH_stray_B54 r0 ((x1 - x1 / ((σ r0 5).toInt64) * ((σ r0 5).toInt64)).toInt32) (σ (r0 + 2) (ix ((x1 - x1 / ((σ r0 5).toInt64) * ((σ r0 5).toInt64)).toInt32))) σ else none else none
set_option maxRecDepth 100000 in
set_option maxHeartbeats 4000000 in
theorem eH_stray {G : Gx} (r0 : Nat) (p0 : isH r0) (x1 : Int64) (σ : Sg) (q : Sg) (h : fH_stray r0 x1 σ = some q) : Evm G yX4_stray MX4_stray [.ref (gb G + r0), .long x1] σ none q := by
  refine Ev.of (by decide +kernel) rfl rfl (Nat.le_of_ble_eq_true rfl) ?_
  show Vm G MX4_stray none q 0 [(0, .ref (gb G + r0)), (1, .long x1)] [] σ
  unfold fH_stray at h
  refine v_aload_n dX4_stray_0 0 rfl rfl (vm_getI dX4_stray_1 fsX4_32 ((isH_s p0).2.1) ((isH_s p0).1.1) (by decide) ((isH_r p0).2.1) (v_if_ne (tgt := 8) dX4_stray_4 (by decide) (fun c1 => ?_) (fun c1 => ?_)))
  · replace h := ite_f c1 h
    refine v_lload_n dX4_stray_8 1 rfl rfl (v_aload_n dX4_stray_9 0 rfl rfl (vm_getI dX4_stray_10 fsX4_32 ((isH_s p0).2.1) ((isH_s p0).1.1) (by decide) ((isH_r p0).2.1) (v_i2l dX4_stray_13 ?_)))
    obtain ⟨g2, h⟩ := guard_some h
    refine v_lrem dX4_stray_14 (nzl_ne g2) (v_l2i dX4_stray_15 (v_istore_n dX4_stray_16 [0, 1, 2] rfl (by decide) rfl (v_aload_n dX4_stray_17 1 rfl rfl (vm_getR (t := (r0 + 2)) dX4_stray_18 fsX4_13 ((isH_s p0).2.1) ((isH_s p0).1.1) (by decide) ((isH_r p0).1.2.1) (v_iload_n dX4_stray_21 0 rfl rfl ?_)))))
    obtain ⟨g3, h⟩ := guard_some h
    refine vn_iald dX4_stray_22 ((isH_s p0).2.2.2.1) ((isH_s p0).1.2.2.1) g3 rfl (v_istore dX4_stray_23 [0, 1, 2, 3] rfl (by decide) (v_lload_n dX4_stray_25 3 rfl rfl (v_ldc2 dX4_stray_26 tw584 (v_lrem dX4_stray_29 (by decide) (v_lconst (v := 0) dX4_stray_30 rfl (v_lcmp dX4_stray_31 (v_if_ne (tgt := 41) dX4_stray_32 (by decide) (fun c4 => ?_) (fun c4 => ?_))))))))
    · replace h := ite_f c4 h
      refine v_lload_n dX4_stray_41 3 rfl rfl (v_ldc2 dX4_stray_42 tw584 (v_lrem dX4_stray_45 (by decide) (v_lconst (v := 1) dX4_stray_46 rfl (v_lcmp dX4_stray_47 (v_if_ne (tgt := 54) dX4_stray_48 (by decide) (fun c5 => ?_) (fun c5 => ?_))))))
      · replace h := ite_f c5 h
        exact v_sub [2, 1, 0] rfl (sH_stray_B54 r0 p0 ((x1 - x1 / ((σ r0 5).toInt64) * ((σ r0 5).toInt64)).toInt32) (σ (r0 + 2) (ix ((x1 - x1 / ((σ r0 5).toInt64) * ((σ r0 5).toInt64)).toInt32))) _ h)
      · replace h := ite_t c5 h
        exact v_iinc (v := (σ (r0 + 2) (ix ((x1 - x1 / ((σ r0 5).toInt64) * ((σ r0 5).toInt64)).toInt32))) + (-1)) dX4_stray_51 0 rfl rfl [0, 1, 2] rfl (by decide) (v_sub [2, 1, 0] rfl (sH_stray_B54 r0 p0 ((x1 - x1 / ((σ r0 5).toInt64) * ((σ r0 5).toInt64)).toInt32) ((σ (r0 + 2) (ix ((x1 - x1 / ((σ r0 5).toInt64) * ((σ r0 5).toInt64)).toInt32))) + (-1)) _ h))
    · replace h := ite_t c4 h
      exact v_iinc (v := (σ (r0 + 2) (ix ((x1 - x1 / ((σ r0 5).toInt64) * ((σ r0 5).toInt64)).toInt32))) + 1) dX4_stray_35 0 rfl rfl [0, 1, 2] rfl (by decide) (v_goto (tgt := 54) dX4_stray_38 (by decide) (v_sub [2, 1, 0] rfl (sH_stray_B54 r0 p0 ((x1 - x1 / ((σ r0 5).toInt64) * ((σ r0 5).toInt64)).toInt32) ((σ (r0 + 2) (ix ((x1 - x1 / ((σ r0 5).toInt64) * ((σ r0 5).toInt64)).toInt32))) + 1) _ h)))
  · replace h := ite_t c1 h
    replace h := Option.some.inj h
    subst h
    exact v_vret dX4_stray_7 rfl rfl rfl rfl rfl
def fR_isMissing (r0 : Nat) (σ : Sg) : Option Int32 := if (σ r0 1) = (-1) then some 1 else some 0
set_option maxRecDepth 100000 in
set_option maxHeartbeats 4000000 in
theorem eR_isMissing {G : Gx} (r0 : Nat) (p0 : isR r0) (σ : Sg) (q : Int32) (h : fR_isMissing r0 σ = some q) : Evm G yX7_isMissing MX7_isMissing [.ref (gb G + r0)] σ (some (.int q)) σ := by
  refine Ev.of (by decide +kernel) rfl rfl (Nat.le_of_ble_eq_true rfl) ?_
  show Vm G MX7_isMissing (some (.int q)) σ 0 [(0, .ref (gb G + r0))] [] σ
  unfold fR_isMissing at h
  refine v_aload_n dX7_isMissing_0 0 rfl rfl (vm_getI dX7_isMissing_1 fsX7_13 ((isR_s p0).2.1) ((isR_s p0).1.1) (by decide) ((isR_s p0).2.2.2.2.1) (v_iconst (v := -1) dX7_isMissing_4 rfl (v_icmp_ne (tgt := 12) dX7_isMissing_5 (by decide) (fun c1 => ?_) (fun c1 => ?_))))
  · replace h := ite_f c1 h
    refine v_iconst dX7_isMissing_12 rfl ?_
    replace h := Option.some.inj h
    subst h
    exact v_zret dX7_isMissing_13 rfl (by decide) rfl rfl rfl rfl
  · replace h := ite_t c1 h
    refine v_iconst dX7_isMissing_8 rfl (v_goto (tgt := 13) dX7_isMissing_9 (by decide) ?_)
    replace h := Option.some.inj h
    subst h
    exact v_zret dX7_isMissing_13 rfl (by decide) rfl rfl rfl rfl
def fR_become_b12 (K12 : Nat → Int32 → Sg → Option Sg) (r0 : Nat) (x3 : Int32) (σ : Sg) : Option Sg := if (40 : Int32) ≤ x3 then some σ else if inb x3 40 = true then ltc (wr σ (r0 + 1) (ix x3) 0) fun σ5 => K12 r0 (x3 + 1) σ5 else none
def fR_become_L12 (n : Nat) : Nat → Int32 → Sg → Option Sg := Nat.rec (fun _ _ _ => none) (fun _ K => fR_become_b12 K) n
set_option maxRecDepth 100000 in
set_option maxHeartbeats 4000000 in
theorem sR_become_b12 {G : Gx} {q : Sg} (K12 : Nat → Int32 → Sg → Option Sg) (hK12 : ∀ (r0 : Nat) (p0 : isR r0) (x3 : Int32) (σ : Sg), K12 r0 x3 σ = some q → Vm G MX7_become none q 12 [(0, .ref (gb G + r0)), (3, .int x3)] [] σ) (r0 : Nat) (p0 : isR r0) (x3 : Int32) (σ : Sg) (h : fR_become_b12 K12 r0 x3 σ = some q) : Vm G MX7_become none q 12 [(0, .ref (gb G + r0)), (3, .int x3)] [] σ := by
  unfold fR_become_b12 at h
  refine v_iload_n dX7_become_12 1 rfl rfl (v_bipush (v := 40) dX7_become_13 rfl (v_icmp_ge (tgt := 31) dX7_become_15 (by decide) (fun c3 => ?_) (fun c3 => ?_)))
  · replace h := ite_t c3 h
    replace h := Option.some.inj h
    subst h
    exact v_vret dX7_become_31 rfl rfl rfl rfl rfl
  · replace h := ite_f c3 h
    refine v_aload_n dX7_become_18 0 rfl rfl (vm_getR (t := (r0 + 1)) dX7_become_19 fsX7_9 ((isR_s p0).2.1) ((isR_s p0).1.1) (by decide) ((isR_s p0).2.2.2.1) (v_iload_n dX7_become_22 1 rfl rfl (v_iconst dX7_become_23 rfl ?_)))
    obtain ⟨g4, h⟩ := guard_some h
    obtain ⟨σ5, eσ5, h⟩ := ltc_some h
    exact vn_iast dX7_become_24 ((isR_s p0).2.2.1) ((isR_s p0).1.2) g4 rfl eσ5 (v_iinc (v := x3 + 1) dX7_become_25 1 rfl rfl [0, 1] rfl (by decide) (v_goto (tgt := 12) dX7_become_28 (by decide) (v_sub [1, 0] rfl (hK12 r0 p0 (x3 + 1) _ h))))
theorem sR_become_L12 {G : Gx} {q : Sg} (n : Nat) : ∀ (r0 : Nat) (p0 : isR r0) (x3 : Int32) (σ : Sg) (h : fR_become_L12 n r0 x3 σ = some q), Vm G MX7_become none q 12 [(0, .ref (gb G + r0)), (3, .int x3)] [] σ := by
  induction n with
  | zero => intro r0 p0 x3 σ h; cases h
  | succ n ih => intro r0 p0 x3 σ h; exact sR_become_b12  _ ih r0 p0 x3 σ h
def fR_become (r0 : Nat) (x1 : Int32) (x2 : Int32) (σ : Sg) : Option Sg := ltc (wr σ r0 1 x1) fun σ1 => ltc (wr σ1 r0 2 x2) fun σ2 => fR_become_L12 2000 r0 0 σ2
set_option maxRecDepth 100000 in
set_option maxHeartbeats 4000000 in
theorem eR_become {G : Gx} (r0 : Nat) (p0 : isR r0) (x1 : Int32) (x2 : Int32) (σ : Sg) (q : Sg) (h : fR_become r0 x1 x2 σ = some q) : Evm G yX7_become MX7_become [.ref (gb G + r0), .int x1, .int x2] σ none q := by
  refine Ev.of (by decide +kernel) rfl rfl (Nat.le_of_ble_eq_true rfl) ?_
  show Vm G MX7_become none q 0 [(0, .ref (gb G + r0)), (1, .int x1), (2, .int x2)] [] σ
  unfold fR_become at h
  refine v_aload_n dX7_become_0 0 rfl rfl (v_iload_n dX7_become_1 1 rfl rfl ?_)
  obtain ⟨σ1, eσ1, h⟩ := ltc_some h
  refine vn_put dX7_become_2 fsX7_13 ((isR_s p0).2.1) ((isR_s p0).1.1) (by decide) ((isR_s p0).2.2.2.2.1) eσ1 (v_aload_n dX7_become_5 0 rfl rfl (v_iload_n dX7_become_6 2 rfl rfl ?_))
  obtain ⟨σ2, eσ2, h⟩ := ltc_some h
  exact vn_put dX7_become_7 fsX7_17 ((isR_s p0).2.1) ((isR_s p0).1.1) (by decide) ((isR_s p0).2.2.2.2.2) eσ2 (v_iconst dX7_become_10 rfl (v_istore_n dX7_become_11 [0, 1] rfl (by decide) rfl (v_sub [1, 0] rfl (sR_become_L12 2000 r0 p0 0 _ h))))
def fR_holds (r0 : Nat) (x1 : Int32) (x2 : Int32) (σ : Sg) : Option Int32 := if x1 < 0 then some 0 else if x2 < 0 then some 0 else if (σ r0 2) < x1 then some 0 else if ((σ r0 2) - x1) < x2 then some 0 else some 1
set_option maxRecDepth 100000 in
set_option maxHeartbeats 4000000 in
theorem eR_holds {G : Gx} (r0 : Nat) (p0 : isR r0) (x1 : Int32) (x2 : Int32) (σ : Sg) (q : Int32) (h : fR_holds r0 x1 x2 σ = some q) : Evm G yX7_holds MX7_holds [.ref (gb G + r0), .int x1, .int x2] σ (some (.int q)) σ := by
  refine Ev.of (by decide +kernel) rfl rfl (Nat.le_of_ble_eq_true rfl) ?_
  show Vm G MX7_holds (some (.int q)) σ 0 [(0, .ref (gb G + r0)), (1, .int x1), (2, .int x2)] [] σ
  unfold fR_holds at h
  refine v_iload_n dX7_holds_0 1 rfl rfl (v_if_lt (tgt := 30) dX7_holds_1 (by decide) (fun c1 => ?_) (fun c1 => ?_))
  · replace h := ite_t c1 h
    refine v_iconst dX7_holds_30 rfl ?_
    replace h := Option.some.inj h
    subst h
    exact v_zret dX7_holds_31 rfl (by decide) rfl rfl rfl rfl
  · replace h := ite_f c1 h
    refine v_iload_n dX7_holds_4 2 rfl rfl (v_if_lt (tgt := 30) dX7_holds_5 (by decide) (fun c2 => ?_) (fun c2 => ?_))
    · replace h := ite_t c2 h
      refine v_iconst dX7_holds_30 rfl ?_
      replace h := Option.some.inj h
      subst h
      exact v_zret dX7_holds_31 rfl (by decide) rfl rfl rfl rfl
    · replace h := ite_f c2 h
      refine v_iload_n dX7_holds_8 1 rfl rfl (v_aload_n dX7_holds_9 0 rfl rfl (vm_getI dX7_holds_10 fsX7_17 ((isR_s p0).2.1) ((isR_s p0).1.1) (by decide) ((isR_s p0).2.2.2.2.2) (v_icmp_gt (tgt := 30) dX7_holds_13 (by decide) (fun c3 => ?_) (fun c3 => ?_))))
      · replace h := ite_t c3 h
        refine v_iconst dX7_holds_30 rfl ?_
        replace h := Option.some.inj h
        subst h
        exact v_zret dX7_holds_31 rfl (by decide) rfl rfl rfl rfl
      · replace h := ite_f c3 h
        refine v_iload_n dX7_holds_16 2 rfl rfl (v_aload_n dX7_holds_17 0 rfl rfl (vm_getI dX7_holds_18 fsX7_17 ((isR_s p0).2.1) ((isR_s p0).1.1) (by decide) ((isR_s p0).2.2.2.2.2) (v_iload_n dX7_holds_21 1 rfl rfl (v_isub dX7_holds_22 (v_icmp_gt (tgt := 30) dX7_holds_23 (by decide) (fun c4 => ?_) (fun c4 => ?_))))))
        · replace h := ite_t c4 h
          refine v_iconst dX7_holds_30 rfl ?_
          replace h := Option.some.inj h
          subst h
          exact v_zret dX7_holds_31 rfl (by decide) rfl rfl rfl rfl
        · replace h := ite_f c4 h
          refine v_iconst dX7_holds_26 rfl (v_goto (tgt := 31) dX7_holds_27 (by decide) ?_)
          replace h := Option.some.inj h
          subst h
          exact v_zret dX7_holds_31 rfl (by decide) rfl rfl rfl rfl
def fR_cut (r0 : Nat) (x1 : Int32) (σ : Sg) : Option Int32 := if (σ r0 1) = 0 then some x1.toInt8.toInt32 else if (σ r0 1) = 1 then some x1.toInt16.toInt32 else some x1
set_option maxRecDepth 100000 in
set_option maxHeartbeats 4000000 in
theorem eR_cut {G : Gx} (r0 : Nat) (p0 : isR r0) (x1 : Int32) (σ : Sg) (q : Int32) (h : fR_cut r0 x1 σ = some q) : Evm G yX7_cut MX7_cut [.ref (gb G + r0), .int x1] σ (some (.int q)) σ := by
  refine Ev.of (by decide +kernel) rfl rfl (Nat.le_of_ble_eq_true rfl) ?_
  show Vm G MX7_cut (some (.int q)) σ 0 [(0, .ref (gb G + r0)), (1, .int x1)] [] σ
  unfold fR_cut at h
  refine v_aload_n dX7_cut_0 0 rfl rfl (vm_getI dX7_cut_1 fsX7_13 ((isR_s p0).2.1) ((isR_s p0).1.1) (by decide) ((isR_s p0).2.2.2.2.1) ?_)
  by_cases c1 : (σ r0 1) = 0
  · replace h := ite_t c1 h
    refine v_lookAt (tgt := 32) dX7_cut_4 c1 (by decide) (off := 28) (by decide) (by decide) ?_
    refine v_iload_n dX7_cut_32 1 rfl rfl (v_i2b dX7_cut_33 ?_)
    replace h := Option.some.inj h
    subst h
    exact v_iret dX7_cut_34 rfl rfl rfl rfl rfl
  replace h := ite_f c1 h
  by_cases c2 : (σ r0 1) = 1
  · replace h := ite_t c2 h
    refine v_lookAt (tgt := 35) dX7_cut_4 c2 (by decide) (off := 31) (by decide) (by decide) ?_
    refine v_iload_n dX7_cut_35 1 rfl rfl (v_i2s dX7_cut_36 ?_)
    replace h := Option.some.inj h
    subst h
    exact v_iret dX7_cut_37 rfl rfl rfl rfl rfl
  replace h := ite_f c2 h
  have nc1 := i_ne (z := 0) (by decide) c1
  have nc2 := i_ne (z := 1) (by decide) c2
  refine v_lookup (tgt := 38) (off := 34) dX7_cut_4 (by decide) (by simp only [Op.lookupswitch.offset]; rw [if_neg (fun q => nc1 q.symm)]; rw [if_neg (fun q => nc2 q.symm)]) (by decide) ?_
  refine v_iload_n dX7_cut_38 1 rfl rfl ?_
  replace h := Option.some.inj h
  subst h
  exact v_iret dX7_cut_39 rfl rfl rfl rfl rfl
def fT_refuses (x1 : Int32) (σ : Sg) : Option (Int32 × Sg) := ltc (wr σ 2 3 x1) fun σ1 => some (0, σ1)
set_option maxRecDepth 100000 in
set_option maxHeartbeats 4000000 in
theorem eT_refuses {G : Gx} (x1 : Int32) (σ : Sg) (q : (Int32 × Sg)) (h : fT_refuses x1 σ = some q) : Evm G yX8_refuses MX8_refuses [.ref (gb G + 2), .int x1] σ (some (.int q.1)) q.2 := by
  refine Ev.of (by decide +kernel) rfl rfl (Nat.le_of_ble_eq_true rfl) ?_
  show Vm G MX8_refuses (some (.int q.1)) q.2 0 [(0, .ref (gb G + 2)), (1, .int x1)] [] σ
  unfold fT_refuses at h
  refine v_aload_n dX8_refuses_0 0 rfl rfl (v_iload_n dX8_refuses_1 1 rfl rfl ?_)
  obtain ⟨σ1, eσ1, h⟩ := ltc_some h
  refine vn_put dX8_refuses_2 fsX8_77 lc_2 shc_2 (by decide) rf_2_3 eσ1 (v_iconst dX8_refuses_5 rfl ?_)
  replace h := Option.some.inj h
  subst h
  exact v_zret dX8_refuses_6 rfl (by decide) rfl rfl rfl rfl
def fT_takesSign_B24 (σ : Sg) : Option (Int32 × Sg) := (fT_refuses 1 σ).bind fun q5 => if isb q5.1 = true then some (q5.1, q5.2) else none
set_option maxRecDepth 100000 in
set_option maxHeartbeats 4000000 in
theorem sT_takesSign_B24 {G : Gx} {q : (Int32 × Sg)} (σ : Sg) (h : fT_takesSign_B24 σ = some q) : Vm G MX8_takesSign (some (.int q.1)) q.2 24 [(0, .ref (gb G + 2))] [] σ := by
  unfold fT_takesSign_B24 at h
  refine v_aload_n dX8_takesSign_24 0 rfl rfl (v_iconst dX8_takesSign_25 rfl ?_)
  obtain ⟨q5, hq5, h⟩ := bind_some h
  refine v_callV (As := [.int 1]) (S := []) dX8_takesSign_26 tw359 tw361 tw4 ykX8_refuses lc_2 shc_2 (by decide) ok_7 rfl (by decide) rfl rfl (Nat.le_of_ble_eq_true rfl) (by decide) (eT_refuses 1 _ _ hq5) ?_
  obtain ⟨g6, h⟩ := guard_some h
  replace h := Option.some.inj h
  subst h
  exact v_zret dX8_takesSign_29 rfl (isb_or g6) rfl rfl rfl rfl
def fT_takesSign (x1 : Int32) (σ : Sg) : Option (Int32 × Sg) := if (σ 2 1) ≤ (σ 2 2) then fT_takesSign_B24 σ else if inb (σ 2 2) 120 = true then if (σ 3 (ix (σ 2 2))) = x1 then (ltc (wr σ 2 2 ((σ 2 2) + 1)) fun σ4 => some (1, σ4)) else fT_takesSign_B24 σ else none
set_option maxRecDepth 100000 in
set_option maxHeartbeats 4000000 in
theorem eT_takesSign {G : Gx} (x1 : Int32) (σ : Sg) (q : (Int32 × Sg)) (h : fT_takesSign x1 σ = some q) : Evm G yX8_takesSign MX8_takesSign [.ref (gb G + 2), .int x1] σ (some (.int q.1)) q.2 := by
  refine Ev.of (by decide +kernel) rfl rfl (Nat.le_of_ble_eq_true rfl) ?_
  show Vm G MX8_takesSign (some (.int q.1)) q.2 0 [(0, .ref (gb G + 2)), (1, .int x1)] [] σ
  unfold fT_takesSign at h
  refine v_aload_n dX8_takesSign_0 0 rfl rfl (vm_getI dX8_takesSign_1 fsX8_13 lc_2 shc_2 (by decide) rf_2_2 (v_aload_n dX8_takesSign_4 0 rfl rfl (vm_getI dX8_takesSign_5 fsX8_23 lc_2 shc_2 (by decide) rf_2_1 (v_icmp_ge (tgt := 24) dX8_takesSign_8 (by decide) (fun c1 => ?_) (fun c1 => ?_)))))
  · replace h := ite_t c1 h
    exact v_sub [0] rfl (sT_takesSign_B24 _ h)
  · replace h := ite_f c1 h
    refine v_aload_n dX8_takesSign_11 0 rfl rfl (vm_getR (t := 3) dX8_takesSign_12 fsX8_9 lc_2 shc_2 (by decide) rf_2_0 (v_aload_n dX8_takesSign_15 0 rfl rfl (vm_getI dX8_takesSign_16 fsX8_13 lc_2 shc_2 (by decide) rf_2_2 ?_)))
    obtain ⟨g2, h⟩ := guard_some h
    refine vn_iald dX8_takesSign_19 lc_3 sha_3 g2 rfl (v_iload_n dX8_takesSign_20 1 rfl rfl (v_icmp_eq (tgt := 30) dX8_takesSign_21 (by decide) (fun c3 => ?_) (fun c3 => ?_)))
    · replace h := ite_t c3 h
      refine v_aload_n dX8_takesSign_30 0 rfl rfl (v_dup dX8_takesSign_31 rfl (vm_getI dX8_takesSign_32 fsX8_13 lc_2 shc_2 (by decide) rf_2_2 (v_iconst dX8_takesSign_35 rfl (v_iadd dX8_takesSign_36 ?_))))
      obtain ⟨σ4, eσ4, h⟩ := ltc_some h
      refine vn_put dX8_takesSign_37 fsX8_13 lc_2 shc_2 (by decide) rf_2_2 eσ4 (v_iconst dX8_takesSign_40 rfl ?_)
      replace h := Option.some.inj h
      subst h
      exact v_zret dX8_takesSign_41 rfl (by decide) rfl rfl rfl rfl
    · replace h := ite_f c3 h
      exact v_sub [0] rfl (sT_takesSign_B24 _ h)
def fT_isFigure (x0 : Int32) (σ : Sg) : Option Int32 := if x0 < 48 then some 0 else if (57 : Int32) < x0 then some 0 else some 1
set_option maxRecDepth 100000 in
set_option maxHeartbeats 4000000 in
theorem eT_isFigure {G : Gx} (x0 : Int32) (σ : Sg) (q : Int32) (h : fT_isFigure x0 σ = some q) : Evm G yX8_isFigure MX8_isFigure [.int x0] σ (some (.int q)) σ := by
  refine Ev.of (by decide +kernel) rfl rfl (Nat.le_of_ble_eq_true rfl) ?_
  show Vm G MX8_isFigure (some (.int q)) σ 0 [(0, .int x0)] [] σ
  unfold fT_isFigure at h
  refine v_iload_n dX8_isFigure_0 0 rfl rfl (v_bipush (v := 48) dX8_isFigure_1 rfl (v_icmp_lt (tgt := 16) dX8_isFigure_3 (by decide) (fun c1 => ?_) (fun c1 => ?_)))
  · replace h := ite_t c1 h
    refine v_iconst dX8_isFigure_16 rfl ?_
    replace h := Option.some.inj h
    subst h
    exact v_zret dX8_isFigure_17 rfl (by decide) rfl rfl rfl rfl
  · replace h := ite_f c1 h
    refine v_iload_n dX8_isFigure_6 0 rfl rfl (v_bipush (v := 57) dX8_isFigure_7 rfl (v_icmp_gt (tgt := 16) dX8_isFigure_9 (by decide) (fun c2 => ?_) (fun c2 => ?_)))
    · replace h := ite_t c2 h
      refine v_iconst dX8_isFigure_16 rfl ?_
      replace h := Option.some.inj h
      subst h
      exact v_zret dX8_isFigure_17 rfl (by decide) rfl rfl rfl rfl
    · replace h := ite_f c2 h
      refine v_iconst dX8_isFigure_12 rfl (v_goto (tgt := 17) dX8_isFigure_13 (by decide) ?_)
      replace h := Option.some.inj h
      subst h
      exact v_zret dX8_isFigure_17 rfl (by decide) rfl rfl rfl rfl
def fT_takesNumber_B81 (σ : Sg) : Option (Int32 × Sg) := (fT_refuses 1 σ).bind fun q12 => if isb q12.1 = true then some (q12.1, q12.2) else none
set_option maxRecDepth 100000 in
set_option maxHeartbeats 4000000 in
theorem sT_takesNumber_B81 {G : Gx} {q : (Int32 × Sg)} (σ : Sg) (h : fT_takesNumber_B81 σ = some q) : Vm G MX8_takesNumber (some (.int q.1)) q.2 81 [(0, .ref (gb G + 2))] [] σ := by
  unfold fT_takesNumber_B81 at h
  refine v_aload_n dX8_takesNumber_81 0 rfl rfl (v_iconst dX8_takesNumber_82 rfl ?_)
  obtain ⟨q12, hq12, h⟩ := bind_some h
  refine v_callV (As := [.int 1]) (S := []) dX8_takesNumber_83 tw359 tw361 tw4 ykX8_refuses lc_2 shc_2 (by decide) ok_7 rfl (by decide) rfl rfl (Nat.le_of_ble_eq_true rfl) (by decide) (eT_refuses 1 _ _ hq12) ?_
  obtain ⟨g13, h⟩ := guard_some h
  replace h := Option.some.inj h
  subst h
  exact v_zret dX8_takesNumber_86 rfl (isb_or g13) rfl rfl rfl rfl
def fT_takesNumber_B99 (σ : Sg) : Option (Int32 × Sg) := (fT_refuses 2 σ).bind fun q14 => if isb q14.1 = true then some (q14.1, q14.2) else none
set_option maxRecDepth 100000 in
set_option maxHeartbeats 4000000 in
theorem sT_takesNumber_B99 {G : Gx} {q : (Int32 × Sg)} (σ : Sg) (h : fT_takesNumber_B99 σ = some q) : Vm G MX8_takesNumber (some (.int q.1)) q.2 99 [(0, .ref (gb G + 2))] [] σ := by
  unfold fT_takesNumber_B99 at h
  refine v_aload_n dX8_takesNumber_99 0 rfl rfl (v_iconst dX8_takesNumber_100 rfl ?_)
  obtain ⟨q14, hq14, h⟩ := bind_some h
  refine v_callV (As := [.int 2]) (S := []) dX8_takesNumber_101 tw359 tw361 tw4 ykX8_refuses lc_2 shc_2 (by decide) ok_7 rfl (by decide) rfl rfl (Nat.le_of_ble_eq_true rfl) (by decide) (eT_refuses 2 _ _ hq14) ?_
  obtain ⟨g15, h⟩ := guard_some h
  replace h := Option.some.inj h
  subst h
  exact v_zret dX8_takesNumber_104 rfl (isb_or g15) rfl rfl rfl rfl
def fT_takesNumber_B63 (x1 : Int32) (x2 : Int32) (x3 : Int32) (x4 : Int32) (σ : Sg) : Option (Int32 × Sg) := if x3 = (σ 2 2) then fT_takesNumber_B81 σ else if (x3 - (σ 2 2)) ≤ 2 then (if x4 < x1 then fT_takesNumber_B99 σ else if x4 ≤ x2 then (ltc (wr σ 2 2 x3) fun σ10 => ltc (wr σ10 2 4 x4) fun σ11 => some (1, σ11)) else fT_takesNumber_B99 σ) else fT_takesNumber_B81 σ
set_option maxRecDepth 100000 in
set_option maxHeartbeats 4000000 in
theorem sT_takesNumber_B63 {G : Gx} {q : (Int32 × Sg)} (x1 : Int32) (x2 : Int32) (x3 : Int32) (x4 : Int32) (σ : Sg) (h : fT_takesNumber_B63 x1 x2 x3 x4 σ = some q) : Vm G MX8_takesNumber (some (.int q.1)) q.2 63 [(0, .ref (gb G + 2)), (1, .int x1), (2, .int x2), (3, .int x3), (4, .int x4)] [] σ := by
  unfold fT_takesNumber_B63 at h
  refine v_iload_n dX8_takesNumber_63 3 rfl rfl (v_aload_n dX8_takesNumber_64 0 rfl rfl (vm_getI dX8_takesNumber_65 fsX8_13 lc_2 shc_2 (by decide) rf_2_2 (v_icmp_eq (tgt := 81) dX8_takesNumber_68 (by decide) (fun c6 => ?_) (fun c6 => ?_))))
  · replace h := ite_t c6 h
    exact v_sub [0] rfl (sT_takesNumber_B81 _ h)
  · replace h := ite_f c6 h
    refine v_iload_n dX8_takesNumber_71 3 rfl rfl (v_aload_n dX8_takesNumber_72 0 rfl rfl (vm_getI dX8_takesNumber_73 fsX8_13 lc_2 shc_2 (by decide) rf_2_2 (v_isub dX8_takesNumber_76 (v_iconst dX8_takesNumber_77 rfl (v_icmp_le (tgt := 87) dX8_takesNumber_78 (by decide) (fun c7 => ?_) (fun c7 => ?_))))))
    · replace h := ite_t c7 h
      refine v_iload dX8_takesNumber_87 4 rfl (v_iload_n dX8_takesNumber_89 1 rfl rfl (v_icmp_lt (tgt := 99) dX8_takesNumber_90 (by decide) (fun c8 => ?_) (fun c8 => ?_)))
      · replace h := ite_t c8 h
        exact v_sub [0] rfl (sT_takesNumber_B99 _ h)
      · replace h := ite_f c8 h
        refine v_iload dX8_takesNumber_93 4 rfl (v_iload_n dX8_takesNumber_95 2 rfl rfl (v_icmp_le (tgt := 105) dX8_takesNumber_96 (by decide) (fun c9 => ?_) (fun c9 => ?_)))
        · replace h := ite_t c9 h
          refine v_aload_n dX8_takesNumber_105 0 rfl rfl (v_iload_n dX8_takesNumber_106 3 rfl rfl ?_)
          obtain ⟨σ10, eσ10, h⟩ := ltc_some h
          refine vn_put dX8_takesNumber_107 fsX8_13 lc_2 shc_2 (by decide) rf_2_2 eσ10 (v_aload_n dX8_takesNumber_110 0 rfl rfl (v_iload dX8_takesNumber_111 4 rfl ?_))
          obtain ⟨σ11, eσ11, h⟩ := ltc_some h
          refine vn_put dX8_takesNumber_113 fsX8_38 lc_2 shc_2 (by decide) rf_2_4 eσ11 (v_iconst dX8_takesNumber_116 rfl ?_)
          replace h := Option.some.inj h
          subst h
          exact v_zret dX8_takesNumber_117 rfl (by decide) rfl rfl rfl rfl
        · replace h := ite_f c9 h
          exact v_sub [0] rfl (sT_takesNumber_B99 _ h)
    · replace h := ite_f c7 h
      exact v_sub [0] rfl (sT_takesNumber_B81 _ h)
def fT_takesNumber_b11 (K11 : Int32 → Int32 → Int32 → Int32 → Int32 → Sg → Option (Int32 × Sg)) (x1 : Int32) (x2 : Int32) (x3 : Int32) (x4 : Int32) (x5 : Int32) (σ : Sg) : Option (Int32 × Sg) := if (3 : Int32) ≤ x5 then fT_takesNumber_B63 x1 x2 x3 x4 σ else if (σ 2 1) ≤ x3 then fT_takesNumber_B63 x1 x2 x3 x4 σ else if inb x3 120 = true then (fT_isFigure (σ 3 (ix x3)) σ).bind fun q4 => if q4 = 0 then fT_takesNumber_B63 x1 x2 x3 x4 σ else K11 x1 x2 (x3 + 1) (((x4 * 10) + (σ 3 (ix x3))) - 48) (x5 + 1) σ else none
def fT_takesNumber_L11 (n : Nat) : Int32 → Int32 → Int32 → Int32 → Int32 → Sg → Option (Int32 × Sg) := Nat.rec (fun _ _ _ _ _ _ => none) (fun _ K => fT_takesNumber_b11 K) n
set_option maxRecDepth 100000 in
set_option maxHeartbeats 4000000 in
theorem sT_takesNumber_b11 {G : Gx} {q : (Int32 × Sg)} (K11 : Int32 → Int32 → Int32 → Int32 → Int32 → Sg → Option (Int32 × Sg)) (hK11 : ∀ (x1 : Int32) (x2 : Int32) (x3 : Int32) (x4 : Int32) (x5 : Int32) (σ : Sg), K11 x1 x2 x3 x4 x5 σ = some q → Vm G MX8_takesNumber (some (.int q.1)) q.2 11 [(0, .ref (gb G + 2)), (1, .int x1), (2, .int x2), (3, .int x3), (4, .int x4), (5, .int x5)] [] σ) (x1 : Int32) (x2 : Int32) (x3 : Int32) (x4 : Int32) (x5 : Int32) (σ : Sg) (h : fT_takesNumber_b11 K11 x1 x2 x3 x4 x5 σ = some q) : Vm G MX8_takesNumber (some (.int q.1)) q.2 11 [(0, .ref (gb G + 2)), (1, .int x1), (2, .int x2), (3, .int x3), (4, .int x4), (5, .int x5)] [] σ := by
  unfold fT_takesNumber_b11 at h
  refine v_iload dX8_takesNumber_11 5 rfl (v_iconst dX8_takesNumber_13 rfl (v_icmp_ge (tgt := 63) dX8_takesNumber_14 (by decide) (fun c1 => ?_) (fun c1 => ?_)))
  · replace h := ite_t c1 h
    exact v_sub [0, 1, 2, 3, 4] rfl (sT_takesNumber_B63 x1 x2 x3 x4 _ h)
  · replace h := ite_f c1 h
    refine v_iload_n dX8_takesNumber_17 3 rfl rfl (v_aload_n dX8_takesNumber_18 0 rfl rfl (vm_getI dX8_takesNumber_19 fsX8_23 lc_2 shc_2 (by decide) rf_2_1 (v_icmp_ge (tgt := 63) dX8_takesNumber_22 (by decide) (fun c2 => ?_) (fun c2 => ?_))))
    · replace h := ite_t c2 h
      exact v_sub [0, 1, 2, 3, 4] rfl (sT_takesNumber_B63 x1 x2 x3 x4 _ h)
    · replace h := ite_f c2 h
      refine v_aload_n dX8_takesNumber_25 0 rfl rfl (vm_getR (t := 3) dX8_takesNumber_26 fsX8_9 lc_2 shc_2 (by decide) rf_2_0 (v_iload_n dX8_takesNumber_29 3 rfl rfl ?_))
      obtain ⟨g3, h⟩ := guard_some h
      refine vn_iald dX8_takesNumber_30 lc_3 sha_3 g3 rfl ?_
      obtain ⟨q4, hq4, h⟩ := bind_some h
      refine v_callS (As := [.int (σ 3 (ix x3))]) (S := []) dX8_takesNumber_31 tw367 tw368 ykX8_isFigure rfl (by decide) rfl rfl (Nat.le_of_ble_eq_true rfl) (by decide) (eT_isFigure (σ 3 (ix x3)) _ _ hq4) ?_
      refine v_if_eq (tgt := 63) dX8_takesNumber_34 (by decide) (fun c5 => ?_) (fun c5 => ?_)
      · replace h := ite_t c5 h
        exact v_sub [0, 1, 2, 3, 4] rfl (sT_takesNumber_B63 x1 x2 x3 x4 _ h)
      · replace h := ite_f c5 h
        refine v_iload dX8_takesNumber_37 4 rfl (v_bipush (v := 10) dX8_takesNumber_39 rfl (v_imul dX8_takesNumber_41 (v_aload_n dX8_takesNumber_42 0 rfl rfl (vm_getR (t := 3) dX8_takesNumber_43 fsX8_9 lc_2 shc_2 (by decide) rf_2_0 (v_iload_n dX8_takesNumber_46 3 rfl rfl (vn_iald dX8_takesNumber_47 lc_3 sha_3 g3 rfl (v_iadd dX8_takesNumber_48 (v_bipush (v := 48) dX8_takesNumber_49 rfl (v_isub dX8_takesNumber_51 ?_)))))))))
        exact v_istore dX8_takesNumber_52 [0, 1, 2, 3, 4, 5] rfl (by decide) (v_iinc (v := x3 + 1) dX8_takesNumber_54 4 rfl rfl [0, 1, 2, 3, 4, 5] rfl (by decide) (v_iinc (v := x5 + 1) dX8_takesNumber_57 5 rfl rfl [0, 1, 2, 3, 4, 5] rfl (by decide) (v_goto (tgt := 11) dX8_takesNumber_60 (by decide) (v_sub [3, 4, 5, 1, 2, 0] rfl (hK11 x1 x2 (x3 + 1) (((x4 * 10) + (σ 3 (ix x3))) - 48) (x5 + 1) _ h)))))
theorem sT_takesNumber_L11 {G : Gx} {q : (Int32 × Sg)} (n : Nat) : ∀ (x1 : Int32) (x2 : Int32) (x3 : Int32) (x4 : Int32) (x5 : Int32) (σ : Sg) (h : fT_takesNumber_L11 n x1 x2 x3 x4 x5 σ = some q), Vm G MX8_takesNumber (some (.int q.1)) q.2 11 [(0, .ref (gb G + 2)), (1, .int x1), (2, .int x2), (3, .int x3), (4, .int x4), (5, .int x5)] [] σ := by
  induction n with
  | zero => intro x1 x2 x3 x4 x5 σ h; cases h
  | succ n ih => intro x1 x2 x3 x4 x5 σ h; exact sT_takesNumber_b11  _ ih x1 x2 x3 x4 x5 σ h
def fT_takesNumber (x1 : Int32) (x2 : Int32) (σ : Sg) : Option (Int32 × Sg) := fT_takesNumber_L11 2000 x1 x2 (σ 2 2) 0 0 σ
set_option maxRecDepth 100000 in
set_option maxHeartbeats 4000000 in
theorem eT_takesNumber {G : Gx} (x1 : Int32) (x2 : Int32) (σ : Sg) (q : (Int32 × Sg)) (h : fT_takesNumber x1 x2 σ = some q) : Evm G yX8_takesNumber MX8_takesNumber [.ref (gb G + 2), .int x1, .int x2] σ (some (.int q.1)) q.2 := by
  refine Ev.of (by decide +kernel) rfl rfl (Nat.le_of_ble_eq_true rfl) ?_
  show Vm G MX8_takesNumber (some (.int q.1)) q.2 0 [(0, .ref (gb G + 2)), (1, .int x1), (2, .int x2)] [] σ
  unfold fT_takesNumber at h
  exact v_aload_n dX8_takesNumber_0 0 rfl rfl (vm_getI dX8_takesNumber_1 fsX8_13 lc_2 shc_2 (by decide) rf_2_2 (v_istore_n dX8_takesNumber_4 [0, 1, 2, 3] rfl (by decide) rfl (v_iconst dX8_takesNumber_5 rfl (v_istore dX8_takesNumber_6 [0, 1, 2, 3, 4] rfl (by decide) (v_iconst dX8_takesNumber_8 rfl (v_istore dX8_takesNumber_9 [0, 1, 2, 3, 4, 5] rfl (by decide) (v_sub [3, 4, 5, 2, 1, 0] rfl (sT_takesNumber_L11 2000 x1 x2 (σ 2 2) 0 0 _ h))))))))
