def fM_feed (x1 : Int32) (σ : Sg) : Option (Int32 × Sg) := (fM_in x1 0 255 σ).bind fun q1 => if q1 = 0 then some ((-1000001), σ) else if (σ 200 6) = 120 then some ((-1000003), σ) else if inb (σ 200 6) 120 = true then ltc (wr σ 205 (ix (σ 200 6)) x1) fun σ5 => ltc (wr σ5 200 6 ((σ5 200 6) + 1)) fun σ6 => some (σ6 200 6, σ6) else none
set_option maxRecDepth 100000 in
set_option maxHeartbeats 4000000 in
theorem eM_feed {G : Gx} (x1 : Int32) (σ : Sg) (q : (Int32 × Sg)) (h : fM_feed x1 σ = some q) : Evm G yX12_feed MX12_feed [.ref (gb G + 200), .int x1] σ (some (.int q.1)) q.2 := by
  refine Ev.of (by decide +kernel) rfl rfl (Nat.le_of_ble_eq_true rfl) ?_
  show Vm G MX12_feed (some (.int q.1)) q.2 0 [(0, .ref (gb G + 200)), (1, .int x1)] [] σ
  unfold fM_feed at h
  refine v_iload_n dX12_feed_0 1 rfl rfl (v_iconst dX12_feed_1 rfl (v_sipush (v := 255) dX12_feed_2 rfl ?_))
  obtain ⟨q1, hq1, h⟩ := bind_some h
  refine v_callS (As := [.int x1, .int 0, .int 255]) (S := []) dX12_feed_5 tw761 tw762 ykX12_in rfl (by decide) rfl rfl (Nat.le_of_ble_eq_true rfl) (by decide) (eM_in x1 0 255 _ _ hq1) ?_
  refine v_if_ne (tgt := 14) dX12_feed_8 (by decide) (fun c2 => ?_) (fun c2 => ?_)
  · replace h := ite_f c2 h
    refine v_aload_n dX12_feed_14 0 rfl rfl (vm_getI dX12_feed_15 fsX12_79 lc_200 shc_200 (by decide) rf_200_6 (v_bipush (v := 120) dX12_feed_18 rfl (v_icmp_ne (tgt := 26) dX12_feed_20 (by decide) (fun c3 => ?_) (fun c3 => ?_))))
    · replace h := ite_f c3 h
      refine v_aload_n dX12_feed_26 0 rfl rfl (vm_getR (t := 205) dX12_feed_27 fsX12_22 lc_200 shc_200 (by decide) rf_200_5 (v_aload_n dX12_feed_30 0 rfl rfl (vm_getI dX12_feed_31 fsX12_79 lc_200 shc_200 (by decide) rf_200_6 (v_iload_n dX12_feed_34 1 rfl rfl ?_))))
      obtain ⟨g4, h⟩ := guard_some h
      obtain ⟨σ5, eσ5, h⟩ := ltc_some h
      refine vn_iast dX12_feed_35 lc_205 sha_205 g4 rfl eσ5 (v_aload_n dX12_feed_36 0 rfl rfl (v_dup dX12_feed_37 rfl (vm_getI dX12_feed_38 fsX12_79 lc_200 shc_200 (by decide) rf_200_6 (v_iconst dX12_feed_41 rfl (v_iadd dX12_feed_42 ?_)))))
      obtain ⟨σ6, eσ6, h⟩ := ltc_some h
      refine vn_put dX12_feed_43 fsX12_79 lc_200 shc_200 (by decide) rf_200_6 eσ6 (v_aload_n dX12_feed_46 0 rfl rfl (vm_getI dX12_feed_47 fsX12_79 lc_200 shc_200 (by decide) rf_200_6 ?_))
      replace h := Option.some.inj h
      subst h
      exact v_iret dX12_feed_50 rfl rfl rfl rfl rfl
    · replace h := ite_t c3 h
      refine v_ldc dX12_feed_23 tw801 ?_
      replace h := Option.some.inj h
      subst h
      exact v_iret dX12_feed_25 rfl rfl rfl rfl rfl
  · replace h := ite_t c2 h
    refine v_ldc dX12_feed_11 tw764 ?_
    replace h := Option.some.inj h
    subst h
    exact v_iret dX12_feed_13 rfl rfl rfl rfl rfl
def fM_byteAt (x1 : Int32) (σ : Sg) : Option Int32 := if (σ 200 6) ≤ x1 then some (-1) else if inb x1 120 = true then some (σ 205 (ix x1)) else none
set_option maxRecDepth 100000 in
set_option maxHeartbeats 4000000 in
theorem eM_byteAt {G : Gx} (x1 : Int32) (σ : Sg) (q : Int32) (h : fM_byteAt x1 σ = some q) : Evm G yX12_byteAt MX12_byteAt [.ref (gb G + 200), .int x1] σ (some (.int q)) σ := by
  refine Ev.of (by decide +kernel) rfl rfl (Nat.le_of_ble_eq_true rfl) ?_
  show Vm G MX12_byteAt (some (.int q)) σ 0 [(0, .ref (gb G + 200)), (1, .int x1)] [] σ
  unfold fM_byteAt at h
  refine v_iload_n dX12_byteAt_0 1 rfl rfl (v_aload_n dX12_byteAt_1 0 rfl rfl (vm_getI dX12_byteAt_2 fsX12_79 lc_200 shc_200 (by decide) rf_200_6 (v_icmp_ge (tgt := 17) dX12_byteAt_5 (by decide) (fun c1 => ?_) (fun c1 => ?_))))
  · replace h := ite_t c1 h
    refine v_iconst (v := -1) dX12_byteAt_17 rfl ?_
    replace h := Option.some.inj h
    subst h
    exact v_iret dX12_byteAt_18 rfl rfl rfl rfl rfl
  · replace h := ite_f c1 h
    refine v_aload_n dX12_byteAt_8 0 rfl rfl (vm_getR (t := 205) dX12_byteAt_9 fsX12_22 lc_200 shc_200 (by decide) rf_200_5 (v_iload_n dX12_byteAt_12 1 rfl rfl ?_))
    obtain ⟨g2, h⟩ := guard_some h
    refine vn_iald dX12_byteAt_13 lc_205 sha_205 g2 rfl (v_goto (tgt := 18) dX12_byteAt_14 (by decide) ?_)
    replace h := Option.some.inj h
    subst h
    exact v_iret dX12_byteAt_18 rfl rfl rfl rfl rfl
def fM_advances_B96 (K38 : Sg → Option Sg) (s0 : Int32) (σ : Sg) : Option Sg := ltc (wr σ 200 12 s0) fun σ24 => ltc (wr σ24 200 9 ((σ24 200 9) + 1)) fun σ25 => K38 σ25
set_option maxRecDepth 100000 in
set_option maxHeartbeats 4000000 in
theorem sM_advances_B96 {G : Gx} {q : Sg} (K38 : Sg → Option Sg) (hK38 : ∀ (σ : Sg), K38 σ = some q → Vm G MX12_advances none q 38 [(0, .ref (gb G + 200))] [] σ) (s0 : Int32) (σ : Sg) (h : fM_advances_B96 K38 s0 σ = some q) : Vm G MX12_advances none q 96 [(0, .ref (gb G + 200))] [.int s0, .ref (gb G + 200)] σ := by
  unfold fM_advances_B96 at h
  obtain ⟨σ24, eσ24, h⟩ := ltc_some h
  refine vn_put dX12_advances_96 fsX12_92 lc_200 shc_200 (by decide) rf_200_12 eσ24 (v_aload_n dX12_advances_99 0 rfl rfl (v_dup dX12_advances_100 rfl (vm_getI dX12_advances_101 fsX12_83 lc_200 shc_200 (by decide) rf_200_9 (v_iconst dX12_advances_104 rfl (v_iadd dX12_advances_105 ?_)))))
  obtain ⟨σ25, eσ25, h⟩ := ltc_some h
  exact vn_put dX12_advances_106 fsX12_83 lc_200 shc_200 (by decide) rf_200_9 eσ25 (v_goto (tgt := 38) dX12_advances_109 (by decide) (hK38 _ h))
def fM_advances_b38 (K38 : Sg → Option Sg) (σ : Sg) : Option Sg := (fM_byteAt (σ 200 9) σ).bind fun q16 => (fM_in q16 48 57 σ).bind fun q17 => if q17 = 0 then (if (3 : Int32) ≤ ((σ 200 9) - (σ 200 10)) then (ltc (wr σ 200 11 5) fun σ20 => some σ20) else ltc (wr σ 200 11 2) fun σ21 => some σ21) else if (2 : Int32) ≤ ((σ 200 9) - (σ 200 10)) then fM_advances_B96 K38 (σ 200 12) σ else (fM_byteAt (σ 200 9) σ).bind fun q23 => fM_advances_B96 K38 (((10 * (σ 200 12)) + q23) - 48) σ
def fM_advances_L38 (n : Nat) : Sg → Option Sg := Nat.rec (fun _ => none) (fun _ K => fM_advances_b38 K) n
set_option maxRecDepth 100000 in
set_option maxHeartbeats 4000000 in
theorem sM_advances_b38 {G : Gx} {q : Sg} (K38 : Sg → Option Sg) (hK38 : ∀ (σ : Sg), K38 σ = some q → Vm G MX12_advances none q 38 [(0, .ref (gb G + 200))] [] σ) (σ : Sg) (h : fM_advances_b38 K38 σ = some q) : Vm G MX12_advances none q 38 [(0, .ref (gb G + 200))] [] σ := by
  unfold fM_advances_b38 at h
  refine v_aload_n dX12_advances_38 0 rfl rfl (v_aload_n dX12_advances_39 0 rfl rfl (vm_getI dX12_advances_40 fsX12_83 lc_200 shc_200 (by decide) rf_200_9 ?_))
  obtain ⟨q16, hq16, h⟩ := bind_some h
  refine v_callV (As := [.int (σ 200 9)]) (S := []) dX12_advances_43 tw810 tw812 tw21 ykX12_byteAt lc_200 shc_200 (by decide) ok_11 rfl (by decide) rfl rfl (Nat.le_of_ble_eq_true rfl) (by decide) (eM_byteAt (σ 200 9) _ _ hq16) ?_
  refine v_bipush (v := 48) dX12_advances_46 rfl (v_bipush (v := 57) dX12_advances_48 rfl ?_)
  obtain ⟨q17, hq17, h⟩ := bind_some h
  refine v_callS (As := [.int q16, .int 48, .int 57]) (S := []) dX12_advances_50 tw761 tw762 ykX12_in rfl (by decide) rfl rfl (Nat.le_of_ble_eq_true rfl) (by decide) (eM_in q16 48 57 _ _ hq17) ?_
  refine v_if_eq (tgt := 112) dX12_advances_53 (by decide) (fun c18 => ?_) (fun c18 => ?_)
  · replace h := ite_t c18 h
    refine v_aload_n dX12_advances_112 0 rfl rfl (v_aload_n dX12_advances_113 0 rfl rfl (vm_getI dX12_advances_114 fsX12_83 lc_200 shc_200 (by decide) rf_200_9 (v_aload_n dX12_advances_117 0 rfl rfl (vm_getI dX12_advances_118 fsX12_86 lc_200 shc_200 (by decide) rf_200_10 (v_isub dX12_advances_121 (v_iconst dX12_advances_122 rfl (v_icmp_ge (tgt := 130) dX12_advances_123 (by decide) (fun c19 => ?_) (fun c19 => ?_))))))))
    · replace h := ite_t c19 h
      refine v_iconst dX12_advances_130 rfl ?_
      obtain ⟨σ20, eσ20, h⟩ := ltc_some h
      refine vn_put dX12_advances_131 fsX12_95 lc_200 shc_200 (by decide) rf_200_11 eσ20 ?_
      replace h := Option.some.inj h
      subst h
      exact v_vret dX12_advances_134 rfl rfl rfl rfl rfl
    · replace h := ite_f c19 h
      refine v_iconst dX12_advances_126 rfl (v_goto (tgt := 131) dX12_advances_127 (by decide) ?_)
      obtain ⟨σ21, eσ21, h⟩ := ltc_some h
      refine vn_put dX12_advances_131 fsX12_95 lc_200 shc_200 (by decide) rf_200_11 eσ21 ?_
      replace h := Option.some.inj h
      subst h
      exact v_vret dX12_advances_134 rfl rfl rfl rfl rfl
  · replace h := ite_f c18 h
    refine v_aload_n dX12_advances_56 0 rfl rfl (v_aload_n dX12_advances_57 0 rfl rfl (vm_getI dX12_advances_58 fsX12_83 lc_200 shc_200 (by decide) rf_200_9 (v_aload_n dX12_advances_61 0 rfl rfl (vm_getI dX12_advances_62 fsX12_86 lc_200 shc_200 (by decide) rf_200_10 (v_isub dX12_advances_65 (v_iconst dX12_advances_66 rfl (v_icmp_ge (tgt := 92) dX12_advances_67 (by decide) (fun c22 => ?_) (fun c22 => ?_))))))))
    · replace h := ite_t c22 h
      exact v_aload_n dX12_advances_92 0 rfl rfl (vm_getI dX12_advances_93 fsX12_92 lc_200 shc_200 (by decide) rf_200_12 (sM_advances_B96 K38 hK38 (σ 200 12) _ h))
    · replace h := ite_f c22 h
      refine v_bipush (v := 10) dX12_advances_70 rfl (v_aload_n dX12_advances_72 0 rfl rfl (vm_getI dX12_advances_73 fsX12_92 lc_200 shc_200 (by decide) rf_200_12 (v_imul dX12_advances_76 (v_aload_n dX12_advances_77 0 rfl rfl (v_aload_n dX12_advances_78 0 rfl rfl (vm_getI dX12_advances_79 fsX12_83 lc_200 shc_200 (by decide) rf_200_9 ?_))))))
      obtain ⟨q23, hq23, h⟩ := bind_some h
      refine v_callV (As := [.int (σ 200 9)]) (S := [.int (10 * (σ 200 12)), .ref (gb G + 200)]) dX12_advances_82 tw810 tw812 tw21 ykX12_byteAt lc_200 shc_200 (by decide) ok_11 rfl (by decide) rfl rfl (Nat.le_of_ble_eq_true rfl) (by decide) (eM_byteAt (σ 200 9) _ _ hq23) ?_
      exact v_iadd dX12_advances_85 (v_bipush (v := 48) dX12_advances_86 rfl (v_isub dX12_advances_88 (v_goto (tgt := 96) dX12_advances_89 (by decide) (sM_advances_B96 K38 hK38 (((10 * (σ 200 12)) + q23) - 48) _ h))))
theorem sM_advances_L38 {G : Gx} {q : Sg} (n : Nat) : ∀ (σ : Sg) (h : fM_advances_L38 n σ = some q), Vm G MX12_advances none q 38 [(0, .ref (gb G + 200))] [] σ := by
  induction n with
  | zero => intro  σ h; cases h
  | succ n ih => intro  σ h; exact sM_advances_b38  _ ih  σ h
def fM_advances_B180 (s0 : Int32) (σ : Sg) : Option Sg := ltc (wr σ 200 11 s0) fun σ12 => if (σ12 200 11) = 0 then (ltc (wr σ12 200 9 ((σ12 200 9) + 0)) fun σ15 => some σ15) else ltc (wr σ12 200 9 ((σ12 200 9) + 1)) fun σ14 => some σ14
set_option maxRecDepth 100000 in
set_option maxHeartbeats 4000000 in
theorem sM_advances_B180 {G : Gx} {q : Sg} (s0 : Int32) (σ : Sg) (h : fM_advances_B180 s0 σ = some q) : Vm G MX12_advances none q 180 [(0, .ref (gb G + 200))] [.int s0, .ref (gb G + 200)] σ := by
  unfold fM_advances_B180 at h
  obtain ⟨σ12, eσ12, h⟩ := ltc_some h
  refine vn_put dX12_advances_180 fsX12_95 lc_200 shc_200 (by decide) rf_200_11 eσ12 (v_aload_n dX12_advances_183 0 rfl rfl (v_dup dX12_advances_184 rfl (vm_getI dX12_advances_185 fsX12_83 lc_200 shc_200 (by decide) rf_200_9 (v_aload_n dX12_advances_188 0 rfl rfl (vm_getI dX12_advances_189 fsX12_95 lc_200 shc_200 (by decide) rf_200_11 (v_if_ne (tgt := 199) dX12_advances_192 (by decide) (fun c13 => ?_) (fun c13 => ?_)))))))
  · replace h := ite_f c13 h
    refine v_iconst dX12_advances_199 rfl (v_iadd dX12_advances_200 ?_)
    obtain ⟨σ14, eσ14, h⟩ := ltc_some h
    refine vn_put dX12_advances_201 fsX12_83 lc_200 shc_200 (by decide) rf_200_9 eσ14 ?_
    replace h := Option.some.inj h
    subst h
    exact v_vret dX12_advances_204 rfl rfl rfl rfl rfl
  · replace h := ite_t c13 h
    refine v_iconst dX12_advances_195 rfl (v_goto (tgt := 200) dX12_advances_196 (by decide) (v_iadd dX12_advances_200 ?_))
    obtain ⟨σ15, eσ15, h⟩ := ltc_some h
    refine vn_put dX12_advances_201 fsX12_83 lc_200 shc_200 (by decide) rf_200_9 eσ15 ?_
    replace h := Option.some.inj h
    subst h
    exact v_vret dX12_advances_204 rfl rfl rfl rfl rfl
def fM_advances (σ : Sg) : Option Sg := ltc (wr σ 200 10 (σ 200 9)) fun σ1 => (fM_byteAt (σ1 200 9) σ1).bind fun q2 => ltc (wr σ1 200 12 q2) fun σ3 => (fM_in q2 48 57 σ3).bind fun q4 => if q4 = 0 then (if (0 : Int32) ≤ q2 then ((fM_in q2 97 122 σ3).bind fun q7 => if q7 = 0 then (if q2 = 44 then fM_advances_B180 3 σ3 else if q2 = 59 then fM_advances_B180 4 σ3 else fM_advances_B180 5 σ3) else fM_advances_B180 1 σ3) else fM_advances_B180 0 σ3) else ltc (wr σ3 200 12 0) fun σ11 => fM_advances_L38 2000 σ11
set_option maxRecDepth 100000 in
set_option maxHeartbeats 4000000 in
theorem eM_advances {G : Gx} (σ : Sg) (q : Sg) (h : fM_advances σ = some q) : Evm G yX12_advances MX12_advances [.ref (gb G + 200)] σ none q := by
  refine Ev.of (by decide +kernel) rfl rfl (Nat.le_of_ble_eq_true rfl) ?_
  show Vm G MX12_advances none q 0 [(0, .ref (gb G + 200))] [] σ
  unfold fM_advances at h
  refine v_aload_n dX12_advances_0 0 rfl rfl (v_aload_n dX12_advances_1 0 rfl rfl (vm_getI dX12_advances_2 fsX12_83 lc_200 shc_200 (by decide) rf_200_9 ?_))
  obtain ⟨σ1, eσ1, h⟩ := ltc_some h
  refine vn_put dX12_advances_5 fsX12_86 lc_200 shc_200 (by decide) rf_200_10 eσ1 (v_aload_n dX12_advances_8 0 rfl rfl (v_aload_n dX12_advances_9 0 rfl rfl (vm_getI dX12_advances_10 fsX12_83 lc_200 shc_200 (by decide) rf_200_9 ?_)))
  obtain ⟨q2, hq2, h⟩ := bind_some h
  refine v_callV (As := [.int (σ1 200 9)]) (S := []) dX12_advances_13 tw810 tw812 tw21 ykX12_byteAt lc_200 shc_200 (by decide) ok_11 rfl (by decide) rfl rfl (Nat.le_of_ble_eq_true rfl) (by decide) (eM_byteAt (σ1 200 9) _ _ hq2) ?_
  refine v_istore_n dX12_advances_16 [0, 1] rfl (by decide) rfl (v_aload_n dX12_advances_17 1 rfl rfl (v_iload_n dX12_advances_18 0 rfl rfl ?_))
  obtain ⟨σ3, eσ3, h⟩ := ltc_some h
  refine vn_put dX12_advances_19 fsX12_92 lc_200 shc_200 (by decide) rf_200_12 eσ3 (v_iload_n dX12_advances_22 0 rfl rfl (v_bipush (v := 48) dX12_advances_23 rfl (v_bipush (v := 57) dX12_advances_25 rfl ?_)))
  obtain ⟨q4, hq4, h⟩ := bind_some h
  refine v_callS (As := [.int q2, .int 48, .int 57]) (S := []) dX12_advances_27 tw761 tw762 ykX12_in rfl (by decide) rfl rfl (Nat.le_of_ble_eq_true rfl) (by decide) (eM_in q2 48 57 _ _ hq4) ?_
  refine v_if_eq (tgt := 135) dX12_advances_30 (by decide) (fun c5 => ?_) (fun c5 => ?_)
  · replace h := ite_t c5 h
    refine v_aload_n dX12_advances_135 1 rfl rfl (v_iload_n dX12_advances_136 0 rfl rfl (v_if_ge (tgt := 144) dX12_advances_137 (by decide) (fun c6 => ?_) (fun c6 => ?_)))
    · replace h := ite_t c6 h
      refine v_iload_n dX12_advances_144 0 rfl rfl (v_bipush (v := 97) dX12_advances_145 rfl (v_bipush (v := 122) dX12_advances_147 rfl ?_))
      obtain ⟨q7, hq7, h⟩ := bind_some h
      refine v_callS (As := [.int q2, .int 97, .int 122]) (S := [.ref (gb G + 200)]) dX12_advances_149 tw761 tw762 ykX12_in rfl (by decide) rfl rfl (Nat.le_of_ble_eq_true rfl) (by decide) (eM_in q2 97 122 _ _ hq7) ?_
      refine v_if_eq (tgt := 159) dX12_advances_152 (by decide) (fun c8 => ?_) (fun c8 => ?_)
      · replace h := ite_t c8 h
        refine v_iload_n dX12_advances_159 0 rfl rfl (v_bipush (v := 44) dX12_advances_160 rfl (v_icmp_ne (tgt := 169) dX12_advances_162 (by decide) (fun c9 => ?_) (fun c9 => ?_)))
        · replace h := ite_f c9 h
          refine v_iload_n dX12_advances_169 0 rfl rfl (v_bipush (v := 59) dX12_advances_170 rfl (v_icmp_ne (tgt := 179) dX12_advances_172 (by decide) (fun c10 => ?_) (fun c10 => ?_)))
          · replace h := ite_f c10 h
            exact v_iconst dX12_advances_179 rfl (v_sub [1] rfl (sM_advances_B180 5 _ h))
          · replace h := ite_t c10 h
            exact v_iconst dX12_advances_175 rfl (v_goto (tgt := 180) dX12_advances_176 (by decide) (v_sub [1] rfl (sM_advances_B180 4 _ h)))
        · replace h := ite_t c9 h
          exact v_iconst dX12_advances_165 rfl (v_goto (tgt := 180) dX12_advances_166 (by decide) (v_sub [1] rfl (sM_advances_B180 3 _ h)))
      · replace h := ite_f c8 h
        exact v_iconst dX12_advances_155 rfl (v_goto (tgt := 180) dX12_advances_156 (by decide) (v_sub [1] rfl (sM_advances_B180 1 _ h)))
    · replace h := ite_f c6 h
      exact v_iconst dX12_advances_140 rfl (v_goto (tgt := 180) dX12_advances_141 (by decide) (v_sub [1] rfl (sM_advances_B180 0 _ h)))
  · replace h := ite_f c5 h
    refine v_aload_n dX12_advances_33 1 rfl rfl (v_iconst dX12_advances_34 rfl ?_)
    obtain ⟨σ11, eσ11, h⟩ := ltc_some h
    exact vn_put dX12_advances_35 fsX12_92 lc_200 shc_200 (by decide) rf_200_12 eσ11 (v_sub [1] rfl (sM_advances_L38 2000 _ h))
def fM_isWell (σ : Sg) : Option Int32 := if (0 : Int32) ≤ (σ 200 8) then some 0 else some 1
set_option maxRecDepth 100000 in
set_option maxHeartbeats 4000000 in
theorem eM_isWell {G : Gx} (σ : Sg) (q : Int32) (h : fM_isWell σ = some q) : Evm G yX12_isWell MX12_isWell [.ref (gb G + 200)] σ (some (.int q)) σ := by
  refine Ev.of (by decide +kernel) rfl rfl (Nat.le_of_ble_eq_true rfl) ?_
  show Vm G MX12_isWell (some (.int q)) σ 0 [(0, .ref (gb G + 200))] [] σ
  unfold fM_isWell at h
  refine v_aload_n dX12_isWell_0 0 rfl rfl (vm_getI dX12_isWell_1 fsX12_98 lc_200 shc_200 (by decide) rf_200_8 (v_if_ge (tgt := 11) dX12_isWell_4 (by decide) (fun c1 => ?_) (fun c1 => ?_)))
  · replace h := ite_t c1 h
    refine v_iconst dX12_isWell_11 rfl ?_
    replace h := Option.some.inj h
    subst h
    exact v_zret dX12_isWell_12 rfl (by decide) rfl rfl rfl rfl
  · replace h := ite_f c1 h
    refine v_iconst dX12_isWell_7 rfl (v_goto (tgt := 12) dX12_isWell_8 (by decide) ?_)
    replace h := Option.some.inj h
    subst h
    exact v_zret dX12_isWell_12 rfl (by decide) rfl rfl rfl rfl
def fM_takes (x1 : Int32) (x2 : Int32) (σ : Sg) : Option (Int32 × Sg) := (fM_isWell σ).bind fun q1 => if q1 = 0 then some (0, σ) else if x1 = 0 then (ltc (wr σ 200 8 (σ 200 10)) fun σ5 => ltc (wr σ5 200 7 x2) fun σ6 => some (0, σ6)) else (fM_advances σ).bind fun q4 => some (σ 200 12, q4)
set_option maxRecDepth 100000 in
set_option maxHeartbeats 4000000 in
theorem eM_takes {G : Gx} (x1 : Int32) (x2 : Int32) (σ : Sg) (q : (Int32 × Sg)) (h : fM_takes x1 x2 σ = some q) : Evm G yX12_takes MX12_takes [.ref (gb G + 200), .int x1, .int x2] σ (some (.int q.1)) q.2 := by
  refine Ev.of (by decide +kernel) rfl rfl (Nat.le_of_ble_eq_true rfl) ?_
  show Vm G MX12_takes (some (.int q.1)) q.2 0 [(0, .ref (gb G + 200)), (1, .int x1), (2, .int x2)] [] σ
  unfold fM_takes at h
  refine v_aload_n dX12_takes_0 0 rfl rfl ?_
  obtain ⟨q1, hq1, h⟩ := bind_some h
  refine v_callV (As := []) (S := []) dX12_takes_1 tw818 tw820 tw23 ykX12_isWell lc_200 shc_200 (by decide) ok_11 rfl (by decide) rfl rfl (Nat.le_of_ble_eq_true rfl) (by decide) (eM_isWell _ _ hq1) ?_
  refine v_if_ne (tgt := 9) dX12_takes_4 (by decide) (fun c2 => ?_) (fun c2 => ?_)
  · replace h := ite_f c2 h
    refine v_iload_n dX12_takes_9 1 rfl rfl (v_if_ne (tgt := 28) dX12_takes_10 (by decide) (fun c3 => ?_) (fun c3 => ?_))
    · replace h := ite_f c3 h
      refine v_aload_n dX12_takes_28 0 rfl rfl (vm_getI dX12_takes_29 fsX12_92 lc_200 shc_200 (by decide) rf_200_12 (v_istore_n dX12_takes_32 [0, 1] rfl (by decide) rfl (v_aload_n dX12_takes_33 1 rfl rfl ?_)))
      obtain ⟨q4, hq4, h⟩ := bind_some h
      refine v_callV (As := []) (S := []) dX12_takes_34 tw806 tw808 tw20 ykX12_advances lc_200 shc_200 (by decide) ok_11 rfl (by decide) rfl rfl (Nat.le_of_ble_eq_true rfl) (by decide) (eM_advances _ _ hq4) ?_
      refine v_iload_n dX12_takes_37 0 rfl rfl ?_
      replace h := Option.some.inj h
      subst h
      exact v_iret dX12_takes_38 rfl rfl rfl rfl rfl
    · replace h := ite_t c3 h
      refine v_aload_n dX12_takes_13 0 rfl rfl (v_aload_n dX12_takes_14 0 rfl rfl (vm_getI dX12_takes_15 fsX12_86 lc_200 shc_200 (by decide) rf_200_10 ?_))
      obtain ⟨σ5, eσ5, h⟩ := ltc_some h
      refine vn_put dX12_takes_18 fsX12_98 lc_200 shc_200 (by decide) rf_200_8 eσ5 (v_aload_n dX12_takes_21 0 rfl rfl (v_iload_n dX12_takes_22 2 rfl rfl ?_))
      obtain ⟨σ6, eσ6, h⟩ := ltc_some h
      refine vn_put dX12_takes_23 fsX12_105 lc_200 shc_200 (by decide) rf_200_7 eσ6 (v_iconst dX12_takes_26 rfl ?_)
      replace h := Option.some.inj h
      subst h
      exact v_iret dX12_takes_27 rfl rfl rfl rfl rfl
  · replace h := ite_t c2 h
    refine v_iconst dX12_takes_7 rfl ?_
    replace h := Option.some.inj h
    subst h
    exact v_iret dX12_takes_8 rfl rfl rfl rfl rfl
def fM_figure_B22 (x1 : Int32) (x2 : Int32) (σ : Sg) : Option (Int32 × Sg) := (fM_in (σ 200 12) x1 x2 σ).bind fun q5 => (fM_takes q5 2 σ).bind fun q6 => some (q6.1, q6.2)
set_option maxRecDepth 100000 in
set_option maxHeartbeats 4000000 in
theorem sM_figure_B22 {G : Gx} {q : (Int32 × Sg)} (x1 : Int32) (x2 : Int32) (σ : Sg) (h : fM_figure_B22 x1 x2 σ = some q) : Vm G MX12_figure (some (.int q.1)) q.2 22 [(0, .ref (gb G + 200)), (1, .int x1), (2, .int x2)] [] σ := by
  unfold fM_figure_B22 at h
  refine v_aload_n dX12_figure_22 0 rfl rfl (v_aload_n dX12_figure_23 0 rfl rfl (vm_getI dX12_figure_24 fsX12_92 lc_200 shc_200 (by decide) rf_200_12 (v_iload_n dX12_figure_27 1 rfl rfl (v_iload_n dX12_figure_28 2 rfl rfl ?_))))
  obtain ⟨q5, hq5, h⟩ := bind_some h
  refine v_callS (As := [.int (σ 200 12), .int x1, .int x2]) (S := [.ref (gb G + 200)]) dX12_figure_29 tw761 tw762 ykX12_in rfl (by decide) rfl rfl (Nat.le_of_ble_eq_true rfl) (by decide) (eM_in (σ 200 12) x1 x2 _ _ hq5) ?_
  refine v_iconst dX12_figure_32 rfl ?_
  obtain ⟨q6, hq6, h⟩ := bind_some h
  refine v_callV (As := [.int q5, .int 2]) (S := []) dX12_figure_33 tw814 tw816 tw22 ykX12_takes lc_200 shc_200 (by decide) ok_11 rfl (by decide) rfl rfl (Nat.le_of_ble_eq_true rfl) (by decide) (eM_takes q5 2 _ _ hq6) ?_
  replace h := Option.some.inj h
  subst h
  exact v_iret dX12_figure_36 rfl rfl rfl rfl rfl
def fM_figure (x1 : Int32) (x2 : Int32) (σ : Sg) : Option (Int32 × Sg) := (fM_isWell σ).bind fun q1 => if q1 = 0 then fM_figure_B22 x1 x2 σ else if (σ 200 11) = 2 then fM_figure_B22 x1 x2 σ else (fM_takes 0 1 σ).bind fun q4 => some (q4.1, q4.2)
set_option maxRecDepth 100000 in
set_option maxHeartbeats 4000000 in
theorem eM_figure {G : Gx} (x1 : Int32) (x2 : Int32) (σ : Sg) (q : (Int32 × Sg)) (h : fM_figure x1 x2 σ = some q) : Evm G yX12_figure MX12_figure [.ref (gb G + 200), .int x1, .int x2] σ (some (.int q.1)) q.2 := by
  refine Ev.of (by decide +kernel) rfl rfl (Nat.le_of_ble_eq_true rfl) ?_
  show Vm G MX12_figure (some (.int q.1)) q.2 0 [(0, .ref (gb G + 200)), (1, .int x1), (2, .int x2)] [] σ
  unfold fM_figure at h
  refine v_aload_n dX12_figure_0 0 rfl rfl ?_
  obtain ⟨q1, hq1, h⟩ := bind_some h
  refine v_callV (As := []) (S := []) dX12_figure_1 tw818 tw820 tw23 ykX12_isWell lc_200 shc_200 (by decide) ok_11 rfl (by decide) rfl rfl (Nat.le_of_ble_eq_true rfl) (by decide) (eM_isWell _ _ hq1) ?_
  refine v_if_eq (tgt := 22) dX12_figure_4 (by decide) (fun c2 => ?_) (fun c2 => ?_)
  · replace h := ite_t c2 h
    exact sM_figure_B22 x1 x2 _ h
  · replace h := ite_f c2 h
    refine v_aload_n dX12_figure_7 0 rfl rfl (vm_getI dX12_figure_8 fsX12_95 lc_200 shc_200 (by decide) rf_200_11 (v_iconst dX12_figure_11 rfl (v_icmp_eq (tgt := 22) dX12_figure_12 (by decide) (fun c3 => ?_) (fun c3 => ?_))))
    · replace h := ite_t c3 h
      exact sM_figure_B22 x1 x2 _ h
    · replace h := ite_f c3 h
      refine v_aload_n dX12_figure_15 0 rfl rfl (v_iconst dX12_figure_16 rfl (v_iconst dX12_figure_17 rfl ?_))
      obtain ⟨q4, hq4, h⟩ := bind_some h
      refine v_callV (As := [.int 0, .int 1]) (S := []) dX12_figure_18 tw814 tw816 tw22 ykX12_takes lc_200 shc_200 (by decide) ok_11 rfl (by decide) rfl rfl (Nat.le_of_ble_eq_true rfl) (by decide) (eM_takes 0 1 _ _ hq4) ?_
      replace h := Option.some.inj h
      subst h
      exact v_iret dX12_figure_21 rfl rfl rfl rfl rfl
def fM_kindOf (x0 : Int32) (σ : Sg) : Option Int32 := if x0 = 99 then some 1 else if x0 = 118 then some 2 else if x0 = 109 then some 3 else if x0 = 104 then some 4 else if x0 = 101 then some 5 else some 0
set_option maxRecDepth 100000 in
set_option maxHeartbeats 4000000 in
theorem eM_kindOf {G : Gx} (x0 : Int32) (σ : Sg) (q : Int32) (h : fM_kindOf x0 σ = some q) : Evm G yX12_kindOf MX12_kindOf [.int x0] σ (some (.int q)) σ := by
  refine Ev.of (by decide +kernel) rfl rfl (Nat.le_of_ble_eq_true rfl) ?_
  show Vm G MX12_kindOf (some (.int q)) σ 0 [(0, .int x0)] [] σ
  unfold fM_kindOf at h
  refine v_iload_n dX12_kindOf_0 0 rfl rfl (v_bipush (v := 99) dX12_kindOf_1 rfl (v_icmp_ne (tgt := 10) dX12_kindOf_3 (by decide) (fun c1 => ?_) (fun c1 => ?_)))
  · replace h := ite_f c1 h
    refine v_iload_n dX12_kindOf_10 0 rfl rfl (v_bipush (v := 118) dX12_kindOf_11 rfl (v_icmp_ne (tgt := 20) dX12_kindOf_13 (by decide) (fun c2 => ?_) (fun c2 => ?_)))
    · replace h := ite_f c2 h
      refine v_iload_n dX12_kindOf_20 0 rfl rfl (v_bipush (v := 109) dX12_kindOf_21 rfl (v_icmp_ne (tgt := 30) dX12_kindOf_23 (by decide) (fun c3 => ?_) (fun c3 => ?_)))
      · replace h := ite_f c3 h
        refine v_iload_n dX12_kindOf_30 0 rfl rfl (v_bipush (v := 104) dX12_kindOf_31 rfl (v_icmp_ne (tgt := 40) dX12_kindOf_33 (by decide) (fun c4 => ?_) (fun c4 => ?_)))
        · replace h := ite_f c4 h
          refine v_iload_n dX12_kindOf_40 0 rfl rfl (v_bipush (v := 101) dX12_kindOf_41 rfl (v_icmp_ne (tgt := 50) dX12_kindOf_43 (by decide) (fun c5 => ?_) (fun c5 => ?_)))
          · replace h := ite_f c5 h
            refine v_iconst dX12_kindOf_50 rfl ?_
            replace h := Option.some.inj h
            subst h
            exact v_iret dX12_kindOf_51 rfl rfl rfl rfl rfl
          · replace h := ite_t c5 h
            refine v_iconst dX12_kindOf_46 rfl (v_goto (tgt := 51) dX12_kindOf_47 (by decide) ?_)
            replace h := Option.some.inj h
            subst h
            exact v_iret dX12_kindOf_51 rfl rfl rfl rfl rfl
        · replace h := ite_t c4 h
          refine v_iconst dX12_kindOf_36 rfl (v_goto (tgt := 51) dX12_kindOf_37 (by decide) ?_)
          replace h := Option.some.inj h
          subst h
          exact v_iret dX12_kindOf_51 rfl rfl rfl rfl rfl
      · replace h := ite_t c3 h
        refine v_iconst dX12_kindOf_26 rfl (v_goto (tgt := 51) dX12_kindOf_27 (by decide) ?_)
        replace h := Option.some.inj h
        subst h
        exact v_iret dX12_kindOf_51 rfl rfl rfl rfl rfl
    · replace h := ite_t c2 h
      refine v_iconst dX12_kindOf_16 rfl (v_goto (tgt := 51) dX12_kindOf_17 (by decide) ?_)
      replace h := Option.some.inj h
      subst h
      exact v_iret dX12_kindOf_51 rfl rfl rfl rfl rfl
  · replace h := ite_t c1 h
    refine v_iconst dX12_kindOf_6 rfl (v_goto (tgt := 51) dX12_kindOf_7 (by decide) ?_)
    replace h := Option.some.inj h
    subst h
    exact v_iret dX12_kindOf_51 rfl rfl rfl rfl rfl
def fM_next_B14 (x1 : Int32) (x2 : Int32) (s0 : Int32) (σ : Sg) : Option (Int32 × Sg) := (fM_takes s0 1 σ).bind fun q2 => (fM_figure x1 x2 q2.2).bind fun q3 => some (q3.1, q3.2)
set_option maxRecDepth 100000 in
set_option maxHeartbeats 4000000 in
theorem sM_next_B14 {G : Gx} {q : (Int32 × Sg)} (x1 : Int32) (x2 : Int32) (s0 : Int32) (σ : Sg) (h : fM_next_B14 x1 x2 s0 σ = some q) : Vm G MX12_next (some (.int q.1)) q.2 14 [(0, .ref (gb G + 200)), (1, .int x1), (2, .int x2)] [.int s0, .ref (gb G + 200)] σ := by
  unfold fM_next_B14 at h
  refine v_iconst dX12_next_14 rfl ?_
  obtain ⟨q2, hq2, h⟩ := bind_some h
  refine v_callV (As := [.int s0, .int 1]) (S := []) dX12_next_15 tw814 tw816 tw22 ykX12_takes lc_200 shc_200 (by decide) ok_11 rfl (by decide) rfl rfl (Nat.le_of_ble_eq_true rfl) (by decide) (eM_takes s0 1 _ _ hq2) ?_
  refine v_pop dX12_next_18 rfl (v_aload_n dX12_next_19 0 rfl rfl (v_iload_n dX12_next_20 1 rfl rfl (v_iload_n dX12_next_21 2 rfl rfl ?_)))
  obtain ⟨q3, hq3, h⟩ := bind_some h
  refine v_callV (As := [.int x1, .int x2]) (S := []) dX12_next_22 tw822 tw824 tw24 ykX12_figure lc_200 shc_200 (by decide) ok_11 rfl (by decide) rfl rfl (Nat.le_of_ble_eq_true rfl) (by decide) (eM_figure x1 x2 _ _ hq3) ?_
  replace h := Option.some.inj h
  subst h
  exact v_iret dX12_next_25 rfl rfl rfl rfl rfl
def fM_next (x1 : Int32) (x2 : Int32) (σ : Sg) : Option (Int32 × Sg) := if (σ 200 11) = 3 then fM_next_B14 x1 x2 1 σ else fM_next_B14 x1 x2 0 σ
set_option maxRecDepth 100000 in
set_option maxHeartbeats 4000000 in
theorem eM_next {G : Gx} (x1 : Int32) (x2 : Int32) (σ : Sg) (q : (Int32 × Sg)) (h : fM_next x1 x2 σ = some q) : Evm G yX12_next MX12_next [.ref (gb G + 200), .int x1, .int x2] σ (some (.int q.1)) q.2 := by
  refine Ev.of (by decide +kernel) rfl rfl (Nat.le_of_ble_eq_true rfl) ?_
  show Vm G MX12_next (some (.int q.1)) q.2 0 [(0, .ref (gb G + 200)), (1, .int x1), (2, .int x2)] [] σ
  unfold fM_next at h
  refine v_aload_n dX12_next_0 0 rfl rfl (v_aload_n dX12_next_1 0 rfl rfl (vm_getI dX12_next_2 fsX12_95 lc_200 shc_200 (by decide) rf_200_11 (v_iconst dX12_next_5 rfl (v_icmp_ne (tgt := 13) dX12_next_6 (by decide) (fun c1 => ?_) (fun c1 => ?_)))))
  · replace h := ite_f c1 h
    exact v_iconst dX12_next_13 rfl (sM_next_B14 x1 x2 0 _ h)
  · replace h := ite_t c1 h
    exact v_iconst dX12_next_9 rfl (v_goto (tgt := 14) dX12_next_10 (by decide) (sM_next_B14 x1 x2 1 _ h))
def fM_readsPerson_B114 (x1 : Int32) (x2 : Int32) (x3 : Int32) (x4 : Int32) (x5 : Int32) (x6 : Int32) (s0 : Int32) (σ : Sg) : Option Sg := (fM_takes s0 1 σ).bind fun q10 => (fM_isWell q10.2).bind fun q11 => if q11 = 0 then some q10.2 else if inb x2 41 = true then ltc (wr q10.2 207 (ix x2) x1) fun σ14 => if inb (x2 + 1) 41 = true then ltc (wr σ14 207 (ix (x2 + 1)) x3) fun σ16 => if inb (x2 + 2) 41 = true then ltc (wr σ16 207 (ix (x2 + 2)) x4) fun σ18 => if inb (x2 + 3) 41 = true then ltc (wr σ18 207 (ix (x2 + 3)) x5) fun σ20 => if inb (x2 + 4) 41 = true then ltc (wr σ20 207 (ix (x2 + 4)) x6) fun σ22 => ltc (wr σ22 207 4 ((σ22 207 4) + 1)) fun σ23 => some σ23 else none else none else none else none else none
set_option maxRecDepth 100000 in
set_option maxHeartbeats 4000000 in
theorem sM_readsPerson_B114 {G : Gx} {q : Sg} (x1 : Int32) (x2 : Int32) (x3 : Int32) (x4 : Int32) (x5 : Int32) (x6 : Int32) (s0 : Int32) (σ : Sg) (h : fM_readsPerson_B114 x1 x2 x3 x4 x5 x6 s0 σ = some q) : Vm G MX12_readsPerson none q 114 [(0, .ref (gb G + 200)), (1, .int x1), (2, .int x2), (3, .int x3), (4, .int x4), (5, .int x5), (6, .int x6)] [.int s0, .ref (gb G + 200)] σ := by
  unfold fM_readsPerson_B114 at h
  refine v_iconst dX12_readsPerson_114 rfl ?_
  obtain ⟨q10, hq10, h⟩ := bind_some h
  refine v_callV (As := [.int s0, .int 1]) (S := []) dX12_readsPerson_115 tw814 tw816 tw22 ykX12_takes lc_200 shc_200 (by decide) ok_11 rfl (by decide) rfl rfl (Nat.le_of_ble_eq_true rfl) (by decide) (eM_takes s0 1 _ _ hq10) ?_
  refine v_pop dX12_readsPerson_118 rfl (v_aload_n dX12_readsPerson_119 0 rfl rfl ?_)
  obtain ⟨q11, hq11, h⟩ := bind_some h
  refine v_callV (As := []) (S := []) dX12_readsPerson_120 tw818 tw820 tw23 ykX12_isWell lc_200 shc_200 (by decide) ok_11 rfl (by decide) rfl rfl (Nat.le_of_ble_eq_true rfl) (by decide) (eM_isWell _ _ hq11) ?_
  refine v_if_eq (tgt := 182) dX12_readsPerson_123 (by decide) (fun c12 => ?_) (fun c12 => ?_)
  · replace h := ite_t c12 h
    replace h := Option.some.inj h
    subst h
    exact v_vret dX12_readsPerson_182 rfl rfl rfl rfl rfl
  · replace h := ite_f c12 h
    refine v_aload_n dX12_readsPerson_126 0 rfl rfl (vm_getR (t := 207) dX12_readsPerson_127 fsX12_28 lc_200 shc_200 (by decide) rf_200_14 (v_iload_n dX12_readsPerson_130 2 rfl rfl (v_iload_n dX12_readsPerson_131 1 rfl rfl ?_)))
    obtain ⟨g13, h⟩ := guard_some h
    obtain ⟨σ14, eσ14, h⟩ := ltc_some h
    refine vn_iast dX12_readsPerson_132 lc_207 sha_207 g13 rfl eσ14 (v_aload_n dX12_readsPerson_133 0 rfl rfl (vm_getR (t := 207) dX12_readsPerson_134 fsX12_28 lc_200 shc_200 (by decide) rf_200_14 (v_iload_n dX12_readsPerson_137 2 rfl rfl (v_iconst dX12_readsPerson_138 rfl (v_iadd dX12_readsPerson_139 (v_iload_n dX12_readsPerson_140 3 rfl rfl ?_))))))
    obtain ⟨g15, h⟩ := guard_some h
    obtain ⟨σ16, eσ16, h⟩ := ltc_some h
    refine vn_iast dX12_readsPerson_141 lc_207 sha_207 g15 rfl eσ16 (v_aload_n dX12_readsPerson_142 0 rfl rfl (vm_getR (t := 207) dX12_readsPerson_143 fsX12_28 lc_200 shc_200 (by decide) rf_200_14 (v_iload_n dX12_readsPerson_146 2 rfl rfl (v_iconst dX12_readsPerson_147 rfl (v_iadd dX12_readsPerson_148 (v_iload dX12_readsPerson_149 4 rfl ?_))))))
    obtain ⟨g17, h⟩ := guard_some h
    obtain ⟨σ18, eσ18, h⟩ := ltc_some h
    refine vn_iast dX12_readsPerson_151 lc_207 sha_207 g17 rfl eσ18 (v_aload_n dX12_readsPerson_152 0 rfl rfl (vm_getR (t := 207) dX12_readsPerson_153 fsX12_28 lc_200 shc_200 (by decide) rf_200_14 (v_iload_n dX12_readsPerson_156 2 rfl rfl (v_iconst dX12_readsPerson_157 rfl (v_iadd dX12_readsPerson_158 (v_iload dX12_readsPerson_159 5 rfl ?_))))))
    obtain ⟨g19, h⟩ := guard_some h
    obtain ⟨σ20, eσ20, h⟩ := ltc_some h
    refine vn_iast dX12_readsPerson_161 lc_207 sha_207 g19 rfl eσ20 (v_aload_n dX12_readsPerson_162 0 rfl rfl (vm_getR (t := 207) dX12_readsPerson_163 fsX12_28 lc_200 shc_200 (by decide) rf_200_14 (v_iload_n dX12_readsPerson_166 2 rfl rfl (v_iconst dX12_readsPerson_167 rfl (v_iadd dX12_readsPerson_168 (v_iload dX12_readsPerson_169 6 rfl ?_))))))
    obtain ⟨g21, h⟩ := guard_some h
    obtain ⟨σ22, eσ22, h⟩ := ltc_some h
    refine vn_iast dX12_readsPerson_171 lc_207 sha_207 g21 rfl eσ22 (v_aload_n dX12_readsPerson_172 0 rfl rfl (vm_getR (t := 207) dX12_readsPerson_173 fsX12_28 lc_200 shc_200 (by decide) rf_200_14 (v_iconst dX12_readsPerson_176 rfl (v_dup2 dX12_readsPerson_177 rfl rfl (vn_iald dX12_readsPerson_178 lc_207 sha_207 ib_4_41 ixc_4 (v_iconst dX12_readsPerson_179 rfl (v_iadd dX12_readsPerson_180 ?_)))))))
    obtain ⟨σ23, eσ23, h⟩ := ltc_some h
    refine vn_iast dX12_readsPerson_181 lc_207 sha_207 ib_4_41 ixc_4 eσ23 ?_
    replace h := Option.some.inj h
    subst h
    exact v_vret dX12_readsPerson_182 rfl rfl rfl rfl rfl
def fM_readsPerson_B54 (x1 : Int32) (s0 : Int32) (s1 : Int32) (s2 : Int32) (σ : Sg) : Option Sg := (fM_figure 0 (σ 207 0) σ).bind fun q5 => (fM_next 0 (q5.2 207 0) q5.2).bind fun q6 => (fM_next 0 9 q6.2).bind fun q7 => (fM_next 0 9 q7.2).bind fun q8 => if (q8.2 200 11) = 4 then fM_readsPerson_B114 x1 (s2 + (s1 * s0)) q5.1 q6.1 q7.1 q8.1 1 q8.2 else fM_readsPerson_B114 x1 (s2 + (s1 * s0)) q5.1 q6.1 q7.1 q8.1 0 q8.2
set_option maxRecDepth 100000 in
set_option maxHeartbeats 4000000 in
theorem sM_readsPerson_B54 {G : Gx} {q : Sg} (x1 : Int32) (s0 : Int32) (s1 : Int32) (s2 : Int32) (σ : Sg) (h : fM_readsPerson_B54 x1 s0 s1 s2 σ = some q) : Vm G MX12_readsPerson none q 54 [(0, .ref (gb G + 200)), (1, .int x1)] [.int s0, .int s1, .int s2] σ := by
  unfold fM_readsPerson_B54 at h
  refine v_imul dX12_readsPerson_54 (v_iadd dX12_readsPerson_55 (v_istore_n dX12_readsPerson_56 [0, 1, 2] rfl (by decide) rfl (v_aload_n dX12_readsPerson_57 1 rfl rfl (v_iconst dX12_readsPerson_58 rfl (v_aload_n dX12_readsPerson_59 1 rfl rfl (vm_getR (t := 207) dX12_readsPerson_60 fsX12_28 lc_200 shc_200 (by decide) rf_200_14 (v_iconst dX12_readsPerson_63 rfl (vn_iald dX12_readsPerson_64 lc_207 sha_207 ib_0_41 ixc_0 ?_))))))))
  obtain ⟨q5, hq5, h⟩ := bind_some h
  refine v_callV (As := [.int 0, .int (σ 207 0)]) (S := []) dX12_readsPerson_65 tw822 tw824 tw24 ykX12_figure lc_200 shc_200 (by decide) ok_11 rfl (by decide) rfl rfl (Nat.le_of_ble_eq_true rfl) (by decide) (eM_figure 0 (σ 207 0) _ _ hq5) ?_
  refine v_istore_n dX12_readsPerson_68 [0, 1, 2, 3] rfl (by decide) rfl (v_aload_n dX12_readsPerson_69 2 rfl rfl (v_iconst dX12_readsPerson_70 rfl (v_aload_n dX12_readsPerson_71 2 rfl rfl (vm_getR (t := 207) dX12_readsPerson_72 fsX12_28 lc_200 shc_200 (by decide) rf_200_14 (v_iconst dX12_readsPerson_75 rfl (vn_iald dX12_readsPerson_76 lc_207 sha_207 ib_0_41 ixc_0 ?_))))))
  obtain ⟨q6, hq6, h⟩ := bind_some h
  refine v_callV (As := [.int 0, .int (q5.2 207 0)]) (S := []) dX12_readsPerson_77 tw826 tw828 tw25 ykX12_next lc_200 shc_200 (by decide) ok_11 rfl (by decide) rfl rfl (Nat.le_of_ble_eq_true rfl) (by decide) (eM_next 0 (q5.2 207 0) _ _ hq6) ?_
  refine v_istore dX12_readsPerson_80 [0, 1, 2, 3, 4] rfl (by decide) (v_aload_n dX12_readsPerson_82 3 rfl rfl (v_iconst dX12_readsPerson_83 rfl (v_bipush (v := 9) dX12_readsPerson_84 rfl ?_)))
  obtain ⟨q7, hq7, h⟩ := bind_some h
  refine v_callV (As := [.int 0, .int 9]) (S := []) dX12_readsPerson_86 tw826 tw828 tw25 ykX12_next lc_200 shc_200 (by decide) ok_11 rfl (by decide) rfl rfl (Nat.le_of_ble_eq_true rfl) (by decide) (eM_next 0 9 _ _ hq7) ?_
  refine v_istore dX12_readsPerson_89 [0, 1, 2, 3, 4, 5] rfl (by decide) (v_aload_n dX12_readsPerson_91 4 rfl rfl (v_iconst dX12_readsPerson_92 rfl (v_bipush (v := 9) dX12_readsPerson_93 rfl ?_)))
  obtain ⟨q8, hq8, h⟩ := bind_some h
  refine v_callV (As := [.int 0, .int 9]) (S := []) dX12_readsPerson_95 tw826 tw828 tw25 ykX12_next lc_200 shc_200 (by decide) ok_11 rfl (by decide) rfl rfl (Nat.le_of_ble_eq_true rfl) (by decide) (eM_next 0 9 _ _ hq8) ?_
  refine v_istore dX12_readsPerson_98 [0, 1, 2, 3, 4, 5, 6] rfl (by decide) (v_aload_n dX12_readsPerson_100 5 rfl rfl (v_aload_n dX12_readsPerson_101 5 rfl rfl (vm_getI dX12_readsPerson_102 fsX12_95 lc_200 shc_200 (by decide) rf_200_11 (v_iconst dX12_readsPerson_105 rfl (v_icmp_ne (tgt := 113) dX12_readsPerson_106 (by decide) (fun c9 => ?_) (fun c9 => ?_))))))
  · replace h := ite_f c9 h
    exact v_iconst dX12_readsPerson_113 rfl (v_sub [5, 6, 4, 3, 2, 1, 0] rfl (sM_readsPerson_B114 x1 (s2 + (s1 * s0)) q5.1 q6.1 q7.1 q8.1 0 _ h))
  · replace h := ite_t c9 h
    exact v_iconst dX12_readsPerson_109 rfl (v_goto (tgt := 114) dX12_readsPerson_110 (by decide) (v_sub [5, 6, 4, 3, 2, 1, 0] rfl (sM_readsPerson_B114 x1 (s2 + (s1 * s0)) q5.1 q6.1 q7.1 q8.1 1 _ h)))
def fM_readsPerson_B25 (x1 : Int32) (s0 : Int32) (σ : Sg) : Option Sg := (fM_takes s0 3 σ).bind fun q3 => if (6 : Int32) ≤ (q3.2 207 4) then fM_readsPerson_B54 x1 0 6 5 q3.2 else fM_readsPerson_B54 x1 (q3.2 207 4) 6 5 q3.2
set_option maxRecDepth 100000 in
set_option maxHeartbeats 4000000 in
theorem sM_readsPerson_B25 {G : Gx} {q : Sg} (x1 : Int32) (s0 : Int32) (σ : Sg) (h : fM_readsPerson_B25 x1 s0 σ = some q) : Vm G MX12_readsPerson none q 25 [(0, .ref (gb G + 200)), (1, .int x1)] [.int s0, .ref (gb G + 200)] σ := by
  unfold fM_readsPerson_B25 at h
  refine v_iconst dX12_readsPerson_25 rfl ?_
  obtain ⟨q3, hq3, h⟩ := bind_some h
  refine v_callV (As := [.int s0, .int 3]) (S := []) dX12_readsPerson_26 tw814 tw816 tw22 ykX12_takes lc_200 shc_200 (by decide) ok_11 rfl (by decide) rfl rfl (Nat.le_of_ble_eq_true rfl) (by decide) (eM_takes s0 3 _ _ hq3) ?_
  refine v_pop dX12_readsPerson_29 rfl (v_iconst dX12_readsPerson_30 rfl (v_bipush (v := 6) dX12_readsPerson_31 rfl (v_aload_n dX12_readsPerson_33 0 rfl rfl (vm_getR (t := 207) dX12_readsPerson_34 fsX12_28 lc_200 shc_200 (by decide) rf_200_14 (v_iconst dX12_readsPerson_37 rfl (vn_iald dX12_readsPerson_38 lc_207 sha_207 ib_4_41 ixc_4 (v_bipush (v := 6) dX12_readsPerson_39 rfl (v_icmp_ge (tgt := 53) dX12_readsPerson_41 (by decide) (fun c4 => ?_) (fun c4 => ?_)))))))))
  · replace h := ite_t c4 h
    exact v_iconst dX12_readsPerson_53 rfl (sM_readsPerson_B54 x1 0 6 5 _ h)
  · replace h := ite_f c4 h
    exact v_aload_n dX12_readsPerson_44 0 rfl rfl (vm_getR (t := 207) dX12_readsPerson_45 fsX12_28 lc_200 shc_200 (by decide) rf_200_14 (v_iconst dX12_readsPerson_48 rfl (vn_iald dX12_readsPerson_49 lc_207 sha_207 ib_4_41 ixc_4 (v_goto (tgt := 54) dX12_readsPerson_50 (by decide) (sM_readsPerson_B54 x1 (q3.2 207 4) 6 5 _ h)))))
def fM_readsPerson (σ : Sg) : Option Sg := (fM_kindOf (σ 200 12) σ).bind fun q1 => if (6 : Int32) ≤ (σ 207 4) then fM_readsPerson_B25 q1 0 σ else fM_readsPerson_B25 q1 1 σ
set_option maxRecDepth 100000 in
set_option maxHeartbeats 4000000 in
theorem eM_readsPerson {G : Gx} (σ : Sg) (q : Sg) (h : fM_readsPerson σ = some q) : Evm G yX12_readsPerson MX12_readsPerson [.ref (gb G + 200)] σ none q := by
  refine Ev.of (by decide +kernel) rfl rfl (Nat.le_of_ble_eq_true rfl) ?_
  show Vm G MX12_readsPerson none q 0 [(0, .ref (gb G + 200))] [] σ
  unfold fM_readsPerson at h
  refine v_aload_n dX12_readsPerson_0 0 rfl rfl (vm_getI dX12_readsPerson_1 fsX12_92 lc_200 shc_200 (by decide) rf_200_12 ?_)
  obtain ⟨q1, hq1, h⟩ := bind_some h
  refine v_callS (As := [.int (σ 200 12)]) (S := []) dX12_readsPerson_4 tw830 tw831 ykX12_kindOf rfl (by decide) rfl rfl (Nat.le_of_ble_eq_true rfl) (by decide) (eM_kindOf (σ 200 12) _ _ hq1) ?_
  refine v_istore_n dX12_readsPerson_7 [0, 1] rfl (by decide) rfl (v_aload_n dX12_readsPerson_8 1 rfl rfl (v_aload_n dX12_readsPerson_9 1 rfl rfl (vm_getR (t := 207) dX12_readsPerson_10 fsX12_28 lc_200 shc_200 (by decide) rf_200_14 (v_iconst dX12_readsPerson_13 rfl (vn_iald dX12_readsPerson_14 lc_207 sha_207 ib_4_41 ixc_4 (v_bipush (v := 6) dX12_readsPerson_15 rfl (v_icmp_ge (tgt := 24) dX12_readsPerson_17 (by decide) (fun c2 => ?_) (fun c2 => ?_))))))))
  · replace h := ite_t c2 h
    exact v_iconst dX12_readsPerson_24 rfl (v_sub [1, 0] rfl (sM_readsPerson_B25 q1 0 _ h))
  · replace h := ite_f c2 h
    exact v_iconst dX12_readsPerson_20 rfl (v_goto (tgt := 25) dX12_readsPerson_21 (by decide) (v_sub [1, 0] rfl (sM_readsPerson_B25 q1 1 _ h)))
def fM_house_B165 (σ : Sg) : Option (Int32 × Sg) := ltc (wr σ 200 6 0) fun σ26 => (fM_isWell σ26).bind fun q27 => if q27 = 0 then some ((-1000100) - (σ26 200 8), σ26) else (fM_copies 207 41 0 206 41 0 σ26).bind fun q29 => ltc (wr q29 200 17 0) fun σ30 => some (σ30 206 4, σ30)
set_option maxRecDepth 100000 in
set_option maxHeartbeats 4000000 in
theorem sM_house_B165 {G : Gx} {q : (Int32 × Sg)} (σ : Sg) (h : fM_house_B165 σ = some q) : Vm G MX12_house (some (.int q.1)) q.2 165 [(0, .ref (gb G + 200))] [] σ := by
  unfold fM_house_B165 at h
  refine v_aload_n dX12_house_165 0 rfl rfl (v_iconst dX12_house_166 rfl ?_)
  obtain ⟨σ26, eσ26, h⟩ := ltc_some h
  refine vn_put dX12_house_167 fsX12_79 lc_200 shc_200 (by decide) rf_200_6 eσ26 (v_aload_n dX12_house_170 0 rfl rfl ?_)
  obtain ⟨q27, hq27, h⟩ := bind_some h
  refine v_callV (As := []) (S := []) dX12_house_171 tw818 tw820 tw23 ykX12_isWell lc_200 shc_200 (by decide) ok_11 rfl (by decide) rfl rfl (Nat.le_of_ble_eq_true rfl) (by decide) (eM_isWell _ _ hq27) ?_
  refine v_if_ne (tgt := 185) dX12_house_174 (by decide) (fun c28 => ?_) (fun c28 => ?_)
  · replace h := ite_f c28 h
    refine v_aload_n dX12_house_185 0 rfl rfl (vm_getR (t := 207) dX12_house_186 fsX12_28 lc_200 shc_200 (by decide) rf_200_14 (v_iconst dX12_house_189 rfl (v_aload_n dX12_house_190 0 rfl rfl (vm_getR (t := 206) dX12_house_191 fsX12_25 lc_200 shc_200 (by decide) rf_200_13 (v_iconst dX12_house_194 rfl ?_)))))
    obtain ⟨q29, hq29, h⟩ := bind_some h
    refine v_callS (As := [.ref (gb G + 207), .int 0, .ref (gb G + 206), .int 0]) (S := []) dX12_house_195 tw838 tw839 ykX12_copies rfl (by decide) rfl rfl (Nat.le_of_ble_eq_true rfl) (by decide) (eM_copies 207 41 sha_207 lc_207 0 206 41 sha_206 lc_206 0 _ _ hq29) ?_
    refine v_aload_n dX12_house_198 0 rfl rfl (v_iconst dX12_house_199 rfl ?_)
    obtain ⟨σ30, eσ30, h⟩ := ltc_some h
    refine vn_put dX12_house_200 fsX12_132 lc_200 shc_200 (by decide) rf_200_17 eσ30 (v_aload_n dX12_house_203 0 rfl rfl (vm_getR (t := 206) dX12_house_204 fsX12_25 lc_200 shc_200 (by decide) rf_200_13 (v_iconst dX12_house_207 rfl (vn_iald dX12_house_208 lc_206 sha_206 ib_4_41 ixc_4 ?_))))
    replace h := Option.some.inj h
    subst h
    exact v_iret dX12_house_209 rfl rfl rfl rfl rfl
  · replace h := ite_t c28 h
    refine v_ldc dX12_house_177 tw837 (v_aload_n dX12_house_179 0 rfl rfl (vm_getI dX12_house_180 fsX12_98 lc_200 shc_200 (by decide) rf_200_8 (v_isub dX12_house_183 ?_)))
    replace h := Option.some.inj h
    subst h
    exact v_iret dX12_house_184 rfl rfl rfl rfl rfl
def fM_house_B144 (σ : Sg) : Option (Int32 × Sg) := (fM_isWell σ).bind fun q22 => if q22 = 0 then fM_house_B165 σ else if (σ 200 11) = 0 then fM_house_B165 σ else (fM_takes 0 1 σ).bind fun q25 => fM_house_B165 q25.2
set_option maxRecDepth 100000 in
set_option maxHeartbeats 4000000 in
theorem sM_house_B144 {G : Gx} {q : (Int32 × Sg)} (σ : Sg) (h : fM_house_B144 σ = some q) : Vm G MX12_house (some (.int q.1)) q.2 144 [(0, .ref (gb G + 200))] [] σ := by
  unfold fM_house_B144 at h
  refine v_aload_n dX12_house_144 0 rfl rfl ?_
  obtain ⟨q22, hq22, h⟩ := bind_some h
  refine v_callV (As := []) (S := []) dX12_house_145 tw818 tw820 tw23 ykX12_isWell lc_200 shc_200 (by decide) ok_11 rfl (by decide) rfl rfl (Nat.le_of_ble_eq_true rfl) (by decide) (eM_isWell _ _ hq22) ?_
  refine v_if_eq (tgt := 165) dX12_house_148 (by decide) (fun c23 => ?_) (fun c23 => ?_)
  · replace h := ite_t c23 h
    exact sM_house_B165 _ h
  · replace h := ite_f c23 h
    refine v_aload_n dX12_house_151 0 rfl rfl (vm_getI dX12_house_152 fsX12_95 lc_200 shc_200 (by decide) rf_200_11 (v_if_eq (tgt := 165) dX12_house_155 (by decide) (fun c24 => ?_) (fun c24 => ?_)))
    · replace h := ite_t c24 h
      exact sM_house_B165 _ h
    · replace h := ite_f c24 h
      refine v_aload_n dX12_house_158 0 rfl rfl (v_iconst dX12_house_159 rfl (v_iconst dX12_house_160 rfl ?_))
      obtain ⟨q25, hq25, h⟩ := bind_some h
      refine v_callV (As := [.int 0, .int 1]) (S := []) dX12_house_161 tw814 tw816 tw22 ykX12_takes lc_200 shc_200 (by decide) ok_11 rfl (by decide) rfl rfl (Nat.le_of_ble_eq_true rfl) (by decide) (eM_takes 0 1 _ _ hq25) ?_
      exact v_pop dX12_house_164 rfl (sM_house_B165 _ h)
def fM_house_b112 (K112 : Sg → Option (Int32 × Sg)) (σ : Sg) : Option (Int32 × Sg) := (fM_isWell σ).bind fun q16 => if q16 = 0 then fM_house_B144 σ else if (σ 200 11) = 1 then ((fM_kindOf (σ 200 12) σ).bind fun q19 => if q19 ≤ 0 then fM_house_B144 σ else (fM_readsPerson σ).bind fun q21 => K112 q21) else fM_house_B144 σ
def fM_house_L112 (n : Nat) : Sg → Option (Int32 × Sg) := Nat.rec (fun _ => none) (fun _ K => fM_house_b112 K) n
set_option maxRecDepth 100000 in
set_option maxHeartbeats 4000000 in
theorem sM_house_b112 {G : Gx} {q : (Int32 × Sg)} (K112 : Sg → Option (Int32 × Sg)) (hK112 : ∀ (σ : Sg), K112 σ = some q → Vm G MX12_house (some (.int q.1)) q.2 112 [(0, .ref (gb G + 200))] [] σ) (σ : Sg) (h : fM_house_b112 K112 σ = some q) : Vm G MX12_house (some (.int q.1)) q.2 112 [(0, .ref (gb G + 200))] [] σ := by
  unfold fM_house_b112 at h
  refine v_aload_n dX12_house_112 0 rfl rfl ?_
  obtain ⟨q16, hq16, h⟩ := bind_some h
  refine v_callV (As := []) (S := []) dX12_house_113 tw818 tw820 tw23 ykX12_isWell lc_200 shc_200 (by decide) ok_11 rfl (by decide) rfl rfl (Nat.le_of_ble_eq_true rfl) (by decide) (eM_isWell _ _ hq16) ?_
  refine v_if_eq (tgt := 144) dX12_house_116 (by decide) (fun c17 => ?_) (fun c17 => ?_)
  · replace h := ite_t c17 h
    exact sM_house_B144 _ h
  · replace h := ite_f c17 h
    refine v_aload_n dX12_house_119 0 rfl rfl (vm_getI dX12_house_120 fsX12_95 lc_200 shc_200 (by decide) rf_200_11 (v_iconst dX12_house_123 rfl (v_icmp_ne (tgt := 144) dX12_house_124 (by decide) (fun c18 => ?_) (fun c18 => ?_))))
    · replace h := ite_f c18 h
      exact sM_house_B144 _ h
    · replace h := ite_t c18 h
      refine v_aload_n dX12_house_127 0 rfl rfl (vm_getI dX12_house_128 fsX12_92 lc_200 shc_200 (by decide) rf_200_12 ?_)
      obtain ⟨q19, hq19, h⟩ := bind_some h
      refine v_callS (As := [.int (σ 200 12)]) (S := []) dX12_house_131 tw830 tw831 ykX12_kindOf rfl (by decide) rfl rfl (Nat.le_of_ble_eq_true rfl) (by decide) (eM_kindOf (σ 200 12) _ _ hq19) ?_
      refine v_if_le (tgt := 144) dX12_house_134 (by decide) (fun c20 => ?_) (fun c20 => ?_)
      · replace h := ite_t c20 h
        exact sM_house_B144 _ h
      · replace h := ite_f c20 h
        refine v_aload_n dX12_house_137 0 rfl rfl ?_
        obtain ⟨q21, hq21, h⟩ := bind_some h
        refine v_callV (As := []) (S := []) dX12_house_138 tw833 tw835 tw26 ykX12_readsPerson lc_200 shc_200 (by decide) ok_11 rfl (by decide) rfl rfl (Nat.le_of_ble_eq_true rfl) (by decide) (eM_readsPerson _ _ hq21) ?_
        exact v_goto (tgt := 112) dX12_house_141 (by decide) (hK112 _ h)
theorem sM_house_L112 {G : Gx} {q : (Int32 × Sg)} (n : Nat) : ∀ (σ : Sg) (h : fM_house_L112 n σ = some q), Vm G MX12_house (some (.int q.1)) q.2 112 [(0, .ref (gb G + 200))] [] σ := by
  induction n with
  | zero => intro  σ h; cases h
  | succ n ih => intro  σ h; exact sM_house_b112  _ ih  σ h
def fM_house_B107 (s0 : Int32) (σ : Sg) : Option (Int32 × Sg) := (fM_takes s0 1 σ).bind fun q15 => fM_house_L112 2000 q15.2
set_option maxRecDepth 100000 in
set_option maxHeartbeats 4000000 in
theorem sM_house_B107 {G : Gx} {q : (Int32 × Sg)} (s0 : Int32) (σ : Sg) (h : fM_house_B107 s0 σ = some q) : Vm G MX12_house (some (.int q.1)) q.2 107 [(0, .ref (gb G + 200))] [.int s0, .ref (gb G + 200)] σ := by
  unfold fM_house_B107 at h
  refine v_iconst dX12_house_107 rfl ?_
  obtain ⟨q15, hq15, h⟩ := bind_some h
  refine v_callV (As := [.int s0, .int 1]) (S := []) dX12_house_108 tw814 tw816 tw22 ykX12_takes lc_200 shc_200 (by decide) ok_11 rfl (by decide) rfl rfl (Nat.le_of_ble_eq_true rfl) (by decide) (eM_takes s0 1 _ _ hq15) ?_
  exact v_pop dX12_house_111 rfl (sM_house_L112 2000 _ h)
def fM_house_B58 (s0 : Int32) (σ : Sg) : Option (Int32 × Sg) := (fM_takes s0 1 σ).bind fun q9 => (fM_figure 1 9 q9.2).bind fun q10 => ltc (wr q10.2 207 0 q10.1) fun σ11 => (fM_next 0 (σ11 207 0) σ11).bind fun q12 => ltc (wr q12.2 207 1 q12.1) fun σ13 => if (σ13 200 11) = 4 then fM_house_B107 1 σ13 else fM_house_B107 0 σ13
set_option maxRecDepth 100000 in
set_option maxHeartbeats 4000000 in
theorem sM_house_B58 {G : Gx} {q : (Int32 × Sg)} (s0 : Int32) (σ : Sg) (h : fM_house_B58 s0 σ = some q) : Vm G MX12_house (some (.int q.1)) q.2 58 [(0, .ref (gb G + 200))] [.int s0, .ref (gb G + 200)] σ := by
  unfold fM_house_B58 at h
  refine v_iconst dX12_house_58 rfl ?_
  obtain ⟨q9, hq9, h⟩ := bind_some h
  refine v_callV (As := [.int s0, .int 1]) (S := []) dX12_house_59 tw814 tw816 tw22 ykX12_takes lc_200 shc_200 (by decide) ok_11 rfl (by decide) rfl rfl (Nat.le_of_ble_eq_true rfl) (by decide) (eM_takes s0 1 _ _ hq9) ?_
  refine v_pop dX12_house_62 rfl (v_aload_n dX12_house_63 0 rfl rfl (vm_getR (t := 207) dX12_house_64 fsX12_28 lc_200 shc_200 (by decide) rf_200_14 (v_iconst dX12_house_67 rfl (v_aload_n dX12_house_68 0 rfl rfl (v_iconst dX12_house_69 rfl (v_bipush (v := 9) dX12_house_70 rfl ?_))))))
  obtain ⟨q10, hq10, h⟩ := bind_some h
  refine v_callV (As := [.int 1, .int 9]) (S := [.int 0, .ref (gb G + 207)]) dX12_house_72 tw822 tw824 tw24 ykX12_figure lc_200 shc_200 (by decide) ok_11 rfl (by decide) rfl rfl (Nat.le_of_ble_eq_true rfl) (by decide) (eM_figure 1 9 _ _ hq10) ?_
  obtain ⟨σ11, eσ11, h⟩ := ltc_some h
  refine vn_iast dX12_house_75 lc_207 sha_207 ib_0_41 ixc_0 eσ11 (v_aload_n dX12_house_76 0 rfl rfl (vm_getR (t := 207) dX12_house_77 fsX12_28 lc_200 shc_200 (by decide) rf_200_14 (v_iconst dX12_house_80 rfl (v_aload_n dX12_house_81 0 rfl rfl (v_iconst dX12_house_82 rfl (v_aload_n dX12_house_83 0 rfl rfl (vm_getR (t := 207) dX12_house_84 fsX12_28 lc_200 shc_200 (by decide) rf_200_14 (v_iconst dX12_house_87 rfl (vn_iald dX12_house_88 lc_207 sha_207 ib_0_41 ixc_0 ?_)))))))))
  obtain ⟨q12, hq12, h⟩ := bind_some h
  refine v_callV (As := [.int 0, .int (σ11 207 0)]) (S := [.int 1, .ref (gb G + 207)]) dX12_house_89 tw826 tw828 tw25 ykX12_next lc_200 shc_200 (by decide) ok_11 rfl (by decide) rfl rfl (Nat.le_of_ble_eq_true rfl) (by decide) (eM_next 0 (σ11 207 0) _ _ hq12) ?_
  obtain ⟨σ13, eσ13, h⟩ := ltc_some h
  refine vn_iast dX12_house_92 lc_207 sha_207 ib_1_41 ixc_1 eσ13 (v_aload_n dX12_house_93 0 rfl rfl (v_aload_n dX12_house_94 0 rfl rfl (vm_getI dX12_house_95 fsX12_95 lc_200 shc_200 (by decide) rf_200_11 (v_iconst dX12_house_98 rfl (v_icmp_ne (tgt := 106) dX12_house_99 (by decide) (fun c14 => ?_) (fun c14 => ?_))))))
  · replace h := ite_f c14 h
    exact v_iconst dX12_house_106 rfl (sM_house_B107 0 _ h)
  · replace h := ite_t c14 h
    exact v_iconst dX12_house_102 rfl (v_goto (tgt := 107) dX12_house_103 (by decide) (sM_house_B107 1 _ h))
def fM_house_B57 (σ : Sg) : Option (Int32 × Sg) := fM_house_B58 0 σ
set_option maxRecDepth 100000 in
set_option maxHeartbeats 4000000 in
theorem sM_house_B57 {G : Gx} {q : (Int32 × Sg)} (σ : Sg) (h : fM_house_B57 σ = some q) : Vm G MX12_house (some (.int q.1)) q.2 57 [(0, .ref (gb G + 200))] [.ref (gb G + 200)] σ := by
  unfold fM_house_B57 at h
  exact v_iconst dX12_house_57 rfl (sM_house_B58 0 _ h)
def fM_house_b2 (K2 : Int32 → Sg → Option (Int32 × Sg)) (x1 : Int32) (σ : Sg) : Option (Int32 × Sg) := if (41 : Int32) ≤ x1 then (ltc (wr σ 200 9 0) fun σ2 => ltc (wr σ2 200 8 (-1)) fun σ3 => (fM_advances σ3).bind fun q4 => if (q4 200 11) = 1 then (if (q4 200 12) = 102 then fM_house_B58 1 q4 else fM_house_B57 q4) else fM_house_B57 q4) else if inb x1 41 = true then ltc (wr σ 207 (ix x1) 0) fun σ8 => K2 (x1 + 1) σ8 else none
def fM_house_L2 (n : Nat) : Int32 → Sg → Option (Int32 × Sg) := Nat.rec (fun _ _ => none) (fun _ K => fM_house_b2 K) n
set_option maxRecDepth 100000 in
set_option maxHeartbeats 4000000 in
theorem sM_house_b2 {G : Gx} {q : (Int32 × Sg)} (K2 : Int32 → Sg → Option (Int32 × Sg)) (hK2 : ∀ (x1 : Int32) (σ : Sg), K2 x1 σ = some q → Vm G MX12_house (some (.int q.1)) q.2 2 [(0, .ref (gb G + 200)), (1, .int x1)] [] σ) (x1 : Int32) (σ : Sg) (h : fM_house_b2 K2 x1 σ = some q) : Vm G MX12_house (some (.int q.1)) q.2 2 [(0, .ref (gb G + 200)), (1, .int x1)] [] σ := by
  unfold fM_house_b2 at h
  refine v_iload_n dX12_house_2 1 rfl rfl (v_bipush (v := 41) dX12_house_3 rfl (v_icmp_ge (tgt := 21) dX12_house_5 (by decide) (fun c1 => ?_) (fun c1 => ?_)))
  · replace h := ite_t c1 h
    refine v_aload_n dX12_house_21 0 rfl rfl (v_iconst dX12_house_22 rfl ?_)
    obtain ⟨σ2, eσ2, h⟩ := ltc_some h
    refine vn_put dX12_house_23 fsX12_83 lc_200 shc_200 (by decide) rf_200_9 eσ2 (v_aload_n dX12_house_26 0 rfl rfl (v_iconst (v := -1) dX12_house_27 rfl ?_))
    obtain ⟨σ3, eσ3, h⟩ := ltc_some h
    refine vn_put dX12_house_28 fsX12_98 lc_200 shc_200 (by decide) rf_200_8 eσ3 (v_aload_n dX12_house_31 0 rfl rfl ?_)
    obtain ⟨q4, hq4, h⟩ := bind_some h
    refine v_callV (As := []) (S := []) dX12_house_32 tw806 tw808 tw20 ykX12_advances lc_200 shc_200 (by decide) ok_11 rfl (by decide) rfl rfl (Nat.le_of_ble_eq_true rfl) (by decide) (eM_advances _ _ hq4) ?_
    refine v_aload_n dX12_house_35 0 rfl rfl (v_aload_n dX12_house_36 0 rfl rfl (vm_getI dX12_house_37 fsX12_95 lc_200 shc_200 (by decide) rf_200_11 (v_iconst dX12_house_40 rfl (v_icmp_ne (tgt := 57) dX12_house_41 (by decide) (fun c5 => ?_) (fun c5 => ?_)))))
    · replace h := ite_f c5 h
      exact v_sub [0] rfl (sM_house_B57 _ h)
    · replace h := ite_t c5 h
      refine v_aload_n dX12_house_44 0 rfl rfl (vm_getI dX12_house_45 fsX12_92 lc_200 shc_200 (by decide) rf_200_12 (v_bipush (v := 102) dX12_house_48 rfl (v_icmp_ne (tgt := 57) dX12_house_50 (by decide) (fun c6 => ?_) (fun c6 => ?_))))
      · replace h := ite_f c6 h
        exact v_sub [0] rfl (sM_house_B57 _ h)
      · replace h := ite_t c6 h
        exact v_iconst dX12_house_53 rfl (v_goto (tgt := 58) dX12_house_54 (by decide) (v_sub [0] rfl (sM_house_B58 1 _ h)))
  · replace h := ite_f c1 h
    refine v_aload_n dX12_house_8 0 rfl rfl (vm_getR (t := 207) dX12_house_9 fsX12_28 lc_200 shc_200 (by decide) rf_200_14 (v_iload_n dX12_house_12 1 rfl rfl (v_iconst dX12_house_13 rfl ?_)))
    obtain ⟨g7, h⟩ := guard_some h
    obtain ⟨σ8, eσ8, h⟩ := ltc_some h
    exact vn_iast dX12_house_14 lc_207 sha_207 g7 rfl eσ8 (v_iinc (v := x1 + 1) dX12_house_15 1 rfl rfl [0, 1] rfl (by decide) (v_goto (tgt := 2) dX12_house_18 (by decide) (v_sub [1, 0] rfl (hK2 (x1 + 1) _ h))))
theorem sM_house_L2 {G : Gx} {q : (Int32 × Sg)} (n : Nat) : ∀ (x1 : Int32) (σ : Sg) (h : fM_house_L2 n x1 σ = some q), Vm G MX12_house (some (.int q.1)) q.2 2 [(0, .ref (gb G + 200)), (1, .int x1)] [] σ := by
  induction n with
  | zero => intro x1 σ h; cases h
  | succ n ih => intro x1 σ h; exact sM_house_b2  _ ih x1 σ h
def fM_house (σ : Sg) : Option (Int32 × Sg) := fM_house_L2 2000 0 σ
set_option maxRecDepth 100000 in
set_option maxHeartbeats 4000000 in
theorem eM_house {G : Gx} (σ : Sg) (q : (Int32 × Sg)) (h : fM_house σ = some q) : Evm G yX12_house MX12_house [.ref (gb G + 200)] σ (some (.int q.1)) q.2 := by
  refine Ev.of (by decide +kernel) rfl rfl (Nat.le_of_ble_eq_true rfl) ?_
  show Vm G MX12_house (some (.int q.1)) q.2 0 [(0, .ref (gb G + 200))] [] σ
  unfold fM_house at h
  exact v_iconst dX12_house_0 rfl (v_istore_n dX12_house_1 [0, 1] rfl (by decide) rfl (v_sub [1, 0] rfl (sM_house_L2 2000 0 _ h)))
def fM_fault (σ : Sg) : Option Int32 := some (σ 200 7)
set_option maxRecDepth 100000 in
set_option maxHeartbeats 4000000 in
theorem eM_fault {G : Gx} (σ : Sg) (q : Int32) (h : fM_fault σ = some q) : Evm G yX12_fault MX12_fault [.ref (gb G + 200)] σ (some (.int q)) σ := by
  refine Ev.of (by decide +kernel) rfl rfl (Nat.le_of_ble_eq_true rfl) ?_
  show Vm G MX12_fault (some (.int q)) σ 0 [(0, .ref (gb G + 200))] [] σ
  unfold fM_fault at h
  refine v_aload_n dX12_fault_0 0 rfl rfl (vm_getI dX12_fault_1 fsX12_105 lc_200 shc_200 (by decide) rf_200_7 ?_)
  replace h := Option.some.inj h
  subst h
  exact v_iret dX12_fault_4 rfl rfl rfl rfl rfl
def fM_isHouse (σ : Sg) : Option Int32 := if (σ 206 0) ≤ 0 then some 0 else some 1
set_option maxRecDepth 100000 in
set_option maxHeartbeats 4000000 in
theorem eM_isHouse {G : Gx} (σ : Sg) (q : Int32) (h : fM_isHouse σ = some q) : Evm G yX12_isHouse MX12_isHouse [.ref (gb G + 200)] σ (some (.int q)) σ := by
  refine Ev.of (by decide +kernel) rfl rfl (Nat.le_of_ble_eq_true rfl) ?_
  show Vm G MX12_isHouse (some (.int q)) σ 0 [(0, .ref (gb G + 200))] [] σ
  unfold fM_isHouse at h
  refine v_aload_n dX12_isHouse_0 0 rfl rfl (vm_getR (t := 206) dX12_isHouse_1 fsX12_25 lc_200 shc_200 (by decide) rf_200_13 (v_iconst dX12_isHouse_4 rfl (vn_iald dX12_isHouse_5 lc_206 sha_206 ib_0_41 ixc_0 (v_if_le (tgt := 13) dX12_isHouse_6 (by decide) (fun c1 => ?_) (fun c1 => ?_)))))
  · replace h := ite_t c1 h
    refine v_iconst dX12_isHouse_13 rfl ?_
    replace h := Option.some.inj h
    subst h
    exact v_zret dX12_isHouse_14 rfl (by decide) rfl rfl rfl rfl
  · replace h := ite_f c1 h
    refine v_iconst dX12_isHouse_9 rfl (v_goto (tgt := 14) dX12_isHouse_10 (by decide) ?_)
    replace h := Option.some.inj h
    subst h
    exact v_zret dX12_isHouse_14 rfl (by decide) rfl rfl rfl rfl
def fM_isPerson (x1 : Int32) (σ : Sg) : Option Int32 := (fM_in x1 0 ((σ 206 4) - 1) σ).bind fun q1 => if isb q1 = true then some q1 else none
set_option maxRecDepth 100000 in
set_option maxHeartbeats 4000000 in
theorem eM_isPerson {G : Gx} (x1 : Int32) (σ : Sg) (q : Int32) (h : fM_isPerson x1 σ = some q) : Evm G yX12_isPerson MX12_isPerson [.ref (gb G + 200), .int x1] σ (some (.int q)) σ := by
  refine Ev.of (by decide +kernel) rfl rfl (Nat.le_of_ble_eq_true rfl) ?_
  show Vm G MX12_isPerson (some (.int q)) σ 0 [(0, .ref (gb G + 200)), (1, .int x1)] [] σ
  unfold fM_isPerson at h
  refine v_iload_n dX12_isPerson_0 1 rfl rfl (v_iconst dX12_isPerson_1 rfl (v_aload_n dX12_isPerson_2 0 rfl rfl (vm_getR (t := 206) dX12_isPerson_3 fsX12_25 lc_200 shc_200 (by decide) rf_200_13 (v_iconst dX12_isPerson_6 rfl (vn_iald dX12_isPerson_7 lc_206 sha_206 ib_4_41 ixc_4 (v_iconst dX12_isPerson_8 rfl (v_isub dX12_isPerson_9 ?_)))))))
  obtain ⟨q1, hq1, h⟩ := bind_some h
  refine v_callS (As := [.int x1, .int 0, .int ((σ 206 4) - 1)]) (S := []) dX12_isPerson_10 tw761 tw762 ykX12_in rfl (by decide) rfl rfl (Nat.le_of_ble_eq_true rfl) (by decide) (eM_in x1 0 ((σ 206 4) - 1) _ _ hq1) ?_
  obtain ⟨g2, h⟩ := guard_some h
  replace h := Option.some.inj h
  subst h
  exact v_zret dX12_isPerson_13 rfl (isb_or g2) rfl rfl rfl rfl
def fM_isFar (x0 : Int32) (σ : Sg) : Option Int32 := (fM_in x0 0 60 σ).bind fun q1 => if isb q1 = true then some q1 else none
set_option maxRecDepth 100000 in
set_option maxHeartbeats 4000000 in
theorem eM_isFar {G : Gx} (x0 : Int32) (σ : Sg) (q : Int32) (h : fM_isFar x0 σ = some q) : Evm G yX12_isFar MX12_isFar [.int x0] σ (some (.int q)) σ := by
  refine Ev.of (by decide +kernel) rfl rfl (Nat.le_of_ble_eq_true rfl) ?_
  show Vm G MX12_isFar (some (.int q)) σ 0 [(0, .int x0)] [] σ
  unfold fM_isFar at h
  refine v_iload_n dX12_isFar_0 0 rfl rfl (v_iconst dX12_isFar_1 rfl (v_bipush (v := 60) dX12_isFar_2 rfl ?_))
  obtain ⟨q1, hq1, h⟩ := bind_some h
  refine v_callS (As := [.int x0, .int 0, .int 60]) (S := []) dX12_isFar_4 tw761 tw762 ykX12_in rfl (by decide) rfl rfl (Nat.le_of_ble_eq_true rfl) (by decide) (eM_in x0 0 60 _ _ hq1) ?_
  obtain ⟨g2, h⟩ := guard_some h
  replace h := Option.some.inj h
  subst h
  exact v_zret dX12_isFar_7 rfl (isb_or g2) rfl rfl rfl rfl
