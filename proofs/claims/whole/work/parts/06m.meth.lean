def fM_fits_B192 (K146 : Int32 → Int32 → Int32 → Int32 → Int32 → Int32 → Int32 → Sg → Option (Int32 × Sg)) (x2 : Int32) (x3 : Int32) (x4 : Int32) (x6 : Int32) (x8 : Int32) (x10 : Int32) (s0 : Int32) (s1 : Int32) (σ : Sg) : Option (Int32 × Sg) := K146 x2 x3 x4 x6 x8 (s1 ||| s0) (x10 + 1) σ
set_option maxRecDepth 100000 in
set_option maxHeartbeats 4000000 in
theorem sM_fits_B192 {G : Gx} {q : (Int32 × Sg)} (K146 : Int32 → Int32 → Int32 → Int32 → Int32 → Int32 → Int32 → Sg → Option (Int32 × Sg)) (hK146 : ∀ (x2 : Int32) (x3 : Int32) (x4 : Int32) (x6 : Int32) (x8 : Int32) (x9 : Int32) (x10 : Int32) (σ : Sg), K146 x2 x3 x4 x6 x8 x9 x10 σ = some q → Vm G MX12_fits (some (.int q.1)) q.2 146 [(0, .ref (gb G + 200)), (2, .int x2), (3, .int x3), (4, .int x4), (6, .int x6), (8, .int x8), (9, .int x9), (10, .int x10)] [] σ) (x2 : Int32) (x3 : Int32) (x4 : Int32) (x6 : Int32) (x8 : Int32) (x10 : Int32) (s0 : Int32) (s1 : Int32) (σ : Sg) (h : fM_fits_B192 K146 x2 x3 x4 x6 x8 x10 s0 s1 σ = some q) : Vm G MX12_fits (some (.int q.1)) q.2 192 [(0, .ref (gb G + 200)), (2, .int x2), (3, .int x3), (4, .int x4), (6, .int x6), (8, .int x8), (10, .int x10)] [.int s0, .int s1] σ := by
  unfold fM_fits_B192 at h
  exact v_ior dX12_fits_192 (v_istore dX12_fits_193 [0, 1, 2, 3, 4, 5, 6, 7] rfl (by decide) (v_iinc (v := x10 + 1) dX12_fits_195 7 rfl rfl [0, 1, 2, 3, 4, 5, 6, 7] rfl (by decide) (v_goto (tgt := 146) dX12_fits_198 (by decide) (v_sub [2, 3, 4, 5, 6, 7, 1, 0] rfl (hK146 x2 x3 x4 x6 x8 (s1 ||| s0) (x10 + 1) _ h)))))
def fM_fits_b146 (K146 : Int32 → Int32 → Int32 → Int32 → Int32 → Int32 → Int32 → Sg → Option (Int32 × Sg)) (x2 : Int32) (x3 : Int32) (x4 : Int32) (x6 : Int32) (x8 : Int32) (x9 : Int32) (x10 : Int32) (σ : Sg) : Option (Int32 × Sg) := if x8 < x10 then ((fM_well x9 σ).bind fun q21 => some (q21.1, q21.2)) else (fM_tries 0 σ).bind fun q22 => if inb x6 41 = true then ltc (wr q22 208 (ix x6) x10) fun σ24 => (fM_goesSo ((40 * x2) + x3) x4 σ24).bind fun q25 => if q25.1 = 0 then fM_fits_B192 K146 x2 x3 x4 x6 x8 x10 0 x9 q25.2 else fM_fits_B192 K146 x2 x3 x4 x6 x8 x10 (1 <<< (x10 &&& 31)) x9 q25.2 else none
def fM_fits_L146 (n : Nat) : Int32 → Int32 → Int32 → Int32 → Int32 → Int32 → Int32 → Sg → Option (Int32 × Sg) := Nat.rec (fun _ _ _ _ _ _ _ _ => none) (fun _ K => fM_fits_b146 K) n
set_option maxRecDepth 100000 in
set_option maxHeartbeats 4000000 in
theorem sM_fits_b146 {G : Gx} {q : (Int32 × Sg)} (K146 : Int32 → Int32 → Int32 → Int32 → Int32 → Int32 → Int32 → Sg → Option (Int32 × Sg)) (hK146 : ∀ (x2 : Int32) (x3 : Int32) (x4 : Int32) (x6 : Int32) (x8 : Int32) (x9 : Int32) (x10 : Int32) (σ : Sg), K146 x2 x3 x4 x6 x8 x9 x10 σ = some q → Vm G MX12_fits (some (.int q.1)) q.2 146 [(0, .ref (gb G + 200)), (2, .int x2), (3, .int x3), (4, .int x4), (6, .int x6), (8, .int x8), (9, .int x9), (10, .int x10)] [] σ) (x2 : Int32) (x3 : Int32) (x4 : Int32) (x6 : Int32) (x8 : Int32) (x9 : Int32) (x10 : Int32) (σ : Sg) (h : fM_fits_b146 K146 x2 x3 x4 x6 x8 x9 x10 σ = some q) : Vm G MX12_fits (some (.int q.1)) q.2 146 [(0, .ref (gb G + 200)), (2, .int x2), (3, .int x3), (4, .int x4), (6, .int x6), (8, .int x8), (9, .int x9), (10, .int x10)] [] σ := by
  unfold fM_fits_b146 at h
  refine v_iload dX12_fits_146 7 rfl (v_iload dX12_fits_148 5 rfl (v_icmp_gt (tgt := 201) dX12_fits_150 (by decide) (fun c20 => ?_) (fun c20 => ?_)))
  · replace h := ite_t c20 h
    refine v_aload_n dX12_fits_201 0 rfl rfl (v_iload dX12_fits_202 6 rfl ?_)
    obtain ⟨q21, hq21, h⟩ := bind_some h
    refine v_callV (As := [.int x9]) (S := []) dX12_fits_204 tw770 tw772 tw17 ykX12_well lc_200 shc_200 (by decide) ok_11 rfl (by decide) rfl rfl (Nat.le_of_ble_eq_true rfl) (by decide) (eM_well x9 _ _ hq21) ?_
    replace h := Option.some.inj h
    subst h
    exact v_iret dX12_fits_207 rfl rfl rfl rfl rfl
  · replace h := ite_f c20 h
    refine v_aload_n dX12_fits_153 0 rfl rfl (v_iconst dX12_fits_154 rfl ?_)
    obtain ⟨q22, hq22, h⟩ := bind_some h
    refine v_callV (As := [.int 0]) (S := []) dX12_fits_155 tw917 tw919 tw30 ykX12_tries lc_200 shc_200 (by decide) ok_11 rfl (by decide) rfl rfl (Nat.le_of_ble_eq_true rfl) (by decide) (eM_tries 0 _ _ hq22) ?_
    refine v_aload_n dX12_fits_158 0 rfl rfl (vm_getR (t := 208) dX12_fits_159 fsX12_31 lc_200 shc_200 (by decide) rf_200_15 (v_iload dX12_fits_162 4 rfl (v_iload dX12_fits_164 7 rfl ?_)))
    obtain ⟨g23, h⟩ := guard_some h
    obtain ⟨σ24, eσ24, h⟩ := ltc_some h
    refine vn_iast dX12_fits_166 lc_208 sha_208 g23 rfl eσ24 (v_iload dX12_fits_167 6 rfl (v_aload_n dX12_fits_169 0 rfl rfl (v_bipush (v := 40) dX12_fits_170 rfl (v_iload_n dX12_fits_172 1 rfl rfl (v_imul dX12_fits_173 (v_iload_n dX12_fits_174 2 rfl rfl (v_iadd dX12_fits_175 (v_iload dX12_fits_176 3 rfl ?_))))))))
    obtain ⟨q25, hq25, h⟩ := bind_some h
    refine v_callV (As := [.int ((40 * x2) + x3), .int x4]) (S := [.int x9]) dX12_fits_178 tw963 tw965 tw33 ykX12_goesSo lc_200 shc_200 (by decide) ok_11 rfl (by decide) rfl rfl (Nat.le_of_ble_eq_true rfl) (by decide) (eM_goesSo ((40 * x2) + x3) x4 _ _ hq25) ?_
    refine v_if_eq (tgt := 191) dX12_fits_181 (by decide) (fun c26 => ?_) (fun c26 => ?_)
    · replace h := ite_t c26 h
      exact v_iconst dX12_fits_191 rfl (v_sub [0, 1, 2, 3, 4, 5, 7] rfl (sM_fits_B192 K146 hK146 x2 x3 x4 x6 x8 x10 0 x9 _ h))
    · replace h := ite_f c26 h
      exact v_iconst dX12_fits_184 rfl (v_iload dX12_fits_185 7 rfl (v_ishl dX12_fits_187 (v_goto (tgt := 192) dX12_fits_188 (by decide) (v_sub [0, 1, 2, 3, 4, 5, 7] rfl (sM_fits_B192 K146 hK146 x2 x3 x4 x6 x8 x10 (1 <<< (x10 &&& 31)) x9 _ h)))))
theorem sM_fits_L146 {G : Gx} {q : (Int32 × Sg)} (n : Nat) : ∀ (x2 : Int32) (x3 : Int32) (x4 : Int32) (x6 : Int32) (x8 : Int32) (x9 : Int32) (x10 : Int32) (σ : Sg) (h : fM_fits_L146 n x2 x3 x4 x6 x8 x9 x10 σ = some q), Vm G MX12_fits (some (.int q.1)) q.2 146 [(0, .ref (gb G + 200)), (2, .int x2), (3, .int x3), (4, .int x4), (6, .int x6), (8, .int x8), (9, .int x9), (10, .int x10)] [] σ := by
  induction n with
  | zero => intro x2 x3 x4 x6 x8 x9 x10 σ h; cases h
  | succ n ih => intro x2 x3 x4 x6 x8 x9 x10 σ h; exact sM_fits_b146  _ ih x2 x3 x4 x6 x8 x9 x10 σ h
def fM_fits_B137 (x2 : Int32) (x3 : Int32) (x4 : Int32) (x6 : Int32) (x7 : Int32) (s0 : Int32) (σ : Sg) : Option (Int32 × Sg) := fM_fits_L146 2000 x2 x3 x4 x6 s0 0 x7 σ
set_option maxRecDepth 100000 in
set_option maxHeartbeats 4000000 in
theorem sM_fits_B137 {G : Gx} {q : (Int32 × Sg)} (x2 : Int32) (x3 : Int32) (x4 : Int32) (x6 : Int32) (x7 : Int32) (s0 : Int32) (σ : Sg) (h : fM_fits_B137 x2 x3 x4 x6 x7 s0 σ = some q) : Vm G MX12_fits (some (.int q.1)) q.2 137 [(0, .ref (gb G + 200)), (2, .int x2), (3, .int x3), (4, .int x4), (6, .int x6), (7, .int x7)] [.int s0] σ := by
  unfold fM_fits_B137 at h
  exact v_istore dX12_fits_137 [0, 1, 2, 3, 4, 5, 6] rfl (by decide) (v_iconst dX12_fits_139 rfl (v_istore dX12_fits_140 [0, 1, 2, 3, 4, 5, 6, 7] rfl (by decide) (v_iload dX12_fits_142 7 rfl (v_istore dX12_fits_144 [0, 1, 2, 3, 4, 5, 6, 7] rfl (by decide) (v_sub [3, 4, 5, 6, 7, 2, 1, 0] rfl (sM_fits_L146 2000 x2 x3 x4 x6 s0 0 x7 _ h))))))
def fM_fits_B109 (x2 : Int32) (x3 : Int32) (x4 : Int32) (x5 : Int32) (x6 : Int32) (s0 : Int32) (σ : Sg) : Option (Int32 × Sg) := if x5 = 0 then fM_fits_B137 x2 x3 x4 x6 s0 5 σ else if x5 = 1 then fM_fits_B137 x2 x3 x4 x6 s0 9 σ else fM_fits_B137 x2 x3 x4 x6 s0 (σ 206 0) σ
set_option maxRecDepth 100000 in
set_option maxHeartbeats 4000000 in
theorem sM_fits_B109 {G : Gx} {q : (Int32 × Sg)} (x2 : Int32) (x3 : Int32) (x4 : Int32) (x5 : Int32) (x6 : Int32) (s0 : Int32) (σ : Sg) (h : fM_fits_B109 x2 x3 x4 x5 x6 s0 σ = some q) : Vm G MX12_fits (some (.int q.1)) q.2 109 [(0, .ref (gb G + 200)), (2, .int x2), (3, .int x3), (4, .int x4), (5, .int x5), (6, .int x6)] [.int s0] σ := by
  unfold fM_fits_B109 at h
  refine v_istore dX12_fits_109 [0, 1, 2, 3, 4, 5, 6] rfl (by decide) (v_iload dX12_fits_111 5 rfl (v_if_ne (tgt := 120) dX12_fits_113 (by decide) (fun c18 => ?_) (fun c18 => ?_)))
  · replace h := ite_f c18 h
    refine v_iload dX12_fits_120 5 rfl (v_iconst dX12_fits_122 rfl (v_icmp_ne (tgt := 131) dX12_fits_123 (by decide) (fun c19 => ?_) (fun c19 => ?_)))
    · replace h := ite_f c19 h
      exact v_aload_n dX12_fits_131 1 rfl rfl (vm_getR (t := 206) dX12_fits_132 fsX12_25 lc_200 shc_200 (by decide) rf_200_13 (v_iconst dX12_fits_135 rfl (vn_iald dX12_fits_136 lc_206 sha_206 ib_0_41 ixc_0 (v_sub [1, 2, 3, 4, 6, 0] rfl (sM_fits_B137 x2 x3 x4 x6 s0 (σ 206 0) _ h)))))
    · replace h := ite_t c19 h
      exact v_bipush (v := 9) dX12_fits_126 rfl (v_goto (tgt := 137) dX12_fits_128 (by decide) (v_sub [1, 2, 3, 4, 6, 0] rfl (sM_fits_B137 x2 x3 x4 x6 s0 9 _ h)))
  · replace h := ite_t c18 h
    exact v_iconst dX12_fits_116 rfl (v_goto (tgt := 137) dX12_fits_117 (by decide) (v_sub [1, 2, 3, 4, 6, 0] rfl (sM_fits_B137 x2 x3 x4 x6 s0 5 _ h)))
def fM_fits_B96 (x2 : Int32) (x3 : Int32) (x4 : Int32) (x5 : Int32) (s0 : Int32) (s1 : Int32) (σ : Sg) : Option (Int32 × Sg) := if x5 = 0 then fM_fits_B109 x2 x3 x4 x5 (s1 + s0) 1 σ else fM_fits_B109 x2 x3 x4 x5 (s1 + s0) 0 σ
set_option maxRecDepth 100000 in
set_option maxHeartbeats 4000000 in
theorem sM_fits_B96 {G : Gx} {q : (Int32 × Sg)} (x2 : Int32) (x3 : Int32) (x4 : Int32) (x5 : Int32) (s0 : Int32) (s1 : Int32) (σ : Sg) (h : fM_fits_B96 x2 x3 x4 x5 s0 s1 σ = some q) : Vm G MX12_fits (some (.int q.1)) q.2 96 [(0, .ref (gb G + 200)), (2, .int x2), (3, .int x3), (4, .int x4), (5, .int x5)] [.int s0, .int s1] σ := by
  unfold fM_fits_B96 at h
  refine v_iadd dX12_fits_96 (v_istore dX12_fits_97 [0, 1, 2, 3, 4, 5] rfl (by decide) (v_iload dX12_fits_99 5 rfl (v_if_ne (tgt := 108) dX12_fits_101 (by decide) (fun c17 => ?_) (fun c17 => ?_))))
  · replace h := ite_f c17 h
    exact v_iconst dX12_fits_108 rfl (v_sub [1, 2, 3, 4, 5, 0] rfl (sM_fits_B109 x2 x3 x4 x5 (s1 + s0) 0 _ h))
  · replace h := ite_t c17 h
    exact v_iconst dX12_fits_104 rfl (v_goto (tgt := 109) dX12_fits_105 (by decide) (v_sub [1, 2, 3, 4, 5, 0] rfl (sM_fits_B109 x2 x3 x4 x5 (s1 + s0) 1 _ h)))
def fM_fits (x1 : Int32) (x2 : Int32) (x3 : Int32) (x4 : Int32) (x5 : Int32) (σ : Sg) : Option (Int32 × Sg) := (fM_isPerson x1 σ).bind fun q1 => if q1 = 0 then some ((-1000001), σ) else (fM_isRow x2 σ).bind fun q3 => if q3 = 0 then some ((-1000001), σ) else (fM_in x4 1 16 σ).bind fun q5 => if q5 = 0 then some ((-1000001), σ) else (fM_in x5 0 2 σ).bind fun q7 => if q7 = 0 then some ((-1000001), σ) else (fM_isMissing x2 σ).bind fun q9 => if q9 = 0 then ((fM_isPart x2 x3 x4 σ).bind fun q11 => if q11 = 0 then ((fM_found 2 σ).bind fun q15 => some (q15.1, q15.2)) else if x5 = 0 then fM_fits_B96 x2 x3 x4 x5 0 (5 + (6 * x1)) σ else if x5 = 1 then fM_fits_B96 x2 x3 x4 x5 3 (5 + (6 * x1)) σ else fM_fits_B96 x2 x3 x4 x5 2 (5 + (6 * x1)) σ) else (fM_found 1 σ).bind fun q16 => some (q16.1, q16.2)
set_option maxRecDepth 100000 in
set_option maxHeartbeats 4000000 in
theorem eM_fits {G : Gx} (x1 : Int32) (x2 : Int32) (x3 : Int32) (x4 : Int32) (x5 : Int32) (σ : Sg) (q : (Int32 × Sg)) (h : fM_fits x1 x2 x3 x4 x5 σ = some q) : Evm G yX12_fits MX12_fits [.ref (gb G + 200), .int x1, .int x2, .int x3, .int x4, .int x5] σ (some (.int q.1)) q.2 := by
  refine Ev.of (by decide +kernel) rfl rfl (Nat.le_of_ble_eq_true rfl) ?_
  show Vm G MX12_fits (some (.int q.1)) q.2 0 [(0, .ref (gb G + 200)), (1, .int x1), (2, .int x2), (3, .int x3), (4, .int x4), (5, .int x5)] [] σ
  unfold fM_fits at h
  refine v_aload_n dX12_fits_0 0 rfl rfl (v_iload_n dX12_fits_1 1 rfl rfl ?_)
  obtain ⟨q1, hq1, h⟩ := bind_some h
  refine v_callV (As := [.int x1]) (S := []) dX12_fits_2 tw880 tw882 tw29 ykX12_isPerson lc_200 shc_200 (by decide) ok_11 rfl (by decide) rfl rfl (Nat.le_of_ble_eq_true rfl) (by decide) (eM_isPerson x1 _ _ hq1) ?_
  refine v_if_eq (tgt := 36) dX12_fits_5 (by decide) (fun c2 => ?_) (fun c2 => ?_)
  · replace h := ite_t c2 h
    refine v_ldc dX12_fits_36 tw764 ?_
    replace h := Option.some.inj h
    subst h
    exact v_iret dX12_fits_38 rfl rfl rfl rfl rfl
  · replace h := ite_f c2 h
    refine v_iload_n dX12_fits_8 2 rfl rfl ?_
    obtain ⟨q3, hq3, h⟩ := bind_some h
    refine v_callS (As := [.int x2]) (S := []) dX12_fits_9 tw758 tw759 ykX12_isRow rfl (by decide) rfl rfl (Nat.le_of_ble_eq_true rfl) (by decide) (eM_isRow x2 _ _ hq3) ?_
    refine v_if_eq (tgt := 36) dX12_fits_12 (by decide) (fun c4 => ?_) (fun c4 => ?_)
    · replace h := ite_t c4 h
      refine v_ldc dX12_fits_36 tw764 ?_
      replace h := Option.some.inj h
      subst h
      exact v_iret dX12_fits_38 rfl rfl rfl rfl rfl
    · replace h := ite_f c4 h
      refine v_iload dX12_fits_15 4 rfl (v_iconst dX12_fits_17 rfl (v_bipush (v := 16) dX12_fits_18 rfl ?_))
      obtain ⟨q5, hq5, h⟩ := bind_some h
      refine v_callS (As := [.int x4, .int 1, .int 16]) (S := []) dX12_fits_20 tw761 tw762 ykX12_in rfl (by decide) rfl rfl (Nat.le_of_ble_eq_true rfl) (by decide) (eM_in x4 1 16 _ _ hq5) ?_
      refine v_if_eq (tgt := 36) dX12_fits_23 (by decide) (fun c6 => ?_) (fun c6 => ?_)
      · replace h := ite_t c6 h
        refine v_ldc dX12_fits_36 tw764 ?_
        replace h := Option.some.inj h
        subst h
        exact v_iret dX12_fits_38 rfl rfl rfl rfl rfl
      · replace h := ite_f c6 h
        refine v_iload dX12_fits_26 5 rfl (v_iconst dX12_fits_28 rfl (v_iconst dX12_fits_29 rfl ?_))
        obtain ⟨q7, hq7, h⟩ := bind_some h
        refine v_callS (As := [.int x5, .int 0, .int 2]) (S := []) dX12_fits_30 tw761 tw762 ykX12_in rfl (by decide) rfl rfl (Nat.le_of_ble_eq_true rfl) (by decide) (eM_in x5 0 2 _ _ hq7) ?_
        refine v_if_ne (tgt := 39) dX12_fits_33 (by decide) (fun c8 => ?_) (fun c8 => ?_)
        · replace h := ite_f c8 h
          refine v_aload_n dX12_fits_39 0 rfl rfl (v_iload_n dX12_fits_40 2 rfl rfl ?_)
          obtain ⟨q9, hq9, h⟩ := bind_some h
          refine v_callV (As := [.int x2]) (S := []) dX12_fits_41 tw778 tw780 tw18 ykX12_isMissing lc_200 shc_200 (by decide) ok_11 rfl (by decide) rfl rfl (Nat.le_of_ble_eq_true rfl) (by decide) (eM_isMissing x2 _ _ hq9) ?_
          refine v_if_eq (tgt := 53) dX12_fits_44 (by decide) (fun c10 => ?_) (fun c10 => ?_)
          · replace h := ite_t c10 h
            refine v_aload_n dX12_fits_53 0 rfl rfl (v_iload_n dX12_fits_54 2 rfl rfl (v_iload_n dX12_fits_55 3 rfl rfl (v_iload dX12_fits_56 4 rfl ?_)))
            obtain ⟨q11, hq11, h⟩ := bind_some h
            refine v_callV (As := [.int x2, .int x3, .int x4]) (S := []) dX12_fits_58 tw789 tw791 tw19 ykX12_isPart lc_200 shc_200 (by decide) ok_11 rfl (by decide) rfl rfl (Nat.le_of_ble_eq_true rfl) (by decide) (eM_isPart x2 x3 x4 _ _ hq11) ?_
            refine v_if_ne (tgt := 70) dX12_fits_61 (by decide) (fun c12 => ?_) (fun c12 => ?_)
            · replace h := ite_f c12 h
              refine v_iconst dX12_fits_70 rfl (v_bipush (v := 6) dX12_fits_71 rfl (v_iload_n dX12_fits_73 1 rfl rfl (v_imul dX12_fits_74 (v_iadd dX12_fits_75 (v_iload dX12_fits_76 5 rfl (v_if_ne (tgt := 85) dX12_fits_78 (by decide) (fun c13 => ?_) (fun c13 => ?_)))))))
              · replace h := ite_f c13 h
                refine v_iload dX12_fits_85 5 rfl (v_iconst dX12_fits_87 rfl (v_icmp_ne (tgt := 95) dX12_fits_88 (by decide) (fun c14 => ?_) (fun c14 => ?_)))
                · replace h := ite_f c14 h
                  exact v_iconst dX12_fits_95 rfl (v_sub [0, 2, 3, 4, 5] rfl (sM_fits_B96 x2 x3 x4 x5 2 (5 + (6 * x1)) _ h))
                · replace h := ite_t c14 h
                  exact v_iconst dX12_fits_91 rfl (v_goto (tgt := 96) dX12_fits_92 (by decide) (v_sub [0, 2, 3, 4, 5] rfl (sM_fits_B96 x2 x3 x4 x5 3 (5 + (6 * x1)) _ h)))
              · replace h := ite_t c13 h
                exact v_iconst dX12_fits_81 rfl (v_goto (tgt := 96) dX12_fits_82 (by decide) (v_sub [0, 2, 3, 4, 5] rfl (sM_fits_B96 x2 x3 x4 x5 0 (5 + (6 * x1)) _ h)))
            · replace h := ite_t c12 h
              refine v_aload_n dX12_fits_64 0 rfl rfl (v_iconst dX12_fits_65 rfl ?_)
              obtain ⟨q15, hq15, h⟩ := bind_some h
              refine v_callV (As := [.int 2]) (S := []) dX12_fits_66 tw765 tw767 tw16 ykX12_found lc_200 shc_200 (by decide) ok_11 rfl (by decide) rfl rfl (Nat.le_of_ble_eq_true rfl) (by decide) (eM_found 2 _ _ hq15) ?_
              replace h := Option.some.inj h
              subst h
              exact v_iret dX12_fits_69 rfl rfl rfl rfl rfl
          · replace h := ite_f c10 h
            refine v_aload_n dX12_fits_47 0 rfl rfl (v_iconst dX12_fits_48 rfl ?_)
            obtain ⟨q16, hq16, h⟩ := bind_some h
            refine v_callV (As := [.int 1]) (S := []) dX12_fits_49 tw765 tw767 tw16 ykX12_found lc_200 shc_200 (by decide) ok_11 rfl (by decide) rfl rfl (Nat.le_of_ble_eq_true rfl) (by decide) (eM_found 1 _ _ hq16) ?_
            replace h := Option.some.inj h
            subst h
            exact v_iret dX12_fits_52 rfl rfl rfl rfl rfl
        · replace h := ite_t c8 h
          refine v_ldc dX12_fits_36 tw764 ?_
          replace h := Option.some.inj h
          subst h
          exact v_iret dX12_fits_38 rfl rfl rfl rfl rfl
def fM_hidden_B113 (K47 : Int32 → Int32 → Int32 → Int32 → Int32 → Int32 → Int32 → Sg → Option (Int32 × Sg)) (x1 : Int32) (x2 : Int32) (x3 : Int32) (x4 : Int32) (x5 : Int32) (x7 : Int32) (s0 : Int32) (s1 : Int32) (σ : Sg) : Option (Int32 × Sg) := K47 x1 x2 x3 x4 x5 (s1 * s0) (x7 + 1) σ
set_option maxRecDepth 100000 in
set_option maxHeartbeats 4000000 in
theorem sM_hidden_B113 {G : Gx} {q : (Int32 × Sg)} (K47 : Int32 → Int32 → Int32 → Int32 → Int32 → Int32 → Int32 → Sg → Option (Int32 × Sg)) (hK47 : ∀ (x1 : Int32) (x2 : Int32) (x3 : Int32) (x4 : Int32) (x5 : Int32) (x6 : Int32) (x7 : Int32) (σ : Sg), K47 x1 x2 x3 x4 x5 x6 x7 σ = some q → Vm G MX12_hidden (some (.int q.1)) q.2 47 [(0, .ref (gb G + 200)), (1, .int x1), (2, .int x2), (3, .int x3), (4, .int x4), (5, .int x5), (6, .int x6), (7, .int x7)] [] σ) (x1 : Int32) (x2 : Int32) (x3 : Int32) (x4 : Int32) (x5 : Int32) (x7 : Int32) (s0 : Int32) (s1 : Int32) (σ : Sg) (h : fM_hidden_B113 K47 x1 x2 x3 x4 x5 x7 s0 s1 σ = some q) : Vm G MX12_hidden (some (.int q.1)) q.2 113 [(0, .ref (gb G + 200)), (1, .int x1), (2, .int x2), (3, .int x3), (4, .int x4), (5, .int x5), (7, .int x7)] [.int s0, .int s1] σ := by
  unfold fM_hidden_B113 at h
  exact v_imul dX12_hidden_113 (v_istore dX12_hidden_114 [0, 1, 2, 3, 4, 5, 6, 7] rfl (by decide) (v_iinc (v := x7 + 1) dX12_hidden_116 7 rfl rfl [0, 1, 2, 3, 4, 5, 6, 7] rfl (by decide) (v_goto (tgt := 47) dX12_hidden_119 (by decide) (v_sub [2, 3, 4, 5, 6, 7, 1, 0] rfl (hK47 x1 x2 x3 x4 x5 (s1 * s0) (x7 + 1) _ h)))))
def fM_hidden_B97 (K47 : Int32 → Int32 → Int32 → Int32 → Int32 → Int32 → Int32 → Sg → Option (Int32 × Sg)) (x1 : Int32) (x2 : Int32) (x3 : Int32) (x4 : Int32) (x6 : Int32) (x7 : Int32) (x8 : Int32) (s0 : Int32) (s1 : Int32) (σ : Sg) : Option (Int32 × Sg) := if x8 = 0 then fM_hidden_B113 K47 x1 x2 x3 x4 (s1 ||| s0) x7 1 x6 σ else fM_hidden_B113 K47 x1 x2 x3 x4 (s1 ||| s0) x7 10 x6 σ
set_option maxRecDepth 100000 in
set_option maxHeartbeats 4000000 in
theorem sM_hidden_B97 {G : Gx} {q : (Int32 × Sg)} (K47 : Int32 → Int32 → Int32 → Int32 → Int32 → Int32 → Int32 → Sg → Option (Int32 × Sg)) (hK47 : ∀ (x1 : Int32) (x2 : Int32) (x3 : Int32) (x4 : Int32) (x5 : Int32) (x6 : Int32) (x7 : Int32) (σ : Sg), K47 x1 x2 x3 x4 x5 x6 x7 σ = some q → Vm G MX12_hidden (some (.int q.1)) q.2 47 [(0, .ref (gb G + 200)), (1, .int x1), (2, .int x2), (3, .int x3), (4, .int x4), (5, .int x5), (6, .int x6), (7, .int x7)] [] σ) (x1 : Int32) (x2 : Int32) (x3 : Int32) (x4 : Int32) (x6 : Int32) (x7 : Int32) (x8 : Int32) (s0 : Int32) (s1 : Int32) (σ : Sg) (h : fM_hidden_B97 K47 x1 x2 x3 x4 x6 x7 x8 s0 s1 σ = some q) : Vm G MX12_hidden (some (.int q.1)) q.2 97 [(0, .ref (gb G + 200)), (1, .int x1), (2, .int x2), (3, .int x3), (4, .int x4), (6, .int x6), (7, .int x7), (8, .int x8)] [.int s0, .int s1] σ := by
  unfold fM_hidden_B97 at h
  refine v_ior dX12_hidden_97 (v_istore dX12_hidden_98 [0, 1, 2, 3, 4, 5, 6, 7, 8] rfl (by decide) (v_iload dX12_hidden_100 6 rfl (v_iload dX12_hidden_102 8 rfl (v_if_eq (tgt := 112) dX12_hidden_104 (by decide) (fun c18 => ?_) (fun c18 => ?_)))))
  · replace h := ite_t c18 h
    exact v_iconst dX12_hidden_112 rfl (v_sub [1, 2, 3, 4, 5, 0, 7] rfl (sM_hidden_B113 K47 hK47 x1 x2 x3 x4 (s1 ||| s0) x7 1 x6 _ h))
  · replace h := ite_f c18 h
    exact v_bipush (v := 10) dX12_hidden_107 rfl (v_goto (tgt := 113) dX12_hidden_109 (by decide) (v_sub [1, 2, 3, 4, 5, 0, 7] rfl (sM_hidden_B113 K47 hK47 x1 x2 x3 x4 (s1 ||| s0) x7 10 x6 _ h)))
def fM_hidden_B80 (K47 : Int32 → Int32 → Int32 → Int32 → Int32 → Int32 → Int32 → Sg → Option (Int32 × Sg)) (x1 : Int32) (x2 : Int32) (x3 : Int32) (x4 : Int32) (x5 : Int32) (x6 : Int32) (x7 : Int32) (s0 : Int32) (σ : Sg) : Option (Int32 × Sg) := if s0 = 0 then fM_hidden_B97 K47 x1 x2 x3 x4 x6 x7 s0 0 x5 σ else fM_hidden_B97 K47 x1 x2 x3 x4 x6 x7 s0 (1 <<< (x7 &&& 31)) x5 σ
set_option maxRecDepth 100000 in
set_option maxHeartbeats 4000000 in
theorem sM_hidden_B80 {G : Gx} {q : (Int32 × Sg)} (K47 : Int32 → Int32 → Int32 → Int32 → Int32 → Int32 → Int32 → Sg → Option (Int32 × Sg)) (hK47 : ∀ (x1 : Int32) (x2 : Int32) (x3 : Int32) (x4 : Int32) (x5 : Int32) (x6 : Int32) (x7 : Int32) (σ : Sg), K47 x1 x2 x3 x4 x5 x6 x7 σ = some q → Vm G MX12_hidden (some (.int q.1)) q.2 47 [(0, .ref (gb G + 200)), (1, .int x1), (2, .int x2), (3, .int x3), (4, .int x4), (5, .int x5), (6, .int x6), (7, .int x7)] [] σ) (x1 : Int32) (x2 : Int32) (x3 : Int32) (x4 : Int32) (x5 : Int32) (x6 : Int32) (x7 : Int32) (s0 : Int32) (σ : Sg) (h : fM_hidden_B80 K47 x1 x2 x3 x4 x5 x6 x7 s0 σ = some q) : Vm G MX12_hidden (some (.int q.1)) q.2 80 [(0, .ref (gb G + 200)), (1, .int x1), (2, .int x2), (3, .int x3), (4, .int x4), (5, .int x5), (6, .int x6), (7, .int x7)] [.int s0] σ := by
  unfold fM_hidden_B80 at h
  refine v_istore dX12_hidden_80 [0, 1, 2, 3, 4, 5, 6, 7, 8] rfl (by decide) (v_iload dX12_hidden_82 6 rfl (v_iload dX12_hidden_84 0 rfl (v_if_eq (tgt := 96) dX12_hidden_86 (by decide) (fun c14 => ?_) (fun c14 => ?_))))
  · replace h := ite_t c14 h
    exact v_iconst dX12_hidden_96 rfl (v_sub [1, 2, 3, 4, 5, 7, 8, 0] rfl (sM_hidden_B97 K47 hK47 x1 x2 x3 x4 x6 x7 s0 0 x5 _ h))
  · replace h := ite_f c14 h
    exact v_iconst dX12_hidden_89 rfl (v_iload dX12_hidden_90 8 rfl (v_ishl dX12_hidden_92 (v_goto (tgt := 97) dX12_hidden_93 (by decide) (v_sub [1, 2, 3, 4, 5, 7, 8, 0] rfl (sM_hidden_B97 K47 hK47 x1 x2 x3 x4 x6 x7 s0 (1 <<< (x7 &&& 31)) x5 _ h)))))
def fM_hidden_B206 (K128 : Int32 → Int32 → Int32 → Int32 → Int32 → Int32 → Int32 → Int32 → Sg → Option (Int32 × Sg)) (K161 : Int32 → Int32 → Int32 → Int32 → Int32 → Int32 → Int32 → Int32 → Int32 → Int32 → Sg → Option (Int32 × Sg)) (x1 : Int32) (x2 : Int32) (x3 : Int32) (x4 : Int32) (x5 : Int32) (x6 : Int32) (x7 : Int32) (x8 : Int32) (x10 : Int32) (s0 : Int32) (s1 : Int32) (σ : Sg) : Option (Int32 × Sg) := K161 x1 x2 x3 x4 x5 x6 x7 x8 (s1 * s0) (x10 + 1) σ
set_option maxRecDepth 100000 in
set_option maxHeartbeats 4000000 in
theorem sM_hidden_B206 {G : Gx} {q : (Int32 × Sg)} (K128 : Int32 → Int32 → Int32 → Int32 → Int32 → Int32 → Int32 → Int32 → Sg → Option (Int32 × Sg)) (hK128 : ∀ (x1 : Int32) (x2 : Int32) (x3 : Int32) (x4 : Int32) (x5 : Int32) (x6 : Int32) (x7 : Int32) (x8 : Int32) (σ : Sg), K128 x1 x2 x3 x4 x5 x6 x7 x8 σ = some q → Vm G MX12_hidden (some (.int q.1)) q.2 128 [(0, .ref (gb G + 200)), (1, .int x1), (2, .int x2), (3, .int x3), (4, .int x4), (5, .int x5), (6, .int x6), (7, .int x7), (8, .int x8)] [] σ) (K161 : Int32 → Int32 → Int32 → Int32 → Int32 → Int32 → Int32 → Int32 → Int32 → Int32 → Sg → Option (Int32 × Sg)) (hK161 : ∀ (x1 : Int32) (x2 : Int32) (x3 : Int32) (x4 : Int32) (x5 : Int32) (x6 : Int32) (x7 : Int32) (x8 : Int32) (x9 : Int32) (x10 : Int32) (σ : Sg), K161 x1 x2 x3 x4 x5 x6 x7 x8 x9 x10 σ = some q → Vm G MX12_hidden (some (.int q.1)) q.2 161 [(0, .ref (gb G + 200)), (1, .int x1), (2, .int x2), (3, .int x3), (4, .int x4), (5, .int x5), (6, .int x6), (7, .int x7), (8, .int x8), (9, .int x9), (10, .int x10)] [] σ) (x1 : Int32) (x2 : Int32) (x3 : Int32) (x4 : Int32) (x5 : Int32) (x6 : Int32) (x7 : Int32) (x8 : Int32) (x10 : Int32) (s0 : Int32) (s1 : Int32) (σ : Sg) (h : fM_hidden_B206 K128 K161 x1 x2 x3 x4 x5 x6 x7 x8 x10 s0 s1 σ = some q) : Vm G MX12_hidden (some (.int q.1)) q.2 206 [(0, .ref (gb G + 200)), (1, .int x1), (2, .int x2), (3, .int x3), (4, .int x4), (5, .int x5), (6, .int x6), (7, .int x7), (8, .int x8), (10, .int x10)] [.int s0, .int s1] σ := by
  unfold fM_hidden_B206 at h
  exact v_imul dX12_hidden_206 (v_istore dX12_hidden_207 [0, 1, 2, 3, 4, 5, 6, 7, 8, 9, 10] rfl (by decide) (v_iinc (v := x10 + 1) dX12_hidden_209 10 rfl rfl [0, 1, 2, 3, 4, 5, 6, 7, 8, 9, 10] rfl (by decide) (v_goto (tgt := 161) dX12_hidden_212 (by decide) (v_sub [2, 3, 4, 5, 6, 7, 8, 9, 10, 1, 0] rfl (hK161 x1 x2 x3 x4 x5 x6 x7 x8 (s1 * s0) (x10 + 1) _ h)))))
def fM_hidden_B240 (K128 : Int32 → Int32 → Int32 → Int32 → Int32 → Int32 → Int32 → Int32 → Sg → Option (Int32 × Sg)) (x1 : Int32) (x2 : Int32) (x3 : Int32) (x4 : Int32) (x5 : Int32) (x6 : Int32) (x8 : Int32) (s0 : Int32) (s1 : Int32) (σ : Sg) : Option (Int32 × Sg) := K128 x1 x2 x3 x4 x5 x6 (s1 + s0) (x8 + 1) σ
set_option maxRecDepth 100000 in
set_option maxHeartbeats 4000000 in
theorem sM_hidden_B240 {G : Gx} {q : (Int32 × Sg)} (K128 : Int32 → Int32 → Int32 → Int32 → Int32 → Int32 → Int32 → Int32 → Sg → Option (Int32 × Sg)) (hK128 : ∀ (x1 : Int32) (x2 : Int32) (x3 : Int32) (x4 : Int32) (x5 : Int32) (x6 : Int32) (x7 : Int32) (x8 : Int32) (σ : Sg), K128 x1 x2 x3 x4 x5 x6 x7 x8 σ = some q → Vm G MX12_hidden (some (.int q.1)) q.2 128 [(0, .ref (gb G + 200)), (1, .int x1), (2, .int x2), (3, .int x3), (4, .int x4), (5, .int x5), (6, .int x6), (7, .int x7), (8, .int x8)] [] σ) (x1 : Int32) (x2 : Int32) (x3 : Int32) (x4 : Int32) (x5 : Int32) (x6 : Int32) (x8 : Int32) (s0 : Int32) (s1 : Int32) (σ : Sg) (h : fM_hidden_B240 K128 x1 x2 x3 x4 x5 x6 x8 s0 s1 σ = some q) : Vm G MX12_hidden (some (.int q.1)) q.2 240 [(0, .ref (gb G + 200)), (1, .int x1), (2, .int x2), (3, .int x3), (4, .int x4), (5, .int x5), (6, .int x6), (8, .int x8)] [.int s0, .int s1] σ := by
  unfold fM_hidden_B240 at h
  exact v_iadd dX12_hidden_240 (v_istore dX12_hidden_241 [0, 1, 2, 3, 4, 5, 6, 7, 8] rfl (by decide) (v_iinc (v := x8 + 1) dX12_hidden_243 8 rfl rfl [0, 1, 2, 3, 4, 5, 6, 7, 8] rfl (by decide) (v_goto (tgt := 128) dX12_hidden_246 (by decide) (v_sub [2, 3, 4, 5, 6, 7, 8, 1, 0] rfl (hK128 x1 x2 x3 x4 x5 x6 (s1 + s0) (x8 + 1) _ h)))))
def fM_hidden_b161 (K128 : Int32 → Int32 → Int32 → Int32 → Int32 → Int32 → Int32 → Int32 → Sg → Option (Int32 × Sg)) (K161 : Int32 → Int32 → Int32 → Int32 → Int32 → Int32 → Int32 → Int32 → Int32 → Int32 → Sg → Option (Int32 × Sg)) (x1 : Int32) (x2 : Int32) (x3 : Int32) (x4 : Int32) (x5 : Int32) (x6 : Int32) (x7 : Int32) (x8 : Int32) (x9 : Int32) (x10 : Int32) (σ : Sg) : Option (Int32 × Sg) := if (σ 206 4) ≤ x10 then ((fM_hides x8 σ).bind fun q21 => (fM_broughtBy x1 x2 q21).bind fun q22 => if q22.1 = (-1000000) then fM_hidden_B240 K128 x1 x2 x3 x4 x5 x6 x8 0 x7 q22.2 else fM_hidden_B240 K128 x1 x2 x3 x4 x5 x6 x8 x9 x7 q22.2) else (fM_has x5 x10 σ).bind fun q24 => if q24 = 0 then fM_hidden_B206 K128 K161 x1 x2 x3 x4 x5 x6 x7 x8 x10 1 x9 σ else (fM_has x8 x10 σ).bind fun q26 => if q26 = 0 then fM_hidden_B206 K128 K161 x1 x2 x3 x4 x5 x6 x7 x8 x10 (10 - x3) x9 σ else fM_hidden_B206 K128 K161 x1 x2 x3 x4 x5 x6 x7 x8 x10 x3 x9 σ
def fM_hidden_L161 (K128 : Int32 → Int32 → Int32 → Int32 → Int32 → Int32 → Int32 → Int32 → Sg → Option (Int32 × Sg)) (n : Nat) : Int32 → Int32 → Int32 → Int32 → Int32 → Int32 → Int32 → Int32 → Int32 → Int32 → Sg → Option (Int32 × Sg) := Nat.rec (fun _ _ _ _ _ _ _ _ _ _ _ => none) (fun _ K => fM_hidden_b161 K128 K) n
set_option maxRecDepth 100000 in
set_option maxHeartbeats 4000000 in
theorem sM_hidden_b161 {G : Gx} {q : (Int32 × Sg)} (K128 : Int32 → Int32 → Int32 → Int32 → Int32 → Int32 → Int32 → Int32 → Sg → Option (Int32 × Sg)) (hK128 : ∀ (x1 : Int32) (x2 : Int32) (x3 : Int32) (x4 : Int32) (x5 : Int32) (x6 : Int32) (x7 : Int32) (x8 : Int32) (σ : Sg), K128 x1 x2 x3 x4 x5 x6 x7 x8 σ = some q → Vm G MX12_hidden (some (.int q.1)) q.2 128 [(0, .ref (gb G + 200)), (1, .int x1), (2, .int x2), (3, .int x3), (4, .int x4), (5, .int x5), (6, .int x6), (7, .int x7), (8, .int x8)] [] σ) (K161 : Int32 → Int32 → Int32 → Int32 → Int32 → Int32 → Int32 → Int32 → Int32 → Int32 → Sg → Option (Int32 × Sg)) (hK161 : ∀ (x1 : Int32) (x2 : Int32) (x3 : Int32) (x4 : Int32) (x5 : Int32) (x6 : Int32) (x7 : Int32) (x8 : Int32) (x9 : Int32) (x10 : Int32) (σ : Sg), K161 x1 x2 x3 x4 x5 x6 x7 x8 x9 x10 σ = some q → Vm G MX12_hidden (some (.int q.1)) q.2 161 [(0, .ref (gb G + 200)), (1, .int x1), (2, .int x2), (3, .int x3), (4, .int x4), (5, .int x5), (6, .int x6), (7, .int x7), (8, .int x8), (9, .int x9), (10, .int x10)] [] σ) (x1 : Int32) (x2 : Int32) (x3 : Int32) (x4 : Int32) (x5 : Int32) (x6 : Int32) (x7 : Int32) (x8 : Int32) (x9 : Int32) (x10 : Int32) (σ : Sg) (h : fM_hidden_b161 K128 K161 x1 x2 x3 x4 x5 x6 x7 x8 x9 x10 σ = some q) : Vm G MX12_hidden (some (.int q.1)) q.2 161 [(0, .ref (gb G + 200)), (1, .int x1), (2, .int x2), (3, .int x3), (4, .int x4), (5, .int x5), (6, .int x6), (7, .int x7), (8, .int x8), (9, .int x9), (10, .int x10)] [] σ := by
  unfold fM_hidden_b161 at h
  refine v_iload dX12_hidden_161 10 rfl (v_aload_n dX12_hidden_163 0 rfl rfl (vm_getR (t := 206) dX12_hidden_164 fsX12_25 lc_200 shc_200 (by decide) rf_200_13 (v_iconst dX12_hidden_167 rfl (vn_iald dX12_hidden_168 lc_206 sha_206 ib_4_41 ixc_4 (v_icmp_ge (tgt := 215) dX12_hidden_169 (by decide) (fun c20 => ?_) (fun c20 => ?_))))))
  · replace h := ite_t c20 h
    refine v_aload_n dX12_hidden_215 0 rfl rfl (v_iload dX12_hidden_216 8 rfl ?_)
    obtain ⟨q21, hq21, h⟩ := bind_some h
    refine v_callV (As := [.int x8]) (S := []) dX12_hidden_218 tw948 tw950 tw32 ykX12_hides lc_200 shc_200 (by decide) ok_11 rfl (by decide) rfl rfl (Nat.le_of_ble_eq_true rfl) (by decide) (eM_hides x8 _ _ hq21) ?_
    refine v_iload dX12_hidden_221 7 rfl (v_aload_n dX12_hidden_223 0 rfl rfl (v_iload_n dX12_hidden_224 1 rfl rfl (v_iload_n dX12_hidden_225 2 rfl rfl ?_)))
    obtain ⟨q22, hq22, h⟩ := bind_some h
    refine v_callV (As := [.int x1, .int x2]) (S := [.int x7]) dX12_hidden_226 tw925 tw927 tw31 ykX12_broughtBy lc_200 shc_200 (by decide) ok_11 rfl (by decide) rfl rfl (Nat.le_of_ble_eq_true rfl) (by decide) (eM_broughtBy x1 x2 _ _ hq22) ?_
    refine v_ldc dX12_hidden_229 tw686 (v_icmp_eq (tgt := 239) dX12_hidden_231 (by decide) (fun c23 => ?_) (fun c23 => ?_))
    · replace h := ite_t c23 h
      exact v_iconst dX12_hidden_239 rfl (v_sub [0, 1, 2, 3, 4, 5, 6, 8] rfl (sM_hidden_B240 K128 hK128 x1 x2 x3 x4 x5 x6 x8 0 x7 _ h))
    · replace h := ite_f c23 h
      exact v_iload dX12_hidden_234 9 rfl (v_goto (tgt := 240) dX12_hidden_236 (by decide) (v_sub [0, 1, 2, 3, 4, 5, 6, 8] rfl (sM_hidden_B240 K128 hK128 x1 x2 x3 x4 x5 x6 x8 x9 x7 _ h)))
  · replace h := ite_f c20 h
    refine v_iload dX12_hidden_172 9 rfl (v_iload dX12_hidden_174 5 rfl (v_iload dX12_hidden_176 10 rfl ?_))
    obtain ⟨q24, hq24, h⟩ := bind_some h
    refine v_callS (As := [.int x5, .int x10]) (S := [.int x9]) dX12_hidden_178 tw933 tw934 ykX12_has rfl (by decide) rfl rfl (Nat.le_of_ble_eq_true rfl) (by decide) (eM_has x5 x10 _ _ hq24) ?_
    refine v_if_ne (tgt := 188) dX12_hidden_181 (by decide) (fun c25 => ?_) (fun c25 => ?_)
    · replace h := ite_f c25 h
      refine v_iload dX12_hidden_188 8 rfl (v_iload dX12_hidden_190 10 rfl ?_)
      obtain ⟨q26, hq26, h⟩ := bind_some h
      refine v_callS (As := [.int x8, .int x10]) (S := [.int x9]) dX12_hidden_192 tw933 tw934 ykX12_has rfl (by decide) rfl rfl (Nat.le_of_ble_eq_true rfl) (by decide) (eM_has x8 x10 _ _ hq26) ?_
      refine v_if_eq (tgt := 202) dX12_hidden_195 (by decide) (fun c27 => ?_) (fun c27 => ?_)
      · replace h := ite_t c27 h
        exact v_bipush (v := 10) dX12_hidden_202 rfl (v_iload_n dX12_hidden_204 3 rfl rfl (v_isub dX12_hidden_205 (v_sub [0, 1, 2, 3, 4, 5, 6, 7, 8, 10] rfl (sM_hidden_B206 K128 hK128 K161 hK161 x1 x2 x3 x4 x5 x6 x7 x8 x10 (10 - x3) x9 _ h))))
      · replace h := ite_f c27 h
        exact v_iload_n dX12_hidden_198 3 rfl rfl (v_goto (tgt := 206) dX12_hidden_199 (by decide) (v_sub [0, 1, 2, 3, 4, 5, 6, 7, 8, 10] rfl (sM_hidden_B206 K128 hK128 K161 hK161 x1 x2 x3 x4 x5 x6 x7 x8 x10 x3 x9 _ h)))
    · replace h := ite_t c25 h
      exact v_iconst dX12_hidden_184 rfl (v_goto (tgt := 206) dX12_hidden_185 (by decide) (v_sub [0, 1, 2, 3, 4, 5, 6, 7, 8, 10] rfl (sM_hidden_B206 K128 hK128 K161 hK161 x1 x2 x3 x4 x5 x6 x7 x8 x10 1 x9 _ h)))
theorem sM_hidden_L161 {G : Gx} {q : (Int32 × Sg)} (K128 : Int32 → Int32 → Int32 → Int32 → Int32 → Int32 → Int32 → Int32 → Sg → Option (Int32 × Sg)) (hK128 : ∀ (x1 : Int32) (x2 : Int32) (x3 : Int32) (x4 : Int32) (x5 : Int32) (x6 : Int32) (x7 : Int32) (x8 : Int32) (σ : Sg), K128 x1 x2 x3 x4 x5 x6 x7 x8 σ = some q → Vm G MX12_hidden (some (.int q.1)) q.2 128 [(0, .ref (gb G + 200)), (1, .int x1), (2, .int x2), (3, .int x3), (4, .int x4), (5, .int x5), (6, .int x6), (7, .int x7), (8, .int x8)] [] σ) (n : Nat) : ∀ (x1 : Int32) (x2 : Int32) (x3 : Int32) (x4 : Int32) (x5 : Int32) (x6 : Int32) (x7 : Int32) (x8 : Int32) (x9 : Int32) (x10 : Int32) (σ : Sg) (h : fM_hidden_L161 K128 n x1 x2 x3 x4 x5 x6 x7 x8 x9 x10 σ = some q), Vm G MX12_hidden (some (.int q.1)) q.2 161 [(0, .ref (gb G + 200)), (1, .int x1), (2, .int x2), (3, .int x3), (4, .int x4), (5, .int x5), (6, .int x6), (7, .int x7), (8, .int x8), (9, .int x9), (10, .int x10)] [] σ := by
  induction n with
  | zero => intro x1 x2 x3 x4 x5 x6 x7 x8 x9 x10 σ h; cases h
  | succ n ih => intro x1 x2 x3 x4 x5 x6 x7 x8 x9 x10 σ h; exact sM_hidden_b161 K128 hK128 _ ih x1 x2 x3 x4 x5 x6 x7 x8 x9 x10 σ h
def fM_hidden_B156 (K128 : Int32 → Int32 → Int32 → Int32 → Int32 → Int32 → Int32 → Int32 → Sg → Option (Int32 × Sg)) (x1 : Int32) (x2 : Int32) (x3 : Int32) (x4 : Int32) (x5 : Int32) (x6 : Int32) (x7 : Int32) (x8 : Int32) (s0 : Int32) (σ : Sg) : Option (Int32 × Sg) := fM_hidden_L161 K128 2000 x1 x2 x3 x4 x5 x6 x7 x8 s0 0 σ
set_option maxRecDepth 100000 in
set_option maxHeartbeats 4000000 in
theorem sM_hidden_B156 {G : Gx} {q : (Int32 × Sg)} (K128 : Int32 → Int32 → Int32 → Int32 → Int32 → Int32 → Int32 → Int32 → Sg → Option (Int32 × Sg)) (hK128 : ∀ (x1 : Int32) (x2 : Int32) (x3 : Int32) (x4 : Int32) (x5 : Int32) (x6 : Int32) (x7 : Int32) (x8 : Int32) (σ : Sg), K128 x1 x2 x3 x4 x5 x6 x7 x8 σ = some q → Vm G MX12_hidden (some (.int q.1)) q.2 128 [(0, .ref (gb G + 200)), (1, .int x1), (2, .int x2), (3, .int x3), (4, .int x4), (5, .int x5), (6, .int x6), (7, .int x7), (8, .int x8)] [] σ) (x1 : Int32) (x2 : Int32) (x3 : Int32) (x4 : Int32) (x5 : Int32) (x6 : Int32) (x7 : Int32) (x8 : Int32) (s0 : Int32) (σ : Sg) (h : fM_hidden_B156 K128 x1 x2 x3 x4 x5 x6 x7 x8 s0 σ = some q) : Vm G MX12_hidden (some (.int q.1)) q.2 156 [(0, .ref (gb G + 200)), (1, .int x1), (2, .int x2), (3, .int x3), (4, .int x4), (5, .int x5), (6, .int x6), (7, .int x7), (8, .int x8)] [.int s0] σ := by
  unfold fM_hidden_B156 at h
  exact v_istore dX12_hidden_156 [0, 1, 2, 3, 4, 5, 6, 7, 8, 9] rfl (by decide) (v_iconst dX12_hidden_158 rfl (v_istore dX12_hidden_159 [0, 1, 2, 3, 4, 5, 6, 7, 8, 9, 10] rfl (by decide) (v_sub [2, 3, 4, 5, 6, 7, 8, 9, 10, 1, 0] rfl (sM_hidden_L161 K128 hK128 2000 x1 x2 x3 x4 x5 x6 x7 x8 s0 0 _ h))))
def fM_hidden_B292 (x8 : Int32) (s0 : Int32) (σ : Sg) : Option (Int32 × Sg) := if nz x8 = true then some (s0 / x8, σ) else none
set_option maxRecDepth 100000 in
set_option maxHeartbeats 4000000 in
theorem sM_hidden_B292 {G : Gx} {q : (Int32 × Sg)} (x8 : Int32) (s0 : Int32) (σ : Sg) (h : fM_hidden_B292 x8 s0 σ = some q) : Vm G MX12_hidden (some (.int q.1)) q.2 292 [(8, .int x8)] [.int s0] σ := by
  unfold fM_hidden_B292 at h
  refine v_iload dX12_hidden_292 0 rfl ?_
  obtain ⟨g19, h⟩ := guard_some h
  refine v_idiv dX12_hidden_294 (nz_ne g19) ?_
  replace h := Option.some.inj h
  subst h
  exact v_iret dX12_hidden_295 rfl rfl rfl rfl rfl
def fM_hidden_b257 (K257 : Int32 → Int32 → Int32 → Int32 → Int32 → Sg → Option (Int32 × Sg)) (x4 : Int32) (x6 : Int32) (x7 : Int32) (x8 : Int32) (x9 : Int32) (σ : Sg) : Option (Int32 × Sg) := if x9 = 0 then (if x4 = 0 then fM_hidden_B292 x8 x7 σ else fM_hidden_B292 x8 x6 σ) else if nz x9 = true then K257 x4 x6 x7 x9 (x8 - x8 / x9 * x9) σ else none
def fM_hidden_L257 (n : Nat) : Int32 → Int32 → Int32 → Int32 → Int32 → Sg → Option (Int32 × Sg) := Nat.rec (fun _ _ _ _ _ _ => none) (fun _ K => fM_hidden_b257 K) n
set_option maxRecDepth 100000 in
set_option maxHeartbeats 4000000 in
theorem sM_hidden_b257 {G : Gx} {q : (Int32 × Sg)} (K257 : Int32 → Int32 → Int32 → Int32 → Int32 → Sg → Option (Int32 × Sg)) (hK257 : ∀ (x4 : Int32) (x6 : Int32) (x7 : Int32) (x8 : Int32) (x9 : Int32) (σ : Sg), K257 x4 x6 x7 x8 x9 σ = some q → Vm G MX12_hidden (some (.int q.1)) q.2 257 [(4, .int x4), (6, .int x6), (7, .int x7), (8, .int x8), (9, .int x9)] [] σ) (x4 : Int32) (x6 : Int32) (x7 : Int32) (x8 : Int32) (x9 : Int32) (σ : Sg) (h : fM_hidden_b257 K257 x4 x6 x7 x8 x9 σ = some q) : Vm G MX12_hidden (some (.int q.1)) q.2 257 [(4, .int x4), (6, .int x6), (7, .int x7), (8, .int x8), (9, .int x9)] [] σ := by
  unfold fM_hidden_b257 at h
  refine v_iload dX12_hidden_257 4 rfl (v_if_eq (tgt := 280) dX12_hidden_259 (by decide) (fun c15 => ?_) (fun c15 => ?_))
  · replace h := ite_t c15 h
    refine v_iload dX12_hidden_280 0 rfl (v_if_ne (tgt := 290) dX12_hidden_282 (by decide) (fun c16 => ?_) (fun c16 => ?_))
    · replace h := ite_f c16 h
      exact v_iload dX12_hidden_290 1 rfl (v_sub [3] rfl (sM_hidden_B292 x8 x6 _ h))
    · replace h := ite_t c16 h
      exact v_iload dX12_hidden_285 2 rfl (v_goto (tgt := 292) dX12_hidden_287 (by decide) (v_sub [3] rfl (sM_hidden_B292 x8 x7 _ h)))
  · replace h := ite_f c15 h
    refine v_iload dX12_hidden_262 3 rfl (v_iload dX12_hidden_264 4 rfl ?_)
    obtain ⟨g17, h⟩ := guard_some h
    exact v_irem dX12_hidden_266 (nz_ne g17) (v_istore dX12_hidden_267 [0, 1, 2, 3, 5] rfl (by decide) (v_iload dX12_hidden_269 4 rfl (v_istore dX12_hidden_271 [0, 1, 2, 3, 4] rfl (by decide) (v_iload dX12_hidden_273 1 rfl (v_istore dX12_hidden_275 [0, 1, 3, 4, 5] rfl (by decide) (v_goto (tgt := 257) dX12_hidden_277 (by decide) (v_sub [2, 3, 4, 1, 0] rfl (hK257 x4 x6 x7 x9 (x8 - x8 / x9 * x9) _ h))))))))
theorem sM_hidden_L257 {G : Gx} {q : (Int32 × Sg)} (n : Nat) : ∀ (x4 : Int32) (x6 : Int32) (x7 : Int32) (x8 : Int32) (x9 : Int32) (σ : Sg) (h : fM_hidden_L257 n x4 x6 x7 x8 x9 σ = some q), Vm G MX12_hidden (some (.int q.1)) q.2 257 [(4, .int x4), (6, .int x6), (7, .int x7), (8, .int x8), (9, .int x9)] [] σ := by
  induction n with
  | zero => intro x4 x6 x7 x8 x9 σ h; cases h
  | succ n ih => intro x4 x6 x7 x8 x9 σ h; exact sM_hidden_b257  _ ih x4 x6 x7 x8 x9 σ h
def fM_hidden_b128 (K128 : Int32 → Int32 → Int32 → Int32 → Int32 → Int32 → Int32 → Int32 → Sg → Option (Int32 × Sg)) (x1 : Int32) (x2 : Int32) (x3 : Int32) (x4 : Int32) (x5 : Int32) (x6 : Int32) (x7 : Int32) (x8 : Int32) (σ : Sg) : Option (Int32 × Sg) := if (1 <<< ((σ 206 4) &&& 31)) ≤ x8 then fM_hidden_L257 2000 x4 x6 x7 x7 x6 σ else if (x8 &&& (x5 ^^^ (-1))) = 0 then fM_hidden_B156 K128 x1 x2 x3 x4 x5 x6 x7 x8 1 σ else fM_hidden_B156 K128 x1 x2 x3 x4 x5 x6 x7 x8 0 σ
def fM_hidden_L128 (n : Nat) : Int32 → Int32 → Int32 → Int32 → Int32 → Int32 → Int32 → Int32 → Sg → Option (Int32 × Sg) := Nat.rec (fun _ _ _ _ _ _ _ _ _ => none) (fun _ K => fM_hidden_b128 K) n
set_option maxRecDepth 100000 in
set_option maxHeartbeats 4000000 in
theorem sM_hidden_b128 {G : Gx} {q : (Int32 × Sg)} (K128 : Int32 → Int32 → Int32 → Int32 → Int32 → Int32 → Int32 → Int32 → Sg → Option (Int32 × Sg)) (hK128 : ∀ (x1 : Int32) (x2 : Int32) (x3 : Int32) (x4 : Int32) (x5 : Int32) (x6 : Int32) (x7 : Int32) (x8 : Int32) (σ : Sg), K128 x1 x2 x3 x4 x5 x6 x7 x8 σ = some q → Vm G MX12_hidden (some (.int q.1)) q.2 128 [(0, .ref (gb G + 200)), (1, .int x1), (2, .int x2), (3, .int x3), (4, .int x4), (5, .int x5), (6, .int x6), (7, .int x7), (8, .int x8)] [] σ) (x1 : Int32) (x2 : Int32) (x3 : Int32) (x4 : Int32) (x5 : Int32) (x6 : Int32) (x7 : Int32) (x8 : Int32) (σ : Sg) (h : fM_hidden_b128 K128 x1 x2 x3 x4 x5 x6 x7 x8 σ = some q) : Vm G MX12_hidden (some (.int q.1)) q.2 128 [(0, .ref (gb G + 200)), (1, .int x1), (2, .int x2), (3, .int x3), (4, .int x4), (5, .int x5), (6, .int x6), (7, .int x7), (8, .int x8)] [] σ := by
  unfold fM_hidden_b128 at h
  refine v_iload dX12_hidden_128 8 rfl (v_iconst dX12_hidden_130 rfl (v_aload_n dX12_hidden_131 0 rfl rfl (vm_getR (t := 206) dX12_hidden_132 fsX12_25 lc_200 shc_200 (by decide) rf_200_13 (v_iconst dX12_hidden_135 rfl (vn_iald dX12_hidden_136 lc_206 sha_206 ib_4_41 ixc_4 (v_ishl dX12_hidden_137 (v_icmp_ge (tgt := 249) dX12_hidden_138 (by decide) (fun c12 => ?_) (fun c12 => ?_))))))))
  · replace h := ite_t c12 h
    exact v_iload dX12_hidden_249 7 rfl (v_istore dX12_hidden_251 [0, 5, 7, 8] rfl (by decide) (v_iload dX12_hidden_253 2 rfl (v_istore dX12_hidden_255 [0, 1, 2, 3, 4] rfl (by decide) (v_sub [2, 3, 4, 1, 0] rfl (sM_hidden_L257 2000 x4 x6 x7 x7 x6 _ h)))))
  · replace h := ite_f c12 h
    refine v_iload dX12_hidden_141 8 rfl (v_iload dX12_hidden_143 5 rfl (v_iconst (v := -1) dX12_hidden_145 rfl (v_ixor dX12_hidden_146 (v_iand dX12_hidden_147 (v_if_ne (tgt := 155) dX12_hidden_148 (by decide) (fun c13 => ?_) (fun c13 => ?_))))))
    · replace h := ite_f c13 h
      exact v_iconst dX12_hidden_155 rfl (sM_hidden_B156 K128 hK128 x1 x2 x3 x4 x5 x6 x7 x8 0 _ h)
    · replace h := ite_t c13 h
      exact v_iconst dX12_hidden_151 rfl (v_goto (tgt := 156) dX12_hidden_152 (by decide) (sM_hidden_B156 K128 hK128 x1 x2 x3 x4 x5 x6 x7 x8 1 _ h))
theorem sM_hidden_L128 {G : Gx} {q : (Int32 × Sg)} (n : Nat) : ∀ (x1 : Int32) (x2 : Int32) (x3 : Int32) (x4 : Int32) (x5 : Int32) (x6 : Int32) (x7 : Int32) (x8 : Int32) (σ : Sg) (h : fM_hidden_L128 n x1 x2 x3 x4 x5 x6 x7 x8 σ = some q), Vm G MX12_hidden (some (.int q.1)) q.2 128 [(0, .ref (gb G + 200)), (1, .int x1), (2, .int x2), (3, .int x3), (4, .int x4), (5, .int x5), (6, .int x6), (7, .int x7), (8, .int x8)] [] σ := by
  induction n with
  | zero => intro x1 x2 x3 x4 x5 x6 x7 x8 σ h; cases h
  | succ n ih => intro x1 x2 x3 x4 x5 x6 x7 x8 σ h; exact sM_hidden_b128  _ ih x1 x2 x3 x4 x5 x6 x7 x8 σ h
def fM_hidden_b47 (K47 : Int32 → Int32 → Int32 → Int32 → Int32 → Int32 → Int32 → Sg → Option (Int32 × Sg)) (x1 : Int32) (x2 : Int32) (x3 : Int32) (x4 : Int32) (x5 : Int32) (x6 : Int32) (x7 : Int32) (σ : Sg) : Option (Int32 × Sg) := if (σ 206 4) ≤ x7 then fM_hidden_L128 2000 x1 x2 x3 x4 x5 x6 0 0 σ else if inb ((5 + (6 * x7)) + 3) 41 = true then if (σ 206 (ix ((5 + (6 * x7)) + 3))) ≤ 0 then fM_hidden_B80 K47 x1 x2 x3 x4 x5 x6 x7 0 σ else fM_hidden_B80 K47 x1 x2 x3 x4 x5 x6 x7 1 σ else none
def fM_hidden_L47 (n : Nat) : Int32 → Int32 → Int32 → Int32 → Int32 → Int32 → Int32 → Sg → Option (Int32 × Sg) := Nat.rec (fun _ _ _ _ _ _ _ _ => none) (fun _ K => fM_hidden_b47 K) n
set_option maxRecDepth 100000 in
set_option maxHeartbeats 4000000 in
theorem sM_hidden_b47 {G : Gx} {q : (Int32 × Sg)} (K47 : Int32 → Int32 → Int32 → Int32 → Int32 → Int32 → Int32 → Sg → Option (Int32 × Sg)) (hK47 : ∀ (x1 : Int32) (x2 : Int32) (x3 : Int32) (x4 : Int32) (x5 : Int32) (x6 : Int32) (x7 : Int32) (σ : Sg), K47 x1 x2 x3 x4 x5 x6 x7 σ = some q → Vm G MX12_hidden (some (.int q.1)) q.2 47 [(0, .ref (gb G + 200)), (1, .int x1), (2, .int x2), (3, .int x3), (4, .int x4), (5, .int x5), (6, .int x6), (7, .int x7)] [] σ) (x1 : Int32) (x2 : Int32) (x3 : Int32) (x4 : Int32) (x5 : Int32) (x6 : Int32) (x7 : Int32) (σ : Sg) (h : fM_hidden_b47 K47 x1 x2 x3 x4 x5 x6 x7 σ = some q) : Vm G MX12_hidden (some (.int q.1)) q.2 47 [(0, .ref (gb G + 200)), (1, .int x1), (2, .int x2), (3, .int x3), (4, .int x4), (5, .int x5), (6, .int x6), (7, .int x7)] [] σ := by
  unfold fM_hidden_b47 at h
  refine v_iload dX12_hidden_47 7 rfl (v_aload_n dX12_hidden_49 0 rfl rfl (vm_getR (t := 206) dX12_hidden_50 fsX12_25 lc_200 shc_200 (by decide) rf_200_13 (v_iconst dX12_hidden_53 rfl (vn_iald dX12_hidden_54 lc_206 sha_206 ib_4_41 ixc_4 (v_icmp_ge (tgt := 122) dX12_hidden_55 (by decide) (fun c9 => ?_) (fun c9 => ?_))))))
  · replace h := ite_t c9 h
    exact v_iconst dX12_hidden_122 rfl (v_istore dX12_hidden_123 [0, 1, 2, 3, 4, 5, 6, 7] rfl (by decide) (v_iconst dX12_hidden_125 rfl (v_istore dX12_hidden_126 [0, 1, 2, 3, 4, 5, 6, 7, 8] rfl (by decide) (v_sub [2, 3, 4, 5, 6, 7, 8, 1, 0] rfl (sM_hidden_L128 2000 x1 x2 x3 x4 x5 x6 0 0 _ h)))))
  · replace h := ite_f c9 h
    refine v_aload_n dX12_hidden_58 0 rfl rfl (vm_getR (t := 206) dX12_hidden_59 fsX12_25 lc_200 shc_200 (by decide) rf_200_13 (v_iconst dX12_hidden_62 rfl (v_bipush (v := 6) dX12_hidden_63 rfl (v_iload dX12_hidden_65 7 rfl (v_imul dX12_hidden_67 (v_iadd dX12_hidden_68 (v_iconst dX12_hidden_69 rfl (v_iadd dX12_hidden_70 ?_))))))))
    obtain ⟨g10, h⟩ := guard_some h
    refine vn_iald dX12_hidden_71 lc_206 sha_206 g10 rfl (v_if_le (tgt := 79) dX12_hidden_72 (by decide) (fun c11 => ?_) (fun c11 => ?_))
    · replace h := ite_t c11 h
      exact v_iconst dX12_hidden_79 rfl (sM_hidden_B80 K47 hK47 x1 x2 x3 x4 x5 x6 x7 0 _ h)
    · replace h := ite_f c11 h
      exact v_iconst dX12_hidden_75 rfl (v_goto (tgt := 80) dX12_hidden_76 (by decide) (sM_hidden_B80 K47 hK47 x1 x2 x3 x4 x5 x6 x7 1 _ h))
theorem sM_hidden_L47 {G : Gx} {q : (Int32 × Sg)} (n : Nat) : ∀ (x1 : Int32) (x2 : Int32) (x3 : Int32) (x4 : Int32) (x5 : Int32) (x6 : Int32) (x7 : Int32) (σ : Sg) (h : fM_hidden_L47 n x1 x2 x3 x4 x5 x6 x7 σ = some q), Vm G MX12_hidden (some (.int q.1)) q.2 47 [(0, .ref (gb G + 200)), (1, .int x1), (2, .int x2), (3, .int x3), (4, .int x4), (5, .int x5), (6, .int x6), (7, .int x7)] [] σ := by
  induction n with
  | zero => intro x1 x2 x3 x4 x5 x6 x7 σ h; cases h
  | succ n ih => intro x1 x2 x3 x4 x5 x6 x7 σ h; exact sM_hidden_b47  _ ih x1 x2 x3 x4 x5 x6 x7 σ h
def fM_hidden (x1 : Int32) (x2 : Int32) (x3 : Int32) (x4 : Int32) (σ : Sg) : Option (Int32 × Sg) := (fM_isPerson x1 σ).bind fun q1 => if q1 = 0 then some ((-1000001), σ) else (fM_isFar x2 σ).bind fun q3 => if q3 = 0 then some ((-1000001), σ) else (fM_in x3 0 10 σ).bind fun q5 => if q5 = 0 then some ((-1000001), σ) else (fM_in x4 0 1 σ).bind fun q7 => if q7 = 0 then some ((-1000001), σ) else fM_hidden_L47 2000 x1 x2 x3 x4 0 1 0 σ
set_option maxRecDepth 100000 in
set_option maxHeartbeats 4000000 in
theorem eM_hidden {G : Gx} (x1 : Int32) (x2 : Int32) (x3 : Int32) (x4 : Int32) (σ : Sg) (q : (Int32 × Sg)) (h : fM_hidden x1 x2 x3 x4 σ = some q) : Evm G yX12_hidden MX12_hidden [.ref (gb G + 200), .int x1, .int x2, .int x3, .int x4] σ (some (.int q.1)) q.2 := by
  refine Ev.of (by decide +kernel) rfl rfl (Nat.le_of_ble_eq_true rfl) ?_
  show Vm G MX12_hidden (some (.int q.1)) q.2 0 [(0, .ref (gb G + 200)), (1, .int x1), (2, .int x2), (3, .int x3), (4, .int x4)] [] σ
  unfold fM_hidden at h
  refine v_aload_n dX12_hidden_0 0 rfl rfl (v_iload_n dX12_hidden_1 1 rfl rfl ?_)
  obtain ⟨q1, hq1, h⟩ := bind_some h
  refine v_callV (As := [.int x1]) (S := []) dX12_hidden_2 tw880 tw882 tw29 ykX12_isPerson lc_200 shc_200 (by decide) ok_11 rfl (by decide) rfl rfl (Nat.le_of_ble_eq_true rfl) (by decide) (eM_isPerson x1 _ _ hq1) ?_
  refine v_if_eq (tgt := 35) dX12_hidden_5 (by decide) (fun c2 => ?_) (fun c2 => ?_)
  · replace h := ite_t c2 h
    refine v_ldc dX12_hidden_35 tw764 ?_
    replace h := Option.some.inj h
    subst h
    exact v_iret dX12_hidden_37 rfl rfl rfl rfl rfl
  · replace h := ite_f c2 h
    refine v_iload_n dX12_hidden_8 2 rfl rfl ?_
    obtain ⟨q3, hq3, h⟩ := bind_some h
    refine v_callS (As := [.int x2]) (S := []) dX12_hidden_9 tw914 tw915 ykX12_isFar rfl (by decide) rfl rfl (Nat.le_of_ble_eq_true rfl) (by decide) (eM_isFar x2 _ _ hq3) ?_
    refine v_if_eq (tgt := 35) dX12_hidden_12 (by decide) (fun c4 => ?_) (fun c4 => ?_)
    · replace h := ite_t c4 h
      refine v_ldc dX12_hidden_35 tw764 ?_
      replace h := Option.some.inj h
      subst h
      exact v_iret dX12_hidden_37 rfl rfl rfl rfl rfl
    · replace h := ite_f c4 h
      refine v_iload_n dX12_hidden_15 3 rfl rfl (v_iconst dX12_hidden_16 rfl (v_bipush (v := 10) dX12_hidden_17 rfl ?_))
      obtain ⟨q5, hq5, h⟩ := bind_some h
      refine v_callS (As := [.int x3, .int 0, .int 10]) (S := []) dX12_hidden_19 tw761 tw762 ykX12_in rfl (by decide) rfl rfl (Nat.le_of_ble_eq_true rfl) (by decide) (eM_in x3 0 10 _ _ hq5) ?_
      refine v_if_eq (tgt := 35) dX12_hidden_22 (by decide) (fun c6 => ?_) (fun c6 => ?_)
      · replace h := ite_t c6 h
        refine v_ldc dX12_hidden_35 tw764 ?_
        replace h := Option.some.inj h
        subst h
        exact v_iret dX12_hidden_37 rfl rfl rfl rfl rfl
      · replace h := ite_f c6 h
        refine v_iload dX12_hidden_25 4 rfl (v_iconst dX12_hidden_27 rfl (v_iconst dX12_hidden_28 rfl ?_))
        obtain ⟨q7, hq7, h⟩ := bind_some h
        refine v_callS (As := [.int x4, .int 0, .int 1]) (S := []) dX12_hidden_29 tw761 tw762 ykX12_in rfl (by decide) rfl rfl (Nat.le_of_ble_eq_true rfl) (by decide) (eM_in x4 0 1 _ _ hq7) ?_
        refine v_if_ne (tgt := 38) dX12_hidden_32 (by decide) (fun c8 => ?_) (fun c8 => ?_)
        · replace h := ite_f c8 h
          exact v_iconst dX12_hidden_38 rfl (v_istore dX12_hidden_39 [0, 1, 2, 3, 4, 5] rfl (by decide) (v_iconst dX12_hidden_41 rfl (v_istore dX12_hidden_42 [0, 1, 2, 3, 4, 5, 6] rfl (by decide) (v_iconst dX12_hidden_44 rfl (v_istore dX12_hidden_45 [0, 1, 2, 3, 4, 5, 6, 7] rfl (by decide) (v_sub [3, 4, 5, 6, 7, 2, 1, 0] rfl (sM_hidden_L47 2000 x1 x2 x3 x4 0 1 0 _ h)))))))
        · replace h := ite_t c8 h
          refine v_ldc dX12_hidden_35 tw764 ?_
          replace h := Option.some.inj h
          subst h
          exact v_iret dX12_hidden_37 rfl rfl rfl rfl rfl
