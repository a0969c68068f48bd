def fM_drawn_B182 (K51 : Int32 → Int32 → Int64 → Int32 → Sg → Option (Int32 × Sg)) (x1 : Int32) (x3 : Int32) (x4 : Int64) (x6 : Int32) (σ : Sg) : Option (Int32 × Sg) := (fM_passes 208 σ).bind fun q19 => K51 x1 x3 x4 (x6 + 1) q19
set_option maxRecDepth 100000 in
set_option maxHeartbeats 4000000 in
theorem sM_drawn_B182 {G : Gx} {q : (Int32 × Sg)} (K51 : Int32 → Int32 → Int64 → Int32 → Sg → Option (Int32 × Sg)) (hK51 : ∀ (x1 : Int32) (x3 : Int32) (x4 : Int64) (x6 : Int32) (σ : Sg), K51 x1 x3 x4 x6 σ = some q → Vm G MX12_drawn (some (.int q.1)) q.2 51 [(0, .ref (gb G + 200)), (1, .int x1), (3, .int x3), (4, .long x4), (6, .int x6)] [] σ) (x1 : Int32) (x3 : Int32) (x4 : Int64) (x6 : Int32) (σ : Sg) (h : fM_drawn_B182 K51 x1 x3 x4 x6 σ = some q) : Vm G MX12_drawn (some (.int q.1)) q.2 182 [(0, .ref (gb G + 200)), (1, .int x1), (3, .int x3), (4, .long x4), (6, .int x6)] [] σ := by
  unfold fM_drawn_B182 at h
  refine v_aload_n dX12_drawn_182 0 rfl rfl (vm_getR (t := 208) dX12_drawn_183 fsX12_31 lc_200 shc_200 (by decide) rf_200_15 ?_)
  obtain ⟨q19, hq19, h⟩ := bind_some h
  refine v_callS (As := [.ref (gb G + 208)]) (S := []) dX12_drawn_186 tw858 tw859 ykX12_passes rfl (by decide) rfl rfl (Nat.le_of_ble_eq_true rfl) (by decide) (eM_passes 208 sha_208 lc_208 _ _ hq19) ?_
  exact v_iinc (v := x6 + 1) dX12_drawn_189 4 rfl rfl [0, 1, 2, 3, 4] rfl (by decide) (v_goto (tgt := 51) dX12_drawn_192 (by decide) (v_sub [1, 2, 3, 4, 0] rfl (hK51 x1 x3 x4 (x6 + 1) _ h)))
def fM_drawn_B136 (K51 : Int32 → Int32 → Int64 → Int32 → Sg → Option (Int32 × Sg)) (x1 : Int32) (x3 : Int32) (x4 : Int64) (x6 : Int32) (x7 : Int32) (s0 : Int32) (s1 : Int32) (σ : Sg) : Option (Int32 × Sg) := (fM_rides 208 x7 σ).bind fun q20 => if q20 = 0 then ((fM_in (s1 + s0) 0 (σ 206 0) σ).bind fun q22 => if q22 = 0 then fM_drawn_B182 K51 x1 x3 x4 x6 σ else if inb ((5 + (6 * x7)) + 1) 41 = true then ltc (wr σ 208 (ix ((5 + (6 * x7)) + 1)) (s1 + s0)) fun σ25 => fM_drawn_B182 K51 x1 x3 x4 x6 σ25 else none) else fM_drawn_B182 K51 x1 x3 x4 x6 σ
set_option maxRecDepth 100000 in
set_option maxHeartbeats 4000000 in
theorem sM_drawn_B136 {G : Gx} {q : (Int32 × Sg)} (K51 : Int32 → Int32 → Int64 → Int32 → Sg → Option (Int32 × Sg)) (hK51 : ∀ (x1 : Int32) (x3 : Int32) (x4 : Int64) (x6 : Int32) (σ : Sg), K51 x1 x3 x4 x6 σ = some q → Vm G MX12_drawn (some (.int q.1)) q.2 51 [(0, .ref (gb G + 200)), (1, .int x1), (3, .int x3), (4, .long x4), (6, .int x6)] [] σ) (x1 : Int32) (x3 : Int32) (x4 : Int64) (x6 : Int32) (x7 : Int32) (s0 : Int32) (s1 : Int32) (σ : Sg) (h : fM_drawn_B136 K51 x1 x3 x4 x6 x7 s0 s1 σ = some q) : Vm G MX12_drawn (some (.int q.1)) q.2 136 [(0, .ref (gb G + 200)), (1, .int x1), (3, .int x3), (4, .long x4), (6, .int x6), (7, .int x7)] [.int s0, .int s1] σ := by
  unfold fM_drawn_B136 at h
  refine v_iadd dX12_drawn_136 (v_istore dX12_drawn_137 [0, 1, 2, 3, 4, 5, 6] rfl (by decide) (v_aload_n dX12_drawn_139 1 rfl rfl (vm_getR (t := 208) dX12_drawn_140 fsX12_31 lc_200 shc_200 (by decide) rf_200_15 (v_iload dX12_drawn_143 6 rfl ?_))))
  obtain ⟨q20, hq20, h⟩ := bind_some h
  refine v_callS (As := [.ref (gb G + 208), .int x7]) (S := []) dX12_drawn_145 tw870 tw871 ykX12_rides rfl (by decide) rfl rfl (Nat.le_of_ble_eq_true rfl) (by decide) (eM_rides 208 sha_208 lc_208 x7 _ _ hq20) ?_
  refine v_if_ne (tgt := 182) dX12_drawn_148 (by decide) (fun c21 => ?_) (fun c21 => ?_)
  · replace h := ite_f c21 h
    exact v_sub [1, 2, 3, 4, 5] rfl (sM_drawn_B182 K51 hK51 x1 x3 x4 x6 _ h)
  · replace h := ite_t c21 h
    refine v_iload dX12_drawn_151 0 rfl (v_iconst dX12_drawn_153 rfl (v_aload_n dX12_drawn_154 1 rfl rfl (vm_getR (t := 206) dX12_drawn_155 fsX12_25 lc_200 shc_200 (by decide) rf_200_13 (v_iconst dX12_drawn_158 rfl (vn_iald dX12_drawn_159 lc_206 sha_206 ib_0_41 ixc_0 ?_)))))
    obtain ⟨q22, hq22, h⟩ := bind_some h
    refine v_callS (As := [.int (s1 + s0), .int 0, .int (σ 206 0)]) (S := []) dX12_drawn_160 tw761 tw762 ykX12_in rfl (by decide) rfl rfl (Nat.le_of_ble_eq_true rfl) (by decide) (eM_in (s1 + s0) 0 (σ 206 0) _ _ hq22) ?_
    refine v_if_eq (tgt := 182) dX12_drawn_163 (by decide) (fun c23 => ?_) (fun c23 => ?_)
    · replace h := ite_t c23 h
      exact v_sub [1, 2, 3, 4, 5] rfl (sM_drawn_B182 K51 hK51 x1 x3 x4 x6 _ h)
    · replace h := ite_f c23 h
      refine v_aload_n dX12_drawn_166 1 rfl rfl (vm_getR (t := 208) dX12_drawn_167 fsX12_31 lc_200 shc_200 (by decide) rf_200_15 (v_iconst dX12_drawn_170 rfl (v_bipush (v := 6) dX12_drawn_171 rfl (v_iload dX12_drawn_173 6 rfl (v_imul dX12_drawn_175 (v_iadd dX12_drawn_176 (v_iconst dX12_drawn_177 rfl (v_iadd dX12_drawn_178 (v_iload dX12_drawn_179 0 rfl ?_)))))))))
      obtain ⟨g24, h⟩ := guard_some h
      obtain ⟨σ25, eσ25, h⟩ := ltc_some h
      exact vn_iast dX12_drawn_181 lc_208 sha_208 g24 rfl eσ25 (v_sub [1, 2, 3, 4, 5] rfl (sM_drawn_B182 K51 hK51 x1 x3 x4 x6 _ h))
def fM_drawn_b51 (K51 : Int32 → Int32 → Int64 → Int32 → Sg → Option (Int32 × Sg)) (x1 : Int32) (x3 : Int32) (x4 : Int64) (x6 : Int32) (σ : Sg) : Option (Int32 × Sg) := if x1 ≤ x6 then (if x3 = 0 then ((fM_broughtIn 208 σ).bind fun q12 => (fM_ones q12 σ).bind fun q13 => some (q13, σ)) else some (σ 208 1, σ)) else if (σ 206 4) ≤ 0 then fM_drawn_B182 K51 x1 x3 ((x4 * 16807) - (x4 * 16807) / 2147483647 * 2147483647) x6 σ else if nzl ((σ 206 4).toInt64) = true then if inb ((5 + (6 * ((((x4 * 16807) - (x4 * 16807) / 2147483647 * 2147483647) - ((x4 * 16807) - (x4 * 16807) / 2147483647 * 2147483647) / ((σ 206 4).toInt64) * ((σ 206 4).toInt64)).toInt32))) + 1) 41 = true then if (lg_cmp (((x4 * 16807) - (x4 * 16807) / 2147483647 * 2147483647) - ((x4 * 16807) - (x4 * 16807) / 2147483647 * 2147483647) / 3 * 3) 0) = 0 then fM_drawn_B136 K51 x1 x3 ((x4 * 16807) - (x4 * 16807) / 2147483647 * 2147483647) x6 ((((x4 * 16807) - (x4 * 16807) / 2147483647 * 2147483647) - ((x4 * 16807) - (x4 * 16807) / 2147483647 * 2147483647) / ((σ 206 4).toInt64) * ((σ 206 4).toInt64)).toInt32) 1 (σ 208 (ix ((5 + (6 * ((((x4 * 16807) - (x4 * 16807) / 2147483647 * 2147483647) - ((x4 * 16807) - (x4 * 16807) / 2147483647 * 2147483647) / ((σ 206 4).toInt64) * ((σ 206 4).toInt64)).toInt32))) + 1))) σ else if (lg_cmp (((x4 * 16807) - (x4 * 16807) / 2147483647 * 2147483647) - ((x4 * 16807) - (x4 * 16807) / 2147483647 * 2147483647) / 3 * 3) 1) = 0 then fM_drawn_B136 K51 x1 x3 ((x4 * 16807) - (x4 * 16807) / 2147483647 * 2147483647) x6 ((((x4 * 16807) - (x4 * 16807) / 2147483647 * 2147483647) - ((x4 * 16807) - (x4 * 16807) / 2147483647 * 2147483647) / ((σ 206 4).toInt64) * ((σ 206 4).toInt64)).toInt32) (-1) (σ 208 (ix ((5 + (6 * ((((x4 * 16807) - (x4 * 16807) / 2147483647 * 2147483647) - ((x4 * 16807) - (x4 * 16807) / 2147483647 * 2147483647) / ((σ 206 4).toInt64) * ((σ 206 4).toInt64)).toInt32))) + 1))) σ else fM_drawn_B136 K51 x1 x3 ((x4 * 16807) - (x4 * 16807) / 2147483647 * 2147483647) x6 ((((x4 * 16807) - (x4 * 16807) / 2147483647 * 2147483647) - ((x4 * 16807) - (x4 * 16807) / 2147483647 * 2147483647) / ((σ 206 4).toInt64) * ((σ 206 4).toInt64)).toInt32) 0 (σ 208 (ix ((5 + (6 * ((((x4 * 16807) - (x4 * 16807) / 2147483647 * 2147483647) - ((x4 * 16807) - (x4 * 16807) / 2147483647 * 2147483647) / ((σ 206 4).toInt64) * ((σ 206 4).toInt64)).toInt32))) + 1))) σ else none else none
def fM_drawn_L51 (n : Nat) : Int32 → Int32 → Int64 → Int32 → Sg → Option (Int32 × Sg) := Nat.rec (fun _ _ _ _ _ => none) (fun _ K => fM_drawn_b51 K) n
set_option maxRecDepth 100000 in
set_option maxHeartbeats 4000000 in
theorem sM_drawn_b51 {G : Gx} {q : (Int32 × Sg)} (K51 : Int32 → Int32 → Int64 → Int32 → Sg → Option (Int32 × Sg)) (hK51 : ∀ (x1 : Int32) (x3 : Int32) (x4 : Int64) (x6 : Int32) (σ : Sg), K51 x1 x3 x4 x6 σ = some q → Vm G MX12_drawn (some (.int q.1)) q.2 51 [(0, .ref (gb G + 200)), (1, .int x1), (3, .int x3), (4, .long x4), (6, .int x6)] [] σ) (x1 : Int32) (x3 : Int32) (x4 : Int64) (x6 : Int32) (σ : Sg) (h : fM_drawn_b51 K51 x1 x3 x4 x6 σ = some q) : Vm G MX12_drawn (some (.int q.1)) q.2 51 [(0, .ref (gb G + 200)), (1, .int x1), (3, .int x3), (4, .long x4), (6, .int x6)] [] σ := by
  unfold fM_drawn_b51 at h
  refine v_iload dX12_drawn_51 4 rfl (v_iload_n dX12_drawn_53 1 rfl rfl (v_icmp_ge (tgt := 195) dX12_drawn_54 (by decide) (fun c10 => ?_) (fun c10 => ?_)))
  · replace h := ite_t c10 h
    refine v_iload_n dX12_drawn_195 2 rfl rfl (v_if_ne (tgt := 212) dX12_drawn_196 (by decide) (fun c11 => ?_) (fun c11 => ?_))
    · replace h := ite_f c11 h
      refine v_aload_n dX12_drawn_212 0 rfl rfl (vm_getR (t := 208) dX12_drawn_213 fsX12_31 lc_200 shc_200 (by decide) rf_200_15 (v_iconst dX12_drawn_216 rfl (vn_iald dX12_drawn_217 lc_208 sha_208 ib_1_41 ixc_1 ?_)))
      replace h := Option.some.inj h
      subst h
      exact v_iret dX12_drawn_218 rfl rfl rfl rfl rfl
    · replace h := ite_t c11 h
      refine v_aload_n dX12_drawn_199 0 rfl rfl (vm_getR (t := 208) dX12_drawn_200 fsX12_31 lc_200 shc_200 (by decide) rf_200_15 ?_)
      obtain ⟨q12, hq12, h⟩ := bind_some h
      refine v_callS (As := [.ref (gb G + 208)]) (S := []) dX12_drawn_203 tw907 tw908 ykX12_broughtIn rfl (by decide) rfl rfl (Nat.le_of_ble_eq_true rfl) (by decide) (eM_broughtIn 208 sha_208 lc_208 _ _ hq12) ?_
      obtain ⟨q13, hq13, h⟩ := bind_some h
      refine v_callS (As := [.int q12]) (S := []) dX12_drawn_206 tw952 tw953 ykX12_ones rfl (by decide) rfl rfl (Nat.le_of_ble_eq_true rfl) (by decide) (eM_ones q12 _ _ hq13) ?_
      refine v_goto (tgt := 218) dX12_drawn_209 (by decide) ?_
      replace h := Option.some.inj h
      subst h
      exact v_iret dX12_drawn_218 rfl rfl rfl rfl rfl
  · replace h := ite_f c10 h
    refine v_lload dX12_drawn_57 3 rfl (v_ldc2 dX12_drawn_59 tw976 (v_lmul dX12_drawn_62 (v_ldc2 dX12_drawn_63 tw977 (v_lrem dX12_drawn_66 (by decide) (v_lstore dX12_drawn_67 [0, 1, 2, 3, 4] rfl (by decide) (v_aload_n dX12_drawn_69 1 rfl rfl (vm_getR (t := 206) dX12_drawn_70 fsX12_25 lc_200 shc_200 (by decide) rf_200_13 (v_iconst dX12_drawn_73 rfl (vn_iald dX12_drawn_74 lc_206 sha_206 ib_4_41 ixc_4 ?_)))))))))
    refine v_if_le (tgt := 182) dX12_drawn_75 (by decide) (fun c14 => ?_) (fun c14 => ?_)
    · replace h := ite_t c14 h
      exact v_sub [1, 2, 3, 0, 4] rfl (sM_drawn_B182 K51 hK51 x1 x3 ((x4 * 16807) - (x4 * 16807) / 2147483647 * 2147483647) x6 _ h)
    · replace h := ite_f c14 h
      refine v_lload dX12_drawn_78 0 rfl (v_aload_n dX12_drawn_80 1 rfl rfl (vm_getR (t := 206) dX12_drawn_81 fsX12_25 lc_200 shc_200 (by decide) rf_200_13 (v_iconst dX12_drawn_84 rfl (vn_iald dX12_drawn_85 lc_206 sha_206 ib_4_41 ixc_4 (v_i2l dX12_drawn_86 ?_)))))
      obtain ⟨g15, h⟩ := guard_some h
      refine v_lrem dX12_drawn_87 (nzl_ne g15) (v_l2i dX12_drawn_88 (v_istore dX12_drawn_89 [0, 1, 2, 3, 4, 5] rfl (by decide) (v_aload_n dX12_drawn_91 2 rfl rfl (vm_getR (t := 208) dX12_drawn_92 fsX12_31 lc_200 shc_200 (by decide) rf_200_15 (v_iconst dX12_drawn_95 rfl (v_bipush (v := 6) dX12_drawn_96 rfl (v_iload dX12_drawn_98 0 rfl (v_imul dX12_drawn_100 (v_iadd dX12_drawn_101 ?_)))))))))
      refine v_iconst dX12_drawn_102 rfl (v_iadd dX12_drawn_103 ?_)
      obtain ⟨g16, h⟩ := guard_some h
      refine vn_iald dX12_drawn_104 lc_208 sha_208 g16 rfl (v_lload dX12_drawn_105 1 rfl (v_ldc2 dX12_drawn_107 tw978 (v_lrem dX12_drawn_110 (by decide) (v_lconst (v := 0) dX12_drawn_111 rfl (v_lcmp dX12_drawn_112 (v_if_ne (tgt := 120) dX12_drawn_113 (by decide) (fun c17 => ?_) (fun c17 => ?_)))))))
      · replace h := ite_f c17 h
        refine v_lload dX12_drawn_120 1 rfl (v_ldc2 dX12_drawn_122 tw978 (v_lrem dX12_drawn_125 (by decide) (v_lconst (v := 1) dX12_drawn_126 rfl (v_lcmp dX12_drawn_127 (v_if_ne (tgt := 135) dX12_drawn_128 (by decide) (fun c18 => ?_) (fun c18 => ?_))))))
        · replace h := ite_f c18 h
          exact v_iconst dX12_drawn_135 rfl (v_sub [2, 3, 4, 1, 5, 0] rfl (sM_drawn_B136 K51 hK51 x1 x3 ((x4 * 16807) - (x4 * 16807) / 2147483647 * 2147483647) x6 ((((x4 * 16807) - (x4 * 16807) / 2147483647 * 2147483647) - ((x4 * 16807) - (x4 * 16807) / 2147483647 * 2147483647) / ((σ 206 4).toInt64) * ((σ 206 4).toInt64)).toInt32) 0 (σ 208 (ix ((5 + (6 * ((((x4 * 16807) - (x4 * 16807) / 2147483647 * 2147483647) - ((x4 * 16807) - (x4 * 16807) / 2147483647 * 2147483647) / ((σ 206 4).toInt64) * ((σ 206 4).toInt64)).toInt32))) + 1))) _ h))
        · replace h := ite_t c18 h
          exact v_iconst (v := -1) dX12_drawn_131 rfl (v_goto (tgt := 136) dX12_drawn_132 (by decide) (v_sub [2, 3, 4, 1, 5, 0] rfl (sM_drawn_B136 K51 hK51 x1 x3 ((x4 * 16807) - (x4 * 16807) / 2147483647 * 2147483647) x6 ((((x4 * 16807) - (x4 * 16807) / 2147483647 * 2147483647) - ((x4 * 16807) - (x4 * 16807) / 2147483647 * 2147483647) / ((σ 206 4).toInt64) * ((σ 206 4).toInt64)).toInt32) (-1) (σ 208 (ix ((5 + (6 * ((((x4 * 16807) - (x4 * 16807) / 2147483647 * 2147483647) - ((x4 * 16807) - (x4 * 16807) / 2147483647 * 2147483647) / ((σ 206 4).toInt64) * ((σ 206 4).toInt64)).toInt32))) + 1))) _ h)))
      · replace h := ite_t c17 h
        exact v_iconst dX12_drawn_116 rfl (v_goto (tgt := 136) dX12_drawn_117 (by decide) (v_sub [2, 3, 4, 1, 5, 0] rfl (sM_drawn_B136 K51 hK51 x1 x3 ((x4 * 16807) - (x4 * 16807) / 2147483647 * 2147483647) x6 ((((x4 * 16807) - (x4 * 16807) / 2147483647 * 2147483647) - ((x4 * 16807) - (x4 * 16807) / 2147483647 * 2147483647) / ((σ 206 4).toInt64) * ((σ 206 4).toInt64)).toInt32) 1 (σ 208 (ix ((5 + (6 * ((((x4 * 16807) - (x4 * 16807) / 2147483647 * 2147483647) - ((x4 * 16807) - (x4 * 16807) / 2147483647 * 2147483647) / ((σ 206 4).toInt64) * ((σ 206 4).toInt64)).toInt32))) + 1))) _ h)))
theorem sM_drawn_L51 {G : Gx} {q : (Int32 × Sg)} (n : Nat) : ∀ (x1 : Int32) (x3 : Int32) (x4 : Int64) (x6 : Int32) (σ : Sg) (h : fM_drawn_L51 n x1 x3 x4 x6 σ = some q), Vm G MX12_drawn (some (.int q.1)) q.2 51 [(0, .ref (gb G + 200)), (1, .int x1), (3, .int x3), (4, .long x4), (6, .int x6)] [] σ := by
  induction n with
  | zero => intro x1 x3 x4 x6 σ h; cases h
  | succ n ih => intro x1 x3 x4 x6 σ h; exact sM_drawn_b51  _ ih x1 x3 x4 x6 σ h
def fM_drawn (x1 : Int32) (x2 : Int32) (x3 : Int32) (σ : Sg) : Option (Int32 × Sg) := (fM_isHouse σ).bind fun q1 => if q1 = 0 then some ((-1000002), σ) else (fM_isFar x1 σ).bind fun q3 => if q3 = 0 then some ((-1000001), σ) else (fM_in x2 1 999999 σ).bind fun q5 => if q5 = 0 then some ((-1000001), σ) else (fM_in x3 0 1 σ).bind fun q7 => if q7 = 0 then some ((-1000001), σ) else (fM_tries 0 σ).bind fun q9 => fM_drawn_L51 2000 x1 x3 x2.toInt64 0 q9
set_option maxRecDepth 100000 in
set_option maxHeartbeats 4000000 in
theorem eM_drawn {G : Gx} (x1 : Int32) (x2 : Int32) (x3 : Int32) (σ : Sg) (q : (Int32 × Sg)) (h : fM_drawn x1 x2 x3 σ = some q) : Evm G yX12_drawn MX12_drawn [.ref (gb G + 200), .int x1, .int x2, .int x3] σ (some (.int q.1)) q.2 := by
  refine Ev.of (by decide +kernel) rfl rfl (Nat.le_of_ble_eq_true rfl) ?_
  show Vm G MX12_drawn (some (.int q.1)) q.2 0 [(0, .ref (gb G + 200)), (1, .int x1), (2, .int x2), (3, .int x3)] [] σ
  unfold fM_drawn at h
  refine v_aload_n dX12_drawn_0 0 rfl rfl ?_
  obtain ⟨q1, hq1, h⟩ := bind_some h
  refine v_callV (As := []) (S := []) dX12_drawn_1 tw849 tw851 tw27 ykX12_isHouse lc_200 shc_200 (by decide) ok_11 rfl (by decide) rfl rfl (Nat.le_of_ble_eq_true rfl) (by decide) (eM_isHouse _ _ hq1) ?_
  refine v_if_ne (tgt := 10) dX12_drawn_4 (by decide) (fun c2 => ?_) (fun c2 => ?_)
  · replace h := ite_f c2 h
    refine v_iload_n dX12_drawn_10 1 rfl rfl ?_
    obtain ⟨q3, hq3, h⟩ := bind_some h
    refine v_callS (As := [.int x1]) (S := []) dX12_drawn_11 tw914 tw915 ykX12_isFar rfl (by decide) rfl rfl (Nat.le_of_ble_eq_true rfl) (by decide) (eM_isFar x1 _ _ hq3) ?_
    refine v_if_eq (tgt := 36) dX12_drawn_14 (by decide) (fun c4 => ?_) (fun c4 => ?_)
    · replace h := ite_t c4 h
      refine v_ldc dX12_drawn_36 tw764 ?_
      replace h := Option.some.inj h
      subst h
      exact v_iret dX12_drawn_38 rfl rfl rfl rfl rfl
    · replace h := ite_f c4 h
      refine v_iload_n dX12_drawn_17 2 rfl rfl (v_iconst dX12_drawn_18 rfl (v_ldc dX12_drawn_19 tw975 ?_))
      obtain ⟨q5, hq5, h⟩ := bind_some h
      refine v_callS (As := [.int x2, .int 1, .int 999999]) (S := []) dX12_drawn_21 tw761 tw762 ykX12_in rfl (by decide) rfl rfl (Nat.le_of_ble_eq_true rfl) (by decide) (eM_in x2 1 999999 _ _ hq5) ?_
      refine v_if_eq (tgt := 36) dX12_drawn_24 (by decide) (fun c6 => ?_) (fun c6 => ?_)
      · replace h := ite_t c6 h
        refine v_ldc dX12_drawn_36 tw764 ?_
        replace h := Option.some.inj h
        subst h
        exact v_iret dX12_drawn_38 rfl rfl rfl rfl rfl
      · replace h := ite_f c6 h
        refine v_iload_n dX12_drawn_27 3 rfl rfl (v_iconst dX12_drawn_28 rfl (v_iconst dX12_drawn_29 rfl ?_))
        obtain ⟨q7, hq7, h⟩ := bind_some h
        refine v_callS (As := [.int x3, .int 0, .int 1]) (S := []) dX12_drawn_30 tw761 tw762 ykX12_in rfl (by decide) rfl rfl (Nat.le_of_ble_eq_true rfl) (by decide) (eM_in x3 0 1 _ _ hq7) ?_
        refine v_if_ne (tgt := 39) dX12_drawn_33 (by decide) (fun c8 => ?_) (fun c8 => ?_)
        · replace h := ite_f c8 h
          refine v_aload_n dX12_drawn_39 0 rfl rfl (v_iconst dX12_drawn_40 rfl ?_)
          obtain ⟨q9, hq9, h⟩ := bind_some h
          refine v_callV (As := [.int 0]) (S := []) dX12_drawn_41 tw917 tw919 tw30 ykX12_tries lc_200 shc_200 (by decide) ok_11 rfl (by decide) rfl rfl (Nat.le_of_ble_eq_true rfl) (by decide) (eM_tries 0 _ _ hq9) ?_
          exact v_iload_n dX12_drawn_44 2 rfl rfl (v_i2l dX12_drawn_45 (v_lstore dX12_drawn_46 [0, 1, 2, 4] rfl (by decide) (v_iconst dX12_drawn_48 rfl (v_istore dX12_drawn_49 [0, 1, 2, 3, 4] rfl (by decide) (v_sub [2, 3, 4, 1, 0] rfl (sM_drawn_L51 2000 x1 x3 x2.toInt64 0 _ h))))))
        · replace h := ite_t c8 h
          refine v_ldc dX12_drawn_36 tw764 ?_
          replace h := Option.some.inj h
          subst h
          exact v_iret dX12_drawn_38 rfl rfl rfl rfl rfl
  · replace h := ite_t c2 h
    refine v_ldc dX12_drawn_7 tw853 ?_
    replace h := Option.some.inj h
    subst h
    exact v_iret dX12_drawn_9 rfl rfl rfl rfl rfl
def fM_image (x1 : Int32) (σ : Sg) : Option (Int32 × Sg) := (fM_in x1 0 1 σ).bind fun q1 => if q1 = 0 then some ((-1000001), σ) else (fM_isHouse σ).bind fun q3 => if q3 = 0 then some ((-1000002), σ) else (fM_copies 206 41 0 210 82 (41 * x1) σ).bind fun q5 => if inb x1 2 = true then ltc (wr q5 211 (ix x1) 1) fun σ7 => some (1, σ7) else none
set_option maxRecDepth 100000 in
set_option maxHeartbeats 4000000 in
theorem eM_image {G : Gx} (x1 : Int32) (σ : Sg) (q : (Int32 × Sg)) (h : fM_image x1 σ = some q) : Evm G yX12_image MX12_image [.ref (gb G + 200), .int x1] σ (some (.int q.1)) q.2 := by
  refine Ev.of (by decide +kernel) rfl rfl (Nat.le_of_ble_eq_true rfl) ?_
  show Vm G MX12_image (some (.int q.1)) q.2 0 [(0, .ref (gb G + 200)), (1, .int x1)] [] σ
  unfold fM_image at h
  refine v_iload_n dX12_image_0 1 rfl rfl (v_iconst dX12_image_1 rfl (v_iconst dX12_image_2 rfl ?_))
  obtain ⟨q1, hq1, h⟩ := bind_some h
  refine v_callS (As := [.int x1, .int 0, .int 1]) (S := []) dX12_image_3 tw761 tw762 ykX12_in rfl (by decide) rfl rfl (Nat.le_of_ble_eq_true rfl) (by decide) (eM_in x1 0 1 _ _ hq1) ?_
  refine v_if_ne (tgt := 12) dX12_image_6 (by decide) (fun c2 => ?_) (fun c2 => ?_)
  · replace h := ite_f c2 h
    refine v_aload_n dX12_image_12 0 rfl rfl ?_
    obtain ⟨q3, hq3, h⟩ := bind_some h
    refine v_callV (As := []) (S := []) dX12_image_13 tw849 tw851 tw27 ykX12_isHouse lc_200 shc_200 (by decide) ok_11 rfl (by decide) rfl rfl (Nat.le_of_ble_eq_true rfl) (by decide) (eM_isHouse _ _ hq3) ?_
    refine v_if_ne (tgt := 22) dX12_image_16 (by decide) (fun c4 => ?_) (fun c4 => ?_)
    · replace h := ite_f c4 h
      refine v_aload_n dX12_image_22 0 rfl rfl (vm_getR (t := 206) dX12_image_23 fsX12_25 lc_200 shc_200 (by decide) rf_200_13 (v_iconst dX12_image_26 rfl (v_aload_n dX12_image_27 0 rfl rfl (vm_getR (t := 210) dX12_image_28 fsX12_37 lc_200 shc_200 (by decide) rf_200_18 (v_bipush (v := 41) dX12_image_31 rfl (v_iload_n dX12_image_33 1 rfl rfl (v_imul dX12_image_34 ?_)))))))
      obtain ⟨q5, hq5, h⟩ := bind_some h
      refine v_callS (As := [.ref (gb G + 206), .int 0, .ref (gb G + 210), .int (41 * x1)]) (S := []) dX12_image_35 tw838 tw839 ykX12_copies rfl (by decide) rfl rfl (Nat.le_of_ble_eq_true rfl) (by decide) (eM_copies 206 41 sha_206 lc_206 0 210 82 sha_210 lc_210 (41 * x1) _ _ hq5) ?_
      refine v_aload_n dX12_image_38 0 rfl rfl (vm_getR (t := 211) dX12_image_39 fsX12_40 lc_200 shc_200 (by decide) rf_200_19 (v_iload_n dX12_image_42 1 rfl rfl (v_iconst dX12_image_43 rfl ?_)))
      obtain ⟨g6, h⟩ := guard_some h
      obtain ⟨σ7, eσ7, h⟩ := ltc_some h
      refine vn_zast dX12_image_44 lc_211 sha_211 g6 rfl (by decide) eσ7 (v_iconst dX12_image_45 rfl ?_)
      replace h := Option.some.inj h
      subst h
      exact v_iret dX12_image_46 rfl rfl rfl rfl rfl
    · replace h := ite_t c4 h
      refine v_ldc dX12_image_19 tw853 ?_
      replace h := Option.some.inj h
      subst h
      exact v_iret dX12_image_21 rfl rfl rfl rfl rfl
  · replace h := ite_t c2 h
    refine v_ldc dX12_image_9 tw764 ?_
    replace h := Option.some.inj h
    subst h
    exact v_iret dX12_image_11 rfl rfl rfl rfl rfl
def fM_restore (x1 : Int32) (σ : Sg) : Option (Int32 × Sg) := (fM_in x1 0 1 σ).bind fun q1 => if q1 = 0 then some ((-1000001), σ) else if inb x1 2 = true then if (σ 211 (ix x1)) = 0 then some ((-1000002), σ) else (fM_copies 210 82 (41 * x1) 206 41 0 σ).bind fun q5 => ltc (wr q5 200 17 0) fun σ6 => some (1, σ6) else none
set_option maxRecDepth 100000 in
set_option maxHeartbeats 4000000 in
theorem eM_restore {G : Gx} (x1 : Int32) (σ : Sg) (q : (Int32 × Sg)) (h : fM_restore x1 σ = some q) : Evm G yX12_restore MX12_restore [.ref (gb G + 200), .int x1] σ (some (.int q.1)) q.2 := by
  refine Ev.of (by decide +kernel) rfl rfl (Nat.le_of_ble_eq_true rfl) ?_
  show Vm G MX12_restore (some (.int q.1)) q.2 0 [(0, .ref (gb G + 200)), (1, .int x1)] [] σ
  unfold fM_restore at h
  refine v_iload_n dX12_restore_0 1 rfl rfl (v_iconst dX12_restore_1 rfl (v_iconst dX12_restore_2 rfl ?_))
  obtain ⟨q1, hq1, h⟩ := bind_some h
  refine v_callS (As := [.int x1, .int 0, .int 1]) (S := []) dX12_restore_3 tw761 tw762 ykX12_in rfl (by decide) rfl rfl (Nat.le_of_ble_eq_true rfl) (by decide) (eM_in x1 0 1 _ _ hq1) ?_
  refine v_if_ne (tgt := 12) dX12_restore_6 (by decide) (fun c2 => ?_) (fun c2 => ?_)
  · replace h := ite_f c2 h
    refine v_aload_n dX12_restore_12 0 rfl rfl (vm_getR (t := 211) dX12_restore_13 fsX12_40 lc_200 shc_200 (by decide) rf_200_19 (v_iload_n dX12_restore_16 1 rfl rfl ?_))
    obtain ⟨g3, h⟩ := guard_some h
    refine vn_zald dX12_restore_17 lc_211 sha_211 g3 rfl (v_if_ne (tgt := 24) dX12_restore_18 (by decide) (fun c4 => ?_) (fun c4 => ?_))
    · replace h := ite_f c4 h
      refine v_aload_n dX12_restore_24 0 rfl rfl (vm_getR (t := 210) dX12_restore_25 fsX12_37 lc_200 shc_200 (by decide) rf_200_18 (v_bipush (v := 41) dX12_restore_28 rfl (v_iload_n dX12_restore_30 1 rfl rfl (v_imul dX12_restore_31 (v_aload_n dX12_restore_32 0 rfl rfl (vm_getR (t := 206) dX12_restore_33 fsX12_25 lc_200 shc_200 (by decide) rf_200_13 (v_iconst dX12_restore_36 rfl ?_)))))))
      obtain ⟨q5, hq5, h⟩ := bind_some h
      refine v_callS (As := [.ref (gb G + 210), .int (41 * x1), .ref (gb G + 206), .int 0]) (S := []) dX12_restore_37 tw838 tw839 ykX12_copies rfl (by decide) rfl rfl (Nat.le_of_ble_eq_true rfl) (by decide) (eM_copies 210 82 sha_210 lc_210 (41 * x1) 206 41 sha_206 lc_206 0 _ _ hq5) ?_
      refine v_aload_n dX12_restore_40 0 rfl rfl (v_iconst dX12_restore_41 rfl ?_)
      obtain ⟨σ6, eσ6, h⟩ := ltc_some h
      refine vn_put dX12_restore_42 fsX12_132 lc_200 shc_200 (by decide) rf_200_17 eσ6 (v_iconst dX12_restore_45 rfl ?_)
      replace h := Option.some.inj h
      subst h
      exact v_iret dX12_restore_46 rfl rfl rfl rfl rfl
    · replace h := ite_t c4 h
      refine v_ldc dX12_restore_21 tw853 ?_
      replace h := Option.some.inj h
      subst h
      exact v_iret dX12_restore_23 rfl rfl rfl rfl rfl
  · replace h := ite_t c2 h
    refine v_ldc dX12_restore_9 tw764 ?_
    replace h := Option.some.inj h
    subst h
    exact v_iret dX12_restore_11 rfl rfl rfl rfl rfl
def fM_kindIn (x1 : Int32) (σ : Sg) : Option Int32 := if inb (5 + (6 * x1)) 41 = true then some (σ 206 (ix (5 + (6 * x1)))) else none
set_option maxRecDepth 100000 in
set_option maxHeartbeats 4000000 in
theorem eM_kindIn {G : Gx} (x1 : Int32) (σ : Sg) (q : Int32) (h : fM_kindIn x1 σ = some q) : Evm G yX12_kindIn MX12_kindIn [.ref (gb G + 200), .int x1] σ (some (.int q)) σ := by
  refine Ev.of (by decide +kernel) rfl rfl (Nat.le_of_ble_eq_true rfl) ?_
  show Vm G MX12_kindIn (some (.int q)) σ 0 [(0, .ref (gb G + 200)), (1, .int x1)] [] σ
  unfold fM_kindIn at h
  refine v_aload_n dX12_kindIn_0 0 rfl rfl (vm_getR (t := 206) dX12_kindIn_1 fsX12_25 lc_200 shc_200 (by decide) rf_200_13 (v_iconst dX12_kindIn_4 rfl (v_bipush (v := 6) dX12_kindIn_5 rfl (v_iload_n dX12_kindIn_7 1 rfl rfl (v_imul dX12_kindIn_8 (v_iadd dX12_kindIn_9 ?_))))))
  obtain ⟨g1, h⟩ := guard_some h
  refine vn_iald dX12_kindIn_10 lc_206 sha_206 g1 rfl ?_
  replace h := Option.some.inj h
  subst h
  exact v_iret dX12_kindIn_11 rfl rfl rfl rfl rfl
def fM_kind (x1 : Int32) (σ : Sg) : Option Int32 := (fM_isPerson x1 σ).bind fun q1 => if q1 = 0 then some (-1000001) else (fM_kindIn x1 σ).bind fun q3 => some q3
set_option maxRecDepth 100000 in
set_option maxHeartbeats 4000000 in
theorem eM_kind {G : Gx} (x1 : Int32) (σ : Sg) (q : Int32) (h : fM_kind x1 σ = some q) : Evm G yX12_kind MX12_kind [.ref (gb G + 200), .int x1] σ (some (.int q)) σ := by
  refine Ev.of (by decide +kernel) rfl rfl (Nat.le_of_ble_eq_true rfl) ?_
  show Vm G MX12_kind (some (.int q)) σ 0 [(0, .ref (gb G + 200)), (1, .int x1)] [] σ
  unfold fM_kind at h
  refine v_aload_n dX12_kind_0 0 rfl rfl (v_iload_n dX12_kind_1 1 rfl rfl ?_)
  obtain ⟨q1, hq1, h⟩ := bind_some h
  refine v_callV (As := [.int x1]) (S := []) dX12_kind_2 tw880 tw882 tw29 ykX12_isPerson lc_200 shc_200 (by decide) ok_11 rfl (by decide) rfl rfl (Nat.le_of_ble_eq_true rfl) (by decide) (eM_isPerson x1 _ _ hq1) ?_
  refine v_if_eq (tgt := 16) dX12_kind_5 (by decide) (fun c2 => ?_) (fun c2 => ?_)
  · replace h := ite_t c2 h
    refine v_ldc dX12_kind_16 tw764 ?_
    replace h := Option.some.inj h
    subst h
    exact v_iret dX12_kind_18 rfl rfl rfl rfl rfl
  · replace h := ite_f c2 h
    refine v_aload_n dX12_kind_8 0 rfl rfl (v_iload_n dX12_kind_9 1 rfl rfl ?_)
    obtain ⟨q3, hq3, h⟩ := bind_some h
    refine v_callV (As := [.int x1]) (S := []) dX12_kind_10 tw991 tw993 tw34 ykX12_kindIn lc_200 shc_200 (by decide) ok_11 rfl (by decide) rfl rfl (Nat.le_of_ble_eq_true rfl) (by decide) (eM_kindIn x1 _ _ hq3) ?_
    refine v_goto (tgt := 18) dX12_kind_13 (by decide) ?_
    replace h := Option.some.inj h
    subst h
    exact v_iret dX12_kind_18 rfl rfl rfl rfl rfl
def fM_as_B60 (x1 : Int32) (s0 : Int32) (σ : Sg) : Option (Int32 × Sg) := if s0 = 0 then ((fM_found 3 σ).bind fun q13 => some (q13.1, q13.2)) else (fM_well x1 σ).bind fun q14 => some (q14.1, q14.2)
set_option maxRecDepth 100000 in
set_option maxHeartbeats 4000000 in
theorem sM_as_B60 {G : Gx} {q : (Int32 × Sg)} (x1 : Int32) (s0 : Int32) (σ : Sg) (h : fM_as_B60 x1 s0 σ = some q) : Vm G MX12_as (some (.int q.1)) q.2 60 [(0, .ref (gb G + 200)), (1, .int x1)] [.int s0] σ := by
  unfold fM_as_B60 at h
  refine v_istore dX12_as_60 [0, 1, 2] rfl (by decide) (v_iload dX12_as_62 0 rfl (v_if_eq (tgt := 75) dX12_as_64 (by decide) (fun c12 => ?_) (fun c12 => ?_)))
  · replace h := ite_t c12 h
    refine v_aload_n dX12_as_75 1 rfl rfl (v_iconst dX12_as_76 rfl ?_)
    obtain ⟨q13, hq13, h⟩ := bind_some h
    refine v_callV (As := [.int 3]) (S := []) dX12_as_77 tw765 tw767 tw16 ykX12_found lc_200 shc_200 (by decide) ok_11 rfl (by decide) rfl rfl (Nat.le_of_ble_eq_true rfl) (by decide) (eM_found 3 _ _ hq13) ?_
    replace h := Option.some.inj h
    subst h
    exact v_iret dX12_as_80 rfl rfl rfl rfl rfl
  · replace h := ite_f c12 h
    refine v_aload_n dX12_as_67 1 rfl rfl (v_iload_n dX12_as_68 2 rfl rfl ?_)
    obtain ⟨q14, hq14, h⟩ := bind_some h
    refine v_callV (As := [.int x1]) (S := []) dX12_as_69 tw770 tw772 tw17 ykX12_well lc_200 shc_200 (by decide) ok_11 rfl (by decide) rfl rfl (Nat.le_of_ble_eq_true rfl) (by decide) (eM_well x1 _ _ hq14) ?_
    refine v_goto (tgt := 80) dX12_as_72 (by decide) ?_
    replace h := Option.some.inj h
    subst h
    exact v_iret dX12_as_80 rfl rfl rfl rfl rfl
def fM_as_B55 (x1 : Int32) (σ : Sg) : Option (Int32 × Sg) := fM_as_B60 x1 1 σ
set_option maxRecDepth 100000 in
set_option maxHeartbeats 4000000 in
theorem sM_as_B55 {G : Gx} {q : (Int32 × Sg)} (x1 : Int32) (σ : Sg) (h : fM_as_B55 x1 σ = some q) : Vm G MX12_as (some (.int q.1)) q.2 55 [(0, .ref (gb G + 200)), (1, .int x1)] [] σ := by
  unfold fM_as_B55 at h
  exact v_iconst dX12_as_55 rfl (v_goto (tgt := 60) dX12_as_56 (by decide) (sM_as_B60 x1 1 _ h))
def fM_as_B59 (x1 : Int32) (σ : Sg) : Option (Int32 × Sg) := fM_as_B60 x1 0 σ
set_option maxRecDepth 100000 in
set_option maxHeartbeats 4000000 in
theorem sM_as_B59 {G : Gx} {q : (Int32 × Sg)} (x1 : Int32) (σ : Sg) (h : fM_as_B59 x1 σ = some q) : Vm G MX12_as (some (.int q.1)) q.2 59 [(0, .ref (gb G + 200)), (1, .int x1)] [] σ := by
  unfold fM_as_B59 at h
  exact v_iconst dX12_as_59 rfl (sM_as_B60 x1 0 _ h)
def fM_as_B45 (x1 : Int32) (x2 : Int32) (x3 : Int32) (σ : Sg) : Option (Int32 × Sg) := if x2 = 4 then (if x3 = 5 then fM_as_B55 x1 σ else fM_as_B59 x1 σ) else fM_as_B59 x1 σ
set_option maxRecDepth 100000 in
set_option maxHeartbeats 4000000 in
theorem sM_as_B45 {G : Gx} {q : (Int32 × Sg)} (x1 : Int32) (x2 : Int32) (x3 : Int32) (σ : Sg) (h : fM_as_B45 x1 x2 x3 σ = some q) : Vm G MX12_as (some (.int q.1)) q.2 45 [(0, .ref (gb G + 200)), (1, .int x1), (2, .int x2), (3, .int x3)] [] σ := by
  unfold fM_as_B45 at h
  refine v_iload_n dX12_as_45 2 rfl rfl (v_iconst dX12_as_46 rfl (v_icmp_ne (tgt := 59) dX12_as_47 (by decide) (fun c10 => ?_) (fun c10 => ?_)))
  · replace h := ite_f c10 h
    exact v_sub [0, 1] rfl (sM_as_B59 x1 _ h)
  · replace h := ite_t c10 h
    refine v_iload_n dX12_as_50 3 rfl rfl (v_iconst dX12_as_51 rfl (v_icmp_ne (tgt := 59) dX12_as_52 (by decide) (fun c11 => ?_) (fun c11 => ?_)))
    · replace h := ite_f c11 h
      exact v_sub [0, 1] rfl (sM_as_B59 x1 _ h)
    · replace h := ite_t c11 h
      exact v_sub [0, 1] rfl (sM_as_B55 x1 _ h)
def fM_as (x1 : Int32) (x2 : Int32) (σ : Sg) : Option (Int32 × Sg) := (fM_isPerson x1 σ).bind fun q1 => if q1 = 0 then some ((-1000001), σ) else (fM_in x2 0 5 σ).bind fun q3 => if q3 = 0 then some ((-1000001), σ) else (fM_kindIn x1 σ).bind fun q5 => if x2 = 0 then fM_as_B55 x1 σ else if x2 = q5 then fM_as_B55 x1 σ else if x2 = 1 then (if q5 < 4 then fM_as_B55 x1 σ else fM_as_B45 x1 x2 q5 σ) else fM_as_B45 x1 x2 q5 σ
set_option maxRecDepth 100000 in
set_option maxHeartbeats 4000000 in
theorem eM_as {G : Gx} (x1 : Int32) (x2 : Int32) (σ : Sg) (q : (Int32 × Sg)) (h : fM_as x1 x2 σ = some q) : Evm G yX12_as MX12_as [.ref (gb G + 200), .int x1, .int x2] σ (some (.int q.1)) q.2 := by
  refine Ev.of (by decide +kernel) rfl rfl (Nat.le_of_ble_eq_true rfl) ?_
  show Vm G MX12_as (some (.int q.1)) q.2 0 [(0, .ref (gb G + 200)), (1, .int x1), (2, .int x2)] [] σ
  unfold fM_as at h
  refine v_aload_n dX12_as_0 0 rfl rfl (v_iload_n dX12_as_1 1 rfl rfl ?_)
  obtain ⟨q1, hq1, h⟩ := bind_some h
  refine v_callV (As := [.int x1]) (S := []) dX12_as_2 tw880 tw882 tw29 ykX12_isPerson lc_200 shc_200 (by decide) ok_11 rfl (by decide) rfl rfl (Nat.le_of_ble_eq_true rfl) (by decide) (eM_isPerson x1 _ _ hq1) ?_
  refine v_if_eq (tgt := 17) dX12_as_5 (by decide) (fun c2 => ?_) (fun c2 => ?_)
  · replace h := ite_t c2 h
    refine v_ldc dX12_as_17 tw764 ?_
    replace h := Option.some.inj h
    subst h
    exact v_iret dX12_as_19 rfl rfl rfl rfl rfl
  · replace h := ite_f c2 h
    refine v_iload_n dX12_as_8 2 rfl rfl (v_iconst dX12_as_9 rfl (v_iconst dX12_as_10 rfl ?_))
    obtain ⟨q3, hq3, h⟩ := bind_some h
    refine v_callS (As := [.int x2, .int 0, .int 5]) (S := []) dX12_as_11 tw761 tw762 ykX12_in rfl (by decide) rfl rfl (Nat.le_of_ble_eq_true rfl) (by decide) (eM_in x2 0 5 _ _ hq3) ?_
    refine v_if_ne (tgt := 20) dX12_as_14 (by decide) (fun c4 => ?_) (fun c4 => ?_)
    · replace h := ite_f c4 h
      refine v_aload_n dX12_as_20 0 rfl rfl (v_iload_n dX12_as_21 1 rfl rfl ?_)
      obtain ⟨q5, hq5, h⟩ := bind_some h
      refine v_callV (As := [.int x1]) (S := []) dX12_as_22 tw991 tw993 tw34 ykX12_kindIn lc_200 shc_200 (by decide) ok_11 rfl (by decide) rfl rfl (Nat.le_of_ble_eq_true rfl) (by decide) (eM_kindIn x1 _ _ hq5) ?_
      refine v_istore_n dX12_as_25 [0, 1, 2, 3] rfl (by decide) rfl (v_iload_n dX12_as_26 3 rfl rfl (v_if_eq (tgt := 55) dX12_as_27 (by decide) (fun c6 => ?_) (fun c6 => ?_)))
      · replace h := ite_t c6 h
        exact v_sub [1, 2] rfl (sM_as_B55 x1 _ h)
      · replace h := ite_f c6 h
        refine v_iload_n dX12_as_30 3 rfl rfl (v_iload_n dX12_as_31 0 rfl rfl (v_icmp_eq (tgt := 55) dX12_as_32 (by decide) (fun c7 => ?_) (fun c7 => ?_)))
        · replace h := ite_t c7 h
          exact v_sub [1, 2] rfl (sM_as_B55 x1 _ h)
        · replace h := ite_f c7 h
          refine v_iload_n dX12_as_35 3 rfl rfl (v_iconst dX12_as_36 rfl (v_icmp_ne (tgt := 45) dX12_as_37 (by decide) (fun c8 => ?_) (fun c8 => ?_)))
          · replace h := ite_f c8 h
            exact v_sub [1, 2, 3, 0] rfl (sM_as_B45 x1 x2 q5 _ h)
          · replace h := ite_t c8 h
            refine v_iload_n dX12_as_40 0 rfl rfl (v_iconst dX12_as_41 rfl (v_icmp_lt (tgt := 55) dX12_as_42 (by decide) (fun c9 => ?_) (fun c9 => ?_)))
            · replace h := ite_t c9 h
              exact v_sub [1, 2] rfl (sM_as_B55 x1 _ h)
            · replace h := ite_f c9 h
              exact v_sub [1, 2, 3, 0] rfl (sM_as_B45 x1 x2 q5 _ h)
    · replace h := ite_t c4 h
      refine v_ldc dX12_as_17 tw764 ?_
      replace h := Option.some.inj h
      subst h
      exact v_iret dX12_as_19 rfl rfl rfl rfl rfl
def fM_begins (x1 : Int32) (σ : Sg) : Option Sg := if (16 : Int32) ≤ (σ 200 21) then some σ else if inb (σ 200 21) 16 = true then ltc (wr σ 212 (ix (σ 200 21)) x1) fun σ3 => ltc (wr σ3 200 21 ((σ3 200 21) + 1)) fun σ4 => some σ4 else none
set_option maxRecDepth 100000 in
set_option maxHeartbeats 4000000 in
theorem eM_begins {G : Gx} (x1 : Int32) (σ : Sg) (q : Sg) (h : fM_begins x1 σ = some q) : Evm G yX12_begins MX12_begins [.ref (gb G + 200), .int x1] σ none q := by
  refine Ev.of (by decide +kernel) rfl rfl (Nat.le_of_ble_eq_true rfl) ?_
  show Vm G MX12_begins none q 0 [(0, .ref (gb G + 200)), (1, .int x1)] [] σ
  unfold fM_begins at h
  refine v_aload_n dX12_begins_0 0 rfl rfl (vm_getI dX12_begins_1 fsX12_207 lc_200 shc_200 (by decide) rf_200_21 (v_bipush (v := 16) dX12_begins_4 rfl (v_icmp_ge (tgt := 29) dX12_begins_6 (by decide) (fun c1 => ?_) (fun c1 => ?_))))
  · replace h := ite_t c1 h
    replace h := Option.some.inj h
    subst h
    exact v_vret dX12_begins_29 rfl rfl rfl rfl rfl
  · replace h := ite_f c1 h
    refine v_aload_n dX12_begins_9 0 rfl rfl (vm_getR (t := 212) dX12_begins_10 fsX12_44 lc_200 shc_200 (by decide) rf_200_20 (v_aload_n dX12_begins_13 0 rfl rfl (vm_getI dX12_begins_14 fsX12_207 lc_200 shc_200 (by decide) rf_200_21 (v_iload_n dX12_begins_17 1 rfl rfl ?_))))
    obtain ⟨g2, h⟩ := guard_some h
    obtain ⟨σ3, eσ3, h⟩ := ltc_some h
    refine vn_iast dX12_begins_18 lc_212 sha_212 g2 rfl eσ3 (v_aload_n dX12_begins_19 0 rfl rfl (v_dup dX12_begins_20 rfl (vm_getI dX12_begins_21 fsX12_207 lc_200 shc_200 (by decide) rf_200_21 (v_iconst dX12_begins_24 rfl (v_iadd dX12_begins_25 ?_)))))
    obtain ⟨σ4, eσ4, h⟩ := ltc_some h
    refine vn_put dX12_begins_26 fsX12_207 lc_200 shc_200 (by decide) rf_200_21 eσ4 ?_
    replace h := Option.some.inj h
    subst h
    exact v_vret dX12_begins_29 rfl rfl rfl rfl rfl
def fM_clerkMark_B27 (x1 : Int32) (x2 : Int32) (σ : Sg) : Option (Int32 × Sg) := (fM_begins 21 σ).bind fun q4 => (fM_begins 20 q4).bind fun q5 => (fM_envyOf 206 x1 q5).bind fun q6 => if x2 = 2 then some (2 * (x1 + q6), q5) else if x2 = 3 then some ((x1 + q6) - 1000, q5) else some (x1 + q6, q5)
set_option maxRecDepth 100000 in
set_option maxHeartbeats 4000000 in
theorem sM_clerkMark_B27 {G : Gx} {q : (Int32 × Sg)} (x1 : Int32) (x2 : Int32) (σ : Sg) (h : fM_clerkMark_B27 x1 x2 σ = some q) : Vm G MX12_clerkMark (some (.int q.1)) q.2 27 [(0, .ref (gb G + 200)), (1, .int x1), (2, .int x2)] [] σ := by
  unfold fM_clerkMark_B27 at h
  refine v_aload_n dX12_clerkMark_27 0 rfl rfl (v_bipush (v := 21) dX12_clerkMark_28 rfl ?_)
  obtain ⟨q4, hq4, h⟩ := bind_some h
  refine v_callV (As := [.int 21]) (S := []) dX12_clerkMark_30 tw1007 tw1009 tw36 ykX12_begins lc_200 shc_200 (by decide) ok_11 rfl (by decide) rfl rfl (Nat.le_of_ble_eq_true rfl) (by decide) (eM_begins 21 _ _ hq4) ?_
  refine v_aload_n dX12_clerkMark_33 0 rfl rfl (v_bipush (v := 20) dX12_clerkMark_34 rfl ?_)
  obtain ⟨q5, hq5, h⟩ := bind_some h
  refine v_callV (As := [.int 20]) (S := []) dX12_clerkMark_36 tw1007 tw1009 tw36 ykX12_begins lc_200 shc_200 (by decide) ok_11 rfl (by decide) rfl rfl (Nat.le_of_ble_eq_true rfl) (by decide) (eM_begins 20 _ _ hq5) ?_
  refine v_iload_n dX12_clerkMark_39 1 rfl rfl (v_aload_n dX12_clerkMark_40 0 rfl rfl (vm_getR (t := 206) dX12_clerkMark_41 fsX12_25 lc_200 shc_200 (by decide) rf_200_13 (v_iload_n dX12_clerkMark_44 1 rfl rfl ?_)))
  obtain ⟨q6, hq6, h⟩ := bind_some h
  refine v_callS (As := [.ref (gb G + 206), .int x1]) (S := [.int x1]) dX12_clerkMark_45 tw867 tw868 ykX12_envyOf rfl (by decide) rfl rfl (Nat.le_of_ble_eq_true rfl) (by decide) (eM_envyOf 206 sha_206 lc_206 x1 _ _ hq6) ?_
  refine v_iadd dX12_clerkMark_48 (v_istore_n dX12_clerkMark_49 [0, 3] rfl (by decide) rfl (v_iload_n dX12_clerkMark_50 1 rfl rfl (v_iconst dX12_clerkMark_51 rfl (v_icmp_ne (tgt := 61) dX12_clerkMark_52 (by decide) (fun c7 => ?_) (fun c7 => ?_)))))
  · replace h := ite_f c7 h
    refine v_iload_n dX12_clerkMark_61 1 rfl rfl (v_iconst dX12_clerkMark_62 rfl (v_icmp_ne (tgt := 74) dX12_clerkMark_63 (by decide) (fun c8 => ?_) (fun c8 => ?_)))
    · replace h := ite_f c8 h
      refine v_iload_n dX12_clerkMark_74 0 rfl rfl ?_
      replace h := Option.some.inj h
      subst h
      exact v_iret dX12_clerkMark_75 rfl rfl rfl rfl rfl
    · replace h := ite_t c8 h
      refine v_iload_n dX12_clerkMark_66 0 rfl rfl (v_sipush (v := 1000) dX12_clerkMark_67 rfl (v_isub dX12_clerkMark_70 (v_goto (tgt := 75) dX12_clerkMark_71 (by decide) ?_)))
      replace h := Option.some.inj h
      subst h
      exact v_iret dX12_clerkMark_75 rfl rfl rfl rfl rfl
  · replace h := ite_t c7 h
    refine v_iconst dX12_clerkMark_55 rfl (v_iload_n dX12_clerkMark_56 0 rfl rfl (v_imul dX12_clerkMark_57 (v_goto (tgt := 75) dX12_clerkMark_58 (by decide) ?_)))
    replace h := Option.some.inj h
    subst h
    exact v_iret dX12_clerkMark_75 rfl rfl rfl rfl rfl
def fM_clerkMark_B24 (x1 : Int32) (x2 : Int32) (s0 : Int32) (σ : Sg) : Option (Int32 × Sg) := (fM_begins s0 σ).bind fun q9 => fM_clerkMark_B27 x1 x2 q9
set_option maxRecDepth 100000 in
set_option maxHeartbeats 4000000 in
theorem sM_clerkMark_B24 {G : Gx} {q : (Int32 × Sg)} (x1 : Int32) (x2 : Int32) (s0 : Int32) (σ : Sg) (h : fM_clerkMark_B24 x1 x2 s0 σ = some q) : Vm G MX12_clerkMark (some (.int q.1)) q.2 24 [(0, .ref (gb G + 200)), (1, .int x1), (2, .int x2)] [.int s0, .ref (gb G + 200)] σ := by
  unfold fM_clerkMark_B24 at h
  obtain ⟨q9, hq9, h⟩ := bind_some h
  refine v_callV (As := [.int s0]) (S := []) dX12_clerkMark_24 tw1007 tw1009 tw36 ykX12_begins lc_200 shc_200 (by decide) ok_11 rfl (by decide) rfl rfl (Nat.le_of_ble_eq_true rfl) (by decide) (eM_begins s0 _ _ hq9) ?_
  exact sM_clerkMark_B27 x1 x2 _ h
def fM_clerkMark (x1 : Int32) (σ : Sg) : Option (Int32 × Sg) := (fM_kindIn x1 σ).bind fun q1 => if q1 = 1 then fM_clerkMark_B27 x1 q1 σ else if q1 = 2 then fM_clerkMark_B24 x1 q1 24 σ else fM_clerkMark_B24 x1 q1 22 σ
set_option maxRecDepth 100000 in
set_option maxHeartbeats 4000000 in
theorem eM_clerkMark {G : Gx} (x1 : Int32) (σ : Sg) (q : (Int32 × Sg)) (h : fM_clerkMark x1 σ = some q) : Evm G yX12_clerkMark MX12_clerkMark [.ref (gb G + 200), .int x1] σ (some (.int q.1)) q.2 := by
  refine Ev.of (by decide +kernel) rfl rfl (Nat.le_of_ble_eq_true rfl) ?_
  show Vm G MX12_clerkMark (some (.int q.1)) q.2 0 [(0, .ref (gb G + 200)), (1, .int x1)] [] σ
  unfold fM_clerkMark at h
  refine v_aload_n dX12_clerkMark_0 0 rfl rfl (v_iload_n dX12_clerkMark_1 1 rfl rfl ?_)
  obtain ⟨q1, hq1, h⟩ := bind_some h
  refine v_callV (As := [.int x1]) (S := []) dX12_clerkMark_2 tw991 tw993 tw34 ykX12_kindIn lc_200 shc_200 (by decide) ok_11 rfl (by decide) rfl rfl (Nat.le_of_ble_eq_true rfl) (by decide) (eM_kindIn x1 _ _ hq1) ?_
  refine v_istore_n dX12_clerkMark_5 [0, 1, 2] rfl (by decide) rfl (v_iload_n dX12_clerkMark_6 0 rfl rfl (v_iconst dX12_clerkMark_7 rfl (v_icmp_eq (tgt := 27) dX12_clerkMark_8 (by decide) (fun c2 => ?_) (fun c2 => ?_))))
  · replace h := ite_t c2 h
    exact v_sub [1, 2, 0] rfl (sM_clerkMark_B27 x1 q1 _ h)
  · replace h := ite_f c2 h
    refine v_aload_n dX12_clerkMark_11 1 rfl rfl (v_iload_n dX12_clerkMark_12 0 rfl rfl (v_iconst dX12_clerkMark_13 rfl (v_icmp_ne (tgt := 22) dX12_clerkMark_14 (by decide) (fun c3 => ?_) (fun c3 => ?_))))
    · replace h := ite_f c3 h
      exact v_bipush (v := 22) dX12_clerkMark_22 rfl (v_sub [1, 2, 0] rfl (sM_clerkMark_B24 x1 q1 22 _ h))
    · replace h := ite_t c3 h
      exact v_bipush (v := 24) dX12_clerkMark_17 rfl (v_goto (tgt := 24) dX12_clerkMark_19 (by decide) (v_sub [1, 2, 0] rfl (sM_clerkMark_B24 x1 q1 24 _ h)))
def fM_chiefSize_B25 (x1 : Int32) (x2 : Int32) (σ : Sg) : Option (Int32 × Sg) := (fM_begins 13 σ).bind fun q5 => (fM_begins 10 q5).bind fun q6 => if inb ((5 + (6 * x1)) + 2) 41 = true then if x2 = 0 then some ((q6 206 (ix ((5 + (6 * x1)) + 2))) - 100, q6) else some (2 * ((q6 206 (ix ((5 + (6 * x1)) + 2))) - 100), q6) else none
set_option maxRecDepth 100000 in
set_option maxHeartbeats 4000000 in
theorem sM_chiefSize_B25 {G : Gx} {q : (Int32 × Sg)} (x1 : Int32) (x2 : Int32) (σ : Sg) (h : fM_chiefSize_B25 x1 x2 σ = some q) : Vm G MX12_chiefSize (some (.int q.1)) q.2 25 [(0, .ref (gb G + 200)), (1, .int x1), (2, .int x2)] [] σ := by
  unfold fM_chiefSize_B25 at h
  refine v_aload_n dX12_chiefSize_25 0 rfl rfl (v_bipush (v := 13) dX12_chiefSize_26 rfl ?_)
  obtain ⟨q5, hq5, h⟩ := bind_some h
  refine v_callV (As := [.int 13]) (S := []) dX12_chiefSize_28 tw1007 tw1009 tw36 ykX12_begins lc_200 shc_200 (by decide) ok_11 rfl (by decide) rfl rfl (Nat.le_of_ble_eq_true rfl) (by decide) (eM_begins 13 _ _ hq5) ?_
  refine v_aload_n dX12_chiefSize_31 0 rfl rfl (v_bipush (v := 10) dX12_chiefSize_32 rfl ?_)
  obtain ⟨q6, hq6, h⟩ := bind_some h
  refine v_callV (As := [.int 10]) (S := []) dX12_chiefSize_34 tw1007 tw1009 tw36 ykX12_begins lc_200 shc_200 (by decide) ok_11 rfl (by decide) rfl rfl (Nat.le_of_ble_eq_true rfl) (by decide) (eM_begins 10 _ _ hq6) ?_
  refine v_aload_n dX12_chiefSize_37 0 rfl rfl (vm_getR (t := 206) dX12_chiefSize_38 fsX12_25 lc_200 shc_200 (by decide) rf_200_13 (v_iconst dX12_chiefSize_41 rfl (v_bipush (v := 6) dX12_chiefSize_42 rfl (v_iload_n dX12_chiefSize_44 1 rfl rfl (v_imul dX12_chiefSize_45 (v_iadd dX12_chiefSize_46 (v_iconst dX12_chiefSize_47 rfl (v_iadd dX12_chiefSize_48 ?_))))))))
  obtain ⟨g7, h⟩ := guard_some h
  refine vn_iald dX12_chiefSize_49 lc_206 sha_206 g7 rfl (v_bipush (v := 100) dX12_chiefSize_50 rfl (v_isub dX12_chiefSize_52 (v_istore_n dX12_chiefSize_53 [0, 3] rfl (by decide) rfl (v_iload_n dX12_chiefSize_54 1 rfl rfl (v_if_eq (tgt := 64) dX12_chiefSize_55 (by decide) (fun c8 => ?_) (fun c8 => ?_))))))
  · replace h := ite_t c8 h
    refine v_iload_n dX12_chiefSize_64 0 rfl rfl ?_
    replace h := Option.some.inj h
    subst h
    exact v_iret dX12_chiefSize_65 rfl rfl rfl rfl rfl
  · replace h := ite_f c8 h
    refine v_iconst dX12_chiefSize_58 rfl (v_iload_n dX12_chiefSize_59 0 rfl rfl (v_imul dX12_chiefSize_60 (v_goto (tgt := 65) dX12_chiefSize_61 (by decide) ?_)))
    replace h := Option.some.inj h
    subst h
    exact v_iret dX12_chiefSize_65 rfl rfl rfl rfl rfl
def fM_chiefSize_B14 (x1 : Int32) (s0 : Int32) (σ : Sg) : Option (Int32 × Sg) := if s0 = 0 then fM_chiefSize_B25 x1 s0 σ else (fM_begins 14 σ).bind fun q4 => fM_chiefSize_B25 x1 s0 q4
set_option maxRecDepth 100000 in
set_option maxHeartbeats 4000000 in
theorem sM_chiefSize_B14 {G : Gx} {q : (Int32 × Sg)} (x1 : Int32) (s0 : Int32) (σ : Sg) (h : fM_chiefSize_B14 x1 s0 σ = some q) : Vm G MX12_chiefSize (some (.int q.1)) q.2 14 [(0, .ref (gb G + 200)), (1, .int x1)] [.int s0] σ := by
  unfold fM_chiefSize_B14 at h
  refine v_istore_n dX12_chiefSize_14 [0, 1, 2] rfl (by decide) rfl (v_iload_n dX12_chiefSize_15 0 rfl rfl (v_if_eq (tgt := 25) dX12_chiefSize_16 (by decide) (fun c3 => ?_) (fun c3 => ?_)))
  · replace h := ite_t c3 h
    exact v_sub [1, 2, 0] rfl (sM_chiefSize_B25 x1 s0 _ h)
  · replace h := ite_f c3 h
    refine v_aload_n dX12_chiefSize_19 1 rfl rfl (v_bipush (v := 14) dX12_chiefSize_20 rfl ?_)
    obtain ⟨q4, hq4, h⟩ := bind_some h
    refine v_callV (As := [.int 14]) (S := []) dX12_chiefSize_22 tw1007 tw1009 tw36 ykX12_begins lc_200 shc_200 (by decide) ok_11 rfl (by decide) rfl rfl (Nat.le_of_ble_eq_true rfl) (by decide) (eM_begins 14 _ _ hq4) ?_
    exact v_sub [1, 2, 0] rfl (sM_chiefSize_B25 x1 s0 _ h)
def fM_chiefSize (x1 : Int32) (σ : Sg) : Option (Int32 × Sg) := (fM_kindIn x1 σ).bind fun q1 => if q1 = 5 then fM_chiefSize_B14 x1 1 σ else fM_chiefSize_B14 x1 0 σ
set_option maxRecDepth 100000 in
set_option maxHeartbeats 4000000 in
theorem eM_chiefSize {G : Gx} (x1 : Int32) (σ : Sg) (q : (Int32 × Sg)) (h : fM_chiefSize x1 σ = some q) : Evm G yX12_chiefSize MX12_chiefSize [.ref (gb G + 200), .int x1] σ (some (.int q.1)) q.2 := by
  refine Ev.of (by decide +kernel) rfl rfl (Nat.le_of_ble_eq_true rfl) ?_
  show Vm G MX12_chiefSize (some (.int q.1)) q.2 0 [(0, .ref (gb G + 200)), (1, .int x1)] [] σ
  unfold fM_chiefSize at h
  refine v_aload_n dX12_chiefSize_0 0 rfl rfl (v_iload_n dX12_chiefSize_1 1 rfl rfl ?_)
  obtain ⟨q1, hq1, h⟩ := bind_some h
  refine v_callV (As := [.int x1]) (S := []) dX12_chiefSize_2 tw991 tw993 tw34 ykX12_kindIn lc_200 shc_200 (by decide) ok_11 rfl (by decide) rfl rfl (Nat.le_of_ble_eq_true rfl) (by decide) (eM_kindIn x1 _ _ hq1) ?_
  refine v_iconst dX12_chiefSize_5 rfl (v_icmp_ne (tgt := 13) dX12_chiefSize_6 (by decide) (fun c2 => ?_) (fun c2 => ?_))
  · replace h := ite_f c2 h
    exact v_iconst dX12_chiefSize_13 rfl (sM_chiefSize_B14 x1 0 _ h)
  · replace h := ite_t c2 h
    exact v_iconst dX12_chiefSize_9 rfl (v_goto (tgt := 14) dX12_chiefSize_10 (by decide) (sM_chiefSize_B14 x1 1 _ h))
def fM_clerkSize_B25 (x1 : Int32) (x2 : Int32) (σ : Sg) : Option (Int32 × Sg) := (fM_begins 11 σ).bind fun q5 => (fM_begins 10 q5).bind fun q6 => if inb ((5 + (6 * x1)) + 2) 41 = true then (fM_clerkMark x1 q6).bind fun q8 => if x2 = 0 then some ((q6 206 (ix ((5 + (6 * x1)) + 2))) + q8.1, q8.2) else some (-((q6 206 (ix ((5 + (6 * x1)) + 2))) + q8.1), q8.2) else none
set_option maxRecDepth 100000 in
set_option maxHeartbeats 4000000 in
theorem sM_clerkSize_B25 {G : Gx} {q : (Int32 × Sg)} (x1 : Int32) (x2 : Int32) (σ : Sg) (h : fM_clerkSize_B25 x1 x2 σ = some q) : Vm G MX12_clerkSize (some (.int q.1)) q.2 25 [(0, .ref (gb G + 200)), (1, .int x1), (2, .int x2)] [] σ := by
  unfold fM_clerkSize_B25 at h
  refine v_aload_n dX12_clerkSize_25 0 rfl rfl (v_bipush (v := 11) dX12_clerkSize_26 rfl ?_)
  obtain ⟨q5, hq5, h⟩ := bind_some h
  refine v_callV (As := [.int 11]) (S := []) dX12_clerkSize_28 tw1007 tw1009 tw36 ykX12_begins lc_200 shc_200 (by decide) ok_11 rfl (by decide) rfl rfl (Nat.le_of_ble_eq_true rfl) (by decide) (eM_begins 11 _ _ hq5) ?_
  refine v_aload_n dX12_clerkSize_31 0 rfl rfl (v_bipush (v := 10) dX12_clerkSize_32 rfl ?_)
  obtain ⟨q6, hq6, h⟩ := bind_some h
  refine v_callV (As := [.int 10]) (S := []) dX12_clerkSize_34 tw1007 tw1009 tw36 ykX12_begins lc_200 shc_200 (by decide) ok_11 rfl (by decide) rfl rfl (Nat.le_of_ble_eq_true rfl) (by decide) (eM_begins 10 _ _ hq6) ?_
  refine v_aload_n dX12_clerkSize_37 0 rfl rfl (vm_getR (t := 206) dX12_clerkSize_38 fsX12_25 lc_200 shc_200 (by decide) rf_200_13 (v_iconst dX12_clerkSize_41 rfl (v_bipush (v := 6) dX12_clerkSize_42 rfl (v_iload_n dX12_clerkSize_44 1 rfl rfl (v_imul dX12_clerkSize_45 (v_iadd dX12_clerkSize_46 (v_iconst dX12_clerkSize_47 rfl (v_iadd dX12_clerkSize_48 ?_))))))))
  obtain ⟨g7, h⟩ := guard_some h
  refine vn_iald dX12_clerkSize_49 lc_206 sha_206 g7 rfl (v_aload_n dX12_clerkSize_50 0 rfl rfl (v_iload_n dX12_clerkSize_51 1 rfl rfl ?_))
  obtain ⟨q8, hq8, h⟩ := bind_some h
  refine v_callV (As := [.int x1]) (S := [.int (q6 206 (ix ((5 + (6 * x1)) + 2)))]) dX12_clerkSize_52 tw1015 tw1017 tw38 ykX12_clerkMark lc_200 shc_200 (by decide) ok_11 rfl (by decide) rfl rfl (Nat.le_of_ble_eq_true rfl) (by decide) (eM_clerkMark x1 _ _ hq8) ?_
  refine v_iadd dX12_clerkSize_55 (v_istore_n dX12_clerkSize_56 [0, 3] rfl (by decide) rfl (v_iload_n dX12_clerkSize_57 1 rfl rfl (v_if_eq (tgt := 66) dX12_clerkSize_58 (by decide) (fun c9 => ?_) (fun c9 => ?_))))
  · replace h := ite_t c9 h
    refine v_iload_n dX12_clerkSize_66 0 rfl rfl ?_
    replace h := Option.some.inj h
    subst h
    exact v_iret dX12_clerkSize_67 rfl rfl rfl rfl rfl
  · replace h := ite_f c9 h
    refine v_iload_n dX12_clerkSize_61 0 rfl rfl (v_ineg dX12_clerkSize_62 (v_goto (tgt := 67) dX12_clerkSize_63 (by decide) ?_))
    replace h := Option.some.inj h
    subst h
    exact v_iret dX12_clerkSize_67 rfl rfl rfl rfl rfl
def fM_clerkSize_B14 (x1 : Int32) (s0 : Int32) (σ : Sg) : Option (Int32 × Sg) := if s0 = 0 then fM_clerkSize_B25 x1 s0 σ else (fM_begins 12 σ).bind fun q4 => fM_clerkSize_B25 x1 s0 q4
set_option maxRecDepth 100000 in
set_option maxHeartbeats 4000000 in
theorem sM_clerkSize_B14 {G : Gx} {q : (Int32 × Sg)} (x1 : Int32) (s0 : Int32) (σ : Sg) (h : fM_clerkSize_B14 x1 s0 σ = some q) : Vm G MX12_clerkSize (some (.int q.1)) q.2 14 [(0, .ref (gb G + 200)), (1, .int x1)] [.int s0] σ := by
  unfold fM_clerkSize_B14 at h
  refine v_istore_n dX12_clerkSize_14 [0, 1, 2] rfl (by decide) rfl (v_iload_n dX12_clerkSize_15 0 rfl rfl (v_if_eq (tgt := 25) dX12_clerkSize_16 (by decide) (fun c3 => ?_) (fun c3 => ?_)))
  · replace h := ite_t c3 h
    exact v_sub [1, 2, 0] rfl (sM_clerkSize_B25 x1 s0 _ h)
  · replace h := ite_f c3 h
    refine v_aload_n dX12_clerkSize_19 1 rfl rfl (v_bipush (v := 12) dX12_clerkSize_20 rfl ?_)
    obtain ⟨q4, hq4, h⟩ := bind_some h
    refine v_callV (As := [.int 12]) (S := []) dX12_clerkSize_22 tw1007 tw1009 tw36 ykX12_begins lc_200 shc_200 (by decide) ok_11 rfl (by decide) rfl rfl (Nat.le_of_ble_eq_true rfl) (by decide) (eM_begins 12 _ _ hq4) ?_
    exact v_sub [1, 2, 0] rfl (sM_clerkSize_B25 x1 s0 _ h)
def fM_clerkSize (x1 : Int32) (σ : Sg) : Option (Int32 × Sg) := (fM_kindIn x1 σ).bind fun q1 => if q1 = 2 then fM_clerkSize_B14 x1 1 σ else fM_clerkSize_B14 x1 0 σ
set_option maxRecDepth 100000 in
set_option maxHeartbeats 4000000 in
theorem eM_clerkSize {G : Gx} (x1 : Int32) (σ : Sg) (q : (Int32 × Sg)) (h : fM_clerkSize x1 σ = some q) : Evm G yX12_clerkSize MX12_clerkSize [.ref (gb G + 200), .int x1] σ (some (.int q.1)) q.2 := by
  refine Ev.of (by decide +kernel) rfl rfl (Nat.le_of_ble_eq_true rfl) ?_
  show Vm G MX12_clerkSize (some (.int q.1)) q.2 0 [(0, .ref (gb G + 200)), (1, .int x1)] [] σ
  unfold fM_clerkSize at h
  refine v_aload_n dX12_clerkSize_0 0 rfl rfl (v_iload_n dX12_clerkSize_1 1 rfl rfl ?_)
  obtain ⟨q1, hq1, h⟩ := bind_some h
  refine v_callV (As := [.int x1]) (S := []) dX12_clerkSize_2 tw991 tw993 tw34 ykX12_kindIn lc_200 shc_200 (by decide) ok_11 rfl (by decide) rfl rfl (Nat.le_of_ble_eq_true rfl) (by decide) (eM_kindIn x1 _ _ hq1) ?_
  refine v_iconst dX12_clerkSize_5 rfl (v_icmp_ne (tgt := 13) dX12_clerkSize_6 (by decide) (fun c2 => ?_) (fun c2 => ?_))
  · replace h := ite_f c2 h
    exact v_iconst dX12_clerkSize_13 rfl (sM_clerkSize_B14 x1 0 _ h)
  · replace h := ite_t c2 h
    exact v_iconst dX12_clerkSize_9 rfl (v_goto (tgt := 14) dX12_clerkSize_10 (by decide) (sM_clerkSize_B14 x1 1 _ h))
def fM_chiefMark (x1 : Int32) (σ : Sg) : Option (Int32 × Sg) := (fM_begins 23 σ).bind fun q1 => (fM_begins 20 q1).bind fun q2 => (fM_chiefSize x1 q2).bind fun q3 => some (x1 - q3.1, q3.2)
set_option maxRecDepth 100000 in
set_option maxHeartbeats 4000000 in
theorem eM_chiefMark {G : Gx} (x1 : Int32) (σ : Sg) (q : (Int32 × Sg)) (h : fM_chiefMark x1 σ = some q) : Evm G yX12_chiefMark MX12_chiefMark [.ref (gb G + 200), .int x1] σ (some (.int q.1)) q.2 := by
  refine Ev.of (by decide +kernel) rfl rfl (Nat.le_of_ble_eq_true rfl) ?_
  show Vm G MX12_chiefMark (some (.int q.1)) q.2 0 [(0, .ref (gb G + 200)), (1, .int x1)] [] σ
  unfold fM_chiefMark at h
  refine v_aload_n dX12_chiefMark_0 0 rfl rfl (v_bipush (v := 23) dX12_chiefMark_1 rfl ?_)
  obtain ⟨q1, hq1, h⟩ := bind_some h
  refine v_callV (As := [.int 23]) (S := []) dX12_chiefMark_3 tw1007 tw1009 tw36 ykX12_begins lc_200 shc_200 (by decide) ok_11 rfl (by decide) rfl rfl (Nat.le_of_ble_eq_true rfl) (by decide) (eM_begins 23 _ _ hq1) ?_
  refine v_aload_n dX12_chiefMark_6 0 rfl rfl (v_bipush (v := 20) dX12_chiefMark_7 rfl ?_)
  obtain ⟨q2, hq2, h⟩ := bind_some h
  refine v_callV (As := [.int 20]) (S := []) dX12_chiefMark_9 tw1007 tw1009 tw36 ykX12_begins lc_200 shc_200 (by decide) ok_11 rfl (by decide) rfl rfl (Nat.le_of_ble_eq_true rfl) (by decide) (eM_begins 20 _ _ hq2) ?_
  refine v_iload_n dX12_chiefMark_12 1 rfl rfl (v_aload_n dX12_chiefMark_13 0 rfl rfl (v_iload_n dX12_chiefMark_14 1 rfl rfl ?_))
  obtain ⟨q3, hq3, h⟩ := bind_some h
  refine v_callV (As := [.int x1]) (S := [.int x1]) dX12_chiefMark_15 tw1003 tw1005 tw35 ykX12_chiefSize lc_200 shc_200 (by decide) ok_11 rfl (by decide) rfl rfl (Nat.le_of_ble_eq_true rfl) (by decide) (eM_chiefSize x1 _ _ hq3) ?_
  refine v_isub dX12_chiefMark_18 ?_
  replace h := Option.some.inj h
  subst h
  exact v_iret dX12_chiefMark_19 rfl rfl rfl rfl rfl
def fM_ask_B39 (x1 : Int32) (x2 : Int32) (s0 : Int32) (σ : Sg) : Option (Int32 × Sg) := if x2 = 0 then (if s0 = 0 then ((fM_clerkSize x1 σ).bind fun q13 => some (q13.1, q13.2)) else (fM_chiefSize x1 σ).bind fun q14 => some (q14.1, q14.2)) else if s0 = 0 then ((fM_clerkMark x1 σ).bind fun q10 => some (q10.1, q10.2)) else (fM_chiefMark x1 σ).bind fun q11 => some (q11.1, q11.2)
set_option maxRecDepth 100000 in
set_option maxHeartbeats 4000000 in
theorem sM_ask_B39 {G : Gx} {q : (Int32 × Sg)} (x1 : Int32) (x2 : Int32) (s0 : Int32) (σ : Sg) (h : fM_ask_B39 x1 x2 s0 σ = some q) : Vm G MX12_ask (some (.int q.1)) q.2 39 [(0, .ref (gb G + 200)), (1, .int x1), (2, .int x2)] [.int s0] σ := by
  unfold fM_ask_B39 at h
  refine v_istore_n dX12_ask_39 [0, 1, 2, 3] rfl (by decide) rfl (v_iload_n dX12_ask_40 3 rfl rfl (v_if_ne (tgt := 62) dX12_ask_41 (by decide) (fun c8 => ?_) (fun c8 => ?_)))
  · replace h := ite_f c8 h
    refine v_iload_n dX12_ask_62 0 rfl rfl (v_if_eq (tgt := 74) dX12_ask_63 (by decide) (fun c9 => ?_) (fun c9 => ?_))
    · replace h := ite_t c9 h
      refine v_aload_n dX12_ask_74 1 rfl rfl (v_iload_n dX12_ask_75 2 rfl rfl ?_)
      obtain ⟨q10, hq10, h⟩ := bind_some h
      refine v_callV (As := [.int x1]) (S := []) dX12_ask_76 tw1015 tw1017 tw38 ykX12_clerkMark lc_200 shc_200 (by decide) ok_11 rfl (by decide) rfl rfl (Nat.le_of_ble_eq_true rfl) (by decide) (eM_clerkMark x1 _ _ hq10) ?_
      replace h := Option.some.inj h
      subst h
      exact v_iret dX12_ask_79 rfl rfl rfl rfl rfl
    · replace h := ite_f c9 h
      refine v_aload_n dX12_ask_66 1 rfl rfl (v_iload_n dX12_ask_67 2 rfl rfl ?_)
      obtain ⟨q11, hq11, h⟩ := bind_some h
      refine v_callV (As := [.int x1]) (S := []) dX12_ask_68 tw1019 tw1021 tw39 ykX12_chiefMark lc_200 shc_200 (by decide) ok_11 rfl (by decide) rfl rfl (Nat.le_of_ble_eq_true rfl) (by decide) (eM_chiefMark x1 _ _ hq11) ?_
      refine v_goto (tgt := 79) dX12_ask_71 (by decide) ?_
      replace h := Option.some.inj h
      subst h
      exact v_iret dX12_ask_79 rfl rfl rfl rfl rfl
  · replace h := ite_t c8 h
    refine v_iload_n dX12_ask_44 0 rfl rfl (v_if_eq (tgt := 56) dX12_ask_45 (by decide) (fun c12 => ?_) (fun c12 => ?_))
    · replace h := ite_t c12 h
      refine v_aload_n dX12_ask_56 1 rfl rfl (v_iload_n dX12_ask_57 2 rfl rfl ?_)
      obtain ⟨q13, hq13, h⟩ := bind_some h
      refine v_callV (As := [.int x1]) (S := []) dX12_ask_58 tw1011 tw1013 tw37 ykX12_clerkSize lc_200 shc_200 (by decide) ok_11 rfl (by decide) rfl rfl (Nat.le_of_ble_eq_true rfl) (by decide) (eM_clerkSize x1 _ _ hq13) ?_
      replace h := Option.some.inj h
      subst h
      exact v_iret dX12_ask_61 rfl rfl rfl rfl rfl
    · replace h := ite_f c12 h
      refine v_aload_n dX12_ask_48 1 rfl rfl (v_iload_n dX12_ask_49 2 rfl rfl ?_)
      obtain ⟨q14, hq14, h⟩ := bind_some h
      refine v_callV (As := [.int x1]) (S := []) dX12_ask_50 tw1003 tw1005 tw35 ykX12_chiefSize lc_200 shc_200 (by decide) ok_11 rfl (by decide) rfl rfl (Nat.le_of_ble_eq_true rfl) (by decide) (eM_chiefSize x1 _ _ hq14) ?_
      refine v_goto (tgt := 61) dX12_ask_53 (by decide) ?_
      replace h := Option.some.inj h
      subst h
      exact v_iret dX12_ask_61 rfl rfl rfl rfl rfl
def fM_ask (x1 : Int32) (x2 : Int32) (σ : Sg) : Option (Int32 × Sg) := (fM_isPerson x1 σ).bind fun q1 => if q1 = 0 then some ((-1000001), σ) else (fM_in x2 0 1 σ).bind fun q3 => if q3 = 0 then some ((-1000001), σ) else ltc (wr σ 200 21 0) fun σ5 => (fM_kindIn x1 σ5).bind fun q6 => if q6 < 4 then fM_ask_B39 x1 x2 0 σ5 else fM_ask_B39 x1 x2 1 σ5
set_option maxRecDepth 100000 in
set_option maxHeartbeats 4000000 in
theorem eM_ask {G : Gx} (x1 : Int32) (x2 : Int32) (σ : Sg) (q : (Int32 × Sg)) (h : fM_ask x1 x2 σ = some q) : Evm G yX12_ask MX12_ask [.ref (gb G + 200), .int x1, .int x2] σ (some (.int q.1)) q.2 := by
  refine Ev.of (by decide +kernel) rfl rfl (Nat.le_of_ble_eq_true rfl) ?_
  show Vm G MX12_ask (some (.int q.1)) q.2 0 [(0, .ref (gb G + 200)), (1, .int x1), (2, .int x2)] [] σ
  unfold fM_ask at h
  refine v_aload_n dX12_ask_0 0 rfl rfl (v_iload_n dX12_ask_1 1 rfl rfl ?_)
  obtain ⟨q1, hq1, h⟩ := bind_some h
  refine v_callV (As := [.int x1]) (S := []) dX12_ask_2 tw880 tw882 tw29 ykX12_isPerson lc_200 shc_200 (by decide) ok_11 rfl (by decide) rfl rfl (Nat.le_of_ble_eq_true rfl) (by decide) (eM_isPerson x1 _ _ hq1) ?_
  refine v_if_eq (tgt := 17) dX12_ask_5 (by decide) (fun c2 => ?_) (fun c2 => ?_)
  · replace h := ite_t c2 h
    refine v_ldc dX12_ask_17 tw764 ?_
    replace h := Option.some.inj h
    subst h
    exact v_iret dX12_ask_19 rfl rfl rfl rfl rfl
  · replace h := ite_f c2 h
    refine v_iload_n dX12_ask_8 2 rfl rfl (v_iconst dX12_ask_9 rfl (v_iconst dX12_ask_10 rfl ?_))
    obtain ⟨q3, hq3, h⟩ := bind_some h
    refine v_callS (As := [.int x2, .int 0, .int 1]) (S := []) dX12_ask_11 tw761 tw762 ykX12_in rfl (by decide) rfl rfl (Nat.le_of_ble_eq_true rfl) (by decide) (eM_in x2 0 1 _ _ hq3) ?_
    refine v_if_ne (tgt := 20) dX12_ask_14 (by decide) (fun c4 => ?_) (fun c4 => ?_)
    · replace h := ite_f c4 h
      refine v_aload_n dX12_ask_20 0 rfl rfl (v_iconst dX12_ask_21 rfl ?_)
      obtain ⟨σ5, eσ5, h⟩ := ltc_some h
      refine vn_put dX12_ask_22 fsX12_207 lc_200 shc_200 (by decide) rf_200_21 eσ5 (v_aload_n dX12_ask_25 0 rfl rfl (v_iload_n dX12_ask_26 1 rfl rfl ?_))
      obtain ⟨q6, hq6, h⟩ := bind_some h
      refine v_callV (As := [.int x1]) (S := []) dX12_ask_27 tw991 tw993 tw34 ykX12_kindIn lc_200 shc_200 (by decide) ok_11 rfl (by decide) rfl rfl (Nat.le_of_ble_eq_true rfl) (by decide) (eM_kindIn x1 _ _ hq6) ?_
      refine v_iconst dX12_ask_30 rfl (v_icmp_lt (tgt := 38) dX12_ask_31 (by decide) (fun c7 => ?_) (fun c7 => ?_))
      · replace h := ite_t c7 h
        exact v_iconst dX12_ask_38 rfl (sM_ask_B39 x1 x2 0 _ h)
      · replace h := ite_f c7 h
        exact v_iconst dX12_ask_34 rfl (v_goto (tgt := 39) dX12_ask_35 (by decide) (sM_ask_B39 x1 x2 1 _ h))
    · replace h := ite_t c4 h
      refine v_ldc dX12_ask_17 tw764 ?_
      replace h := Option.some.inj h
      subst h
      exact v_iret dX12_ask_19 rfl rfl rfl rfl rfl
