def fM_mindsOf_B65 (r0 : Nat) (x3 : Int32) (x4 : Int32) (x5 : Int32) (s0 : Int32) (σ : Sg) : Option Int32 := if inb x3 41 = true then if (σ r0 (ix x3)) = 1 then some x5 else if (σ r0 (ix x3)) = 2 then some (2 * x5) else if (σ r0 (ix x3)) = 3 then (if inb (x3 + 4) 41 = true then if x5 ≤ (σ r0 (ix (x3 + 4))) then some 0 else some (x5 - (σ r0 (ix (x3 + 4)))) else none) else if (σ r0 (ix x3)) = 4 then some s0 else if inb (x3 + 2) 41 = true then if inb (x4 + 2) 41 = true then if (σ r0 (ix (x3 + 2))) = (σ r0 (ix (x4 + 2))) then some 9 else some s0 else none else none else none
set_option maxRecDepth 100000 in
set_option maxHeartbeats 4000000 in
theorem sM_mindsOf_B65 {G : Gx} {q : Int32} (r0 : Nat) (p0 : shp r0 = (20, 41)) (l0 : r0 < 213) (x3 : Int32) (x4 : Int32) (x5 : Int32) (s0 : Int32) (σ : Sg) (h : fM_mindsOf_B65 r0 x3 x4 x5 s0 σ = some q) : Vm G MX12_mindsOf (some (.int q)) σ 65 [(0, .ref (gb G + r0)), (3, .int x3), (4, .int x4), (5, .int x5)] [.int s0] σ := by
  unfold fM_mindsOf_B65 at h
  refine v_istore dX12_mindsOf_65 [0, 1, 2, 3, 4] rfl (by decide) (v_aload_n dX12_mindsOf_67 1 rfl rfl (v_iload_n dX12_mindsOf_68 2 rfl rfl ?_))
  obtain ⟨g7, h⟩ := guard_some h
  refine vn_iald dX12_mindsOf_69 l0 p0 g7 rfl ?_
  by_cases c8 : (σ r0 (ix x3)) = 1
  · replace h := ite_t c8 h
    refine v_tableAt (tgt := 100) dX12_mindsOf_70 c8 (by decide) (by decide) (off := 30) (by decide) (by decide) ?_
    refine v_iload dX12_mindsOf_100 4 rfl ?_
    replace h := Option.some.inj h
    subst h
    exact v_iret dX12_mindsOf_102 rfl rfl rfl rfl rfl
  replace h := ite_f c8 h
  by_cases c9 : (σ r0 (ix x3)) = 2
  · replace h := ite_t c9 h
    refine v_tableAt (tgt := 103) dX12_mindsOf_70 c9 (by decide) (by decide) (off := 33) (by decide) (by decide) ?_
    refine v_iconst dX12_mindsOf_103 rfl (v_iload dX12_mindsOf_104 4 rfl (v_imul dX12_mindsOf_106 ?_))
    replace h := Option.some.inj h
    subst h
    exact v_iret dX12_mindsOf_107 rfl rfl rfl rfl rfl
  replace h := ite_f c9 h
  by_cases c10 : (σ r0 (ix x3)) = 3
  · replace h := ite_t c10 h
    refine v_tableAt (tgt := 108) dX12_mindsOf_70 c10 (by decide) (by decide) (off := 38) (by decide) (by decide) ?_
    refine v_iload dX12_mindsOf_108 4 rfl (v_aload_n dX12_mindsOf_110 1 rfl rfl (v_iload_n dX12_mindsOf_111 2 rfl rfl (v_iconst dX12_mindsOf_112 rfl (v_iadd dX12_mindsOf_113 ?_))))
    obtain ⟨g11, h⟩ := guard_some h
    refine vn_iald dX12_mindsOf_114 l0 p0 g11 rfl (v_icmp_le (tgt := 129) dX12_mindsOf_115 (by decide) (fun c12 => ?_) (fun c12 => ?_))
    · replace h := ite_t c12 h
      refine v_iconst dX12_mindsOf_129 rfl ?_
      replace h := Option.some.inj h
      subst h
      exact v_iret dX12_mindsOf_130 rfl rfl rfl rfl rfl
    · replace h := ite_f c12 h
      refine v_iload dX12_mindsOf_118 4 rfl (v_aload_n dX12_mindsOf_120 1 rfl rfl (v_iload_n dX12_mindsOf_121 2 rfl rfl (v_iconst dX12_mindsOf_122 rfl (v_iadd dX12_mindsOf_123 (vn_iald dX12_mindsOf_124 l0 p0 g11 rfl (v_isub dX12_mindsOf_125 (v_goto (tgt := 130) dX12_mindsOf_126 (by decide) ?_)))))))
      replace h := Option.some.inj h
      subst h
      exact v_iret dX12_mindsOf_130 rfl rfl rfl rfl rfl
  replace h := ite_f c10 h
  by_cases c13 : (σ r0 (ix x3)) = 4
  · replace h := ite_t c13 h
    refine v_tableAt (tgt := 131) dX12_mindsOf_70 c13 (by decide) (by decide) (off := 61) (by decide) (by decide) ?_
    refine v_iload dX12_mindsOf_131 0 rfl ?_
    replace h := Option.some.inj h
    subst h
    exact v_iret dX12_mindsOf_133 rfl rfl rfl rfl rfl
  replace h := ite_f c13 h
  have nc8 := i_ne (z := 1) (by decide) c8
  have nc9 := i_ne (z := 2) (by decide) c9
  have nc10 := i_ne (z := 3) (by decide) c10
  have nc13 := i_ne (z := 4) (by decide) c13
  refine v_tableOut (tgt := 134) dX12_mindsOf_70 (by omega) (by decide) ?_
  refine v_aload_n dX12_mindsOf_134 1 rfl rfl (v_iload_n dX12_mindsOf_135 2 rfl rfl (v_iconst dX12_mindsOf_136 rfl (v_iadd dX12_mindsOf_137 ?_)))
  obtain ⟨g14, h⟩ := guard_some h
  refine vn_iald dX12_mindsOf_138 l0 p0 g14 rfl (v_aload_n dX12_mindsOf_139 1 rfl rfl (v_iload dX12_mindsOf_140 3 rfl (v_iconst dX12_mindsOf_142 rfl (v_iadd dX12_mindsOf_143 ?_))))
  obtain ⟨g15, h⟩ := guard_some h
  refine vn_iald dX12_mindsOf_144 l0 p0 g15 rfl (v_icmp_ne (tgt := 153) dX12_mindsOf_145 (by decide) (fun c16 => ?_) (fun c16 => ?_))
  · replace h := ite_f c16 h
    refine v_iload dX12_mindsOf_153 0 rfl ?_
    replace h := Option.some.inj h
    subst h
    exact v_iret dX12_mindsOf_155 rfl rfl rfl rfl rfl
  · replace h := ite_t c16 h
    refine v_bipush (v := 9) dX12_mindsOf_148 rfl (v_goto (tgt := 155) dX12_mindsOf_150 (by decide) ?_)
    replace h := Option.some.inj h
    subst h
    exact v_iret dX12_mindsOf_155 rfl rfl rfl rfl rfl
def fM_mindsOf_B45 (r0 : Nat) (x3 : Int32) (x4 : Int32) (s0 : Int32) (σ : Sg) : Option Int32 := if inb (x4 + 3) 41 = true then if (σ r0 (ix (x4 + 3))) ≤ 0 then fM_mindsOf_B65 r0 x3 x4 s0 0 σ else if inb (x3 + 4) 41 = true then fM_mindsOf_B65 r0 x3 x4 s0 (σ r0 (ix (x3 + 4))) σ else none else none
set_option maxRecDepth 100000 in
set_option maxHeartbeats 4000000 in
theorem sM_mindsOf_B45 {G : Gx} {q : Int32} (r0 : Nat) (p0 : shp r0 = (20, 41)) (l0 : r0 < 213) (x3 : Int32) (x4 : Int32) (s0 : Int32) (σ : Sg) (h : fM_mindsOf_B45 r0 x3 x4 s0 σ = some q) : Vm G MX12_mindsOf (some (.int q)) σ 45 [(0, .ref (gb G + r0)), (3, .int x3), (4, .int x4)] [.int s0] σ := by
  unfold fM_mindsOf_B45 at h
  refine v_istore dX12_mindsOf_45 [0, 1, 2, 3] rfl (by decide) (v_aload_n dX12_mindsOf_47 1 rfl rfl (v_iload dX12_mindsOf_48 3 rfl (v_iconst dX12_mindsOf_50 rfl (v_iadd dX12_mindsOf_51 ?_))))
  obtain ⟨g4, h⟩ := guard_some h
  refine vn_iald dX12_mindsOf_52 l0 p0 g4 rfl (v_if_le (tgt := 64) dX12_mindsOf_53 (by decide) (fun c5 => ?_) (fun c5 => ?_))
  · replace h := ite_t c5 h
    exact v_iconst dX12_mindsOf_64 rfl (v_sub [1, 2, 3, 0] rfl (sM_mindsOf_B65 r0 p0 l0 x3 x4 s0 0 _ h))
  · replace h := ite_f c5 h
    refine v_aload_n dX12_mindsOf_56 1 rfl rfl (v_iload_n dX12_mindsOf_57 2 rfl rfl (v_iconst dX12_mindsOf_58 rfl (v_iadd dX12_mindsOf_59 ?_)))
    obtain ⟨g6, h⟩ := guard_some h
    exact vn_iald dX12_mindsOf_60 l0 p0 g6 rfl (v_goto (tgt := 65) dX12_mindsOf_61 (by decide) (v_sub [1, 2, 3, 0] rfl (sM_mindsOf_B65 r0 p0 l0 x3 x4 s0 (σ r0 (ix (x3 + 4))) _ h)))
def fM_mindsOf (r0 : Nat) (x1 : Int32) (x2 : Int32) (σ : Sg) : Option Int32 := if inb ((5 + (6 * x2)) + 3) 41 = true then if inb ((5 + (6 * x1)) + 3) 41 = true then if (σ r0 (ix ((5 + (6 * x2)) + 3))) ≤ (σ r0 (ix ((5 + (6 * x1)) + 3))) then fM_mindsOf_B45 r0 (5 + (6 * x1)) (5 + (6 * x2)) 0 σ else fM_mindsOf_B45 r0 (5 + (6 * x1)) (5 + (6 * x2)) ((σ r0 (ix ((5 + (6 * x2)) + 3))) - (σ r0 (ix ((5 + (6 * x1)) + 3)))) σ else none else none
set_option maxRecDepth 100000 in
set_option maxHeartbeats 4000000 in
theorem eM_mindsOf {G : Gx} (r0 : Nat) (p0 : shp r0 = (20, 41)) (l0 : r0 < 213) (x1 : Int32) (x2 : Int32) (σ : Sg) (q : Int32) (h : fM_mindsOf r0 x1 x2 σ = some q) : Evm G yX12_mindsOf MX12_mindsOf [.ref (gb G + r0), .int x1, .int x2] σ (some (.int q)) σ := by
  refine Ev.of (by decide +kernel) rfl rfl (Nat.le_of_ble_eq_true rfl) ?_
  show Vm G MX12_mindsOf (some (.int q)) σ 0 [(0, .ref (gb G + r0)), (1, .int x1), (2, .int x2)] [] σ
  unfold fM_mindsOf at h
  refine v_iconst dX12_mindsOf_0 rfl (v_bipush (v := 6) dX12_mindsOf_1 rfl (v_iload_n dX12_mindsOf_3 1 rfl rfl (v_imul dX12_mindsOf_4 (v_iadd dX12_mindsOf_5 (v_istore_n dX12_mindsOf_6 [0, 1, 3] rfl (by decide) rfl (v_iconst dX12_mindsOf_7 rfl (v_bipush (v := 6) dX12_mindsOf_8 rfl (v_iload_n dX12_mindsOf_10 2 rfl rfl (v_imul dX12_mindsOf_11 ?_)))))))))
  refine v_iadd dX12_mindsOf_12 (v_istore dX12_mindsOf_13 [0, 1, 2] rfl (by decide) (v_aload_n dX12_mindsOf_15 2 rfl rfl (v_iload dX12_mindsOf_16 0 rfl (v_iconst dX12_mindsOf_18 rfl (v_iadd dX12_mindsOf_19 ?_)))))
  obtain ⟨g1, h⟩ := guard_some h
  refine vn_iald dX12_mindsOf_20 l0 p0 g1 rfl (v_aload_n dX12_mindsOf_21 2 rfl rfl (v_iload_n dX12_mindsOf_22 1 rfl rfl (v_iconst dX12_mindsOf_23 rfl (v_iadd dX12_mindsOf_24 ?_))))
  obtain ⟨g2, h⟩ := guard_some h
  refine vn_iald dX12_mindsOf_25 l0 p0 g2 rfl (v_icmp_le (tgt := 44) dX12_mindsOf_26 (by decide) (fun c3 => ?_) (fun c3 => ?_))
  · replace h := ite_t c3 h
    exact v_iconst dX12_mindsOf_44 rfl (v_sub [2, 1, 0] rfl (sM_mindsOf_B45 r0 p0 l0 (5 + (6 * x1)) (5 + (6 * x2)) 0 _ h))
  · replace h := ite_f c3 h
    refine v_aload_n dX12_mindsOf_29 2 rfl rfl (v_iload dX12_mindsOf_30 0 rfl (v_iconst dX12_mindsOf_32 rfl (v_iadd dX12_mindsOf_33 (vn_iald dX12_mindsOf_34 l0 p0 g1 rfl (v_aload_n dX12_mindsOf_35 2 rfl rfl (v_iload_n dX12_mindsOf_36 1 rfl rfl (v_iconst dX12_mindsOf_37 rfl (v_iadd dX12_mindsOf_38 (vn_iald dX12_mindsOf_39 l0 p0 g2 rfl ?_)))))))))
    exact v_isub dX12_mindsOf_40 (v_goto (tgt := 45) dX12_mindsOf_41 (by decide) (v_sub [2, 1, 0] rfl (sM_mindsOf_B45 r0 p0 l0 (5 + (6 * x1)) (5 + (6 * x2)) ((σ r0 (ix ((5 + (6 * x2)) + 3))) - (σ r0 (ix ((5 + (6 * x1)) + 3)))) _ h)))
def fM_rides (r0 : Nat) (x1 : Int32) (σ : Sg) : Option Int32 := if (σ r0 3) = (x1 + 1) then some 1 else some 0
set_option maxRecDepth 100000 in
set_option maxHeartbeats 4000000 in
theorem eM_rides {G : Gx} (r0 : Nat) (p0 : shp r0 = (20, 41)) (l0 : r0 < 213) (x1 : Int32) (σ : Sg) (q : Int32) (h : fM_rides r0 x1 σ = some q) : Evm G yX12_rides MX12_rides [.ref (gb G + r0), .int x1] σ (some (.int q)) σ := by
  refine Ev.of (by decide +kernel) rfl rfl (Nat.le_of_ble_eq_true rfl) ?_
  show Vm G MX12_rides (some (.int q)) σ 0 [(0, .ref (gb G + r0)), (1, .int x1)] [] σ
  unfold fM_rides at h
  refine v_aload_n dX12_rides_0 0 rfl rfl (v_iconst dX12_rides_1 rfl (vn_iald dX12_rides_2 l0 p0 ib_3_41 ixc_3 (v_iload_n dX12_rides_3 1 rfl rfl (v_iconst dX12_rides_4 rfl (v_iadd dX12_rides_5 (v_icmp_ne (tgt := 13) dX12_rides_6 (by decide) (fun c1 => ?_) (fun c1 => ?_)))))))
  · replace h := ite_f c1 h
    refine v_iconst dX12_rides_13 rfl ?_
    replace h := Option.some.inj h
    subst h
    exact v_zret dX12_rides_14 rfl (by decide) rfl rfl rfl rfl
  · replace h := ite_t c1 h
    refine v_iconst dX12_rides_9 rfl (v_goto (tgt := 14) dX12_rides_10 (by decide) ?_)
    replace h := Option.some.inj h
    subst h
    exact v_zret dX12_rides_14 rfl (by decide) rfl rfl rfl rfl
def fM_envyOf_B78 (K4 : Nat → Int32 → Int32 → Int32 → Sg → Option Int32) (r0 : Nat) (x1 : Int32) (x3 : Int32) (s0 : Int32) (s1 : Int32) (σ : Sg) : Option Int32 := K4 r0 x1 (s1 + s0) (x3 + 1) σ
set_option maxRecDepth 100000 in
set_option maxHeartbeats 4000000 in
theorem sM_envyOf_B78 {G : Gx} {q : Int32} (K4 : Nat → Int32 → Int32 → Int32 → Sg → Option Int32) (hK4 : ∀ (r0 : Nat) (p0 : shp r0 = (20, 41)) (l0 : r0 < 213) (x1 : Int32) (x2 : Int32) (x3 : Int32) (σ : Sg), K4 r0 x1 x2 x3 σ = some q → Vm G MX12_envyOf (some (.int q)) σ 4 [(0, .ref (gb G + r0)), (1, .int x1), (2, .int x2), (3, .int x3)] [] σ) (r0 : Nat) (p0 : shp r0 = (20, 41)) (l0 : r0 < 213) (x1 : Int32) (x3 : Int32) (s0 : Int32) (s1 : Int32) (σ : Sg) (h : fM_envyOf_B78 K4 r0 x1 x3 s0 s1 σ = some q) : Vm G MX12_envyOf (some (.int q)) σ 78 [(0, .ref (gb G + r0)), (1, .int x1), (3, .int x3)] [.int s0, .int s1] σ := by
  unfold fM_envyOf_B78 at h
  exact v_iadd dX12_envyOf_78 (v_istore_n dX12_envyOf_79 [0, 1, 2, 3] rfl (by decide) rfl (v_iinc (v := x3 + 1) dX12_envyOf_80 3 rfl rfl [0, 1, 2, 3] rfl (by decide) (v_goto (tgt := 4) dX12_envyOf_83 (by decide) (v_sub [2, 3, 1, 0] rfl (hK4 r0 p0 l0 x1 (s1 + s0) (x3 + 1) _ h)))))
def fM_envyOf_B60 (K4 : Nat → Int32 → Int32 → Int32 → Sg → Option Int32) (r0 : Nat) (x1 : Int32) (x2 : Int32) (x3 : Int32) (s0 : Int32) (σ : Sg) : Option Int32 := if s0 = 0 then fM_envyOf_B78 K4 r0 x1 x3 0 x2 σ else (fM_mindsOf r0 x3 x1 σ).bind fun q11 => fM_envyOf_B78 K4 r0 x1 x3 q11 x2 σ
set_option maxRecDepth 100000 in
set_option maxHeartbeats 4000000 in
theorem sM_envyOf_B60 {G : Gx} {q : Int32} (K4 : Nat → Int32 → Int32 → Int32 → Sg → Option Int32) (hK4 : ∀ (r0 : Nat) (p0 : shp r0 = (20, 41)) (l0 : r0 < 213) (x1 : Int32) (x2 : Int32) (x3 : Int32) (σ : Sg), K4 r0 x1 x2 x3 σ = some q → Vm G MX12_envyOf (some (.int q)) σ 4 [(0, .ref (gb G + r0)), (1, .int x1), (2, .int x2), (3, .int x3)] [] σ) (r0 : Nat) (p0 : shp r0 = (20, 41)) (l0 : r0 < 213) (x1 : Int32) (x2 : Int32) (x3 : Int32) (s0 : Int32) (σ : Sg) (h : fM_envyOf_B60 K4 r0 x1 x2 x3 s0 σ = some q) : Vm G MX12_envyOf (some (.int q)) σ 60 [(0, .ref (gb G + r0)), (1, .int x1), (2, .int x2), (3, .int x3)] [.int s0] σ := by
  unfold fM_envyOf_B60 at h
  refine v_istore dX12_envyOf_60 [0, 1, 2, 3, 4] rfl (by decide) (v_iload_n dX12_envyOf_62 3 rfl rfl (v_iload dX12_envyOf_63 0 rfl (v_if_eq (tgt := 77) dX12_envyOf_65 (by decide) (fun c10 => ?_) (fun c10 => ?_))))
  · replace h := ite_t c10 h
    exact v_iconst dX12_envyOf_77 rfl (v_sub [1, 2, 4] rfl (sM_envyOf_B78 K4 hK4 r0 p0 l0 x1 x3 0 x2 _ h))
  · replace h := ite_f c10 h
    refine v_aload_n dX12_envyOf_68 1 rfl rfl (v_iload_n dX12_envyOf_69 4 rfl rfl (v_iload_n dX12_envyOf_70 2 rfl rfl ?_))
    obtain ⟨q11, hq11, h⟩ := bind_some h
    refine v_callS (As := [.ref (gb G + r0), .int x3, .int x1]) (S := [.int x2]) dX12_envyOf_71 tw873 tw874 ykX12_mindsOf rfl (by decide) rfl rfl (Nat.le_of_ble_eq_true rfl) (by decide) (eM_mindsOf r0 p0 l0 x3 x1 _ _ hq11) ?_
    exact v_goto (tgt := 78) dX12_envyOf_74 (by decide) (v_sub [1, 2, 4] rfl (sM_envyOf_B78 K4 hK4 r0 p0 l0 x1 x3 q11 x2 _ h))
def fM_envyOf_B59 (K4 : Nat → Int32 → Int32 → Int32 → Sg → Option Int32) (r0 : Nat) (x1 : Int32) (x2 : Int32) (x3 : Int32) (σ : Sg) : Option Int32 := fM_envyOf_B60 K4 r0 x1 x2 x3 0 σ
set_option maxRecDepth 100000 in
set_option maxHeartbeats 4000000 in
theorem sM_envyOf_B59 {G : Gx} {q : Int32} (K4 : Nat → Int32 → Int32 → Int32 → Sg → Option Int32) (hK4 : ∀ (r0 : Nat) (p0 : shp r0 = (20, 41)) (l0 : r0 < 213) (x1 : Int32) (x2 : Int32) (x3 : Int32) (σ : Sg), K4 r0 x1 x2 x3 σ = some q → Vm G MX12_envyOf (some (.int q)) σ 4 [(0, .ref (gb G + r0)), (1, .int x1), (2, .int x2), (3, .int x3)] [] σ) (r0 : Nat) (p0 : shp r0 = (20, 41)) (l0 : r0 < 213) (x1 : Int32) (x2 : Int32) (x3 : Int32) (σ : Sg) (h : fM_envyOf_B59 K4 r0 x1 x2 x3 σ = some q) : Vm G MX12_envyOf (some (.int q)) σ 59 [(0, .ref (gb G + r0)), (1, .int x1), (2, .int x2), (3, .int x3)] [] σ := by
  unfold fM_envyOf_B59 at h
  exact v_iconst dX12_envyOf_59 rfl (sM_envyOf_B60 K4 hK4 r0 p0 l0 x1 x2 x3 0 _ h)
def fM_envyOf_b4 (K4 : Nat → Int32 → Int32 → Int32 → Sg → Option Int32) (r0 : Nat) (x1 : Int32) (x2 : Int32) (x3 : Int32) (σ : Sg) : Option Int32 := if (σ r0 4) ≤ x3 then some x2 else if x3 = x1 then fM_envyOf_B59 K4 r0 x1 x2 x3 σ else (fM_rides r0 x1 σ).bind fun q3 => if q3 = 0 then ((fM_rides r0 x3 σ).bind fun q5 => if q5 = 0 then (if inb ((5 + (6 * x3)) + 1) 41 = true then if inb ((5 + (6 * x1)) + 1) 41 = true then if (σ r0 (ix ((5 + (6 * x3)) + 1))) = (σ r0 (ix ((5 + (6 * x1)) + 1))) then fM_envyOf_B60 K4 r0 x1 x2 x3 1 σ else fM_envyOf_B59 K4 r0 x1 x2 x3 σ else none else none) else fM_envyOf_B59 K4 r0 x1 x2 x3 σ) else fM_envyOf_B59 K4 r0 x1 x2 x3 σ
def fM_envyOf_L4 (n : Nat) : Nat → Int32 → Int32 → Int32 → Sg → Option Int32 := Nat.rec (fun _ _ _ _ _ => none) (fun _ K => fM_envyOf_b4 K) n
set_option maxRecDepth 100000 in
set_option maxHeartbeats 4000000 in
theorem sM_envyOf_b4 {G : Gx} {q : Int32} (K4 : Nat → Int32 → Int32 → Int32 → Sg → Option Int32) (hK4 : ∀ (r0 : Nat) (p0 : shp r0 = (20, 41)) (l0 : r0 < 213) (x1 : Int32) (x2 : Int32) (x3 : Int32) (σ : Sg), K4 r0 x1 x2 x3 σ = some q → Vm G MX12_envyOf (some (.int q)) σ 4 [(0, .ref (gb G + r0)), (1, .int x1), (2, .int x2), (3, .int x3)] [] σ) (r0 : Nat) (p0 : shp r0 = (20, 41)) (l0 : r0 < 213) (x1 : Int32) (x2 : Int32) (x3 : Int32) (σ : Sg) (h : fM_envyOf_b4 K4 r0 x1 x2 x3 σ = some q) : Vm G MX12_envyOf (some (.int q)) σ 4 [(0, .ref (gb G + r0)), (1, .int x1), (2, .int x2), (3, .int x3)] [] σ := by
  unfold fM_envyOf_b4 at h
  refine v_iload_n dX12_envyOf_4 3 rfl rfl (v_aload_n dX12_envyOf_5 0 rfl rfl (v_iconst dX12_envyOf_6 rfl (vn_iald dX12_envyOf_7 l0 p0 ib_4_41 ixc_4 (v_icmp_ge (tgt := 86) dX12_envyOf_8 (by decide) (fun c1 => ?_) (fun c1 => ?_)))))
  · replace h := ite_t c1 h
    refine v_iload_n dX12_envyOf_86 2 rfl rfl ?_
    replace h := Option.some.inj h
    subst h
    exact v_iret dX12_envyOf_87 rfl rfl rfl rfl rfl
  · replace h := ite_f c1 h
    refine v_iload_n dX12_envyOf_11 3 rfl rfl (v_iload_n dX12_envyOf_12 1 rfl rfl (v_icmp_eq (tgt := 59) dX12_envyOf_13 (by decide) (fun c2 => ?_) (fun c2 => ?_)))
    · replace h := ite_t c2 h
      exact sM_envyOf_B59 K4 hK4 r0 p0 l0 x1 x2 x3 _ h
    · replace h := ite_f c2 h
      refine v_aload_n dX12_envyOf_16 0 rfl rfl (v_iload_n dX12_envyOf_17 1 rfl rfl ?_)
      obtain ⟨q3, hq3, h⟩ := bind_some h
      refine v_callS (As := [.ref (gb G + r0), .int x1]) (S := []) dX12_envyOf_18 tw870 tw871 ykX12_rides rfl (by decide) rfl rfl (Nat.le_of_ble_eq_true rfl) (by decide) (eM_rides r0 p0 l0 x1 _ _ hq3) ?_
      refine v_if_ne (tgt := 59) dX12_envyOf_21 (by decide) (fun c4 => ?_) (fun c4 => ?_)
      · replace h := ite_f c4 h
        exact sM_envyOf_B59 K4 hK4 r0 p0 l0 x1 x2 x3 _ h
      · replace h := ite_t c4 h
        refine v_aload_n dX12_envyOf_24 0 rfl rfl (v_iload_n dX12_envyOf_25 3 rfl rfl ?_)
        obtain ⟨q5, hq5, h⟩ := bind_some h
        refine v_callS (As := [.ref (gb G + r0), .int x3]) (S := []) dX12_envyOf_26 tw870 tw871 ykX12_rides rfl (by decide) rfl rfl (Nat.le_of_ble_eq_true rfl) (by decide) (eM_rides r0 p0 l0 x3 _ _ hq5) ?_
        refine v_if_ne (tgt := 59) dX12_envyOf_29 (by decide) (fun c6 => ?_) (fun c6 => ?_)
        · replace h := ite_f c6 h
          exact sM_envyOf_B59 K4 hK4 r0 p0 l0 x1 x2 x3 _ h
        · replace h := ite_t c6 h
          refine v_aload_n dX12_envyOf_32 0 rfl rfl (v_iconst dX12_envyOf_33 rfl (v_bipush (v := 6) dX12_envyOf_34 rfl (v_iload_n dX12_envyOf_36 3 rfl rfl (v_imul dX12_envyOf_37 (v_iadd dX12_envyOf_38 (v_iconst dX12_envyOf_39 rfl (v_iadd dX12_envyOf_40 ?_)))))))
          obtain ⟨g7, h⟩ := guard_some h
          refine vn_iald dX12_envyOf_41 l0 p0 g7 rfl (v_aload_n dX12_envyOf_42 0 rfl rfl (v_iconst dX12_envyOf_43 rfl (v_bipush (v := 6) dX12_envyOf_44 rfl (v_iload_n dX12_envyOf_46 1 rfl rfl (v_imul dX12_envyOf_47 (v_iadd dX12_envyOf_48 (v_iconst dX12_envyOf_49 rfl (v_iadd dX12_envyOf_50 ?_))))))))
          obtain ⟨g8, h⟩ := guard_some h
          refine vn_iald dX12_envyOf_51 l0 p0 g8 rfl (v_icmp_ne (tgt := 59) dX12_envyOf_52 (by decide) (fun c9 => ?_) (fun c9 => ?_))
          · replace h := ite_f c9 h
            exact sM_envyOf_B59 K4 hK4 r0 p0 l0 x1 x2 x3 _ h
          · replace h := ite_t c9 h
            exact v_iconst dX12_envyOf_55 rfl (v_goto (tgt := 60) dX12_envyOf_56 (by decide) (sM_envyOf_B60 K4 hK4 r0 p0 l0 x1 x2 x3 1 _ h))
theorem sM_envyOf_L4 {G : Gx} {q : Int32} (n : Nat) : ∀ (r0 : Nat) (p0 : shp r0 = (20, 41)) (l0 : r0 < 213) (x1 : Int32) (x2 : Int32) (x3 : Int32) (σ : Sg) (h : fM_envyOf_L4 n r0 x1 x2 x3 σ = some q), Vm G MX12_envyOf (some (.int q)) σ 4 [(0, .ref (gb G + r0)), (1, .int x1), (2, .int x2), (3, .int x3)] [] σ := by
  induction n with
  | zero => intro r0 p0 l0 x1 x2 x3 σ h; cases h
  | succ n ih => intro r0 p0 l0 x1 x2 x3 σ h; exact sM_envyOf_b4  _ ih r0 p0 l0 x1 x2 x3 σ h
def fM_envyOf (r0 : Nat) (x1 : Int32) (σ : Sg) : Option Int32 := fM_envyOf_L4 2000 r0 x1 0 0 σ
set_option maxRecDepth 100000 in
set_option maxHeartbeats 4000000 in
theorem eM_envyOf {G : Gx} (r0 : Nat) (p0 : shp r0 = (20, 41)) (l0 : r0 < 213) (x1 : Int32) (σ : Sg) (q : Int32) (h : fM_envyOf r0 x1 σ = some q) : Evm G yX12_envyOf MX12_envyOf [.ref (gb G + r0), .int x1] σ (some (.int q)) σ := by
  refine Ev.of (by decide +kernel) rfl rfl (Nat.le_of_ble_eq_true rfl) ?_
  show Vm G MX12_envyOf (some (.int q)) σ 0 [(0, .ref (gb G + r0)), (1, .int x1)] [] σ
  unfold fM_envyOf at h
  exact v_iconst dX12_envyOf_0 rfl (v_istore_n dX12_envyOf_1 [0, 1, 2] rfl (by decide) rfl (v_iconst dX12_envyOf_2 rfl (v_istore_n dX12_envyOf_3 [0, 1, 2, 3] rfl (by decide) rfl (v_sub [2, 3, 1, 0] rfl (sM_envyOf_L4 2000 r0 p0 l0 x1 0 0 _ h)))))
def fM_calls_B69 (K7 : Nat → Int32 → Int32 → Int32 → Sg → Option Int32) (r0 : Nat) (x1 : Int32) (x3 : Int32) (s0 : Int32) (σ : Sg) : Option Int32 := K7 r0 x1 s0 (x3 + 1) σ
set_option maxRecDepth 100000 in
set_option maxHeartbeats 4000000 in
theorem sM_calls_B69 {G : Gx} {q : Int32} (K7 : Nat → Int32 → Int32 → Int32 → Sg → Option Int32) (hK7 : ∀ (r0 : Nat) (p0 : shp r0 = (20, 41)) (l0 : r0 < 213) (x1 : Int32) (x2 : Int32) (x3 : Int32) (σ : Sg), K7 r0 x1 x2 x3 σ = some q → Vm G MX12_calls (some (.int q)) σ 7 [(0, .ref (gb G + r0)), (1, .int x1), (2, .int x2), (3, .int x3)] [] σ) (r0 : Nat) (p0 : shp r0 = (20, 41)) (l0 : r0 < 213) (x1 : Int32) (x3 : Int32) (s0 : Int32) (σ : Sg) (h : fM_calls_B69 K7 r0 x1 x3 s0 σ = some q) : Vm G MX12_calls (some (.int q)) σ 69 [(0, .ref (gb G + r0)), (1, .int x1), (3, .int x3)] [.int s0] σ := by
  unfold fM_calls_B69 at h
  exact v_istore_n dX12_calls_69 [0, 1, 2, 3] rfl (by decide) rfl (v_iinc (v := x3 + 1) dX12_calls_70 3 rfl rfl [0, 1, 2, 3] rfl (by decide) (v_goto (tgt := 7) dX12_calls_73 (by decide) (v_sub [2, 3, 1, 0] rfl (hK7 r0 p0 l0 x1 s0 (x3 + 1) _ h))))
def fM_calls_B56 (K7 : Nat → Int32 → Int32 → Int32 → Sg → Option Int32) (r0 : Nat) (x2 : Int32) (x3 : Int32) (x4 : Int32) (s0 : Int32) (σ : Sg) : Option Int32 := if x4 ≤ x2 then fM_calls_B69 K7 r0 s0 x3 x2 σ else fM_calls_B69 K7 r0 s0 x3 x4 σ
set_option maxRecDepth 100000 in
set_option maxHeartbeats 4000000 in
theorem sM_calls_B56 {G : Gx} {q : Int32} (K7 : Nat → Int32 → Int32 → Int32 → Sg → Option Int32) (hK7 : ∀ (r0 : Nat) (p0 : shp r0 = (20, 41)) (l0 : r0 < 213) (x1 : Int32) (x2 : Int32) (x3 : Int32) (σ : Sg), K7 r0 x1 x2 x3 σ = some q → Vm G MX12_calls (some (.int q)) σ 7 [(0, .ref (gb G + r0)), (1, .int x1), (2, .int x2), (3, .int x3)] [] σ) (r0 : Nat) (p0 : shp r0 = (20, 41)) (l0 : r0 < 213) (x2 : Int32) (x3 : Int32) (x4 : Int32) (s0 : Int32) (σ : Sg) (h : fM_calls_B56 K7 r0 x2 x3 x4 s0 σ = some q) : Vm G MX12_calls (some (.int q)) σ 56 [(0, .ref (gb G + r0)), (2, .int x2), (3, .int x3), (4, .int x4)] [.int s0] σ := by
  unfold fM_calls_B56 at h
  refine v_istore_n dX12_calls_56 [0, 1, 2, 3, 4] rfl (by decide) rfl (v_iload dX12_calls_57 4 rfl (v_iload_n dX12_calls_59 2 rfl rfl (v_icmp_le (tgt := 68) dX12_calls_60 (by decide) (fun c7 => ?_) (fun c7 => ?_))))
  · replace h := ite_t c7 h
    exact v_iload_n dX12_calls_68 2 rfl rfl (v_sub [1, 0, 3] rfl (sM_calls_B69 K7 hK7 r0 p0 l0 s0 x3 x2 _ h))
  · replace h := ite_f c7 h
    exact v_iload dX12_calls_63 4 rfl (v_goto (tgt := 69) dX12_calls_65 (by decide) (v_sub [1, 0, 3] rfl (sM_calls_B69 K7 hK7 r0 p0 l0 s0 x3 x4 _ h)))
def fM_calls_B43 (K7 : Nat → Int32 → Int32 → Int32 → Sg → Option Int32) (r0 : Nat) (x1 : Int32) (x2 : Int32) (x3 : Int32) (s0 : Int32) (σ : Sg) : Option Int32 := if s0 ≤ x2 then fM_calls_B56 K7 r0 x2 x3 s0 x1 σ else fM_calls_B56 K7 r0 x2 x3 s0 x3 σ
set_option maxRecDepth 100000 in
set_option maxHeartbeats 4000000 in
theorem sM_calls_B43 {G : Gx} {q : Int32} (K7 : Nat → Int32 → Int32 → Int32 → Sg → Option Int32) (hK7 : ∀ (r0 : Nat) (p0 : shp r0 = (20, 41)) (l0 : r0 < 213) (x1 : Int32) (x2 : Int32) (x3 : Int32) (σ : Sg), K7 r0 x1 x2 x3 σ = some q → Vm G MX12_calls (some (.int q)) σ 7 [(0, .ref (gb G + r0)), (1, .int x1), (2, .int x2), (3, .int x3)] [] σ) (r0 : Nat) (p0 : shp r0 = (20, 41)) (l0 : r0 < 213) (x1 : Int32) (x2 : Int32) (x3 : Int32) (s0 : Int32) (σ : Sg) (h : fM_calls_B43 K7 r0 x1 x2 x3 s0 σ = some q) : Vm G MX12_calls (some (.int q)) σ 43 [(0, .ref (gb G + r0)), (1, .int x1), (2, .int x2), (3, .int x3)] [.int s0] σ := by
  unfold fM_calls_B43 at h
  refine v_istore dX12_calls_43 [0, 1, 2, 3, 4] rfl (by decide) (v_iload dX12_calls_45 0 rfl (v_iload_n dX12_calls_47 3 rfl rfl (v_icmp_le (tgt := 55) dX12_calls_48 (by decide) (fun c6 => ?_) (fun c6 => ?_))))
  · replace h := ite_t c6 h
    exact v_iload_n dX12_calls_55 2 rfl rfl (v_sub [1, 3, 4, 0] rfl (sM_calls_B56 K7 hK7 r0 p0 l0 x2 x3 s0 x1 _ h))
  · replace h := ite_f c6 h
    exact v_iload_n dX12_calls_51 4 rfl rfl (v_goto (tgt := 56) dX12_calls_52 (by decide) (v_sub [1, 3, 4, 0] rfl (sM_calls_B56 K7 hK7 r0 p0 l0 x2 x3 s0 x3 _ h)))
def fM_calls_B34 (K7 : Nat → Int32 → Int32 → Int32 → Sg → Option Int32) (r0 : Nat) (x1 : Int32) (x2 : Int32) (x3 : Int32) (σ : Sg) : Option Int32 := fM_calls_B43 K7 r0 x1 x2 x3 0 σ
set_option maxRecDepth 100000 in
set_option maxHeartbeats 4000000 in
theorem sM_calls_B34 {G : Gx} {q : Int32} (K7 : Nat → Int32 → Int32 → Int32 → Sg → Option Int32) (hK7 : ∀ (r0 : Nat) (p0 : shp r0 = (20, 41)) (l0 : r0 < 213) (x1 : Int32) (x2 : Int32) (x3 : Int32) (σ : Sg), K7 r0 x1 x2 x3 σ = some q → Vm G MX12_calls (some (.int q)) σ 7 [(0, .ref (gb G + r0)), (1, .int x1), (2, .int x2), (3, .int x3)] [] σ) (r0 : Nat) (p0 : shp r0 = (20, 41)) (l0 : r0 < 213) (x1 : Int32) (x2 : Int32) (x3 : Int32) (σ : Sg) (h : fM_calls_B34 K7 r0 x1 x2 x3 σ = some q) : Vm G MX12_calls (some (.int q)) σ 34 [(0, .ref (gb G + r0)), (1, .int x1), (2, .int x2), (3, .int x3)] [] σ := by
  unfold fM_calls_B34 at h
  exact v_iconst dX12_calls_34 rfl (v_goto (tgt := 43) dX12_calls_35 (by decide) (sM_calls_B43 K7 hK7 r0 p0 l0 x1 x2 x3 0 _ h))
def fM_calls_b7 (K7 : Nat → Int32 → Int32 → Int32 → Sg → Option Int32) (r0 : Nat) (x1 : Int32) (x2 : Int32) (x3 : Int32) (σ : Sg) : Option Int32 := if (σ r0 4) ≤ x3 then some x1 else if (0 : Int32) < (σ r0 3) then fM_calls_B34 K7 r0 x1 x2 x3 σ else if inb ((5 + (6 * x3)) + 5) 41 = true then if (σ r0 (ix ((5 + (6 * x3)) + 5))) = 1 then fM_calls_B34 K7 r0 x1 x2 x3 σ else (fM_envyOf r0 x3 σ).bind fun q5 => fM_calls_B43 K7 r0 x1 x2 x3 q5 σ else none
def fM_calls_L7 (n : Nat) : Nat → Int32 → Int32 → Int32 → Sg → Option Int32 := Nat.rec (fun _ _ _ _ _ => none) (fun _ K => fM_calls_b7 K) n
set_option maxRecDepth 100000 in
set_option maxHeartbeats 4000000 in
theorem sM_calls_b7 {G : Gx} {q : Int32} (K7 : Nat → Int32 → Int32 → Int32 → Sg → Option Int32) (hK7 : ∀ (r0 : Nat) (p0 : shp r0 = (20, 41)) (l0 : r0 < 213) (x1 : Int32) (x2 : Int32) (x3 : Int32) (σ : Sg), K7 r0 x1 x2 x3 σ = some q → Vm G MX12_calls (some (.int q)) σ 7 [(0, .ref (gb G + r0)), (1, .int x1), (2, .int x2), (3, .int x3)] [] σ) (r0 : Nat) (p0 : shp r0 = (20, 41)) (l0 : r0 < 213) (x1 : Int32) (x2 : Int32) (x3 : Int32) (σ : Sg) (h : fM_calls_b7 K7 r0 x1 x2 x3 σ = some q) : Vm G MX12_calls (some (.int q)) σ 7 [(0, .ref (gb G + r0)), (1, .int x1), (2, .int x2), (3, .int x3)] [] σ := by
  unfold fM_calls_b7 at h
  refine v_iload_n dX12_calls_7 3 rfl rfl (v_aload_n dX12_calls_8 0 rfl rfl (v_iconst dX12_calls_9 rfl (vn_iald dX12_calls_10 l0 p0 ib_4_41 ixc_4 (v_icmp_ge (tgt := 76) dX12_calls_11 (by decide) (fun c1 => ?_) (fun c1 => ?_)))))
  · replace h := ite_t c1 h
    refine v_iload_n dX12_calls_76 1 rfl rfl ?_
    replace h := Option.some.inj h
    subst h
    exact v_iret dX12_calls_77 rfl rfl rfl rfl rfl
  · replace h := ite_f c1 h
    refine v_aload_n dX12_calls_14 0 rfl rfl (v_iconst dX12_calls_15 rfl (vn_iald dX12_calls_16 l0 p0 ib_3_41 ixc_3 (v_if_gt (tgt := 34) dX12_calls_17 (by decide) (fun c2 => ?_) (fun c2 => ?_))))
    · replace h := ite_t c2 h
      exact sM_calls_B34 K7 hK7 r0 p0 l0 x1 x2 x3 _ h
    · replace h := ite_f c2 h
      refine v_aload_n dX12_calls_20 0 rfl rfl (v_iconst dX12_calls_21 rfl (v_bipush (v := 6) dX12_calls_22 rfl (v_iload_n dX12_calls_24 3 rfl rfl (v_imul dX12_calls_25 (v_iadd dX12_calls_26 (v_iconst dX12_calls_27 rfl (v_iadd dX12_calls_28 ?_)))))))
      obtain ⟨g3, h⟩ := guard_some h
      refine vn_iald dX12_calls_29 l0 p0 g3 rfl (v_iconst dX12_calls_30 rfl (v_icmp_ne (tgt := 38) dX12_calls_31 (by decide) (fun c4 => ?_) (fun c4 => ?_)))
      · replace h := ite_f c4 h
        refine v_aload_n dX12_calls_38 0 rfl rfl (v_iload_n dX12_calls_39 3 rfl rfl ?_)
        obtain ⟨q5, hq5, h⟩ := bind_some h
        refine v_callS (As := [.ref (gb G + r0), .int x3]) (S := []) dX12_calls_40 tw867 tw868 ykX12_envyOf rfl (by decide) rfl rfl (Nat.le_of_ble_eq_true rfl) (by decide) (eM_envyOf r0 p0 l0 x3 _ _ hq5) ?_
        exact sM_calls_B43 K7 hK7 r0 p0 l0 x1 x2 x3 q5 _ h
      · replace h := ite_t c4 h
        exact sM_calls_B34 K7 hK7 r0 p0 l0 x1 x2 x3 _ h
theorem sM_calls_L7 {G : Gx} {q : Int32} (n : Nat) : ∀ (r0 : Nat) (p0 : shp r0 = (20, 41)) (l0 : r0 < 213) (x1 : Int32) (x2 : Int32) (x3 : Int32) (σ : Sg) (h : fM_calls_L7 n r0 x1 x2 x3 σ = some q), Vm G MX12_calls (some (.int q)) σ 7 [(0, .ref (gb G + r0)), (1, .int x1), (2, .int x2), (3, .int x3)] [] σ := by
  induction n with
  | zero => intro r0 p0 l0 x1 x2 x3 σ h; cases h
  | succ n ih => intro r0 p0 l0 x1 x2 x3 σ h; exact sM_calls_b7  _ ih r0 p0 l0 x1 x2 x3 σ h
def fM_calls (r0 : Nat) (σ : Sg) : Option Int32 := fM_calls_L7 2000 r0 (-1000000) 0 0 σ
set_option maxRecDepth 100000 in
set_option maxHeartbeats 4000000 in
theorem eM_calls {G : Gx} (r0 : Nat) (p0 : shp r0 = (20, 41)) (l0 : r0 < 213) (σ : Sg) (q : Int32) (h : fM_calls r0 σ = some q) : Evm G yX12_calls MX12_calls [.ref (gb G + r0)] σ (some (.int q)) σ := by
  refine Ev.of (by decide +kernel) rfl rfl (Nat.le_of_ble_eq_true rfl) ?_
  show Vm G MX12_calls (some (.int q)) σ 0 [(0, .ref (gb G + r0))] [] σ
  unfold fM_calls at h
  exact v_ldc dX12_calls_0 tw686 (v_istore_n dX12_calls_2 [0, 1] rfl (by decide) rfl (v_iconst dX12_calls_3 rfl (v_istore_n dX12_calls_4 [0, 1, 2] rfl (by decide) rfl (v_iconst dX12_calls_5 rfl (v_istore_n dX12_calls_6 [0, 1, 2, 3] rfl (by decide) rfl (v_sub [3, 2, 1, 0] rfl (sM_calls_L7 2000 r0 p0 l0 (-1000000) 0 0 _ h)))))))
def fM_nearer (x0 : Int32) (x1 : Int32) (σ : Sg) : Option Int32 := if x1 ≤ x0 then (if x0 ≤ x1 then some x0 else some (x0 - 1)) else some (x0 + 1)
set_option maxRecDepth 100000 in
set_option maxHeartbeats 4000000 in
theorem eM_nearer {G : Gx} (x0 : Int32) (x1 : Int32) (σ : Sg) (q : Int32) (h : fM_nearer x0 x1 σ = some q) : Evm G yX12_nearer MX12_nearer [.int x0, .int x1] σ (some (.int q)) σ := by
  refine Ev.of (by decide +kernel) rfl rfl (Nat.le_of_ble_eq_true rfl) ?_
  show Vm G MX12_nearer (some (.int q)) σ 0 [(0, .int x0), (1, .int x1)] [] σ
  unfold fM_nearer at h
  refine v_iload_n dX12_nearer_0 0 rfl rfl (v_iload_n dX12_nearer_1 1 rfl rfl (v_icmp_ge (tgt := 11) dX12_nearer_2 (by decide) (fun c1 => ?_) (fun c1 => ?_)))
  · replace h := ite_t c1 h
    refine v_iload_n dX12_nearer_11 0 rfl rfl (v_iload_n dX12_nearer_12 1 rfl rfl (v_icmp_le (tgt := 22) dX12_nearer_13 (by decide) (fun c2 => ?_) (fun c2 => ?_)))
    · replace h := ite_t c2 h
      refine v_iload_n dX12_nearer_22 0 rfl rfl ?_
      replace h := Option.some.inj h
      subst h
      exact v_iret dX12_nearer_23 rfl rfl rfl rfl rfl
    · replace h := ite_f c2 h
      refine v_iload_n dX12_nearer_16 0 rfl rfl (v_iconst dX12_nearer_17 rfl (v_isub dX12_nearer_18 (v_goto (tgt := 23) dX12_nearer_19 (by decide) ?_)))
      replace h := Option.some.inj h
      subst h
      exact v_iret dX12_nearer_23 rfl rfl rfl rfl rfl
  · replace h := ite_f c1 h
    refine v_iload_n dX12_nearer_5 0 rfl rfl (v_iconst dX12_nearer_6 rfl (v_iadd dX12_nearer_7 (v_goto (tgt := 23) dX12_nearer_8 (by decide) ?_)))
    replace h := Option.some.inj h
    subst h
    exact v_iret dX12_nearer_23 rfl rfl rfl rfl rfl
def fM_passes (r0 : Nat) (σ : Sg) : Option Sg := ltc (wr σ r0 2 ((σ r0 2) + 1)) fun σ1 => if (σ1 r0 3) ≤ 0 then ((fM_calls r0 σ1).bind fun q3 => if q3 = (-1000000) then some σ1 else if inb ((5 + (6 * q3)) + 1) 41 = true then if (σ1 r0 1) = (σ1 r0 (ix ((5 + (6 * q3)) + 1))) then (ltc (wr σ1 r0 3 (q3 + 1)) fun σ9 => some σ9) else (fM_nearer (σ1 r0 1) (σ1 r0 (ix ((5 + (6 * q3)) + 1))) σ1).bind fun q7 => ltc (wr σ1 r0 1 q7) fun σ8 => some σ8 else none) else if inb ((5 + (6 * ((σ1 r0 3) - 1))) + 2) 41 = true then if (σ1 r0 1) = (σ1 r0 (ix ((5 + (6 * ((σ1 r0 3) - 1))) + 2))) then (if inb ((5 + (6 * ((σ1 r0 3) - 1))) + 5) 41 = true then ltc (wr σ1 r0 (ix ((5 + (6 * ((σ1 r0 3) - 1))) + 5)) 1) fun σ17 => ltc (wr σ17 r0 3 0) fun σ18 => some σ18 else none) else (fM_nearer (σ1 r0 1) (σ1 r0 (ix ((5 + (6 * ((σ1 r0 3) - 1))) + 2))) σ1).bind fun q12 => ltc (wr σ1 r0 1 q12) fun σ13 => if inb ((5 + (6 * ((σ1 r0 3) - 1))) + 1) 41 = true then ltc (wr σ13 r0 (ix ((5 + (6 * ((σ1 r0 3) - 1))) + 1)) (σ13 r0 1)) fun σ15 => some σ15 else none else none
set_option maxRecDepth 100000 in
set_option maxHeartbeats 4000000 in
theorem eM_passes {G : Gx} (r0 : Nat) (p0 : shp r0 = (20, 41)) (l0 : r0 < 213) (σ : Sg) (q : Sg) (h : fM_passes r0 σ = some q) : Evm G yX12_passes MX12_passes [.ref (gb G + r0)] σ none q := by
  refine Ev.of (by decide +kernel) rfl rfl (Nat.le_of_ble_eq_true rfl) ?_
  show Vm G MX12_passes none q 0 [(0, .ref (gb G + r0))] [] σ
  unfold fM_passes at h
  refine v_aload_n dX12_passes_0 0 rfl rfl (v_iconst dX12_passes_1 rfl (v_dup2 dX12_passes_2 rfl rfl (vn_iald dX12_passes_3 l0 p0 ib_2_41 ixc_2 (v_iconst dX12_passes_4 rfl (v_iadd dX12_passes_5 ?_)))))
  obtain ⟨σ1, eσ1, h⟩ := ltc_some h
  refine vn_iast dX12_passes_6 l0 p0 ib_2_41 ixc_2 eσ1 (v_aload_n dX12_passes_7 0 rfl rfl (v_iconst dX12_passes_8 rfl (vn_iald dX12_passes_9 l0 p0 ib_3_41 ixc_3 (v_if_le (tgt := 71) dX12_passes_10 (by decide) (fun c2 => ?_) (fun c2 => ?_)))))
  · replace h := ite_t c2 h
    refine v_aload_n dX12_passes_71 0 rfl rfl ?_
    obtain ⟨q3, hq3, h⟩ := bind_some h
    refine v_callS (As := [.ref (gb G + r0)]) (S := []) dX12_passes_72 tw864 tw865 ykX12_calls rfl (by decide) rfl rfl (Nat.le_of_ble_eq_true rfl) (by decide) (eM_calls r0 p0 l0 _ _ hq3) ?_
    refine v_istore_n dX12_passes_75 [0, 1] rfl (by decide) rfl (v_iload_n dX12_passes_76 0 rfl rfl (v_ldc dX12_passes_77 tw686 (v_icmp_ne (tgt := 83) dX12_passes_79 (by decide) (fun c4 => ?_) (fun c4 => ?_))))
    · replace h := ite_f c4 h
      refine v_aload_n dX12_passes_83 1 rfl rfl (v_iconst dX12_passes_84 rfl (v_bipush (v := 6) dX12_passes_85 rfl (v_iload_n dX12_passes_87 0 rfl rfl (v_imul dX12_passes_88 (v_iadd dX12_passes_89 (v_iconst dX12_passes_90 rfl (v_iadd dX12_passes_91 ?_)))))))
      obtain ⟨g5, h⟩ := guard_some h
      refine vn_iald dX12_passes_92 l0 p0 g5 rfl (v_istore_n dX12_passes_93 [0, 1, 2] rfl (by decide) rfl (v_aload_n dX12_passes_94 2 rfl rfl (v_iconst dX12_passes_95 rfl (vn_iald dX12_passes_96 l0 p0 ib_1_41 ixc_1 (v_iload_n dX12_passes_97 0 rfl rfl (v_icmp_ne (tgt := 110) dX12_passes_98 (by decide) (fun c6 => ?_) (fun c6 => ?_)))))))
      · replace h := ite_f c6 h
        refine v_aload_n dX12_passes_110 2 rfl rfl (v_iconst dX12_passes_111 rfl (v_aload_n dX12_passes_112 2 rfl rfl (v_iconst dX12_passes_113 rfl (vn_iald dX12_passes_114 l0 p0 ib_1_41 ixc_1 (v_iload_n dX12_passes_115 0 rfl rfl ?_)))))
        obtain ⟨q7, hq7, h⟩ := bind_some h
        refine v_callS (As := [.int (σ1 r0 1), .int (σ1 r0 (ix ((5 + (6 * q3)) + 1)))]) (S := [.int 1, .ref (gb G + r0)]) dX12_passes_116 tw861 tw862 ykX12_nearer rfl (by decide) rfl rfl (Nat.le_of_ble_eq_true rfl) (by decide) (eM_nearer (σ1 r0 1) (σ1 r0 (ix ((5 + (6 * q3)) + 1))) _ _ hq7) ?_
        obtain ⟨σ8, eσ8, h⟩ := ltc_some h
        refine vn_iast dX12_passes_119 l0 p0 ib_1_41 ixc_1 eσ8 ?_
        replace h := Option.some.inj h
        subst h
        exact v_vret dX12_passes_120 rfl rfl rfl rfl rfl
      · replace h := ite_t c6 h
        refine v_aload_n dX12_passes_101 2 rfl rfl (v_iconst dX12_passes_102 rfl (v_iload_n dX12_passes_103 1 rfl rfl (v_iconst dX12_passes_104 rfl (v_iadd dX12_passes_105 ?_))))
        obtain ⟨σ9, eσ9, h⟩ := ltc_some h
        refine vn_iast dX12_passes_106 l0 p0 ib_3_41 ixc_3 eσ9 (v_goto (tgt := 120) dX12_passes_107 (by decide) ?_)
        replace h := Option.some.inj h
        subst h
        exact v_vret dX12_passes_120 rfl rfl rfl rfl rfl
    · replace h := ite_t c4 h
      replace h := Option.some.inj h
      subst h
      exact v_vret dX12_passes_82 rfl rfl rfl rfl rfl
  · replace h := ite_f c2 h
    refine v_iconst dX12_passes_13 rfl (v_bipush (v := 6) dX12_passes_14 rfl (v_aload_n dX12_passes_16 0 rfl rfl (v_iconst dX12_passes_17 rfl (vn_iald dX12_passes_18 l0 p0 ib_3_41 ixc_3 (v_iconst dX12_passes_19 rfl (v_isub dX12_passes_20 (v_imul dX12_passes_21 (v_iadd dX12_passes_22 (v_istore_n dX12_passes_23 [0, 1] rfl (by decide) rfl ?_)))))))))
    refine v_aload_n dX12_passes_24 1 rfl rfl (v_iconst dX12_passes_25 rfl (vn_iald dX12_passes_26 l0 p0 ib_1_41 ixc_1 (v_aload_n dX12_passes_27 1 rfl rfl (v_iload_n dX12_passes_28 0 rfl rfl (v_iconst dX12_passes_29 rfl (v_iadd dX12_passes_30 ?_))))))
    obtain ⟨g10, h⟩ := guard_some h
    refine vn_iald dX12_passes_31 l0 p0 g10 rfl (v_icmp_ne (tgt := 48) dX12_passes_32 (by decide) (fun c11 => ?_) (fun c11 => ?_))
    · replace h := ite_f c11 h
      refine v_aload_n dX12_passes_48 1 rfl rfl (v_iconst dX12_passes_49 rfl (v_aload_n dX12_passes_50 1 rfl rfl (v_iconst dX12_passes_51 rfl (vn_iald dX12_passes_52 l0 p0 ib_1_41 ixc_1 (v_aload_n dX12_passes_53 1 rfl rfl (v_iload_n dX12_passes_54 0 rfl rfl (v_iconst dX12_passes_55 rfl (v_iadd dX12_passes_56 (vn_iald dX12_passes_57 l0 p0 g10 rfl ?_)))))))))
      obtain ⟨q12, hq12, h⟩ := bind_some h
      refine v_callS (As := [.int (σ1 r0 1), .int (σ1 r0 (ix ((5 + (6 * ((σ1 r0 3) - 1))) + 2)))]) (S := [.int 1, .ref (gb G + r0)]) dX12_passes_58 tw861 tw862 ykX12_nearer rfl (by decide) rfl rfl (Nat.le_of_ble_eq_true rfl) (by decide) (eM_nearer (σ1 r0 1) (σ1 r0 (ix ((5 + (6 * ((σ1 r0 3) - 1))) + 2))) _ _ hq12) ?_
      obtain ⟨σ13, eσ13, h⟩ := ltc_some h
      refine vn_iast dX12_passes_61 l0 p0 ib_1_41 ixc_1 eσ13 (v_aload_n dX12_passes_62 1 rfl rfl (v_iload_n dX12_passes_63 0 rfl rfl (v_iconst dX12_passes_64 rfl (v_iadd dX12_passes_65 (v_aload_n dX12_passes_66 1 rfl rfl (v_iconst dX12_passes_67 rfl (vn_iald dX12_passes_68 l0 p0 ib_1_41 ixc_1 ?_)))))))
      obtain ⟨g14, h⟩ := guard_some h
      obtain ⟨σ15, eσ15, h⟩ := ltc_some h
      refine vn_iast dX12_passes_69 l0 p0 g14 rfl eσ15 ?_
      replace h := Option.some.inj h
      subst h
      exact v_vret dX12_passes_70 rfl rfl rfl rfl rfl
    · replace h := ite_t c11 h
      refine v_aload_n dX12_passes_35 1 rfl rfl (v_iload_n dX12_passes_36 0 rfl rfl (v_iconst dX12_passes_37 rfl (v_iadd dX12_passes_38 (v_iconst dX12_passes_39 rfl ?_))))
      obtain ⟨g16, h⟩ := guard_some h
      obtain ⟨σ17, eσ17, h⟩ := ltc_some h
      refine vn_iast dX12_passes_40 l0 p0 g16 rfl eσ17 (v_aload_n dX12_passes_41 1 rfl rfl (v_iconst dX12_passes_42 rfl (v_iconst dX12_passes_43 rfl ?_)))
      obtain ⟨σ18, eσ18, h⟩ := ltc_some h
      refine vn_iast dX12_passes_44 l0 p0 ib_3_41 ixc_3 eσ18 (v_goto (tgt := 70) dX12_passes_45 (by decide) ?_)
      replace h := Option.some.inj h
      subst h
      exact v_vret dX12_passes_70 rfl rfl rfl rfl rfl
def fM_broughtIn_b4 (K4 : Nat → Int32 → Int32 → Sg → Option Int32) (r0 : Nat) (x1 : Int32) (x2 : Int32) (σ : Sg) : Option Int32 := if (σ r0 4) ≤ x2 then some x1 else if inb ((5 + (6 * x2)) + 5) 41 = true then K4 r0 (x1 ||| ((σ r0 (ix ((5 + (6 * x2)) + 5))) <<< (x2 &&& 31))) (x2 + 1) σ else none
def fM_broughtIn_L4 (n : Nat) : Nat → Int32 → Int32 → Sg → Option Int32 := Nat.rec (fun _ _ _ _ => none) (fun _ K => fM_broughtIn_b4 K) n
set_option maxRecDepth 100000 in
set_option maxHeartbeats 4000000 in
theorem sM_broughtIn_b4 {G : Gx} {q : Int32} (K4 : Nat → Int32 → Int32 → Sg → Option Int32) (hK4 : ∀ (r0 : Nat) (p0 : shp r0 = (20, 41)) (l0 : r0 < 213) (x1 : Int32) (x2 : Int32) (σ : Sg), K4 r0 x1 x2 σ = some q → Vm G MX12_broughtIn (some (.int q)) σ 4 [(0, .ref (gb G + r0)), (1, .int x1), (2, .int x2)] [] σ) (r0 : Nat) (p0 : shp r0 = (20, 41)) (l0 : r0 < 213) (x1 : Int32) (x2 : Int32) (σ : Sg) (h : fM_broughtIn_b4 K4 r0 x1 x2 σ = some q) : Vm G MX12_broughtIn (some (.int q)) σ 4 [(0, .ref (gb G + r0)), (1, .int x1), (2, .int x2)] [] σ := by
  unfold fM_broughtIn_b4 at h
  refine v_iload_n dX12_broughtIn_4 2 rfl rfl (v_aload_n dX12_broughtIn_5 0 rfl rfl (v_iconst dX12_broughtIn_6 rfl (vn_iald dX12_broughtIn_7 l0 p0 ib_4_41 ixc_4 (v_icmp_ge (tgt := 32) dX12_broughtIn_8 (by decide) (fun c1 => ?_) (fun c1 => ?_)))))
  · replace h := ite_t c1 h
    refine v_iload_n dX12_broughtIn_32 1 rfl rfl ?_
    replace h := Option.some.inj h
    subst h
    exact v_iret dX12_broughtIn_33 rfl rfl rfl rfl rfl
  · replace h := ite_f c1 h
    refine v_iload_n dX12_broughtIn_11 1 rfl rfl (v_aload_n dX12_broughtIn_12 0 rfl rfl (v_iconst dX12_broughtIn_13 rfl (v_bipush (v := 6) dX12_broughtIn_14 rfl (v_iload_n dX12_broughtIn_16 2 rfl rfl (v_imul dX12_broughtIn_17 (v_iadd dX12_broughtIn_18 (v_iconst dX12_broughtIn_19 rfl (v_iadd dX12_broughtIn_20 ?_))))))))
    obtain ⟨g2, h⟩ := guard_some h
    exact vn_iald dX12_broughtIn_21 l0 p0 g2 rfl (v_iload_n dX12_broughtIn_22 2 rfl rfl (v_ishl dX12_broughtIn_23 (v_ior dX12_broughtIn_24 (v_istore_n dX12_broughtIn_25 [0, 1, 2] rfl (by decide) rfl (v_iinc (v := x2 + 1) dX12_broughtIn_26 2 rfl rfl [0, 1, 2] rfl (by decide) (v_goto (tgt := 4) dX12_broughtIn_29 (by decide) (v_sub [2, 1, 0] rfl (hK4 r0 p0 l0 (x1 ||| ((σ r0 (ix ((5 + (6 * x2)) + 5))) <<< (x2 &&& 31))) (x2 + 1) _ h))))))))
theorem sM_broughtIn_L4 {G : Gx} {q : Int32} (n : Nat) : ∀ (r0 : Nat) (p0 : shp r0 = (20, 41)) (l0 : r0 < 213) (x1 : Int32) (x2 : Int32) (σ : Sg) (h : fM_broughtIn_L4 n r0 x1 x2 σ = some q), Vm G MX12_broughtIn (some (.int q)) σ 4 [(0, .ref (gb G + r0)), (1, .int x1), (2, .int x2)] [] σ := by
  induction n with
  | zero => intro r0 p0 l0 x1 x2 σ h; cases h
  | succ n ih => intro r0 p0 l0 x1 x2 σ h; exact sM_broughtIn_b4  _ ih r0 p0 l0 x1 x2 σ h
def fM_broughtIn (r0 : Nat) (σ : Sg) : Option Int32 := fM_broughtIn_L4 2000 r0 0 0 σ
set_option maxRecDepth 100000 in
set_option maxHeartbeats 4000000 in
theorem eM_broughtIn {G : Gx} (r0 : Nat) (p0 : shp r0 = (20, 41)) (l0 : r0 < 213) (σ : Sg) (q : Int32) (h : fM_broughtIn r0 σ = some q) : Evm G yX12_broughtIn MX12_broughtIn [.ref (gb G + r0)] σ (some (.int q)) σ := by
  refine Ev.of (by decide +kernel) rfl rfl (Nat.le_of_ble_eq_true rfl) ?_
  show Vm G MX12_broughtIn (some (.int q)) σ 0 [(0, .ref (gb G + r0))] [] σ
  unfold fM_broughtIn at h
  exact v_iconst dX12_broughtIn_0 rfl (v_istore_n dX12_broughtIn_1 [0, 1] rfl (by decide) rfl (v_iconst dX12_broughtIn_2 rfl (v_istore_n dX12_broughtIn_3 [0, 1, 2] rfl (by decide) rfl (v_sub [2, 1, 0] rfl (sM_broughtIn_L4 2000 r0 p0 l0 0 0 _ h)))))
def fM_tries_b15 (K15 : Int32 → Int32 → Sg → Option Sg) (x1 : Int32) (x2 : Int32) (σ : Sg) : Option Sg := if x1 ≤ x2 then some σ else (fM_passes 208 σ).bind fun q3 => K15 x1 (x2 + 1) q3
def fM_tries_L15 (n : Nat) : Int32 → Int32 → Sg → Option Sg := Nat.rec (fun _ _ _ => none) (fun _ K => fM_tries_b15 K) n
set_option maxRecDepth 100000 in
set_option maxHeartbeats 4000000 in
theorem sM_tries_b15 {G : Gx} {q : Sg} (K15 : Int32 → Int32 → Sg → Option Sg) (hK15 : ∀ (x1 : Int32) (x2 : Int32) (σ : Sg), K15 x1 x2 σ = some q → Vm G MX12_tries none q 15 [(0, .ref (gb G + 200)), (1, .int x1), (2, .int x2)] [] σ) (x1 : Int32) (x2 : Int32) (σ : Sg) (h : fM_tries_b15 K15 x1 x2 σ = some q) : Vm G MX12_tries none q 15 [(0, .ref (gb G + 200)), (1, .int x1), (2, .int x2)] [] σ := by
  unfold fM_tries_b15 at h
  refine v_iload_n dX12_tries_15 2 rfl rfl (v_iload_n dX12_tries_16 1 rfl rfl (v_icmp_ge (tgt := 33) dX12_tries_17 (by decide) (fun c2 => ?_) (fun c2 => ?_)))
  · replace h := ite_t c2 h
    replace h := Option.some.inj h
    subst h
    exact v_vret dX12_tries_33 rfl rfl rfl rfl rfl
  · replace h := ite_f c2 h
    refine v_aload_n dX12_tries_20 0 rfl rfl (vm_getR (t := 208) dX12_tries_21 fsX12_31 lc_200 shc_200 (by decide) rf_200_15 ?_)
    obtain ⟨q3, hq3, h⟩ := bind_some h
    refine v_callS (As := [.ref (gb G + 208)]) (S := []) dX12_tries_24 tw858 tw859 ykX12_passes rfl (by decide) rfl rfl (Nat.le_of_ble_eq_true rfl) (by decide) (eM_passes 208 sha_208 lc_208 _ _ hq3) ?_
    exact v_iinc (v := x2 + 1) dX12_tries_27 2 rfl rfl [0, 1, 2] rfl (by decide) (v_goto (tgt := 15) dX12_tries_30 (by decide) (v_sub [1, 2, 0] rfl (hK15 x1 (x2 + 1) _ h)))
theorem sM_tries_L15 {G : Gx} {q : Sg} (n : Nat) : ∀ (x1 : Int32) (x2 : Int32) (σ : Sg) (h : fM_tries_L15 n x1 x2 σ = some q), Vm G MX12_tries none q 15 [(0, .ref (gb G + 200)), (1, .int x1), (2, .int x2)] [] σ := by
  induction n with
  | zero => intro x1 x2 σ h; cases h
  | succ n ih => intro x1 x2 σ h; exact sM_tries_b15  _ ih x1 x2 σ h
def fM_tries (x1 : Int32) (σ : Sg) : Option Sg := (fM_copies 206 41 0 208 41 0 σ).bind fun q1 => fM_tries_L15 2000 x1 0 q1
set_option maxRecDepth 100000 in
set_option maxHeartbeats 4000000 in
theorem eM_tries {G : Gx} (x1 : Int32) (σ : Sg) (q : Sg) (h : fM_tries x1 σ = some q) : Evm G yX12_tries MX12_tries [.ref (gb G + 200), .int x1] σ none q := by
  refine Ev.of (by decide +kernel) rfl rfl (Nat.le_of_ble_eq_true rfl) ?_
  show Vm G MX12_tries none q 0 [(0, .ref (gb G + 200)), (1, .int x1)] [] σ
  unfold fM_tries at h
  refine v_aload_n dX12_tries_0 0 rfl rfl (vm_getR (t := 206) dX12_tries_1 fsX12_25 lc_200 shc_200 (by decide) rf_200_13 (v_iconst dX12_tries_4 rfl (v_aload_n dX12_tries_5 0 rfl rfl (vm_getR (t := 208) dX12_tries_6 fsX12_31 lc_200 shc_200 (by decide) rf_200_15 (v_iconst dX12_tries_9 rfl ?_)))))
  obtain ⟨q1, hq1, h⟩ := bind_some h
  refine v_callS (As := [.ref (gb G + 206), .int 0, .ref (gb G + 208), .int 0]) (S := []) dX12_tries_10 tw838 tw839 ykX12_copies rfl (by decide) rfl rfl (Nat.le_of_ble_eq_true rfl) (by decide) (eM_copies 206 41 sha_206 lc_206 0 208 41 sha_208 lc_208 0 _ _ hq1) ?_
  exact v_iconst dX12_tries_13 rfl (v_istore_n dX12_tries_14 [0, 1, 2] rfl (by decide) rfl (v_sub [1, 2, 0] rfl (sM_tries_L15 2000 x1 0 _ h)))
def fM_broughtBy_b2 (K2 : Int32 → Int32 → Int32 → Sg → Option (Int32 × Sg)) (x1 : Int32) (x2 : Int32) (x3 : Int32) (σ : Sg) : Option (Int32 × Sg) := if x2 < x3 then some ((-1000000), σ) else if inb ((5 + (6 * x1)) + 5) 41 = true then if (σ 208 (ix ((5 + (6 * x1)) + 5))) = 1 then some (x3, σ) else (fM_passes 208 σ).bind fun q4 => K2 x1 x2 (x3 + 1) q4 else none
def fM_broughtBy_L2 (n : Nat) : Int32 → Int32 → Int32 → Sg → Option (Int32 × Sg) := Nat.rec (fun _ _ _ _ => none) (fun _ K => fM_broughtBy_b2 K) n
set_option maxRecDepth 100000 in
set_option maxHeartbeats 4000000 in
theorem sM_broughtBy_b2 {G : Gx} {q : (Int32 × Sg)} (K2 : Int32 → Int32 → Int32 → Sg → Option (Int32 × Sg)) (hK2 : ∀ (x1 : Int32) (x2 : Int32) (x3 : Int32) (σ : Sg), K2 x1 x2 x3 σ = some q → Vm G MX12_broughtBy (some (.int q.1)) q.2 2 [(0, .ref (gb G + 200)), (1, .int x1), (2, .int x2), (3, .int x3)] [] σ) (x1 : Int32) (x2 : Int32) (x3 : Int32) (σ : Sg) (h : fM_broughtBy_b2 K2 x1 x2 x3 σ = some q) : Vm G MX12_broughtBy (some (.int q.1)) q.2 2 [(0, .ref (gb G + 200)), (1, .int x1), (2, .int x2), (3, .int x3)] [] σ := by
  unfold fM_broughtBy_b2 at h
  refine v_iload_n dX12_broughtBy_2 3 rfl rfl (v_iload_n dX12_broughtBy_3 2 rfl rfl (v_icmp_gt (tgt := 39) dX12_broughtBy_4 (by decide) (fun c1 => ?_) (fun c1 => ?_)))
  · replace h := ite_t c1 h
    refine v_ldc dX12_broughtBy_39 tw686 ?_
    replace h := Option.some.inj h
    subst h
    exact v_iret dX12_broughtBy_41 rfl rfl rfl rfl rfl
  · replace h := ite_f c1 h
    refine v_aload_n dX12_broughtBy_7 0 rfl rfl (vm_getR (t := 208) dX12_broughtBy_8 fsX12_31 lc_200 shc_200 (by decide) rf_200_15 (v_iconst dX12_broughtBy_11 rfl (v_bipush (v := 6) dX12_broughtBy_12 rfl (v_iload_n dX12_broughtBy_14 1 rfl rfl (v_imul dX12_broughtBy_15 (v_iadd dX12_broughtBy_16 (v_iconst dX12_broughtBy_17 rfl (v_iadd dX12_broughtBy_18 ?_))))))))
    obtain ⟨g2, h⟩ := guard_some h
    refine vn_iald dX12_broughtBy_19 lc_208 sha_208 g2 rfl (v_iconst dX12_broughtBy_20 rfl (v_icmp_ne (tgt := 26) dX12_broughtBy_21 (by decide) (fun c3 => ?_) (fun c3 => ?_)))
    · replace h := ite_f c3 h
      refine v_aload_n dX12_broughtBy_26 0 rfl rfl (vm_getR (t := 208) dX12_broughtBy_27 fsX12_31 lc_200 shc_200 (by decide) rf_200_15 ?_)
      obtain ⟨q4, hq4, h⟩ := bind_some h
      refine v_callS (As := [.ref (gb G + 208)]) (S := []) dX12_broughtBy_30 tw858 tw859 ykX12_passes rfl (by decide) rfl rfl (Nat.le_of_ble_eq_true rfl) (by decide) (eM_passes 208 sha_208 lc_208 _ _ hq4) ?_
      exact v_iinc (v := x3 + 1) dX12_broughtBy_33 3 rfl rfl [0, 1, 2, 3] rfl (by decide) (v_goto (tgt := 2) dX12_broughtBy_36 (by decide) (v_sub [1, 2, 3, 0] rfl (hK2 x1 x2 (x3 + 1) _ h)))
    · replace h := ite_t c3 h
      refine v_iload_n dX12_broughtBy_24 3 rfl rfl ?_
      replace h := Option.some.inj h
      subst h
      exact v_iret dX12_broughtBy_25 rfl rfl rfl rfl rfl
theorem sM_broughtBy_L2 {G : Gx} {q : (Int32 × Sg)} (n : Nat) : ∀ (x1 : Int32) (x2 : Int32) (x3 : Int32) (σ : Sg) (h : fM_broughtBy_L2 n x1 x2 x3 σ = some q), Vm G MX12_broughtBy (some (.int q.1)) q.2 2 [(0, .ref (gb G + 200)), (1, .int x1), (2, .int x2), (3, .int x3)] [] σ := by
  induction n with
  | zero => intro x1 x2 x3 σ h; cases h
  | succ n ih => intro x1 x2 x3 σ h; exact sM_broughtBy_b2  _ ih x1 x2 x3 σ h
def fM_broughtBy (x1 : Int32) (x2 : Int32) (σ : Sg) : Option (Int32 × Sg) := fM_broughtBy_L2 2000 x1 x2 0 σ
set_option maxRecDepth 100000 in
set_option maxHeartbeats 4000000 in
theorem eM_broughtBy {G : Gx} (x1 : Int32) (x2 : Int32) (σ : Sg) (q : (Int32 × Sg)) (h : fM_broughtBy x1 x2 σ = some q) : Evm G yX12_broughtBy MX12_broughtBy [.ref (gb G + 200), .int x1, .int x2] σ (some (.int q.1)) q.2 := by
  refine Ev.of (by decide +kernel) rfl rfl (Nat.le_of_ble_eq_true rfl) ?_
  show Vm G MX12_broughtBy (some (.int q.1)) q.2 0 [(0, .ref (gb G + 200)), (1, .int x1), (2, .int x2)] [] σ
  unfold fM_broughtBy at h
  exact v_iconst dX12_broughtBy_0 rfl (v_istore_n dX12_broughtBy_1 [0, 1, 2, 3] rfl (by decide) rfl (v_sub [1, 2, 3, 0] rfl (sM_broughtBy_L2 2000 x1 x2 0 _ h)))
def fM_notes_B49 (σ : Sg) : Option Sg := (fM_copies 206 41 0 209 984 (41 * (σ 200 17)) σ).bind fun q2 => ltc (wr q2 200 17 ((q2 200 17) + 1)) fun σ3 => some σ3
set_option maxRecDepth 100000 in
set_option maxHeartbeats 4000000 in
theorem sM_notes_B49 {G : Gx} {q : Sg} (σ : Sg) (h : fM_notes_B49 σ = some q) : Vm G MX12_notes none q 49 [(0, .ref (gb G + 200))] [] σ := by
  unfold fM_notes_B49 at h
  refine v_aload_n dX12_notes_49 0 rfl rfl (vm_getR (t := 206) dX12_notes_50 fsX12_25 lc_200 shc_200 (by decide) rf_200_13 (v_iconst dX12_notes_53 rfl (v_aload_n dX12_notes_54 0 rfl rfl (vm_getR (t := 209) dX12_notes_55 fsX12_34 lc_200 shc_200 (by decide) rf_200_16 (v_bipush (v := 41) dX12_notes_58 rfl (v_aload_n dX12_notes_60 0 rfl rfl (vm_getI dX12_notes_61 fsX12_132 lc_200 shc_200 (by decide) rf_200_17 (v_imul dX12_notes_64 ?_))))))))
  obtain ⟨q2, hq2, h⟩ := bind_some h
  refine v_callS (As := [.ref (gb G + 206), .int 0, .ref (gb G + 209), .int (41 * (σ 200 17))]) (S := []) dX12_notes_65 tw838 tw839 ykX12_copies rfl (by decide) rfl rfl (Nat.le_of_ble_eq_true rfl) (by decide) (eM_copies 206 41 sha_206 lc_206 0 209 984 sha_209 lc_209 (41 * (σ 200 17)) _ _ hq2) ?_
  refine v_aload_n dX12_notes_68 0 rfl rfl (v_dup dX12_notes_69 rfl (vm_getI dX12_notes_70 fsX12_132 lc_200 shc_200 (by decide) rf_200_17 (v_iconst dX12_notes_73 rfl (v_iadd dX12_notes_74 ?_))))
  obtain ⟨σ3, eσ3, h⟩ := ltc_some h
  refine vn_put dX12_notes_75 fsX12_132 lc_200 shc_200 (by decide) rf_200_17 eσ3 ?_
  replace h := Option.some.inj h
  subst h
  exact v_vret dX12_notes_78 rfl rfl rfl rfl rfl
def fM_notes_b11 (K11 : Int32 → Sg → Option Sg) (x1 : Int32) (σ : Sg) : Option Sg := if (943 : Int32) ≤ x1 then (ltc (wr σ 200 17 ((σ 200 17) - 1)) fun σ5 => fM_notes_B49 σ5) else if inb (x1 + 41) 984 = true then if inb x1 984 = true then ltc (wr σ 209 (ix x1) (σ 209 (ix (x1 + 41)))) fun σ8 => K11 (x1 + 1) σ8 else none else none
def fM_notes_L11 (n : Nat) : Int32 → Sg → Option Sg := Nat.rec (fun _ _ => none) (fun _ K => fM_notes_b11 K) n
set_option maxRecDepth 100000 in
set_option maxHeartbeats 4000000 in
theorem sM_notes_b11 {G : Gx} {q : Sg} (K11 : Int32 → Sg → Option Sg) (hK11 : ∀ (x1 : Int32) (σ : Sg), K11 x1 σ = some q → Vm G MX12_notes none q 11 [(0, .ref (gb G + 200)), (1, .int x1)] [] σ) (x1 : Int32) (σ : Sg) (h : fM_notes_b11 K11 x1 σ = some q) : Vm G MX12_notes none q 11 [(0, .ref (gb G + 200)), (1, .int x1)] [] σ := by
  unfold fM_notes_b11 at h
  refine v_iload_n dX12_notes_11 1 rfl rfl (v_sipush (v := 943) dX12_notes_12 rfl (v_icmp_ge (tgt := 39) dX12_notes_15 (by decide) (fun c4 => ?_) (fun c4 => ?_)))
  · replace h := ite_t c4 h
    refine v_aload_n dX12_notes_39 0 rfl rfl (v_dup dX12_notes_40 rfl (vm_getI dX12_notes_41 fsX12_132 lc_200 shc_200 (by decide) rf_200_17 (v_iconst dX12_notes_44 rfl (v_isub dX12_notes_45 ?_))))
    obtain ⟨σ5, eσ5, h⟩ := ltc_some h
    exact vn_put dX12_notes_46 fsX12_132 lc_200 shc_200 (by decide) rf_200_17 eσ5 (v_sub [0] rfl (sM_notes_B49 _ h))
  · replace h := ite_f c4 h
    refine v_aload_n dX12_notes_18 0 rfl rfl (vm_getR (t := 209) dX12_notes_19 fsX12_34 lc_200 shc_200 (by decide) rf_200_16 (v_iload_n dX12_notes_22 1 rfl rfl (v_aload_n dX12_notes_23 0 rfl rfl (vm_getR (t := 209) dX12_notes_24 fsX12_34 lc_200 shc_200 (by decide) rf_200_16 (v_iload_n dX12_notes_27 1 rfl rfl (v_bipush (v := 41) dX12_notes_28 rfl (v_iadd dX12_notes_30 ?_)))))))
    obtain ⟨g6, h⟩ := guard_some h
    refine vn_iald dX12_notes_31 lc_209 sha_209 g6 rfl ?_
    obtain ⟨g7, h⟩ := guard_some h
    obtain ⟨σ8, eσ8, h⟩ := ltc_some h
    exact vn_iast dX12_notes_32 lc_209 sha_209 g7 rfl eσ8 (v_iinc (v := x1 + 1) dX12_notes_33 1 rfl rfl [0, 1] rfl (by decide) (v_goto (tgt := 11) dX12_notes_36 (by decide) (v_sub [1, 0] rfl (hK11 (x1 + 1) _ h))))
theorem sM_notes_L11 {G : Gx} {q : Sg} (n : Nat) : ∀ (x1 : Int32) (σ : Sg) (h : fM_notes_L11 n x1 σ = some q), Vm G MX12_notes none q 11 [(0, .ref (gb G + 200)), (1, .int x1)] [] σ := by
  induction n with
  | zero => intro x1 σ h; cases h
  | succ n ih => intro x1 σ h; exact sM_notes_b11  _ ih x1 σ h
def fM_notes (σ : Sg) : Option Sg := if (σ 200 17) = 24 then fM_notes_L11 2000 0 σ else fM_notes_B49 σ
set_option maxRecDepth 100000 in
set_option maxHeartbeats 4000000 in
theorem eM_notes {G : Gx} (σ : Sg) (q : Sg) (h : fM_notes σ = some q) : Evm G yX12_notes MX12_notes [.ref (gb G + 200)] σ none q := by
  refine Ev.of (by decide +kernel) rfl rfl (Nat.le_of_ble_eq_true rfl) ?_
  show Vm G MX12_notes none q 0 [(0, .ref (gb G + 200))] [] σ
  unfold fM_notes at h
  refine v_aload_n dX12_notes_0 0 rfl rfl (vm_getI dX12_notes_1 fsX12_132 lc_200 shc_200 (by decide) rf_200_17 (v_bipush (v := 24) dX12_notes_4 rfl (v_icmp_ne (tgt := 49) dX12_notes_6 (by decide) (fun c1 => ?_) (fun c1 => ?_))))
  · replace h := ite_f c1 h
    exact sM_notes_B49 _ h
  · replace h := ite_t c1 h
    exact v_iconst dX12_notes_9 rfl (v_istore_n dX12_notes_10 [0, 1] rfl (by decide) rfl (v_sub [1, 0] rfl (sM_notes_L11 2000 0 _ h)))
def fM_steps_b42 (K42 : Int32 → Int32 → Sg → Option (Int32 × Sg)) (x1 : Int32) (x2 : Int32) (σ : Sg) : Option (Int32 × Sg) := if x1 ≤ x2 then some (σ 206 1, σ) else (fM_notes σ).bind fun q7 => (fM_passes 206 q7).bind fun q8 => K42 x1 (x2 + 1) q8
def fM_steps_L42 (n : Nat) : Int32 → Int32 → Sg → Option (Int32 × Sg) := Nat.rec (fun _ _ _ => none) (fun _ K => fM_steps_b42 K) n
set_option maxRecDepth 100000 in
set_option maxHeartbeats 4000000 in
theorem sM_steps_b42 {G : Gx} {q : (Int32 × Sg)} (K42 : Int32 → Int32 → Sg → Option (Int32 × Sg)) (hK42 : ∀ (x1 : Int32) (x2 : Int32) (σ : Sg), K42 x1 x2 σ = some q → Vm G MX12_steps (some (.int q.1)) q.2 42 [(0, .ref (gb G + 200)), (1, .int x1), (2, .int x2)] [] σ) (x1 : Int32) (x2 : Int32) (σ : Sg) (h : fM_steps_b42 K42 x1 x2 σ = some q) : Vm G MX12_steps (some (.int q.1)) q.2 42 [(0, .ref (gb G + 200)), (1, .int x1), (2, .int x2)] [] σ := by
  unfold fM_steps_b42 at h
  refine v_iload_n dX12_steps_42 2 rfl rfl (v_iload_n dX12_steps_43 1 rfl rfl (v_icmp_ge (tgt := 64) dX12_steps_44 (by decide) (fun c6 => ?_) (fun c6 => ?_)))
  · replace h := ite_t c6 h
    refine v_aload_n dX12_steps_64 0 rfl rfl (vm_getR (t := 206) dX12_steps_65 fsX12_25 lc_200 shc_200 (by decide) rf_200_13 (v_iconst dX12_steps_68 rfl (vn_iald dX12_steps_69 lc_206 sha_206 ib_1_41 ixc_1 ?_)))
    replace h := Option.some.inj h
    subst h
    exact v_iret dX12_steps_70 rfl rfl rfl rfl rfl
  · replace h := ite_f c6 h
    refine v_aload_n dX12_steps_47 0 rfl rfl ?_
    obtain ⟨q7, hq7, h⟩ := bind_some h
    refine v_callV (As := []) (S := []) dX12_steps_48 tw854 tw856 tw28 ykX12_notes lc_200 shc_200 (by decide) ok_11 rfl (by decide) rfl rfl (Nat.le_of_ble_eq_true rfl) (by decide) (eM_notes _ _ hq7) ?_
    refine v_aload_n dX12_steps_51 0 rfl rfl (vm_getR (t := 206) dX12_steps_52 fsX12_25 lc_200 shc_200 (by decide) rf_200_13 ?_)
    obtain ⟨q8, hq8, h⟩ := bind_some h
    refine v_callS (As := [.ref (gb G + 206)]) (S := []) dX12_steps_55 tw858 tw859 ykX12_passes rfl (by decide) rfl rfl (Nat.le_of_ble_eq_true rfl) (by decide) (eM_passes 206 sha_206 lc_206 _ _ hq8) ?_
    exact v_iinc (v := x2 + 1) dX12_steps_58 2 rfl rfl [0, 1, 2] rfl (by decide) (v_goto (tgt := 42) dX12_steps_61 (by decide) (v_sub [1, 2, 0] rfl (hK42 x1 (x2 + 1) _ h)))
theorem sM_steps_L42 {G : Gx} {q : (Int32 × Sg)} (n : Nat) : ∀ (x1 : Int32) (x2 : Int32) (σ : Sg) (h : fM_steps_L42 n x1 x2 σ = some q), Vm G MX12_steps (some (.int q.1)) q.2 42 [(0, .ref (gb G + 200)), (1, .int x1), (2, .int x2)] [] σ := by
  induction n with
  | zero => intro x1 x2 σ h; cases h
  | succ n ih => intro x1 x2 σ h; exact sM_steps_b42  _ ih x1 x2 σ h
def fM_steps (x1 : Int32) (σ : Sg) : Option (Int32 × Sg) := (fM_isHouse σ).bind fun q1 => if q1 = 0 then some ((-1000002), σ) else (fM_in x1 1 24 σ).bind fun q3 => if q3 = 0 then some ((-1000001), σ) else if ((σ 206 2) + x1) ≤ 999 then fM_steps_L42 2000 x1 0 σ else some ((-1000003), σ)
set_option maxRecDepth 100000 in
set_option maxHeartbeats 4000000 in
theorem eM_steps {G : Gx} (x1 : Int32) (σ : Sg) (q : (Int32 × Sg)) (h : fM_steps x1 σ = some q) : Evm G yX12_steps MX12_steps [.ref (gb G + 200), .int x1] σ (some (.int q.1)) q.2 := by
  refine Ev.of (by decide +kernel) rfl rfl (Nat.le_of_ble_eq_true rfl) ?_
  show Vm G MX12_steps (some (.int q.1)) q.2 0 [(0, .ref (gb G + 200)), (1, .int x1)] [] σ
  unfold fM_steps at h
  refine v_aload_n dX12_steps_0 0 rfl rfl ?_
  obtain ⟨q1, hq1, h⟩ := bind_some h
  refine v_callV (As := []) (S := []) dX12_steps_1 tw849 tw851 tw27 ykX12_isHouse lc_200 shc_200 (by decide) ok_11 rfl (by decide) rfl rfl (Nat.le_of_ble_eq_true rfl) (by decide) (eM_isHouse _ _ hq1) ?_
  refine v_if_ne (tgt := 10) dX12_steps_4 (by decide) (fun c2 => ?_) (fun c2 => ?_)
  · replace h := ite_f c2 h
    refine v_iload_n dX12_steps_10 1 rfl rfl (v_iconst dX12_steps_11 rfl (v_bipush (v := 24) dX12_steps_12 rfl ?_))
    obtain ⟨q3, hq3, h⟩ := bind_some h
    refine v_callS (As := [.int x1, .int 1, .int 24]) (S := []) dX12_steps_14 tw761 tw762 ykX12_in rfl (by decide) rfl rfl (Nat.le_of_ble_eq_true rfl) (by decide) (eM_in x1 1 24 _ _ hq3) ?_
    refine v_if_ne (tgt := 23) dX12_steps_17 (by decide) (fun c4 => ?_) (fun c4 => ?_)
    · replace h := ite_f c4 h
      refine v_aload_n dX12_steps_23 0 rfl rfl (vm_getR (t := 206) dX12_steps_24 fsX12_25 lc_200 shc_200 (by decide) rf_200_13 (v_iconst dX12_steps_27 rfl (vn_iald dX12_steps_28 lc_206 sha_206 ib_2_41 ixc_2 (v_iload_n dX12_steps_29 1 rfl rfl (v_iadd dX12_steps_30 (v_sipush (v := 999) dX12_steps_31 rfl (v_icmp_le (tgt := 40) dX12_steps_34 (by decide) (fun c5 => ?_) (fun c5 => ?_))))))))
      · replace h := ite_t c5 h
        exact v_iconst dX12_steps_40 rfl (v_istore_n dX12_steps_41 [0, 1, 2] rfl (by decide) rfl (v_sub [1, 2, 0] rfl (sM_steps_L42 2000 x1 0 _ h)))
      · replace h := ite_f c5 h
        refine v_ldc dX12_steps_37 tw801 ?_
        replace h := Option.some.inj h
        subst h
        exact v_iret dX12_steps_39 rfl rfl rfl rfl rfl
    · replace h := ite_t c4 h
      refine v_ldc dX12_steps_20 tw764 ?_
      replace h := Option.some.inj h
      subst h
      exact v_iret dX12_steps_22 rfl rfl rfl rfl rfl
  · replace h := ite_t c2 h
    refine v_ldc dX12_steps_7 tw853 ?_
    replace h := Option.some.inj h
    subst h
    exact v_iret dX12_steps_9 rfl rfl rfl rfl rfl
