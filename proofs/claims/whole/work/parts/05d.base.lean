def ltc {α β : Type} (x : α) (f : α → β) : β := f x
theorem ltc_some {α β : Type} {x : α} {f : α → β} {r : β} (h : ltc x f = r) : ∃ y, y = x ∧ f y = r := ⟨x, rfl, h⟩
section VN
variable {G : Gx} {M M2 : Mx} {o : Option Value} {σ σ' σ2 : Sg} {pc idx : Nat} {L : List (Nat × Value)} {S : List Value}
theorem vn_put {k ci j : Nat} {x : Int32} (hd : decode (mC M) pc = .ok (.putfield idx, 3)) (fs : Fs (mO M) idx ci j .int false) (hk : k < 213) (hs : (shp k).1 = ci) (hc : ci < 20) (hr : rfs k j = none) (he : σ2 = wr σ k j x) (kk : Vm G M o σ' (pc + 3) L S σ2) : Vm G M o σ' pc L (.int x :: .ref (gb G + k) :: S) σ := vm_put hd fs hk hs hc hr (he ▸ kk)
theorem vn_putZ {k ci j : Nat} {x : Int32} (hd : decode (mC M) pc = .ok (.putfield idx, 3)) (fs : Fs (mO M) idx ci j .boolean false) (hk : k < 213) (hs : (shp k).1 = ci) (hc : ci < 20) (hr : rfs k j = none) (hx : x = 0 ∨ x = 1) (he : σ2 = wr σ k j x) (kk : Vm G M o σ' (pc + 3) L S σ2) : Vm G M o σ' pc L (.int x :: .ref (gb G + k) :: S) σ := vm_putZ hd fs hk hs hc hr hx (he ▸ kk)
theorem vn_iald {k n j : Nat} {i : Int32} (hd : decode (mC M) pc = .ok (.iaload, 1)) (hk : k < 213) (hs : shp k = (20, n)) (hi : inb i n = true) (hj : ix i = j) (kk : Vm G M o σ' (pc + 1) L (.int (σ k j) :: S) σ) : Vm G M o σ' pc L (.int i :: .ref (gb G + k) :: S) σ := vm_iald hd hk hs hi (hj ▸ kk)
theorem vn_zald {k n j : Nat} {i : Int32} (hd : decode (mC M) pc = .ok (.baload, 1)) (hk : k < 213) (hs : shp k = (21, n)) (hi : inb i n = true) (hj : ix i = j) (kk : Vm G M o σ' (pc + 1) L (.int (σ k j) :: S) σ) : Vm G M o σ' pc L (.int i :: .ref (gb G + k) :: S) σ := vm_zald hd hk hs hi (hj ▸ kk)
theorem vn_iast {k n j : Nat} {i x : Int32} (hd : decode (mC M) pc = .ok (.iastore, 1)) (hk : k < 213) (hs : shp k = (20, n)) (hi : inb i n = true) (hj : ix i = j) (he : σ2 = wr σ k j x) (kk : Vm G M o σ' (pc + 1) L S σ2) : Vm G M o σ' pc L (.int x :: .int i :: .ref (gb G + k) :: S) σ := vm_iast hd hk hs hi (by rw [hj, ← he]; exact kk)
theorem vn_zast {k n j : Nat} {i x : Int32} (hd : decode (mC M) pc = .ok (.bastore, 1)) (hk : k < 213) (hs : shp k = (21, n)) (hi : inb i n = true) (hj : ix i = j) (hx : x = 0 ∨ x = 1) (he : σ2 = wr σ k j x) (kk : Vm G M o σ' (pc + 1) L S σ2) : Vm G M o σ' pc L (.int x :: .int i :: .ref (gb G + k) :: S) σ := vm_zast hd hk hs hi hx (by rw [hj, ← he]; exact kk)
theorem vn_copy {a b na nb p1 p2 p3 : Nat} {sp dp n : Int32} (hm : mI M = false) (hd : decode (mC M) pc = .ok (.invokestatic idx, 3)) (hlk : Cond.methodLink (mO M) idx arraycopyName ∈ tG) (hka : a < 213) (hkb : b < 213) (hsa : shp a = (20, na)) (hsb : shp b = (20, nb)) (hi : cin sp dp n na nb = true) (hfr : 1 ≤ (mR M).frames) (hlo : (S.map fun v => v.category).sum + (nativeFrameWords "java/lang/System" "arraycopy" 5 + 11) ≤ (mR M).locals) (h1 : ix sp = p1) (h2 : ix dp = p2) (h3 : ix n = p3) (he : σ2 = cpy σ a p1 b p2 p3)
    (kk : Vm G M o σ' (pc + 3) L S σ2) : Vm G M o σ' pc L (.int n :: .int dp :: .ref (gb G + b) :: .int sp :: .ref (gb G + a) :: S) σ := vm_copy hm hd hlk hka hkb hsa hsb hi hfr hlo (by rw [h1, h2, h3, ← he]; exact kk)
end VN
section VMM
variable {G : Gx} {M : Mx} {o : Option Value} {μ μ' : Mu} {mc ms c1 s1 pc idx : Nat} {L : List (Nat × Value)} {S : List Value}
theorem mn_code : Cond.code yJ9_min_7cf53 prog_16_method_69_code 2 (some .int) = Cond.code Lib.Math.min.name Lib.Math.min.code 2 (some .int) := by decide +kernel
theorem mx_code : Cond.code yJ9_max_7cf53 prog_16_method_65_code 2 (some .int) = Cond.code Lib.Math.max.name Lib.Math.max.code 2 (some .int) := by decide +kernel
theorem v_mmin {x y : Int32} (hd : decode (mC M) pc = .ok (.invokestatic idx, 3)) (hlk : Cond.methodLink (mO M) idx yJ9_min_7cf53 ∈ tG) (hfr : 1 ≤ (mR M).frames) (hlo : (S.map fun v => v.category).sum + 13 ≤ (mR M).locals) (hc : c1 ≤ (mR M).cells) (hs : s1 ≤ (mR M).slots) (kk : V G M o μ' mc ms (pc + 3) L (.int (if y < x then y else x) :: S) μ c1 s1) : V G M o μ' mc ms pc L (.int y :: .int x :: S) μ c1 s1 := by
  intro p e s m args below meth c H locs ls C hP hz hS hl
  exact va_mmin C.1 C.2.1 (by rw [C.2.2.1, hl.1]) C.2.2.2.2.2.1 (C.2.2.2.2.2.2.1 _ hlk) (C.2.2.2.2.2.2.1 _ tw407) (C.2.2.2.2.2.2.1 _ tw55) (C.2.2.2.2.2.2.1 _ (mn_code ▸ tw408)) hfr hlo hc hs hd (kk p e s m args below meth c H locs ls C hP hz hS hl)
theorem v_mmax {x y : Int32} (hd : decode (mC M) pc = .ok (.invokestatic idx, 3)) (hlk : Cond.methodLink (mO M) idx yJ9_max_7cf53 ∈ tG) (hfr : 1 ≤ (mR M).frames) (hlo : (S.map fun v => v.category).sum + 13 ≤ (mR M).locals) (hc : c1 ≤ (mR M).cells) (hs : s1 ≤ (mR M).slots) (kk : V G M o μ' mc ms (pc + 3) L (.int (if x < y then y else x) :: S) μ c1 s1) : V G M o μ' mc ms pc L (.int y :: .int x :: S) μ c1 s1 := by
  intro p e s m args below meth c H locs ls C hP hz hS hl
  exact va_mmax C.1 C.2.1 (by rw [C.2.2.1, hl.1]) C.2.2.2.2.2.1 (C.2.2.2.2.2.2.1 _ hlk) (C.2.2.2.2.2.2.1 _ tw571) (C.2.2.2.2.2.2.1 _ tw55) (C.2.2.2.2.2.2.1 _ (mx_code ▸ tw572)) hfr hlo hc hs hd (kk p e s m args below meth c H locs ls C hP hz hS hl)
end VMM
theorem isP_last {r : Nat} (hp : isP r) (h1 : ¬ r = 165) (h2 : ¬ r = 166) (h3 : ¬ r = 167) (h4 : ¬ r = 168) : r = 169 := by
  unfold isP at hp
  simp only [List.mem_cons, List.not_mem_nil, or_false] at hp
  omega
theorem ib_0_41 : inb 0 41 = true := by decide +kernel
theorem ib_1_41 : inb 1 41 = true := by decide +kernel
theorem ib_2_41 : inb 2 41 = true := by decide +kernel
theorem ib_3_41 : inb 3 41 = true := by decide +kernel
theorem ib_4_41 : inb 4 41 = true := by decide +kernel
theorem ixc_0 : ix 0 = 0 := by decide +kernel
theorem ixc_1 : ix 1 = 1 := by decide +kernel
theorem ixc_2 : ix 2 = 2 := by decide +kernel
theorem ixc_3 : ix 3 = 3 := by decide +kernel
theorem ixc_4 : ix 4 = 4 := by decide +kernel
theorem ixc_6 : ix 6 = 6 := by decide +kernel
theorem ci_0_0_6_6_6 : cin 0 0 6 6 6 = true := by decide +kernel
theorem lc_0 : 0 < 213 := by decide
theorem lc_1 : 1 < 213 := by decide
theorem lc_2 : 2 < 213 := by decide
theorem lc_3 : 3 < 213 := by decide
theorem lc_16 : 16 < 213 := by decide
theorem lc_17 : 17 < 213 := by decide
theorem lc_18 : 18 < 213 := by decide
theorem lc_19 : 19 < 213 := by decide
theorem lc_164 : 164 < 213 := by decide
theorem lc_165 : 165 < 213 := by decide
theorem lc_166 : 166 < 213 := by decide
theorem lc_167 : 167 < 213 := by decide
theorem lc_168 : 168 < 213 := by decide
theorem lc_169 : 169 < 213 := by decide
theorem lc_170 : 170 < 213 := by decide
theorem lc_171 : 171 < 213 := by decide
theorem lc_200 : 200 < 213 := by decide
theorem lc_201 : 201 < 213 := by decide
theorem lc_202 : 202 < 213 := by decide
theorem lc_203 : 203 < 213 := by decide
theorem lc_204 : 204 < 213 := by decide
theorem lc_205 : 205 < 213 := by decide
theorem lc_206 : 206 < 213 := by decide
theorem lc_207 : 207 < 213 := by decide
theorem lc_208 : 208 < 213 := by decide
theorem lc_209 : 209 < 213 := by decide
theorem lc_210 : 210 < 213 := by decide
theorem lc_211 : 211 < 213 := by decide
theorem lc_212 : 212 < 213 := by decide
theorem shc_0 : (shp 0).1 = 10 := rfl
theorem shc_2 : (shp 2).1 = 7 := rfl
theorem shc_18 : (shp 18).1 = 0 := rfl
theorem shc_165 : (shp 165).1 = 2 := rfl
theorem shc_166 : (shp 166).1 = 9 := rfl
theorem shc_167 : (shp 167).1 = 5 := rfl
theorem shc_168 : (shp 168).1 = 1 := rfl
theorem shc_169 : (shp 169).1 = 3 := rfl
theorem shc_170 : (shp 170).1 = 8 := rfl
theorem shc_200 : (shp 200).1 = 11 := rfl
theorem sha_1 : shp 1 = (22, 8) := rfl
theorem sha_3 : shp 3 = (20, 120) := rfl
theorem sha_16 : shp 16 = (23, 2) := rfl
theorem sha_17 : shp 17 = (21, 2) := rfl
theorem sha_19 : shp 19 = (23, 24) := rfl
theorem sha_164 : shp 164 = (24, 5) := rfl
theorem sha_171 : shp 171 = (20, 16) := rfl
theorem sha_201 : shp 201 = (20, 8) := rfl
theorem sha_202 : shp 202 = (20, 8) := rfl
theorem sha_203 : shp 203 = (20, 320) := rfl
theorem sha_204 : shp 204 = (20, 40) := rfl
theorem sha_205 : shp 205 = (20, 120) := rfl
theorem sha_206 : shp 206 = (20, 41) := rfl
theorem sha_207 : shp 207 = (20, 41) := rfl
theorem sha_208 : shp 208 = (20, 41) := rfl
theorem sha_209 : shp 209 = (20, 984) := rfl
theorem sha_210 : shp 210 = (20, 82) := rfl
theorem sha_211 : shp 211 = (21, 2) := rfl
theorem sha_212 : shp 212 = (20, 16) := rfl
theorem rf_0_0 : rfs 0 0 = some 1 := rfl
theorem rf_0_1 : rfs 0 1 = some 2 := rfl
theorem rf_0_2 : rfs 0 2 = some 4 := rfl
theorem rf_0_3 : rfs 0 3 = some 10 := rfl
theorem rf_0_4 : rfs 0 4 = some 16 := rfl
theorem rf_0_5 : rfs 0 5 = some 17 := rfl
theorem rf_0_6 : rfs 0 6 = some 18 := rfl
theorem rf_0_7 : rfs 0 7 = some 164 := rfl
theorem rf_0_8 : rfs 0 8 = some 170 := rfl
theorem rf_0_9 : rfs 0 9 = none := rfl
theorem rf_0_10 : rfs 0 10 = none := rfl
theorem rf_0_11 : rfs 0 11 = none := rfl
theorem rf_2_0 : rfs 2 0 = some 3 := rfl
theorem rf_2_1 : rfs 2 1 = none := rfl
theorem rf_2_2 : rfs 2 2 = none := rfl
theorem rf_2_3 : rfs 2 3 = none := rfl
theorem rf_2_4 : rfs 2 4 = none := rfl
theorem rf_18_0 : rfs 18 0 = some 19 := rfl
theorem rf_18_1 : rfs 18 1 = none := rfl
theorem rf_18_2 : rfs 18 2 = none := rfl
theorem rf_170_0 : rfs 170 0 = some 171 := rfl
theorem rf_170_1 : rfs 170 1 = none := rfl
theorem rf_200_0 : rfs 200 0 = some 201 := rfl
theorem rf_200_1 : rfs 200 1 = some 202 := rfl
theorem rf_200_2 : rfs 200 2 = some 203 := rfl
theorem rf_200_3 : rfs 200 3 = some 204 := rfl
theorem rf_200_4 : rfs 200 4 = none := rfl
theorem rf_200_5 : rfs 200 5 = some 205 := rfl
theorem rf_200_6 : rfs 200 6 = none := rfl
theorem rf_200_7 : rfs 200 7 = none := rfl
theorem rf_200_8 : rfs 200 8 = none := rfl
theorem rf_200_9 : rfs 200 9 = none := rfl
theorem rf_200_10 : rfs 200 10 = none := rfl
theorem rf_200_11 : rfs 200 11 = none := rfl
theorem rf_200_12 : rfs 200 12 = none := rfl
theorem rf_200_13 : rfs 200 13 = some 206 := rfl
theorem rf_200_14 : rfs 200 14 = some 207 := rfl
theorem rf_200_15 : rfs 200 15 = some 208 := rfl
theorem rf_200_16 : rfs 200 16 = some 209 := rfl
theorem rf_200_17 : rfs 200 17 = none := rfl
theorem rf_200_18 : rfs 200 18 = some 210 := rfl
theorem rf_200_19 : rfs 200 19 = some 211 := rfl
theorem rf_200_20 : rfs 200 20 = some 212 := rfl
theorem rf_200_21 : rfs 200 21 = none := rfl
theorem ok_0 : ClsOk 0 RX0 TX0 tyX0 := ⟨rfl, by decide +kernel, tyX0_ok, nmX0⟩
theorem ok_1 : ClsOk 1 RX1 TX1 tyX1 := ⟨rfl, by decide +kernel, tyX1_ok, nmX1⟩
theorem ok_2 : ClsOk 2 RX2 TX2 tyX2 := ⟨rfl, by decide +kernel, tyX2_ok, nmX2⟩
theorem ok_3 : ClsOk 3 RX3 TX3 tyX3 := ⟨rfl, by decide +kernel, tyX3_ok, nmX3⟩
theorem ok_4 : ClsOk 4 RX4 TX4 tyX4 := ⟨rfl, by decide +kernel, tyX4_ok, nmX4⟩
theorem ok_5 : ClsOk 5 RX5 TX5 tyX5 := ⟨rfl, by decide +kernel, tyX5_ok, nmX5⟩
theorem ok_6 : ClsOk 6 RX7 TX7 tyX7 := ⟨rfl, by decide +kernel, tyX7_ok, nmX7⟩
theorem ok_7 : ClsOk 7 RX8 TX8 tyX8 := ⟨rfl, by decide +kernel, tyX8_ok, nmX8⟩
theorem ok_8 : ClsOk 8 RX9 TX9 tyX9 := ⟨rfl, by decide +kernel, tyX9_ok, nmX9⟩
theorem ok_9 : ClsOk 9 RX10 TX10 tyX10 := ⟨rfl, by decide +kernel, tyX10_ok, nmX10⟩
theorem ok_10 : ClsOk 10 RX11 TX11 tyX11 := ⟨rfl, by decide +kernel, tyX11_ok, nmX11⟩
theorem ok_11 : ClsOk 11 RX12 TX12 tyX12 := ⟨rfl, by decide +kernel, tyX12_ok, nmX12⟩
theorem fsX11_11 : Fs RX11 11 10 0 (.array (.object "LiftEnvy$Row")) true := ⟨RX11, TX11, tyX11, ok_10, by decide, tw250, rfl, rfl, rfl⟩
theorem fsX11_18 : Fs RX11 18 10 1 (.object "LiftEnvy$Tape") true := ⟨RX11, TX11, tyX11, ok_10, by decide, tw251, rfl, rfl, rfl⟩
theorem fsX11_25 : Fs RX11 25 10 2 (.object "LiftEnvy$House") true := ⟨RX11, TX11, tyX11, ok_10, by decide, tw252, rfl, rfl, rfl⟩
theorem fsX11_29 : Fs RX11 29 10 3 (.object "LiftEnvy$House") true := ⟨RX11, TX11, tyX11, ok_10, by decide, tw253, rfl, rfl, rfl⟩
theorem fsX11_32 : Fs RX11 32 10 4 (.array (.object "LiftEnvy$House")) true := ⟨RX11, TX11, tyX11, ok_10, by decide, tw254, rfl, rfl, rfl⟩
theorem fsX11_36 : Fs RX11 36 10 5 (.array .boolean) true := ⟨RX11, TX11, tyX11, ok_10, by decide, tw255, rfl, rfl, rfl⟩
theorem fsX11_43 : Fs RX11 43 10 6 (.object "LiftEnvy$Acts") true := ⟨RX11, TX11, tyX11, ok_10, by decide, tw256, rfl, rfl, rfl⟩
theorem fsX11_64 : Fs RX11 64 10 7 (.array (.object "LiftEnvy$Person")) true := ⟨RX11, TX11, tyX11, ok_10, by decide, tw257, rfl, rfl, rfl⟩
theorem fsX11_71 : Fs RX11 71 10 8 (.object "LiftEnvy$Trace") true := ⟨RX11, TX11, tyX11, ok_10, by decide, tw258, rfl, rfl, rfl⟩
theorem fsX11_104 : Fs RX11 104 6 0 (.array .int) true := ⟨RX7, TX7, tyX7, ok_6, by decide, tw238, rfl, rfl, rfl⟩
theorem fsX11_111 : Fs RX11 111 6 1 .int false := ⟨RX7, TX7, tyX7, ok_6, by decide, tw240, rfl, rfl, rfl⟩
theorem fsX11_121 : Fs RX11 121 6 2 .int false := ⟨RX7, TX7, tyX7, ok_6, by decide, tw242, rfl, rfl, rfl⟩
theorem fsX11_124 : Fs RX11 124 7 1 .int false := ⟨RX8, TX8, tyX8, ok_7, by decide, tw76, rfl, rfl, rfl⟩
theorem fsX11_126 : Fs RX11 126 7 0 (.array .int) true := ⟨RX8, TX8, tyX8, ok_7, by decide, tw74, rfl, rfl, rfl⟩
theorem fsX11_133 : Fs RX11 133 7 3 .int false := ⟨RX8, TX8, tyX8, ok_7, by decide, tw79, rfl, rfl, rfl⟩
theorem fsX11_136 : Fs RX11 136 10 10 .int false := ⟨RX11, TX11, tyX11, ok_10, by decide, tw260, rfl, rfl, rfl⟩
theorem fsX11_140 : Fs RX11 140 7 2 .int false := ⟨RX8, TX8, tyX8, ok_7, by decide, tw78, rfl, rfl, rfl⟩
theorem fsX11_149 : Fs RX11 149 10 9 .boolean false := ⟨RX11, TX11, tyX11, ok_10, by decide, tw259, rfl, rfl, rfl⟩
theorem fsX11_153 : Fs RX11 153 4 5 .int false := ⟨RX4, TX4, tyX4, ok_4, by decide, tw118, rfl, rfl, rfl⟩
theorem fsX11_157 : Fs RX11 157 4 10 .int false := ⟨RX4, TX4, tyX4, ok_4, by decide, tw129, rfl, rfl, rfl⟩
theorem fsX11_166 : Fs RX11 166 4 7 .int false := ⟨RX4, TX4, tyX4, ok_4, by decide, tw123, rfl, rfl, rfl⟩
theorem fsX11_172 : Fs RX11 172 4 3 (.array .int) true := ⟨RX4, TX4, tyX4, ok_4, by decide, tw112, rfl, rfl, rfl⟩
theorem fsX11_179 : Fs RX11 179 4 1 (.array .int) true := ⟨RX4, TX4, tyX4, ok_4, by decide, tw105, rfl, rfl, rfl⟩
theorem fsX11_182 : Fs RX11 182 4 8 .int false := ⟨RX4, TX4, tyX4, ok_4, by decide, tw125, rfl, rfl, rfl⟩
theorem fsX11_185 : Fs RX11 185 4 6 .int false := ⟨RX4, TX4, tyX4, ok_4, by decide, tw121, rfl, rfl, rfl⟩
theorem fsX11_188 : Fs RX11 188 0 2 .int false := ⟨RX0, TX0, tyX0, ok_0, by decide, tw168, rfl, rfl, rfl⟩
theorem fsX11_194 : Fs RX11 194 4 2 (.array .int) true := ⟨RX4, TX4, tyX4, ok_4, by decide, tw109, rfl, rfl, rfl⟩
theorem fsX11_197 : Fs RX11 197 4 4 (.array .int) true := ⟨RX4, TX4, tyX4, ok_4, by decide, tw115, rfl, rfl, rfl⟩
theorem fsX11_217 : Fs RX11 217 4 9 .int false := ⟨RX4, TX4, tyX4, ok_4, by decide, tw127, rfl, rfl, rfl⟩
theorem fsX11_260 : Fs RX11 260 4 0 (.array .int) true := ⟨RX4, TX4, tyX4, ok_4, by decide, tw102, rfl, rfl, rfl⟩
theorem fsX11_271 : Fs RX11 271 8 1 .int false := ⟨RX9, TX9, tyX9, ok_8, by decide, tw226, rfl, rfl, rfl⟩
theorem fsX11_279 : Fs RX11 279 8 0 (.array .int) true := ⟨RX9, TX9, tyX9, ok_8, by decide, tw224, rfl, rfl, rfl⟩
theorem fsX11_285 : Fs RX11 285 10 11 .int false := ⟨RX11, TX11, tyX11, ok_10, by decide, tw261, rfl, rfl, rfl⟩
theorem fsX0_11 : Fs RX0 11 0 0 (.array (.object "LiftEnvy$House")) true := ⟨RX0, TX0, tyX0, ok_0, by decide, tw165, rfl, rfl, rfl⟩
theorem fsX0_16 : Fs RX0 16 0 2 .int false := ⟨RX0, TX0, tyX0, ok_0, by decide, tw167, rfl, rfl, rfl⟩
theorem fsX0_20 : Fs RX0 20 0 1 .int false := ⟨RX0, TX0, tyX0, ok_0, by decide, tw166, rfl, rfl, rfl⟩
theorem fsX4_9 : Fs RX4 9 4 0 (.array .int) true := ⟨RX4, TX4, tyX4, ok_4, by decide, tw100, rfl, rfl, rfl⟩
theorem fsX4_13 : Fs RX4 13 4 1 (.array .int) true := ⟨RX4, TX4, tyX4, ok_4, by decide, tw103, rfl, rfl, rfl⟩
theorem fsX4_16 : Fs RX4 16 4 2 (.array .int) true := ⟨RX4, TX4, tyX4, ok_4, by decide, tw106, rfl, rfl, rfl⟩
theorem fsX4_19 : Fs RX4 19 4 3 (.array .int) true := ⟨RX4, TX4, tyX4, ok_4, by decide, tw110, rfl, rfl, rfl⟩
theorem fsX4_22 : Fs RX4 22 4 4 (.array .int) true := ⟨RX4, TX4, tyX4, ok_4, by decide, tw113, rfl, rfl, rfl⟩
theorem fsX4_25 : Fs RX4 25 4 8 .int false := ⟨RX4, TX4, tyX4, ok_4, by decide, tw124, rfl, rfl, rfl⟩
theorem fsX4_29 : Fs RX4 29 4 11 .int false := ⟨RX4, TX4, tyX4, ok_4, by decide, tw130, rfl, rfl, rfl⟩
theorem fsX4_32 : Fs RX4 32 4 5 .int false := ⟨RX4, TX4, tyX4, ok_4, by decide, tw116, rfl, rfl, rfl⟩
theorem fsX4_35 : Fs RX4 35 4 6 .int false := ⟨RX4, TX4, tyX4, ok_4, by decide, tw119, rfl, rfl, rfl⟩
theorem fsX4_38 : Fs RX4 38 4 7 .int false := ⟨RX4, TX4, tyX4, ok_4, by decide, tw122, rfl, rfl, rfl⟩
theorem fsX4_41 : Fs RX4 41 4 9 .int false := ⟨RX4, TX4, tyX4, ok_4, by decide, tw126, rfl, rfl, rfl⟩
theorem fsX4_44 : Fs RX4 44 4 10 .int false := ⟨RX4, TX4, tyX4, ok_4, by decide, tw128, rfl, rfl, rfl⟩
theorem fsX6_13 : Fs RX6 13 4 2 (.array .int) true := ⟨RX4, TX4, tyX4, ok_4, by decide, tw107, rfl, rfl, rfl⟩
theorem fsX7_9 : Fs RX7 9 6 0 (.array .int) true := ⟨RX7, TX7, tyX7, ok_6, by decide, tw237, rfl, rfl, rfl⟩
theorem fsX7_13 : Fs RX7 13 6 1 .int false := ⟨RX7, TX7, tyX7, ok_6, by decide, tw239, rfl, rfl, rfl⟩
theorem fsX7_17 : Fs RX7 17 6 2 .int false := ⟨RX7, TX7, tyX7, ok_6, by decide, tw241, rfl, rfl, rfl⟩
theorem fsX8_9 : Fs RX8 9 7 0 (.array .int) true := ⟨RX8, TX8, tyX8, ok_7, by decide, tw73, rfl, rfl, rfl⟩
theorem fsX8_13 : Fs RX8 13 7 2 .int false := ⟨RX8, TX8, tyX8, ok_7, by decide, tw77, rfl, rfl, rfl⟩
theorem fsX8_23 : Fs RX8 23 7 1 .int false := ⟨RX8, TX8, tyX8, ok_7, by decide, tw75, rfl, rfl, rfl⟩
theorem fsX8_38 : Fs RX8 38 7 4 .int false := ⟨RX8, TX8, tyX8, ok_7, by decide, tw81, rfl, rfl, rfl⟩
theorem fsX8_53 : Fs RX8 53 4 6 .int false := ⟨RX4, TX4, tyX4, ok_4, by decide, tw120, rfl, rfl, rfl⟩
theorem fsX8_56 : Fs RX8 56 4 1 (.array .int) true := ⟨RX4, TX4, tyX4, ok_4, by decide, tw104, rfl, rfl, rfl⟩
theorem fsX8_59 : Fs RX8 59 4 2 (.array .int) true := ⟨RX4, TX4, tyX4, ok_4, by decide, tw108, rfl, rfl, rfl⟩
theorem fsX8_62 : Fs RX8 62 4 3 (.array .int) true := ⟨RX4, TX4, tyX4, ok_4, by decide, tw111, rfl, rfl, rfl⟩
theorem fsX8_65 : Fs RX8 65 4 4 (.array .int) true := ⟨RX4, TX4, tyX4, ok_4, by decide, tw114, rfl, rfl, rfl⟩
theorem fsX8_68 : Fs RX8 68 4 0 (.array .int) true := ⟨RX4, TX4, tyX4, ok_4, by decide, tw101, rfl, rfl, rfl⟩
theorem fsX8_71 : Fs RX8 71 4 5 .int false := ⟨RX4, TX4, tyX4, ok_4, by decide, tw117, rfl, rfl, rfl⟩
theorem fsX8_77 : Fs RX8 77 7 3 .int false := ⟨RX8, TX8, tyX8, ok_7, by decide, tw80, rfl, rfl, rfl⟩
theorem fsX9_9 : Fs RX9 9 8 0 (.array .int) true := ⟨RX9, TX9, tyX9, ok_8, by decide, tw223, rfl, rfl, rfl⟩
theorem fsX9_13 : Fs RX9 13 8 1 .int false := ⟨RX9, TX9, tyX9, ok_8, by decide, tw225, rfl, rfl, rfl⟩
theorem fsX12_7 : Fs RX12 7 11 0 (.array .int) true := ⟨RX12, TX12, tyX12, ok_11, by decide, tw687, rfl, rfl, rfl⟩
theorem fsX12_13 : Fs RX12 13 11 1 (.array .int) true := ⟨RX12, TX12, tyX12, ok_11, by decide, tw688, rfl, rfl, rfl⟩
theorem fsX12_16 : Fs RX12 16 11 2 (.array .int) true := ⟨RX12, TX12, tyX12, ok_11, by decide, tw689, rfl, rfl, rfl⟩
theorem fsX12_19 : Fs RX12 19 11 3 (.array .int) true := ⟨RX12, TX12, tyX12, ok_11, by decide, tw690, rfl, rfl, rfl⟩
theorem fsX12_22 : Fs RX12 22 11 5 (.array .int) true := ⟨RX12, TX12, tyX12, ok_11, by decide, tw692, rfl, rfl, rfl⟩
theorem fsX12_25 : Fs RX12 25 11 13 (.array .int) true := ⟨RX12, TX12, tyX12, ok_11, by decide, tw700, rfl, rfl, rfl⟩
theorem fsX12_28 : Fs RX12 28 11 14 (.array .int) true := ⟨RX12, TX12, tyX12, ok_11, by decide, tw701, rfl, rfl, rfl⟩
theorem fsX12_31 : Fs RX12 31 11 15 (.array .int) true := ⟨RX12, TX12, tyX12, ok_11, by decide, tw702, rfl, rfl, rfl⟩
theorem fsX12_34 : Fs RX12 34 11 16 (.array .int) true := ⟨RX12, TX12, tyX12, ok_11, by decide, tw703, rfl, rfl, rfl⟩
theorem fsX12_37 : Fs RX12 37 11 18 (.array .int) true := ⟨RX12, TX12, tyX12, ok_11, by decide, tw705, rfl, rfl, rfl⟩
theorem fsX12_40 : Fs RX12 40 11 19 (.array .boolean) true := ⟨RX12, TX12, tyX12, ok_11, by decide, tw706, rfl, rfl, rfl⟩
theorem fsX12_44 : Fs RX12 44 11 20 (.array .int) true := ⟨RX12, TX12, tyX12, ok_11, by decide, tw707, rfl, rfl, rfl⟩
theorem fsX12_48 : Fs RX12 48 11 4 .int false := ⟨RX12, TX12, tyX12, ok_11, by decide, tw691, rfl, rfl, rfl⟩
theorem fsX12_79 : Fs RX12 79 11 6 .int false := ⟨RX12, TX12, tyX12, ok_11, by decide, tw693, rfl, rfl, rfl⟩
theorem fsX12_83 : Fs RX12 83 11 9 .int false := ⟨RX12, TX12, tyX12, ok_11, by decide, tw696, rfl, rfl, rfl⟩
theorem fsX12_86 : Fs RX12 86 11 10 .int false := ⟨RX12, TX12, tyX12, ok_11, by decide, tw697, rfl, rfl, rfl⟩
theorem fsX12_92 : Fs RX12 92 11 12 .int false := ⟨RX12, TX12, tyX12, ok_11, by decide, tw699, rfl, rfl, rfl⟩
theorem fsX12_95 : Fs RX12 95 11 11 .int false := ⟨RX12, TX12, tyX12, ok_11, by decide, tw698, rfl, rfl, rfl⟩
theorem fsX12_98 : Fs RX12 98 11 8 .int false := ⟨RX12, TX12, tyX12, ok_11, by decide, tw695, rfl, rfl, rfl⟩
theorem fsX12_105 : Fs RX12 105 11 7 .int false := ⟨RX12, TX12, tyX12, ok_11, by decide, tw694, rfl, rfl, rfl⟩
theorem fsX12_132 : Fs RX12 132 11 17 .int false := ⟨RX12, TX12, tyX12, ok_11, by decide, tw704, rfl, rfl, rfl⟩
theorem fsX12_207 : Fs RX12 207 11 21 .int false := ⟨RX12, TX12, tyX12, ok_11, by decide, tw708, rfl, rfl, rfl⟩
abbrev MX0_forget : Mx := (RX0, cX0_forget, 1, rmk 0 0 0 0, none, "forget", false)
theorem ykX0_forget : Yk yX0_forget MX0_forget 0 := ⟨tw391, tw44, ⟨by decide +kernel, by decide +kernel⟩, by decide +kernel⟩
abbrev MX4_become : Mx := (RX4, cX4_become, 2, rmk 1 0 0 30, none, "become", false)
theorem ykX4_become : Yk yX4_become MX4_become 1 := ⟨tw386, tw43, ⟨by decide +kernel, by decide +kernel⟩, by decide +kernel⟩
abbrev MX0_keep : Mx := (RX0, cX0_keep, 2, rmk 2 0 0 51, none, "keep", false)
theorem ykX0_keep : Yk yX0_keep MX0_keep 1 := ⟨tw404, tw44, ⟨by decide +kernel, by decide +kernel⟩, by decide +kernel⟩
abbrev MX0_takeBack : Mx := (RX0, cX0_takeBack, 2, rmk 2 0 0 51, none, "takeBack", false)
theorem ykX0_takeBack : Yk yX0_takeBack MX0_takeBack 1 := ⟨tw459, tw44, ⟨by decide +kernel, by decide +kernel⟩, by decide +kernel⟩
abbrev MX4_begin : Mx := (RX4, cX4_begin, 3, rmk 0 0 0 0, none, "begin", false)
theorem ykX4_begin : Yk yX4_begin MX4_begin 2 := ⟨tw373, tw43, ⟨by decide +kernel, by decide +kernel⟩, by decide +kernel⟩
abbrev MX4_put : Mx := (RX4, cX4_put, 4, rmk 0 0 0 0, none, "put", false)
theorem ykX4_put : Yk yX4_put MX4_put 3 := ⟨tw447, tw43, ⟨by decide +kernel, by decide +kernel⟩, by decide +kernel⟩
abbrev MX4_mostOf : Mx := (RX4, cX4_mostOf, 2, rmk 0 0 0 0, (some .int), "mostOf", false)
theorem ykX4_mostOf : Yk yX4_mostOf MX4_mostOf 1 := ⟨tw547, tw43, ⟨by decide +kernel, by decide +kernel⟩, by decide +kernel⟩
abbrev MX4_conceal : Mx := (RX4, cX4_conceal, 3, rmk 1 0 0 23, none, "conceal", false)
theorem ykX4_conceal : Yk yX4_conceal MX4_conceal 1 := ⟨tw524, tw43, ⟨by decide +kernel, by decide +kernel⟩, by decide +kernel⟩
abbrev MX4_showing : Mx := (RX4, cX4_showing, 3, rmk 0 0 0 0, (some .int), "showing", false)
theorem ykX4_showing : Yk yX4_showing MX4_showing 0 := ⟨tw559, tw43, ⟨by decide +kernel, by decide +kernel⟩, by decide +kernel⟩
abbrev MX4_isBrought : Mx := (RX4, cX4_isBrought, 2, rmk 0 0 0 0, (some .boolean), "isBrought", false)
theorem ykX4_isBrought : Yk yX4_isBrought MX4_isBrought 1 := ⟨tw427, tw43, ⟨by decide +kernel, by decide +kernel⟩, by decide +kernel⟩
abbrev MX4_minding : Mx := (RX4, cX4_minding, 4, rmk 0 0 0 0, (some .int), "minding", false)
theorem ykX4_minding : Yk yX4_minding MX4_minding 2 := ⟨tw435, tw43, ⟨by decide +kernel, by decide +kernel⟩, by decide +kernel⟩
abbrev MX4_envy : Mx := (RX4, cX4_envy, 4, rmk 1 0 0 23, (some .int), "envy", false)
theorem ykX4_envy : Yk yX4_envy MX4_envy 1 := ⟨tw431, tw43, ⟨by decide +kernel, by decide +kernel⟩, by decide +kernel⟩
abbrev MX4_goal : Mx := (RX4, cX4_goal, 4, rmk 2 0 0 46, (some .int), "goal", false)
theorem ykX4_goal : Yk yX4_goal MX4_goal 0 := ⟨tw423, tw43, ⟨by decide +kernel, by decide +kernel⟩, by decide +kernel⟩
abbrev MJ6_compare_7cf53 : Mx := (RJ6, cJ6_compare_7cf53, 2, rmk 0 0 0 0, (some .int), "compare", false)
theorem ykJ6_compare_7cf53 : Yk yJ6_compare_7cf53 MJ6_compare_7cf53 2 := ⟨tw419, tw56, ⟨by decide +kernel, by decide +kernel⟩, by decide +kernel⟩
abbrev MX4_carry : Mx := (RX4, cX4_carry, 1, rmk 1 0 0 21, none, "carry", false)
theorem ykX4_carry : Yk yX4_carry MX4_carry 0 := ⟨tw416, tw43, ⟨by decide +kernel, by decide +kernel⟩, by decide +kernel⟩
abbrev MX4_advance : Mx := (RX4, cX4_advance, 2, rmk 3 0 0 69, none, "advance", false)
theorem ykX4_advance : Yk yX4_advance MX4_advance 0 := ⟨tw412, tw43, ⟨by decide +kernel, by decide +kernel⟩, by decide +kernel⟩
abbrev MX4_rests : Mx := (RX4, cX4_rests, 1, rmk 3 0 0 69, (some .boolean), "rests", false)
theorem ykX4_rests : Yk yX4_rests MX4_rests 0 := ⟨tw491, tw43, ⟨by decide +kernel, by decide +kernel⟩, by decide +kernel⟩
abbrev MX4_lastWithin : Mx := (RX4, cX4_lastWithin, 5, rmk 4 0 0 90, (some .int), "lastWithin", false)
theorem ykX4_lastWithin : Yk yX4_lastWithin MX4_lastWithin 1 := ⟨tw487, tw43, ⟨by decide +kernel, by decide +kernel⟩, by decide +kernel⟩
abbrev MX4_until : Mx := (RX4, cX4_until, 4, rmk 4 0 0 90, (some .int), "until", false)
theorem ykX4_until : Yk yX4_until MX4_until 2 := ⟨tw500, tw43, ⟨by decide +kernel, by decide +kernel⟩, by decide +kernel⟩
abbrev MX4_goesAs : Mx := (RX4, cX4_goesAs, 5, rmk 4 0 0 90, (some .boolean), "goesAs", false)
theorem ykX4_goesAs : Yk yX4_goesAs MX4_goesAs 3 := ⟨tw551, tw43, ⟨by decide +kernel, by decide +kernel⟩, by decide +kernel⟩
abbrev MX4_stray : Mx := (RX4, cX4_stray, 5, rmk 1 0 0 23, none, "stray", false)
theorem ykX4_stray : Yk yX4_stray MX4_stray 1 := ⟨tw583, tw43, ⟨by decide +kernel, by decide +kernel⟩, by decide +kernel⟩
abbrev MX7_isMissing : Mx := (RX7, cX7_isMissing, 1, rmk 0 0 0 0, (some .boolean), "isMissing", false)
theorem ykX7_isMissing : Yk yX7_isMissing MX7_isMissing 0 := ⟨tw318, tw52, ⟨by decide +kernel, by decide +kernel⟩, by decide +kernel⟩
abbrev MX7_become : Mx := (RX7, cX7_become, 4, rmk 0 0 0 0, none, "become", false)
theorem ykX7_become : Yk yX7_become MX7_become 2 := ⟨tw306, tw52, ⟨by decide +kernel, by decide +kernel⟩, by decide +kernel⟩
abbrev MX7_holds : Mx := (RX7, cX7_holds, 3, rmk 0 0 0 0, (some .boolean), "holds", false)
theorem ykX7_holds : Yk yX7_holds MX7_holds 2 := ⟨tw322, tw52, ⟨by decide +kernel, by decide +kernel⟩, by decide +kernel⟩
abbrev MX7_cut : Mx := (RX7, cX7_cut, 2, rmk 0 0 0 0, (some .int), "cut", false)
theorem ykX7_cut : Yk yX7_cut MX7_cut 1 := ⟨tw326, tw52, ⟨by decide +kernel, by decide +kernel⟩, by decide +kernel⟩
abbrev MX8_refuses : Mx := (RX8, cX8_refuses, 2, rmk 0 0 0 0, (some .boolean), "refuses", false)
theorem ykX8_refuses : Yk yX8_refuses MX8_refuses 1 := ⟨tw362, tw42, ⟨by decide +kernel, by decide +kernel⟩, by decide +kernel⟩
abbrev MX8_takesSign : Mx := (RX8, cX8_takesSign, 2, rmk 1 0 0 21, (some .boolean), "takesSign", false)
theorem ykX8_takesSign : Yk yX8_takesSign MX8_takesSign 1 := ⟨tw358, tw42, ⟨by decide +kernel, by decide +kernel⟩, by decide +kernel⟩
abbrev MX8_isFigure : Mx := (RX8, cX8_isFigure, 1, rmk 0 0 0 0, (some .boolean), "isFigure", false)
theorem ykX8_isFigure : Yk yX8_isFigure MX8_isFigure 1 := ⟨tw369, tw42, ⟨by decide +kernel, by decide +kernel⟩, by decide +kernel⟩
abbrev MX8_takesNumber : Mx := (RX8, cX8_takesNumber, 6, rmk 1 0 0 21, (some .boolean), "takesNumber", false)
theorem ykX8_takesNumber : Yk yX8_takesNumber MX8_takesNumber 2 := ⟨tw366, tw42, ⟨by decide +kernel, by decide +kernel⟩, by decide +kernel⟩
abbrev MX8_tellsLaw : Mx := (RX8, cX8_tellsLaw, 3, rmk 2 0 0 46, (some .boolean), "tellsLaw", false)
theorem ykX8_tellsLaw : Yk yX8_tellsLaw MX8_tellsLaw 1 := ⟨tw354, tw42, ⟨by decide +kernel, by decide +kernel⟩, by decide +kernel⟩
abbrev MX8_sort : Mx := (RX8, cX8_sort, 1, rmk 0 0 0 0, (some .int), "sort", false)
theorem ykX8_sort : Yk yX8_sort MX8_sort 0 := ⟨tw381, tw42, ⟨by decide +kernel, by decide +kernel⟩, by decide +kernel⟩
abbrev MX8_tellsPerson : Mx := (RX8, cX8_tellsPerson, 4, rmk 2 0 0 46, (some .boolean), "tellsPerson", false)
theorem ykX8_tellsPerson : Yk yX8_tellsPerson MX8_tellsPerson 2 := ⟨tw377, tw42, ⟨by decide +kernel, by decide +kernel⟩, by decide +kernel⟩
abbrev MX8_tellsHouse : Mx := (RX8, cX8_tellsHouse, 3, rmk 3 0 0 69, (some .boolean), "tellsHouse", false)
theorem ykX8_tellsHouse : Yk yX8_tellsHouse MX8_tellsHouse 1 := ⟨tw350, tw42, ⟨by decide +kernel, by decide +kernel⟩, by decide +kernel⟩
abbrev MX9_leave : Mx := (RX9, cX9_leave, 2, rmk 0 0 0 0, none, "leave", false)
theorem ykX9_leave : Yk yX9_leave MX9_leave 1 := ⟨tw621, tw51, ⟨by decide +kernel, by decide +kernel⟩, by decide +kernel⟩
abbrev MX11_isWithin : Mx := (RX11, cX11_isWithin, 3, rmk 0 0 0 0, (some .boolean), "isWithin", false)
theorem ykX11_isWithin : Yk yX11_isWithin MX11_isWithin 3 := ⟨tw296, tw41, ⟨by decide +kernel, by decide +kernel⟩, by decide +kernel⟩
abbrev MX11_isRow : Mx := (RX11, cX11_isRow, 1, rmk 1 0 0 22, (some .boolean), "isRow", false)
theorem ykX11_isRow : Yk yX11_isRow MX11_isRow 1 := ⟨tw293, tw41, ⟨by decide +kernel, by decide +kernel⟩, by decide +kernel⟩
abbrev MX11_unhindered : Mx := (RX11, cX11_unhindered, 2, rmk 0 0 0 0, (some .int), "unhindered", false)
theorem ykX11_unhindered : Yk yX11_unhindered MX11_unhindered 1 := ⟨tw310, tw41, ⟨by decide +kernel, by decide +kernel⟩, by decide +kernel⟩
abbrev MX11_found : Mx := (RX11, cX11_found, 2, rmk 0 0 0 0, (some .int), "found", false)
theorem ykX11_found : Yk yX11_found MX11_found 1 := ⟨tw301, tw41, ⟨by decide +kernel, by decide +kernel⟩, by decide +kernel⟩
abbrev MX11_row : Mx := (RX11, cX11_row, 4, rmk 2 0 0 42, (some .int), "row", false)
theorem ykX11_row : Yk yX11_row MX11_row 3 := ⟨tw290, tw41, ⟨by decide +kernel, by decide +kernel⟩, by decide +kernel⟩
abbrev MX11_set : Mx := (RX11, cX11_set, 5, rmk 2 0 0 42, (some .int), "set", false)
theorem ykX11_set : Yk yX11_set MX11_set 3 := ⟨tw314, tw41, ⟨by decide +kernel, by decide +kernel⟩, by decide +kernel⟩
abbrev MX11_copy : Mx := (RX11, cX11_copy, 8, rmk 2 0 0 42, (some .int), "copy", false)
theorem ykX11_copy : Yk yX11_copy MX11_copy 5 := ⟨tw330, tw41, ⟨by decide +kernel, by decide +kernel⟩, by decide +kernel⟩
abbrev MX11_drop : Mx := (RX11, cX11_drop, 3, rmk 2 0 0 42, (some .int), "drop", false)
theorem ykX11_drop : Yk yX11_drop MX11_drop 1 := ⟨tw337, tw41, ⟨by decide +kernel, by decide +kernel⟩, by decide +kernel⟩
abbrev MX11_feed : Mx := (RX11, cX11_feed, 2, rmk 1 0 0 22, (some .int), "feed", false)
theorem ykX11_feed : Yk yX11_feed MX11_feed 1 := ⟨tw341, tw41, ⟨by decide +kernel, by decide +kernel⟩, by decide +kernel⟩
abbrev MX11_house : Mx := (RX11, cX11_house, 2, rmk 4 0 0 91, (some .int), "house", false)
theorem ykX11_house : Yk yX11_house MX11_house 0 := ⟨tw346, tw41, ⟨by decide +kernel, by decide +kernel⟩, by decide +kernel⟩
abbrev MX11_fault : Mx := (RX11, cX11_fault, 1, rmk 0 0 0 0, (some .int), "fault", false)
theorem ykX11_fault : Yk yX11_fault MX11_fault 0 := ⟨tw395, tw41, ⟨by decide +kernel, by decide +kernel⟩, by decide +kernel⟩
abbrev MX11_steps : Mx := (RX11, cX11_steps, 3, rmk 4 0 0 90, (some .int), "steps", false)
theorem ykX11_steps : Yk yX11_steps MX11_steps 1 := ⟨tw399, tw41, ⟨by decide +kernel, by decide +kernel⟩, by decide +kernel⟩
abbrev MX11_isPerson : Mx := (RX11, cX11_isPerson, 2, rmk 1 0 0 22, (some .boolean), "isPerson", false)
theorem ykX11_isPerson : Yk yX11_isPerson MX11_isPerson 1 := ⟨tw443, tw41, ⟨by decide +kernel, by decide +kernel⟩, by decide +kernel⟩
abbrev MX11_show : Mx := (RX11, cX11_show, 4, rmk 3 0 0 72, (some .int), "show", false)
theorem ykX11_show : Yk yX11_show MX11_show 2 := ⟨tw439, tw41, ⟨by decide +kernel, by decide +kernel⟩, by decide +kernel⟩
abbrev MX11_walk : Mx := (RX11, cX11_walk, 4, rmk 3 0 0 72, (some .int), "walk", false)
theorem ykX11_walk : Yk yX11_walk MX11_walk 2 := ⟨tw451, tw41, ⟨by decide +kernel, by decide +kernel⟩, by decide +kernel⟩
abbrev MX11_undo : Mx := (RX11, cX11_undo, 1, rmk 3 0 0 72, (some .int), "undo", false)
theorem ykX11_undo : Yk yX11_undo MX11_undo 0 := ⟨tw455, tw41, ⟨by decide +kernel, by decide +kernel⟩, by decide +kernel⟩
abbrev MX11_person : Mx := (RX11, cX11_person, 3, rmk 2 0 0 46, (some .int), "person", false)
theorem ykX11_person : Yk yX11_person MX11_person 2 := ⟨tw463, tw41, ⟨by decide +kernel, by decide +kernel⟩, by decide +kernel⟩
abbrev MX11_minds : Mx := (RX11, cX11_minds, 3, rmk 2 0 0 43, (some .int), "minds", false)
theorem ykX11_minds : Yk yX11_minds MX11_minds 2 := ⟨tw469, tw41, ⟨by decide +kernel, by decide +kernel⟩, by decide +kernel⟩
abbrev MX11_orNone : Mx := (RX11, cX11_orNone, 1, rmk 0 0 0 0, (some .int), "orNone", false)
theorem ykX11_orNone : Yk yX11_orNone MX11_orNone 1 := ⟨tw477, tw41, ⟨by decide +kernel, by decide +kernel⟩, by decide +kernel⟩
abbrev MX11_car : Mx := (RX11, cX11_car, 2, rmk 3 0 0 69, (some .int), "car", false)
theorem ykX11_car : Yk yX11_car MX11_car 1 := ⟨tw474, tw41, ⟨by decide +kernel, by decide +kernel⟩, by decide +kernel⟩
abbrev MX11_ahead : Mx := (RX11, cX11_ahead, 3, rmk 5 0 0 114, (some .int), "ahead", false)
theorem ykX11_ahead : Yk yX11_ahead MX11_ahead 2 := ⟨tw483, tw41, ⟨by decide +kernel, by decide +kernel⟩, by decide +kernel⟩
abbrev MX11_when : Mx := (RX11, cX11_when, 2, rmk 5 0 0 113, (some .int), "when", false)
theorem ykX11_when : Yk yX11_when MX11_when 1 := ⟨tw496, tw41, ⟨by decide +kernel, by decide +kernel⟩, by decide +kernel⟩
abbrev MX11_first : Mx := (RX11, cX11_first, 4, rmk 4 0 0 90, (some .int), "first", false)
theorem ykX11_first : Yk yX11_first MX11_first 1 := ⟨tw504, tw41, ⟨by decide +kernel, by decide +kernel⟩, by decide +kernel⟩
abbrev MX11_never : Mx := (RX11, cX11_never, 1, rmk 5 0 0 114, (some .int), "never", false)
theorem ykX11_never : Yk yX11_never MX11_never 0 := ⟨tw508, tw41, ⟨by decide +kernel, by decide +kernel⟩, by decide +kernel⟩
abbrev MX11_least : Mx := (RX11, cX11_least, 4, rmk 5 0 0 113, (some .int), "least", false)
theorem ykX11_least : Yk yX11_least MX11_least 2 := ⟨tw512, tw41, ⟨by decide +kernel, by decide +kernel⟩, by decide +kernel⟩
abbrev MJ6_bitCount_0f7a4 : Mx := (RJ6, cJ6_bitCount_0f7a4, 1, rmk 0 0 0 0, (some .int), "bitCount", false)
theorem ykJ6_bitCount_0f7a4 : Yk yJ6_bitCount_0f7a4 MJ6_bitCount_0f7a4 1 := ⟨tw528, tw56, ⟨by decide +kernel, by decide +kernel⟩, by decide +kernel⟩
abbrev MX11_worth : Mx := (RX11, cX11_worth, 4, rmk 5 0 0 114, (some .int), "worth", false)
theorem ykX11_worth : Yk yX11_worth MX11_worth 1 := ⟨tw520, tw41, ⟨by decide +kernel, by decide +kernel⟩, by decide +kernel⟩
abbrev MX11_hide : Mx := (RX11, cX11_hide, 7, rmk 6 0 0 137, (some .int), "hide", false)
theorem ykX11_hide : Yk yX11_hide MX11_hide 1 := ⟨tw516, tw41, ⟨by decide +kernel, by decide +kernel⟩, by decide +kernel⟩
abbrev MX11_beside : Mx := (RX11, cX11_beside, 7, rmk 5 0 0 113, (some .int), "beside", false)
theorem ykX11_beside : Yk yX11_beside MX11_beside 2 := ⟨tw535, tw41, ⟨by decide +kernel, by decide +kernel⟩, by decide +kernel⟩
abbrev MX11_fitting : Mx := (RX11, cX11_fitting, 9, rmk 5 0 0 114, (some .int), "fitting", false)
theorem ykX11_fitting : Yk yX11_fitting MX11_fitting 5 := ⟨tw543, tw41, ⟨by decide +kernel, by decide +kernel⟩, by decide +kernel⟩
abbrev MX11_fits : Mx := (RX11, cX11_fits, 7, rmk 6 0 0 142, (some .int), "fits", false)
theorem ykX11_fits : Yk yX11_fits MX11_fits 5 := ⟨tw539, tw41, ⟨by decide +kernel, by decide +kernel⟩, by decide +kernel⟩
abbrev MX11_power : Mx := (RX11, cX11_power, 4, rmk 0 0 0 0, (some .int), "power", false)
theorem ykX11_power : Yk yX11_power MX11_power 2 := ⟨tw562, tw41, ⟨by decide +kernel, by decide +kernel⟩, by decide +kernel⟩
abbrev MX11_commonDivisor : Mx := (RX11, cX11_commonDivisor, 6, rmk 1 0 0 24, (some .int), "commonDivisor", false)
theorem ykX11_commonDivisor : Yk yX11_commonDivisor MX11_commonDivisor 2 := ⟨tw569, tw41, ⟨by decide +kernel, by decide +kernel⟩, by decide +kernel⟩
abbrev MX11_isBroughtHiding : Mx := (RX11, cX11_isBroughtHiding, 4, rmk 5 0 0 113, (some .boolean), "isBroughtHiding", false)
theorem ykX11_isBroughtHiding : Yk yX11_isBroughtHiding MX11_isBroughtHiding 3 := ⟨tw566, tw41, ⟨by decide +kernel, by decide +kernel⟩, by decide +kernel⟩
abbrev MX11_hidden : Mx := (RX11, cX11_hidden, 11, rmk 6 0 0 136, (some .int), "hidden", false)
theorem ykX11_hidden : Yk yX11_hidden MX11_hidden 4 := ⟨tw555, tw41, ⟨by decide +kernel, by decide +kernel⟩, by decide +kernel⟩
abbrev MX11_drawn : Mx := (RX11, cX11_drawn, 7, rmk 4 0 0 90, (some .int), "drawn", false)
theorem ykX11_drawn : Yk yX11_drawn MX11_drawn 3 := ⟨tw576, tw41, ⟨by decide +kernel, by decide +kernel⟩, by decide +kernel⟩
abbrev MX11_image : Mx := (RX11, cX11_image, 2, rmk 2 0 0 51, (some .int), "image", false)
theorem ykX11_image : Yk yX11_image MX11_image 1 := ⟨tw588, tw41, ⟨by decide +kernel, by decide +kernel⟩, by decide +kernel⟩
abbrev MX11_restore : Mx := (RX11, cX11_restore, 2, rmk 2 0 0 51, (some .int), "restore", false)
theorem ykX11_restore : Yk yX11_restore MX11_restore 1 := ⟨tw592, tw41, ⟨by decide +kernel, by decide +kernel⟩, by decide +kernel⟩
abbrev MX11_kind : Mx := (RX11, cX11_kind, 2, rmk 2 0 0 43, (some .int), "kind", false)
theorem ykX11_kind : Yk yX11_kind MX11_kind 1 := ⟨tw596, tw41, ⟨by decide +kernel, by decide +kernel⟩, by decide +kernel⟩
abbrev MX11_kindOf : Mx := (RX11, cX11_kindOf, 2, rmk 0 0 0 0, (some (.object "LiftEnvy$Person")), "kindOf", false)
theorem ykX11_kindOf : Yk yX11_kindOf MX11_kindOf 1 := ⟨tw604, tw41, ⟨by decide +kernel, by decide +kernel⟩, by decide +kernel⟩
abbrev MX11_isOne_165 : Mx := (RX11, cX11_isOne, 2, rmk 0 0 0 0, (some .boolean), "isOne", false)
theorem ykX11_isOne_165 : Yk yX11_isOne MX11_isOne_165 2 := ⟨tw607, tw41, ⟨by decide +kernel, by decide +kernel⟩, by decide +kernel⟩
abbrev MX11_isOne_166 : Mx := (RX11, cX11_isOne, 2, rmk 0 0 0 0, (some .boolean), "isOne", false)
theorem ykX11_isOne_166 : Yk yX11_isOne MX11_isOne_166 2 := ⟨tw607, tw41, ⟨by decide +kernel, by decide +kernel⟩, by decide +kernel⟩
abbrev MX11_isOne_167 : Mx := (RX11, cX11_isOne, 2, rmk 0 0 0 0, (some .boolean), "isOne", false)
theorem ykX11_isOne_167 : Yk yX11_isOne MX11_isOne_167 2 := ⟨tw607, tw41, ⟨by decide +kernel, by decide +kernel⟩, by decide +kernel⟩
abbrev MX11_isOne_168 : Mx := (RX11, cX11_isOne, 2, rmk 0 0 0 0, (some .boolean), "isOne", false)
theorem ykX11_isOne_168 : Yk yX11_isOne MX11_isOne_168 2 := ⟨tw607, tw41, ⟨by decide +kernel, by decide +kernel⟩, by decide +kernel⟩
abbrev MX11_isOne_169 : Mx := (RX11, cX11_isOne, 2, rmk 0 0 0 0, (some .boolean), "isOne", false)
theorem ykX11_isOne_169 : Yk yX11_isOne MX11_isOne_169 2 := ⟨tw607, tw41, ⟨by decide +kernel, by decide +kernel⟩, by decide +kernel⟩
abbrev MX11_as : Mx := (RX11, cX11_as, 3, rmk 2 0 0 43, (some .int), "as", false)
theorem ykX11_as : Yk yX11_as MX11_as 2 := ⟨tw600, tw41, ⟨by decide +kernel, by decide +kernel⟩, by decide +kernel⟩
abbrev MX6_mark_165 : Mx := (RX6, cX6_mark, 4, rmk 1 0 0 21, (some .int), "mark", false)
theorem ykX6_mark_165 : Yk yX6_mark MX6_mark_165 3 := ⟨tw645, tw45, ⟨by decide +kernel, by decide +kernel⟩, by decide +kernel⟩
abbrev MX2_mark_165 : Mx := (RX2, cX2_mark, 4, rmk 2 0 0 46, (some .int), "mark", false)
theorem ykX2_mark_165 : Yk yX2_mark MX2_mark_165 3 := ⟨tw642, tw46, ⟨by decide +kernel, by decide +kernel⟩, by decide +kernel⟩
abbrev MX6_mark_166 : Mx := (RX6, cX6_mark, 4, rmk 1 0 0 21, (some .int), "mark", false)
theorem ykX6_mark_166 : Yk yX6_mark MX6_mark_166 3 := ⟨tw645, tw45, ⟨by decide +kernel, by decide +kernel⟩, by decide +kernel⟩
abbrev MX2_mark_166 : Mx := (RX2, cX2_mark, 4, rmk 2 0 0 46, (some .int), "mark", false)
theorem ykX2_mark_166 : Yk yX2_mark MX2_mark_166 3 := ⟨tw642, tw46, ⟨by decide +kernel, by decide +kernel⟩, by decide +kernel⟩
abbrev MX10_mark_166 : Mx := (RX10, cX10_mark, 4, rmk 3 0 0 69, (some .int), "mark", false)
theorem ykX10_mark_166 : Yk yX10_mark MX10_mark_166 3 := ⟨tw639, tw47, ⟨by decide +kernel, by decide +kernel⟩, by decide +kernel⟩
abbrev MX6_mark_167 : Mx := (RX6, cX6_mark, 4, rmk 1 0 0 21, (some .int), "mark", false)
theorem ykX6_mark_167 : Yk yX6_mark MX6_mark_167 3 := ⟨tw645, tw45, ⟨by decide +kernel, by decide +kernel⟩, by decide +kernel⟩
abbrev MX2_mark_167 : Mx := (RX2, cX2_mark, 4, rmk 2 0 0 46, (some .int), "mark", false)
theorem ykX2_mark_167 : Yk yX2_mark MX2_mark_167 3 := ⟨tw642, tw46, ⟨by decide +kernel, by decide +kernel⟩, by decide +kernel⟩
abbrev MX5_mark_167 : Mx := (RX5, cX5_mark, 4, rmk 3 0 0 69, (some .int), "mark", false)
theorem ykX5_mark_167 : Yk yX5_mark MX5_mark_167 3 := ⟨tw634, tw48, ⟨by decide +kernel, by decide +kernel⟩, by decide +kernel⟩
abbrev MX6_mark_168 : Mx := (RX6, cX6_mark, 4, rmk 1 0 0 21, (some .int), "mark", false)
theorem ykX6_mark_168 : Yk yX6_mark MX6_mark_168 3 := ⟨tw645, tw45, ⟨by decide +kernel, by decide +kernel⟩, by decide +kernel⟩
abbrev MX6_size_168 : Mx := (RX6, cX6_size, 4, rmk 1 0 0 21, (some .int), "size", false)
theorem ykX6_size_168 : Yk yX6_size MX6_size_168 3 := ⟨tw658, tw45, ⟨by decide +kernel, by decide +kernel⟩, by decide +kernel⟩
abbrev MX1_size_168 : Mx := (RX1, cX1_size, 4, rmk 2 0 0 44, (some .int), "size", false)
theorem ykX1_size_168 : Yk yX1_size MX1_size_168 3 := ⟨tw617, tw49, ⟨by decide +kernel, by decide +kernel⟩, by decide +kernel⟩
abbrev MX1_mark_168 : Mx := (RX1, cX1_mark, 4, rmk 3 0 0 67, (some .int), "mark", false)
theorem ykX1_mark_168 : Yk yX1_mark MX1_mark_168 3 := ⟨tw661, tw49, ⟨by decide +kernel, by decide +kernel⟩, by decide +kernel⟩
abbrev MX6_mark_169 : Mx := (RX6, cX6_mark, 4, rmk 1 0 0 21, (some .int), "mark", false)
theorem ykX6_mark_169 : Yk yX6_mark MX6_mark_169 3 := ⟨tw645, tw45, ⟨by decide +kernel, by decide +kernel⟩, by decide +kernel⟩
abbrev MX6_size_169 : Mx := (RX6, cX6_size, 4, rmk 1 0 0 21, (some .int), "size", false)
theorem ykX6_size_169 : Yk yX6_size MX6_size_169 3 := ⟨tw658, tw45, ⟨by decide +kernel, by decide +kernel⟩, by decide +kernel⟩
abbrev MX1_size_169 : Mx := (RX1, cX1_size, 4, rmk 2 0 0 44, (some .int), "size", false)
theorem ykX1_size_169 : Yk yX1_size MX1_size_169 3 := ⟨tw617, tw49, ⟨by decide +kernel, by decide +kernel⟩, by decide +kernel⟩
abbrev MX3_size_169 : Mx := (RX3, cX3_size, 4, rmk 3 0 0 67, (some .int), "size", false)
theorem ykX3_size_169 : Yk yX3_size MX3_size_169 3 := ⟨tw650, tw50, ⟨by decide +kernel, by decide +kernel⟩, by decide +kernel⟩
abbrev MX1_mark_169 : Mx := (RX1, cX1_mark, 4, rmk 4 0 0 90, (some .int), "mark", false)
theorem ykX1_mark_169 : Yk yX1_mark MX1_mark_169 3 := ⟨tw661, tw49, ⟨by decide +kernel, by decide +kernel⟩, by decide +kernel⟩
abbrev MX6_size_165 : Mx := (RX6, cX6_size, 4, rmk 1 0 0 21, (some .int), "size", false)
theorem ykX6_size_165 : Yk yX6_size MX6_size_165 3 := ⟨tw658, tw45, ⟨by decide +kernel, by decide +kernel⟩, by decide +kernel⟩
abbrev MX2_size_165 : Mx := (RX2, cX2_size, 4, rmk 3 0 0 69, (some .int), "size", false)
theorem ykX2_size_165 : Yk yX2_size MX2_size_165 3 := ⟨tw625, tw46, ⟨by decide +kernel, by decide +kernel⟩, by decide +kernel⟩
abbrev MX6_size_166 : Mx := (RX6, cX6_size, 4, rmk 1 0 0 21, (some .int), "size", false)
theorem ykX6_size_166 : Yk yX6_size MX6_size_166 3 := ⟨tw658, tw45, ⟨by decide +kernel, by decide +kernel⟩, by decide +kernel⟩
abbrev MX2_size_166 : Mx := (RX2, cX2_size, 4, rmk 4 0 0 92, (some .int), "size", false)
theorem ykX2_size_166 : Yk yX2_size MX2_size_166 3 := ⟨tw625, tw46, ⟨by decide +kernel, by decide +kernel⟩, by decide +kernel⟩
abbrev MX10_size_166 : Mx := (RX10, cX10_size, 4, rmk 5 0 0 115, (some .int), "size", false)
theorem ykX10_size_166 : Yk yX10_size MX10_size_166 3 := ⟨tw656, tw47, ⟨by decide +kernel, by decide +kernel⟩, by decide +kernel⟩
abbrev MX6_size_167 : Mx := (RX6, cX6_size, 4, rmk 1 0 0 21, (some .int), "size", false)
theorem ykX6_size_167 : Yk yX6_size MX6_size_167 3 := ⟨tw658, tw45, ⟨by decide +kernel, by decide +kernel⟩, by decide +kernel⟩
abbrev MX2_size_167 : Mx := (RX2, cX2_size, 4, rmk 4 0 0 92, (some .int), "size", false)
theorem ykX2_size_167 : Yk yX2_size MX2_size_167 3 := ⟨tw625, tw46, ⟨by decide +kernel, by decide +kernel⟩, by decide +kernel⟩
abbrev MX11_ask : Mx := (RX11, cX11_ask, 4, rmk 6 0 0 138, (some .int), "ask", false)
theorem ykX11_ask : Yk yX11_ask MX11_ask 2 := ⟨tw611, tw41, ⟨by decide +kernel, by decide +kernel⟩, by decide +kernel⟩
abbrev MX11_trace : Mx := (RX11, cX11_trace, 2, rmk 1 0 0 22, (some .int), "trace", false)
theorem ykX11_trace : Yk yX11_trace MX11_trace 1 := ⟨tw667, tw41, ⟨by decide +kernel, by decide +kernel⟩, by decide +kernel⟩
abbrev MX11_rowsThere : Mx := (RX11, cX11_rowsThere, 3, rmk 1 0 0 20, (some .int), "rowsThere", false)
theorem ykX11_rowsThere : Yk yX11_rowsThere MX11_rowsThere 0 := ⟨tw675, tw41, ⟨by decide +kernel, by decide +kernel⟩, by decide +kernel⟩
abbrev MX11_count : Mx := (RX11, cX11_count, 2, rmk 2 0 0 42, (some .int), "count", false)
theorem ykX11_count : Yk yX11_count MX11_count 1 := ⟨tw671, tw41, ⟨by decide +kernel, by decide +kernel⟩, by decide +kernel⟩
abbrev MX11_status : Mx := (RX11, cX11_status, 1, rmk 0 0 0 0, (some .int), "status", false)
theorem ykX11_status : Yk yX11_status MX11_status 0 := ⟨tw679, tw41, ⟨by decide +kernel, by decide +kernel⟩, by decide +kernel⟩
abbrev MX12_in : Mx := (RX12, cX12_in, 3, rmk 0 0 0 0, (some .boolean), "in", false)
theorem ykX12_in : Yk yX12_in MX12_in 3 := ⟨tw763, tw53, ⟨by decide +kernel, by decide +kernel⟩, by decide +kernel⟩
abbrev MX12_has : Mx := (RX12, cX12_has, 2, rmk 0 0 0 0, (some .boolean), "has", false)
theorem ykX12_has : Yk yX12_has MX12_has 2 := ⟨tw935, tw53, ⟨by decide +kernel, by decide +kernel⟩, by decide +kernel⟩
abbrev MX12_ones : Mx := (RX12, cX12_ones, 3, rmk 0 0 0 0, (some .int), "ones", false)
theorem ykX12_ones : Yk yX12_ones MX12_ones 1 := ⟨tw954, tw53, ⟨by decide +kernel, by decide +kernel⟩, by decide +kernel⟩
abbrev MX12_found : Mx := (RX12, cX12_found, 2, rmk 0 0 0 0, (some .int), "found", false)
theorem ykX12_found : Yk yX12_found MX12_found 1 := ⟨tw768, tw53, ⟨by decide +kernel, by decide +kernel⟩, by decide +kernel⟩
abbrev MX12_well : Mx := (RX12, cX12_well, 2, rmk 0 0 0 0, (some .int), "well", false)
theorem ykX12_well : Yk yX12_well MX12_well 1 := ⟨tw773, tw53, ⟨by decide +kernel, by decide +kernel⟩, by decide +kernel⟩
abbrev MX12_copies : Mx := (RX12, cX12_copies, 5, rmk 0 0 0 0, none, "copies", false)
theorem ykX12_copies : Yk yX12_copies MX12_copies 4 := ⟨tw840, tw53, ⟨by decide +kernel, by decide +kernel⟩, by decide +kernel⟩
abbrev MX12_isRow : Mx := (RX12, cX12_isRow, 1, rmk 1 0 0 22, (some .boolean), "isRow", false)
theorem ykX12_isRow : Yk yX12_isRow MX12_isRow 1 := ⟨tw760, tw53, ⟨by decide +kernel, by decide +kernel⟩, by decide +kernel⟩
abbrev MX12_isMissing : Mx := (RX12, cX12_isMissing, 2, rmk 0 0 0 0, (some .boolean), "isMissing", false)
theorem ykX12_isMissing : Yk yX12_isMissing MX12_isMissing 1 := ⟨tw781, tw53, ⟨by decide +kernel, by decide +kernel⟩, by decide +kernel⟩
abbrev MX12_cut : Mx := (RX12, cX12_cut, 2, rmk 0 0 0 0, (some .int), "cut", false)
theorem ykX12_cut : Yk yX12_cut MX12_cut 2 := ⟨tw784, tw53, ⟨by decide +kernel, by decide +kernel⟩, by decide +kernel⟩
abbrev MX12_row : Mx := (RX12, cX12_row, 5, rmk 2 0 0 42, (some .int), "row", false)
theorem ykX12_row : Yk yX12_row MX12_row 3 := ⟨tw757, tw53, ⟨by decide +kernel, by decide +kernel⟩, by decide +kernel⟩
abbrev MX12_set : Mx := (RX12, cX12_set, 4, rmk 2 0 0 42, (some .int), "set", false)
theorem ykX12_set : Yk yX12_set MX12_set 3 := ⟨tw777, tw53, ⟨by decide +kernel, by decide +kernel⟩, by decide +kernel⟩
abbrev MX12_isPart : Mx := (RX12, cX12_isPart, 4, rmk 0 0 0 0, (some .boolean), "isPart", false)
theorem ykX12_isPart : Yk yX12_isPart MX12_isPart 3 := ⟨tw792, tw53, ⟨by decide +kernel, by decide +kernel⟩, by decide +kernel⟩
abbrev MX12_copy : Mx := (RX12, cX12_copy, 7, rmk 2 0 0 42, (some .int), "copy", false)
theorem ykX12_copy : Yk yX12_copy MX12_copy 5 := ⟨tw788, tw53, ⟨by decide +kernel, by decide +kernel⟩, by decide +kernel⟩
abbrev MX12_drop : Mx := (RX12, cX12_drop, 2, rmk 2 0 0 42, (some .int), "drop", false)
theorem ykX12_drop : Yk yX12_drop MX12_drop 1 := ⟨tw796, tw53, ⟨by decide +kernel, by decide +kernel⟩, by decide +kernel⟩
abbrev MX12_feed : Mx := (RX12, cX12_feed, 2, rmk 1 0 0 22, (some .int), "feed", false)
theorem ykX12_feed : Yk yX12_feed MX12_feed 1 := ⟨tw800, tw53, ⟨by decide +kernel, by decide +kernel⟩, by decide +kernel⟩
abbrev MX12_byteAt : Mx := (RX12, cX12_byteAt, 2, rmk 0 0 0 0, (some .int), "byteAt", false)
theorem ykX12_byteAt : Yk yX12_byteAt MX12_byteAt 1 := ⟨tw813, tw53, ⟨by decide +kernel, by decide +kernel⟩, by decide +kernel⟩
abbrev MX12_advances : Mx := (RX12, cX12_advances, 2, rmk 1 0 0 22, none, "advances", false)
theorem ykX12_advances : Yk yX12_advances MX12_advances 0 := ⟨tw809, tw53, ⟨by decide +kernel, by decide +kernel⟩, by decide +kernel⟩
abbrev MX12_isWell : Mx := (RX12, cX12_isWell, 1, rmk 0 0 0 0, (some .boolean), "isWell", false)
theorem ykX12_isWell : Yk yX12_isWell MX12_isWell 0 := ⟨tw821, tw53, ⟨by decide +kernel, by decide +kernel⟩, by decide +kernel⟩
abbrev MX12_takes : Mx := (RX12, cX12_takes, 4, rmk 2 0 0 43, (some .int), "takes", false)
theorem ykX12_takes : Yk yX12_takes MX12_takes 2 := ⟨tw817, tw53, ⟨by decide +kernel, by decide +kernel⟩, by decide +kernel⟩
abbrev MX12_figure : Mx := (RX12, cX12_figure, 3, rmk 3 0 0 66, (some .int), "figure", false)
theorem ykX12_figure : Yk yX12_figure MX12_figure 2 := ⟨tw825, tw53, ⟨by decide +kernel, by decide +kernel⟩, by decide +kernel⟩
abbrev MX12_kindOf : Mx := (RX12, cX12_kindOf, 1, rmk 0 0 0 0, (some .int), "kindOf", false)
theorem ykX12_kindOf : Yk yX12_kindOf MX12_kindOf 1 := ⟨tw832, tw53, ⟨by decide +kernel, by decide +kernel⟩, by decide +kernel⟩
abbrev MX12_next : Mx := (RX12, cX12_next, 3, rmk 4 0 0 88, (some .int), "next", false)
theorem ykX12_next : Yk yX12_next MX12_next 2 := ⟨tw829, tw53, ⟨by decide +kernel, by decide +kernel⟩, by decide +kernel⟩
abbrev MX12_readsPerson : Mx := (RX12, cX12_readsPerson, 7, rmk 5 0 0 110, none, "readsPerson", false)
theorem ykX12_readsPerson : Yk yX12_readsPerson MX12_readsPerson 0 := ⟨tw836, tw53, ⟨by decide +kernel, by decide +kernel⟩, by decide +kernel⟩
abbrev MX12_house : Mx := (RX12, cX12_house, 2, rmk 6 0 0 136, (some .int), "house", false)
theorem ykX12_house : Yk yX12_house MX12_house 0 := ⟨tw805, tw53, ⟨by decide +kernel, by decide +kernel⟩, by decide +kernel⟩
abbrev MX12_fault : Mx := (RX12, cX12_fault, 1, rmk 0 0 0 0, (some .int), "fault", false)
theorem ykX12_fault : Yk yX12_fault MX12_fault 0 := ⟨tw844, tw53, ⟨by decide +kernel, by decide +kernel⟩, by decide +kernel⟩
abbrev MX12_isHouse : Mx := (RX12, cX12_isHouse, 1, rmk 0 0 0 0, (some .boolean), "isHouse", false)
theorem ykX12_isHouse : Yk yX12_isHouse MX12_isHouse 0 := ⟨tw852, tw53, ⟨by decide +kernel, by decide +kernel⟩, by decide +kernel⟩
abbrev MX12_isPerson : Mx := (RX12, cX12_isPerson, 2, rmk 1 0 0 22, (some .boolean), "isPerson", false)
theorem ykX12_isPerson : Yk yX12_isPerson MX12_isPerson 1 := ⟨tw883, tw53, ⟨by decide +kernel, by decide +kernel⟩, by decide +kernel⟩
abbrev MX12_isFar : Mx := (RX12, cX12_isFar, 1, rmk 1 0 0 22, (some .boolean), "isFar", false)
theorem ykX12_isFar : Yk yX12_isFar MX12_isFar 1 := ⟨tw916, tw53, ⟨by decide +kernel, by decide +kernel⟩, by decide +kernel⟩
abbrev MX12_mindsOf : Mx := (RX12, cX12_mindsOf, 7, rmk 0 0 0 0, (some .int), "mindsOf", false)
theorem ykX12_mindsOf : Yk yX12_mindsOf MX12_mindsOf 3 := ⟨tw875, tw53, ⟨by decide +kernel, by decide +kernel⟩, by decide +kernel⟩
abbrev MX12_rides : Mx := (RX12, cX12_rides, 2, rmk 0 0 0 0, (some .boolean), "rides", false)
theorem ykX12_rides : Yk yX12_rides MX12_rides 2 := ⟨tw872, tw53, ⟨by decide +kernel, by decide +kernel⟩, by decide +kernel⟩
abbrev MX12_envyOf : Mx := (RX12, cX12_envyOf, 5, rmk 1 0 0 26, (some .int), "envyOf", false)
theorem ykX12_envyOf : Yk yX12_envyOf MX12_envyOf 2 := ⟨tw869, tw53, ⟨by decide +kernel, by decide +kernel⟩, by decide +kernel⟩
abbrev MX12_calls : Mx := (RX12, cX12_calls, 5, rmk 2 0 0 50, (some .int), "calls", false)
theorem ykX12_calls : Yk yX12_calls MX12_calls 1 := ⟨tw866, tw53, ⟨by decide +kernel, by decide +kernel⟩, by decide +kernel⟩
abbrev MX12_nearer : Mx := (RX12, cX12_nearer, 2, rmk 0 0 0 0, (some .int), "nearer", false)
theorem ykX12_nearer : Yk yX12_nearer MX12_nearer 2 := ⟨tw863, tw53, ⟨by decide +kernel, by decide +kernel⟩, by decide +kernel⟩
abbrev MX12_passes : Mx := (RX12, cX12_passes, 3, rmk 3 0 0 74, none, "passes", false)
theorem ykX12_passes : Yk yX12_passes MX12_passes 1 := ⟨tw860, tw53, ⟨by decide +kernel, by decide +kernel⟩, by decide +kernel⟩
abbrev MX12_broughtIn : Mx := (RX12, cX12_broughtIn, 3, rmk 0 0 0 0, (some .int), "broughtIn", false)
theorem ykX12_broughtIn : Yk yX12_broughtIn MX12_broughtIn 1 := ⟨tw909, tw53, ⟨by decide +kernel, by decide +kernel⟩, by decide +kernel⟩
abbrev MX12_tries : Mx := (RX12, cX12_tries, 3, rmk 4 0 0 96, none, "tries", false)
theorem ykX12_tries : Yk yX12_tries MX12_tries 1 := ⟨tw920, tw53, ⟨by decide +kernel, by decide +kernel⟩, by decide +kernel⟩
abbrev MX12_broughtBy : Mx := (RX12, cX12_broughtBy, 4, rmk 4 0 0 96, (some .int), "broughtBy", false)
theorem ykX12_broughtBy : Yk yX12_broughtBy MX12_broughtBy 2 := ⟨tw928, tw53, ⟨by decide +kernel, by decide +kernel⟩, by decide +kernel⟩
abbrev MX12_notes : Mx := (RX12, cX12_notes, 2, rmk 1 0 0 24, none, "notes", false)
theorem ykX12_notes : Yk yX12_notes MX12_notes 0 := ⟨tw857, tw53, ⟨by decide +kernel, by decide +kernel⟩, by decide +kernel⟩
abbrev MX12_steps : Mx := (RX12, cX12_steps, 3, rmk 4 0 0 96, (some .int), "steps", false)
theorem ykX12_steps : Yk yX12_steps MX12_steps 1 := ⟨tw848, tw53, ⟨by decide +kernel, by decide +kernel⟩, by decide +kernel⟩
abbrev MX12_show : Mx := (RX12, cX12_show, 4, rmk 2 0 0 45, (some .int), "show", false)
theorem ykX12_show : Yk yX12_show MX12_show 2 := ⟨tw879, tw53, ⟨by decide +kernel, by decide +kernel⟩, by decide +kernel⟩
abbrev MX12_walk : Mx := (RX12, cX12_walk, 4, rmk 2 0 0 45, (some .int), "walk", false)
theorem ykX12_walk : Yk yX12_walk MX12_walk 2 := ⟨tw887, tw53, ⟨by decide +kernel, by decide +kernel⟩, by decide +kernel⟩
abbrev MX12_undo : Mx := (RX12, cX12_undo, 1, rmk 1 0 0 24, (some .int), "undo", false)
theorem ykX12_undo : Yk yX12_undo MX12_undo 0 := ⟨tw891, tw53, ⟨by decide +kernel, by decide +kernel⟩, by decide +kernel⟩
abbrev MX12_person : Mx := (RX12, cX12_person, 4, rmk 2 0 0 50, (some .int), "person", false)
theorem ykX12_person : Yk yX12_person MX12_person 2 := ⟨tw895, tw53, ⟨by decide +kernel, by decide +kernel⟩, by decide +kernel⟩
abbrev MX12_minds : Mx := (RX12, cX12_minds, 3, rmk 2 0 0 43, (some .int), "minds", false)
theorem ykX12_minds : Yk yX12_minds MX12_minds 2 := ⟨tw899, tw53, ⟨by decide +kernel, by decide +kernel⟩, by decide +kernel⟩
abbrev MX12_riderIn : Mx := (RX12, cX12_riderIn, 1, rmk 0 0 0 0, (some .int), "riderIn", false)
theorem ykX12_riderIn : Yk yX12_riderIn MX12_riderIn 1 := ⟨tw906, tw53, ⟨by decide +kernel, by decide +kernel⟩, by decide +kernel⟩
abbrev MX12_car : Mx := (RX12, cX12_car, 2, rmk 3 0 0 74, (some .int), "car", false)
theorem ykX12_car : Yk yX12_car MX12_car 1 := ⟨tw903, tw53, ⟨by decide +kernel, by decide +kernel⟩, by decide +kernel⟩
abbrev MX12_ahead : Mx := (RX12, cX12_ahead, 3, rmk 5 0 0 118, (some .int), "ahead", false)
theorem ykX12_ahead : Yk yX12_ahead MX12_ahead 2 := ⟨tw913, tw53, ⟨by decide +kernel, by decide +kernel⟩, by decide +kernel⟩
abbrev MX12_when : Mx := (RX12, cX12_when, 2, rmk 5 0 0 119, (some .int), "when", false)
theorem ykX12_when : Yk yX12_when MX12_when 1 := ⟨tw924, tw53, ⟨by decide +kernel, by decide +kernel⟩, by decide +kernel⟩
abbrev MX12_first : Mx := (RX12, cX12_first, 6, rmk 5 0 0 118, (some .int), "first", false)
theorem ykX12_first : Yk yX12_first MX12_first 1 := ⟨tw932, tw53, ⟨by decide +kernel, by decide +kernel⟩, by decide +kernel⟩
abbrev MX12_never : Mx := (RX12, cX12_never, 1, rmk 5 0 0 118, (some .int), "never", false)
theorem ykX12_never : Yk yX12_never MX12_never 0 := ⟨tw939, tw53, ⟨by decide +kernel, by decide +kernel⟩, by decide +kernel⟩
abbrev MX12_least : Mx := (RX12, cX12_least, 4, rmk 5 0 0 119, (some .int), "least", false)
theorem ykX12_least : Yk yX12_least MX12_least 2 := ⟨tw943, tw53, ⟨by decide +kernel, by decide +kernel⟩, by decide +kernel⟩
abbrev MX12_hides : Mx := (RX12, cX12_hides, 3, rmk 5 0 0 118, none, "hides", false)
theorem ykX12_hides : Yk yX12_hides MX12_hides 1 := ⟨tw951, tw53, ⟨by decide +kernel, by decide +kernel⟩, by decide +kernel⟩
abbrev MX12_hide : Mx := (RX12, cX12_hide, 11, rmk 6 0 0 140, (some .int), "hide", false)
theorem ykX12_hide : Yk yX12_hide MX12_hide 1 := ⟨tw947, tw53, ⟨by decide +kernel, by decide +kernel⟩, by decide +kernel⟩
abbrev MX12_beside : Mx := (RX12, cX12_beside, 8, rmk 5 0 0 119, (some .int), "beside", false)
theorem ykX12_beside : Yk yX12_beside MX12_beside 2 := ⟨tw958, tw53, ⟨by decide +kernel, by decide +kernel⟩, by decide +kernel⟩
abbrev MX12_goesSo : Mx := (RX12, cX12_goesSo, 5, rmk 4 0 0 96, (some .boolean), "goesSo", false)
theorem ykX12_goesSo : Yk yX12_goesSo MX12_goesSo 2 := ⟨tw966, tw53, ⟨by decide +kernel, by decide +kernel⟩, by decide +kernel⟩
abbrev MX12_fits : Mx := (RX12, cX12_fits, 11, rmk 5 0 0 120, (some .int), "fits", false)
theorem ykX12_fits : Yk yX12_fits MX12_fits 5 := ⟨tw962, tw53, ⟨by decide +kernel, by decide +kernel⟩, by decide +kernel⟩
abbrev MX12_hidden : Mx := (RX12, cX12_hidden, 11, rmk 6 0 0 140, (some .int), "hidden", false)
theorem ykX12_hidden : Yk yX12_hidden MX12_hidden 4 := ⟨tw970, tw53, ⟨by decide +kernel, by decide +kernel⟩, by decide +kernel⟩
abbrev MX12_drawn : Mx := (RX12, cX12_drawn, 9, rmk 5 0 0 118, (some .int), "drawn", false)
theorem ykX12_drawn : Yk yX12_drawn MX12_drawn 3 := ⟨tw974, tw53, ⟨by decide +kernel, by decide +kernel⟩, by decide +kernel⟩
abbrev MX12_image : Mx := (RX12, cX12_image, 2, rmk 1 0 0 24, (some .int), "image", false)
theorem ykX12_image : Yk yX12_image MX12_image 1 := ⟨tw982, tw53, ⟨by decide +kernel, by decide +kernel⟩, by decide +kernel⟩
abbrev MX12_restore : Mx := (RX12, cX12_restore, 2, rmk 1 0 0 24, (some .int), "restore", false)
theorem ykX12_restore : Yk yX12_restore MX12_restore 1 := ⟨tw986, tw53, ⟨by decide +kernel, by decide +kernel⟩, by decide +kernel⟩
abbrev MX12_kindIn : Mx := (RX12, cX12_kindIn, 2, rmk 0 0 0 0, (some .int), "kindIn", false)
theorem ykX12_kindIn : Yk yX12_kindIn MX12_kindIn 1 := ⟨tw994, tw53, ⟨by decide +kernel, by decide +kernel⟩, by decide +kernel⟩
abbrev MX12_kind : Mx := (RX12, cX12_kind, 2, rmk 2 0 0 43, (some .int), "kind", false)
theorem ykX12_kind : Yk yX12_kind MX12_kind 1 := ⟨tw990, tw53, ⟨by decide +kernel, by decide +kernel⟩, by decide +kernel⟩
abbrev MX12_as : Mx := (RX12, cX12_as, 5, rmk 2 0 0 43, (some .int), "as", false)
theorem ykX12_as : Yk yX12_as MX12_as 2 := ⟨tw998, tw53, ⟨by decide +kernel, by decide +kernel⟩, by decide +kernel⟩
abbrev MX12_begins : Mx := (RX12, cX12_begins, 2, rmk 0 0 0 0, none, "begins", false)
theorem ykX12_begins : Yk yX12_begins MX12_begins 1 := ⟨tw1010, tw53, ⟨by decide +kernel, by decide +kernel⟩, by decide +kernel⟩
abbrev MX12_clerkMark : Mx := (RX12, cX12_clerkMark, 4, rmk 2 0 0 50, (some .int), "clerkMark", false)
theorem ykX12_clerkMark : Yk yX12_clerkMark MX12_clerkMark 1 := ⟨tw1018, tw53, ⟨by decide +kernel, by decide +kernel⟩, by decide +kernel⟩
abbrev MX12_chiefSize : Mx := (RX12, cX12_chiefSize, 4, rmk 1 0 0 21, (some .int), "chiefSize", false)
theorem ykX12_chiefSize : Yk yX12_chiefSize MX12_chiefSize 1 := ⟨tw1006, tw53, ⟨by decide +kernel, by decide +kernel⟩, by decide +kernel⟩
abbrev MX12_clerkSize : Mx := (RX12, cX12_clerkSize, 4, rmk 3 0 0 73, (some .int), "clerkSize", false)
theorem ykX12_clerkSize : Yk yX12_clerkSize MX12_clerkSize 1 := ⟨tw1014, tw53, ⟨by decide +kernel, by decide +kernel⟩, by decide +kernel⟩
abbrev MX12_chiefMark : Mx := (RX12, cX12_chiefMark, 2, rmk 2 0 0 44, (some .int), "chiefMark", false)
theorem ykX12_chiefMark : Yk yX12_chiefMark MX12_chiefMark 1 := ⟨tw1022, tw53, ⟨by decide +kernel, by decide +kernel⟩, by decide +kernel⟩
abbrev MX12_ask : Mx := (RX12, cX12_ask, 4, rmk 4 0 0 96, (some .int), "ask", false)
theorem ykX12_ask : Yk yX12_ask MX12_ask 2 := ⟨tw1002, tw53, ⟨by decide +kernel, by decide +kernel⟩, by decide +kernel⟩
abbrev MX12_trace : Mx := (RX12, cX12_trace, 2, rmk 1 0 0 22, (some .int), "trace", false)
theorem ykX12_trace : Yk yX12_trace MX12_trace 1 := ⟨tw1026, tw53, ⟨by decide +kernel, by decide +kernel⟩, by decide +kernel⟩
abbrev MX12_count : Mx := (RX12, cX12_count, 4, rmk 1 0 0 22, (some .int), "count", false)
theorem ykX12_count : Yk yX12_count MX12_count 1 := ⟨tw1030, tw53, ⟨by decide +kernel, by decide +kernel⟩, by decide +kernel⟩
abbrev MX12_status : Mx := (RX12, cX12_status, 1, rmk 0 0 0 0, (some .int), "status", false)
theorem ykX12_status : Yk yX12_status MX12_status 0 := ⟨tw1034, tw53, ⟨by decide +kernel, by decide +kernel⟩, by decide +kernel⟩
