abbrev MIX11 : Mx := (RX11, cX11_init, 2, rmk 4 199 1707 72, none, "<init>", true)
theorem ykiX11 : Yk yX11_init MIX11 0 := ⟨tw61, tw41, ⟨by decide +kernel, by decide +kernel⟩, by decide +kernel⟩
def s0 : Mu := (1, fun _ _ => false, fun _ _ => 0)
def s1 : Mu := mA s0 0 0
def s2 : Mu := mset (mTa 2 (mnew s1)) 0 1
def s3 : Mu := mset (mHo 4 (mnew s2)) 0 2
def s4 : Mu := mset (mHo 10 (mnew s3)) 0 3
def s5 : Mu := mA s4 0 4
def s6 : Mu := mA s5 0 5
def s7 : Mu := mset (mB (mA (mnew s6) 18 0) 24) 0 6
def s8 : Mu := mnew s7
def p0 : Mu := mset (mnew s8) 164 0
def p1 : Mu := mset (mnew p0) 164 1
def p2 : Mu := mset (mnew p1) 164 2
def p3 : Mu := mset (mnew p2) 164 3
def p4 : Mu := mset (mnew p3) 164 4
def s10 : Mu := mset p4 0 7
def s11 : Mu := mset (mTa 170 (mnew s10)) 0 8
def s12 : Mu := mW s11 8
def s13 : Mu := mI2 s12 2
theorem mnew_1 (μ : Mu) : (mnew μ).1 = μ.1 + 1 := rfl
theorem mset_1 (μ : Mu) (k j : Nat) : (mset μ k j).1 = μ.1 := rfl
theorem cn6 : s6.1 = 18 := rfl
theorem cn7 : s7.1 = 164 := by
  unfold s7
  rw [mset_1, mB_1 (by rw [mset_1, mnew_1, mnew_1, cn6])]
theorem cn8 : s8.1 = 165 := by
  unfold s8
  rw [mnew_1, cn7]
theorem np0 : p0.1 = 166 := by
  unfold p0
  rw [mset_1, mnew_1, cn8]
theorem np1 : p1.1 = 167 := by
  unfold p1
  rw [mset_1, mnew_1, np0]
theorem np2 : p2.1 = 168 := by
  unfold p2
  rw [mset_1, mnew_1, np1]
theorem np3 : p3.1 = 169 := by
  unfold p3
  rw [mset_1, mnew_1, np2]
theorem np4 : p4.1 = 170 := by
  unfold p4
  rw [mset_1, mnew_1, np3]
theorem cn10 : s10.1 = 170 := by
  unfold s10
  rw [mset_1, np4]
theorem cn11 : s11.1 = 172 := by
  unfold s11
  rw [mset_1, mTa_1, mnew_1, cn10]
theorem cn12 : s12.1 = 188 := by
  unfold s12
  rw [mW_1 cn11]
theorem cn13 : s13.1 = 200 := by
  unfold s13
  rw [mI2_1 cn12]
theorem zs0 : Zr s0 := fun _ _ _ => ⟨rfl, rfl⟩
theorem zs1 : Zr s1 := zs0.arr (by decide)
theorem zs2 : Zr s2 := (zs1.new.ta (by decide)).set (by decide)
theorem zs3 : Zr s3 := (zs2.new.ho (by decide)).set (by decide)
theorem zs4 : Zr s4 := (zs3.new.ho (by decide)).set (by decide)
theorem zs5 : Zr s5 := zs4.arr (by decide)
theorem zs6 : Zr s6 := zs5.arr (by decide)
theorem zs7 : Zr s7 := by
  unfold s7
  have h : (mA (mnew s6) 18 0).1 = 20 := by rw [mset_1, mnew_1, mnew_1, cn6]
  exact Zr.set (mB_z h (zs6.new.arr (by rw [mnew_1, cn6]; decide)) 24) (by rw [mB_1 h]; decide)
theorem zs8 : Zr s8 := by
  unfold s8
  exact zs7.new
theorem zq0 : Zr p0 := by
  unfold p0
  exact zs8.new.set (by rw [mnew_1, cn8]; decide)
theorem zq1 : Zr p1 := by
  unfold p1
  exact zq0.new.set (by rw [mnew_1, np0]; decide)
theorem zq2 : Zr p2 := by
  unfold p2
  exact zq1.new.set (by rw [mnew_1, np1]; decide)
theorem zq3 : Zr p3 := by
  unfold p3
  exact zq2.new.set (by rw [mnew_1, np2]; decide)
theorem zq4 : Zr p4 := by
  unfold p4
  exact zq3.new.set (by rw [mnew_1, np3]; decide)
theorem zs10 : Zr s10 := by
  unfold s10
  exact zq4.set (by rw [np4]; decide)
theorem zs11 : Zr s11 := by
  unfold s11
  exact (zs10.new.ta (by rw [mnew_1, cn10]; decide)).set (by rw [mTa_1, mnew_1, cn10]; decide)
theorem zs12 : Zr s12 := by
  unfold s12
  exact mW_z cn11 zs11 8
theorem zs13 : Zr s13 := by
  unfold s13
  exact mI2_z cn12 zs12 2
theorem s1_e : mset (mnew s0) 0 0 = s1 := by rw [s1]
theorem s2_e : mset (mTa 2 (mnew s1)) 0 1 = s2 := by rw [s2]
theorem s3_e : mset (mHo 4 (mnew s2)) 0 2 = s3 := by rw [s3]
theorem s4_e : mset (mHo 10 (mnew s3)) 0 3 = s4 := by rw [s4]
theorem s5_e : mset (mnew s4) 0 4 = s5 := by rw [s5]
theorem s6_e : mset (mnew s5) 0 5 = s6 := by rw [s6]
theorem s7_e : mset (mB (mA (mnew s6) 18 0) 24) 0 6 = s7 := by rw [s7]
theorem s8_e : mnew s7 = s8 := by rw [s8]
theorem p0_e : mset (mnew s8) 164 0 = p0 := by rw [p0]
theorem p1_e : mset (mnew p0) 164 1 = p1 := by rw [p1]
theorem p2_e : mset (mnew p1) 164 2 = p2 := by rw [p2]
theorem p3_e : mset (mnew p2) 164 3 = p3 := by rw [p3]
theorem p4_e : mset (mnew p3) 164 4 = p4 := by rw [p4]
theorem s10_e : mset p4 0 7 = s10 := by rw [s10]
theorem s11_e : mset (mTa 170 (mnew s10)) 0 8 = s11 := by rw [s11]
theorem s13_e : mI2 (mW s11 8) 2 = s13 := by rw [s13, s12]
