theorem cutb8 (v : BitVec 32) : (v.signExtend 8).signExtend 32 = (v <<< 24).sshiftRight 24 := by
  apply BitVec.eq_of_getLsbD_eq
  intro i hi
  rw [BitVec.getLsbD_signExtend, BitVec.getLsbD_sshiftRight]
  by_cases c : i < 8
  · rw [if_pos c, if_pos (by omega), BitVec.getLsbD_signExtend, BitVec.getLsbD_shiftLeft, if_pos hi, show 24 + i - 24 = i by omega]
    simp [hi, c, show 24 + i < 32 by omega, show ¬ 32 ≤ i by omega, show ¬ 24 + i < 24 by omega]
  · rw [if_neg c, if_neg (by omega), BitVec.msb_signExtend, BitVec.msb_shiftLeft]
    simp [hi]
theorem cutb16 (v : BitVec 32) : (v.signExtend 16).signExtend 32 = (v <<< 16).sshiftRight 16 := by
  apply BitVec.eq_of_getLsbD_eq
  intro i hi
  rw [BitVec.getLsbD_signExtend, BitVec.getLsbD_sshiftRight]
  by_cases c : i < 16
  · rw [if_pos c, if_pos (by omega), BitVec.getLsbD_signExtend, BitVec.getLsbD_shiftLeft, if_pos hi, show 16 + i - 16 = i by omega]
    simp [hi, c, show 16 + i < 32 by omega, show ¬ 32 ≤ i by omega, show ¬ 16 + i < 16 by omega]
  · rw [if_neg c, if_neg (by omega), BitVec.msb_signExtend, BitVec.msb_shiftLeft]
    simp [hi]
theorem sh24 : (((24 : Int32) &&& 31).toBitVec.smod 32) = 24#32 := by decide +kernel
theorem sh16 : (((16 : Int32) &&& 31).toBitVec.smod 32) = 16#32 := by decide +kernel
theorem cut8 (v : Int32) : v.toInt8.toInt32 = (v <<< ((24 : Int32) &&& 31)) >>> ((24 : Int32) &&& 31) := by
  apply Int32.toBitVec_inj.mp
  rw [Int8.toBitVec_toInt32, Int32.toBitVec_toInt8, Int32.toBitVec_shiftRight, Int32.toBitVec_shiftLeft, sh24]
  exact cutb8 v.toBitVec
theorem cut16 (v : Int32) : v.toInt16.toInt32 = (v <<< ((16 : Int32) &&& 31)) >>> ((16 : Int32) &&& 31) := by
  apply Int32.toBitVec_inj.mp
  rw [Int16.toBitVec_toInt32, Int32.toBitVec_toInt16, Int32.toBitVec_shiftRight, Int32.toBitVec_shiftLeft, sh16]
  exact cutb16 v.toBitVec
/-! rows -/
theorem X_found_eq (x : Int32) (σ : Sg) : fX_found x σ = some ((-1000010) - x, wr σ 0 11 x) := rfl
theorem X_unh_eq (x : Int32) (σ : Sg) : fX_unhindered x σ = some (x, wr σ 0 11 0) := rfl
theorem M_found_eq (x : Int32) (σ : Sg) : fM_found x σ = some ((-1000010) - x, wr σ 200 4 x) := rfl
theorem M_well_eq (x : Int32) (σ : Sg) : fM_well x σ = some (x, wr σ 200 4 0) := rfl
/-- a finding, in both -/
theorem Inv.stat {σ : Sg} (h : Inv σ) (x : Int32) : Inv (wr (wr σ 0 11 x) 200 4 x) := by
  obtain ⟨⟨w, n, t, r, h1⟩, h2, h3, h4, h5, h6, h7⟩ := h
  refine ⟨⟨w, n, t, r, h1.cong ?_ ?_ ?_⟩, h2.cong ?_ ?_ ?_ ?_, h3.cong ?_ ?_ ?_ ?_, ⟨?_, ?_⟩, h5.cong ?_ ?_ ?_ ?_, h6.cong ?_ ?_ ?_ ?_ ?_, h7.cong ?_ ?_ ?_ ?_ ?_⟩
  case refine_12 => simp (disch := omega) only [wr_ne, wr_no]; exact h4.1
  case refine_13 => simp (disch := omega) only [wr_ne, wr_at]
  all_goals first
    | (intro k q1 q2; simp (disch := omega) only [wr_ne])
    | simp (disch := omega) only [wr_ne, wr_no]
theorem R_become_L {r : Nat} : ∀ (k i N : Nat) (σ : Sg), i + k = 40 → k < N → ∃ f, fR_become_L12 N r (nI i) σ = some (zsc σ (r + 1) f) ∧ ∀ j, j < 40 → f j = if i ≤ j then 0 else σ (r + 1) j := by
  intro k
  induction k with
  | zero =>
    intro i N σ hi hN
    obtain ⟨N, rfl⟩ : ∃ M, N = M + 1 := ⟨N - 1, by omega⟩
    refine ⟨σ (r + 1), ?_, fun j hj => by rw [if_neg (by omega)]⟩
    show fR_become_b12 (fR_become_L12 N) r (nI i) σ = _
    unfold fR_become_b12
    rw [show i = 40 by omega, if_pos (by decide), zsc_id]
  | succ k ih =>
    intro i N σ hi hN
    obtain ⟨N, rfl⟩ : ∃ M, N = M + 1 := ⟨N - 1, by omega⟩
    obtain ⟨f, e1, e2⟩ := ih (i + 1) N (wr σ (r + 1) i 0) (by omega) (by omega)
    refine ⟨f, ?_, fun j hj => ?_⟩
    · show fR_become_b12 (fR_become_L12 N) r (nI i) σ = _
      unfold fR_become_b12
      simp only [ltc_e]
      rw [if_neg (show ¬ (40 : Int32) ≤ nI i from nI_ge (b := 40) (by omega) (by omega)), zin (by omega) (by omega), if_pos rfl, zix (by omega), nI_1, e1, zwr, zsc_t]
    · rw [e2 j hj]
      by_cases c : j = i
      · rw [if_neg (by omega), if_pos (by omega), c, wr_at]
      · by_cases d : i ≤ j
        · rw [if_pos (by omega), if_pos d]
        · rw [if_neg (by omega), if_neg d, wr_no c]
theorem R_become (r : Nat) (x1 x2 : Int32) (σ : Sg) : ∃ f, fR_become r x1 x2 σ = some (zsc (wr (wr σ r 1 x1) r 2 x2) (r + 1) f) ∧ ∀ j, j < 40 → f j = 0 := by
  obtain ⟨f, e1, e2⟩ := R_become_L (r := r) 40 0 2000 (wr (wr σ r 1 x1) r 2 x2) (by omega) (by omega)
  refine ⟨f, ?_, fun j hj => by rw [e2 j hj, if_pos (by omega)]⟩
  unfold fR_become
  simp only [ltc_e]
  exact e1
theorem M_row_L {r : Nat} (hr : r < 8) (x3 : Int32) : ∀ (k i N : Nat) (σ : Sg), i + k = 40 → k < N → ∃ f, fM_row_L52 N (nI r) x3 (nI i) σ = some (x3, wr (zsc σ 203 f) 200 4 0) ∧ ∀ y, f y = if 40 * r + i ≤ y ∧ y < 40 * r + 40 then 0 else σ 203 y := by
  intro k
  induction k with
  | zero =>
    intro i N σ hi hN
    obtain ⟨N, rfl⟩ : ∃ M, N = M + 1 := ⟨N - 1, by omega⟩
    refine ⟨σ 203, ?_, fun j => by rw [if_neg (by omega)]⟩
    show fM_row_b52 (fM_row_L52 N) (nI r) x3 (nI i) σ = _
    unfold fM_row_b52
    rw [show i = 40 by omega, if_pos (by decide), zsc_id, M_well_eq, Option.bind_some]
  | succ k ih =>
    intro i N σ hi hN
    obtain ⟨N, rfl⟩ : ∃ M, N = M + 1 := ⟨N - 1, by omega⟩
    obtain ⟨f, e1, e2⟩ := ih (i + 1) N (wr σ 203 (40 * r + i) 0) (by omega) (by omega)
    refine ⟨f, ?_, fun y => ?_⟩
    · show fM_row_b52 (fM_row_L52 N) (nI r) x3 (nI i) σ = _
      unfold fM_row_b52
      simp only [ltc_e]
      have e : (40 : Int32) * nI r + nI i = nI (40 * r + i) := by rw [zlit 40, pk_mul, nI_add]
      rw [if_neg (show ¬ (40 : Int32) ≤ nI i from nI_ge (b := 40) (by omega) (by omega)), e, zin (by omega) (by omega), if_pos rfl, zix (by omega), nI_1, e1, zwr σ, zsc_t]
    · rw [e2 y]
      by_cases c : y = 40 * r + i
      · rw [if_neg (by omega), if_pos (by omega), c, wr_at]
      · by_cases d : 40 * r + i ≤ y ∧ y < 40 * r + 40
        · rw [if_pos (by omega), if_pos d]
        · rw [if_neg (by omega), if_neg d, wr_no c]
theorem T_row {σ : Sg} (h : Inv σ) (x1 x2 x3 : Int32) : ∃ v σ1 σ2, fX_row x1 x2 x3 σ = some (v, σ1) ∧ fM_row x1 x2 x3 σ1 = some (v, σ2) ∧ Inv σ2 := by
  unfold fX_row fM_row
  rcases rowcase x1 with ⟨i, hi, rfl, hA⟩ | hA
  · simp only [(hA _).1, (hA _).2, ob_e, n10, ↓reduceIte]
    rcases incase x2 0 2 with ⟨h1, h2, hB⟩ | ⟨-, hB⟩
    · simp only [(hB _).1, (hB _).2, ob_e, n10, ↓reduceIte]
      by_cases c1 : x3 ≤ 40
      · simp only [if_pos c1]
        by_cases c2 : (0 : Int32) ≤ x3
        · simp only [if_pos c2, zin hi (show 8 < 2 ^ 31 by omega), zix (show i < 2 ^ 31 by omega), ↓reduceIte, ltc_e]
          obtain ⟨l, hl, rfl⟩ := zrng (n := 2) (by omega) h1 h2
          obtain ⟨L, hL, rfl⟩ := zrng (n := 40) (by omega) (Int32.not_lt.mpr c2) (Int32.not_lt.mpr c1)
          obtain ⟨f, e1, e2⟩ := R_become (172 + 2 * i) (nI l) (nI L) σ
          rw [e1, Option.bind_some, X_unh_eq, Option.bind_some]
          have go : ∀ τ : Sg, τ = wr (zsc (wr (wr σ (172 + 2 * i) 1 (nI l)) (172 + 2 * i) 2 (nI L)) (172 + 2 * i + 1) f) 0 11 0 → ∃ σ2, fM_row_L52 2000 (nI i) (nI L) 0 (wr (wr τ 201 i (nI l)) 202 i (nI L)) = some (nI L, σ2) ∧ Inv σ2 := by
            intro τ hτ
            obtain ⟨g, e3, e4⟩ := M_row_L hi (nI L) 40 0 2000 (wr (wr τ 201 i (nI l)) 202 i (nI L)) (by omega) (by omega)
            refine ⟨_, e3, ?_⟩
            obtain ⟨⟨w, n, t, r, h1⟩, h2, h3, h4, h5, h6, h7⟩ := h
            have k0 : ∀ k, k ≠ 172 + 2 * i → k ≠ 172 + 2 * i + 1 → k ≠ 0 → τ k = σ k := by
              intro k q1 q2 q3
              rw [hτ, wr_ne q3, zsc_n q2, wr_ne q1, wr_ne q1]
            have k1 : ∀ j, j ≠ 11 → τ 0 j = σ 0 j := by
              intro j q
              rw [hτ, wr_no q, zsc_n (by omega), wr_ne (by omega), wr_ne (by omega)]
            refine ⟨⟨w, n, t, r, h1.cong ?_ ?_ ?_⟩, ?_, h3.cong ?_ ?_ ?_ ?_, ⟨?_, ?_⟩, h5.cong ?_ ?_ ?_ ?_, h6.cong ?_ ?_ ?_ ?_ ?_, h7.cong ?_ ?_ ?_ ?_ ?_⟩
            case refine_4 =>
              intro i' hi'
              have s2 : ∀ k, 172 ≤ k → k < 188 → wr (zsc (wr (wr τ 201 i (nI l)) 202 i (nI L)) 203 g) 200 4 0 k = τ k := by
                intro k q1 q2
                simp (disch := omega) only [wr_ne, zsc_n]
              have s201 : wr (zsc (wr (wr τ 201 i (nI l)) 202 i (nI L)) 203 g) 200 4 0 201 = upd (σ 201) i (nI l) := by
                simp (disch := omega) only [wr_ne, zsc_n, wr_eq, k0]
              have s202 : wr (zsc (wr (wr τ 201 i (nI l)) 202 i (nI L)) 203 g) 200 4 0 202 = upd (σ 202) i (nI L) := by
                simp (disch := omega) only [wr_ne, zsc_n, wr_eq, k0]
              have s203 : wr (zsc (wr (wr τ 201 i (nI l)) 202 i (nI L)) 203 g) 200 4 0 203 = g := by
                simp (disch := omega) only [wr_ne, zsc_s]
              have e4' : ∀ y, g y = if 40 * i + 0 ≤ y ∧ y < 40 * i + 40 then 0 else σ 203 y := by
                intro y
                rw [e4 y]
                simp (disch := omega) only [wr_ne, k0]
              rw [s2 (172 + 2 * i') (by omega) (by omega), s2 (172 + 2 * i' + 1) (by omega) (by omega), s201, s202, s203]
              by_cases c : i' = i
              · subst c
                have t1 : τ (172 + 2 * i') 1 = nI l := by
                  rw [hτ, wr_ne (by omega), zsc_n (by omega), wr_no (by omega), wr_at]
                have t2 : τ (172 + 2 * i') 2 = nI L := by
                  rw [hτ, wr_ne (by omega), zsc_n (by omega), wr_at]
                have t3 : τ (172 + 2 * i' + 1) = f := by
                  rw [hτ, wr_ne (by omega), zsc_s]
                rw [t1, t2, t3, upd_at, upd_at]
                exact ⟨Or.inr ⟨l, by omega, rfl, rfl⟩, ⟨L, hL, rfl, rfl⟩, fun j hj => by rw [e2 j hj, e4', if_pos (by omega)]⟩
              · rw [k0 (172 + 2 * i') (by omega) (by omega) (by omega), k0 (172 + 2 * i' + 1) (by omega) (by omega) (by omega), upd_no c, upd_no c]
                obtain ⟨a1, a2, a3⟩ := h2 i' hi'
                exact ⟨a1, a2, fun j hj => by rw [a3 j hj, e4', if_neg (by omega)]⟩
            case refine_9 => simp (disch := omega) only [wr_ne, wr_no, zsc_n, k0, k1]; exact h4.1
            case refine_10 => simp (disch := omega) only [wr_ne, wr_at, zsc_n]; rw [hτ, wr_at]
            all_goals first
              | (intro k q1 q2; simp (disch := omega) only [wr_ne, zsc_n, k0]; done)
              | (simp (disch := omega) only [wr_ne, wr_no, zsc_n, k0, k1]; done)
          obtain ⟨σ2, e5, e6⟩ := go _ rfl
          exact ⟨_, _, σ2, rfl, e5, e6⟩
        · simp only [if_neg c2, X_found_eq, ob_e, M_found_eq]
          exact ⟨_, _, _, rfl, rfl, h.stat 4⟩
      · simp only [if_neg c1]
        exact ⟨_, _, _, rfl, rfl, h⟩
    · simp only [(hB _).1, (hB _).2, ob_e, ↓reduceIte]
      exact ⟨_, _, _, rfl, rfl, h⟩
  · simp only [(hA _).1, (hA _).2, ob_e, ↓reduceIte]
    exact ⟨_, _, _, rfl, rfl, h⟩
