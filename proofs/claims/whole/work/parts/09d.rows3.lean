theorem holdcase {L : Nat} (hL : L ≤ 40) (x y : Int32) : (∃ a b, a + b ≤ L ∧ x = nI a ∧ y = nI b ∧ (∀ (σ : Sg) (r : Nat), σ r 2 = nI L → fR_holds r x y σ = some 1) ∧ ∀ (σ : Sg) (i : Nat), i < 8 → σ 202 i = nI L → fM_isPart (nI i) x y σ = some 1) ∨ ((∀ (σ : Sg) (r : Nat), σ r 2 = nI L → fR_holds r x y σ = some 0) ∧ ∀ (σ : Sg) (i : Nat), i < 8 → σ 202 i = nI L → fM_isPart (nI i) x y σ = some 0) := by
  unfold fR_holds fM_isPart
  by_cases c1 : x < 0
  · right
    exact ⟨fun σ r e => by rw [if_pos c1], fun σ i hi e => by rw [if_pos c1]⟩
  · by_cases c2 : y < 0
    · right
      exact ⟨fun σ r e => by rw [if_neg c1, if_pos c2], fun σ i hi e => by rw [if_neg c1, if_pos c2]⟩
    · by_cases c3 : nI L < x
      · right
        exact ⟨fun σ r e => by rw [if_neg c1, if_neg c2, e, if_pos c3], fun σ i hi e => by rw [if_neg c1, if_neg c2, zin hi (by omega), if_pos rfl, zix (by omega), e, if_pos c3]⟩
      · by_cases c4 : nI L - x < y
        · right
          exact ⟨fun σ r e => by rw [if_neg c1, if_neg c2, e, if_neg c3, if_pos c4], fun σ i hi e => by rw [if_neg c1, if_neg c2, zin hi (by omega), if_pos rfl, zix (by omega), e, if_neg c3, if_pos c4]⟩
        · left
          obtain ⟨a, ha, rfl⟩ := zrng (n := L) (by omega) c1 c3
          rw [pk_sub ha] at c4
          obtain ⟨b, hb, rfl⟩ := zrng (n := L - a) (by omega) c2 c4
          refine ⟨a, b, by omega, rfl, rfl, fun σ r e => ?_, fun σ i hi e => ?_⟩
          · rw [if_neg c1, if_neg c2, e, if_neg c3, pk_sub ha, if_neg c4]
          · rw [if_neg c1, if_neg c2, zin hi (by omega), if_pos rfl, zix (by omega), e, if_neg c3, pk_sub ha, if_neg c4]
theorem M_copy2_L {b j n : Nat} (hb : b < 8) (hn : j + n ≤ 40) : ∀ (k i N : Nat) (σ : Sg), i + k = n → k < N → ∃ f, fM_copy_L129 N (nI b) (nI j) (nI n) (nI i) σ = some (nI n, wr (zsc σ 203 f) 200 4 0) ∧ ∀ y, f y = if 40 * b + j + i ≤ y ∧ y < 40 * b + j + n then σ 204 (y - (40 * b + j)) else σ 203 y := by
  intro k
  induction k with
  | zero =>
    intro i N σ hi hN
    obtain ⟨N, rfl⟩ : ∃ M, N = M + 1 := ⟨N - 1, by omega⟩
    refine ⟨σ 203, ?_, fun y => by rw [if_neg (by omega)]⟩
    show fM_copy_b129 (fM_copy_L129 N) (nI b) (nI j) (nI n) (nI i) σ = _
    unfold fM_copy_b129
    rw [if_pos (nI_le (by omega) (by omega)), zsc_id, M_well_eq, ob_id]
  | succ k ih =>
    intro i N σ hi hN
    obtain ⟨N, rfl⟩ : ∃ M, N = M + 1 := ⟨N - 1, by omega⟩
    obtain ⟨f, e1, e2⟩ := ih (i + 1) N (wr σ 203 (40 * b + j + i) (σ 204 i)) (by omega) (by omega)
    refine ⟨f, ?_, fun y => ?_⟩
    · show fM_copy_b129 (fM_copy_L129 N) (nI b) (nI j) (nI n) (nI i) σ = _
      unfold fM_copy_b129
      have e : (40 : Int32) * nI b + nI j + nI i = nI (40 * b + j + i) := by rw [zlit 40, pk_mul, nI_add, nI_add]
      rw [if_neg (nI_ge (by omega) (by omega)), zin (show i < 40 by omega) (by omega), if_pos rfl, e, zin (show 40 * b + j + i < 320 by omega) (by omega), if_pos rfl, ltc_e, zix (by omega), zix (by omega), nI_1, e1, zwr σ, zsc_t]
    · rw [e2 y, wr_ne (by omega)]
      by_cases c : y = 40 * b + j + i
      · rw [if_neg (by omega), if_pos (by omega), c, wr_at, show 40 * b + j + i - (40 * b + j) = i by omega]
      · by_cases d : 40 * b + j + i ≤ y ∧ y < 40 * b + j + n
        · rw [if_pos (by omega), if_pos d]
        · rw [if_neg (by omega), if_neg d, wr_no c]
theorem M_copy1_L {a i0 n : Nat} (ha : a < 8) (hn : i0 + n ≤ 40) (x3 x4 : Int32) : ∀ (k i N : Nat) (σ : Sg), i + k = n → k < N → ∃ f, fM_copy_L92 N (nI a) (nI i0) x3 x4 (nI n) (nI i) σ = fM_copy_L129 2000 x3 x4 (nI n) (nI 0) (zsc σ 204 f) ∧ ∀ y, f y = if i ≤ y ∧ y < n then σ 203 (40 * a + i0 + y) else σ 204 y := by
  intro k
  induction k with
  | zero =>
    intro i N σ hi hN
    obtain ⟨N, rfl⟩ : ∃ M, N = M + 1 := ⟨N - 1, by omega⟩
    refine ⟨σ 204, ?_, fun y => by rw [if_neg (by omega)]⟩
    show fM_copy_b92 (fM_copy_L92 N) (nI a) (nI i0) x3 x4 (nI n) (nI i) σ = _
    unfold fM_copy_b92
    rw [if_pos (nI_le (by omega) (by omega)), zsc_id, nI_0]
  | succ k ih =>
    intro i N σ hi hN
    obtain ⟨N, rfl⟩ : ∃ M, N = M + 1 := ⟨N - 1, by omega⟩
    obtain ⟨f, e1, e2⟩ := ih (i + 1) N (wr σ 204 i (σ 203 (40 * a + i0 + i))) (by omega) (by omega)
    refine ⟨f, ?_, fun y => ?_⟩
    · show fM_copy_b92 (fM_copy_L92 N) (nI a) (nI i0) x3 x4 (nI n) (nI i) σ = _
      unfold fM_copy_b92
      have e : (40 : Int32) * nI a + nI i0 + nI i = nI (40 * a + i0 + i) := by rw [zlit 40, pk_mul, nI_add, nI_add]
      rw [if_neg (nI_ge (by omega) (by omega)), e, zin (show 40 * a + i0 + i < 320 by omega) (by omega), if_pos rfl, zin (show i < 40 by omega) (by omega), if_pos rfl, ltc_e, zix (by omega), zix (by omega), nI_1, e1, zwr σ, zsc_t]
    · rw [e2 y, wr_ne (by omega)]
      by_cases c : y = i
      · rw [if_neg (by omega), if_pos (by omega), c, wr_at]
      · by_cases d : i ≤ y ∧ y < n
        · rw [if_pos (by omega), if_pos d]
        · rw [if_neg (by omega), if_neg d, wr_no c]
theorem cin_nI {a b c : Nat} (h1 : a + c ≤ 40) (h2 : b + c ≤ 40) : cin (nI a) (nI b) (nI c) 40 40 = true := by
  unfold cin
  rw [zix (by omega), zix (by omega), zix (by omega)]
  simp only [Bool.and_eq_true, decide_eq_true_eq]
  exact ⟨⟨⟨⟨nI_pos (by omega), nI_pos (by omega)⟩, nI_pos (by omega)⟩, h1⟩, h2⟩
theorem T_copy {σ : Sg} (h : Inv σ) (x1 x2 x3 x4 x5 : Int32) : ∃ v σ1 σ2, fX_copy x1 x2 x3 x4 x5 σ = some (v, σ1) ∧ fM_copy x1 x2 x3 x4 x5 σ1 = some (v, σ2) ∧ Inv σ2 := by
  have hR := h.2.1
  rcases rowcase x1 with ⟨a, ha, rfl, hA⟩ | hA
  · rcases rowcase x3 with ⟨b, hb, rfl, hB⟩ | hB
    · have z8 := zin ha (show 8 < 2 ^ 31 by omega)
      have zi := zix (show a < 2 ^ 31 by omega)
      have y8 := zin hb (show 8 < 2 ^ 31 by omega)
      have yi := zix (show b < 2 ^ 31 by omega)
      rcases misscase hR ha with ⟨m1, m2⟩ | ⟨m1, m2, l, hl, l1, l2⟩
      · have m3 : fM_isMissing (nI a) (wr σ 0 11 1) = some 1 := by rw [M_miss_cong (σ := σ) _ (wr_ne (by omega)), m2]
        exact ⟨-1000010 - 1, wr σ 0 11 1, wr (wr σ 0 11 1) 200 4 1, by simp only [fX_copy, fX_copy_B49, (hA _).1, (hB _).1, ob_e, i10, z8, zi, y8, yi, ↓reduceIte, m1, ob_id, X_found_eq], by simp only [fM_copy, fM_copy_B33, (hA _).2, (hB _).2, ob_e, i10, m3, ob_id, M_found_eq], h.stat 1⟩
      · rcases misscase hR hb with ⟨o1, o2⟩ | ⟨o1, o2, l', hl', l1', l2'⟩
        · have m3 : fM_isMissing (nI a) (wr σ 0 11 1) = some 0 := by rw [M_miss_cong (σ := σ) _ (wr_ne (by omega)), m2]
          have m4 : fM_isMissing (nI b) (wr σ 0 11 1) = some 1 := by rw [M_miss_cong (σ := σ) _ (wr_ne (by omega)), o2]
          exact ⟨-1000010 - 1, wr σ 0 11 1, wr (wr σ 0 11 1) 200 4 1, by simp only [fX_copy, fX_copy_B49, (hA _).1, (hB _).1, ob_e, i10, i00, z8, zi, y8, yi, ↓reduceIte, m1, o1, ob_id, X_found_eq], by simp only [fM_copy, fM_copy_B33, (hA _).2, (hB _).2, ob_e, i10, i00, ↓reduceIte, m3, m4, ob_id, M_found_eq], h.stat 1⟩
        · by_cases cl : nI l = nI l'
          · obtain ⟨-, ⟨L, hL, L1, L2⟩, hI⟩ := hR a ha
            obtain ⟨-, ⟨L', hL', L1', L2'⟩, hI'⟩ := hR b hb
            have bad : (fX_copy (nI a) x2 (nI b) x4 x5 σ = fX_copy_B97 σ) → (∀ τ : Sg, (∀ k, k ≠ 0 → τ k = σ k) → fM_copy (nI a) x2 (nI b) x4 x5 τ = fM_copy_B83 τ) → ∃ v σ1 σ2, fX_copy (nI a) x2 (nI b) x4 x5 σ = some (v, σ1) ∧ fM_copy (nI a) x2 (nI b) x4 x5 σ1 = some (v, σ2) ∧ Inv σ2 := by
              intro q1 q2
              refine ⟨-1000010 - 2, wr σ 0 11 2, wr (wr σ 0 11 2) 200 4 2, ?_, ?_, h.stat 2⟩
              · rw [q1]; unfold fX_copy_B97; rw [ob_id, X_found_eq]
              · rw [q2 _ (fun k hk => wr_ne hk)]; unfold fM_copy_B83; rw [ob_id, M_found_eq]
            rcases holdcase hL x2 x5 with ⟨i, n, hin, rfl, rfl, s1, s2⟩ | ⟨s1, s2⟩
            · rcases holdcase hL' x4 (nI n) with ⟨j, n', hjn, rfl, hn', u1, u2⟩ | ⟨u1, u2⟩
              · obtain rfl : n = n' := nI_inj (by omega) (by omega) hn'
                have hc := cin_nI (a := i) (b := j) (c := n) (by omega) (by omega)
                have ei := zix (show i < 2 ^ 31 by omega)
                have ej := zix (show j < 2 ^ 31 by omega)
                have en := zix (show n < 2 ^ 31 by omega)
                have key : ∀ τ : Sg, τ = wr (cpy σ (172 + 2 * a + 1) i (172 + 2 * b + 1) j n) 0 11 0 → ∃ σ2, fM_copy (nI a) (nI i) (nI b) (nI j) (nI n) τ = some (nI n, σ2) ∧ Inv σ2 := by
                  intro τ hτ
                  have k0 : ∀ k, k ≠ 172 + 2 * b + 1 → k ≠ 0 → τ k = σ k := fun k q1 q2 => by rw [hτ, wr_ne q2, cpy_ne q1]
                  have m3 : fM_isMissing (nI a) τ = some 0 := by rw [M_miss_cong (σ := σ) _ (k0 _ (by omega) (by omega)), m2]
                  have m4 : fM_isMissing (nI b) τ = some 0 := by rw [M_miss_cong (σ := σ) _ (k0 _ (by omega) (by omega)), o2]
                  have m5 : τ 201 a = τ 201 b := by rw [k0 _ (by omega) (by omega), l2, l2', cl]
                  have m6 := s2 τ a ha (by rw [k0 _ (by omega) (by omega)]; exact L2)
                  have m7 := u2 τ b hb (by rw [k0 _ (by omega) (by omega)]; exact L2')
                  obtain ⟨f, e1, e2⟩ := M_copy1_L ha (show i + n ≤ 40 by omega) (nI b) (nI j) n 0 2000 τ (by omega) (by omega)
                  obtain ⟨g, e3, e4⟩ := M_copy2_L hb (show j + n ≤ 40 by omega) n 0 2000 (zsc τ 204 f) (by omega) (by omega)
                  refine ⟨wr (zsc (zsc τ 204 f) 203 g) 200 4 0, ?_, ?_⟩
                  · rw [← e3, ← e1]
                    simp only [fM_copy, (hA _).2, (hB _).2, ob_e, i10, i00, z8, zi, y8, yi, ↓reduceIte, m3, m4, m5, m6, m7]
                    rw [nI_0]
                  · refine h.rows ?_ ?_ ?_ ?_ ?_
                    · intro k q1 q2 q3 q4 q5 q6 q7
                      rw [wr_ne q3, zsc_n q6, zsc_n q7, k0 k (by omega) q2]
                    · intro j' q
                      rw [wr_ne (by omega), zsc_n (by omega), zsc_n (by omega), hτ, wr_no q, cpy_ne (by omega)]
                    · intro j' q
                      rw [wr_no q, zsc_n (by omega), zsc_n (by omega), k0 _ (by omega) (by omega)]
                    · rw [wr_at, wr_ne (by omega), zsc_n (by omega), zsc_n (by omega), hτ, wr_at]
                    · intro i' hi'
                      obtain ⟨a1, a2, a3⟩ := hR i' hi'
                      have g4 : ∀ y, g y = if 40 * b + j ≤ y ∧ y < 40 * b + j + n then σ 203 (40 * a + i + (y - (40 * b + j))) else σ 203 y := by
                        intro y
                        rw [e4 y, zsc_s, zsc_n (by omega)]
                        by_cases d : 40 * b + j ≤ y ∧ y < 40 * b + j + n
                        · rw [if_pos d, if_pos (by omega), e2, if_pos (by omega), k0 _ (by omega) (by omega)]
                        · rw [if_neg d, if_neg (by omega), k0 _ (by omega) (by omega)]
                      refine ⟨?_, ?_, fun j' hj' => ?_⟩
                      · simp (disch := omega) only [wr_ne, zsc_n, k0]
                        exact a1
                      · simp (disch := omega) only [wr_ne, zsc_n, k0]
                        exact a2
                      · rw [wr_ne (by omega), zsc_n (by omega), zsc_n (by omega), wr_ne (by omega), zsc_s, g4]
                        by_cases q : i' = b
                        · subst q
                          rw [hτ, wr_ne (by omega), cpy_eq]
                          unfold va_cpy
                          by_cases d : j ≤ j' ∧ j' < j + n
                          · rw [if_pos d, if_pos (by omega), hI _ (by omega)]
                            congr 1
                            omega
                          · rw [if_neg d, if_neg (by omega)]
                            exact a3 j' hj'
                        · rw [k0 _ (by omega) (by omega), if_neg (by omega)]
                          exact a3 j' hj'
                obtain ⟨σ2, k1, k2⟩ := key _ rfl
                refine ⟨nI n, _, σ2, ?_, k1, k2⟩
                simp only [fX_copy, (hA _).1, (hB _).1, ob_e, i10, i00, z8, zi, y8, yi, ↓reduceIte, m1, o1, l1, l1', cl, s1 _ _ L1, u1 _ _ L1', hc, ei, ej, en, ltc_e, ob_id, X_unh_eq]
              · apply bad
                · simp only [fX_copy, (hA _).1, (hB _).1, ob_e, i10, i00, z8, zi, y8, yi, ↓reduceIte, m1, o1, l1, l1', cl, s1 _ _ L1, u1 _ _ L1']
                · intro τ hτ
                  have m3 : fM_isMissing (nI a) τ = some 0 := by rw [M_miss_cong (σ := σ) _ (hτ _ (by omega)), m2]
                  have m4 : fM_isMissing (nI b) τ = some 0 := by rw [M_miss_cong (σ := σ) _ (hτ _ (by omega)), o2]
                  have m5 : τ 201 a = τ 201 b := by rw [hτ _ (by omega), l2, l2', cl]
                  have m6 := s2 τ a ha (by rw [hτ _ (by omega)]; exact L2)
                  have m7 := u2 τ b hb (by rw [hτ _ (by omega)]; exact L2')
                  simp only [fM_copy, (hA _).2, (hB _).2, ob_e, i10, i00, z8, zi, y8, yi, ↓reduceIte, m3, m4, m5, m6, m7]
            · apply bad
              · simp only [fX_copy, (hA _).1, (hB _).1, ob_e, i10, i00, z8, zi, y8, yi, ↓reduceIte, m1, o1, l1, l1', cl, s1 _ _ L1]
              · intro τ hτ
                have m3 : fM_isMissing (nI a) τ = some 0 := by rw [M_miss_cong (σ := σ) _ (hτ _ (by omega)), m2]
                have m4 : fM_isMissing (nI b) τ = some 0 := by rw [M_miss_cong (σ := σ) _ (hτ _ (by omega)), o2]
                have m5 : τ 201 a = τ 201 b := by rw [hτ _ (by omega), l2, l2', cl]
                have m6 := s2 τ a ha (by rw [hτ _ (by omega)]; exact L2)
                simp only [fM_copy, (hA _).2, (hB _).2, ob_e, i10, i00, z8, zi, y8, yi, ↓reduceIte, m3, m4, m5, m6]
          · have m3 : fM_isMissing (nI a) (wr σ 0 11 5) = some 0 := by rw [M_miss_cong (σ := σ) _ (wr_ne (by omega)), m2]
            have m4 : fM_isMissing (nI b) (wr σ 0 11 5) = some 0 := by rw [M_miss_cong (σ := σ) _ (wr_ne (by omega)), o2]
            have m5 : ¬ wr σ 0 11 5 201 a = wr σ 0 11 5 201 b := by rw [wr_ne (by omega), l2, l2']; exact cl
            have m6 : ¬ σ (172 + 2 * a) 1 = σ (172 + 2 * b) 1 := by rw [l1, l1']; exact cl
            exact ⟨-1000010 - 5, wr σ 0 11 5, wr (wr σ 0 11 5) 200 4 5, by simp only [fX_copy, (hA _).1, (hB _).1, ob_e, i10, i00, z8, zi, y8, yi, ↓reduceIte, m1, o1, if_neg m6, ob_id, X_found_eq], by simp only [fM_copy, (hA _).2, (hB _).2, ob_e, i10, i00, z8, zi, y8, yi, ↓reduceIte, m3, m4, if_neg m5, ob_id, M_found_eq], h.stat 5⟩
    · exact ⟨-1000001, σ, σ, by simp only [fX_copy, (hA _).1, (hB _).1, ob_e, i10, ↓reduceIte], by simp only [fM_copy, (hA _).2, (hB _).2, ob_e, i10, ↓reduceIte], h⟩
  · exact ⟨-1000001, σ, σ, by simp only [fX_copy, (hA _).1, ob_e, ↓reduceIte], by simp only [fM_copy, (hA _).2, ob_e, ↓reduceIte], h⟩
