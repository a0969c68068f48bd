theorem Inv.rows {σ σ' : Sg} (h : Inv σ) (e : ∀ k, k < 172 ∨ 188 ≤ k → k ≠ 0 → k ≠ 200 → k ≠ 201 → k ≠ 202 → k ≠ 203 → k ≠ 204 → σ' k = σ k) (e0 : ∀ j, j ≠ 11 → σ' 0 j = σ 0 j) (e2 : ∀ j, j ≠ 4 → σ' 200 j = σ 200 j) (hs : σ' 0 11 = σ' 200 4) (hr : Irow σ') : Inv σ' := by
  obtain ⟨⟨w, n, t, r, h1⟩, h2, h3, h4, h5, h6, h7⟩ := h
  refine ⟨⟨w, n, t, r, h1.cong ?_ ?_ ?_⟩, hr, h3.cong ?_ ?_ ?_ ?_, ⟨?_, hs⟩, h5.cong ?_ ?_ ?_ ?_, h6.cong ?_ ?_ ?_ ?_ ?_, h7.cong ?_ ?_ ?_ ?_ ?_⟩
  case refine_8 => rw [e0 10 (by omega), e2 7 (by omega)]; exact h4.1
  all_goals first
    | (intro k q1 q2; exact e k (by omega) (by omega) (by omega) (by omega) (by omega) (by omega) (by omega))
    | exact e _ (by omega) (by omega) (by omega) (by omega) (by omega) (by omega) (by omega)
    | exact e0 _ (by omega)
    | exact e2 _ (by omega)
    | exact congrFun (e _ (by omega) (by omega) (by omega) (by omega) (by omega) (by omega) (by omega)) _
theorem i10 {α : Type} (a b : α) : (if (1 : Int32) = 0 then a else b) = b := if_neg (by decide)
theorem i00 {α : Type} (a b : α) : (if (0 : Int32) = 0 then a else b) = a := if_pos rfl
theorem ob_id (z : Option (Int32 × Sg)) : (z.bind fun q => some (q.1, q.2)) = z := by cases z <;> simp
theorem ob_i1 (z : Option Int32) : (z.bind fun q => some q) = z := by cases z <;> simp
theorem n01 : ((0 : Int32) = 1) = False := eq_false (by decide)
/-- missing, in both -/
theorem misscase {σ : Sg} (h : Irow σ) {i : Nat} (hi : i < 8) : (fR_isMissing (172 + 2 * i) σ = some 1 ∧ fM_isMissing (nI i) σ = some 1) ∨ (fR_isMissing (172 + 2 * i) σ = some 0 ∧ fM_isMissing (nI i) σ = some 0 ∧ ∃ l, l < 3 ∧ σ (172 + 2 * i) 1 = nI l ∧ σ 201 i = nI l) := by
  unfold fR_isMissing fM_isMissing
  rw [zin hi (by omega), if_pos rfl, zix (by omega)]
  rcases (h i hi).1 with ⟨a, b⟩ | ⟨l, hl, a, b⟩
  · left
    rw [if_pos a, if_pos b]
    exact ⟨rfl, rfl⟩
  · right
    rw [a, b, if_neg (zm1 (by omega)), if_neg (zNone (by omega))]
    exact ⟨rfl, rfl, l, hl, rfl, rfl⟩
theorem M_miss_cong {σ σ' : Sg} (x : Int32) (e : σ' 201 = σ 201) : fM_isMissing x σ' = fM_isMissing x σ := by
  unfold fM_isMissing
  rw [e]
theorem cutcase {l : Nat} (hl : l < 3) (x : Int32) : ∃ c, (∀ (σ : Sg) (r : Nat), σ r 1 = nI l → fR_cut r x σ = some c) ∧ ∀ σ, fM_cut (nI l) x σ = some c := by
  unfold fR_cut fM_cut
  have l1 : ((nI 1) = 0) = False := eq_false (by decide)
  have l2 : ((nI 2) = 0) = False := eq_false (by decide)
  have l3 : ((nI 2) = 1) = False := eq_false (by decide)
  obtain rfl | rfl | rfl : l = 0 ∨ l = 1 ∨ l = 2 := by omega
  · exact ⟨x.toInt8.toInt32, fun σ r e => by rw [e, if_pos (by decide)], fun σ => by rw [if_pos (by decide), ← cut8]⟩
  · exact ⟨x.toInt16.toInt32, fun σ r e => by rw [e, if_neg (by decide), if_pos (by decide)], fun σ => by rw [if_neg (by decide), if_pos (by decide), ← cut16]⟩
  · exact ⟨x, fun σ r e => by rw [e, if_neg (by decide), if_neg (by decide)], fun σ => by rw [if_neg (by decide), if_neg (by decide)]⟩
theorem setcase {L : Nat} (hL : L ≤ 40) (x : Int32) : (∃ j, j < L ∧ x = nI j ∧ (∀ (σ : Sg) (r : Nat), σ r 2 = nI L → fR_holds r x 1 σ = some 1) ∧ ∀ σ, fM_in x 0 (nI L - 1) σ = some 1) ∨ ((∀ (σ : Sg) (r : Nat), σ r 2 = nI L → fR_holds r x 1 σ = some 0) ∧ ∀ σ, fM_in x 0 (nI L - 1) σ = some 0) := by
  unfold fR_holds fM_in
  rcases pk_ix x (n := L) (by omega) with c | c | ⟨j, hj, rfl⟩
  · right
    exact ⟨fun σ r e => by rw [if_pos c], fun σ => by rw [if_pos c]⟩
  · right
    by_cases c0 : x < 0
    · exact ⟨fun σ r e => by rw [if_pos c0], fun σ => by rw [if_pos c0]⟩
    · obtain ⟨k, hk, rfl⟩ := nI_of c0
      have hLk : L ≤ k := (nI_leI (by omega) hk).mp c
      refine ⟨fun σ r e => ?_, fun σ => ?_⟩
      · rw [if_neg c0, if_neg (by decide), e]
        by_cases c1 : nI L < nI k
        · rw [if_pos c1]
        · have : L = k := by
            rcases Nat.lt_or_ge L k with z | z
            · exact absurd (nI_lt z hk) c1
            · omega
          subst this
          rw [if_neg c1, if_pos (by rw [pk_sub (Nat.le_refl L), Nat.sub_self]; decide)]
      · rw [if_neg c0]
        cases L with
        | zero =>
          rw [if_pos]
          rw [Int32.lt_iff_toInt_lt, nI_toInt hk]
          have e : (nI 0 - 1).toInt = -1 := by decide +kernel
          omega
        | succ L =>
          rw [nI_pred, if_pos (nI_lt (by omega) hk)]
  · left
    refine ⟨j, hj, rfl, fun σ r e => ?_, fun σ => ?_⟩
    · rw [if_neg (nI_pos (by omega)), if_neg (by decide), e, if_neg (nI_nlt (by omega) (by omega)), pk_sub (by omega), if_neg (show ¬ nI (L - j) < 1 from nI_nlt (b := 1) (by omega) (by omega))]
    · obtain ⟨M, rfl⟩ : ∃ M, L = M + 1 := ⟨L - 1, by omega⟩
      rw [if_neg (nI_pos (by omega)), nI_pred, if_neg (nI_nlt (by omega) (by omega))]
theorem T_set {σ : Sg} (h : Inv σ) (x1 x2 x3 : Int32) : ∃ v σ1 σ2, fX_set x1 x2 x3 σ = some (v, σ1) ∧ fM_set x1 x2 x3 σ1 = some (v, σ2) ∧ Inv σ2 := by
  have hR := h.2.1
  rcases rowcase x1 with ⟨i, hi, rfl, hA⟩ | hA
  · have z8 := zin hi (show 8 < 2 ^ 31 by omega)
    have zi := zix (show i < 2 ^ 31 by omega)
    rcases misscase hR hi with ⟨m1, m2⟩ | ⟨m1, m2, l, hl, l1, l2⟩
    · have m3 : fM_isMissing (nI i) (wr σ 0 11 1) = some 1 := by rw [M_miss_cong (σ := σ) _ (wr_ne (by omega)), m2]
      exact ⟨-1000010 - 1, wr σ 0 11 1, wr (wr σ 0 11 1) 200 4 1, by simp only [fX_set, (hA _).1, ob_e, i10, z8, zi, ↓reduceIte, m1, ob_id, X_found_eq], by simp only [fM_set, (hA _).2, ob_e, i10, m3, ob_id, M_found_eq], h.stat 1⟩
    · obtain ⟨-, ⟨L, hL, L1, L2⟩, hI⟩ := hR i hi
      rcases setcase hL x2 with ⟨j, hj, rfl, s1, s2⟩ | ⟨s1, s2⟩
      · obtain ⟨c, c1, c2⟩ := cutcase hl x3
        have e : (40 : Int32) * nI i + nI j = nI (40 * i + j) := by rw [zlit 40, pk_mul, nI_add]
        have zj := zin (show j < 40 by omega) (by omega)
        have zk := zin (show 40 * i + j < 320 by omega) (by omega)
        refine ⟨c, wr (wr σ (172 + 2 * i + 1) j c) 0 11 0, wr (wr (wr (wr σ (172 + 2 * i + 1) j c) 0 11 0) 203 (40 * i + j) c) 200 4 0, ?_, ?_, ?_⟩
        · simp only [fX_set, (hA _).1, ob_e, i10, i00, z8, zi, ↓reduceIte, m1, s1 _ _ L1, c1 _ _ l1, zj, zix (show j < 2 ^ 31 by omega), ltc_e, ob_id, X_unh_eq, wr_at]
        · generalize hτ : wr (wr σ (172 + 2 * i + 1) j c) 0 11 0 = τ
          have k0 : ∀ k, k ≠ 172 + 2 * i + 1 → k ≠ 0 → τ k = σ k := fun k q1 q2 => by rw [← hτ, wr_ne q2, wr_ne q1]
          have m3 : fM_isMissing (nI i) τ = some 0 := by rw [M_miss_cong (σ := σ) _ (k0 _ (by omega) (by omega)), m2]
          simp only [fM_set, (hA _).2, ob_e, i10, i00, z8, zi, ↓reduceIte, m3, k0 202 (by omega) (by omega), k0 201 (by omega) (by omega), L2, s2, l2, c2, e, zk, zix (show 40 * i + j < 2 ^ 31 by omega), ltc_e, ob_id, M_well_eq, wr_at]
        · generalize hτ : wr (wr σ (172 + 2 * i + 1) j c) 0 11 0 = τ
          have k0 : ∀ k, k ≠ 172 + 2 * i + 1 → k ≠ 0 → τ k = σ k := fun k q1 q2 => by rw [← hτ, wr_ne q2, wr_ne q1]
          refine h.rows ?_ ?_ ?_ ?_ ?_
          · intro k q1 q2 q3 q4 q5 q6 q7
            rw [wr_ne q3, wr_ne q6, k0 k (by omega) q2]
          · intro j' q
            rw [wr_ne (by omega), wr_ne (by omega), ← hτ, wr_no q, wr_ne (by omega)]
          · intro j' q
            rw [wr_no q, wr_ne (by omega), k0 _ (by omega) (by omega)]
          · rw [wr_at, wr_ne (by omega), wr_ne (by omega), ← hτ, wr_at]
          · intro i' hi'
            simp (disch := omega) only [wr_ne, k0]
            obtain ⟨a1, a2, a3⟩ := hR i' hi'
            refine ⟨a1, a2, fun j' hj' => ?_⟩
            by_cases q : i' = i
            · subst q
              rw [← hτ, wr_ne (show 172 + 2 * i' + 1 ≠ 0 by omega)]
              by_cases q2 : j' = j
              · subst q2
                rw [wr_at, wr_at]
              · rw [wr_no q2, wr_no (by omega)]
                simp (disch := omega) only [wr_ne]
                exact a3 j' hj'
            · rw [k0 _ (by omega) (by omega), wr_no (by omega), k0 _ (by omega) (by omega)]
              exact a3 j' hj'
      · have m3 : fM_isMissing (nI i) (wr σ 0 11 2) = some 0 := by rw [M_miss_cong (σ := σ) _ (wr_ne (by omega)), m2]
        have m4 : wr σ 0 11 2 202 i = nI L := by rw [wr_ne (by omega)]; exact L2
        exact ⟨-1000010 - 2, wr σ 0 11 2, wr (wr σ 0 11 2) 200 4 2, by simp only [fX_set, (hA _).1, ob_e, i10, i00, z8, zi, ↓reduceIte, m1, s1 _ _ L1, ob_id, X_found_eq], by simp only [fM_set, (hA _).2, ob_e, i10, i00, z8, zi, ↓reduceIte, m3, m4, s2, ob_id, M_found_eq], h.stat 2⟩
  · exact ⟨-1000001, σ, σ, by simp only [fX_set, (hA _).1, ob_e, ↓reduceIte], by simp only [fM_set, (hA _).2, ob_e, ↓reduceIte], h⟩
theorem T_drop {σ : Sg} (h : Inv σ) (x1 : Int32) : ∃ v σ1 σ2, fX_drop x1 σ = some (v, σ1) ∧ fM_drop x1 σ1 = some (v, σ2) ∧ Inv σ2 := by
  have hR := h.2.1
  rcases rowcase x1 with ⟨i, hi, rfl, hA⟩ | hA
  · have z8 := zin hi (show 8 < 2 ^ 31 by omega)
    have zi := zix (show i < 2 ^ 31 by omega)
    rcases misscase hR hi with ⟨m1, m2⟩ | ⟨m1, m2, l, hl, l1, l2⟩
    · have m3 : fM_isMissing (nI i) (wr σ 0 11 1) = some 1 := by rw [M_miss_cong (σ := σ) _ (wr_ne (by omega)), m2]
      exact ⟨-1000010 - 1, wr σ 0 11 1, wr (wr σ 0 11 1) 200 4 1, by simp only [fX_drop, (hA _).1, ob_e, i10, z8, zi, ↓reduceIte, m1, ob_id, X_found_eq], by simp only [fM_drop, (hA _).2, ob_e, i10, m3, ob_id, M_found_eq], h.stat 1⟩
    · obtain ⟨-, ⟨L, hL, L1, L2⟩, hI⟩ := hR i hi
      refine ⟨nI L, wr (wr σ (172 + 2 * i) 1 (-1)) 0 11 0, wr (wr (wr (wr σ (172 + 2 * i) 1 (-1)) 0 11 0) 201 i (-1000000)) 200 4 0, ?_, ?_, ?_⟩
      · simp only [fX_drop, (hA _).1, ob_e, i10, i00, z8, zi, ↓reduceIte, m1, ltc_e, ob_id, X_unh_eq, L1]
      · generalize hτ : wr (wr σ (172 + 2 * i) 1 (-1)) 0 11 0 = τ
        have k0 : ∀ k, k ≠ 172 + 2 * i → k ≠ 0 → τ k = σ k := fun k q1 q2 => by rw [← hτ, wr_ne q2, wr_ne q1]
        have m3 : fM_isMissing (nI i) τ = some 0 := by rw [M_miss_cong (σ := σ) _ (k0 _ (by omega) (by omega)), m2]
        have m4 : wr τ 201 i (-1000000) 202 i = nI L := by rw [wr_ne (by omega), k0 _ (by omega) (by omega)]; exact L2
        simp only [fM_drop, (hA _).2, ob_e, i10, i00, z8, zi, ↓reduceIte, m3, ltc_e, m4, ob_id, M_well_eq]
      · generalize hτ : wr (wr σ (172 + 2 * i) 1 (-1)) 0 11 0 = τ
        have k0 : ∀ k, k ≠ 172 + 2 * i → k ≠ 0 → τ k = σ k := fun k q1 q2 => by rw [← hτ, wr_ne q2, wr_ne q1]
        refine h.rows ?_ ?_ ?_ ?_ ?_
        · intro k q1 q2 q3 q4 q5 q6 q7
          rw [wr_ne q3, wr_ne q4, k0 k (by omega) q2]
        · intro j' q
          rw [wr_ne (by omega), wr_ne (by omega), ← hτ, wr_no q, wr_ne (by omega)]
        · intro j' q
          rw [wr_no q, wr_ne (by omega), k0 _ (by omega) (by omega)]
        · rw [wr_at, wr_ne (by omega), wr_ne (by omega), ← hτ, wr_at]
        · intro i' hi'
          obtain ⟨a1, a2, a3⟩ := hR i' hi'
          by_cases q : i' = i
          · subst q
            refine ⟨Or.inl ⟨?_, ?_⟩, ?_, ?_⟩
            · rw [wr_ne (by omega), wr_ne (by omega), ← hτ, wr_ne (by omega), wr_at]
            · rw [wr_ne (by omega), wr_at]
            · rw [wr_ne (show 172 + 2 * i' ≠ 200 by omega), wr_ne (show 172 + 2 * i' ≠ 201 by omega), ← hτ, wr_ne (show 172 + 2 * i' ≠ 0 by omega), wr_no (show 2 ≠ 1 by omega), wr_ne (show 202 ≠ 200 by omega), wr_ne (show 202 ≠ 201 by omega), wr_ne (show 202 ≠ 0 by omega), wr_ne (show 202 ≠ 172 + 2 * i' by omega)]
              exact a2
            · simp (disch := omega) only [wr_ne, k0]
              exact a3
          · simp (disch := omega) only [wr_ne, wr_no, k0]
            exact ⟨a1, a2, a3⟩
  · exact ⟨-1000001, σ, σ, by simp only [fX_drop, (hA _).1, ob_e, ↓reduceIte], by simp only [fM_drop, (hA _).2, ob_e, ↓reduceIte], h⟩
