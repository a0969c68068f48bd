theorem rngcase {T : Nat} (hT : T < 2 ^ 30) (x : Int32) : (∃ p, p < T ∧ x = nI p ∧ ∀ σ, fX_isWithin x 0 (nI T - 1) σ = some 1 ∧ fM_in x 0 (nI T - 1) σ = some 1) ∨ ∀ σ, fX_isWithin x 0 (nI T - 1) σ = some 0 ∧ fM_in x 0 (nI T - 1) σ = some 0 := by
  rcases incase x 0 (nI T - 1) with ⟨h1, h2, h⟩ | ⟨-, h⟩
  · left
    cases T with
    | zero =>
      exfalso
      obtain ⟨j, hj, rfl⟩ := nI_of h1
      apply h2
      rw [Int32.lt_iff_toInt_lt, nI_toInt hj]
      have e : (nI 0 - 1).toInt = -1 := by decide +kernel
      omega
    | succ T =>
      rw [nI_pred] at h2
      obtain ⟨p, hp, rfl⟩ := zrng (by omega) h1 h2
      exact ⟨p, by omega, rfl, h⟩
  · right
    exact h
theorem T_feed {σ : Sg} (h : Inv σ) (x : Int32) : ∃ v σ1 σ2, fX_feed x σ = some (v, σ1) ∧ fM_feed x σ1 = some (v, σ2) ∧ Inv σ2 := by
  obtain ⟨T, hT, t1, t2, t3⟩ := h.2.2.1
  rcases incase x 0 255 with ⟨h1, h2, hA⟩ | ⟨-, hA⟩
  · obtain ⟨b, hb, rfl⟩ := zrng (n := 255) (by omega) h1 h2
    by_cases c : T < 120
    · refine ⟨nI (T + 1), wr (wr σ 3 T (nI b)) 2 1 (nI (T + 1)), wr (wr (wr (wr σ 3 T (nI b)) 2 1 (nI (T + 1))) 205 T (nI b)) 200 6 (nI (T + 1)), ?_, ?_, ?_⟩
      · have c1 : nI T < 120 := nI_lt (b := 120) c (by omega)
        simp (disch := omega) only [fX_feed, (hA _).1, ob_e, i10, ↓reduceIte, if_pos c1, t1, zin c (show 120 < 2 ^ 31 by omega), zix (show T < 2 ^ 31 by omega), ltc_e, wr_ne, wr_at, nI_1]
      · generalize hτ : wr (wr σ 3 T (nI b)) 2 1 (nI (T + 1)) = τ
        have k0 : ∀ k, k ≠ 3 → k ≠ 2 → τ k = σ k := fun k q1 q2 => by rw [← hτ, wr_ne q2, wr_ne q1]
        have c1 : ¬ nI T = 120 := fun z => by have := nI_inj (b := 120) (by omega) (by omega) z; omega
        simp (disch := omega) only [fM_feed, (hA _).2, ob_e, i10, ↓reduceIte, k0 200, t2, if_neg c1, zin c (show 120 < 2 ^ 31 by omega), zix (show T < 2 ^ 31 by omega), ltc_e, wr_ne, wr_at, nI_1]
      · obtain ⟨⟨w, n, t, r, h1⟩, h2, h3, h4, h5, h6, h7⟩ := h
        refine ⟨⟨w, n, t, r, h1.cong ?_ ?_ ?_⟩, h2.cong ?_ ?_ ?_ ?_, ⟨T + 1, by omega, ?_, ?_, fun j hj => ?_⟩, h4.cong ?_ ?_ ?_ ?_, h5.cong ?_ ?_ ?_ ?_, h6.cong ?_ ?_ ?_ ?_ ?_, h7.cong ?_ ?_ ?_ ?_ ?_⟩
        case refine_10 =>
          by_cases q : j = T
          · subst q
            rw [wr_ne (by omega), wr_ne (by omega), wr_ne (by omega), wr_at, wr_ne (by omega), wr_at]
            exact ⟨rfl, b, by omega, rfl⟩
          · rw [wr_ne (by omega), wr_ne (by omega), wr_ne (by omega), wr_no q, wr_ne (by omega), wr_no q, wr_ne (by omega), wr_ne (by omega)]
            exact t3 j (by omega)
        all_goals first
          | (intro k q1 q2; simp (disch := omega) only [wr_ne]; done)
          | (simp (disch := omega) only [wr_ne, wr_no, wr_at]; done)
    · obtain rfl : T = 120 := by omega
      refine ⟨-1000003, σ, σ, ?_, ?_, h⟩
      · have c1 : ¬ σ 2 1 < 120 := by rw [t1]; decide
        simp only [fX_feed, (hA _).1, ob_e, i10, if_neg c1]
      · have c1 : σ 200 6 = 120 := t2
        simp only [fM_feed, (hA _).2, ob_e, i10, if_pos c1]
  · exact ⟨-1000001, σ, σ, by simp only [fX_feed, (hA _).1, ob_e, ↓reduceIte], by simp only [fM_feed, (hA _).2, ob_e, ↓reduceIte], h⟩
theorem T_fault {σ : Sg} (h : Inv σ) : ∃ v, fX_fault σ = some v ∧ fM_fault σ = some v := ⟨σ 0 10, rfl, by unfold fM_fault; rw [h.2.2.2.1.1]⟩
theorem T_status {σ : Sg} (h : Inv σ) : ∃ v, fX_status σ = some v ∧ fM_status σ = some v := ⟨σ 0 11, rfl, by unfold fM_status; rw [h.2.2.2.1.2]⟩
theorem T_trace {σ : Sg} (h : Inv σ) (x : Int32) : ∃ v, fX_trace x σ = some v ∧ fM_trace x σ = some v := by
  obtain ⟨T, hT, t1, t2, t3⟩ := h.2.2.2.2.1
  unfold fX_trace fM_trace
  rw [t1, t2]
  rcases rngcase (show T < 2 ^ 30 by omega) x with ⟨p, hp, rfl, hA⟩ | hA
  · rw [(hA σ).1, (hA σ).2, ob_e, ob_e, i10, i10, zin (show p < 16 by omega) (by omega), if_pos rfl, if_pos rfl, zix (by omega), t3 p hp]
    exact ⟨_, rfl, rfl⟩
  · rw [(hA σ).1, (hA σ).2, ob_e, ob_e, i00, i00]
    exact ⟨_, rfl, rfl⟩
/-! counts of bits -/
def zCn (f : Nat → Bool) : Nat → Nat
  | 0 => 0
  | n + 1 => zCn f n + (if f n = true then 1 else 0)
def zPc (m : Nat) : Nat := zCn (fun p => m.testBit p) 8
theorem J_bits {m : Nat} (hm : m < 64) (σ : Sg) : fJ_bitCount (nI m) σ = some (nI (zPc m)) := by
  have k : ∀ m, m < 64 → fJ_bitCount (nI m) (fun _ _ => 0) = some (nI (zPc m)) := by decide +kernel
  exact (show fJ_bitCount (nI m) σ = fJ_bitCount (nI m) (fun _ _ => 0) from rfl).trans (k m hm)
theorem M_ones_L {m : Nat} (hm : m < 64) (σ : Sg) : ∀ (k i N : Nat), i + k = 8 → k < N → fM_ones_L4 N (nI m) (nI (zCn (fun p => m.testBit p) i)) (nI i) σ = some (nI (zPc m)) := by
  intro k
  induction k with
  | zero =>
    intro i N hi hN
    obtain ⟨N, rfl⟩ : ∃ M, N = M + 1 := ⟨N - 1, by omega⟩
    obtain rfl : i = 8 := by omega
    show fM_ones_b4 (fM_ones_L4 N) _ _ _ σ = _
    unfold fM_ones_b4
    rw [if_pos (by decide)]
    rfl
  | succ k ih =>
    intro i N hi hN
    obtain ⟨N, rfl⟩ : ∃ M, N = M + 1 := ⟨N - 1, by omega⟩
    have step := ih (i + 1) N (by omega) (by omega)
    show fM_ones_b4 (fM_ones_L4 N) _ _ _ σ = _
    unfold fM_ones_b4
    rw [if_neg (show ¬ (8 : Int32) ≤ nI i from nI_ge (b := 8) (by omega) (by omega)), zbit m hm i (by omega), nI_1]
    rw [zCn] at step
    by_cases c : m.testBit i = true
    · rw [if_pos c]
      rw [if_pos c, ← nI_1] at step
      exact step
    · rw [if_neg c, Int32.add_zero]
      rw [if_neg c, Nat.add_zero] at step
      exact step
theorem M_ones {m : Nat} (hm : m < 64) (σ : Sg) : fM_ones (nI m) σ = some (nI (zPc m)) := M_ones_L hm σ 8 0 2000 (by omega) (by omega)
theorem T_cnt_L {σ : Sg} (h : Irow σ) : ∀ (k i N N' : Nat) (s : Int32), i + k = 8 → k < N → k < N' → ∃ v, fX_rowsThere_L4 N s (nI i) σ = some v ∧ fM_count_L46 N' s (nI i) σ = some v := by
  intro k
  induction k with
  | zero =>
    intro i N N' s hi hN hN'
    obtain ⟨N, rfl⟩ : ∃ M, N = M + 1 := ⟨N - 1, by omega⟩
    obtain ⟨N', rfl⟩ : ∃ M, N' = M + 1 := ⟨N' - 1, by omega⟩
    obtain rfl : i = 8 := by omega
    refine ⟨s, ?_, ?_⟩
    · show fX_rowsThere_b4 (fX_rowsThere_L4 N) _ _ σ = _
      unfold fX_rowsThere_b4
      rw [if_pos (by decide)]
    · show fM_count_b46 (fM_count_L46 N') _ _ σ = _
      unfold fM_count_b46
      rw [if_pos (by decide)]
  | succ k ih =>
    intro i N N' s hi hN hN'
    obtain ⟨N, rfl⟩ : ∃ M, N = M + 1 := ⟨N - 1, by omega⟩
    obtain ⟨N', rfl⟩ : ∃ M, N' = M + 1 := ⟨N' - 1, by omega⟩
    have ni : ¬ (8 : Int32) ≤ nI i := nI_ge (b := 8) (by omega) (by omega)
    have e1 : ∀ s, fX_rowsThere_L4 (N + 1) s (nI i) σ = (fR_isMissing (172 + 2 * i) σ).bind fun q3 => if q3 = 0 then fX_rowsThere_L4 N (s + 1) (nI (i + 1)) σ else fX_rowsThere_L4 N (s + 0) (nI (i + 1)) σ := by
      intro s
      show fX_rowsThere_b4 (fX_rowsThere_L4 N) _ _ σ = _
      unfold fX_rowsThere_b4 fX_rowsThere_B28
      rw [if_neg ni, zin (by omega) (by omega), if_pos rfl, zix (by omega), nI_1]
    have e2 : ∀ s, fM_count_L46 (N' + 1) s (nI i) σ = (fM_isMissing (nI i) σ).bind fun q3 => if q3 = 0 then fM_count_L46 N' (s + 1) (nI (i + 1)) σ else fM_count_L46 N' (s + 0) (nI (i + 1)) σ := by
      intro s
      show fM_count_b46 (fM_count_L46 N') _ _ σ = _
      unfold fM_count_b46 fM_count_B66
      rw [if_neg ni, nI_1]
    rw [e1, e2]
    rcases misscase h (show i < 8 by omega) with ⟨m1, m2⟩ | ⟨m1, m2, -⟩
    · rw [m1, m2, ob_e, ob_e, i10, i10]
      exact ih (i + 1) N N' (s + 0) (by omega) (by omega) (by omega)
    · rw [m1, m2, ob_e, ob_e, i00, i00]
      exact ih (i + 1) N N' (s + 1) (by omega) (by omega) (by omega)
theorem T_count {σ : Sg} (h : Inv σ) (x : Int32) : ∃ v, fX_count x σ = some v ∧ fM_count x σ = some v := by
  obtain ⟨⟨w, n, t, r, hf, hr, hm, -⟩, h2, ⟨T, -, t1, t2, -⟩, -, -, -, ⟨A, X, -, -, a1, a2, -⟩⟩ := h
  unfold fX_count fM_count
  by_cases c0 : x = 0
  · obtain ⟨v, e1, e2⟩ := T_cnt_L h2 8 0 2000 2000 0 (by omega) (by omega) (by omega)
    rw [if_pos c0, if_pos c0, ob_i1]
    exact ⟨v, e1, e2⟩
  · rw [if_neg c0, if_neg c0]
    by_cases c1 : x = 1
    · rw [if_pos c1, if_pos c1, hr.1.1.1, hm.at 4 (by omega)]
      exact ⟨_, rfl, rfl⟩
    · rw [if_neg c1, if_neg c1]
      by_cases c2 : x = 2
      · rw [if_pos c2, if_pos c2, hr.1.1.2.2.2.2.2, hm.at 2 (by omega)]
        exact ⟨_, rfl, rfl⟩
      · rw [if_neg c2, if_neg c2]
        by_cases c3 : x = 3
        · rw [if_pos c3, if_pos c3, hr.1.1.2.1, hm.at 0 (by omega)]
          exact ⟨_, rfl, rfl⟩
        · rw [if_neg c3, if_neg c3]
          by_cases c4 : x = 4
          · rw [if_pos c4, if_pos c4, hr.1.1.2.2.2.2.1, M_bin hm hf, ob_e, J_bits (zBn_lt w hf.1), M_ones (zBn_lt w hf.1)]
            exact ⟨_, rfl, rfl⟩
          · rw [if_neg c4, if_neg c4]
            by_cases c5 : x = 5
            · rw [if_pos c5, if_pos c5, a1, a2]
              exact ⟨_, rfl, rfl⟩
            · rw [if_neg c5, if_neg c5, t1, t2]
              by_cases c6 : x = 6
              · rw [if_pos c6]
                exact ⟨_, rfl, rfl⟩
              · rw [if_neg c6]
                exact ⟨_, rfl, rfl⟩
theorem T_person {σ : Sg} (h : Inv σ) (x y : Int32) : ∃ v, fX_person x y σ = some v ∧ fM_person x y σ = some v := by
  obtain ⟨⟨w, n, t, r, hf, hr, hm, -⟩, -⟩ := h
  have hn := hf.1
  have s5 : σ 4 5 = nI n := by rw [hr.1.1.1]; exact hf.2.2.2.2.1
  have m4 : σ 206 4 = nI n := by rw [hm.at 4 (by omega)]; exact hf.2.2.2.2.1
  unfold fX_person fM_person
  rcases percase hn x with ⟨p, hp, rfl, pA, pB⟩ | ⟨pA, pB⟩
  · have hp6 : p < 6 := by omega
    obtain ⟨a1, a2, a3, a4, a5⟩ := hr.1.2 p hp
    have b0 : σ (4 + 2) p = w (6 + 6 * p) := a2
    have b1 : σ (4 + 3) p = w (7 + 6 * p) := a3
    have b2 : σ (4 + 4) p = w (8 + 6 * p) := a4
    have b3 : σ (4 + 5) p = w (9 + 6 * p) := a5
    rw [pA σ s5, pB σ m4, ob_e, ob_e, i10, i10, zi6 hp6, zxp hp6, zb1 hp6, zx1 hp6, zb2 hp6, zx2 hp6, zb3 hp6, zx3 hp6, zb4 hp6, zx4 hp6, zb5 hp6, zx5 hp6, b0, b1, b2, b3, hm.at (6 + 6 * p) (by omega), hm.at (7 + 6 * p) (by omega), hm.at (8 + 6 * p) (by omega), hm.at (9 + 6 * p) (by omega), hm.at (10 + 6 * p) (by omega), H_envy hr.1 hf hp, M_envy hm hn hf.2.2.2.2.1 hp6, H_isb hr.1 hf hp, ob_e, ob_e]
    simp only [↓reduceIte]
    by_cases c0 : y = 0
    · rw [if_pos c0, if_pos c0]; exact ⟨_, rfl, rfl⟩
    · rw [if_neg c0, if_neg c0]
      by_cases c1 : y = 1
      · rw [if_pos c1, if_pos c1]; exact ⟨_, rfl, rfl⟩
      · rw [if_neg c1, if_neg c1]
        by_cases c2 : y = 2
        · rw [if_pos c2, if_pos c2]; exact ⟨_, rfl, rfl⟩
        · rw [if_neg c2, if_neg c2]
          by_cases c3 : y = 3
          · rw [if_pos c3, if_pos c3]; exact ⟨_, rfl, rfl⟩
          · rw [if_neg c3, if_neg c3]
            by_cases c4 : y = 4
            · rw [if_pos c4, if_pos c4]; exact ⟨_, rfl, rfl⟩
            · rw [if_neg c4, if_neg c4]
              by_cases c5 : y = 5
              · rw [if_pos c5, if_pos c5]
                rcases hf.2.2.2.2.2.2.2.1 p hp with q | q
                · refine ⟨0, ?_, by rw [q]⟩
                  simp only [if_neg (zBr_f (w := w) (p := p) (by rw [q]; decide)), ob_e, ↓reduceIte]
                · refine ⟨1, ?_, by rw [q]⟩
                  simp only [if_pos (zBr_t (w := w) (p := p) q), ob_e, i10]
              · rw [if_neg c5, if_neg c5]; exact ⟨_, rfl, rfl⟩
  · rw [pA σ s5, pB σ m4, ob_e, ob_e, i00, i00]
    exact ⟨_, rfl, rfl⟩
theorem T_minds {σ : Sg} (h : Inv σ) (x y : Int32) : ∃ v, fX_minds x y σ = some v ∧ fM_minds x y σ = some v := by
  obtain ⟨⟨w, n, t, r, hf, hr, hm, -⟩, -⟩ := h
  have hn := hf.1
  have s5 : σ 4 5 = nI n := by rw [hr.1.1.1]; exact hf.2.2.2.2.1
  have m4 : σ 206 4 = nI n := by rw [hm.at 4 (by omega)]; exact hf.2.2.2.2.1
  unfold fX_minds fM_minds
  rcases percase hn x with ⟨p, hp, rfl, pA, pB⟩ | ⟨pA, pB⟩
  · rcases percase hn y with ⟨o, ho, rfl, oA, oB⟩ | ⟨oA, oB⟩
    · rw [pA σ s5, pB σ m4, ob_e, ob_e, i10, i10, oA σ s5, oB σ m4, ob_e, ob_e, i10, i10, H_minds hr.1 hf hp ho, M_minds hm (by omega) (by omega), ob_e]
      by_cases c : nI p = nI o
      · rw [if_pos c]; exact ⟨_, rfl, rfl⟩
      · rw [if_neg c]; exact ⟨_, rfl, rfl⟩
    · rw [pA σ s5, pB σ m4, ob_e, ob_e, i10, i10, oA σ s5, oB σ m4, ob_e, ob_e, i00, i00]
      exact ⟨_, rfl, rfl⟩
  · rw [pA σ s5, pB σ m4, ob_e, ob_e, i00, i00]
    exact ⟨_, rfl, rfl⟩
theorem T_kind {σ : Sg} (h : Inv σ) (x : Int32) : ∃ v, fX_kind x σ = some v ∧ fM_kind x σ = some v := by
  obtain ⟨⟨w, n, t, r, hf, hr, hm, -⟩, -⟩ := h
  have hn := hf.1
  have s5 : σ 4 5 = nI n := by rw [hr.1.1.1]; exact hf.2.2.2.2.1
  have m4 : σ 206 4 = nI n := by rw [hm.at 4 (by omega)]; exact hf.2.2.2.2.1
  unfold fX_kind fM_kind fM_kindIn
  rcases percase hn x with ⟨p, hp, rfl, pA, pB⟩ | ⟨pA, pB⟩
  · have b0 : σ (4 + 1) p = w (5 + 6 * p) := (hr.1.2 p hp).1
    rw [pA σ s5, pB σ m4, ob_e, ob_e, i10, i10, zi6 (by omega), if_pos rfl, zxp (by omega), zb0 (by omega), if_pos rfl, zx0 (by omega), b0, hm.at (5 + 6 * p) (by omega), ob_e]
    exact ⟨_, rfl, rfl⟩
  · rw [pA σ s5, pB σ m4, ob_e, ob_e, i00, i00]
    exact ⟨_, rfl, rfl⟩
/-- the house changed, the rest stays -/
theorem Inv.house {σ σ' : Sg} (h : Inv σ) (e : ∀ k, k < 4 ∨ 16 ≤ k → k ≠ 206 → k ≠ 208 → σ' k = σ k) (hI : ∃ w n t r, Ih σ' w n t r) : Inv σ' := by
  obtain ⟨-, h2, h3, h4, h5, h6, h7⟩ := h
  refine ⟨hI, h2.cong ?_ ?_ ?_ ?_, h3.cong ?_ ?_ ?_ ?_, h4.cong ?_ ?_ ?_ ?_, h5.cong ?_ ?_ ?_ ?_, h6.cong ?_ ?_ ?_ ?_ ?_, h7.cong ?_ ?_ ?_ ?_ ?_⟩
  all_goals first
    | (intro k q1 q2; exact e k (by omega) (by omega) (by omega))
    | exact e _ (by omega) (by omega) (by omega)
    | exact congrFun (e _ (by omega) (by omega) (by omega)) _
theorem zGo_ride {w : Rw} {n : Nat} (h : ¬ w 3 = 0) : zGo w n = none := by
  have k : ∀ m, zCl w n m = (none, 0) := by
    intro m
    induction m with
    | zero => rfl
    | succ m ih => rw [zCl, if_neg (fun z => h z.1), ih]
  unfold zGo
  rw [k]
theorem X_orN {p : Nat} (hp : p < 2 ^ 31) (σ : Sg) : fX_orNone (nI p) σ = some (nI p) := by
  unfold fX_orNone
  rw [if_pos (nI_pos' hp)]
theorem X_orM (σ : Sg) : fX_orNone (-1) σ = some (-1000000) := by
  unfold fX_orNone
  rw [if_neg (by decide)]
theorem X_orZ {x : Option Nat} (h : ∀ p, x = some p → p < 2 ^ 31) (σ : Sg) : fX_orNone (zOb (-1) x) σ = some (zOb (-1000000) x) := by
  cases x with
  | none => exact X_orM σ
  | some p => exact X_orN (h p rfl) σ
theorem housed {σ : Sg} {w : Rw} {n t r : Nat} (h : Ih σ w n t r) : (t = 0 ∧ σ 0 9 = 0 ∧ ∀ τ : Sg, τ 206 0 = w 0 → fM_isHouse τ = some 0) ∨ (0 < t ∧ σ 0 9 = 1 ∧ ∀ τ : Sg, τ 206 0 = w 0 → fM_isHouse τ = some 1) := by
  obtain ⟨hf, -, -, h9⟩ := h
  have w0 := hf.2.2.2.2.2.1
  have ht := hf.2.1
  unfold fM_isHouse
  by_cases c : t = 0
  · left
    refine ⟨c, by rw [h9, if_pos c], fun τ e => ?_⟩
    rw [e, w0, c, if_pos (by decide)]
  · right
    refine ⟨by omega, by rw [h9, if_neg c], fun τ e => ?_⟩
    rw [e, w0, if_neg (nI_nle (by omega) (by omega))]
theorem M_riderIn {σ : Sg} {r : Nat} {w : Rw} (h : Mp σ r 0 w) {n t q : Nat} (hf : Wf w n t q) : ∃ x : Option Nat, fM_riderIn r σ = some (zOb (-1000000) x) ∧ w 3 - 1 = zOb (-1) x ∧ ∀ p, x = some p → p < 2 ^ 31 := by
  have w3 := hf.2.2.2.2.2.2.1
  have hq := hf.2.2.1
  have hn := hf.1
  unfold fM_riderIn
  rw [h.at 3 (by omega), w3]
  cases q with
  | zero => exact ⟨none, by rw [if_pos (by decide)]; rfl, by decide, fun p z => by cases z⟩
  | succ q => exact ⟨some q, by rw [if_neg (nI_ne0 (by omega) (by omega)), nI_pred]; rfl, by rw [nI_pred]; rfl, fun p z => by cases z; omega⟩
theorem T_car {σ : Sg} (h : Inv σ) (x : Int32) : ∃ v σ1, fX_car x σ = some (v, σ1) ∧ fM_car x σ1 = some v ∧ Inv σ1 := by
  have hI := h
  obtain ⟨⟨w, n, t, r, hh⟩, -⟩ := hI
  obtain ⟨hf, hr, hm, h9⟩ := id hh
  have hn := hf.1
  unfold fX_car fM_car
  rcases housed hh with ⟨-, b, c⟩ | ⟨-, b, c⟩
  · rw [b, i00]
    exact ⟨-1000002, σ, rfl, by rw [c σ (hm.at 0 (by omega)), ob_e, i00], h⟩
  · rw [b, i10]
    have cc := c σ (hm.at 0 (by omega))
    by_cases c0 : x = 0
    · rw [if_pos c0, hr.1.1.2.2.1]
      exact ⟨w 1, σ, rfl, by rw [cc, ob_e, i10, if_pos c0, hm.at 1 (by omega)], h⟩
    · rw [if_neg c0]
      by_cases c1 : x = 1
      · obtain ⟨z, z1, z2, z3⟩ := M_riderIn hm hf
        rw [if_pos c1, hr.1.1.2.2.2.1, z2, X_orZ z3, ob_e]
        exact ⟨_, σ, rfl, by rw [cc, ob_e, i10, if_neg c0, if_pos c1, z1, ob_e], h⟩
      · rw [if_neg c1]
        by_cases c2 : x = 2
        · rw [if_pos c2]
          unfold fX_car_B81
          by_cases d : w 3 = 0
          · obtain ⟨σ1, e1, hr1, hF1⟩ := H_goal hr hf d
            have hm1 : Mp σ1 206 0 w := hm.cong (hF1 _ (by omega))
            refine ⟨zOb (-1000000) (zGo w n), σ1, ?_, ?_, ?_⟩
            · rw [if_pos (by rw [hr.1.1.2.2.2.1, d]; decide), e1, ob_e]
              dsimp only
              rw [X_orZ (fun p hp => by have := (zGo_lt hp).1; omega), ob_e]
            · rw [c σ1 (hm1.at 0 (by omega)), ob_e, i10, if_neg c0, if_neg c1, if_pos c2, M_calls hm1 hf, ob_e]
            · exact h.house (fun k q1 q2 q3 => hF1 k (by omega)) ⟨w, n, t, r, hf, hr1, hm1, by rw [hF1 _ (by omega)]; exact h9⟩
          · refine ⟨-1000000, σ, ?_, ?_, h⟩
            · have w3 := hf.2.2.2.2.2.2.1
              have hq := hf.2.2.1
              rw [if_neg (by
                rw [hr.1.1.2.2.2.1, w3]; rw [w3] at d
                have k : ∀ q, q < 7 → nI q - 1 = -1 → nI q = 0 := by decide +kernel
                exact fun z => d (k r (by omega) z)), X_orM, ob_e]
            · rw [cc, ob_e, i10, if_neg c0, if_neg c1, if_pos c2, M_calls hm hf, ob_e, zGo_ride d]
              rfl
        · rw [if_neg c2]
          by_cases c3 : x = 3
          · rw [if_pos c3, hr.1.1.2.2.2.2.1]
            exact ⟨_, σ, rfl, by rw [cc, ob_e, i10, if_neg c0, if_neg c1, if_neg c2, if_pos c3, M_bin hm hf, ob_e], h⟩
          · rw [if_neg c3]
            exact ⟨_, σ, rfl, by rw [cc, ob_e, i10, if_neg c0, if_neg c1, if_neg c2, if_neg c3], h⟩
