theorem farcase (x : Int32) : (∃ d, d ≤ 60 ∧ x = nI d ∧ ∀ σ, fX_isWithin x 0 60 σ = some 1 ∧ fM_isFar x σ = some 1) ∨ ∀ σ, fX_isWithin x 0 60 σ = some 0 ∧ fM_isFar x σ = some 0 := by
  have eF : ∀ τ, fM_isFar x τ = (fM_in x 0 60 τ).bind fun q1 => if isb q1 = true then some q1 else none := fun _ => rfl
  rcases incase x 0 60 with ⟨c1, c2, hB⟩ | ⟨-, hB⟩
  · obtain ⟨d, hd, rfl⟩ := zrng (n := 60) (by omega) c1 c2
    left
    exact ⟨d, hd, rfl, fun τ => ⟨(hB τ).1, by rw [eF, (hB τ).2, ob_e, isb_1, if_pos rfl]⟩⟩
  · right
    exact fun τ => ⟨(hB τ).1, by rw [eF, (hB τ).2, ob_e, isb_0, if_pos rfl]⟩
theorem zOb_n {k : Nat} {w : Rw} {n p i : Nat} (hk : i + k < 2 ^ 30) : (zOb (-1) (zWh n p k w i) = -1 ↔ zWh n p k w i = none) ∧ (zOb (-1000000) (zWh n p k w i) = -1000000 ↔ zWh n p k w i = none) := by
  cases e : zWh n p k w i with
  | none => exact ⟨⟨fun _ => rfl, fun _ => rfl⟩, ⟨fun _ => rfl, fun _ => rfl⟩⟩
  | some j =>
    have := zWh_le _ _ _ _ e
    have a : ¬ nI j = -1 := by
      intro z
      have z2 := congrArg Int32.toInt z
      rw [nI_toInt (by omega), show (-1 : Int32).toInt = -1 by decide +kernel] at z2
      omega
    have b : ¬ nI j = -1000000 := by
      intro z
      have z2 := congrArg Int32.toInt z
      rw [nI_toInt (by omega), show (-1000000 : Int32).toInt = -1000000 by decide +kernel] at z2
      omega
    exact ⟨⟨fun z => absurd z a, fun z => by cases z⟩, ⟨fun z => absurd z b, fun z => by cases z⟩⟩
/-- one puts a trait into the house supposed, then asks when he is brought -/
theorem X_try {σ : Sg} {w : Rw} {n t r : Nat} (hr : Rp σ 4 w n) (hf : Wf w n t r) {c p : Nat} (h1 : 1 ≤ c) (h4 : c < 4) (hp : p < n) (v : Int32) {m : Nat} (hm : m < 1990) : ∃ q σ', fH_become 10 4 σ = some q ∧ fH_until 10 (nI p) (nI m) (wr (wr q (10 + (c + 1)) p v) 10 11 (-2)) = some (zOb (-1) (zWh n p m (upd w (5 + c + 6 * p) v) 0), σ') ∧ Fr 10 σ σ' := by
  obtain ⟨q, g1, g2, g3⟩ := X_sup hf.1 hr
  have r2 := put_Rp g2.1 (c := c) (p := p) h4 v
  obtain ⟨σ', k1, k2⟩ := H_until hp hm r2 (hf.put h1 h4 v)
  exact ⟨q, σ', g1, k1, (g3.tr (put_Fr h4 v)).tr k2⟩
theorem M_try {σ : Sg} {w : Rw} {n t r : Nat} (hM : Mp σ 206 0 w) (hf : Wf w n t r) {c p : Nat} (h1 : 1 ≤ c) (h4 : c < 4) (hp : p < n) (v : Int32) {m : Nat} (hm : m < 1990) : ∃ f g, fM_tries (nI 0) σ = some (zsc σ 208 f) ∧ fM_broughtBy (nI p) (nI m) (wr (zsc σ 208 f) 208 (5 + c + 6 * p) v) = some (zOb (-1000000) (zWh n p m (upd w (5 + c + 6 * p) v) 0), zsc σ 208 g) := by
  have hn := hf.1
  obtain ⟨f, e1, e2⟩ := M_tries hM hf (d := 0) (by omega)
  have m2 : Mp (zsc σ 208 f) 208 0 w := Mp.zs e2
  obtain ⟨g, e3⟩ := M_by (p := p) (m := m) (by omega) hm (m2.put (5 + c + 6 * p) v) (hf.put h1 h4 v)
  refine ⟨f, g, e1, ?_⟩
  rw [e3, zwr, zsc_t, zsc_t]
/-! least -/
noncomputable def zLs (n p d : Nat) (w : Rw) : Nat → Nat → Int32
  | 0, _ => -1000000
  | k + 1, i => @ite _ (zWh n p d (upd w (5 + 3 + 6 * p) (nI i)) 0 = none) (Classical.propDecidable _) (zLs n p d w k (i + 1)) (nI i)
theorem zLs_t {n p d : Nat} {w : Rw} {k i : Nat} (h : zWh n p d (upd w (5 + 3 + 6 * p) (nI i)) 0 = none) : zLs n p d w (k + 1) i = zLs n p d w k (i + 1) := if_pos h
theorem zLs_f {n p d : Nat} {w : Rw} {k i : Nat} (h : ¬ zWh n p d (upd w (5 + 3 + 6 * p) (nI i)) 0 = none) : zLs n p d w (k + 1) i = nI i := if_neg h
theorem X_least_L {n t r p d : Nat} {w : Rw} (hf : Wf w n t r) (hp : p < n) (hd : d ≤ 60) : ∀ (k i N : Nat) (σ : Sg), Rp σ 4 w n → i + k = 10 → k < N → ∃ σ', fX_least_L37 N (nI p) (nI d) (nI i) σ = some (zLs n p d w k i, σ') ∧ Fr 10 σ σ' := by
  have hn := hf.1
  intro k
  induction k with
  | zero =>
    intro i N σ hr hi hN
    obtain ⟨N, rfl⟩ : ∃ M, N = M + 1 := ⟨N - 1, by omega⟩
    refine ⟨σ, ?_, Fr.rf 10 σ⟩
    show fX_least_b37 (fX_least_L37 N) _ _ _ σ = _
    unfold fX_least_b37
    rw [if_pos (show (9 : Int32) < nI i from nI_lt (a := 9) (by omega) (by omega))]
    rfl
  | succ k ih =>
    intro i N σ hr hi hN
    obtain ⟨N, rfl⟩ : ∃ M, N = M + 1 := ⟨N - 1, by omega⟩
    obtain ⟨q, σ1, g1, g2, g3⟩ := X_try hr hf (c := 3) (by omega) (by omega) hp (nI i) (m := d) (by omega)
    show ∃ σ', fX_least_b37 (fX_least_L37 N) _ _ _ σ = _ ∧ _
    unfold fX_least_b37
    rw [if_neg (show ¬ (9 : Int32) < nI i from nI_nlt (a := 9) (by omega) (by omega)), g1, ob_e, H_put3 (by omega), ob_e, g2, ob_e]
    dsimp only
    have zo := (zOb_n (k := d) (w := upd w (5 + 3 + 6 * p) (nI i)) (n := n) (p := p) (i := 0) (by omega)).1
    by_cases c : zWh n p d (upd w (5 + 3 + 6 * p) (nI i)) 0 = none
    · rw [if_pos (zo.mpr c), nI_1, zLs_t c]
      obtain ⟨σ2, e2, f2⟩ := ih (i + 1) N σ1 (hr.cong (fun k q1 q2 => g3 k (by omega))) (by omega) (by omega)
      exact ⟨σ2, e2, g3.tr f2⟩
    · rw [if_neg (fun z => c (zo.mp z)), zLs_f c]
      exact ⟨σ1, rfl, g3⟩
theorem M_least_L {n t r p d : Nat} {w : Rw} (hf : Wf w n t r) (hp : p < n) (hd : d ≤ 60) : ∀ (k i N : Nat) (σ : Sg), Mp σ 206 0 w → i + k = 10 → k < N → ∃ f, fM_least_L40 N (nI p) (nI d) (nI i) σ = some (zLs n p d w k i, zsc σ 208 f) := by
  have hn := hf.1
  intro k
  induction k with
  | zero =>
    intro i N σ hr hi hN
    obtain ⟨N, rfl⟩ : ∃ M, N = M + 1 := ⟨N - 1, by omega⟩
    refine ⟨σ 208, ?_⟩
    show fM_least_b40 (fM_least_L40 N) _ _ _ σ = _
    unfold fM_least_b40
    rw [if_pos (show (10 : Int32) ≤ nI i from nI_le (a := 10) (by omega) (by omega)), zsc_id]
    rfl
  | succ k ih =>
    intro i N σ hr hi hN
    obtain ⟨N, rfl⟩ : ∃ M, N = M + 1 := ⟨N - 1, by omega⟩
    obtain ⟨f, g, g1, g2⟩ := M_try hr hf (c := 3) (by omega) (by omega) hp (nI i) (m := d) (by omega)
    show ∃ f, fM_least_b40 (fM_least_L40 N) _ _ _ σ = _
    unfold fM_least_b40
    rw [if_neg (show ¬ (10 : Int32) ≤ nI i from nI_ge (b := 10) (by omega) (by omega)), show (0 : Int32) = nI 0 from rfl, g1, ob_e, zb3 (by omega), if_pos rfl, ltc_e, zx3 (by omega), show 8 + 6 * p = 5 + 3 + 6 * p from rfl, g2, ob_e]
    dsimp only
    have zo := (zOb_n (k := d) (w := upd w (5 + 3 + 6 * p) (nI i)) (n := n) (p := p) (i := 0) (by omega)).2
    by_cases c : zWh n p d (upd w (5 + 3 + 6 * p) (nI i)) 0 = none
    · rw [if_pos (zo.mpr c), nI_1, zLs_t c]
      obtain ⟨f2, e2⟩ := ih (i + 1) N (zsc σ 208 g) (hr.cong (zsc_n (by omega))) (by omega) (by omega)
      exact ⟨f2, by rw [e2, zsc_t]⟩
    · rw [if_neg (fun z => c (zo.mp z)), zLs_f c]
      exact ⟨g, rfl⟩
theorem T_least {σ : Sg} (h : Inv σ) (x y : Int32) : ∃ v σ1 σ2, fX_least x y σ = some (v, σ1) ∧ fM_least x y σ1 = some (v, σ2) ∧ Inv σ2 := by
  have hI := h
  obtain ⟨⟨w, n, t, r, hh⟩, -⟩ := hI
  obtain ⟨hf, hr, hm, h9⟩ := id hh
  have hn := hf.1
  have w4 := hf.2.2.2.2.1
  have s5 : σ 4 5 = nI n := by rw [hr.1.1.1]; exact w4
  have m4 : σ 206 4 = nI n := by rw [hm.at 4 (by omega)]; exact w4
  rcases percase hn x with ⟨p, hp, rfl, pA, pB⟩ | ⟨pA, pB⟩
  · rcases farcase y with ⟨d, hd, rfl, hB⟩ | hB
    · have hp6 : p < 6 := by omega
      by_cases c : w (10 + 6 * p) = 1
      · refine ⟨-1000002, σ, σ, ?_, ?_, h⟩
        · unfold fX_least
          rw [pA σ s5, ob_e, i10, (hB _).1, ob_e, i10, H_isb hr.1 hf hp, ob_e, if_pos (zBr_t c), i10]
        · unfold fM_least
          rw [pB σ m4, ob_e, i10, (hB _).2, ob_e, i10, zb5 hp6, if_pos rfl, zx5 hp6, hm.at _ (by omega), if_pos c]
      · obtain ⟨σ1, e1, f1⟩ := X_least_L hf hp hd 10 0 2000 σ hr (by omega) (by omega)
        have hm1 : Mp σ1 206 0 w := hm.cong (f1 _ (by omega))
        obtain ⟨g, e2⟩ := M_least_L hf hp hd 10 0 2000 σ1 hm1 (by omega) (by omega)
        refine ⟨zLs n p d w 10 0, σ1, zsc σ1 208 g, ?_, ?_, h.fore f1 g⟩
        · unfold fX_least
          rw [pA σ s5, ob_e, i10, (hB _).1, ob_e, i10, H_isb hr.1 hf hp, ob_e, if_neg (zBr_f c), i00, show (0 : Int32) = nI 0 from rfl, e1]
        · unfold fM_least
          rw [pB σ1 (by rw [hm1.at 4 (by omega)]; exact w4), ob_e, i10, (hB _).2, ob_e, i10, zb5 hp6, if_pos rfl, zx5 hp6, hm1.at _ (by omega), if_neg c, show (0 : Int32) = nI 0 from rfl, e2]
    · exact ⟨-1000001, σ, σ, by simp only [fX_least, pA σ s5, (hB _).1, ob_e, i10, ↓reduceIte], by simp only [fM_least, pB σ m4, (hB _).2, ob_e, i10, ↓reduceIte], h⟩
  · exact ⟨-1000001, σ, σ, by simp only [fX_least, pA σ s5, ob_e, ↓reduceIte], by simp only [fM_least, pB σ m4, ob_e, ↓reduceIte], h⟩
/-! beside -/
/-- one more floor is looked at -/
noncomputable def zB1 (z : Option Nat) (i : Nat) (s : Int32 × Int32) : Int32 × Int32 := match z with
  | none => s
  | some d => if s.1 = -1000000 then (nI i, nI d) else if s.2 ≤ nI d then s else (nI i, nI d)
noncomputable def zBe (n p : Nat) (w : Rw) : Nat → Nat → Int32 × Int32 → Int32 × Int32
  | 0, _, s => s
  | k + 1, i, s => zBe n p w k (i + 1) (zB1 (zWh n p 99 (upd w (5 + 1 + 6 * p) (nI i)) 0) i s)
theorem X_beside_L {n t r p : Nat} {w : Rw} (hf : Wf w n t r) (hp : p < n) (y : Int32) : ∀ (k i N : Nat) (s : Int32 × Int32) (σ : Sg), Rp σ 4 w n → i + k = t + 1 → k < N → ∃ σ', fX_beside_L55 N (nI p) y s.1 s.2 (nI i) σ = some (if y = 0 then (zBe n p w k i s).1 else (zBe n p w k i s).2, σ') ∧ Fr 10 σ σ' := by
  have hn := hf.1
  have ht := hf.2.1
  have w0 := hf.2.2.2.2.2.1
  intro k
  induction k with
  | zero =>
    intro i N s σ hr hi hN
    obtain ⟨N, rfl⟩ : ∃ M, N = M + 1 := ⟨N - 1, by omega⟩
    refine ⟨σ, ?_, Fr.rf 10 σ⟩
    show fX_beside_b55 (fX_beside_L55 N) _ _ _ _ _ σ = _
    unfold fX_beside_b55
    rw [hr.1.1.2.1, w0, if_pos (nI_lt (by omega) (by omega)), zBe]
    by_cases c : y = 0
    · rw [if_pos c, if_pos c]
    · rw [if_neg c, if_neg c]
  | succ k ih =>
    intro i N s σ hr hi hN
    obtain ⟨N, rfl⟩ : ∃ M, N = M + 1 := ⟨N - 1, by omega⟩
    obtain ⟨q, σ1, g1, g2, g3⟩ := X_try hr hf (c := 1) (by omega) (by omega) hp (nI i) (m := 99) (by omega)
    have hr1 : Rp σ1 4 w n := hr.cong (fun k q1 q2 => g3 k (by omega))
    show ∃ σ', fX_beside_b55 (fX_beside_L55 N) _ _ _ _ _ σ = _ ∧ _
    unfold fX_beside_b55 fX_beside_B127 fX_beside_B120 fX_beside_B127
    rw [hr.1.1.2.1, w0, if_neg (nI_nlt (by omega) (by omega)), g1, ob_e, H_put1 (by omega), ob_e, show (99 : Int32) = nI 99 from rfl, g2, ob_e, zBe, nI_1]
    dsimp only
    have zo := (zOb_n (k := 99) (w := upd w (5 + 1 + 6 * p) (nI i)) (n := n) (p := p) (i := 0) (by omega)).1
    cases ez : zWh n p 99 (upd w (5 + 1 + 6 * p) (nI i)) 0 with
    | none =>
      rw [ez] at zo
      rw [if_pos (zo.mpr rfl), zB1]
      obtain ⟨σ2, e2, f2⟩ := ih (i + 1) N s σ1 hr1 (by omega) (by omega)
      exact ⟨σ2, e2, g3.tr f2⟩
    | some d =>
      rw [ez] at zo
      rw [if_neg (fun z => by have := zo.mp z; cases this), zB1]
      by_cases c1 : s.1 = -1000000
      · rw [if_pos c1, if_pos c1]
        obtain ⟨σ2, e2, f2⟩ := ih (i + 1) N (nI i, nI d) σ1 hr1 (by omega) (by omega)
        exact ⟨σ2, e2, g3.tr f2⟩
      · rw [if_neg c1, if_neg c1]
        by_cases c2 : s.2 ≤ nI d
        · rw [if_pos c2]
          obtain ⟨σ2, e2, f2⟩ := ih (i + 1) N s σ1 hr1 (by omega) (by omega)
          refine ⟨σ2, ?_, g3.tr f2⟩
          show (if s.2 ≤ nI d then _ else _) = _
          rw [if_pos c2, e2]
        · rw [if_neg c2]
          obtain ⟨σ2, e2, f2⟩ := ih (i + 1) N (nI i, nI d) σ1 hr1 (by omega) (by omega)
          refine ⟨σ2, ?_, g3.tr f2⟩
          show (if s.2 ≤ nI d then _ else _) = _
          rw [if_neg c2]
          exact e2
theorem M_beside_L {n t r p : Nat} {w : Rw} (hf : Wf w n t r) (hp : p < n) (y : Int32) : ∀ (k i N : Nat) (s : Int32 × Int32) (σ : Sg), Mp σ 206 0 w → i + k = t + 1 → k < N → ∃ f, fM_beside_L61 N (nI p) y s.1 s.2 (nI i) σ = some (if y = 0 then (zBe n p w k i s).1 else (zBe n p w k i s).2, zsc σ 208 f) := by
  have hn := hf.1
  have ht := hf.2.1
  have w0 := hf.2.2.2.2.2.1
  intro k
  induction k with
  | zero =>
    intro i N s σ hr hi hN
    obtain ⟨N, rfl⟩ : ∃ M, N = M + 1 := ⟨N - 1, by omega⟩
    refine ⟨σ 208, ?_⟩
    show fM_beside_b61 (fM_beside_L61 N) _ _ _ _ _ σ = _
    unfold fM_beside_b61
    rw [hr.at 0 (by omega), w0, if_pos (nI_lt (by omega) (by omega)), zBe, zsc_id]
    by_cases c : y = 0
    · rw [if_pos c, if_pos c]
    · rw [if_neg c, if_neg c]
  | succ k ih =>
    intro i N s σ hr hi hN
    obtain ⟨N, rfl⟩ : ∃ M, N = M + 1 := ⟨N - 1, by omega⟩
    obtain ⟨f, g, g1, g2⟩ := M_try hr hf (c := 1) (by omega) (by omega) hp (nI i) (m := 99) (by omega)
    have hr1 : Mp (zsc σ 208 g) 206 0 w := hr.cong (zsc_n (by omega))
    have go : ∀ s' : Int32 × Int32, s' = zB1 (zWh n p 99 (upd w (5 + 1 + 6 * p) (nI i)) 0) i s → ∃ f, fM_beside_L61 N (nI p) y s'.1 s'.2 (nI (i + 1)) (zsc σ 208 g) = some (if y = 0 then (zBe n p w (k + 1) i s).1 else (zBe n p w (k + 1) i s).2, zsc σ 208 f) := by
      intro s' hs
      obtain ⟨f2, e2⟩ := ih (i + 1) N s' (zsc σ 208 g) hr1 (by omega) (by omega)
      refine ⟨f2, ?_⟩
      rw [e2, zsc_t, zBe, ← hs]
    show ∃ f, fM_beside_b61 (fM_beside_L61 N) _ _ _ _ _ σ = _
    unfold fM_beside_b61 fM_beside_B125 fM_beside_B121 fM_beside_B126 fM_beside_B139 fM_beside_B152
    rw [hr.at 0 (by omega), w0, if_neg (nI_nlt (by omega) (by omega)), show (0 : Int32) = nI 0 from rfl, g1, ob_e, zb1 (by omega), if_pos rfl, ltc_e, zx1 (by omega), show 6 + 6 * p = 5 + 1 + 6 * p from rfl, show (99 : Int32) = nI 99 from rfl, g2, ob_e]
    dsimp only
    rw [nI_0, i00, i00, i10, i10, nI_1]
    have zo := (zOb_n (k := 99) (w := upd w (5 + 1 + 6 * p) (nI i)) (n := n) (p := p) (i := 0) (by omega)).2
    cases ez : zWh n p 99 (upd w (5 + 1 + 6 * p) (nI i)) 0 with
    | none =>
      rw [ez] at zo go
      rw [if_pos (zo.mpr rfl)]
      exact go s rfl
    | some d =>
      rw [ez] at zo go
      rw [if_neg (fun z => by have := zo.mp z; cases this)]
      by_cases c1 : s.1 = -1000000
      · rw [if_pos c1]
        exact go (nI i, nI d) (by rw [zB1]; rw [if_pos c1])
      · rw [if_neg c1]
        by_cases c2 : s.2 ≤ nI d
        · show ∃ f, (if s.2 ≤ nI d then _ else _) = _
          rw [if_pos c2]
          exact go s (by rw [zB1]; rw [if_neg c1, if_pos c2])
        · show ∃ f, (if s.2 ≤ nI d then _ else _) = _
          rw [if_neg c2]
          exact go (nI i, nI d) (by rw [zB1]; rw [if_neg c1, if_neg c2])
theorem T_beside {σ : Sg} (h : Inv σ) (x y : Int32) : ∃ v σ1 σ2, fX_beside x y σ = some (v, σ1) ∧ fM_beside x y σ1 = some (v, σ2) ∧ Inv σ2 := by
  have hI := h
  obtain ⟨⟨w, n, t, r, hh⟩, -⟩ := hI
  obtain ⟨hf, hr, hm, h9⟩ := id hh
  have hn := hf.1
  have ht := hf.2.1
  have w4 := hf.2.2.2.2.1
  have w3 := hf.2.2.2.2.2.2.1
  have hq := hf.2.2.1
  have s5 : σ 4 5 = nI n := by rw [hr.1.1.1]; exact w4
  have m4 : σ 206 4 = nI n := by rw [hm.at 4 (by omega)]; exact w4
  rcases percase hn x with ⟨p, hp, rfl, pA, pB⟩ | ⟨pA, pB⟩
  · rcases incase y 0 1 with ⟨-, -, hB⟩ | ⟨-, hB⟩
    · have hp6 : p < 6 := by omega
      by_cases c3 : w 3 = nI (p + 1)
      · refine ⟨-1000002, σ, σ, ?_, ?_, h⟩
        · unfold fX_beside
          rw [pA σ s5, ob_e, i10, (hB _).1, ob_e, i10, hr.1.1.2.2.2.1, if_pos (by rw [c3, nI_pred])]
        · unfold fM_beside
          rw [pB σ m4, ob_e, i10, (hB _).2, ob_e, i10, M_rides_t (by rw [hm.at 3 (by omega), c3, nI_1]), ob_e, i10]
      · have nr : ¬ σ 4 8 = nI p := by
          rw [hr.1.1.2.2.2.1, w3]; rw [w3] at c3
          exact fun z => c3 ((zr8 (by omega) hp6).mp z.symm)
        by_cases c : w (10 + 6 * p) = 1
        · refine ⟨-1000002, σ, σ, ?_, ?_, h⟩
          · unfold fX_beside
            rw [pA σ s5, ob_e, i10, (hB _).1, ob_e, i10, if_neg nr, H_isb hr.1 hf hp, ob_e, if_pos (zBr_t c), i10]
          · unfold fM_beside
            rw [pB σ m4, ob_e, i10, (hB _).2, ob_e, i10, M_rides_f (by rw [hm.at 3 (by omega), nI_1]; exact c3), ob_e, i00, zb5 hp6, if_pos rfl, zx5 hp6, hm.at _ (by omega), if_pos c]
        · obtain ⟨σ1, e1, f1⟩ := X_beside_L hf hp y (t + 1) 0 2000 (-1000000, -1000000) σ hr (by omega) (by omega)
          have hm1 : Mp σ1 206 0 w := hm.cong (f1 _ (by omega))
          obtain ⟨g, e2⟩ := M_beside_L hf hp y (t + 1) 0 2000 (-1000000, -1000000) σ1 hm1 (by omega) (by omega)
          refine ⟨if y = 0 then (zBe n p w (t + 1) 0 (-1000000, -1000000)).1 else (zBe n p w (t + 1) 0 (-1000000, -1000000)).2, σ1, zsc σ1 208 g, ?_, ?_, h.fore f1 g⟩
          · unfold fX_beside
            rw [pA σ s5, ob_e, i10, (hB _).1, ob_e, i10, if_neg nr, H_isb hr.1 hf hp, ob_e, if_neg (zBr_f c), i00]
            exact e1
          · unfold fM_beside
            rw [pB σ1 (by rw [hm1.at 4 (by omega)]; exact w4), ob_e, i10, (hB _).2, ob_e, i10, M_rides_f (by rw [hm1.at 3 (by omega), nI_1]; exact c3), ob_e, i00, zb5 hp6, if_pos rfl, zx5 hp6, hm1.at _ (by omega), if_neg c]
            exact e2
    · exact ⟨-1000001, σ, σ, by simp only [fX_beside, pA σ s5, (hB _).1, ob_e, i10, ↓reduceIte], by simp only [fM_beside, pB σ m4, (hB _).2, ob_e, i10, ↓reduceIte], h⟩
  · exact ⟨-1000001, σ, σ, by simp only [fX_beside, pA σ s5, ob_e, ↓reduceIte], by simp only [fM_beside, pB σ m4, ob_e, ↓reduceIte], h⟩
