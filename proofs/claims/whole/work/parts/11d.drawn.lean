/-! walks -/
/-- one, drawn by X, goes up or down, or stays -/
def zDl (X : Nat) : Int32 := if X % 3 = 0 then 1 else if X % 3 = 1 then -1 else 0
def zSt (n : Nat) (X : Nat) (w : Rw) : Rw := if n = 0 then w else if w 3 = nI (X % n + 1) ∨ w (6 + 6 * (X % n)) + zDl X < 0 ∨ w 0 < w (6 + 6 * (X % n)) + zDl X then w else upd w (6 + 6 * (X % n)) (w (6 + 6 * (X % n)) + zDl X)
theorem lg0 {a : Nat} (ha : a < 2 ^ 31) : (lg_cmp (lN a) 0 = 0 ↔ a = 0) ∧ (lg_cmp (lN a) 1 = 0 ↔ a = 1) := by
  have e : ∀ b, b < 2 ^ 31 → (lg_cmp (lN a) (lN b) = 0 ↔ a = b) := by
    intro b hb
    unfold lg_cmp
    by_cases c : lN a > lN b
    · rw [if_pos c]
      have : b < a := (lN_lt hb ha).mp c
      exact ⟨fun z => absurd z (by decide), fun z => by omega⟩
    · rw [if_neg c]
      by_cases d : lN a = lN b
      · rw [if_pos d]
        exact ⟨fun _ => (lN_eq ha hb).mp d, fun _ => rfl⟩
      · rw [if_neg d]
        exact ⟨fun z => absurd z (by decide), fun z => absurd (by rw [z]) d⟩
  exact ⟨e 0 (by omega), e 1 (by omega)⟩
theorem zSt_wf {n t r X : Nat} {w : Rw} (hf : Wf w n t r) : Wf (zSt n X w) n t r := by
  unfold zSt
  split
  · exact hf
  · split
    · exact hf
    · exact hf.put (c := 1) (p := X % n) (by omega) (by omega) _
theorem nzl_t {n : Nat} (h0 : 0 < n) (h : n < 2 ^ 31) : nzl (lN n) = true := by
  unfold nzl
  have : ¬ lN n = 0 := fun z => by have := (lN_eq (b := 0) h (by omega)).mp z; omega
  simp [this]
theorem H_stray {σ : Sg} {h n t r X : Nat} {w : Rw} (hr : Rp σ h w n) (hf : Wf w n t r) (hX : X < 2 ^ 31) : ∃ σ', fH_stray h (lN X) σ = some σ' ∧ Rp σ' h (zSt n X w) n ∧ Fr h σ σ' := by
  have hn := hf.1
  have w4 := hf.2.2.2.2.1
  have w3 := hf.2.2.2.2.2.2.1
  have hq := hf.2.2.1
  unfold fH_stray
  rw [hr.1.1.1, w4]
  by_cases c0 : n = 0
  · rw [if_pos (by rw [c0]; rfl)]
    refine ⟨σ, rfl, ?_, Fr.rf h σ⟩
    unfold zSt
    rw [if_pos c0]
    exact hr
  · have hn0 : 0 < n := Nat.pos_of_ne_zero c0
    have hp : X % n < n := Nat.mod_lt _ hn0
    have hp6 : X % n < 6 := by omega
    have e1 : (lN X - lN X / lN n * lN n).toInt32 = nI (X % n) := by rw [pk_lRem (by omega) hn0 (by omega), lN_i]
    have e3 : lN X - lN X / 3 * 3 = lN (X % 3) := pk_lRem (b := 3) (by omega) (by omega) (by omega)
    have h3 : X % 3 < 2 ^ 31 := by omega
    rw [if_neg (nI_ne0 hn0 (by omega)), nI_l (by omega), nzl_t hn0 (by omega), if_pos rfl, e1, zi6 hp6, if_pos rfl, e3, zxp hp6, (hr.1.2 _ hp).2.1]
    have go : ∀ d : Int32, d = zDl X → ∃ σ', fH_stray_B54 h (nI (X % n)) (w (6 + 6 * (X % n)) + d) σ = some σ' ∧ Rp σ' h (zSt n X w) n ∧ Fr h σ σ' := by
      intro d hd
      subst hd
      unfold fH_stray_B54 zSt
      rw [if_neg c0, hr.1.1.2.2.2.1, hr.1.1.2.1]
      by_cases c1 : w 3 = nI (X % n + 1)
      · rw [if_pos (by rw [c1, nI_pred]), if_pos (Or.inl c1)]
        exact ⟨σ, rfl, hr, Fr.rf h σ⟩
      · rw [if_neg (by rw [w3]; rw [w3] at c1; exact fun z => c1 ((zr8 (by omega) hp6).mp z))]
        by_cases c2 : w (6 + 6 * (X % n)) + zDl X < 0
        · rw [if_pos c2, if_pos (Or.inr (Or.inl c2))]
          exact ⟨σ, rfl, hr, Fr.rf h σ⟩
        · rw [if_neg c2]
          by_cases c3 : w 0 < w (6 + 6 * (X % n)) + zDl X
          · rw [if_pos c3, if_pos (Or.inr (Or.inr c3))]
            exact ⟨σ, rfl, hr, Fr.rf h σ⟩
          · rw [if_neg c3, if_neg (fun z => z.elim c1 (fun z => z.elim c2 c3)), H_put1 hp6, ob_e]
            exact ⟨_, rfl, put_Rp hr.1 (c := 1) (p := X % n) (by omega) _, put_Fr (c := 1) (by omega) _⟩
    by_cases c1 : X % 3 = 0
    · rw [if_pos ((lg0 h3).1.mpr c1)]
      exact go 1 (by unfold zDl; rw [if_pos c1])
    · rw [if_neg (fun z => c1 ((lg0 h3).1.mp z))]
      by_cases c2 : X % 3 = 1
      · rw [if_pos ((lg0 h3).2.mpr c2)]
        exact go (-1) (by unfold zDl; rw [if_neg c1, if_pos c2])
      · rw [if_neg (fun z => c2 ((lg0 h3).2.mp z))]
        have := go 0 (by unfold zDl; rw [if_neg c1, if_neg c2])
        rw [Int32.add_zero] at this
        exact this
def zNx (X : Nat) : Nat := X * 16807 % 2147483647
theorem zNx_lt (X : Nat) : zNx X < 2147483647 := Nat.mod_lt _ (by omega)
theorem zNx_e {X : Nat} (h : X < 2147483647) : lN X * 16807 - lN X * 16807 / 2147483647 * 2147483647 = lN (zNx X) := by
  have e : lN X * 16807 = lN (X * 16807) := lN_mul X 16807
  rw [e]
  exact pk_lRem (b := 2147483647) (by omega) (by omega) (by omega)
/-- k walks by X -/
noncomputable def zDr (n : Nat) : Nat → Nat → Rw → Rw
  | 0, _, w => w
  | k + 1, X, w => zDr n k (zNx X) (zPass n (zSt n (zNx X) w))
theorem zDr_wf {n t : Nat} : ∀ (k X : Nat) {w : Rw} {q : Nat}, Wf w n t q → ∃ q', Wf (zDr n k X w) n t q' := by
  intro k
  induction k with
  | zero => intro X w q h; exact ⟨q, h⟩
  | succ k ih =>
    intro X w q h
    obtain ⟨q1, h1⟩ := zPass_wf (zSt_wf (X := zNx X) h)
    exact ih _ h1
theorem X_drawn_L {n t m : Nat} (hm : m ≤ 60) (y : Int32) : ∀ (k i N X : Nat) (σ : Sg) (w : Rw) (q : Nat), Rp σ 10 w n → Wf w n t q → X < 2147483647 → i + k = m → k < N → ∃ σ', fX_drawn_L60 N (nI m) y (lN X) (nI i) σ = some (if y = 0 then nI (zPc (zBn (zDr n k X w) n)) else zDr n k X w 1, σ') ∧ Fr 10 σ σ' := by
  intro k
  induction k with
  | zero =>
    intro i N X σ w q hr hf hX hi hN
    obtain ⟨N, rfl⟩ : ∃ M, N = M + 1 := ⟨N - 1, by omega⟩
    refine ⟨σ, ?_, Fr.rf 10 σ⟩
    show fX_drawn_b60 (fX_drawn_L60 N) _ _ _ _ σ = _
    unfold fX_drawn_b60
    rw [if_pos (nI_le (by omega) (by omega)), hr.1.1.2.2.2.2.1, J_bits (zBn_lt w hf.1), ob_e, hr.1.1.2.2.1, zDr]
    by_cases c : y = 0
    · rw [if_pos c, if_pos c]
    · rw [if_neg c, if_neg c]
  | succ k ih =>
    intro i N X σ w q hr hf hX hi hN
    obtain ⟨N, rfl⟩ : ∃ M, N = M + 1 := ⟨N - 1, by omega⟩
    have hX' := zNx_lt X
    obtain ⟨σ1, e1, hr1, f1⟩ := H_stray hr hf (X := zNx X) (by omega)
    obtain ⟨σ2, e2, hr2, f2⟩ := H_adv hr1 (zSt_wf hf)
    obtain ⟨q2, hf2⟩ := zPass_wf (zSt_wf (X := zNx X) hf)
    obtain ⟨σ3, e3, f3⟩ := ih (i + 1) N (zNx X) σ2 _ q2 hr2 hf2 hX' (by omega) (by omega)
    refine ⟨σ3, ?_, (f1.tr f2).tr f3⟩
    show fX_drawn_b60 (fX_drawn_L60 N) _ _ _ _ σ = _
    unfold fX_drawn_b60
    rw [if_neg (nI_ge (by omega) (by omega)), zNx_e hX, e1, ob_e, e2, ob_e, nI_1, e3]
    rfl
theorem M_drawn_L {n t m : Nat} (hm : m ≤ 60) (y : Int32) : ∀ (k i N X : Nat) (σ : Sg) (w : Rw) (q : Nat), Mp σ 208 0 w → Wf w n t q → σ 206 4 = nI n → σ 206 0 = nI t → X < 2147483647 → i + k = m → k < N → ∃ f, fM_drawn_L51 N (nI m) y (lN X) (nI i) σ = some (if y = 0 then nI (zPc (zBn (zDr n k X w) n)) else zDr n k X w 1, zsc σ 208 f) := by
  intro k
  induction k with
  | zero =>
    intro i N X σ w q hr hf h4 h0 hX hi hN
    obtain ⟨N, rfl⟩ : ∃ M, N = M + 1 := ⟨N - 1, by omega⟩
    refine ⟨σ 208, ?_⟩
    show fM_drawn_b51 (fM_drawn_L51 N) _ _ _ _ σ = _
    unfold fM_drawn_b51
    rw [if_pos (nI_le (by omega) (by omega)), M_bin hr hf, ob_e, M_ones (zBn_lt w hf.1), ob_e, hr.at 1 (by omega), zDr, zsc_id]
    by_cases c : y = 0
    · rw [if_pos c, if_pos c]
    · rw [if_neg c, if_neg c]
  | succ k ih =>
    intro i N X σ w q hr hf h4 h0 hX hi hN
    obtain ⟨N, rfl⟩ : ∃ M, N = M + 1 := ⟨N - 1, by omega⟩
    have hX' := zNx_lt X
    have hn := hf.1
    have w0 := hf.2.2.2.2.2.1
    have w3 := hf.2.2.2.2.2.2.1
    have go : ∀ τ : Sg, (∃ f, τ = zsc σ 208 f ∧ ∀ j, j < 41 → f j = zSt n (zNx X) w j) → ∃ f, fM_drawn_B182 (fM_drawn_L51 N) (nI m) y (lN (zNx X)) (nI i) τ = some (if y = 0 then nI (zPc (zBn (zDr n (k + 1) X w) n)) else zDr n (k + 1) X w 1, zsc σ 208 f) := by
      rintro τ ⟨f, rfl, ef⟩
      obtain ⟨g, e1, e2⟩ := M_pass (Mp.zs (σ := σ) (k := 208) ef) (zSt_wf (X := zNx X) hf)
      obtain ⟨q2, hf2⟩ := zPass_wf (zSt_wf (X := zNx X) hf)
      rw [zsc_t] at e1
      obtain ⟨f2, e3⟩ := ih (i + 1) N (zNx X) (zsc σ 208 g) _ q2 (Mp.zs e2) hf2 (by rw [zsc_n (by omega)]; exact h4) (by rw [zsc_n (by omega)]; exact h0) hX' (by omega) (by omega)
      refine ⟨f2, ?_⟩
      unfold fM_drawn_B182
      rw [e1, ob_e, nI_1, e3, zsc_t]
      rfl
    show ∃ f, fM_drawn_b51 (fM_drawn_L51 N) _ _ _ _ σ = _
    unfold fM_drawn_b51
    rw [if_neg (nI_ge (by omega) (by omega)), zNx_e hX, h4]
    have same : zSt n (zNx X) w = w → ∃ f, σ = zsc σ 208 f ∧ ∀ j, j < 41 → f j = zSt n (zNx X) w j := fun e => ⟨σ 208, (zsc_id σ 208).symm, fun j hj => by rw [e]; exact hr.at j hj⟩
    by_cases c0 : n = 0
    · rw [if_pos (by rw [c0]; decide)]
      exact go σ (same (by unfold zSt; rw [if_pos c0]))
    · have hn0 : 0 < n := Nat.pos_of_ne_zero c0
      have hp : zNx X % n < n := Nat.mod_lt _ hn0
      have hp6 : zNx X % n < 6 := by omega
      have e1 : (lN (zNx X) - lN (zNx X) / lN n * lN n).toInt32 = nI (zNx X % n) := by rw [pk_lRem (by omega) hn0 (by omega), lN_i]
      have e3 : lN (zNx X) - lN (zNx X) / 3 * 3 = lN (zNx X % 3) := pk_lRem (b := 3) (by omega) (by omega) (by omega)
      have h3 : zNx X % 3 < 2 ^ 31 := by omega
      rw [if_neg (nI_nle hn0 (by omega)), nI_l (by omega), nzl_t hn0 (by omega), if_pos rfl, e1, zb1 hp6, if_pos rfl, e3, zx1 hp6, hr.at _ (by omega)]
      have go2 : ∀ d : Int32, d = zDl (zNx X) → ∃ f, fM_drawn_B136 (fM_drawn_L51 N) (nI m) y (lN (zNx X)) (nI i) (nI (zNx X % n)) d (w (6 + 6 * (zNx X % n))) σ = some (if y = 0 then nI (zPc (zBn (zDr n (k + 1) X w) n)) else zDr n (k + 1) X w 1, zsc σ 208 f) := by
        intro d hd
        subst hd
        unfold fM_drawn_B136
        by_cases c1 : w 3 = nI (zNx X % n + 1)
        · rw [M_rides_t (by rw [hr.at 3 (by omega), c1, nI_1]), ob_e, i10]
          exact go σ (same (by unfold zSt; rw [if_neg c0, if_pos (Or.inl c1)]))
        · rw [M_rides_f (by rw [hr.at 3 (by omega), nI_1]; exact c1), ob_e, i00, h0, ← w0]
          rcases incase (w (6 + 6 * (zNx X % n)) + zDl (zNx X)) 0 (w 0) with ⟨a1, a2, hB⟩ | ⟨a, hB⟩
          · rw [(hB _).2, ob_e, i10, zb1 hp6, if_pos rfl, ltc_e, zx1 hp6]
            refine go _ ⟨upd (σ 208) (6 + 6 * (zNx X % n)) (w (6 + 6 * (zNx X % n)) + zDl (zNx X)), zwr _ _ _ _, fun j hj => ?_⟩
            unfold zSt
            rw [if_neg c0, if_neg (fun z => z.elim c1 (fun z => z.elim a1 a2))]
            by_cases e : j = 6 + 6 * (zNx X % n)
            · rw [e, upd_at, upd_at]
            · rw [upd_no e, upd_no e, hr.at j hj]
          · rw [(hB _).2, ob_e, i00]
            exact go σ (same (by unfold zSt; rw [if_neg c0, if_pos (Or.inr a)]))
      by_cases c1 : zNx X % 3 = 0
      · rw [if_pos ((lg0 h3).1.mpr c1)]
        exact go2 1 (by unfold zDl; rw [if_pos c1])
      · rw [if_neg (fun z => c1 ((lg0 h3).1.mp z))]
        by_cases c2 : zNx X % 3 = 1
        · rw [if_pos ((lg0 h3).2.mpr c2)]
          exact go2 (-1) (by unfold zDl; rw [if_neg c1, if_pos c2])
        · rw [if_neg (fun z => c2 ((lg0 h3).2.mp z))]
          exact go2 0 (by unfold zDl; rw [if_neg c1, if_neg c2])
theorem T_drawn {σ : Sg} (h : Inv σ) (x1 x2 x3 : Int32) : ∃ v σ1 σ2, fX_drawn x1 x2 x3 σ = some (v, σ1) ∧ fM_drawn x1 x2 x3 σ1 = some (v, σ2) ∧ Inv σ2 := by
  have hI := h
  obtain ⟨⟨w, n, t, r, hh⟩, -⟩ := hI
  obtain ⟨hf, hr, hm, h9⟩ := id hh
  have hn := hf.1
  have w4 := hf.2.2.2.2.1
  have w0 := hf.2.2.2.2.2.1
  rcases housed hh with ⟨-, b, c⟩ | ⟨-, b, c⟩
  · refine ⟨-1000002, σ, σ, ?_, ?_, h⟩
    · unfold fX_drawn; rw [b, i00]
    · unfold fM_drawn; rw [c σ (hm.at 0 (by omega)), ob_e, i00]
  · have cc := c σ (hm.at 0 (by omega))
    rcases farcase x1 with ⟨m, hm60, rfl, hA⟩ | hA
    · rcases incase x2 1 999999 with ⟨c1, c2, hB⟩ | ⟨-, hB⟩
      · rcases incase x3 0 1 with ⟨-, -, hD⟩ | ⟨-, hD⟩
        · obtain ⟨X, hX, rfl⟩ := zrng (n := 999999) (by omega) (fun z => c1 (Int32.lt_trans z (by decide))) c2
          obtain ⟨q, g1, g2, g3⟩ := X_sup hn hr
          obtain ⟨σ1, k1, k2⟩ := X_drawn_L (t := t) hm60 x3 m 0 2000 X q w r g2 hf (by omega) (by omega) (by omega)
          have hF : Fr 10 σ σ1 := g3.tr k2
          have hm1 : Mp σ1 206 0 w := hm.cong (hF _ (by omega))
          obtain ⟨f, e1, e2⟩ := M_tries hm1 hf (d := 0) (by omega)
          have hmt : Mp (zsc σ1 208 f) 206 0 w := hm1.cong (zsc_n (by omega))
          obtain ⟨f2, e3⟩ := M_drawn_L (t := t) hm60 x3 m 0 2000 X (zsc σ1 208 f) w r (Mp.zs e2) hf (by rw [hmt.at 4 (by omega)]; exact w4) (by rw [hmt.at 0 (by omega)]; exact w0) (by omega) (by omega) (by omega)
          refine ⟨if x3 = 0 then nI (zPc (zBn (zDr n m X w) n)) else zDr n m X w 1, σ1, zsc σ1 208 f2, ?_, ?_, h.fore hF f2⟩
          · unfold fX_drawn
            rw [b, i10, (hA _).1, ob_e, i10, (hB _).1, ob_e, i10, (hD _).1, ob_e, i10, g1, ob_e, nI_l (by omega), ← nI_0, k1, nI_0]
          · unfold fM_drawn
            rw [c σ1 (hm1.at 0 (by omega)), ob_e, i10, (hA _).2, ob_e, i10, (hB _).2, ob_e, i10, (hD _).2, ob_e, i10, ← nI_0, e1, ob_e, nI_l (by omega), e3, zsc_t, nI_0]
        · refine ⟨-1000001, σ, σ, ?_, ?_, h⟩
          · unfold fX_drawn; rw [b, i10, (hA _).1, ob_e, i10, (hB _).1, ob_e, i10, (hD _).1, ob_e, i00]
          · unfold fM_drawn; rw [cc, ob_e, i10, (hA _).2, ob_e, i10, (hB _).2, ob_e, i10, (hD _).2, ob_e, i00]
      · refine ⟨-1000001, σ, σ, ?_, ?_, h⟩
        · unfold fX_drawn; rw [b, i10, (hA _).1, ob_e, i10, (hB _).1, ob_e, i00]
        · unfold fM_drawn; rw [cc, ob_e, i10, (hA _).2, ob_e, i10, (hB _).2, ob_e, i00]
    · refine ⟨-1000001, σ, σ, ?_, ?_, h⟩
      · unfold fX_drawn; rw [b, i10, (hA _).1, ob_e, i00]
      · unfold fM_drawn; rw [cc, ob_e, i10, (hA _).2, ob_e, i00]
