/-! acts: what was ahead of each, as a history -/
def pA (A : Nat) : Nat := if A < 24 then A + 1 else 24
def pH {α : Type} (A : Nat) (H : Nat → α) (w : α) : Nat → α := fun i => if A < 24 then (if i = A then w else H i) else (if i = 23 then w else H (i + 1))
def CA (σ : Sg) (A X : Nat) (H : Nat → Rw) (N : Nat → Nat) : Prop := σ 18 2 = nI A ∧ σ 18 1 = nI X ∧ ∀ i, i < A → Rp σ (20 + 6 * ((X + 24 - A + i) % 24)) (H i) (N i)
def MA (σ : Sg) (A : Nat) (H : Nat → Rw) : Prop := σ 200 17 = nI A ∧ ∀ i, i < A → Mp σ 209 (41 * i) (H i)
def HW (A : Nat) (H : Nat → Rw) (N : Nat → Nat) : Prop := ∀ i, i < A → ∃ t r, Wf (H i) (N i) t r ∧ 0 < t
theorem Iact.hist {σ : Sg} (h : Iact σ) : ∃ A X H N, A ≤ 24 ∧ X < 24 ∧ (σ 0 9 = 0 → A = 0) ∧ CA σ A X H N ∧ MA σ A H ∧ HW A H N := by
  obtain ⟨A, X, h1, h2, h3, h4, h5, h6, h7⟩ := h
  have k : ∀ i, ∃ (q : Rw × Nat), i < A → ∃ t r, Wf q.1 q.2 t r ∧ 0 < t ∧ Rp σ (20 + 6 * ((X + 24 - A + i) % 24)) q.1 q.2 ∧ Mp σ 209 (41 * i) q.1 := by
    intro i
    by_cases c : i < A
    · obtain ⟨w, n, t, r, g⟩ := h7 i c
      exact ⟨(w, n), fun _ => ⟨t, r, g⟩⟩
    · exact ⟨(fun _ => 0, 0), fun z => absurd z c⟩
  have kk := fun i => Classical.choose_spec (k i)
  refine ⟨A, X, fun i => (Classical.choose (k i)).1, fun i => (Classical.choose (k i)).2, h1, h2, h6, ⟨h3, h5, fun i hi => ?_⟩, ⟨h4, fun i hi => ?_⟩, fun i hi => ?_⟩
  · obtain ⟨t, r, -, -, g, -⟩ := kk i hi; exact g
  · obtain ⟨t, r, -, -, -, g⟩ := kk i hi; exact g
  · obtain ⟨t, r, g, g2, -, -⟩ := kk i hi; exact ⟨t, r, g, g2⟩
theorem Iact.mk {σ : Sg} {A X : Nat} {H : Nat → Rw} {N : Nat → Nat} (h1 : A ≤ 24) (h2 : X < 24) (h3 : σ 0 9 = 0 → A = 0) (hC : CA σ A X H N) (hM : MA σ A H) (hW : HW A H N) : Iact σ := by
  refine ⟨A, X, h1, h2, hC.1, hM.1, hC.2.1, h3, fun i hi => ?_⟩
  obtain ⟨t, r, g1, g2⟩ := hW i hi
  exact ⟨H i, N i, t, r, g1, g2, hC.2.2 i hi, hM.2 i hi⟩
theorem CA.cong {σ σ' : Sg} {A X : Nat} {H : Nat → Rw} {N : Nat → Nat} (h : CA σ A X H N) (e1 : σ' 18 = σ 18) (e : ∀ k, 20 ≤ k → k < 164 → σ' k = σ k) : CA σ' A X H N := by
  refine ⟨by rw [e1]; exact h.1, by rw [e1]; exact h.2.1, fun i hi => (h.2.2 i hi).cong (fun k q1 q2 => e k (by omega) ?_)⟩
  have := Nat.mod_lt (X + 24 - A + i) (show 0 < 24 by omega)
  omega
theorem MA.cong {σ σ' : Sg} {A : Nat} {H : Nat → Rw} (h : MA σ A H) (e1 : σ' 200 17 = σ 200 17) (e : σ' 209 = σ 209) : MA σ' A H := ⟨by rw [e1]; exact h.1, fun i hi => (h.2 i hi).cong e⟩
theorem pA_le (A : Nat) : pA A ≤ 24 := by unfold pA; split <;> omega
theorem HW.push {A : Nat} {H : Nat → Rw} {N : Nat → Nat} (h : HW A H N) (hA : A ≤ 24) {w : Rw} {n t r : Nat} (hf : Wf w n t r) (ht : 0 < t) : HW (pA A) (pH A H w) (pH A N n) := by
  intro i hi
  unfold pA at hi
  unfold pH
  by_cases c : A < 24
  · rw [if_pos c] at hi
    by_cases d : i = A
    · simp only [if_pos c, if_pos d]; exact ⟨t, r, hf, ht⟩
    · simp only [if_pos c, if_neg d]; exact h i (by omega)
  · rw [if_neg c] at hi
    by_cases d : i = 23
    · simp only [if_neg c, if_pos d]; exact ⟨t, r, hf, ht⟩
    · simp only [if_neg c, if_neg d]; exact h (i + 1) (by omega)
theorem A_keep {σ : Sg} {A X n : Nat} {H : Nat → Rw} {N : Nat → Nat} {w : Rw} (hA : A ≤ 24) (hX : X < 24) (h : CA σ A X H N) (hn : n ≤ 6) (hr : Rp σ 4 w n) : ∃ σ', fA_keep σ = some σ' ∧ CA σ' (pA A) ((X + 1) % 24) (pH A H w) (pH A N n) ∧ ∀ k, k ≠ 18 → k < 20 ∨ 164 ≤ k → σ' k = σ k := by
  obtain ⟨h1, h2, h3⟩ := h
  obtain ⟨q, e1, r1, f1⟩ := H_become (r0 := 20 + 6 * X) (r1 := 4) (by omega) hn hr
  have q1 : q 18 1 = nI X := by rw [f1 18 (by omega)]; exact h2
  have q2 : q 18 2 = nI A := by rw [f1 18 (by omega)]; exact h1
  have e2 : (nI X + 1) - (nI X + 1) / 24 * 24 = nI ((X + 1) % 24) := by
    rw [nI_1]
    exact pk_rem (d := 24) (by omega) (by omega) (by omega)
  have e3 : (if (24 : Int32) < nI A + 1 then 24 else nI A + 1) = nI (pA A) := by
    rw [nI_1]
    unfold pA
    by_cases c : A < 24
    · rw [if_pos c, if_neg (show ¬ (24 : Int32) < nI (A + 1) from nI_nlt (a := 24) (by omega) (by omega))]
    · rw [if_neg c, if_pos (show (24 : Int32) < nI (A + 1) from nI_lt (a := 24) (by omega) (by omega))]
      rfl
  refine ⟨wr (wr q 18 1 (nI ((X + 1) % 24))) 18 2 (nI (pA A)), ?_, ⟨?_, ?_, fun i hi => ?_⟩, fun k k1 k2 => ?_⟩
  · unfold fA_keep
    rw [h2, zin hX (by omega), if_pos rfl, zix (by omega), e1, ob_e, ltc_e, ltc_e, q1, e2, wr_no (by omega), q2, e3]
  · rw [wr_at]
  · rw [wr_no (by omega), wr_at]
  · have hc : ∀ k, 20 ≤ k → wr (wr q 18 1 (nI ((X + 1) % 24))) 18 2 (nI (pA A)) k = q k := fun k hk => by rw [wr_ne (by omega), wr_ne (by omega)]
    have old : ∀ j, j < A → (X + 24 - A + j) % 24 ≠ X → Rp (wr (wr q 18 1 (nI ((X + 1) % 24))) 18 2 (nI (pA A))) (20 + 6 * ((X + 24 - A + j) % 24)) (H j) (N j) := by
      intro j hj hne
      exact (h3 j hj).cong (fun k k1 k2 => by rw [hc k (by omega), f1 k (by omega)])
    have new : Rp (wr (wr q 18 1 (nI ((X + 1) % 24))) 18 2 (nI (pA A))) (20 + 6 * X) w n := r1.cong (fun k k1 k2 => hc k (by omega))
    unfold pA at hi ⊢
    unfold pH
    by_cases c : A < 24
    · simp only [if_pos c] at hi ⊢
      by_cases d : i = A
      · simp only [if_pos d]
        rw [show ((X + 1) % 24 + 24 - (A + 1) + i) % 24 = X by omega]
        unfold pA at new
        rw [if_pos c] at new
        exact new
      · simp only [if_neg d]
        have := old i (by omega) (by omega)
        rw [show ((X + 1) % 24 + 24 - (A + 1) + i) % 24 = (X + 24 - A + i) % 24 by omega]
        unfold pA at this
        rw [if_pos c] at this
        exact this
    · simp only [if_neg c] at hi ⊢
      by_cases d : i = 23
      · simp only [if_pos d]
        rw [show ((X + 1) % 24 + 24 - 24 + i) % 24 = X by omega]
        unfold pA at new
        rw [if_neg c] at new
        exact new
      · simp only [if_neg d]
        have := old (i + 1) (by omega) (by omega)
        rw [show ((X + 1) % 24 + 24 - 24 + i) % 24 = (X + 24 - A + (i + 1)) % 24 by omega]
        unfold pA at this
        rw [if_neg c] at this
        exact this
  · rw [wr_ne k1, wr_ne k1, f1 k (by omega)]
theorem M_shift_L : ∀ (k i N : Nat) (σ : Sg), i + k = 943 → k < N → ∃ f, fM_notes_L11 N (nI i) σ = fM_notes_B49 (wr (zsc σ 209 f) 200 17 (σ 200 17 - 1)) ∧ ∀ y, f y = if i ≤ y ∧ y < 943 then σ 209 (y + 41) else σ 209 y := by
  intro k
  induction k with
  | zero =>
    intro i N σ hi hN
    obtain ⟨N, rfl⟩ : ∃ M, N = M + 1 := ⟨N - 1, by omega⟩
    obtain rfl : i = 943 := by omega
    refine ⟨σ 209, ?_, fun y => by rw [if_neg (by omega)]⟩
    show fM_notes_b11 (fM_notes_L11 N) _ σ = _
    unfold fM_notes_b11
    rw [if_pos (by decide), ltc_e, zsc_id]
  | succ k ih =>
    intro i N σ hi hN
    obtain ⟨N, rfl⟩ : ∃ M, N = M + 1 := ⟨N - 1, by omega⟩
    obtain ⟨f, e1, e2⟩ := ih (i + 1) N (wr σ 209 i (σ 209 (i + 41))) (by omega) (by omega)
    refine ⟨f, ?_, fun y => ?_⟩
    · show fM_notes_b11 (fM_notes_L11 N) _ σ = _
      unfold fM_notes_b11
      have e : nI i + 41 = nI (i + 41) := nI_add i 41
      rw [if_neg (show ¬ (943 : Int32) ≤ nI i from nI_ge (b := 943) (by omega) (by omega)), e, zin (by omega) (by omega), if_pos rfl, zin (by omega) (by omega), if_pos rfl, ltc_e, zix (by omega), zix (by omega), nI_1, e1, zwr σ, zsc_t, zsc_n (by omega)]
    · rw [e2 y]
      by_cases c : y = i
      · rw [if_neg (by omega), if_pos (by omega), c, wr_at]
      · by_cases d : i ≤ y ∧ y < 943
        · rw [if_pos (by omega), if_pos d, wr_no (by omega)]
        · rw [if_neg (by omega), if_neg d, wr_no c]
theorem M_notes_B {σ : Sg} {A : Nat} {w : Rw} (hA : A < 24) (h1 : σ 200 17 = nI A) (hm : Mp σ 206 0 w) : fM_notes_B49 σ = some (wr (cpy σ 206 0 209 (41 * A) 41) 200 17 (nI (A + 1))) := by
  unfold fM_notes_B49
  have e : (41 : Int32) * σ 200 17 = nI (41 * A) := by rw [h1, zlit 41, pk_mul]
  rw [e, show (0 : Int32) = nI 0 from rfl, M_copies (by omega) (by omega) (by omega) (by omega) (by omega), ob_e, ltc_e, cpy_ne (by omega), h1, nI_1]
theorem M_notes {σ : Sg} {A : Nat} {H : Nat → Rw} {w : Rw} (hA : A ≤ 24) (h : MA σ A H) (hm : Mp σ 206 0 w) : ∃ f, fM_notes σ = some (wr (zsc σ 209 f) 200 17 (nI (pA A))) ∧ MA (wr (zsc σ 209 f) 200 17 (nI (pA A))) (pA A) (pH A H w) := by
  obtain ⟨h1, h2⟩ := h
  unfold fM_notes
  by_cases c : A < 24
  · have n24 : ¬ σ 200 17 = 24 := by rw [h1]; exact fun z => by have := nI_inj (b := 24) (by omega) (by omega) z; omega
    rw [if_neg n24, M_notes_B c h1 hm, zcpy]
    refine ⟨va_cpy (σ 206) (σ 209) 0 (41 * A) 41, by unfold pA; rw [if_pos c], wr_at _ _ _ _, fun i hi => ?_⟩
    intro j hj
    rw [wr_ne (by omega), zsc_s]
    unfold pA at hi
    rw [if_pos c] at hi
    unfold va_cpy pH
    by_cases d : i = A
    · simp only [if_pos c, if_pos d]
      rw [if_pos (by omega), d, show 0 + (41 * A + j - 41 * A) = j by omega]
      exact hm.at j hj
    · simp only [if_pos c, if_neg d]
      rw [if_neg (by omega)]
      exact h2 i (by omega) j hj
  · obtain rfl : A = 24 := by omega
    rw [if_pos (show σ 200 17 = 24 from h1)]
    obtain ⟨f, e1, e2⟩ := M_shift_L 943 0 2000 σ (by omega) (by omega)
    have m17 : wr (zsc σ 209 f) 200 17 (σ 200 17 - 1) 200 17 = nI 23 := by rw [wr_at, h1]; exact nI_pred 23
    have m206 : Mp (wr (zsc σ 209 f) 200 17 (σ 200 17 - 1)) 206 0 w := hm.cong (by rw [wr_ne (by omega), zsc_n (by omega)])
    have e3 := M_notes_B (by omega) m17 m206
    rw [nI_0] at e1
    refine ⟨va_cpy (σ 206) f 0 (41 * 23) 41, ?_, wr_at _ _ _ _, fun i hi => ?_⟩
    · rw [e1, e3]
      refine congrArg some ?_
      funext a b
      by_cases ca : a = 200
      · subst ca
        by_cases cb : b = 17
        · subst cb; rw [wr_at, wr_at]; rfl
        · rw [wr_no cb, cpy_ne (by omega), wr_no cb, wr_no cb, zsc_n (by omega), zsc_n (by omega)]
      · rw [wr_ne ca, wr_ne ca]
        by_cases cc : a = 209
        · subst cc
          rw [cpy_eq, wr_ne (by omega), wr_ne (by omega), zsc_s, zsc_s, zsc_n (by omega)]
        · rw [cpy_ne cc, wr_ne ca, zsc_n cc, zsc_n cc]
    · intro j hj
      rw [wr_ne (by omega), zsc_s]
      unfold pA at hi
      rw [if_neg c] at hi
      unfold va_cpy pH
      by_cases d : i = 23
      · simp only [if_neg c, if_pos d]
        rw [if_pos (by omega), d, show 0 + (41 * 23 + j - 41 * 23) = j by omega]
        exact hm.at j hj
      · simp only [if_neg c, if_neg d]
        rw [if_neg (by omega), e2, if_pos (by omega), show 41 * i + j + 41 = 41 * (i + 1) + j by omega]
        exact h2 (i + 1) (by omega) j hj
/-- the history behind k steps -/
noncomputable def hsA : Nat → Nat → Nat
  | 0, A => A
  | k + 1, A => hsA k (pA A)
noncomputable def hsH (n : Nat) : Nat → Nat → (Nat → Rw) → Rw → Nat → Rw
  | 0, _, H, _ => H
  | k + 1, A, H, w => hsH n k (pA A) (pH A H w) (zPass n w)
noncomputable def hsN (n : Nat) : Nat → Nat → (Nat → Nat) → Nat → Nat
  | 0, _, N => N
  | k + 1, A, N => hsN n k (pA A) (pH A N n)
noncomputable def hsX : Nat → Nat → Nat
  | 0, X => X
  | k + 1, X => hsX k ((X + 1) % 24)
theorem hsA_le : ∀ (k A : Nat), A ≤ 24 → hsA k A ≤ 24 := by
  intro k
  induction k with
  | zero => intro A h; exact h
  | succ k ih => intro A h; exact ih _ (pA_le A)
theorem hsX_lt : ∀ (k X : Nat), X < 24 → hsX k X < 24 := by
  intro k
  induction k with
  | zero => intro A h; exact h
  | succ k ih => intro A h; exact ih _ (Nat.mod_lt _ (by omega))
theorem hs_HW {n t : Nat} (ht : 0 < t) : ∀ (k A : Nat) (H : Nat → Rw) (N : Nat → Nat) (w : Rw) (q : Nat), A ≤ 24 → HW A H N → Wf w n t q → HW (hsA k A) (hsH n k A H w) (hsN n k A N) := by
  intro k
  induction k with
  | zero => intro A H N w q _ h _; exact h
  | succ k ih =>
    intro A H N w q hA h hf
    obtain ⟨q', hf'⟩ := zPass_wf hf
    exact ih _ _ _ _ q' (pA_le A) (h.push hA hf ht) hf'
theorem X_steps_L {n t m : Nat} (hm : m < 2000) : ∀ (k i M A X : Nat) (H : Nat → Rw) (N : Nat → Nat) (σ : Sg) (w : Rw) (q : Nat), A ≤ 24 → X < 24 → CA σ A X H N → Rp σ 4 w n → Wf w n t q → i + k = m → k < M → ∃ σ', fX_steps_L43 M (nI m) (nI i) σ = some (zPs n k w 1, σ') ∧ Rp σ' 4 (zPs n k w) n ∧ CA σ' (hsA k A) (hsX k X) (hsH n k A H w) (hsN n k A N) ∧ ∀ y, y < 4 ∨ (10 ≤ y ∧ y < 18) ∨ y = 19 ∨ 164 ≤ y → σ' y = σ y := by
  intro k
  induction k with
  | zero =>
    intro i M A X H N σ w q hA hX hC hr hf hi hM
    obtain ⟨M, rfl⟩ : ∃ M', M = M' + 1 := ⟨M - 1, by omega⟩
    refine ⟨σ, ?_, hr, hC, fun _ _ => rfl⟩
    show fX_steps_b43 (fX_steps_L43 M) _ _ σ = _
    unfold fX_steps_b43
    rw [if_pos (nI_le (by omega) (by omega)), hr.1.1.2.2.1]
    rfl
  | succ k ih =>
    intro i M A X H N σ w q hA hX hC hr hf hi hM
    obtain ⟨M, rfl⟩ : ∃ M', M = M' + 1 := ⟨M - 1, by omega⟩
    obtain ⟨σ1, e1, c1, f1⟩ := A_keep hA hX hC hf.1 hr
    have hr1 : Rp σ1 4 w n := hr.cong (fun k q1 q2 => f1 k (by omega) (by omega))
    obtain ⟨σ2, e2, hr2, f2⟩ := H_adv hr1 hf
    obtain ⟨q', hf'⟩ := zPass_wf hf
    have c2 : CA σ2 (pA A) ((X + 1) % 24) (pH A H w) (pH A N n) := c1.cong (f2 18 (by omega)) (fun k q1 q2 => f2 k (by omega))
    obtain ⟨σ3, e3, hr3, c3, f3⟩ := ih (i + 1) M (pA A) ((X + 1) % 24) _ _ σ2 (zPass n w) q' (pA_le A) (Nat.mod_lt _ (by omega)) c2 hr2 hf' (by omega) (by omega)
    refine ⟨σ3, ?_, hr3, c3, fun y hy => ?_⟩
    · show fX_steps_b43 (fX_steps_L43 M) _ _ σ = _
      unfold fX_steps_b43
      rw [if_neg (nI_ge (by omega) (by omega)), e1, ob_e, e2, ob_e, nI_1, e3]
      rfl
    · rw [f3 y hy, f2 y (by omega), f1 y (by omega) (by omega)]
theorem M_steps_L {n t m : Nat} (hm : m < 2000) : ∀ (k i M A : Nat) (H : Nat → Rw) (σ : Sg) (w : Rw) (q : Nat), A ≤ 24 → MA σ A H → Mp σ 206 0 w → Wf w n t q → i + k = m → k < M → ∃ σ', fM_steps_L42 M (nI m) (nI i) σ = some (zPs n k w 1, σ') ∧ Mp σ' 206 0 (zPs n k w) ∧ MA σ' (hsA k A) (hsH n k A H w) ∧ (∀ y, y ≠ 200 → y ≠ 206 → y ≠ 209 → σ' y = σ y) ∧ ∀ j, j ≠ 17 → σ' 200 j = σ 200 j := by
  intro k
  induction k with
  | zero =>
    intro i M A H σ w q hA hC hr hf hi hM
    obtain ⟨M, rfl⟩ : ∃ M', M = M' + 1 := ⟨M - 1, by omega⟩
    refine ⟨σ, ?_, hr, hC, fun _ _ _ _ => rfl, fun _ _ => rfl⟩
    show fM_steps_b42 (fM_steps_L42 M) _ _ σ = _
    unfold fM_steps_b42
    rw [if_pos (nI_le (by omega) (by omega)), hr.at 1 (by omega)]
    rfl
  | succ k ih =>
    intro i M A H σ w q hA hC hr hf hi hM
    obtain ⟨M, rfl⟩ : ∃ M', M = M' + 1 := ⟨M - 1, by omega⟩
    obtain ⟨f, e1, c1⟩ := M_notes hA hC hr
    have hr1 : Mp (wr (zsc σ 209 f) 200 17 (nI (pA A))) 206 0 w := hr.cong (by rw [wr_ne (by omega), zsc_n (by omega)])
    obtain ⟨g, e2, hr2⟩ := M_pass hr1 hf
    obtain ⟨q', hf'⟩ := zPass_wf hf
    have c2 := c1.cong (σ' := zsc (wr (zsc σ 209 f) 200 17 (nI (pA A))) 206 g) (by rw [zsc_n (by omega)]) (by rw [zsc_n (by omega)])
    obtain ⟨σ3, e3, hr3, c3, f3, f4⟩ := ih (i + 1) M (pA A) _ _ (zPass n w) q' (pA_le A) c2 (fun j hj => by rw [zsc_s, Nat.zero_add, hr2 j hj]) hf' (by omega) (by omega)
    refine ⟨σ3, ?_, hr3, c3, fun y y1 y2 y3 => ?_, fun j hj => ?_⟩
    · show fM_steps_b42 (fM_steps_L42 M) _ _ σ = _
      unfold fM_steps_b42
      rw [if_neg (nI_ge (by omega) (by omega)), e1, ob_e, e2, ob_e, nI_1, e3]
      rfl
    · rw [f3 y y1 y2 y3, zsc_n y2, wr_ne y1, zsc_n y3]
    · rw [f4 j hj, zsc_n (by omega), wr_no hj, zsc_n (by omega)]
/-- house and acts changed, the rest stays -/
theorem Inv.acts {σ σ' : Sg} (h : Inv σ) (e : ∀ k, k < 4 ∨ (16 ≤ k ∧ k < 18) ∨ k = 19 ∨ 164 ≤ k → k ≠ 200 → k ≠ 206 → k ≠ 208 → k ≠ 209 → σ' k = σ k) (e2 : ∀ j, j ≠ 17 → σ' 200 j = σ 200 j) (hI : ∃ w n t r, Ih σ' w n t r) (hA : Iact σ') : Inv σ' := by
  obtain ⟨-, h2, h3, h4, h5, h6, -⟩ := h
  refine ⟨hI, h2.cong ?_ ?_ ?_ ?_, h3.cong ?_ ?_ ?_ ?_, h4.cong ?_ ?_ ?_ ?_, h5.cong ?_ ?_ ?_ ?_, h6.cong ?_ ?_ ?_ ?_ ?_, hA⟩
  all_goals first
    | (intro k q1 q2; exact e k (by omega) (by omega) (by omega) (by omega) (by omega))
    | exact e _ (by omega) (by omega) (by omega) (by omega) (by omega)
    | exact e2 _ (by omega)
    | exact congrFun (e _ (by omega) (by omega) (by omega) (by omega) (by omega)) _
theorem T_steps {σ : Sg} (h : Inv σ) (x : Int32) : ∃ v σ1 σ2, fX_steps x σ = some (v, σ1) ∧ fM_steps x σ1 = some (v, σ2) ∧ Inv σ2 := by
  have hI := h
  obtain ⟨⟨w, n, t, r, hh⟩, -, -, -, -, -, hA⟩ := hI
  obtain ⟨A, X, H, N, hA24, hX24, hA0, hC, hM, hW⟩ := hA.hist
  obtain ⟨hf, hr, hm, h9⟩ := id hh
  rcases housed hh with ⟨a, b, c⟩ | ⟨a, b, c⟩
  · refine ⟨-1000002, σ, σ, ?_, ?_, h⟩
    · unfold fX_steps; rw [b, i00]
    · unfold fM_steps; rw [c σ (hm.at 0 (by omega)), ob_e, i00]
  · rcases incase x 1 24 with ⟨c1, c2, hB⟩ | ⟨-, hB⟩
    · by_cases c3 : w 2 + x ≤ 999
      · obtain ⟨m, hm24, rfl⟩ := zrng (n := 24) (by omega) (fun z => c1 (Int32.lt_trans z (by decide))) c2
        obtain ⟨σ1, e1, r1, g1, f1⟩ := X_steps_L (n := n) (t := t) (show m < 2000 by omega) m 0 2000 A X H N σ w r hA24 hX24 hC hr hf (by omega) (by omega)
        have hm1 : Mp σ1 206 0 w := hm.cong (f1 _ (by omega))
        have hM1 : MA σ1 A H := hM.cong (by rw [f1 _ (by omega)]) (f1 _ (by omega))
        obtain ⟨σ2, e2, r2, g2, f2, f3⟩ := M_steps_L (n := n) (t := t) (show m < 2000 by omega) m 0 2000 A H σ1 w r hA24 hM1 hm1 hf (by omega) (by omega)
        refine ⟨zPs n m w 1, σ1, σ2, ?_, ?_, ?_⟩
        · unfold fX_steps
          rw [b, i10, (hB _).1, ob_e, i10, hr.1.1.2.2.2.2.2, if_pos c3]
          exact e1
        · unfold fM_steps
          rw [c σ1 (hm1.at 0 (by omega)), ob_e, i10, (hB _).2, ob_e, i10, hm1.at 2 (by omega), if_pos c3]
          exact e2
        · obtain ⟨q', hf'⟩ := zPs_wf m hf
          have k0 : ∀ k, k ≠ 200 → k ≠ 206 → k ≠ 209 → σ2 k = σ1 k := f2
          refine h.acts (fun k q1 q2 q3 q4 q5 => by rw [f2 k q2 q3 q5, f1 k (by omega)]) (fun j q => by rw [f3 j q, f1 _ (by omega)]) ⟨zPs n m w, n, t, q', hf', r1.cong (fun k q1 q2 => f2 k (by omega) (by omega) (by omega)), r2, by rw [f2 _ (by omega) (by omega) (by omega), f1 _ (by omega)]; exact h9⟩ ?_
          refine Iact.mk (hsA_le m A hA24) (hsX_lt m X hX24) (fun z => ?_) (g1.cong (f2 _ (by omega) (by omega) (by omega)) (fun k q1 q2 => f2 k (by omega) (by omega) (by omega))) g2 (hs_HW a m A H N w r hA24 hW hf)
          rw [f2 _ (by omega) (by omega) (by omega), f1 _ (by omega), b] at z
          exact absurd z (by decide)
      · refine ⟨-1000003, σ, σ, ?_, ?_, h⟩
        · unfold fX_steps
          rw [b, i10, (hB _).1, ob_e, i10, hr.1.1.2.2.2.2.2, if_neg c3]
        · unfold fM_steps
          rw [c σ (hm.at 0 (by omega)), ob_e, i10, (hB _).2, ob_e, i10, hm.at 2 (by omega), if_neg c3]
    · refine ⟨-1000001, σ, σ, ?_, ?_, h⟩
      · unfold fX_steps; rw [b, i10, (hB _).1, ob_e, i00]
      · unfold fM_steps; rw [c σ (hm.at 0 (by omega)), ob_e, i10, (hB _).2, ob_e, i00]
