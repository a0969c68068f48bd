/-- is one of kind k taken as kk -/
def zIs (k kk : Nat) : Bool := kk == 0 || (kk == k || ((kk == 1 && decide (k < 4)) || (kk == 4 && k == 5)))
theorem io1 {kk : Nat} (h : kk < 6) (σ : Sg) : fX_isOne_165 (nI kk) σ = some (if zIs 1 kk = true then 1 else 0) := by
  have k : ∀ kk, kk < 6 → fX_isOne_165 (nI kk) (fun _ _ => 0) = some (if zIs 1 kk = true then 1 else 0) := by decide +kernel
  exact (show fX_isOne_165 (nI kk) σ = fX_isOne_165 (nI kk) (fun _ _ => 0) from rfl).trans (k kk h)
theorem io2 {kk : Nat} (h : kk < 6) (σ : Sg) : fX_isOne_166 (nI kk) σ = some (if zIs 2 kk = true then 1 else 0) := by
  have k : ∀ kk, kk < 6 → fX_isOne_166 (nI kk) (fun _ _ => 0) = some (if zIs 2 kk = true then 1 else 0) := by decide +kernel
  exact (show fX_isOne_166 (nI kk) σ = fX_isOne_166 (nI kk) (fun _ _ => 0) from rfl).trans (k kk h)
theorem io3 {kk : Nat} (h : kk < 6) (σ : Sg) : fX_isOne_167 (nI kk) σ = some (if zIs 3 kk = true then 1 else 0) := by
  have k : ∀ kk, kk < 6 → fX_isOne_167 (nI kk) (fun _ _ => 0) = some (if zIs 3 kk = true then 1 else 0) := by decide +kernel
  exact (show fX_isOne_167 (nI kk) σ = fX_isOne_167 (nI kk) (fun _ _ => 0) from rfl).trans (k kk h)
theorem io4 {kk : Nat} (h : kk < 6) (σ : Sg) : fX_isOne_168 (nI kk) σ = some (if zIs 4 kk = true then 1 else 0) := by
  have k : ∀ kk, kk < 6 → fX_isOne_168 (nI kk) (fun _ _ => 0) = some (if zIs 4 kk = true then 1 else 0) := by decide +kernel
  exact (show fX_isOne_168 (nI kk) σ = fX_isOne_168 (nI kk) (fun _ _ => 0) from rfl).trans (k kk h)
theorem io5 {kk : Nat} (h : kk < 6) (σ : Sg) : fX_isOne_169 (nI kk) σ = some (if zIs 5 kk = true then 1 else 0) := by
  have k : ∀ kk, kk < 6 → fX_isOne_169 (nI kk) (fun _ _ => 0) = some (if zIs 5 kk = true then 1 else 0) := by decide +kernel
  exact (show fX_isOne_169 (nI kk) σ = fX_isOne_169 (nI kk) (fun _ _ => 0) from rfl).trans (k kk h)
theorem X_kindOf {σ : Sg} {w : Rw} {n p k : Nat} (hr : R0 σ 4 w n) (hn : n ≤ 6) (hp : p < n) (hk1 : 1 ≤ k) (hk5 : k ≤ 5) (hk : w (5 + 6 * p) = nI k) : fX_kindOf (nI p) σ = some (164 + k) := by
  obtain ⟨k, rfl⟩ : ∃ j, k = j + 1 := ⟨k - 1, by omega⟩
  have b0 : σ (4 + 1) p = w (5 + 6 * p) := (hr.2 p hp).1
  unfold fX_kindOf
  rw [zi6 (by omega), if_pos rfl, zxp (by omega), b0, hk, nI_pred, zin (by omega) (by omega), if_pos rfl, zix (by omega)]
  congr 1
  omega
theorem M_kindIn {σ : Sg} {w : Rw} {p : Nat} (hm : Mp σ 206 0 w) (hp : p < 6) : fM_kindIn (nI p) σ = some (w (5 + 6 * p)) := by
  unfold fM_kindIn
  rw [zb0 hp, if_pos rfl, zx0 hp, hm.at _ (by omega)]
theorem X_as_k {σ : Sg} {k kk : Nat} (hk1 : 1 ≤ k) (hk5 : k ≤ 5) (hkk : kk < 6) (x : Int32) (h1 : fX_isPerson x σ = some 1) (h2 : fX_isWithin (nI kk) 0 5 σ = some 1) (h3 : fX_kindOf x σ = some (164 + k)) : fX_as x (nI kk) σ = if zIs k kk = true then fX_unhindered x σ else fX_found 3 σ := by
  unfold fX_as
  rw [h1, ob_e, i10, h2, ob_e, i10, h3, ob_e]
  obtain rfl | rfl | rfl | rfl | rfl : k = 1 ∨ k = 2 ∨ k = 3 ∨ k = 4 ∨ k = 5 := by omega
  · rw [if_pos (by omega), io1 hkk, ob_e, ob_id, ob_id]
    by_cases c : zIs 1 kk = true
    · rw [if_pos c, if_pos c, i10]
    · rw [if_neg c, if_neg c, i00]
  · rw [if_neg (by omega), if_pos (by omega), io2 hkk, ob_e, ob_id, ob_id]
    by_cases c : zIs 2 kk = true
    · rw [if_pos c, if_pos c, i10]
    · rw [if_neg c, if_neg c, i00]
  · rw [if_neg (by omega), if_neg (by omega), if_pos (by omega), io3 hkk, ob_e, ob_id, ob_id]
    by_cases c : zIs 3 kk = true
    · rw [if_pos c, if_pos c, i10]
    · rw [if_neg c, if_neg c, i00]
  · rw [if_neg (by omega), if_neg (by omega), if_neg (by omega), if_pos (by omega), io4 hkk, ob_e, ob_id, ob_id]
    by_cases c : zIs 4 kk = true
    · rw [if_pos c, if_pos c, i10]
    · rw [if_neg c, if_neg c, i00]
  · rw [if_neg (by omega), if_neg (by omega), if_neg (by omega), if_neg (by omega), io5 hkk, ob_e, ob_id, ob_id]
    by_cases c : zIs 5 kk = true
    · rw [if_pos c, if_pos c, i10]
    · rw [if_neg c, if_neg c, i00]
theorem M_as_k {σ : Sg} {k kk : Nat} (hk1 : 1 ≤ k) (hk5 : k ≤ 5) (hkk : kk < 6) (x : Int32) (h1 : fM_isPerson x σ = some 1) (h2 : fM_in (nI kk) 0 5 σ = some 1) (h3 : fM_kindIn x σ = some (nI k)) : fM_as x (nI kk) σ = if zIs k kk = true then fM_well x σ else fM_found 3 σ := by
  unfold fM_as fM_as_B55 fM_as_B45 fM_as_B59 fM_as_B55 fM_as_B60
  rw [h1, ob_e, i10, h2, ob_e, i10, h3, ob_e, ob_id, ob_id, i10, i00]
  have q0 : (nI kk = 0) ↔ kk = 0 := nI_eq (b := 0) (by omega) (by omega)
  have q1 : (nI kk = 1) ↔ kk = 1 := nI_eq (b := 1) (by omega) (by omega)
  have q2 : (nI kk = nI k) ↔ kk = k := nI_eq (by omega) (by omega)
  have q3 : (nI k < 4) ↔ k < 4 := nI_ltI (b := 4) (by omega) (by omega)
  have q4 : (nI kk = 4) ↔ kk = 4 := nI_eq (b := 4) (by omega) (by omega)
  have q5 : (nI k = 5) ↔ k = 5 := nI_eq (b := 5) (by omega) (by omega)
  simp only [q0, q1, q2, q3, q4, q5, zIs, Bool.or_eq_true, Bool.and_eq_true, beq_iff_eq, decide_eq_true_eq]
  by_cases c0 : kk = 0
  · rw [if_pos c0, if_pos (Or.inl c0)]
  · rw [if_neg c0]
    by_cases c2 : kk = k
    · rw [if_pos c2, if_pos (Or.inr (Or.inl c2))]
    · rw [if_neg c2]
      by_cases c1 : kk = 1
      · rw [if_pos c1]
        by_cases c3 : k < 4
        · rw [if_pos c3, if_pos (Or.inr (Or.inr (Or.inl ⟨c1, c3⟩)))]
        · rw [if_neg c3, if_neg (by omega), if_neg (by omega)]
      · rw [if_neg c1]
        by_cases c4 : kk = 4
        · rw [if_pos c4]
          by_cases c5 : k = 5
          · rw [if_pos c5, if_pos (Or.inr (Or.inr (Or.inr ⟨c4, c5⟩)))]
          · rw [if_neg c5, if_neg (by omega)]
        · rw [if_neg c4, if_neg (by omega)]
theorem T_as {σ : Sg} (h : Inv σ) (x y : Int32) : ∃ v σ1 σ2, fX_as x y σ = some (v, σ1) ∧ fM_as x y σ1 = some (v, σ2) ∧ Inv σ2 := by
  have hI := h
  obtain ⟨⟨w, n, t, r, hf, hr, hm, h9⟩, -⟩ := hI
  have hn := hf.1
  have s5 : σ 4 5 = nI n := by rw [hr.1.1.1]; exact hf.2.2.2.2.1
  have m4 : σ 206 4 = nI n := by rw [hm.at 4 (by omega)]; exact hf.2.2.2.2.1
  rcases percase hn x with ⟨p, hp, rfl, pA, pB⟩ | ⟨pA, pB⟩
  · rcases incase y 0 5 with ⟨c1, c2, hB⟩ | ⟨-, hB⟩
    · obtain ⟨kk, hkk, rfl⟩ := zrng (n := 5) (by omega) c1 c2
      obtain ⟨k, hk1, hk5, hk⟩ := hf.2.2.2.2.2.2.2.2 p hp
      have e1 := X_as_k hk1 hk5 (by omega) (nI p) (pA σ s5) (hB σ).1 (X_kindOf hr.1 hn hp hk1 hk5 hk)
      have e2 : ∀ v, fM_as (nI p) (nI kk) (wr σ 0 11 v) = if zIs k kk = true then fM_well (nI p) (wr σ 0 11 v) else fM_found 3 (wr σ 0 11 v) := by
        intro v
        have hm' : Mp (wr σ 0 11 v) 206 0 w := hm.cong (wr_ne (by omega))
        exact M_as_k hk1 hk5 (by omega) (nI p) (pB _ (by rw [wr_ne (by omega)]; exact m4)) (hB _).2 (by rw [M_kindIn hm' (by omega), hk])
      by_cases c : zIs k kk = true
      · rw [if_pos c] at e1
        exact ⟨nI p, wr σ 0 11 0, wr (wr σ 0 11 0) 200 4 0, by rw [e1, X_unh_eq], by rw [e2, if_pos c, M_well_eq], h.stat 0⟩
      · rw [if_neg c] at e1
        exact ⟨-1000010 - 3, wr σ 0 11 3, wr (wr σ 0 11 3) 200 4 3, by rw [e1, X_found_eq], by rw [e2, if_neg c, M_found_eq], h.stat 3⟩
    · exact ⟨-1000001, σ, σ, by simp only [fX_as, pA σ s5, (hB _).1, ob_e, i10, ↓reduceIte], by simp only [fM_as, pB σ m4, (hB _).2, ob_e, i10, ↓reduceIte], h⟩
  · exact ⟨-1000001, σ, σ, by simp only [fX_as, pA σ s5, ob_e, ↓reduceIte], by simp only [fM_as, pB σ m4, ob_e, ↓reduceIte], h⟩
/-! asks -/
def TX (σ : Sg) (l : List Int32) : Prop := σ 170 1 = nI l.length ∧ ∀ j, j < l.length → σ 171 j = l.getD j 0
def TM (σ : Sg) (l : List Int32) : Prop := σ 200 21 = nI l.length ∧ ∀ j, j < l.length → σ 212 j = l.getD j 0
def FX (σ σ' : Sg) : Prop := ∀ k, k ≠ 170 → k ≠ 171 → σ' k = σ k
def FM (σ σ' : Sg) : Prop := (∀ k, k ≠ 200 → k ≠ 212 → σ' k = σ k) ∧ ∀ j, j ≠ 21 → σ' 200 j = σ 200 j
theorem C_leave {σ : Sg} {l : List Int32} (b : Int32) (h : TX σ l) (hl : l.length < 16) : ∃ σ', fC_leave b σ = some σ' ∧ TX σ' (l ++ [b]) ∧ FX σ σ' := by
  obtain ⟨h1, h2⟩ := h
  unfold fC_leave
  rw [h1, if_neg (show ¬ (16 : Int32) ≤ nI l.length from nI_ge (b := 16) hl (by omega)), zin hl (by omega), if_pos rfl, zix (by omega), ltc_e, ltc_e, wr_ne (by omega), h1, nI_1]
  refine ⟨_, rfl, ⟨?_, fun j hj => ?_⟩, fun k q1 q2 => by rw [wr_ne q1, wr_ne q2]⟩
  · rw [wr_at, List.length_append]; rfl
  · rw [wr_ne (by omega)]
    rw [List.length_append] at hj
    simp only [List.length_cons, List.length_nil] at hj
    by_cases c : j = l.length
    · rw [c, wr_at]; simp
    · rw [wr_no c, h2 j (by omega)]
      simp [List.getD, List.getElem?_append_left (show j < l.length by omega)]
theorem M_begins {σ : Sg} {l : List Int32} (b : Int32) (h : TM σ l) (hl : l.length < 16) : ∃ σ', fM_begins b σ = some σ' ∧ TM σ' (l ++ [b]) ∧ FM σ σ' := by
  obtain ⟨h1, h2⟩ := h
  unfold fM_begins
  rw [h1, if_neg (show ¬ (16 : Int32) ≤ nI l.length from nI_ge (b := 16) hl (by omega)), zin hl (by omega), if_pos rfl, zix (by omega), ltc_e, ltc_e, wr_ne (by omega), h1, nI_1]
  refine ⟨_, rfl, ⟨?_, fun j hj => ?_⟩, fun k q1 q2 => by rw [wr_ne q1, wr_ne q2], fun j q => by rw [wr_no q, wr_ne (by omega)]⟩
  · rw [wr_at, List.length_append]; rfl
  · rw [wr_ne (by omega)]
    rw [List.length_append] at hj
    simp only [List.length_cons, List.length_nil] at hj
    by_cases c : j = l.length
    · rw [c, wr_at]; simp
    · rw [wr_no c, h2 j (by omega)]
      simp [List.getD, List.getElem?_append_left (show j < l.length by omega)]
theorem FX.tr {a b c : Sg} (h1 : FX a b) (h2 : FX b c) : FX a c := fun k q1 q2 => (h2 k q1 q2).trans (h1 k q1 q2)
theorem FM.tr {a b c : Sg} (h1 : FM a b) (h2 : FM b c) : FM a c := ⟨fun k q1 q2 => (h2.1 k q1 q2).trans (h1.1 k q1 q2), fun j q => (h2.2 j q).trans (h1.2 j q)⟩
theorem FX.r0 {σ σ' : Sg} {w : Rw} {n : Nat} (h : FX σ σ') (hr : R0 σ 4 w n) : R0 σ' 4 w n := hr.cong (fun k q1 q2 => h k (by omega) (by omega))
theorem FM.mp {σ σ' : Sg} {w : Rw} (h : FM σ σ') (hm : Mp σ 206 0 w) : Mp σ' 206 0 w := hm.cong (h.1 _ (by omega) (by omega))
theorem A1_0 {σ : Sg} {w : Rw} {n t q p : Nat} (hr : R0 σ 4 w n) (hf : Wf w n t q) (hp : p < n) (h : TX σ []) : ∃ σ', fPC_size_165 (nI p) σ = some (w (7 + 6 * p) + (nI p + zEn w p n), σ') ∧ TX σ' ([] ++ [11] ++ [10] ++ [21] ++ [20]) ∧ FX σ σ' := by
  have hn := hf.1
  obtain ⟨s1, e1, t1, a1⟩ := C_leave 11 h (by simp)
  obtain ⟨s2, e2, t2, a2⟩ := C_leave 10 t1 (by simp)
  obtain ⟨s3, e3, t3, a3⟩ := C_leave 21 t2 (by simp)
  obtain ⟨s4, e4, t4, a4⟩ := C_leave 20 t3 (by simp)
  have wa : s2 (4 + 3) p = w (7 + 6 * p) := ((a1.tr a2).r0 hr).2 p hp |>.2.2.1
  have en := H_envy ((((a1.tr a2).tr a3).tr a4).r0 hr) hf hp
  refine ⟨s4, ?_, t4, (((a1.tr a2).tr a3).tr a4)⟩
  simp only [fPC_size_165, fP_size_165, fPC_mark_165, fP_mark_165, e1, e2, e3, e4, ob_e, zi6 (show p < 6 by omega), zxp (show p < 6 by omega), ↓reduceIte, wa, en]
theorem A1_1 {σ : Sg} {w : Rw} {n t q p : Nat} (hr : R0 σ 4 w n) (hf : Wf w n t q) (hp : p < n) (h : TX σ []) : ∃ σ', fPC_mark_165 (nI p) σ = some (nI p + zEn w p n, σ') ∧ TX σ' ([] ++ [21] ++ [20]) ∧ FX σ σ' := by
  have hn := hf.1
  obtain ⟨s1, e1, t1, a1⟩ := C_leave 21 h (by simp)
  obtain ⟨s2, e2, t2, a2⟩ := C_leave 20 t1 (by simp)
  have en := H_envy ((a1.tr a2).r0 hr) hf hp
  refine ⟨s2, ?_, t2, (a1.tr a2)⟩
  simp only [fPC_mark_165, fP_mark_165, e1, e2, ob_e, zi6 (show p < 6 by omega), zxp (show p < 6 by omega), ↓reduceIte, en]
theorem A2_0 {σ : Sg} {w : Rw} {n t q p : Nat} (hr : R0 σ 4 w n) (hf : Wf w n t q) (hp : p < n) (h : TX σ []) : ∃ σ', fPV_size_166 (nI p) σ = some (0 - (w (7 + 6 * p) + (nI p + zEn w p n) * 2), σ') ∧ TX σ' ([] ++ [12] ++ [11] ++ [10] ++ [24] ++ [21] ++ [20]) ∧ FX σ σ' := by
  have hn := hf.1
  obtain ⟨s1, e1, t1, a1⟩ := C_leave 12 h (by simp)
  obtain ⟨s2, e2, t2, a2⟩ := C_leave 11 t1 (by simp)
  obtain ⟨s3, e3, t3, a3⟩ := C_leave 10 t2 (by simp)
  obtain ⟨s4, e4, t4, a4⟩ := C_leave 24 t3 (by simp)
  obtain ⟨s5, e5, t5, a5⟩ := C_leave 21 t4 (by simp)
  obtain ⟨s6, e6, t6, a6⟩ := C_leave 20 t5 (by simp)
  have wa : s3 (4 + 3) p = w (7 + 6 * p) := (((a1.tr a2).tr a3).r0 hr).2 p hp |>.2.2.1
  have en := H_envy ((((((a1.tr a2).tr a3).tr a4).tr a5).tr a6).r0 hr) hf hp
  refine ⟨s6, ?_, t6, (((((a1.tr a2).tr a3).tr a4).tr a5).tr a6)⟩
  simp only [fPV_size_166, fPC_size_166, fP_size_166, fPV_mark_166, fPC_mark_166, fP_mark_166, e1, e2, e3, e4, e5, e6, ob_e, zi6 (show p < 6 by omega), zxp (show p < 6 by omega), ↓reduceIte, wa, en]
theorem A2_1 {σ : Sg} {w : Rw} {n t q p : Nat} (hr : R0 σ 4 w n) (hf : Wf w n t q) (hp : p < n) (h : TX σ []) : ∃ σ', fPV_mark_166 (nI p) σ = some ((nI p + zEn w p n) * 2, σ') ∧ TX σ' ([] ++ [24] ++ [21] ++ [20]) ∧ FX σ σ' := by
  have hn := hf.1
  obtain ⟨s1, e1, t1, a1⟩ := C_leave 24 h (by simp)
  obtain ⟨s2, e2, t2, a2⟩ := C_leave 21 t1 (by simp)
  obtain ⟨s3, e3, t3, a3⟩ := C_leave 20 t2 (by simp)
  have en := H_envy (((a1.tr a2).tr a3).r0 hr) hf hp
  refine ⟨s3, ?_, t3, ((a1.tr a2).tr a3)⟩
  simp only [fPV_mark_166, fPC_mark_166, fP_mark_166, e1, e2, e3, ob_e, zi6 (show p < 6 by omega), zxp (show p < 6 by omega), ↓reduceIte, en]
theorem A3_0 {σ : Sg} {w : Rw} {n t q p : Nat} (hr : R0 σ 4 w n) (hf : Wf w n t q) (hp : p < n) (h : TX σ []) : ∃ σ', fPC_size_167 (nI p) σ = some (w (7 + 6 * p) + ((nI p + zEn w p n) - 1000), σ') ∧ TX σ' ([] ++ [11] ++ [10] ++ [22] ++ [21] ++ [20]) ∧ FX σ σ' := by
  have hn := hf.1
  obtain ⟨s1, e1, t1, a1⟩ := C_leave 11 h (by simp)
  obtain ⟨s2, e2, t2, a2⟩ := C_leave 10 t1 (by simp)
  obtain ⟨s3, e3, t3, a3⟩ := C_leave 22 t2 (by simp)
  obtain ⟨s4, e4, t4, a4⟩ := C_leave 21 t3 (by simp)
  obtain ⟨s5, e5, t5, a5⟩ := C_leave 20 t4 (by simp)
  have wa : s2 (4 + 3) p = w (7 + 6 * p) := ((a1.tr a2).r0 hr).2 p hp |>.2.2.1
  have en := H_envy (((((a1.tr a2).tr a3).tr a4).tr a5).r0 hr) hf hp
  refine ⟨s5, ?_, t5, ((((a1.tr a2).tr a3).tr a4).tr a5)⟩
  simp only [fPC_size_167, fP_size_167, fPM_mark_167, fPC_mark_167, fP_mark_167, e1, e2, e3, e4, e5, ob_e, zi6 (show p < 6 by omega), zxp (show p < 6 by omega), ↓reduceIte, wa, en]
theorem A3_1 {σ : Sg} {w : Rw} {n t q p : Nat} (hr : R0 σ 4 w n) (hf : Wf w n t q) (hp : p < n) (h : TX σ []) : ∃ σ', fPM_mark_167 (nI p) σ = some ((nI p + zEn w p n) - 1000, σ') ∧ TX σ' ([] ++ [22] ++ [21] ++ [20]) ∧ FX σ σ' := by
  have hn := hf.1
  obtain ⟨s1, e1, t1, a1⟩ := C_leave 22 h (by simp)
  obtain ⟨s2, e2, t2, a2⟩ := C_leave 21 t1 (by simp)
  obtain ⟨s3, e3, t3, a3⟩ := C_leave 20 t2 (by simp)
  have en := H_envy (((a1.tr a2).tr a3).r0 hr) hf hp
  refine ⟨s3, ?_, t3, ((a1.tr a2).tr a3)⟩
  simp only [fPM_mark_167, fPC_mark_167, fP_mark_167, e1, e2, e3, ob_e, zi6 (show p < 6 by omega), zxp (show p < 6 by omega), ↓reduceIte, en]
theorem A4_0 {σ : Sg} {w : Rw} {n t q p : Nat} (hr : R0 σ 4 w n) (hf : Wf w n t q) (hp : p < n) (h : TX σ []) : ∃ σ', fPF_size_168 (nI p) σ = some (w (7 + 6 * p) - 100, σ') ∧ TX σ' ([] ++ [13] ++ [10]) ∧ FX σ σ' := by
  have hn := hf.1
  obtain ⟨s1, e1, t1, a1⟩ := C_leave 13 h (by simp)
  obtain ⟨s2, e2, t2, a2⟩ := C_leave 10 t1 (by simp)
  have wa : s2 (4 + 3) p = w (7 + 6 * p) := ((a1.tr a2).r0 hr).2 p hp |>.2.2.1
  refine ⟨s2, ?_, t2, (a1.tr a2)⟩
  simp only [fPF_size_168, fP_size_168, e1, e2, ob_e, zi6 (show p < 6 by omega), zxp (show p < 6 by omega), ↓reduceIte, wa]
theorem A4_1 {σ : Sg} {w : Rw} {n t q p : Nat} (hr : R0 σ 4 w n) (hf : Wf w n t q) (hp : p < n) (h : TX σ []) : ∃ σ', fPF_mark_168 (nI p) σ = some (nI p - (w (7 + 6 * p) - 100), σ') ∧ TX σ' ([] ++ [23] ++ [20] ++ [13] ++ [10]) ∧ FX σ σ' := by
  have hn := hf.1
  obtain ⟨s1, e1, t1, a1⟩ := C_leave 23 h (by simp)
  obtain ⟨s2, e2, t2, a2⟩ := C_leave 20 t1 (by simp)
  obtain ⟨s3, e3, t3, a3⟩ := C_leave 13 t2 (by simp)
  obtain ⟨s4, e4, t4, a4⟩ := C_leave 10 t3 (by simp)
  have wa : s4 (4 + 3) p = w (7 + 6 * p) := ((((a1.tr a2).tr a3).tr a4).r0 hr).2 p hp |>.2.2.1
  refine ⟨s4, ?_, t4, (((a1.tr a2).tr a3).tr a4)⟩
  simp only [fPF_mark_168, fP_mark_168, fPF_size_168, fP_size_168, e1, e2, e3, e4, ob_e, zi6 (show p < 6 by omega), zxp (show p < 6 by omega), ↓reduceIte, wa]
theorem A5_0 {σ : Sg} {w : Rw} {n t q p : Nat} (hr : R0 σ 4 w n) (hf : Wf w n t q) (hp : p < n) (h : TX σ []) : ∃ σ', fPE_size_169 (nI p) σ = some ((w (7 + 6 * p) - 100) * 2, σ') ∧ TX σ' ([] ++ [14] ++ [13] ++ [10]) ∧ FX σ σ' := by
  have hn := hf.1
  obtain ⟨s1, e1, t1, a1⟩ := C_leave 14 h (by simp)
  obtain ⟨s2, e2, t2, a2⟩ := C_leave 13 t1 (by simp)
  obtain ⟨s3, e3, t3, a3⟩ := C_leave 10 t2 (by simp)
  have wa : s3 (4 + 3) p = w (7 + 6 * p) := (((a1.tr a2).tr a3).r0 hr).2 p hp |>.2.2.1
  refine ⟨s3, ?_, t3, ((a1.tr a2).tr a3)⟩
  simp only [fPE_size_169, fPF_size_169, fP_size_169, e1, e2, e3, ob_e, zi6 (show p < 6 by omega), zxp (show p < 6 by omega), ↓reduceIte, wa]
theorem A5_1 {σ : Sg} {w : Rw} {n t q p : Nat} (hr : R0 σ 4 w n) (hf : Wf w n t q) (hp : p < n) (h : TX σ []) : ∃ σ', fPF_mark_169 (nI p) σ = some (nI p - (w (7 + 6 * p) - 100) * 2, σ') ∧ TX σ' ([] ++ [23] ++ [20] ++ [14] ++ [13] ++ [10]) ∧ FX σ σ' := by
  have hn := hf.1
  obtain ⟨s1, e1, t1, a1⟩ := C_leave 23 h (by simp)
  obtain ⟨s2, e2, t2, a2⟩ := C_leave 20 t1 (by simp)
  obtain ⟨s3, e3, t3, a3⟩ := C_leave 14 t2 (by simp)
  obtain ⟨s4, e4, t4, a4⟩ := C_leave 13 t3 (by simp)
  obtain ⟨s5, e5, t5, a5⟩ := C_leave 10 t4 (by simp)
  have wa : s5 (4 + 3) p = w (7 + 6 * p) := (((((a1.tr a2).tr a3).tr a4).tr a5).r0 hr).2 p hp |>.2.2.1
  refine ⟨s5, ?_, t5, ((((a1.tr a2).tr a3).tr a4).tr a5)⟩
  simp only [fPF_mark_169, fP_mark_169, fPE_size_169, fPF_size_169, fP_size_169, e1, e2, e3, e4, e5, ob_e, zi6 (show p < 6 by omega), zxp (show p < 6 by omega), ↓reduceIte, wa]
theorem B1_0 {σ : Sg} {w : Rw} {n p : Nat} (hm : Mp σ 206 0 w) (hn : n ≤ 6) (w4 : w 4 = nI n) (hp : p < n) (hk : w (5 + 6 * p) = nI 1) (h : TM σ []) : ∃ σ', fM_clerkSize (nI p) σ = some (w (7 + 6 * p) + (nI p + zEn w p n), σ') ∧ TM σ' ([] ++ [11] ++ [10] ++ [21] ++ [20]) ∧ FM σ σ' := by
  obtain ⟨s1, e1, t1, a1⟩ := M_begins 11 h (by simp)
  obtain ⟨s2, e2, t2, a2⟩ := M_begins 10 t1 (by simp)
  obtain ⟨s3, e3, t3, a3⟩ := M_begins 21 t2 (by simp)
  obtain ⟨s4, e4, t4, a4⟩ := M_begins 20 t3 (by simp)
  have wa : s2 206 (7 + 6 * p) = w (7 + 6 * p) := ((a1.tr a2).mp hm).at _ (by omega)
  have en := M_envy ((((a1.tr a2).tr a3).tr a4).mp hm) hn w4 (show p < 6 by omega)
  refine ⟨s4, ?_, t4, (((a1.tr a2).tr a3).tr a4)⟩
  simp only [fM_clerkSize, fM_clerkSize_B14, fM_clerkSize_B25, fM_clerkMark, fM_clerkMark_B27, e1, e2, e3, e4, ob_e, zb2 (show p < 6 by omega), zx2 (show p < 6 by omega), ↓reduceIte, i10, hk, show (nI 1 = 1) = True from eq_true rfl, show (nI 1 = 2) = False from eq_false (by decide), show (nI 1 = 3) = False from eq_false (by decide), show (nI 1 = 5) = False from eq_false (by decide), M_kindIn hm (show p < 6 by omega), M_kindIn (a1.mp hm) (show p < 6 by omega), M_kindIn ((a1.tr a2).mp hm) (show p < 6 by omega), M_kindIn (((a1.tr a2).tr a3).mp hm) (show p < 6 by omega), M_kindIn ((((a1.tr a2).tr a3).tr a4).mp hm) (show p < 6 by omega), wa, en]
theorem B1_1 {σ : Sg} {w : Rw} {n p : Nat} (hm : Mp σ 206 0 w) (hn : n ≤ 6) (w4 : w 4 = nI n) (hp : p < n) (hk : w (5 + 6 * p) = nI 1) (h : TM σ []) : ∃ σ', fM_clerkMark (nI p) σ = some (nI p + zEn w p n, σ') ∧ TM σ' ([] ++ [21] ++ [20]) ∧ FM σ σ' := by
  obtain ⟨s1, e1, t1, a1⟩ := M_begins 21 h (by simp)
  obtain ⟨s2, e2, t2, a2⟩ := M_begins 20 t1 (by simp)
  have en := M_envy ((a1.tr a2).mp hm) hn w4 (show p < 6 by omega)
  refine ⟨s2, ?_, t2, (a1.tr a2)⟩
  simp only [fM_clerkMark, fM_clerkMark_B27, e1, e2, ob_e, zb2 (show p < 6 by omega), zx2 (show p < 6 by omega), ↓reduceIte, i10, hk, show (nI 1 = 1) = True from eq_true rfl, show (nI 1 = 2) = False from eq_false (by decide), show (nI 1 = 3) = False from eq_false (by decide), show (nI 1 = 5) = False from eq_false (by decide), M_kindIn hm (show p < 6 by omega), M_kindIn (a1.mp hm) (show p < 6 by omega), M_kindIn ((a1.tr a2).mp hm) (show p < 6 by omega), en]
theorem B2_0 {σ : Sg} {w : Rw} {n p : Nat} (hm : Mp σ 206 0 w) (hn : n ≤ 6) (w4 : w 4 = nI n) (hp : p < n) (hk : w (5 + 6 * p) = nI 2) (h : TM σ []) : ∃ σ', fM_clerkSize (nI p) σ = some (-(w (7 + 6 * p) + 2 * (nI p + zEn w p n)), σ') ∧ TM σ' ([] ++ [12] ++ [11] ++ [10] ++ [24] ++ [21] ++ [20]) ∧ FM σ σ' := by
  obtain ⟨s1, e1, t1, a1⟩ := M_begins 12 h (by simp)
  obtain ⟨s2, e2, t2, a2⟩ := M_begins 11 t1 (by simp)
  obtain ⟨s3, e3, t3, a3⟩ := M_begins 10 t2 (by simp)
  obtain ⟨s4, e4, t4, a4⟩ := M_begins 24 t3 (by simp)
  obtain ⟨s5, e5, t5, a5⟩ := M_begins 21 t4 (by simp)
  obtain ⟨s6, e6, t6, a6⟩ := M_begins 20 t5 (by simp)
  have wa : s3 206 (7 + 6 * p) = w (7 + 6 * p) := (((a1.tr a2).tr a3).mp hm).at _ (by omega)
  have en := M_envy ((((((a1.tr a2).tr a3).tr a4).tr a5).tr a6).mp hm) hn w4 (show p < 6 by omega)
  refine ⟨s6, ?_, t6, (((((a1.tr a2).tr a3).tr a4).tr a5).tr a6)⟩
  simp only [fM_clerkSize, fM_clerkSize_B14, fM_clerkSize_B25, fM_clerkMark, fM_clerkMark_B24, fM_clerkMark_B27, e1, e2, e3, e4, e5, e6, ob_e, zb2 (show p < 6 by omega), zx2 (show p < 6 by omega), ↓reduceIte, i10, hk, show (nI 2 = 1) = False from eq_false (by decide), show (nI 2 = 2) = True from eq_true rfl, show (nI 2 = 3) = False from eq_false (by decide), show (nI 2 = 5) = False from eq_false (by decide), M_kindIn hm (show p < 6 by omega), M_kindIn (a1.mp hm) (show p < 6 by omega), M_kindIn ((a1.tr a2).mp hm) (show p < 6 by omega), M_kindIn (((a1.tr a2).tr a3).mp hm) (show p < 6 by omega), M_kindIn ((((a1.tr a2).tr a3).tr a4).mp hm) (show p < 6 by omega), M_kindIn (((((a1.tr a2).tr a3).tr a4).tr a5).mp hm) (show p < 6 by omega), M_kindIn ((((((a1.tr a2).tr a3).tr a4).tr a5).tr a6).mp hm) (show p < 6 by omega), wa, en]
theorem B2_1 {σ : Sg} {w : Rw} {n p : Nat} (hm : Mp σ 206 0 w) (hn : n ≤ 6) (w4 : w 4 = nI n) (hp : p < n) (hk : w (5 + 6 * p) = nI 2) (h : TM σ []) : ∃ σ', fM_clerkMark (nI p) σ = some (2 * (nI p + zEn w p n), σ') ∧ TM σ' ([] ++ [24] ++ [21] ++ [20]) ∧ FM σ σ' := by
  obtain ⟨s1, e1, t1, a1⟩ := M_begins 24 h (by simp)
  obtain ⟨s2, e2, t2, a2⟩ := M_begins 21 t1 (by simp)
  obtain ⟨s3, e3, t3, a3⟩ := M_begins 20 t2 (by simp)
  have en := M_envy (((a1.tr a2).tr a3).mp hm) hn w4 (show p < 6 by omega)
  refine ⟨s3, ?_, t3, ((a1.tr a2).tr a3)⟩
  simp only [fM_clerkMark, fM_clerkMark_B24, fM_clerkMark_B27, e1, e2, e3, ob_e, zb2 (show p < 6 by omega), zx2 (show p < 6 by omega), ↓reduceIte, i10, hk, show (nI 2 = 1) = False from eq_false (by decide), show (nI 2 = 2) = True from eq_true rfl, show (nI 2 = 3) = False from eq_false (by decide), show (nI 2 = 5) = False from eq_false (by decide), M_kindIn hm (show p < 6 by omega), M_kindIn (a1.mp hm) (show p < 6 by omega), M_kindIn ((a1.tr a2).mp hm) (show p < 6 by omega), M_kindIn (((a1.tr a2).tr a3).mp hm) (show p < 6 by omega), en]
theorem B3_0 {σ : Sg} {w : Rw} {n p : Nat} (hm : Mp σ 206 0 w) (hn : n ≤ 6) (w4 : w 4 = nI n) (hp : p < n) (hk : w (5 + 6 * p) = nI 3) (h : TM σ []) : ∃ σ', fM_clerkSize (nI p) σ = some (w (7 + 6 * p) + ((nI p + zEn w p n) - 1000), σ') ∧ TM σ' ([] ++ [11] ++ [10] ++ [22] ++ [21] ++ [20]) ∧ FM σ σ' := by
  obtain ⟨s1, e1, t1, a1⟩ := M_begins 11 h (by simp)
  obtain ⟨s2, e2, t2, a2⟩ := M_begins 10 t1 (by simp)
  obtain ⟨s3, e3, t3, a3⟩ := M_begins 22 t2 (by simp)
  obtain ⟨s4, e4, t4, a4⟩ := M_begins 21 t3 (by simp)
  obtain ⟨s5, e5, t5, a5⟩ := M_begins 20 t4 (by simp)
  have wa : s2 206 (7 + 6 * p) = w (7 + 6 * p) := ((a1.tr a2).mp hm).at _ (by omega)
  have en := M_envy (((((a1.tr a2).tr a3).tr a4).tr a5).mp hm) hn w4 (show p < 6 by omega)
  refine ⟨s5, ?_, t5, ((((a1.tr a2).tr a3).tr a4).tr a5)⟩
  simp only [fM_clerkSize, fM_clerkSize_B14, fM_clerkSize_B25, fM_clerkMark, fM_clerkMark_B24, fM_clerkMark_B27, e1, e2, e3, e4, e5, ob_e, zb2 (show p < 6 by omega), zx2 (show p < 6 by omega), ↓reduceIte, i10, hk, show (nI 3 = 1) = False from eq_false (by decide), show (nI 3 = 2) = False from eq_false (by decide), show (nI 3 = 3) = True from eq_true rfl, show (nI 3 = 5) = False from eq_false (by decide), M_kindIn hm (show p < 6 by omega), M_kindIn (a1.mp hm) (show p < 6 by omega), M_kindIn ((a1.tr a2).mp hm) (show p < 6 by omega), M_kindIn (((a1.tr a2).tr a3).mp hm) (show p < 6 by omega), M_kindIn ((((a1.tr a2).tr a3).tr a4).mp hm) (show p < 6 by omega), M_kindIn (((((a1.tr a2).tr a3).tr a4).tr a5).mp hm) (show p < 6 by omega), wa, en]
theorem B3_1 {σ : Sg} {w : Rw} {n p : Nat} (hm : Mp σ 206 0 w) (hn : n ≤ 6) (w4 : w 4 = nI n) (hp : p < n) (hk : w (5 + 6 * p) = nI 3) (h : TM σ []) : ∃ σ', fM_clerkMark (nI p) σ = some ((nI p + zEn w p n) - 1000, σ') ∧ TM σ' ([] ++ [22] ++ [21] ++ [20]) ∧ FM σ σ' := by
  obtain ⟨s1, e1, t1, a1⟩ := M_begins 22 h (by simp)
  obtain ⟨s2, e2, t2, a2⟩ := M_begins 21 t1 (by simp)
  obtain ⟨s3, e3, t3, a3⟩ := M_begins 20 t2 (by simp)
  have en := M_envy (((a1.tr a2).tr a3).mp hm) hn w4 (show p < 6 by omega)
  refine ⟨s3, ?_, t3, ((a1.tr a2).tr a3)⟩
  simp only [fM_clerkMark, fM_clerkMark_B24, fM_clerkMark_B27, e1, e2, e3, ob_e, zb2 (show p < 6 by omega), zx2 (show p < 6 by omega), ↓reduceIte, i10, hk, show (nI 3 = 1) = False from eq_false (by decide), show (nI 3 = 2) = False from eq_false (by decide), show (nI 3 = 3) = True from eq_true rfl, show (nI 3 = 5) = False from eq_false (by decide), M_kindIn hm (show p < 6 by omega), M_kindIn (a1.mp hm) (show p < 6 by omega), M_kindIn ((a1.tr a2).mp hm) (show p < 6 by omega), M_kindIn (((a1.tr a2).tr a3).mp hm) (show p < 6 by omega), en]
theorem B4_0 {σ : Sg} {w : Rw} {n p : Nat} (hm : Mp σ 206 0 w) (hn : n ≤ 6) (w4 : w 4 = nI n) (hp : p < n) (hk : w (5 + 6 * p) = nI 4) (h : TM σ []) : ∃ σ', fM_chiefSize (nI p) σ = some (w (7 + 6 * p) - 100, σ') ∧ TM σ' ([] ++ [13] ++ [10]) ∧ FM σ σ' := by
  obtain ⟨s1, e1, t1, a1⟩ := M_begins 13 h (by simp)
  obtain ⟨s2, e2, t2, a2⟩ := M_begins 10 t1 (by simp)
  have wa : s2 206 (7 + 6 * p) = w (7 + 6 * p) := ((a1.tr a2).mp hm).at _ (by omega)
  refine ⟨s2, ?_, t2, (a1.tr a2)⟩
  simp only [fM_chiefSize, fM_chiefSize_B14, fM_chiefSize_B25, e1, e2, ob_e, zb2 (show p < 6 by omega), zx2 (show p < 6 by omega), ↓reduceIte, i10, hk, show (nI 4 = 1) = False from eq_false (by decide), show (nI 4 = 2) = False from eq_false (by decide), show (nI 4 = 3) = False from eq_false (by decide), show (nI 4 = 5) = False from eq_false (by decide), M_kindIn hm (show p < 6 by omega), M_kindIn (a1.mp hm) (show p < 6 by omega), M_kindIn ((a1.tr a2).mp hm) (show p < 6 by omega), wa]
theorem B4_1 {σ : Sg} {w : Rw} {n p : Nat} (hm : Mp σ 206 0 w) (hn : n ≤ 6) (w4 : w 4 = nI n) (hp : p < n) (hk : w (5 + 6 * p) = nI 4) (h : TM σ []) : ∃ σ', fM_chiefMark (nI p) σ = some (nI p - (w (7 + 6 * p) - 100), σ') ∧ TM σ' ([] ++ [23] ++ [20] ++ [13] ++ [10]) ∧ FM σ σ' := by
  obtain ⟨s1, e1, t1, a1⟩ := M_begins 23 h (by simp)
  obtain ⟨s2, e2, t2, a2⟩ := M_begins 20 t1 (by simp)
  obtain ⟨s3, e3, t3, a3⟩ := M_begins 13 t2 (by simp)
  obtain ⟨s4, e4, t4, a4⟩ := M_begins 10 t3 (by simp)
  have wa : s4 206 (7 + 6 * p) = w (7 + 6 * p) := ((((a1.tr a2).tr a3).tr a4).mp hm).at _ (by omega)
  refine ⟨s4, ?_, t4, (((a1.tr a2).tr a3).tr a4)⟩
  simp only [fM_chiefMark, fM_chiefSize, fM_chiefSize_B14, fM_chiefSize_B25, e1, e2, e3, e4, ob_e, zb2 (show p < 6 by omega), zx2 (show p < 6 by omega), ↓reduceIte, i10, hk, show (nI 4 = 1) = False from eq_false (by decide), show (nI 4 = 2) = False from eq_false (by decide), show (nI 4 = 3) = False from eq_false (by decide), show (nI 4 = 5) = False from eq_false (by decide), M_kindIn hm (show p < 6 by omega), M_kindIn (a1.mp hm) (show p < 6 by omega), M_kindIn ((a1.tr a2).mp hm) (show p < 6 by omega), M_kindIn (((a1.tr a2).tr a3).mp hm) (show p < 6 by omega), M_kindIn ((((a1.tr a2).tr a3).tr a4).mp hm) (show p < 6 by omega), wa]
theorem B5_0 {σ : Sg} {w : Rw} {n p : Nat} (hm : Mp σ 206 0 w) (hn : n ≤ 6) (w4 : w 4 = nI n) (hp : p < n) (hk : w (5 + 6 * p) = nI 5) (h : TM σ []) : ∃ σ', fM_chiefSize (nI p) σ = some (2 * (w (7 + 6 * p) - 100), σ') ∧ TM σ' ([] ++ [14] ++ [13] ++ [10]) ∧ FM σ σ' := by
  obtain ⟨s1, e1, t1, a1⟩ := M_begins 14 h (by simp)
  obtain ⟨s2, e2, t2, a2⟩ := M_begins 13 t1 (by simp)
  obtain ⟨s3, e3, t3, a3⟩ := M_begins 10 t2 (by simp)
  have wa : s3 206 (7 + 6 * p) = w (7 + 6 * p) := (((a1.tr a2).tr a3).mp hm).at _ (by omega)
  refine ⟨s3, ?_, t3, ((a1.tr a2).tr a3)⟩
  simp only [fM_chiefSize, fM_chiefSize_B14, fM_chiefSize_B25, e1, e2, e3, ob_e, zb2 (show p < 6 by omega), zx2 (show p < 6 by omega), ↓reduceIte, i10, hk, show (nI 5 = 1) = False from eq_false (by decide), show (nI 5 = 2) = False from eq_false (by decide), show (nI 5 = 3) = False from eq_false (by decide), show (nI 5 = 5) = True from eq_true rfl, M_kindIn hm (show p < 6 by omega), M_kindIn (a1.mp hm) (show p < 6 by omega), M_kindIn ((a1.tr a2).mp hm) (show p < 6 by omega), M_kindIn (((a1.tr a2).tr a3).mp hm) (show p < 6 by omega), wa]
theorem B5_1 {σ : Sg} {w : Rw} {n p : Nat} (hm : Mp σ 206 0 w) (hn : n ≤ 6) (w4 : w 4 = nI n) (hp : p < n) (hk : w (5 + 6 * p) = nI 5) (h : TM σ []) : ∃ σ', fM_chiefMark (nI p) σ = some (nI p - 2 * (w (7 + 6 * p) - 100), σ') ∧ TM σ' ([] ++ [23] ++ [20] ++ [14] ++ [13] ++ [10]) ∧ FM σ σ' := by
  obtain ⟨s1, e1, t1, a1⟩ := M_begins 23 h (by simp)
  obtain ⟨s2, e2, t2, a2⟩ := M_begins 20 t1 (by simp)
  obtain ⟨s3, e3, t3, a3⟩ := M_begins 14 t2 (by simp)
  obtain ⟨s4, e4, t4, a4⟩ := M_begins 13 t3 (by simp)
  obtain ⟨s5, e5, t5, a5⟩ := M_begins 10 t4 (by simp)
  have wa : s5 206 (7 + 6 * p) = w (7 + 6 * p) := (((((a1.tr a2).tr a3).tr a4).tr a5).mp hm).at _ (by omega)
  refine ⟨s5, ?_, t5, ((((a1.tr a2).tr a3).tr a4).tr a5)⟩
  simp only [fM_chiefMark, fM_chiefSize, fM_chiefSize_B14, fM_chiefSize_B25, e1, e2, e3, e4, e5, ob_e, zb2 (show p < 6 by omega), zx2 (show p < 6 by omega), ↓reduceIte, i10, hk, show (nI 5 = 1) = False from eq_false (by decide), show (nI 5 = 2) = False from eq_false (by decide), show (nI 5 = 3) = False from eq_false (by decide), show (nI 5 = 5) = True from eq_true rfl, M_kindIn hm (show p < 6 by omega), M_kindIn (a1.mp hm) (show p < 6 by omega), M_kindIn ((a1.tr a2).mp hm) (show p < 6 by omega), M_kindIn (((a1.tr a2).tr a3).mp hm) (show p < 6 by omega), M_kindIn ((((a1.tr a2).tr a3).tr a4).mp hm) (show p < 6 by omega), M_kindIn (((((a1.tr a2).tr a3).tr a4).tr a5).mp hm) (show p < 6 by omega), wa]
theorem zv21 (a : Int32) : 2 * a = a * 2 := Int32.mul_comm 2 a
theorem zv50 (a : Int32) : 2 * (a - 100) = (a - 100) * 2 := Int32.mul_comm 2 _
theorem zv51 (a b : Int32) : b - 2 * (a - 100) = b - (a - 100) * 2 := by rw [Int32.mul_comm 2]
theorem zv20 (a b : Int32) : -(a + 2 * b) = 0 - (a + b * 2) := by rw [Int32.mul_comm 2, Int32.zero_sub]
theorem Inv.trc {σ σ1 σ2 : Sg} (h : Inv σ) {l : List Int32} (hl : l.length ≤ 16) (t1 : TX σ1 l) (t2 : TM σ2 l) (f1 : ∀ k, k ≠ 170 → k ≠ 171 → σ1 k = σ k) (f2 : (∀ k, k ≠ 200 → k ≠ 212 → σ2 k = σ1 k) ∧ ∀ j, j ≠ 21 → σ2 200 j = σ1 200 j) : Inv σ2 := by
  have k0 : ∀ k, k ≠ 170 → k ≠ 171 → k ≠ 200 → k ≠ 212 → σ2 k = σ k := fun k q1 q2 q3 q4 => (f2.1 k q3 q4).trans (f1 k q1 q2)
  have k1 : ∀ j, j ≠ 21 → σ2 200 j = σ 200 j := fun j q => by rw [f2.2 j q, f1 _ (by omega) (by omega)]
  obtain ⟨⟨w, n, t, r, h1⟩, h2, h3, h4, h5, h6, h7⟩ := h
  refine ⟨⟨w, n, t, r, h1.cong ?_ ?_ ?_⟩, h2.cong ?_ ?_ ?_ ?_, h3.cong ?_ ?_ ?_ ?_, h4.cong ?_ ?_ ?_ ?_, ⟨l.length, hl, ?_, t2.1, fun j hj => ?_⟩, h6.cong ?_ ?_ ?_ ?_ ?_, h7.cong ?_ ?_ ?_ ?_ ?_⟩
  case refine_16 => rw [f2.1 _ (by omega) (by omega)]; exact t1.1
  case refine_17 => rw [f2.1 _ (by omega) (by omega), t1.2 j hj, t2.2 j hj]
  all_goals first
    | (intro k q1 q2; exact k0 k (by omega) (by omega) (by omega) (by omega))
    | exact k0 _ (by omega) (by omega) (by omega) (by omega)
    | exact k1 _ (by omega)
    | exact congrFun (k0 _ (by omega) (by omega) (by omega) (by omega)) _
theorem T_ask {σ : Sg} (h : Inv σ) (x y : Int32) : ∃ v σ1 σ2, fX_ask x y σ = some (v, σ1) ∧ fM_ask x y σ1 = some (v, σ2) ∧ Inv σ2 := by
  have hI := h
  obtain ⟨⟨w, n, t, r, hf, hr, hm, h9⟩, -⟩ := hI
  have hn := hf.1
  have w4 := hf.2.2.2.2.1
  have s5 : σ 4 5 = nI n := by rw [hr.1.1.1]; exact w4
  have m4 : σ 206 4 = nI n := by rw [hm.at 4 (by omega)]; exact w4
  rcases percase hn x with ⟨p, hp, rfl, pA, pB⟩ | ⟨pA, pB⟩
  · rcases incase y 0 1 with ⟨c1, c2, hB⟩ | ⟨-, hB⟩
    · obtain ⟨a, ha, rfl⟩ := zrng (n := 1) (by omega) c1 c2
      obtain ⟨k, hk1, hk5, hk⟩ := hf.2.2.2.2.2.2.2.2 p hp
      have f0 : FX σ (wr σ 170 1 0) := fun k q1 q2 => wr_ne q1
      have t0 : TX (wr σ 170 1 0) [] := ⟨wr_at _ _ _ _, fun j hj => by simp at hj⟩
      have hr0 := f0.r0 hr.1
      have ek := X_kindOf hr0 hn hp hk1 hk5 hk
      have fin : ∀ (σ1 : Sg) (v : Int32) (l : List Int32), l.length ≤ 16 → TX σ1 l → FX (wr σ 170 1 0) σ1 → (∃ σ2, fM_ask (nI p) (nI a) σ1 = some (v, σ2) ∧ TM σ2 l ∧ FM (wr σ1 200 21 0) σ2) → fX_ask (nI p) (nI a) σ = some (v, σ1) → ∃ v σ1 σ2, fX_ask (nI p) (nI a) σ = some (v, σ1) ∧ fM_ask (nI p) (nI a) σ1 = some (v, σ2) ∧ Inv σ2 := by
        rintro σ1 v l hl g1 g2 ⟨σ2, g3, g4, g5⟩ g6
        refine ⟨v, σ1, σ2, g6, g3, h.trc hl g1 g4 (f0.tr g2) ⟨fun k q1 q2 => ?_, fun j q => ?_⟩⟩
        · rw [g5.1 k q1 q2, wr_ne q1]
        · rw [g5.2 j q, wr_no q]
      have mod : ∀ (σ1 : Sg) (g2 : FX (wr σ 170 1 0) σ1), Mp (wr σ1 200 21 0) 206 0 w ∧ TM (wr σ1 200 21 0) [] ∧ fM_isPerson (nI p) σ1 = some 1 := by
        intro σ1 g2
        have e6 : σ1 206 = σ 206 := (f0.tr g2) 206 (by omega) (by omega)
        exact ⟨hm.cong (by rw [wr_ne (by omega), e6]), ⟨wr_at _ _ _ _, fun j hj => by simp at hj⟩, pB _ (by rw [e6]; exact m4)⟩
      have x0 := (hB σ).1
      obtain rfl | rfl : a = 0 ∨ a = 1 := by omega
      · obtain rfl | rfl | rfl | rfl | rfl : k = 1 ∨ k = 2 ∨ k = 3 ∨ k = 4 ∨ k = 5 := by omega
        · obtain ⟨σ1, e1, g1, g2⟩ := A1_0 hr0 hf hp t0
          obtain ⟨md1, md2, md3⟩ := mod σ1 g2
          obtain ⟨σ2, e2, g3, g4⟩ := B1_0 md1 hn w4 hp hk md2
          refine fin σ1 (w (7 + 6 * p) + (nI p + zEn w p n)) _ (by simp) g1 g2 ⟨σ2, ?_, g3, g4⟩ ?_
          · simp only [fM_ask, fM_ask_B39, md3, (hB _).2, ob_e, ob_id, i10, ltc_e, M_kindIn md1 (show p < 6 by omega), hk, show (nI 1 < 4) = True from eq_true (by decide), show (nI 0 = 0) = True from eq_true rfl, ↓reduceIte, e2]
          · simp only [fX_ask, pA σ s5, x0, ob_e, ob_id, i10, ltc_e, ek, show (nI 0 = 0) = True from eq_true rfl, show (164 + 1 = 165) = True from eq_true (by decide), ↓reduceIte, e1]
        · obtain ⟨σ1, e1, g1, g2⟩ := A2_0 hr0 hf hp t0
          obtain ⟨md1, md2, md3⟩ := mod σ1 g2
          obtain ⟨σ2, e2, g3, g4⟩ := B2_0 md1 hn w4 hp hk md2
          refine fin σ1 (0 - (w (7 + 6 * p) + (nI p + zEn w p n) * 2)) _ (by simp) g1 g2 ⟨σ2, ?_, g3, g4⟩ ?_
          · simp only [fM_ask, fM_ask_B39, md3, (hB _).2, ob_e, ob_id, i10, ltc_e, M_kindIn md1 (show p < 6 by omega), hk, show (nI 2 < 4) = True from eq_true (by decide), show (nI 0 = 0) = True from eq_true rfl, ↓reduceIte, e2, zv20]
          · simp only [fX_ask, pA σ s5, x0, ob_e, ob_id, i10, ltc_e, ek, show (nI 0 = 0) = True from eq_true rfl, show (164 + 2 = 165) = False from eq_false (by decide), show (164 + 2 = 166) = True from eq_true (by decide), ↓reduceIte, e1]
        · obtain ⟨σ1, e1, g1, g2⟩ := A3_0 hr0 hf hp t0
          obtain ⟨md1, md2, md3⟩ := mod σ1 g2
          obtain ⟨σ2, e2, g3, g4⟩ := B3_0 md1 hn w4 hp hk md2
          refine fin σ1 (w (7 + 6 * p) + ((nI p + zEn w p n) - 1000)) _ (by simp) g1 g2 ⟨σ2, ?_, g3, g4⟩ ?_
          · simp only [fM_ask, fM_ask_B39, md3, (hB _).2, ob_e, ob_id, i10, ltc_e, M_kindIn md1 (show p < 6 by omega), hk, show (nI 3 < 4) = True from eq_true (by decide), show (nI 0 = 0) = True from eq_true rfl, ↓reduceIte, e2]
          · simp only [fX_ask, pA σ s5, x0, ob_e, ob_id, i10, ltc_e, ek, show (nI 0 = 0) = True from eq_true rfl, show (164 + 3 = 165) = False from eq_false (by decide), show (164 + 3 = 166) = False from eq_false (by decide), show (164 + 3 = 167) = True from eq_true (by decide), ↓reduceIte, e1]
        · obtain ⟨σ1, e1, g1, g2⟩ := A4_0 hr0 hf hp t0
          obtain ⟨md1, md2, md3⟩ := mod σ1 g2
          obtain ⟨σ2, e2, g3, g4⟩ := B4_0 md1 hn w4 hp hk md2
          refine fin σ1 (w (7 + 6 * p) - 100) _ (by simp) g1 g2 ⟨σ2, ?_, g3, g4⟩ ?_
          · simp only [fM_ask, fM_ask_B39, md3, (hB _).2, ob_e, ob_id, i10, ltc_e, M_kindIn md1 (show p < 6 by omega), hk, show (nI 4 < 4) = False from eq_false (by decide), show (nI 0 = 0) = True from eq_true rfl, ↓reduceIte, e2]
          · simp only [fX_ask, pA σ s5, x0, ob_e, ob_id, i10, ltc_e, ek, show (nI 0 = 0) = True from eq_true rfl, show (164 + 4 = 165) = False from eq_false (by decide), show (164 + 4 = 166) = False from eq_false (by decide), show (164 + 4 = 167) = False from eq_false (by decide), show (164 + 4 = 168) = True from eq_true (by decide), ↓reduceIte, e1]
        · obtain ⟨σ1, e1, g1, g2⟩ := A5_0 hr0 hf hp t0
          obtain ⟨md1, md2, md3⟩ := mod σ1 g2
          obtain ⟨σ2, e2, g3, g4⟩ := B5_0 md1 hn w4 hp hk md2
          refine fin σ1 ((w (7 + 6 * p) - 100) * 2) _ (by simp) g1 g2 ⟨σ2, ?_, g3, g4⟩ ?_
          · simp only [fM_ask, fM_ask_B39, md3, (hB _).2, ob_e, ob_id, i10, ltc_e, M_kindIn md1 (show p < 6 by omega), hk, show (nI 5 < 4) = False from eq_false (by decide), show (nI 0 = 0) = True from eq_true rfl, ↓reduceIte, e2, zv50]
          · simp only [fX_ask, pA σ s5, x0, ob_e, ob_id, i10, ltc_e, ek, show (nI 0 = 0) = True from eq_true rfl, show (164 + 5 = 165) = False from eq_false (by decide), show (164 + 5 = 166) = False from eq_false (by decide), show (164 + 5 = 167) = False from eq_false (by decide), show (164 + 5 = 168) = False from eq_false (by decide), ↓reduceIte, e1]
      · obtain rfl | rfl | rfl | rfl | rfl : k = 1 ∨ k = 2 ∨ k = 3 ∨ k = 4 ∨ k = 5 := by omega
        · obtain ⟨σ1, e1, g1, g2⟩ := A1_1 hr0 hf hp t0
          obtain ⟨md1, md2, md3⟩ := mod σ1 g2
          obtain ⟨σ2, e2, g3, g4⟩ := B1_1 md1 hn w4 hp hk md2
          refine fin σ1 (nI p + zEn w p n) _ (by simp) g1 g2 ⟨σ2, ?_, g3, g4⟩ ?_
          · simp only [fM_ask, fM_ask_B39, md3, (hB _).2, ob_e, ob_id, i10, ltc_e, M_kindIn md1 (show p < 6 by omega), hk, show (nI 1 < 4) = True from eq_true (by decide), show (nI 1 = 0) = False from eq_false (by decide), ↓reduceIte, e2]
          · simp only [fX_ask, pA σ s5, x0, ob_e, ob_id, i10, ltc_e, ek, show (nI 1 = 0) = False from eq_false (by decide), show (164 + 1 = 165) = True from eq_true (by decide), ↓reduceIte, e1]
        · obtain ⟨σ1, e1, g1, g2⟩ := A2_1 hr0 hf hp t0
          obtain ⟨md1, md2, md3⟩ := mod σ1 g2
          obtain ⟨σ2, e2, g3, g4⟩ := B2_1 md1 hn w4 hp hk md2
          refine fin σ1 ((nI p + zEn w p n) * 2) _ (by simp) g1 g2 ⟨σ2, ?_, g3, g4⟩ ?_
          · simp only [fM_ask, fM_ask_B39, md3, (hB _).2, ob_e, ob_id, i10, ltc_e, M_kindIn md1 (show p < 6 by omega), hk, show (nI 2 < 4) = True from eq_true (by decide), show (nI 1 = 0) = False from eq_false (by decide), ↓reduceIte, e2, zv21]
          · simp only [fX_ask, pA σ s5, x0, ob_e, ob_id, i10, ltc_e, ek, show (nI 1 = 0) = False from eq_false (by decide), show (164 + 2 = 165) = False from eq_false (by decide), show (164 + 2 = 166) = True from eq_true (by decide), ↓reduceIte, e1]
        · obtain ⟨σ1, e1, g1, g2⟩ := A3_1 hr0 hf hp t0
          obtain ⟨md1, md2, md3⟩ := mod σ1 g2
          obtain ⟨σ2, e2, g3, g4⟩ := B3_1 md1 hn w4 hp hk md2
          refine fin σ1 ((nI p + zEn w p n) - 1000) _ (by simp) g1 g2 ⟨σ2, ?_, g3, g4⟩ ?_
          · simp only [fM_ask, fM_ask_B39, md3, (hB _).2, ob_e, ob_id, i10, ltc_e, M_kindIn md1 (show p < 6 by omega), hk, show (nI 3 < 4) = True from eq_true (by decide), show (nI 1 = 0) = False from eq_false (by decide), ↓reduceIte, e2]
          · simp only [fX_ask, pA σ s5, x0, ob_e, ob_id, i10, ltc_e, ek, show (nI 1 = 0) = False from eq_false (by decide), show (164 + 3 = 165) = False from eq_false (by decide), show (164 + 3 = 166) = False from eq_false (by decide), show (164 + 3 = 167) = True from eq_true (by decide), ↓reduceIte, e1]
        · obtain ⟨σ1, e1, g1, g2⟩ := A4_1 hr0 hf hp t0
          obtain ⟨md1, md2, md3⟩ := mod σ1 g2
          obtain ⟨σ2, e2, g3, g4⟩ := B4_1 md1 hn w4 hp hk md2
          refine fin σ1 (nI p - (w (7 + 6 * p) - 100)) _ (by simp) g1 g2 ⟨σ2, ?_, g3, g4⟩ ?_
          · simp only [fM_ask, fM_ask_B39, md3, (hB _).2, ob_e, ob_id, i10, ltc_e, M_kindIn md1 (show p < 6 by omega), hk, show (nI 4 < 4) = False from eq_false (by decide), show (nI 1 = 0) = False from eq_false (by decide), ↓reduceIte, e2]
          · simp only [fX_ask, pA σ s5, x0, ob_e, ob_id, i10, ltc_e, ek, show (nI 1 = 0) = False from eq_false (by decide), show (164 + 4 = 165) = False from eq_false (by decide), show (164 + 4 = 166) = False from eq_false (by decide), show (164 + 4 = 167) = False from eq_false (by decide), show (164 + 4 = 168) = True from eq_true (by decide), ↓reduceIte, e1]
        · obtain ⟨σ1, e1, g1, g2⟩ := A5_1 hr0 hf hp t0
          obtain ⟨md1, md2, md3⟩ := mod σ1 g2
          obtain ⟨σ2, e2, g3, g4⟩ := B5_1 md1 hn w4 hp hk md2
          refine fin σ1 (nI p - (w (7 + 6 * p) - 100) * 2) _ (by simp) g1 g2 ⟨σ2, ?_, g3, g4⟩ ?_
          · simp only [fM_ask, fM_ask_B39, md3, (hB _).2, ob_e, ob_id, i10, ltc_e, M_kindIn md1 (show p < 6 by omega), hk, show (nI 5 < 4) = False from eq_false (by decide), show (nI 1 = 0) = False from eq_false (by decide), ↓reduceIte, e2, zv51]
          · simp only [fX_ask, pA σ s5, x0, ob_e, ob_id, i10, ltc_e, ek, show (nI 1 = 0) = False from eq_false (by decide), show (164 + 5 = 165) = False from eq_false (by decide), show (164 + 5 = 166) = False from eq_false (by decide), show (164 + 5 = 167) = False from eq_false (by decide), show (164 + 5 = 168) = False from eq_false (by decide), ↓reduceIte, e1]
    · exact ⟨-1000001, σ, σ, by simp only [fX_ask, pA σ s5, (hB _).1, ob_e, i10, ↓reduceIte], by simp only [fM_ask, pB σ m4, (hB _).2, ob_e, i10, ↓reduceIte], h⟩
  · exact ⟨-1000001, σ, σ, by simp only [fX_ask, pA σ s5, ob_e, ↓reduceIte], by simp only [fM_ask, pB σ m4, ob_e, ↓reduceIte], h⟩
