/-! the tape: bytes b, T of them -/
def dD (b : Nat → Nat) (T j : Nat) : Bool := decide (j < T) && (decide (48 ≤ b j) && decide (b j ≤ 57))
theorem dD_t {b : Nat → Nat} {T j : Nat} (h : dD b T j = true) : j < T ∧ 48 ≤ b j ∧ b j ≤ 57 := by
  unfold dD at h
  simp only [Bool.and_eq_true, decide_eq_true_eq] at h
  exact h
theorem dD_f {b : Nat → Nat} {T j : Nat} (h : ¬ dD b T j = true) (hj : j < T) : b j < 48 ∨ 57 < b j := by
  unfold dD at h
  simp only [Bool.and_eq_true, decide_eq_true_eq] at h
  omega
/-- the token at s: 0 end, 1 letter, 2 number, 3 comma, 4 semicolon, 5 another -/
def tkN (b : Nat → Nat) (T s : Nat) : Nat := if T ≤ s then 0 else if dD b T s = true then (if dD b T (s + 1) = true ∧ dD b T (s + 2) = true then 5 else 2) else if 97 ≤ b s ∧ b s ≤ 122 then 1 else if b s = 44 then 3 else if b s = 59 then 4 else 5
def tkV (b : Nat → Nat) (T s : Nat) : Nat := if dD b T (s + 1) = true then (b s - 48) * 10 + (b (s + 1) - 48) else b s - 48
def tkX (b : Nat → Nat) (T s : Nat) : Nat := if tkN b T s = 2 ∧ dD b T (s + 1) = true then s + 2 else s + 1
/-- the reference's tape -/
def MT (b : Nat → Nat) (T : Nat) (σ : Sg) : Prop := T ≤ 120 ∧ σ 200 6 = nI T ∧ ∀ j, j < T → b j < 256 ∧ σ 205 j = nI (b j)
/-- the class's tape, at place s -/
def CT (b : Nat → Nat) (T : Nat) (σ : Sg) (s : Nat) : Prop := T ≤ 120 ∧ σ 2 1 = nI T ∧ σ 2 2 = nI s ∧ ∀ j, j < T → b j < 256 ∧ σ 3 j = nI (b j)
def MFr (σ σ' : Sg) : Prop := (∀ k, k ≠ 200 → σ' k = σ k) ∧ ∀ j, j < 7 ∨ 13 ≤ j → σ' 200 j = σ 200 j
theorem MFr.rf (σ : Sg) : MFr σ σ := ⟨fun _ _ => rfl, fun _ _ => rfl⟩
theorem MFr.tr {a b c : Sg} (h1 : MFr a b) (h2 : MFr b c) : MFr a c := ⟨fun k q => (h2.1 k q).trans (h1.1 k q), fun j q => (h2.2 j q).trans (h1.2 j q)⟩
theorem MFr.wr (σ : Sg) {j : Nat} {v : Int32} (h : 7 ≤ j ∧ j < 13) : MFr σ (wr σ 200 j v) := ⟨fun k q => wr_ne q, fun i q => wr_no (by omega)⟩
theorem MFr.mt {b : Nat → Nat} {T : Nat} {σ σ' : Sg} (h : MFr σ σ') (m : MT b T σ) : MT b T σ' := ⟨m.1, by rw [h.2 6 (by omega)]; exact m.2.1, fun j hj => by rw [h.1 205 (by omega)]; exact m.2.2 j hj⟩
/-- the token at s is looked at, all is well so far -/
def MS (b : Nat → Nat) (T : Nat) (σ : Sg) (s : Nat) (fk : Int32) : Prop := MT b T σ ∧ s ≤ T ∧ σ 200 8 = -1 ∧ σ 200 7 = fk ∧ σ 200 10 = nI s ∧ σ 200 11 = nI (tkN b T s) ∧ (tkN b T s = 1 → σ 200 12 = nI (b s)) ∧ (tkN b T s = 2 → σ 200 12 = nI (tkV b T s)) ∧ (1 ≤ tkN b T s → tkN b T s ≤ 4 → σ 200 9 = nI (tkX b T s))
theorem M_byteAt {b : Nat → Nat} {T : Nat} {σ : Sg} (m : MT b T σ) {s : Nat} (hs : s < 2 ^ 30) : fM_byteAt (nI s) σ = some (if s < T then nI (b s) else -1) := by
  obtain ⟨h1, h2, h3⟩ := m
  unfold fM_byteAt
  rw [h2]
  by_cases c : s < T
  · rw [if_neg (nI_ge c (by omega)), zin (by omega) (by omega), if_pos rfl, zix (by omega), if_pos c, (h3 s c).2]
  · rw [if_pos (nI_le (by omega) (by omega)), if_neg c]
theorem M_dig {b : Nat → Nat} {T : Nat} (hb : ∀ j, j < T → b j < 256) {s : Nat} (σ : Sg) : fM_in (if s < T then nI (b s) else -1) 48 57 σ = some (if dD b T s = true then 1 else 0) := by
  unfold fM_in
  by_cases c : s < T
  · have := hb s c
    rw [if_pos c]
    by_cases d : dD b T s = true
    · obtain ⟨-, d1, d2⟩ := dD_t d
      rw [if_neg (show ¬ nI (b s) < 48 from nI_nlt (b := 48) d1 (by omega)), if_neg (show ¬ (57 : Int32) < nI (b s) from nI_nlt (a := 57) d2 (by omega)), if_pos d]
    · rw [if_neg d]
      rcases dD_f d c with q | q
      · rw [if_pos (show nI (b s) < 48 from nI_lt (b := 48) q (by omega))]
      · rw [if_neg (show ¬ nI (b s) < 48 from nI_nlt (b := 48) (by omega) (by omega)), if_pos (show (57 : Int32) < nI (b s) from nI_lt (a := 57) q (by omega))]
  · rw [if_neg c, if_pos (by decide), if_neg (fun z => c (dD_t z).1)]
/-- the reference reads the figures behind the second -/
theorem M_adv_L {b : Nat → Nat} {T : Nat} : ∀ (k at' s N : Nat) (σ : Sg), MT b T σ → σ 200 9 = nI at' → σ 200 10 = nI s → s + 2 ≤ at' → at' ≤ T → T - at' ≤ k → k + 1 < N → ∃ σ', fM_advances_L38 N σ = some σ' ∧ MFr σ σ' ∧ σ' 200 7 = σ 200 7 ∧ σ' 200 8 = σ 200 8 ∧ σ' 200 10 = nI s ∧ σ' 200 12 = σ 200 12 ∧ σ' 200 11 = (if at' = s + 2 ∧ ¬ dD b T at' = true then 2 else 5) ∧ (¬ dD b T at' = true → σ' 200 9 = nI at') := by
  intro k
  induction k with
  | zero =>
    intro at' s N σ m h9 h10 hs hat hk hN
    obtain ⟨N, rfl⟩ : ∃ M, N = M + 1 := ⟨N - 1, by omega⟩
    have hm := m.1
    have nd : ¬ dD b T at' = true := fun z => by have := (dD_t z).1; omega
    show ∃ σ', fM_advances_b38 (fM_advances_L38 N) σ = _ ∧ _
    unfold fM_advances_b38
    rw [h9, M_byteAt m (by omega), ob_e, M_dig (fun j hj => (m.2.2 j hj).1), ob_e, if_neg nd, i00, h10, pk_sub (by omega)]
    by_cases c : at' = s + 2
    · rw [if_neg (show ¬ (3 : Int32) ≤ nI (at' - s) from nI_ge (b := 3) (by omega) (by omega)), ltc_e]
      refine ⟨_, rfl, MFr.wr σ (by omega), wr_no (by omega), wr_no (by omega), by rw [wr_no (by omega)]; exact h10, wr_no (by omega), by rw [wr_at, if_pos ⟨c, nd⟩], fun _ => by rw [wr_no (by omega)]; exact h9⟩
    · rw [if_pos (show (3 : Int32) ≤ nI (at' - s) from nI_le (a := 3) (by omega) (by omega)), ltc_e]
      refine ⟨_, rfl, MFr.wr σ (by omega), wr_no (by omega), wr_no (by omega), by rw [wr_no (by omega)]; exact h10, wr_no (by omega), by rw [wr_at, if_neg (fun z => c z.1)], fun _ => by rw [wr_no (by omega)]; exact h9⟩
  | succ k ih =>
    intro at' s N σ m h9 h10 hs hat hk hN
    obtain ⟨N, rfl⟩ : ∃ M, N = M + 1 := ⟨N - 1, by omega⟩
    have hm := m.1
    show ∃ σ', fM_advances_b38 (fM_advances_L38 N) σ = _ ∧ _
    unfold fM_advances_b38 fM_advances_B96
    rw [h9, M_byteAt m (by omega), ob_e, M_dig (fun j hj => (m.2.2 j hj).1), ob_e, h10, pk_sub (by omega)]
    by_cases d : dD b T at' = true
    · have hlt := (dD_t d).1
      rw [if_pos d, i10, if_pos (show (2 : Int32) ≤ nI (at' - s) from nI_le (a := 2) (by omega) (by omega)), ltc_e, ltc_e, wr_id rfl, h9, nI_1]
      obtain ⟨σ', e1, f1, g7, g8, g10, g12, g11, -⟩ := ih (at' + 1) s N (wr σ 200 9 (nI (at' + 1))) ((MFr.wr σ (by omega)).mt m) (wr_at _ _ _ _) (by rw [wr_no (by omega)]; exact h10) (by omega) (by omega) (by omega) (by omega)
      refine ⟨σ', e1, (MFr.wr σ (by omega)).tr f1, by rw [g7, wr_no (by omega)], by rw [g8, wr_no (by omega)], g10, by rw [g12, wr_no (by omega)], ?_, fun z => absurd d z⟩
      rw [g11, if_neg (fun z => by omega), if_neg (fun z => z.2 d)]
    · rw [if_neg d, i00]
      by_cases c : at' = s + 2
      · rw [if_neg (show ¬ (3 : Int32) ≤ nI (at' - s) from nI_ge (b := 3) (by omega) (by omega)), ltc_e]
        refine ⟨_, rfl, MFr.wr σ (by omega), wr_no (by omega), wr_no (by omega), by rw [wr_no (by omega)]; exact h10, wr_no (by omega), by rw [wr_at, if_pos ⟨c, d⟩], fun _ => by rw [wr_no (by omega)]; exact h9⟩
      · rw [if_pos (show (3 : Int32) ≤ nI (at' - s) from nI_le (a := 3) (by omega) (by omega)), ltc_e]
        refine ⟨_, rfl, MFr.wr σ (by omega), wr_no (by omega), wr_no (by omega), by rw [wr_no (by omega)]; exact h10, wr_no (by omega), by rw [wr_at, if_neg (fun z => c z.1)], fun _ => by rw [wr_no (by omega)]; exact h9⟩
theorem M_adv {b : Nat → Nat} {T s : Nat} {σ : Sg} {fk : Int32} (m : MT b T σ) (hs : s ≤ T) (h9 : σ 200 9 = nI s) (h8 : σ 200 8 = -1) (h7 : σ 200 7 = fk) : ∃ σ', fM_advances σ = some σ' ∧ MS b T σ' s fk ∧ MFr σ σ' := by
  have hT := m.1
  have hb : ∀ j, j < T → b j < 256 := fun j hj => (m.2.2 j hj).1
  have m1 : MT b T (wr σ 200 10 (nI s)) := (MFr.wr σ (by omega)).mt m
  unfold fM_advances
  rw [h9, ltc_e, wr_no (by omega), h9, M_byteAt m1 (by omega), ob_e, ltc_e, M_dig hb, ob_e]
  by_cases d : dD b T s = true
  · obtain ⟨d1, d2, d3⟩ := dD_t d
    rw [if_pos d, i10, ltc_e, if_pos d1, wr_wr]
    generalize hτ : wr (wr σ 200 10 (nI s)) 200 12 0 = τ
    have fτ : MFr σ τ := by rw [← hτ]; exact (MFr.wr σ (by omega)).tr (MFr.wr _ (by omega))
    have mτ := fτ.mt m
    have t9 : τ 200 9 = nI s := by rw [← hτ, wr_no (by omega), wr_no (by omega)]; exact h9
    have t10 : τ 200 10 = nI s := by rw [← hτ, wr_no (by omega), wr_at]
    have t12 : τ 200 12 = 0 := by rw [← hτ, wr_at]
    have t8 : τ 200 8 = -1 := by rw [← hτ, wr_no (by omega), wr_no (by omega)]; exact h8
    have t7 : τ 200 7 = fk := by rw [← hτ, wr_no (by omega), wr_no (by omega)]; exact h7
    show ∃ σ', fM_advances_b38 (fM_advances_L38 1999) τ = some σ' ∧ _
    unfold fM_advances_b38 fM_advances_B96
    have e48 : (10 * (0 : Int32) + nI (b s)) - 48 = nI (b s - 48) := by
      rw [show (10 : Int32) * 0 = 0 by decide, Int32.zero_add]
      exact pk_sub (b := 48) d2
    rw [t9, M_byteAt mτ (by omega), ob_e, M_dig hb, ob_e, if_pos d, i10, t10, pk_sub (Nat.le_refl s), Nat.sub_self, if_neg (by decide), ob_e, if_pos d1, t12, e48, ltc_e, ltc_e, wr_no (by omega), t9, nI_1]
    generalize hρ : wr (wr τ 200 12 (nI (b s - 48))) 200 9 (nI (s + 1)) = ρ
    have fρ : MFr τ ρ := by rw [← hρ]; exact (MFr.wr τ (by omega)).tr (MFr.wr _ (by omega))
    have mρ := fρ.mt mτ
    have r9 : ρ 200 9 = nI (s + 1) := by rw [← hρ, wr_at]
    have r10 : ρ 200 10 = nI s := by rw [← hρ, wr_no (by omega), wr_no (by omega)]; exact t10
    have r12 : ρ 200 12 = nI (b s - 48) := by rw [← hρ, wr_no (by omega), wr_at]
    have r8 : ρ 200 8 = -1 := by rw [← hρ, wr_no (by omega), wr_no (by omega)]; exact t8
    have r7 : ρ 200 7 = fk := by rw [← hρ, wr_no (by omega), wr_no (by omega)]; exact t7
    show ∃ σ', fM_advances_b38 (fM_advances_L38 1998) ρ = some σ' ∧ _
    unfold fM_advances_b38 fM_advances_B96
    rw [r9, M_byteAt mρ (by omega), ob_e, M_dig hb, ob_e, r10, pk_sub (by omega), show s + 1 - s = 1 by omega]
    have tk2 : ¬ dD b T (s + 1) = true ∨ ¬ dD b T (s + 2) = true → tkN b T s = 2 := by
      intro z
      unfold tkN
      rw [if_neg (by omega), if_pos d, if_neg (fun y => z.elim (fun q => q y.1) (fun q => q y.2))]
    by_cases d' : dD b T (s + 1) = true
    · obtain ⟨e1, e2, e3⟩ := dD_t d'
      have e49 : (10 * nI (b s - 48) + nI (b (s + 1))) - 48 = nI ((b s - 48) * 10 + (b (s + 1) - 48)) := by
        rw [zlit 10, pk_mul, nI_add, zlit 48, pk_sub (by omega)]
        congr 1
        omega
      rw [if_pos d', i10, if_neg (show ¬ (2 : Int32) ≤ nI 1 by decide), ob_e, if_pos e1, r12, e49, ltc_e, ltc_e, wr_no (by omega), r9, nI_1]
      generalize hχ : wr (wr ρ 200 12 (nI ((b s - 48) * 10 + (b (s + 1) - 48)))) 200 9 (nI (s + 1 + 1)) = χ
      have fχ : MFr ρ χ := by rw [← hχ]; exact (MFr.wr ρ (by omega)).tr (MFr.wr _ (by omega))
      have mχ := fχ.mt mρ
      have x9 : χ 200 9 = nI (s + 2) := by rw [← hχ, wr_at]
      have x10 : χ 200 10 = nI s := by rw [← hχ, wr_no (by omega), wr_no (by omega)]; exact r10
      have x12 : χ 200 12 = nI ((b s - 48) * 10 + (b (s + 1) - 48)) := by rw [← hχ, wr_no (by omega), wr_at]
      have x8 : χ 200 8 = -1 := by rw [← hχ, wr_no (by omega), wr_no (by omega)]; exact r8
      have x7 : χ 200 7 = fk := by rw [← hχ, wr_no (by omega), wr_no (by omega)]; exact r7
      obtain ⟨σ', k1, k2, k7, k8, k10, k12, k11, k9⟩ := M_adv_L (T - (s + 2)) (s + 2) s 1998 χ mχ x9 x10 (Nat.le_refl _) (by omega) (Nat.le_refl _) (by omega)
      have fr : MFr σ σ' := ((fτ.tr fρ).tr fχ).tr k2
      refine ⟨σ', k1, ⟨fr.mt m, hs, by rw [k8]; exact x8, by rw [k7]; exact x7, k10, ?_, ?_, ?_, ?_⟩, fr⟩
      · rw [k11]
        by_cases d2' : dD b T (s + 2) = true
        · rw [if_neg (fun z => z.2 d2')]
          unfold tkN
          rw [if_neg (by omega), if_pos d, if_pos ⟨d', d2'⟩]
          rfl
        · rw [if_pos ⟨rfl, d2'⟩, tk2 (Or.inr d2')]
          rfl
      · intro z
        unfold tkN at z
        rw [if_neg (by omega), if_pos d] at z
        split at z <;> omega
      · intro _
        rw [k12, x12]
        unfold tkV
        rw [if_pos d']
      · intro z1 z2
        have d2' : ¬ dD b T (s + 2) = true := by
          intro y
          unfold tkN at z2
          rw [if_neg (by omega), if_pos d, if_pos ⟨d', y⟩] at z2
          omega
        rw [k9 d2']
        unfold tkX
        rw [if_pos ⟨tk2 (Or.inr d2'), d'⟩]
    · rw [if_neg d', i00, if_neg (show ¬ (3 : Int32) ≤ nI 1 by decide), ltc_e]
      have fr : MFr σ (wr ρ 200 11 2) := (fτ.tr fρ).tr (MFr.wr ρ (by omega))
      refine ⟨_, rfl, ⟨fr.mt m, hs, by rw [wr_no (by omega)]; exact r8, by rw [wr_no (by omega)]; exact r7, by rw [wr_no (by omega)]; exact r10, by rw [wr_at, tk2 (Or.inl d')]; rfl, ?_, ?_, ?_⟩, fr⟩
      · intro z
        rw [tk2 (Or.inl d')] at z
        omega
      · intro _
        rw [wr_no (by omega), r12]
        unfold tkV
        rw [if_neg d']
      · intro _ _
        rw [wr_no (by omega), r9]
        unfold tkX
        rw [if_neg (fun z => d' z.2)]
  · rw [if_neg d, i00]
    have go : ∀ (v : Int32) (tk : Nat), tkN b T s = tk → tk ≠ 2 → tk ≤ 5 → (tk = 1 → v = nI (b s)) → ∃ σ', fM_advances_B180 (nI tk) (wr (wr σ 200 10 (nI s)) 200 12 v) = some σ' ∧ MS b T σ' s fk ∧ MFr σ σ' := by
      intro v tk htk h2 h5 hv
      have f1 : MFr σ (wr (wr (wr σ 200 10 (nI s)) 200 12 v) 200 11 (nI tk)) := ((MFr.wr σ (by omega)).tr (MFr.wr _ (by omega))).tr (MFr.wr _ (by omega))
      unfold fM_advances_B180
      rw [ltc_e, wr_at]
      have nx : tkX b T s = s + 1 := by unfold tkX; rw [if_neg (fun z => by omega)]
      by_cases c : tk = 0
      · rw [if_pos (by rw [c]; rfl), ltc_e]
        have f2 := f1.tr (MFr.wr _ (j := 9) (v := wr (wr (wr σ 200 10 (nI s)) 200 12 v) 200 11 (nI tk) 200 9 + 0) (by omega))
        refine ⟨_, rfl, ⟨f2.mt m, hs, ?_, ?_, ?_, ?_, fun z => by omega, fun z => by omega, fun z => by omega⟩, f2⟩
        · simp (disch := omega) only [wr_no]; exact h8
        · simp (disch := omega) only [wr_no]; exact h7
        · simp (disch := omega) only [wr_no, wr_at]
        · simp (disch := omega) only [wr_no, wr_at]; rw [htk]
      · rw [if_neg (nI_ne0 (by omega) (by omega)), ltc_e]
        have f2 := f1.tr (MFr.wr _ (j := 9) (v := wr (wr (wr σ 200 10 (nI s)) 200 12 v) 200 11 (nI tk) 200 9 + 1) (by omega))
        refine ⟨_, rfl, ⟨f2.mt m, hs, ?_, ?_, ?_, ?_, ?_, fun z => by omega, ?_⟩, f2⟩
        · simp (disch := omega) only [wr_no]; exact h8
        · simp (disch := omega) only [wr_no]; exact h7
        · simp (disch := omega) only [wr_no, wr_at]
        · simp (disch := omega) only [wr_no, wr_at]; rw [htk]
        · intro z
          simp (disch := omega) only [wr_no, wr_at]
          exact hv (by omega)
        · intro _ _
          rw [wr_at, nx]
          simp (disch := omega) only [wr_no]
          rw [h9, nI_1]
    by_cases c : s < T
    · have h256 := hb s c
      simp only [if_pos c]
      rw [if_pos (nI_pos' (by omega))]
      have tkd : tkN b T s = if 97 ≤ b s ∧ b s ≤ 122 then 1 else if b s = 44 then 3 else if b s = 59 then 4 else 5 := by
        unfold tkN
        rw [if_neg (by omega), if_neg d]
      have eq44 : (nI (b s) = 44) ↔ b s = 44 := nI_eq (b := 44) (by omega) (by omega)
      have eq59 : (nI (b s) = 59) ↔ b s = 59 := nI_eq (b := 59) (by omega) (by omega)
      by_cases l : 97 ≤ b s ∧ b s ≤ 122
      · rw [if_pos l] at tkd
        have : ∀ τ, fM_in (nI (b s)) 97 122 τ = some 1 := by
          intro τ
          unfold fM_in
          rw [if_neg (show ¬ nI (b s) < 97 from nI_nlt (b := 97) l.1 (by omega)), if_neg (show ¬ (122 : Int32) < nI (b s) from nI_nlt (a := 122) l.2 (by omega))]
        rw [this, ob_e, i10]
        exact go _ 1 tkd (by omega) (by omega) (fun _ => rfl)
      · rw [if_neg l] at tkd
        have : ∀ τ, fM_in (nI (b s)) 97 122 τ = some 0 := by
          intro τ
          unfold fM_in
          by_cases q : b s < 97
          · rw [if_pos (show nI (b s) < 97 from nI_lt (b := 97) q (by omega))]
          · rw [if_neg (show ¬ nI (b s) < 97 from nI_nlt (b := 97) (by omega) (by omega)), if_pos (show (122 : Int32) < nI (b s) from nI_lt (a := 122) (by omega) (by omega))]
        rw [this, ob_e, i00]
        by_cases c44 : b s = 44
        · rw [if_pos c44] at tkd
          rw [if_pos (eq44.mpr c44)]
          exact go _ 3 tkd (by omega) (by omega) (fun z => by omega)
        · rw [if_neg c44] at tkd
          rw [if_neg (fun z => c44 (eq44.mp z))]
          by_cases c59 : b s = 59
          · rw [if_pos c59] at tkd
            rw [if_pos (eq59.mpr c59)]
            exact go _ 4 tkd (by omega) (by omega) (fun z => by omega)
          · rw [if_neg c59] at tkd
            rw [if_neg (fun z => c59 (eq59.mp z))]
            exact go _ 5 tkd (by omega) (by omega) (fun z => by omega)
    · simp only [if_neg c]
      rw [if_neg (show ¬ (0 : Int32) ≤ -1 by decide)]
      exact go _ 0 (by unfold tkN; rw [if_pos (by omega)]) (by omega) (by omega) (fun z => by omega)
