theorem zBn_cong {w v : Rw} {n : Nat} (h : ∀ j, j ≠ 2 → w j = v j) : zBn w n = zBn v n := by
  unfold zBn
  refine zBs_cong (fun p _ => ?_)
  unfold zBr
  rw [h _ (by omega)]
theorem X_sup {σ : Sg} {w : Rw} {n : Nat} (hn : n ≤ 6) (hr : Rp σ 4 w n) : ∃ q, fH_become 10 4 σ = some q ∧ Rp q 10 w n ∧ Fr 10 σ q := H_become (r0 := 10) (r1 := 4) (by omega) hn hr
theorem Inv.fore {σ σ1 : Sg} (h : Inv σ) (hF : Fr 10 σ σ1) (f : Nat → Int32) : Inv (zsc σ1 208 f) := h.keep (fun k q1 q2 => by rw [zsc_n q2, hF k (by omega)])
theorem Mp.zs {σ : Sg} {k : Nat} {f : Nat → Int32} {w : Rw} (h : ∀ j, j < 41 → f j = w j) : Mp (zsc σ k f) k 0 w := fun j hj => by rw [zsc_s, Nat.zero_add, h j hj]
theorem T_ahead {σ : Sg} (h : Inv σ) (x y : Int32) : ∃ v σ1 σ2, fX_ahead x y σ = some (v, σ1) ∧ fM_ahead x y σ1 = some (v, σ2) ∧ Inv σ2 := by
  have hI := h
  obtain ⟨⟨w, n, t, r, hh⟩, -⟩ := hI
  obtain ⟨hf, hr, hm, h9⟩ := id hh
  have hn := hf.1
  rcases housed hh with ⟨-, b, c⟩ | ⟨-, b, c⟩
  · refine ⟨-1000002, σ, σ, ?_, ?_, h⟩
    · unfold fX_ahead; rw [b, i00]
    · unfold fM_ahead; rw [c σ (hm.at 0 (by omega)), ob_e, i00]
  · have cc := c σ (hm.at 0 (by omega))
    have eF : ∀ τ, fM_isFar x τ = (fM_in x 0 60 τ).bind fun q1 => if isb q1 = true then some q1 else none := fun _ => rfl
    rcases incase x 0 60 with ⟨c1, c2, hB⟩ | ⟨-, hB⟩
    · have eF1 : ∀ τ, fM_isFar x τ = some 1 := fun τ => by rw [eF, (hB τ).2, ob_e, isb_1, if_pos rfl]
      rcases incase y 0 2 with ⟨d1, d2, hD⟩ | ⟨-, hD⟩
      · obtain ⟨d, hd, rfl⟩ := zrng (n := 60) (by omega) c1 c2
        obtain ⟨q, g1, g2, g3⟩ := X_sup hn hr
        obtain ⟨σ1, w', r', k1, k2, k3, k4, k5⟩ := H_last (d := d) (by omega) g2 hf
        have hF : Fr 10 σ σ1 := g3.tr k5
        have hm1 : Mp σ1 206 0 w := hm.cong (hF _ (by omega))
        obtain ⟨f, e1, e2⟩ := M_tries hm1 hf (d := d) (by omega)
        obtain ⟨r2, hf2⟩ := zPs_wf d hf
        have hm2 : Mp (zsc σ1 208 f) 208 0 (zPs n d w) := Mp.zs e2
        have eX : fX_ahead (nI d) y σ = if y = 0 then some (σ1 10 7, σ1) else if y = 1 then ((fX_orNone (σ1 10 8) σ1).bind fun q10 => some (q10, σ1)) else some (σ1 10 9, σ1) := by
          unfold fX_ahead
          rw [b, i10, (hB _).1, ob_e, i10, (hD _).1, ob_e, i10, g1, ob_e, k1, ob_e]
        have eM : fM_ahead (nI d) y σ1 = if y = 0 then some (zsc σ1 208 f 208 1, zsc σ1 208 f) else if y = 1 then ((fM_riderIn 208 (zsc σ1 208 f)).bind fun q11 => some (q11, zsc σ1 208 f)) else (fM_broughtIn 208 (zsc σ1 208 f)).bind fun q10 => some (q10, zsc σ1 208 f) := by
          unfold fM_ahead
          rw [c σ1 (hm1.at 0 (by omega)), ob_e, i10, eF1, ob_e, i10, (hD _).2, ob_e, i10, e1, ob_e]
        rw [eX]
        by_cases y0 : y = 0
        · refine ⟨zPs n d w 1, σ1, zsc σ1 208 f, by rw [if_pos y0, k2.1.1.2.2.1, k4 1 (by omega)], by rw [eM, if_pos y0, hm2.at 1 (by omega)], h.fore hF f⟩
        · by_cases y1 : y = 1
          · obtain ⟨z, z1, z2, z3⟩ := M_riderIn hm2 hf2
            refine ⟨zOb (-1000000) z, σ1, zsc σ1 208 f, ?_, by rw [eM, if_neg y0, if_pos y1, z1, ob_e], h.fore hF f⟩
            rw [if_neg y0, if_pos y1, k2.1.1.2.2.2.1, k4 3 (by omega), z2, X_orZ z3, ob_e]
          · refine ⟨nI (zBn (zPs n d w) n), σ1, zsc σ1 208 f, ?_, by rw [eM, if_neg y0, if_neg y1, M_bin hm2 hf2, ob_e], h.fore hF f⟩
            rw [if_neg y0, if_neg y1, k2.1.1.2.2.2.2.1, zBn_cong k4]
      · refine ⟨-1000001, σ, σ, ?_, ?_, h⟩
        · unfold fX_ahead; rw [b, i10, (hB _).1, ob_e, i10, (hD _).1, ob_e, i00]
        · unfold fM_ahead; rw [cc, ob_e, i10, eF1, ob_e, i10, (hD _).2, ob_e, i00]
    · have eF0 : ∀ τ, fM_isFar x τ = some 0 := fun τ => by rw [eF, (hB τ).2, ob_e, isb_0, if_pos rfl]
      refine ⟨-1000001, σ, σ, ?_, ?_, h⟩
      · unfold fX_ahead; rw [b, i10, (hB _).1, ob_e, i00]
      · unfold fM_ahead; rw [cc, ob_e, i10, eF0, ob_e, i00]
theorem zWh_le {n p : Nat} : ∀ (k : Nat) (w : Rw) (i j : Nat), zWh n p k w i = some j → j ≤ i + k := by
  intro k
  induction k with
  | zero =>
    intro w i j h
    rw [zWh] at h
    split at h
    · cases h; omega
    · cases h
  | succ k ih =>
    intro w i j h
    rw [zWh] at h
    split at h
    · cases h; omega
    · have := ih _ _ _ h
      omega
theorem T_when {σ : Sg} (h : Inv σ) (x : Int32) : ∃ v σ1 σ2, fX_when x σ = some (v, σ1) ∧ fM_when x σ1 = some (v, σ2) ∧ Inv σ2 := by
  have hI := h
  obtain ⟨⟨w, n, t, r, hh⟩, -⟩ := hI
  obtain ⟨hf, hr, hm, h9⟩ := id hh
  have hn := hf.1
  have w4 := hf.2.2.2.2.1
  have s5 : σ 4 5 = nI n := by rw [hr.1.1.1]; exact w4
  have m4 : σ 206 4 = nI n := by rw [hm.at 4 (by omega)]; exact w4
  rcases percase hn x with ⟨p, hp, rfl, pA, pB⟩ | ⟨pA, pB⟩
  · obtain ⟨q, g1, g2, g3⟩ := X_sup hn hr
    obtain ⟨σ1, k1, k2⟩ := H_until (m := 99) hp (by omega) g2 hf
    have hF : Fr 10 σ σ1 := g3.tr k2
    have hm1 : Mp σ1 206 0 w := hm.cong (hF _ (by omega))
    obtain ⟨f, e1, e2⟩ := M_tries hm1 hf (d := 0) (by omega)
    obtain ⟨f2, e3⟩ := M_by (p := p) (m := 99) (by omega) (by omega) (Mp.zs (σ := σ1) (k := 208) e2) hf
    refine ⟨zOb (-1000000) (zWh n p 99 w 0), σ1, zsc σ1 208 f2, ?_, ?_, h.fore hF f2⟩
    · unfold fX_when
      rw [pA σ s5, ob_e, i10, g1, ob_e, show (99 : Int32) = nI 99 from rfl, k1, ob_e]
      dsimp only
      rw [X_orZ (fun p hp => by have := zWh_le _ _ _ _ hp; omega), ob_e]
    · unfold fM_when
      rw [pB σ1 (by rw [hm1.at 4 (by omega)]; exact w4), ob_e, i10, show (0 : Int32) = nI 0 from rfl, e1, ob_e, show (99 : Int32) = nI 99 from rfl, e3, ob_id, zsc_t]
      rfl
  · exact ⟨-1000001, σ, σ, by simp only [fX_when, pA σ s5, ob_e, ↓reduceIte], by simp only [fM_when, pB σ m4, ob_e, ↓reduceIte], h⟩
theorem T_never {σ : Sg} (h : Inv σ) : ∃ v σ1 σ2, fX_never σ = some (v, σ1) ∧ fM_never σ1 = some (v, σ2) ∧ Inv σ2 := by
  have hI := h
  obtain ⟨⟨w, n, t, r, hh⟩, -⟩ := hI
  obtain ⟨hf, hr, hm, h9⟩ := id hh
  have hn := hf.1
  have w4 := hf.2.2.2.2.1
  rcases housed hh with ⟨-, b, c⟩ | ⟨-, b, c⟩
  · refine ⟨-1000002, σ, σ, ?_, ?_, h⟩
    · unfold fX_never; rw [b, i00]
    · unfold fM_never; rw [c σ (hm.at 0 (by omega)), ob_e, i00]
  · obtain ⟨q, g1, g2, g3⟩ := X_sup hn hr
    obtain ⟨σ1, w', r', k1, k2, k3, k4, k5⟩ := H_last (d := 99) (by omega) g2 hf
    have hF : Fr 10 σ σ1 := g3.tr k5
    have hm1 : Mp σ1 206 0 w := hm.cong (hF _ (by omega))
    obtain ⟨f, e1, e2⟩ := M_tries hm1 hf (d := 99) (by omega)
    obtain ⟨r2, hf2⟩ := zPs_wf 99 hf
    have hm2 : Mp (zsc σ1 208 f) 208 0 (zPs n 99 w) := Mp.zs e2
    refine ⟨((1 <<< (nI n &&& 31)) - 1) &&& (nI (zBn (zPs n 99 w) n) ^^^ (-1)), σ1, zsc σ1 208 f, ?_, ?_, h.fore hF f⟩
    · unfold fX_never
      rw [b, i10, g1, ob_e, show (99 : Int32) = nI 99 from rfl, k1, ob_e]
      dsimp only
      rw [k2.1.1.2.2.2.2.1, zBn_cong k4, hF 4 (by omega), hr.1.1.1, w4]
    · unfold fM_never
      rw [c σ1 (hm1.at 0 (by omega)), ob_e, i10, show (99 : Int32) = nI 99 from rfl, e1, ob_e, M_bin hm2 hf2, ob_e, zsc_n (by omega), hm1.at 4 (by omega), w4]
/-! first -/
theorem zAnd : ∀ a, a < 64 → ∀ b, b < 64 → nI a &&& (nI b ^^^ (-1)) = nI (a &&& (63 ^^^ b)) := by decide +kernel
theorem zAnd0 : ∀ a, a < 64 → a &&& (63 ^^^ a) = 0 := by decide +kernel
theorem zAnd1 : ∀ b, b < 64 → ∀ p, p < 6 → b.testBit p = true ∨ (b ||| 2 ^ p) &&& (63 ^^^ b) = 2 ^ p := by decide +kernel
theorem zAnd2 : ∀ b, b < 64 → ∀ p, p < 6 → b.testBit p = true → b ||| 2 ^ p = b := by decide +kernel
theorem zPass_bn {w : Rw} {n t q : Nat} (hf : Wf w n t q) : zBn (zPass n w) n = zBn w n ∨ ∃ p, p < n ∧ w 3 = nI (p + 1) ∧ zBn (zPass n w) n = zBn w n ||| 2 ^ p ∧ (zBn w n).testBit p = false := by
  obtain ⟨hn, ht, hq, h0, w4, w0, w3, hb, hk⟩ := hf
  unfold zPass
  by_cases c1 : w 3 = 0
  · left
    rw [if_pos c1]
    cases eg : zGo w n with
    | none =>
      dsimp only
      rw [zBn_upd (fun _ _ => by omega)]
    | some p =>
      dsimp only
      by_cases c2 : w 1 = w (6 + 6 * p)
      · rw [if_pos c2, zBn_upd (fun _ _ => by omega), zBn_upd (fun _ _ => by omega)]
      · rw [if_neg c2, zBn_upd (fun _ _ => by omega), zBn_upd (fun _ _ => by omega)]
  · rw [if_neg c1]
    have q0 : 0 < q := Nat.pos_of_ne_zero (fun z => c1 (by rw [w3, z]; rfl))
    obtain ⟨p, rfl⟩ : ∃ p, q = p + 1 := ⟨q - 1, by omega⟩
    have e4 : ix (w 3) - 1 = p := by rw [w3, zix (by omega)]; omega
    rw [e4]
    by_cases c2 : w 1 = w (7 + 6 * p)
    · rw [if_pos c2, zBn_upd (w := upd (upd w 2 (w 2 + 1)) (10 + 6 * p) 1) (j := 3) (fun _ _ => by omega), zBn_or (by omega), zBn_upd (fun _ _ => by omega)]
      by_cases d : (zBn w n).testBit p = true
      · left
        exact zAnd2 _ (zBn_lt w hn) p (by omega) d
      · right
        exact ⟨p, by omega, w3, rfl, by simpa using d⟩
    · left
      rw [if_neg c2, zBn_upd (fun _ _ => by omega), zBn_upd (fun _ _ => by omega), zBn_upd (fun _ _ => by omega)]
theorem M_has_t {m p : Nat} (hm : m < 64) (hp : p < 8) (σ : Sg) (h : m.testBit p = true) : fM_has (nI m) (nI p) σ = some 1 := by rw [M_has hm hp, if_pos h]
theorem M_has_f {m p : Nat} (hm : m < 64) (hp : p < 8) (σ : Sg) (h : m.testBit p = false) : fM_has (nI m) (nI p) σ = some 0 := by rw [M_has hm hp, if_neg (by rw [h]; decide)]
theorem M_first_0 {σ : Sg} {n : Nat} (hn : n ≤ 6) (hm : σ 206 4 = nI n) (K : Int32 → Int32 → Int32 → Sg → Option (Int32 × Sg)) (x1 x2 x3 : Int32) : ∀ (k i N : Nat), i + k = n → k < N → fM_first_L66 K N x1 x2 x3 (nI 0) (nI i) σ = K x1 x2 (x3 + 1) σ := by
  intro k
  induction k with
  | zero =>
    intro i N hi hN
    obtain ⟨N, rfl⟩ : ∃ M, N = M + 1 := ⟨N - 1, by omega⟩
    show fM_first_b66 K (fM_first_L66 K N) _ _ _ _ _ σ = _
    unfold fM_first_b66
    rw [hm, if_pos (nI_le (by omega) (by omega))]
  | succ k ih =>
    intro i N hi hN
    obtain ⟨N, rfl⟩ : ∃ M, N = M + 1 := ⟨N - 1, by omega⟩
    show fM_first_b66 K (fM_first_L66 K N) _ _ _ _ _ σ = _
    unfold fM_first_b66
    rw [hm, if_neg (nI_ge (by omega) (by omega)), M_has_f (m := 0) (by omega) (by omega) _ (Nat.zero_testBit _), ob_e, i00, nI_1]
    exact ih (i + 1) N (by omega) (by omega)
theorem M_first_1 {σ : Sg} {n p : Nat} (hn : n ≤ 6) (hp : p < n) (hm : σ 206 4 = nI n) (K : Int32 → Int32 → Int32 → Sg → Option (Int32 × Sg)) (x1 x2 x3 : Int32) : ∀ (k i N : Nat), i + k = p → k < N → fM_first_L66 K N x1 x2 x3 (nI (2 ^ p)) (nI i) σ = if x1 = 0 then some (nI p, σ) else some (x3, σ) := by
  have l64 : 2 ^ p < 64 := Nat.lt_of_lt_of_le (Nat.pow_lt_pow_right (by omega) (show p < 6 by omega)) (by omega)
  intro k
  induction k with
  | zero =>
    intro i N hi hN
    obtain ⟨N, rfl⟩ : ∃ M, N = M + 1 := ⟨N - 1, by omega⟩
    obtain rfl : i = p := by omega
    show fM_first_b66 K (fM_first_L66 K N) _ _ _ _ _ σ = _
    unfold fM_first_b66
    rw [hm, if_neg (nI_ge (by omega) (by omega)), M_has_t l64 (by omega) _ Nat.testBit_two_pow_self, ob_e, i10]
  | succ k ih =>
    intro i N hi hN
    obtain ⟨N, rfl⟩ : ∃ M, N = M + 1 := ⟨N - 1, by omega⟩
    show fM_first_b66 K (fM_first_L66 K N) _ _ _ _ _ σ = _
    unfold fM_first_b66
    rw [hm, if_neg (nI_ge (by omega) (by omega)), M_has_f l64 (by omega) _ (Nat.testBit_two_pow_of_ne (by omega)), ob_e, i00, nI_1]
    exact ih (i + 1) N (by omega) (by omega)
/-- who is brought next, and when -/
noncomputable def zFs (n : Nat) (x1 : Int32) : Nat → Rw → Nat → Int32
  | 0, _, _ => -1000000
  | k + 1, w, i => if zBn (zPass n w) n = zBn w n then zFs n x1 k (zPass n w) (i + 1) else if x1 = 0 then w 3 - 1 else nI i
theorem X_first_L {n t : Nat} (x1 : Int32) (w0 : Rw) : ∀ (k i N : Nat) (σ : Sg) (w : Rw) (q : Nat), Rp σ 10 w n → Wf w n t q → σ 4 9 = nI (zBn w0 n) → zBn w n = zBn w0 n → i + k = 100 → k < N → ∃ σ', fX_first_L35 N x1 (nI i) σ = some (zFs n x1 k w i, σ') ∧ Fr 10 σ σ' := by
  intro k
  induction k with
  | zero =>
    intro i N σ w q hr hf h4 hb hi hN
    obtain ⟨N, rfl⟩ : ∃ M, N = M + 1 := ⟨N - 1, by omega⟩
    refine ⟨σ, ?_, Fr.rf 10 σ⟩
    show fX_first_b35 (fX_first_L35 N) _ _ σ = _
    unfold fX_first_b35
    rw [if_pos (show (99 : Int32) < nI i from nI_lt (a := 99) (by omega) (by omega))]
    rfl
  | succ k ih =>
    intro i N σ w q hr hf h4 hb hi hN
    obtain ⟨N, rfl⟩ : ∃ M, N = M + 1 := ⟨N - 1, by omega⟩
    obtain ⟨σ2, e2, hr2, hF2⟩ := H_adv hr hf
    obtain ⟨q2, hf2⟩ := zPass_wf hf
    have hn := hf.1
    have l1 := zBn_lt (zPass n w) hn
    have l2 := zBn_lt w0 hn
    have h42 : σ2 4 9 = nI (zBn w0 n) := by rw [hF2 4 (by omega)]; exact h4
    show ∃ σ', fX_first_b35 (fX_first_L35 N) _ _ σ = _ ∧ _
    unfold fX_first_b35
    rw [if_neg (show ¬ (99 : Int32) < nI i from nI_nlt (a := 99) (by omega) (by omega)), e2, ob_e, zFs]
    by_cases c : zBn (zPass n w) n = zBn w n
    · rw [if_pos (by rw [hr2.1.1.2.2.2.2.1, h42, c, hb]), if_pos c, nI_1]
      obtain ⟨σ3, e3, hF3⟩ := ih (i + 1) N σ2 (zPass n w) q2 hr2 hf2 h42 (by rw [c, hb]) (by omega) (by omega)
      exact ⟨σ3, e3, hF2.tr hF3⟩
    · rw [if_neg (fun z => c (by rw [hr2.1.1.2.2.2.2.1, h42] at z; rw [hb]; exact nI_inj (by omega) (by omega) z)), if_neg c, hr.1.1.2.2.2.1]
      by_cases d : x1 = 0
      · rw [if_pos d, if_pos d]; exact ⟨σ2, rfl, hF2⟩
      · rw [if_neg d, if_neg d]; exact ⟨σ2, rfl, hF2⟩
theorem M_first_L {n t : Nat} (x1 : Int32) (w0 : Rw) : ∀ (k i N : Nat) (σ : Sg) (w : Rw) (q : Nat), Mp σ 208 0 w → Wf w n t q → σ 206 4 = nI n → zBn w n = zBn w0 n → i + k = 100 → k < N → ∃ f, fM_first_L37 N x1 (nI (zBn w0 n)) (nI i) σ = some (zFs n x1 k w i, zsc σ 208 f) := by
  intro k
  induction k with
  | zero =>
    intro i N σ w q hm hf h4 hb hi hN
    obtain ⟨N, rfl⟩ : ∃ M, N = M + 1 := ⟨N - 1, by omega⟩
    refine ⟨σ 208, ?_⟩
    show fM_first_b37 (fM_first_L37 N) _ _ _ σ = _
    unfold fM_first_b37
    rw [if_pos (show (100 : Int32) ≤ nI i from nI_le (a := 100) (by omega) (by omega)), zsc_id]
    rfl
  | succ k ih =>
    intro i N σ w q hm hf h4 hb hi hN
    obtain ⟨N, rfl⟩ : ∃ M, N = M + 1 := ⟨N - 1, by omega⟩
    obtain ⟨g, e1, e2⟩ := M_pass hm hf
    obtain ⟨q2, hf2⟩ := zPass_wf hf
    have hn := hf.1
    have l1 := zBn_lt (zPass n w) hn
    have l2 := zBn_lt w0 hn
    have hm2 : Mp (zsc σ 208 g) 208 0 (zPass n w) := Mp.zs e2
    have h42 : zsc σ 208 g 206 4 = nI n := by rw [zsc_n (by omega)]; exact h4
    show ∃ f, fM_first_b37 (fM_first_L37 N) _ _ _ σ = _
    unfold fM_first_b37
    rw [if_neg (show ¬ (100 : Int32) ≤ nI i from nI_ge (b := 100) (by omega) (by omega)), e1, ob_e, M_bin hm2 hf2, ob_e, zAnd _ l1 _ l2, zFs]
    rcases zPass_bn hf with c | ⟨p, hp, c3, c, cb⟩
    · rw [if_pos c, c, hb, zAnd0 _ l2, show (0 : Int32) = nI 0 from rfl, M_first_0 hn h42 _ _ _ _ n 0 2000 (by omega) (by omega), nI_1]
      obtain ⟨f, e3⟩ := ih (i + 1) N (zsc σ 208 g) (zPass n w) q2 hm2 hf2 h42 (by rw [c, hb]) (by omega) (by omega)
      exact ⟨f, by rw [e3, zsc_t]⟩
    · have ne : ¬ zBn (zPass n w) n = zBn w n := by
        intro z
        have : (zBn (zPass n w) n).testBit p = true := by rw [c, Nat.testBit_or, Nat.testBit_two_pow_self]; simp
        rw [z, cb] at this
        cases this
      rw [if_neg ne, c, hb]
      have e4 := (zAnd1 _ l2 p (by omega)).resolve_left (by rw [← hb, cb]; decide)
      rw [e4, show (0 : Int32) = nI 0 from rfl, M_first_1 hn hp h42 _ _ _ _ p 0 2000 (by omega) (by omega), c3, nI_pred]
      by_cases d : x1 = nI 0
      · rw [if_pos d, if_pos (show x1 = 0 from d)]; exact ⟨g, rfl⟩
      · rw [if_neg d, if_neg (show ¬ x1 = 0 from d)]; exact ⟨g, rfl⟩
theorem T_first {σ : Sg} (h : Inv σ) (x : Int32) : ∃ v σ1 σ2, fX_first x σ = some (v, σ1) ∧ fM_first x σ1 = some (v, σ2) ∧ Inv σ2 := by
  have hI := h
  obtain ⟨⟨w, n, t, r, hh⟩, -⟩ := hI
  obtain ⟨hf, hr, hm, h9⟩ := id hh
  have hn := hf.1
  have w4 := hf.2.2.2.2.1
  rcases housed hh with ⟨-, b, c⟩ | ⟨-, b, c⟩
  · refine ⟨-1000002, σ, σ, ?_, ?_, h⟩
    · unfold fX_first; rw [b, i00]
    · unfold fM_first; rw [c σ (hm.at 0 (by omega)), ob_e, i00]
  · rcases incase x 0 1 with ⟨-, -, hB⟩ | ⟨-, hB⟩
    · obtain ⟨q, g1, g2, g3⟩ := X_sup hn hr
      obtain ⟨σ1, k1, k2⟩ := X_first_L (t := t) x w 99 1 2000 q w r g2 hf (by rw [g3 4 (by omega)]; exact hr.1.1.2.2.2.2.1) rfl (by omega) (by omega)
      have hF : Fr 10 σ σ1 := g3.tr k2
      have hm1 : Mp σ1 206 0 w := hm.cong (hF _ (by omega))
      obtain ⟨f, e1, e2⟩ := M_tries hm1 hf (d := 0) (by omega)
      have hmt : Mp (zsc σ1 208 f) 206 0 w := hm1.cong (zsc_n (by omega))
      obtain ⟨f2, e3⟩ := M_first_L (t := t) x w 99 1 2000 (zsc σ1 208 f) w r (Mp.zs e2) hf (by rw [zsc_n (by omega), hm1.at 4 (by omega)]; exact w4) rfl (by omega) (by omega)
      refine ⟨zFs n x 99 w 1, σ1, zsc σ1 208 f2, ?_, ?_, h.fore hF f2⟩
      · unfold fX_first
        rw [b, i10, (hB _).1, ob_e, i10, g1, ob_e, show (1 : Int32) = nI 1 from rfl, k1]
      · unfold fM_first
        rw [c σ1 (hm1.at 0 (by omega)), ob_e, i10, (hB _).2, ob_e, i10, show (0 : Int32) = nI 0 from rfl, e1, ob_e, M_bin hmt hf, ob_e, show (1 : Int32) = nI 1 from rfl, e3, zsc_t]
    · refine ⟨-1000001, σ, σ, ?_, ?_, h⟩
      · unfold fX_first; rw [b, i10, (hB _).1, ob_e, i00]
      · unfold fM_first; rw [c σ (hm.at 0 (by omega)), ob_e, i10, (hB _).2, ob_e, i00]
