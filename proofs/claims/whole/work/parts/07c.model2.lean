theorem zPass_wf {w : Rw} {n t q : Nat} (hf : Wf w n t q) : ∃ q', Wf (zPass n w) n t q' := by
  obtain ⟨hn, ht, hq, h0, w4, w0, w3, hb, hk⟩ := hf
  unfold zPass
  by_cases c1 : w 3 = 0
  · rw [if_pos c1]
    cases eg : zGo w n with
    | none =>
      dsimp only
      exact ⟨q, hn, ht, hq, h0, w4, w0, w3, fun p hp => by rw [upd_no (by omega)]; exact hb p hp, fun p hp => by rw [upd_no (by omega)]; exact hk p hp⟩
    | some p =>
      obtain ⟨hp, -, -⟩ := zGo_lt eg
      dsimp only
      by_cases c2 : w 1 = w (6 + 6 * p)
      · rw [if_pos c2]
        exact ⟨p + 1, hn, ht, by omega, h0, w4, w0, upd_at _ _ _, fun p hp => by rw [upd_no (by omega), upd_no (by omega)]; exact hb p hp, fun p hp => by rw [upd_no (by omega), upd_no (by omega)]; exact hk p hp⟩
      · rw [if_neg c2]
        exact ⟨q, hn, ht, hq, h0, w4, w0, w3, fun p hp => by rw [upd_no (by omega), upd_no (by omega)]; exact hb p hp, fun p hp => by rw [upd_no (by omega), upd_no (by omega)]; exact hk p hp⟩
  · rw [if_neg c1]
    have q0 : 0 < q := Nat.pos_of_ne_zero (fun z => c1 (by rw [w3, z]; rfl))
    obtain ⟨p, rfl⟩ : ∃ p, q = p + 1 := ⟨q - 1, by omega⟩
    have e4 : ix (w 3) - 1 = p := by rw [w3, zix (by omega)]; omega
    rw [e4]
    by_cases c2 : w 1 = w (7 + 6 * p)
    · rw [if_pos c2]
      refine ⟨0, hn, ht, by omega, h0, ?_, ?_, upd_at _ _ _, fun i hi => ?_, fun i hi => ?_⟩
      · rw [upd_no (by omega), upd_no (by omega), upd_no (by omega)]; exact w4
      · rw [upd_no (by omega), upd_no (by omega), upd_no (by omega)]; exact w0
      · rw [upd_no (by omega)]
        by_cases c : i = p
        · right; rw [c, upd_at]
        · rw [upd_no (by omega), upd_no (by omega)]; exact hb i hi
      · rw [upd_no (by omega), upd_no (by omega), upd_no (by omega)]; exact hk i hi
    · rw [if_neg c2]
      refine ⟨p + 1, hn, ht, hq, h0, ?_, ?_, ?_, fun i hi => ?_, fun i hi => ?_⟩
      · rw [upd_no (by omega), upd_no (by omega), upd_no (by omega)]; exact w4
      · rw [upd_no (by omega), upd_no (by omega), upd_no (by omega)]; exact w0
      · rw [upd_no (by omega), upd_no (by omega), upd_no (by omega)]; exact w3
      · rw [upd_no (by omega), upd_no (by omega), upd_no (by omega)]; exact hb i hi
      · rw [upd_no (by omega), upd_no (by omega), upd_no (by omega)]; exact hk i hi
theorem zPs_wf {n t : Nat} : ∀ (k : Nat) {w : Rw} {q : Nat}, Wf w n t q → ∃ q', Wf (zPs n k w) n t q' := by
  intro k
  induction k with
  | zero => intro w q h; exact ⟨q, h⟩
  | succ k ih =>
    intro w q h
    obtain ⟨q1, h1⟩ := zPass_wf h
    exact ih h1
theorem zsc_id (σ : Sg) (k : Nat) : zsc σ k (σ k) = σ := by
  funext a
  by_cases h : a = k
  · rw [h, zsc_s]
  · rw [zsc_n h]
theorem M_copies_L {σ : Sg} {r0 n0 a r2 n2 b : Nat} (hr : r0 ≠ r2) (h0 : a + 41 ≤ n0) (h2 : b + 41 ≤ n2) (l0 : n0 < 2 ^ 31) (l2 : n2 < 2 ^ 31) : ∀ (k i N : Nat), i + k = 41 → k < N → fM_copies_L3 N r0 n0 (nI a) r2 n2 (nI b) (nI i) (cpy σ r0 a r2 b i) = some (cpy σ r0 a r2 b 41) := by
  intro k
  induction k with
  | zero =>
    intro i N hi hN
    obtain ⟨N, rfl⟩ : ∃ M, N = M + 1 := ⟨N - 1, by omega⟩
    show fM_copies_b3 (fM_copies_L3 N) r0 n0 _ r2 n2 _ (nI i) _ = _
    unfold fM_copies_b3
    rw [show i = 41 by omega, if_pos (by decide)]
  | succ k ih =>
    intro i N hi hN
    obtain ⟨N, rfl⟩ : ∃ M, N = M + 1 := ⟨N - 1, by omega⟩
    show fM_copies_b3 (fM_copies_L3 N) r0 n0 _ r2 n2 _ (nI i) _ = _
    unfold fM_copies_b3 ltc
    rw [if_neg (show ¬ (41 : Int32) ≤ nI i from nI_ge (b := 41) (by omega) (by omega)), nI_add, nI_add, zin (by omega) l0, zin (by omega) l2, if_pos rfl, if_pos rfl, zix (by omega), zix (by omega), nI_1, cpy_ne hr]
    have e : wr (cpy σ r0 a r2 b i) r2 (b + i) (σ r0 (a + i)) = cpy σ r0 a r2 b (i + 1) := by
      funext x y
      unfold wr cpy
      by_cases c : x = r2
      · simp only [if_pos c]
        by_cases d : y = b + i
        · rw [if_pos d, if_pos (by omega), d, show b + i - b = i by omega]
        · rw [if_neg d]
          by_cases e : b ≤ y ∧ y < b + i
          · rw [if_pos e, if_pos (by omega)]
          · rw [if_neg e, if_neg (by omega)]
      · simp only [if_neg c]
    rw [e]
    exact ih (i + 1) N (by omega) (by omega)
theorem cpy_0 (σ : Sg) (a sp b dp : Nat) : cpy σ a sp b dp 0 = σ := by
  funext x y
  unfold cpy
  by_cases c : x = b
  · rw [if_pos c, if_neg (by omega)]
  · rw [if_neg c]
theorem M_copies {σ : Sg} {r0 n0 a r2 n2 b : Nat} (hr : r0 ≠ r2) (h0 : a + 41 ≤ n0) (h2 : b + 41 ≤ n2) (l0 : n0 < 2 ^ 31) (l2 : n2 < 2 ^ 31) : fM_copies r0 n0 (nI a) r2 n2 (nI b) σ = some (cpy σ r0 a r2 b 41) := by
  have := M_copies_L (σ := σ) hr h0 h2 l0 l2 41 0 2000 (by omega) (by omega)
  rw [cpy_0] at this
  exact this
theorem Mp.cpy {σ : Sg} {r0 a r2 b : Nat} {w : Rw} (h : Mp σ r0 a w) : Mp (cpy σ r0 a r2 b 41) r2 b w := by
  intro j hj
  rw [cpy_eq]
  unfold va_cpy
  rw [if_pos (by omega), show b + j - b = j by omega, h j hj]
theorem M_tries_L {n t d : Nat} (hd : d < 2 ^ 31) : ∀ (k i N : Nat) (σ : Sg) (w : Rw) (q : Nat), Mp σ 208 0 w → Wf w n t q → i + k = d → k < N → ∃ f, fM_tries_L15 N (nI d) (nI i) σ = some (zsc σ 208 f) ∧ ∀ j, j < 41 → f j = zPs n k w j := by
  intro k
  induction k with
  | zero =>
    intro i N σ w q h hf hi hN
    obtain ⟨N, rfl⟩ : ∃ M, N = M + 1 := ⟨N - 1, by omega⟩
    refine ⟨σ 208, ?_, fun j hj => h.at j hj⟩
    show fM_tries_b15 (fM_tries_L15 N) (nI d) (nI i) σ = _
    unfold fM_tries_b15
    rw [if_pos (nI_le (by omega) (by omega)), zsc_id]
  | succ k ih =>
    intro i N σ w q h hf hi hN
    obtain ⟨N, rfl⟩ : ∃ M, N = M + 1 := ⟨N - 1, by omega⟩
    obtain ⟨g, e1, e2⟩ := M_pass h hf
    obtain ⟨q', hf'⟩ := zPass_wf hf
    obtain ⟨f, e3, e4⟩ := ih (i + 1) N (zsc σ 208 g) (zPass n w) q' (fun j hj => by rw [zsc_s, Nat.zero_add, e2 j hj]) hf' (by omega) (by omega)
    refine ⟨f, ?_, e4⟩
    show fM_tries_b15 (fM_tries_L15 N) (nI d) (nI i) σ = _
    unfold fM_tries_b15
    rw [if_neg (nI_ge (by omega) (by omega)), e1, Option.bind_some, nI_1, e3, zsc_t]
theorem M_tries {σ : Sg} {w : Rw} {n t q : Nat} (h : Mp σ 206 0 w) (hf : Wf w n t q) {d : Nat} (hd : d < 1999) : ∃ f, fM_tries (nI d) σ = some (zsc σ 208 f) ∧ ∀ j, j < 41 → f j = zPs n d w j := by
  unfold fM_tries
  rw [show (0 : Int32) = nI 0 from rfl, M_copies (by omega) (by omega) (by omega) (by omega) (by omega), Option.bind_some]
  obtain ⟨f, e1, e2⟩ := M_tries_L (n := n) (t := t) (d := d) (by omega) d 0 2000 _ w q (h.cpy (r2 := 208) (b := 0)) hf (by omega) (by omega)
  refine ⟨f, ?_, e2⟩
  rw [e1, zcpy, zsc_t]
/-- when p is brought, within k steps, counted from i -/
noncomputable def zWh (n p : Nat) : Nat → Rw → Nat → Option Nat
  | 0, w, i => if zBr w p = true then some i else none
  | k + 1, w, i => if zBr w p = true then some i else zWh n p k (zPass n w) (i + 1)
theorem zBr_t {w : Rw} {p : Nat} (h : w (10 + 6 * p) = 1) : zBr w p = true := by unfold zBr; rw [h]; rfl
theorem zBr_f {w : Rw} {p : Nat} (h : ¬ w (10 + 6 * p) = 1) : ¬ zBr w p = true := by unfold zBr; exact fun q => h (eq_of_beq q)
theorem M_by_L {n t p m : Nat} (hp : p < 6) (hm : m < 2000) : ∀ (k i N : Nat) (σ : Sg) (w : Rw) (q : Nat), Mp σ 208 0 w → Wf w n t q → i + k = m → k + 1 < N → ∃ f, fM_broughtBy_L2 N (nI p) (nI m) (nI i) σ = some (zOb (-1000000) (zWh n p k w i), zsc σ 208 f) := by
  intro k
  induction k with
  | zero =>
    intro i N σ w q h hf hi hN
    obtain ⟨N, rfl⟩ : ∃ M, N = M + 2 := ⟨N - 2, by omega⟩
    obtain ⟨g, e1, e2⟩ := M_pass h hf
    show ∃ f, fM_broughtBy_b2 (fM_broughtBy_L2 (N + 1)) (nI p) (nI m) (nI i) σ = _
    unfold fM_broughtBy_b2 zWh
    rw [if_neg (nI_nlt (by omega) (by omega)), zb5 hp, if_pos rfl, zx5 hp, h.at (10 + 6 * p) (by omega)]
    by_cases c : w (10 + 6 * p) = 1
    · rw [if_pos c, if_pos (zBr_t c)]
      exact ⟨σ 208, by rw [zsc_id]; rfl⟩
    · rw [if_neg c, if_neg (zBr_f c), e1, Option.bind_some, nI_1]
      refine ⟨g, ?_⟩
      show fM_broughtBy_b2 (fM_broughtBy_L2 N) (nI p) (nI m) (nI (i + 1)) (zsc σ 208 g) = _
      unfold fM_broughtBy_b2
      rw [if_pos (nI_lt (by omega) (by omega))]
      rfl
  | succ k ih =>
    intro i N σ w q h hf hi hN
    obtain ⟨N, rfl⟩ : ∃ M, N = M + 1 := ⟨N - 1, by omega⟩
    obtain ⟨g, e1, e2⟩ := M_pass h hf
    obtain ⟨q', hf'⟩ := zPass_wf hf
    obtain ⟨f, e3⟩ := ih (i + 1) N (zsc σ 208 g) (zPass n w) q' (fun j hj => by rw [zsc_s, Nat.zero_add, e2 j hj]) hf' (by omega) (by omega)
    show ∃ f, fM_broughtBy_b2 (fM_broughtBy_L2 N) (nI p) (nI m) (nI i) σ = _
    unfold fM_broughtBy_b2 zWh
    rw [if_neg (nI_nlt (by omega) (by omega)), zb5 hp, if_pos rfl, zx5 hp, h.at (10 + 6 * p) (by omega)]
    by_cases c : w (10 + 6 * p) = 1
    · rw [if_pos c, if_pos (zBr_t c)]
      exact ⟨σ 208, by rw [zsc_id]; rfl⟩
    · rw [if_neg c, if_neg (zBr_f c), e1, Option.bind_some, nI_1, e3, zsc_t]
      exact ⟨f, rfl⟩
theorem M_by {n t p m : Nat} (hp : p < 6) (hm : m < 1990) {σ : Sg} {w : Rw} {q : Nat} (h : Mp σ 208 0 w) (hf : Wf w n t q) : ∃ f, fM_broughtBy (nI p) (nI m) σ = some (zOb (-1000000) (zWh n p m w 0), zsc σ 208 f) := M_by_L hp (by omega) m 0 2000 σ w q h hf (by omega) (by omega)
theorem zBs_or (f : Nat → Bool) (n : Nat) : zBs f n ||| 2 ^ n = zBs f n + 2 ^ n := by
  have := Nat.two_pow_add_eq_or_of_lt (zBs_lt f n) 1
  rw [Nat.mul_one] at this
  rw [Nat.or_comm, ← this, Nat.add_comm]
theorem M_bin_L {σ : Sg} {r : Nat} {w : Rw} (h : Mp σ r 0 w) {n t q : Nat} (hf : Wf w n t q) : ∀ (k i N : Nat), i + k = n → k < N → fM_broughtIn_L4 N r (nI (zBs (zBr w) i)) (nI i) σ = some (nI (zBn w n)) := by
  have h4 := h.at 4 (by omega)
  obtain ⟨hn, ht, hq, h0, w4, w0, w3, hb, hk⟩ := hf
  intro k
  induction k with
  | zero =>
    intro i N hi hN
    obtain ⟨N, rfl⟩ : ∃ M, N = M + 1 := ⟨N - 1, by omega⟩
    show fM_broughtIn_b4 (fM_broughtIn_L4 N) r _ (nI i) σ = _
    unfold fM_broughtIn_b4
    rw [h4, w4, if_pos (nI_le (by omega) (by omega)), show i = n by omega]
    rfl
  | succ k ih =>
    intro i N hi hN
    obtain ⟨N, rfl⟩ : ∃ M, N = M + 1 := ⟨N - 1, by omega⟩
    have hi6 : i < 6 := by omega
    show fM_broughtIn_b4 (fM_broughtIn_L4 N) r _ (nI i) σ = _
    unfold fM_broughtIn_b4
    rw [h4, w4, if_neg (nI_ge (by omega) (by omega)), zb5 hi6, if_pos rfl, zx5 hi6, h.at (10 + 6 * i) (by omega), nI_1]
    have step := ih (i + 1) N (by omega) (by omega)
    have lt64 : zBs (zBr w) i < 64 := Nat.lt_of_lt_of_le (zBs_lt _ i) (Nat.pow_le_pow_right (n := 2) (by omega) (show i ≤ 6 by omega))
    rw [zBs] at step
    rcases hb i (by omega) with c | c
    · rw [if_neg (zBr_f (by rw [c]; decide)), Nat.add_zero] at step
      rw [c, zshl0, zor0]
      exact step
    · rw [if_pos (zBr_t c), ← zBs_or] at step
      rw [c, zorb _ lt64 _ hi6]
      exact step
theorem M_bin {σ : Sg} {r : Nat} {w : Rw} (h : Mp σ r 0 w) {n t q : Nat} (hf : Wf w n t q) : fM_broughtIn r σ = some (nI (zBn w n)) := M_bin_L h hf n 0 2000 (by omega) (by have := hf.1; omega)
/-- those of a set show nothing -/
def zHid (m : Nat) : Nat → Rw → Rw
  | 0, w => w
  | p + 1, w => if m.testBit p = true then upd (zHid m p w) (8 + 6 * p) 0 else zHid m p w
theorem zHid_no {m : Nat} {w : Rw} : ∀ (i j : Nat), (∀ p, p < i → j ≠ 8 + 6 * p) → zHid m i w j = w j := by
  intro i
  induction i with
  | zero => intro j _; rfl
  | succ i ih =>
    intro j h
    rw [zHid]
    split
    · rw [upd_no (h i (by omega)), ih j (fun p hp => h p (by omega))]
    · exact ih j (fun p hp => h p (by omega))
theorem zHid_wf {m i : Nat} {w : Rw} {n t q : Nat} (hf : Wf w n t q) : Wf (zHid m i w) n t q := by
  obtain ⟨hn, ht, hq, h0, w4, w0, w3, hb, hk⟩ := hf
  exact ⟨hn, ht, hq, h0, by rw [zHid_no _ _ (fun p _ => by omega)]; exact w4, by rw [zHid_no _ _ (fun p _ => by omega)]; exact w0, by rw [zHid_no _ _ (fun p _ => by omega)]; exact w3, fun p hp => by rw [zHid_no _ _ (fun p _ => by omega)]; exact hb p hp, fun p hp => by rw [zHid_no _ _ (fun p _ => by omega)]; exact hk p hp⟩
theorem M_has {m p : Nat} (hm : m < 64) (hp : p < 8) (σ : Sg) : fM_has (nI m) (nI p) σ = some (if m.testBit p = true then 1 else 0) := by
  unfold fM_has
  rw [zbit m hm p hp]
  by_cases c : m.testBit p = true
  · rw [if_pos c, if_pos rfl]
  · rw [if_neg c, if_neg (by decide)]
theorem M_hides_L {n m : Nat} (hn : n ≤ 6) (hm : m < 64) (w : Rw) : ∀ (k i N : Nat) (σ : Sg), σ 206 4 = nI n → Mp σ 208 0 (zHid m i w) → i + k = n → k < N → ∃ f, fM_hides_L7 N (nI m) (nI i) σ = some (zsc σ 208 f) ∧ ∀ j, j < 41 → f j = zHid m n w j := by
  intro k
  induction k with
  | zero =>
    intro i N σ w4 h hi hN
    obtain ⟨N, rfl⟩ : ∃ M, N = M + 1 := ⟨N - 1, by omega⟩
    refine ⟨σ 208, ?_, fun j hj => by rw [h.at j hj, show i = n by omega]⟩
    show fM_hides_b7 (fM_hides_L7 N) (nI m) (nI i) σ = _
    unfold fM_hides_b7
    rw [w4, if_pos (nI_le (by omega) (by omega)), zsc_id]
  | succ k ih =>
    intro i N σ w4 h hi hN
    obtain ⟨N, rfl⟩ : ∃ M, N = M + 1 := ⟨N - 1, by omega⟩
    have hi6 : i < 6 := by omega
    have go : ∀ v : Int32, (∀ j, j < 41 → upd (σ 208) (8 + 6 * i) v j = zHid m (i + 1) w j) → ∃ f, fM_hides_L7 N (nI m) (nI (i + 1)) (wr σ 208 (8 + 6 * i) v) = some (zsc σ 208 f) ∧ ∀ j, j < 41 → f j = zHid m n w j := by
      intro v hv
      obtain ⟨f, e1, e2⟩ := ih (i + 1) N (wr σ 208 (8 + 6 * i) v) (by rw [wr_ne (by omega)]; exact w4) (fun j hj => by rw [zwr, zsc_s, Nat.zero_add, hv j hj]) (by omega) (by omega)
      exact ⟨f, by rw [e1, zwr, zsc_t], e2⟩
    show ∃ f, fM_hides_b7 (fM_hides_L7 N) (nI m) (nI i) σ = _ ∧ _
    unfold fM_hides_b7 fM_hides_B54 ltc
    rw [w4, if_neg (nI_ge (by omega) (by omega)), M_has hm (by omega), Option.bind_some]
    simp only [zb3 hi6, zx3 hi6, ↓reduceIte, nI_1]
    by_cases c : m.testBit i = true
    · rw [if_pos c, if_neg (by decide)]
      refine go 0 (fun j hj => ?_)
      rw [zHid, if_pos c]
      by_cases d : j = 8 + 6 * i
      · rw [d, upd_at, upd_at]
      · rw [upd_no d, upd_no d, h.at j hj]
    · rw [if_neg c, if_pos rfl]
      refine go _ (fun j hj => ?_)
      rw [zHid, if_neg c]
      by_cases d : j = 8 + 6 * i
      · rw [d, upd_at, h.at _ (by omega)]
      · rw [upd_no d, h.at j hj]
theorem M_hides {σ : Sg} {w : Rw} {n t q m : Nat} (hm : m < 64) (h : Mp σ 206 0 w) (hf : Wf w n t q) : ∃ f, fM_hides (nI m) σ = some (zsc σ 208 f) ∧ ∀ j, j < 41 → f j = zHid m n w j := by
  obtain ⟨g, e1, e2⟩ := M_tries h hf (d := 0) (by omega)
  unfold fM_hides
  rw [show (0 : Int32) = nI 0 from rfl, e1, Option.bind_some]
  obtain ⟨f, e3, e4⟩ := M_hides_L hf.1 hm w n 0 2000 (zsc σ 208 g) (by rw [zsc_n (by omega), h.at 4 (by omega)]; exact hf.2.2.2.2.1) (fun j hj => by rw [zsc_s, Nat.zero_add, e2 j hj]; rfl) (by omega) (by have := hf.1; omega)
  exact ⟨f, by rw [e3, zsc_t], e4⟩
/-- does the car go so -/
noncomputable def zGs (n : Nat) (it : Nat → Int32) : Nat → Nat → Rw → Bool
  | 0, _, _ => true
  | k + 1, i, w => (zPass n w 1 == it i) && zGs n it k (i + 1) (zPass n w)
theorem M_goes_L {n t a c : Nat} (hac : a + c ≤ 320) : ∀ (k i N : Nat) (b : Bool) (σ : Sg) (w : Rw) (q : Nat), Mp σ 208 0 w → Wf w n t q → i + k = c → k < N → ∃ f, fM_goesSo_L5 N (nI a) (nI c) (if b = true then 1 else 0) (nI i) σ = some ((if (b && zGs n (fun j => σ 203 (a + j)) k i w) = true then 1 else 0), zsc σ 208 f) := by
  intro k
  induction k with
  | zero =>
    intro i N b σ w q h hf hi hN
    obtain ⟨N, rfl⟩ : ∃ M, N = M + 1 := ⟨N - 1, by omega⟩
    refine ⟨σ 208, ?_⟩
    show fM_goesSo_b5 (fM_goesSo_L5 N) (nI a) (nI c) _ (nI i) σ = _
    unfold fM_goesSo_b5 zGs
    rw [if_pos (nI_le (by omega) (by omega)), zsc_id]
    cases b <;> rfl
  | succ k ih =>
    intro i N b σ w q h hf hi hN
    obtain ⟨N, rfl⟩ : ∃ M, N = M + 1 := ⟨N - 1, by omega⟩
    obtain ⟨g, e1, e2⟩ := M_pass h hf
    obtain ⟨q', hf'⟩ := zPass_wf hf
    have go : ∀ b' : Bool, b' = (b && (zPass n w 1 == σ 203 (a + i))) → ∃ f, fM_goesSo_L5 N (nI a) (nI c) (if b' = true then 1 else 0) (nI (i + 1)) (zsc σ 208 g) = some ((if (b && zGs n (fun j => σ 203 (a + j)) (k + 1) i w) = true then 1 else 0), zsc σ 208 f) := by
      intro b' hb'
      obtain ⟨f, e3⟩ := ih (i + 1) N b' (zsc σ 208 g) (zPass n w) q' (fun j hj => by rw [zsc_s, Nat.zero_add, e2 j hj]) hf' (by omega) (by omega)
      refine ⟨f, ?_⟩
      rw [e3, zsc_t, zGs, ← Bool.and_assoc, ← hb', zsc_n (by omega)]
    show ∃ f, fM_goesSo_b5 (fM_goesSo_L5 N) (nI a) (nI c) _ (nI i) σ = _
    unfold fM_goesSo_b5 fM_goesSo_B44 fM_goesSo_B45
    rw [if_neg (nI_ge (by omega) (by omega)), e1, Option.bind_some, nI_1]
    simp only [zsc_s, zsc_n (show 203 ≠ 208 by omega), nI_add, zin (show a + i < 320 by omega) (by omega), zix (show a + i < 2 ^ 31 by omega), ↓reduceIte, e2 1 (by omega)]
    cases b with
    | false => exact go false (by simp)
    | true =>
      rw [if_pos rfl, if_neg (by decide)]
      by_cases d : zPass n w 1 = σ 203 (a + i)
      · rw [if_pos d]
        exact go true (by simp [d])
      · rw [if_neg d]
        exact go false (by simp [d])
theorem M_goes {n t a c : Nat} (hac : a + c ≤ 320) {σ : Sg} {w : Rw} {q : Nat} (h : Mp σ 208 0 w) (hf : Wf w n t q) : ∃ f, fM_goesSo (nI a) (nI c) σ = some ((if zGs n (fun j => σ 203 (a + j)) c 0 w = true then 1 else 0), zsc σ 208 f) := by
  have := M_goes_L (n := n) (t := t) hac c 0 2000 true σ w q h hf (by omega) (by omega)
  rw [Bool.true_and] at this
  exact this
