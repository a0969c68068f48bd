/-! the reference's own functions over a house -/
def Mp (σ : Sg) (k a : Nat) (w : Rw) : Prop := ∀ j, j < 41 → σ k (a + j) = w j
theorem Mp.at {σ : Sg} {k : Nat} {w : Rw} (h : Mp σ k 0 w) (j : Nat) (hj : j < 41) : σ k j = w j := by
  have := h j hj
  rwa [Nat.zero_add] at this
theorem M_minds {σ : Sg} {r : Nat} {w : Rw} (h : Mp σ r 0 w) {a b : Nat} (ha : a < 6) (hb : b < 6) : fM_mindsOf r (nI a) (nI b) σ = some (zMnd w a b) := by
  unfold fM_mindsOf fM_mindsOf_B45 fM_mindsOf_B65
  simp only [zb3 hb, zb3 ha, zx3 ha, zx3 hb, zb0 ha, zx0 ha, zb4 ha, zx4 ha, zb2 ha, zx2 ha, zb2 hb, zx2 hb, h.at (8 + 6 * b) (by omega), h.at (8 + 6 * a) (by omega), h.at (5 + 6 * a) (by omega), h.at (9 + 6 * a) (by omega), h.at (7 + 6 * a) (by omega), h.at (7 + 6 * b) (by omega), ↓reduceIte]
  unfold zMnd zMore zRank
  by_cases h1 : w (8 + 6 * b) ≤ w (8 + 6 * a) <;> by_cases h2 : w (8 + 6 * b) ≤ 0 <;> simp only [h1, h2, ↓reduceIte, apply_ite some]
theorem M_rides_t {σ : Sg} {r : Nat} {x : Int32} (h : σ r 3 = x + 1) : fM_rides r x σ = some 1 := by unfold fM_rides; rw [if_pos h]
theorem M_rides_f {σ : Sg} {r : Nat} {x : Int32} (h : ¬ σ r 3 = x + 1) : fM_rides r x σ = some 0 := by unfold fM_rides; rw [if_neg h]
theorem M_envy_L {σ : Sg} {r : Nat} {w : Rw} (h : Mp σ r 0 w) {n p : Nat} (hn : n ≤ 6) (hw : w 4 = nI n) (hp : p < 6) : ∀ (k i N : Nat), i + k = n → k < N → fM_envyOf_L4 N r (nI p) (zEn w p i) (nI i) σ = some (zEn w p n) := by
  have h4 := h.at 4 (by omega)
  have h3 := h.at 3 (by omega)
  intro k
  induction k with
  | zero =>
    intro i N hi hN
    obtain ⟨N, rfl⟩ : ∃ M, N = M + 1 := ⟨N - 1, by omega⟩
    show fM_envyOf_b4 (fM_envyOf_L4 N) r (nI p) (zEn w p i) (nI i) σ = _
    unfold fM_envyOf_b4
    rw [h4, hw, if_pos (nI_le (by omega) (by omega)), show i = n by omega]
  | succ k ih =>
    intro i N hi hN
    obtain ⟨N, rfl⟩ : ∃ M, N = M + 1 := ⟨N - 1, by omega⟩
    have hi6 : i < 6 := by omega
    have step : fM_envyOf_L4 N r (nI p) (zEn w p i + zM1 w p i) (nI i + 1) σ = some (zEn w p n) := by
      rw [nI_1]
      exact ih (i + 1) N (by omega) (by omega)
    show fM_envyOf_b4 (fM_envyOf_L4 N) r (nI p) (zEn w p i) (nI i) σ = _
    unfold fM_envyOf_b4 fM_envyOf_B59 fM_envyOf_B60 fM_envyOf_B78
    rw [h4, hw, if_neg (nI_ge (by omega) (by omega))]
    simp only [zb1 hi6, zb1 hp, zx1 hi6, zx1 hp, h.at (6 + 6 * i) (by omega), h.at (6 + 6 * p) (by omega), ↓reduceIte, M_minds h hi6 hp, Option.bind_some]
    have n1 : ¬ (1 : Int32) = 0 := by decide
    by_cases c1 : nI i = nI p
    · rw [if_pos c1]
      rw [zM1_f (fun q => q.1 ((nI_eq (by omega) (by omega)).mp c1))] at step
      exact step
    · rw [if_neg c1]
      by_cases c2 : w 3 = nI (p + 1)
      · rw [M_rides_t (by rw [h3, c2, nI_1]), Option.bind_some, if_neg n1]
        rw [zM1_f (fun q => q.2.1 c2)] at step
        exact step
      · rw [M_rides_f (by rw [h3, nI_1]; exact c2), Option.bind_some, if_pos rfl]
        by_cases c3 : w 3 = nI (i + 1)
        · rw [M_rides_t (by rw [h3, c3, nI_1]), Option.bind_some, if_neg n1]
          rw [zM1_f (fun q => q.2.2.1 c3)] at step
          exact step
        · rw [M_rides_f (by rw [h3, nI_1]; exact c3), Option.bind_some, if_pos rfl]
          by_cases c4 : w (6 + 6 * i) = w (6 + 6 * p)
          · rw [if_pos c4, if_neg n1]
            rw [zM1_t ⟨fun q => c1 (by rw [q]), c2, c3, c4⟩] at step
            exact step
          · rw [if_neg c4]
            rw [zM1_f (fun q => c4 q.2.2.2)] at step
            exact step
theorem M_envy {σ : Sg} {r : Nat} {w : Rw} (h : Mp σ r 0 w) {n p : Nat} (hn : n ≤ 6) (hw : w 4 = nI n) (hp : p < 6) : fM_envyOf r (nI p) σ = some (zEn w p n) := M_envy_L h hn hw hp n 0 2000 (by omega) (by omega)
def zOb (z : Int32) (x : Option Nat) : Int32 := match x with
  | none => z
  | some p => nI p
theorem zCl_pos (w : Rw) (n : Nat) : ∀ m, (0 : Int32) ≤ (zCl w n m).2 := by
  intro m
  induction m with
  | zero => exact Int32.le_refl 0
  | succ m im =>
    rw [zCl]
    split
    · split
      · exact im
      · rename_i c4
        exact Int32.le_trans im (Int32.le_of_lt (Int32.not_le.mp c4))
    · exact im
theorem M_calls_L {σ : Sg} {r : Nat} {w : Rw} (h : Mp σ r 0 w) {n t q : Nat} (hf : Wf w n t q) : ∀ (k i N : Nat), i + k = n → k < N → fM_calls_L7 N r (zOb (-1000000) (zCl w n i).1) (zCl w n i).2 (nI i) σ = some (zOb (-1000000) (zGo w n)) := by
  have h4 := h.at 4 (by omega)
  have h3 := h.at 3 (by omega)
  obtain ⟨hn, ht, hq, h0, w4, w0, w3, hb, hk⟩ := hf
  intro k
  induction k with
  | zero =>
    intro i N hi hN
    obtain ⟨N, rfl⟩ : ∃ M, N = M + 1 := ⟨N - 1, by omega⟩
    show fM_calls_b7 (fM_calls_L7 N) r _ _ (nI i) σ = _
    unfold fM_calls_b7 zGo
    rw [h4, w4, if_pos (nI_le (by omega) (by omega)), show i = n by omega]
  | succ k ih =>
    intro i N hi hN
    obtain ⟨N, rfl⟩ : ∃ M, N = M + 1 := ⟨N - 1, by omega⟩
    have hi6 : i < 6 := by omega
    have step := ih (i + 1) N (by omega) (by omega)
    show fM_calls_b7 (fM_calls_L7 N) r _ _ (nI i) σ = _
    unfold fM_calls_b7 fM_calls_B34 fM_calls_B43 fM_calls_B56 fM_calls_B69
    rw [h4, w4, if_neg (nI_ge (by omega) (by omega)), nI_1]
    simp only [zb5 hi6, zx5 hi6, h.at (10 + 6 * i) (by omega), ↓reduceIte, M_envy h hn w4 hi6, Option.bind_some]
    rw [h3]
    rw [zCl] at step
    have c3 := zCl_pos w n i
    by_cases c1 : w 3 = 0
    · rw [if_neg (by rw [c1]; decide)]
      by_cases c2 : w (10 + 6 * i) = 1
      · rw [if_pos c2]
        rw [if_neg (by rw [c2]; intro q; exact absurd q.2 (by decide))] at step
        simp only [if_pos c3]
        exact step
      · rw [if_neg c2]
        have c2' : w (10 + 6 * i) = 0 := (hb i (by omega)).resolve_right c2
        rw [if_pos ⟨c1, c2'⟩] at step
        by_cases c3 : zEn w i n ≤ (zCl w n i).2
        · simp only [if_pos c3] at step ⊢
          exact step
        · simp only [if_neg c3] at step ⊢
          exact step
    · rw [if_pos (by rw [w3]; rw [w3] at c1; exact nI_lt (a := 0) (Nat.pos_of_ne_zero (fun z => c1 (by rw [z]; rfl))) (by omega))]
      rw [if_neg (fun q => c1 q.1)] at step
      simp only [if_pos c3]
      exact step
theorem M_calls {σ : Sg} {r : Nat} {w : Rw} (h : Mp σ r 0 w) {n t q : Nat} (hf : Wf w n t q) : fM_calls r σ = some (zOb (-1000000) (zGo w n)) := M_calls_L h hf n 0 2000 (by omega) (by have := hf.1; omega)
theorem M_near (a b : Int32) (σ : Sg) : fM_nearer a b σ = some (zNear a b) := by
  unfold fM_nearer zNear
  simp only [apply_ite some]
/-! what a step leaves -/
theorem zMnd_cong {w v : Rw} (h : ∀ j, 3 ≤ j → j < 41 → w j = v j) {a b : Nat} (ha : a < 6) (hb : b < 6) : zMnd w a b = zMnd v a b := by
  unfold zMnd zMore zRank
  rw [h (8 + 6 * b) (by omega) (by omega), h (8 + 6 * a) (by omega) (by omega), h (5 + 6 * a) (by omega) (by omega), h (9 + 6 * a) (by omega) (by omega), h (7 + 6 * a) (by omega) (by omega), h (7 + 6 * b) (by omega) (by omega)]
theorem zEn_cong {w v : Rw} (h : ∀ j, 3 ≤ j → j < 41 → w j = v j) {p n : Nat} (hp : p < 6) (hn : n ≤ 6) : zEn w p n = zEn v p n := by
  induction n with
  | zero => rfl
  | succ n ih =>
    rw [zEn, zEn, ih (by omega)]
    have e : zMs w p n ↔ zMs v p n := by
      unfold zMs
      rw [h 3 (by omega) (by omega), h (6 + 6 * n) (by omega) (by omega), h (6 + 6 * p) (by omega) (by omega)]
    by_cases c : zMs w p n
    · rw [zM1_t c, zM1_t (e.mp c), zMnd_cong h (by omega) hp]
    · rw [zM1_f c, zM1_f (fun q => c (e.mpr q))]
theorem zCl_cong {w v : Rw} (h : ∀ j, 3 ≤ j → j < 41 → w j = v j) {n : Nat} (hn : n ≤ 6) : ∀ m, m ≤ 6 → zCl w n m = zCl v n m := by
  intro m
  induction m with
  | zero => intro _; rfl
  | succ m ih =>
    intro hm
    rw [zCl, zCl, ih (by omega), h 3 (by omega) (by omega), h (10 + 6 * m) (by omega) (by omega), zEn_cong h (by omega) hn]
theorem zGo_cong {w v : Rw} (h : ∀ j, 3 ≤ j → j < 41 → w j = v j) {n : Nat} (hn : n ≤ 6) : zGo w n = zGo v n := by
  unfold zGo
  rw [zCl_cong h hn n hn]
theorem zCl_lt {w : Rw} {n : Nat} : ∀ m p, (zCl w n m).1 = some p → p < m ∧ w 3 = 0 ∧ w (10 + 6 * p) = 0 := by
  intro m
  induction m with
  | zero => intro p h; cases h
  | succ m ih =>
    intro p h
    rw [zCl] at h
    split at h
    · rename_i c
      split at h
      · obtain ⟨a, b⟩ := ih p h; exact ⟨by omega, b⟩
      · cases h
        exact ⟨by omega, c⟩
    · obtain ⟨a, b⟩ := ih p h; exact ⟨by omega, b⟩
theorem zGo_lt {w : Rw} {n p : Nat} (h : zGo w n = some p) : p < n ∧ w 3 = 0 ∧ w (10 + 6 * p) = 0 := zCl_lt n p h
theorem nI_inj {a b : Nat} (ha : a < 2 ^ 31) (hb : b < 2 ^ 31) (h : nI a = nI b) : a = b := (nI_eq ha hb).mp h
theorem zNone {p : Nat} (h : p < 6) : ¬ nI p = -1000000 := by
  have k : ∀ p, p < 6 → ¬ nI p = -1000000 := by decide +kernel
  exact k p h
theorem zm1 {p : Nat} (h : p < 6) : ¬ nI p = -1 := by
  have k : ∀ p, p < 6 → ¬ nI p = -1 := by decide +kernel
  exact k p h
theorem M_pass {σ : Sg} {r : Nat} {w : Rw} (h : Mp σ r 0 w) {n t q : Nat} (hf : Wf w n t q) : ∃ f, fM_passes r σ = some (zsc σ r f) ∧ ∀ j, j < 41 → f j = zPass n w j := by
  have hf' := hf
  obtain ⟨hn, ht, hq, h0, w4, w0, w3, hb, hk⟩ := hf
  have e1 : wr σ r 2 (σ r 2 + 1) = zsc σ r (upd (σ r) 2 (w 2 + 1)) := by rw [zwr, h.at 2 (by omega)]
  have hg : ∀ j, j < 41 → upd (σ r) 2 (w 2 + 1) j = upd w 2 (w 2 + 1) j := by
    intro j hj
    by_cases c : j = 2
    · rw [c, upd_at, upd_at]
    · rw [upd_no c, upd_no c, h.at j hj]
  unfold fM_passes ltc
  rw [e1]
  generalize upd (σ r) 2 (w 2 + 1) = g at hg
  have h1 : Mp (zsc σ r g) r 0 (upd w 2 (w 2 + 1)) := by
    intro j hj
    rw [zsc_s, Nat.zero_add, hg j hj]
  have hf1 : Wf (upd w 2 (w 2 + 1)) n t q := ⟨hn, ht, hq, h0, w4, w0, w3, fun p hp => by rw [upd_no (by omega)]; exact hb p hp, fun p hp => by rw [upd_no (by omega)]; exact hk p hp⟩
  have eG : zGo (upd w 2 (w 2 + 1)) n = zGo w n := zGo_cong (fun j hj _ => upd_no (by omega)) hn
  simp only [M_calls h1 hf1, eG, M_near, Option.bind_some, zwr, zsc_s, zsc_t, hg 3 (by omega), hg 1 (by omega), upd_no (show 3 ≠ 2 by omega), upd_no (show 1 ≠ 2 by omega)]
  unfold zPass
  have ext : ∀ {a b : Nat → Int32} (i : Nat) (v : Int32), (∀ j, j < 41 → a j = b j) → ∀ j, j < 41 → upd a i v j = upd b i v j := by
    intro a b i v hab j hj
    by_cases c : j = i
    · rw [c, upd_at, upd_at]
    · rw [upd_no c, upd_no c, hab j hj]
  by_cases c1 : w 3 = 0
  · rw [if_pos (by rw [c1]; decide), if_pos c1]
    cases eg : zGo w n with
    | none =>
      refine ⟨g, by rw [zOb, if_pos rfl], ?_⟩
      exact hg
    | some p =>
      obtain ⟨hp, -, -⟩ := zGo_lt eg
      have hp6 : p < 6 := by omega
      simp only [zOb, zb1 hp6, zx1 hp6, hg (6 + 6 * p) (by omega), upd_no (show 6 + 6 * p ≠ 2 by omega), ↓reduceIte, nI_1]
      rw [if_neg (zNone hp6)]
      by_cases c2 : w 1 = w (6 + 6 * p)
      · simp only [if_pos c2]
        exact ⟨_, rfl, ext _ _ hg⟩
      · simp only [if_neg c2]
        exact ⟨_, rfl, ext _ _ hg⟩
  · have q0 : 0 < q := Nat.pos_of_ne_zero (fun z => c1 (by rw [w3, z]; rfl))
    obtain ⟨p, rfl⟩ : ∃ p, q = p + 1 := ⟨q - 1, by omega⟩
    have hp6 : p < 6 := by omega
    rw [if_neg (by rw [w3]; exact nI_nle q0 (by omega)), if_neg c1]
    have e3 : w 3 - 1 = nI p := by rw [w3, nI_pred]
    have e4 : ix (w 3) - 1 = p := by rw [w3, zix (by omega)]; omega
    simp only [e3, e4, zb1 hp6, zx1 hp6, zb2 hp6, zx2 hp6, zb5 hp6, zx5 hp6, hg (7 + 6 * p) (by omega), upd_no (show 7 + 6 * p ≠ 2 by omega), ↓reduceIte]
    by_cases c2 : w 1 = w (7 + 6 * p)
    · simp only [if_pos c2]
      exact ⟨_, rfl, ext _ _ (ext _ _ hg)⟩
    · simp only [if_neg c2, upd_at]
      exact ⟨_, rfl, ext _ _ (ext _ _ hg)⟩
