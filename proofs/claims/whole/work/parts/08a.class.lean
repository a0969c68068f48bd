/-! the class's own functions over a house -/
/-- the cell h holds the house w -/
def R0 (σ : Sg) (h : Nat) (w : Rw) (n : Nat) : Prop :=
  (σ h 5 = w 4 ∧ σ h 6 = w 0 ∧ σ h 7 = w 1 ∧ σ h 8 = w 3 - 1 ∧ σ h 9 = nI (zBn w n) ∧ σ h 10 = w 2) ∧
  ∀ p, p < n → σ (h + 1) p = w (5 + 6 * p) ∧ σ (h + 2) p = w (6 + 6 * p) ∧ σ (h + 3) p = w (7 + 6 * p) ∧ σ (h + 4) p = w (8 + 6 * p) ∧ σ (h + 5) p = w (9 + 6 * p)
/-- .. and for whom the car goes is known, or unknown -/
def Rp (σ : Sg) (h : Nat) (w : Rw) (n : Nat) : Prop := R0 σ h w n ∧ (w 3 = 0 → σ h 11 = -2 ∨ σ h 11 = zOb (-1) (zGo w n))
/-- nothing but the six cells from h on has changed -/
def Fr (h : Nat) (σ σ' : Sg) : Prop := ∀ k, k < h ∨ h + 6 ≤ k → σ' k = σ k
theorem Fr.rf (h : Nat) (σ : Sg) : Fr h σ σ := fun _ _ => rfl
theorem Fr.tr {h : Nat} {σ σ1 σ2 : Sg} (a : Fr h σ σ1) (b : Fr h σ1 σ2) : Fr h σ σ2 := fun k hk => (b k hk).trans (a k hk)
theorem Fr.wr {h : Nat} (σ : Sg) {k j : Nat} {v : Int32} (hk : h ≤ k ∧ k < h + 6) : Fr h σ (wr σ k j v) := fun a ha => wr_ne (by omega)
theorem R0.cong {σ σ' : Sg} {h n : Nat} {w : Rw} (hr : R0 σ h w n) (e : ∀ k, h ≤ k → k < h + 6 → σ' k = σ k) : R0 σ' h w n := by
  obtain ⟨h1, h3⟩ := hr
  refine ⟨?_, fun p hp => ?_⟩
  · rw [e h (by omega) (by omega)]; exact h1
  · rw [e (h + 1) (by omega) (by omega), e (h + 2) (by omega) (by omega), e (h + 3) (by omega) (by omega), e (h + 4) (by omega) (by omega), e (h + 5) (by omega) (by omega)]; exact h3 p hp
theorem Rp.cong {σ σ' : Sg} {h n : Nat} {w : Rw} (hr : Rp σ h w n) (e : ∀ k, h ≤ k → k < h + 6 → σ' k = σ k) : Rp σ' h w n := ⟨hr.1.cong e, by rw [e h (by omega) (by omega)]; exact hr.2⟩
theorem H_minds {σ : Sg} {h n t q : Nat} {w : Rw} (hr : R0 σ h w n) (hf : Wf w n t q) {a b : Nat} (ha : a < n) (hb : b < n) : fH_minding h (nI a) (nI b) σ = some (zMnd w a b) := by
  have hn := hf.1
  have ha6 : a < 6 := by omega
  have hb6 : b < 6 := by omega
  obtain ⟨a1, a2, a3, a4, a5⟩ := hr.2 a ha
  obtain ⟨b1, b2, b3, b4, b5⟩ := hr.2 b hb
  obtain ⟨k, hk1, hk5, hk⟩ := hf.2.2.2.2.2.2.2.2 a ha
  unfold fH_minding fH_minding_B32
  simp only [zi6 ha6, zi6 hb6, zxp ha6, zxp hb6, a1, a3, a4, a5, b3, b4, ↓reduceIte]
  unfold zMnd zMore zRank
  have k5 : ¬ w (5 + 6 * a) = 1 → ¬ w (5 + 6 * a) = 2 → ¬ w (5 + 6 * a) = 3 → ¬ w (5 + 6 * a) = 4 → w (5 + 6 * a) = 5 := by
    rw [hk]
    have kk : ∀ k, k < 6 → (k = 0 ∨ nI k = 1 ∨ nI k = 2 ∨ nI k = 3 ∨ nI k = 4 ∨ nI k = 5) := by decide +kernel
    intro a1 a2 a3 a4
    rcases kk k (by omega) with z | z | z | z | z | z
    · omega
    · exact absurd z a1
    · exact absurd z a2
    · exact absurd z a3
    · exact absurd z a4
    · exact z
  by_cases k1 : w (5 + 6 * a) = 1
  · simp only [k1, ↓reduceIte, apply_ite some]
  · by_cases k2 : w (5 + 6 * a) = 2
    · simp only [if_neg k1, if_pos k2]
      by_cases c : w (8 + 6 * b) ≤ w (8 + 6 * a) <;> simp only [c, ↓reduceIte]
    · by_cases k3 : w (5 + 6 * a) = 3
      · simp only [if_neg k1, if_neg k2, if_pos k3]
        by_cases c : w (8 + 6 * b) ≤ w (8 + 6 * a) <;> simp only [c, ↓reduceIte, apply_ite some]
      · by_cases k4 : w (5 + 6 * a) = 4
        · simp only [if_neg k1, if_neg k2, if_neg k3, if_pos k4]
          by_cases c : w (8 + 6 * b) ≤ w (8 + 6 * a) <;> simp only [c, ↓reduceIte, apply_ite some]
        · simp only [if_neg k1, if_neg k2, if_neg k3, if_neg k4, if_pos (k5 k1 k2 k3 k4)]
          by_cases c : w (8 + 6 * b) ≤ w (8 + 6 * a) <;> simp only [c, ↓reduceIte, apply_ite some]
theorem zr8 {q : Nat} {i : Nat} (hq : q ≤ 6) (hi : i < 6) : nI i = nI q - 1 ↔ nI q = nI (i + 1) := by
  have k : ∀ q, q < 7 → ∀ i, i < 6 → (nI i = nI q - 1 ↔ nI q = nI (i + 1)) := by decide +kernel
  exact k q (by omega) i hi
theorem zEn_0 {w : Rw} {p : Nat} (h : w 3 = nI (p + 1)) : ∀ m, zEn w p m = 0 := by
  intro m
  induction m with
  | zero => rfl
  | succ m ih =>
    rw [zEn, ih, zM1_f (fun q => q.2.1 h)]
    rfl
theorem H_envy_L {σ : Sg} {h n t q : Nat} {w : Rw} (hr : R0 σ h w n) (hf : Wf w n t q) {p : Nat} (hp : p < n) (hpq : ¬ w 3 = nI (p + 1)) : ∀ (k i N : Nat), i + k = n → k < N → fH_envy_L14 N h (nI p) (zEn w p i) (nI i) σ = some (zEn w p n) := by
  have hr' := hr
  have hf' := hf
  obtain ⟨⟨s5, s6, s7, s8, s9, s10⟩, hP⟩ := hr
  obtain ⟨hn, ht, hq, h0, w4, w0, w3, hb, hk⟩ := hf
  have hp6 : p < 6 := by omega
  intro k
  induction k with
  | zero =>
    intro i N hi hN
    obtain ⟨N, rfl⟩ : ∃ M, N = M + 1 := ⟨N - 1, by omega⟩
    show fH_envy_b14 (fH_envy_L14 N) h _ _ (nI i) σ = _
    unfold fH_envy_b14
    rw [s5, w4, if_pos (nI_le (by omega) (by omega)), show i = n by omega]
  | succ k ih =>
    intro i N hi hN
    obtain ⟨N, rfl⟩ : ∃ M, N = M + 1 := ⟨N - 1, by omega⟩
    have hi6 : i < 6 := by omega
    have step : fH_envy_L14 N h (nI p) (zEn w p i + zM1 w p i) (nI i + 1) σ = some (zEn w p n) := by
      rw [nI_1]
      exact ih (i + 1) N (by omega) (by omega)
    have keep : ¬ zMs w p i → fH_envy_L14 N h (nI p) (zEn w p i) (nI i + 1) σ = some (zEn w p n) := by
      intro c
      rw [zM1_f c, Int32.add_zero] at step
      exact step
    show fH_envy_b14 (fH_envy_L14 N) h _ _ (nI i) σ = _
    unfold fH_envy_b14 fH_envy_B59
    rw [s5, w4, if_neg (nI_ge (by omega) (by omega)), s8]
    simp only [zi6 hi6, zi6 hp6, zxp hi6, zxp hp6, (hP i (by omega)).2.1, (hP p hp).2.1, ↓reduceIte, H_minds hr' hf' (show i < n by omega) hp, Option.bind_some]
    by_cases c1 : nI i = nI p
    · rw [if_pos c1]
      exact keep (fun z => z.1 (nI_inj (by omega) (by omega) c1))
    · rw [if_neg c1]
      by_cases c2 : w 3 = nI (i + 1)
      · rw [if_pos (by rw [w3]; rw [w3] at c2; exact (zr8 (by omega) hi6).mpr c2)]
        exact keep (fun z => z.2.2.1 c2)
      · rw [if_neg (by rw [w3]; rw [w3] at c2; exact fun z => c2 ((zr8 (by omega) hi6).mp z))]
        by_cases c4 : w (6 + 6 * i) = w (6 + 6 * p)
        · rw [if_pos c4]
          rw [zM1_t ⟨fun z => c1 (by rw [z]), hpq, c2, c4⟩] at step
          exact step
        · rw [if_neg c4]
          exact keep (fun z => c4 z.2.2.2)
theorem H_envy {σ : Sg} {h n t q : Nat} {w : Rw} (hr : R0 σ h w n) (hf : Wf w n t q) {p : Nat} (hp : p < n) : fH_envy h (nI p) σ = some (zEn w p n) := by
  have hn := hf.1
  have w3 := hf.2.2.2.2.2.2.1
  have hq := hf.2.2.1
  unfold fH_envy
  rw [hr.1.2.2.2.1]
  by_cases c : w 3 = nI (p + 1)
  · rw [if_pos (by rw [w3]; rw [w3] at c; exact (zr8 (by omega) (by omega)).mpr c), zEn_0 c]
  · rw [if_neg (by rw [w3]; rw [w3] at c; exact fun z => c ((zr8 (by omega) (by omega)).mp z))]
    exact H_envy_L hr hf hp c n 0 2000 (by omega) (by omega)
theorem zBn_bit {w : Rw} {n p : Nat} (hn : n ≤ 6) (hp : p < n) : (nI (zBn w n) >>> (nI p &&& 31)) &&& 1 = if zBr w p = true then 1 else 0 := by
  rw [zbit _ (zBn_lt w hn) p (by omega)]
  unfold zBn
  rw [zBs_bit]
  simp [hp]
theorem H_isb {σ : Sg} {h n t q : Nat} {w : Rw} (hr : R0 σ h w n) (hf : Wf w n t q) {p : Nat} (hp : p < n) : fH_isBrought h (nI p) σ = some (if zBr w p = true then 1 else 0) := by
  unfold fH_isBrought
  rw [hr.1.2.2.2.2.1, zBn_bit hf.1 hp]
  by_cases c : zBr w p = true
  · rw [if_pos c, if_neg (by decide)]
  · rw [if_neg c, if_pos rfl]
theorem R0.goal {σ : Sg} {h n : Nat} {w : Rw} (hr : R0 σ h w n) (v : Int32) : R0 (wr σ h 11 v) h w n := by
  obtain ⟨⟨s5, s6, s7, s8, s9, s10⟩, hP⟩ := hr
  refine ⟨?_, fun p hp => ?_⟩
  · rw [wr_no (by omega), wr_no (by omega), wr_no (by omega), wr_no (by omega), wr_no (by omega), wr_no (by omega)]
    exact ⟨s5, s6, s7, s8, s9, s10⟩
  · rw [wr_ne (by omega), wr_ne (by omega), wr_ne (by omega), wr_ne (by omega), wr_ne (by omega)]
    exact hP p hp
theorem Rp.goal {σ : Sg} {h n : Nat} {w : Rw} (hr : R0 σ h w n) (v : Int32) (hv : w 3 = 0 → v = -2 ∨ v = zOb (-1) (zGo w n)) : Rp (wr σ h 11 v) h w n := ⟨hr.goal v, fun z => by rw [wr_at]; exact hv z⟩
theorem wr_wr (σ : Sg) (k j : Nat) (v x : Int32) : wr (wr σ k j v) k j x = wr σ k j x := by
  funext a b
  unfold wr
  by_cases ca : a = k
  · by_cases cb : b = j
    · simp only [if_pos ca, if_pos cb]
    · simp only [if_pos ca, if_neg cb]
  · simp only [if_neg ca]
theorem wr_id {σ : Sg} {k j : Nat} {v : Int32} (h : σ k j = v) : wr σ k j v = σ := by
  funext a b
  unfold wr
  by_cases ca : a = k
  · by_cases cb : b = j
    · rw [if_pos ca, if_pos cb, ca, cb, h]
    · rw [if_pos ca, if_neg cb]
  · rw [if_neg ca]
theorem H_goal_L {h n t q : Nat} {w : Rw} (hf : Wf w n t q) (hq0 : w 3 = 0) : ∀ (k i N : Nat) (σ : Sg), R0 σ h w n → σ h 11 = zOb (-1) (zCl w n i).1 → i + k = n → k < N → fH_goal_L23 N h (zCl w n i).2 (nI i) σ = some (zOb (-1) (zGo w n), wr σ h 11 (zOb (-1) (zGo w n))) := by
  have hf' := hf
  obtain ⟨hn, ht, hq, h0, w4, w0, w3, hb, hk⟩ := hf
  intro k
  induction k with
  | zero =>
    intro i N σ hr he hi hN
    obtain ⟨N, rfl⟩ : ∃ M, N = M + 1 := ⟨N - 1, by omega⟩
    show fH_goal_b23 (fH_goal_L23 N) h _ (nI i) σ = _
    unfold fH_goal_b23
    rw [hr.1.1, w4, if_pos (nI_le (by omega) (by omega))]
    obtain rfl : i = n := by omega
    unfold zGo
    rw [he, wr_id he]
  | succ k ih =>
    intro i N σ hr he hi hN
    obtain ⟨N, rfl⟩ : ∃ M, N = M + 1 := ⟨N - 1, by omega⟩
    have hi6 : i < 6 := by omega
    have c3 := zCl_pos w n i
    show fH_goal_b23 (fH_goal_L23 N) h _ (nI i) σ = _
    unfold fH_goal_b23 fH_goal_B48 fH_goal_B61 ltc
    rw [hr.1.1, w4, if_neg (nI_ge (by omega) (by omega)), H_isb hr hf' (by omega), Option.bind_some, nI_1, H_envy hr hf' (by omega), Option.bind_some]
    by_cases c2 : w (10 + 6 * i) = 1
    · rw [if_pos (zBr_t c2), if_neg (by decide), if_pos c3]
      have ez : zCl w n (i + 1) = zCl w n i := by rw [zCl, if_neg (by rw [c2]; intro z; exact absurd z.2 (by decide))]
      have step := ih (i + 1) N σ hr (by rw [ez]; exact he) (by omega) (by omega)
      rw [ez] at step
      exact step
    · have c2' : w (10 + 6 * i) = 0 := (hb i (by omega)).resolve_right c2
      rw [if_neg (zBr_f c2), if_pos rfl]
      by_cases c4 : zEn w i n ≤ (zCl w n i).2
      · rw [if_pos c4]
        have ez : zCl w n (i + 1) = zCl w n i := by rw [zCl, if_pos ⟨hq0, c2'⟩, if_pos c4]
        have step := ih (i + 1) N σ hr (by rw [ez]; exact he) (by omega) (by omega)
        rw [ez] at step
        exact step
      · rw [if_neg c4]
        have ez : zCl w n (i + 1) = (some i, zEn w i n) := by rw [zCl, if_pos ⟨hq0, c2'⟩, if_neg c4]
        have step := ih (i + 1) N (wr σ h 11 (nI i)) (hr.goal _) (by rw [ez, wr_at]; rfl) (by omega) (by omega)
        rw [ez, wr_wr] at step
        exact step
theorem zOb_m2 {x : Option Nat} (h : ∀ p, x = some p → p < 6) : ¬ zOb (-1) x = -2 := by
  cases x with
  | none => exact (by decide : ¬ (-1 : Int32) = -2)
  | some p =>
    have k : ∀ p, p < 6 → ¬ nI p = -2 := by decide +kernel
    exact k p (h p rfl)
theorem H_goal {σ : Sg} {h n t q : Nat} {w : Rw} (hr : Rp σ h w n) (hf : Wf w n t q) (hq0 : w 3 = 0) : ∃ σ', fH_goal h σ = some (zOb (-1) (zGo w n), σ') ∧ Rp σ' h w n ∧ ∀ k, k ≠ h → σ' k = σ k := by
  unfold fH_goal ltc
  by_cases c : σ h 11 = -2
  · rw [if_pos c]
    refine ⟨_, H_goal_L hf hq0 n 0 2000 (wr σ h 11 (-1)) (hr.1.goal _) (wr_at _ _ _ _) (by omega) (by have := hf.1; omega), ?_, fun k hk => ?_⟩
    · exact Rp.goal (hr.1.goal _) _ (fun _ => Or.inr rfl)
    · rw [wr_ne hk, wr_ne hk]
  · rw [if_neg c]
    have e := (hr.2 hq0).resolve_left c
    exact ⟨σ, by rw [e], hr, fun _ _ => rfl⟩
